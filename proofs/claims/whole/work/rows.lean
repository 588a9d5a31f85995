section
-- ===== PART A: goes FIRST, ahead of the names: the tables' words, and 'selects' of the private methods out of them =====
/-- a private method of a class that the tables say can be made, by its rows of tables_1 -/
def lw_okq (q : MethodName × Nat) : Prop := (q.1.cls ≠ "java/lang/invoke/MethodHandle" ∧ q.1.cls ≠ "java/lang/invoke/VarHandle") ∧ Cond.instantiable q.1.cls q.2 ∈ tables_1 ∧ Cond.privateMethod q.1 ∈ tables_1 ∧ Cond.instanceMethod q.1 ∈ tables_1
theorem lw_p0 : lw_okq (⟨"java/lang/Throwable", "fillInStackTrace", "(I)Ljava/lang/Throwable;"⟩, 6) := ⟨⟨by decide +kernel, by decide +kernel⟩, List.mem_of_getElem? (i := 325) (by decide +kernel), List.mem_of_getElem? (i := 323) (by decide +kernel), List.mem_of_getElem? (i := 324) (by decide +kernel)⟩
theorem lw_p1 : lw_okq (⟨"CheckCodes$NibbleCode", "wordFlipsFor", "(III)J"⟩, 3) := ⟨⟨by decide +kernel, by decide +kernel⟩, List.mem_of_getElem? (i := 138) (by decide +kernel), List.mem_of_getElem? (i := 426) (by decide +kernel), List.mem_of_getElem? (i := 427) (by decide +kernel)⟩
theorem lw_p2 : lw_okq (⟨"CheckCodes", "isStoredBit", "(I)Z"⟩, 17) := ⟨⟨by decide +kernel, by decide +kernel⟩, List.mem_of_getElem? (i := 20) (by decide +kernel), List.mem_of_getElem? (i := 456) (by decide +kernel), List.mem_of_getElem? (i := 457) (by decide +kernel)⟩
theorem lw_p3 : lw_okq (⟨"CheckCodes", "answerToPair", "(II)I"⟩, 17) := ⟨⟨by decide +kernel, by decide +kernel⟩, List.mem_of_getElem? (i := 20) (by decide +kernel), List.mem_of_getElem? (i := 461) (by decide +kernel), List.mem_of_getElem? (i := 462) (by decide +kernel)⟩
theorem lw_p4 : lw_okq (⟨"CheckCodes", "wordPart", "(I)J"⟩, 17) := ⟨⟨by decide +kernel, by decide +kernel⟩, List.mem_of_getElem? (i := 20) (by decide +kernel), List.mem_of_getElem? (i := 465) (by decide +kernel), List.mem_of_getElem? (i := 466) (by decide +kernel)⟩
theorem lw_p5 : lw_okq (⟨"CheckCodes", "checkPart", "(I)I"⟩, 17) := ⟨⟨by decide +kernel, by decide +kernel⟩, List.mem_of_getElem? (i := 20) (by decide +kernel), List.mem_of_getElem? (i := 469) (by decide +kernel), List.mem_of_getElem? (i := 470) (by decide +kernel)⟩
theorem lw_p6 : lw_okq (⟨"CheckCodes", "answerTo", "(JI)I"⟩, 17) := ⟨⟨by decide +kernel, by decide +kernel⟩, List.mem_of_getElem? (i := 20) (by decide +kernel), List.mem_of_getElem? (i := 473) (by decide +kernel), List.mem_of_getElem? (i := 474) (by decide +kernel)⟩
theorem lw_p7 : lw_okq (⟨"CheckCodes", "countAnswers", "()V"⟩, 17) := ⟨⟨by decide +kernel, by decide +kernel⟩, List.mem_of_getElem? (i := 20) (by decide +kernel), List.mem_of_getElem? (i := 485) (by decide +kernel), List.mem_of_getElem? (i := 486) (by decide +kernel)⟩
theorem lw_p8 : lw_okq (⟨"CheckCodes", "findLongestMendedBurst", "()I"⟩, 17) := ⟨⟨by decide +kernel, by decide +kernel⟩, List.mem_of_getElem? (i := 20) (by decide +kernel), List.mem_of_getElem? (i := 497) (by decide +kernel), List.mem_of_getElem? (i := 498) (by decide +kernel)⟩
theorem lw_p9 : lw_okq (⟨"CheckCodes", "allMended", "(I)Z"⟩, 17) := ⟨⟨by decide +kernel, by decide +kernel⟩, List.mem_of_getElem? (i := 20) (by decide +kernel), List.mem_of_getElem? (i := 501) (by decide +kernel), List.mem_of_getElem? (i := 502) (by decide +kernel)⟩
theorem lw_p10 : lw_okq (⟨"CheckCodes", "answerToPattern", "(II)I"⟩, 17) := ⟨⟨by decide +kernel, by decide +kernel⟩, List.mem_of_getElem? (i := 20) (by decide +kernel), List.mem_of_getElem? (i := 505) (by decide +kernel), List.mem_of_getElem? (i := 506) (by decide +kernel)⟩
theorem lw_p11 : lw_okq (⟨"CheckCodes", "findSpare", "(I)I"⟩, 17) := ⟨⟨by decide +kernel, by decide +kernel⟩, List.mem_of_getElem? (i := 20) (by decide +kernel), List.mem_of_getElem? (i := 521) (by decide +kernel), List.mem_of_getElem? (i := 522) (by decide +kernel)⟩
theorem lw_p12 : lw_okq (⟨"CheckCodesModel", "choose", "(I)V"⟩, 21) := ⟨⟨by decide +kernel, by decide +kernel⟩, List.mem_of_getElem? (i := 544) (by decide +kernel), List.mem_of_getElem? (i := 551) (by decide +kernel), List.mem_of_getElem? (i := 552) (by decide +kernel)⟩
theorem lw_p13 : lw_okq (⟨"CheckCodesModel", "most", "(I)I"⟩, 21) := ⟨⟨by decide +kernel, by decide +kernel⟩, List.mem_of_getElem? (i := 544) (by decide +kernel), List.mem_of_getElem? (i := 558) (by decide +kernel), List.mem_of_getElem? (i := 559) (by decide +kernel)⟩
theorem lw_p14 : lw_okq (⟨"CheckCodesModel", "fails", "(ZZ)Z"⟩, 21) := ⟨⟨by decide +kernel, by decide +kernel⟩, List.mem_of_getElem? (i := 544) (by decide +kernel), List.mem_of_getElem? (i := 642) (by decide +kernel), List.mem_of_getElem? (i := 643) (by decide +kernel)⟩
theorem lw_p15 : lw_okq (⟨"CheckCodesModel", "folded", "()I"⟩, 21) := ⟨⟨by decide +kernel, by decide +kernel⟩, List.mem_of_getElem? (i := 544) (by decide +kernel), List.mem_of_getElem? (i := 659) (by decide +kernel), List.mem_of_getElem? (i := 660) (by decide +kernel)⟩
def lw_privs_1 : List (MethodName × Nat) := [(⟨"java/lang/Throwable", "fillInStackTrace", "(I)Ljava/lang/Throwable;"⟩, 6), (⟨"CheckCodes$NibbleCode", "wordFlipsFor", "(III)J"⟩, 3), (⟨"CheckCodes", "isStoredBit", "(I)Z"⟩, 17), (⟨"CheckCodes", "answerToPair", "(II)I"⟩, 17), (⟨"CheckCodes", "wordPart", "(I)J"⟩, 17), (⟨"CheckCodes", "checkPart", "(I)I"⟩, 17), (⟨"CheckCodes", "answerTo", "(JI)I"⟩, 17), (⟨"CheckCodes", "countAnswers", "()V"⟩, 17), (⟨"CheckCodes", "findLongestMendedBurst", "()I"⟩, 17), (⟨"CheckCodes", "allMended", "(I)Z"⟩, 17), (⟨"CheckCodes", "answerToPattern", "(II)I"⟩, 17), (⟨"CheckCodes", "findSpare", "(I)I"⟩, 17), (⟨"CheckCodesModel", "choose", "(I)V"⟩, 21), (⟨"CheckCodesModel", "most", "(I)I"⟩, 21), (⟨"CheckCodesModel", "fails", "(ZZ)Z"⟩, 21), (⟨"CheckCodesModel", "folded", "()I"⟩, 21)]
theorem lw_r1 : ∀ q ∈ lw_privs_1, lw_okq q := List.forall_mem_cons.mpr ⟨lw_p0, List.forall_mem_cons.mpr ⟨lw_p1, List.forall_mem_cons.mpr ⟨lw_p2, List.forall_mem_cons.mpr ⟨lw_p3, List.forall_mem_cons.mpr ⟨lw_p4, List.forall_mem_cons.mpr ⟨lw_p5, List.forall_mem_cons.mpr ⟨lw_p6, List.forall_mem_cons.mpr ⟨lw_p7, List.forall_mem_cons.mpr ⟨lw_p8, List.forall_mem_cons.mpr ⟨lw_p9, List.forall_mem_cons.mpr ⟨lw_p10, List.forall_mem_cons.mpr ⟨lw_p11, List.forall_mem_cons.mpr ⟨lw_p12, List.forall_mem_cons.mpr ⟨lw_p13, List.forall_mem_cons.mpr ⟨lw_p14, List.forall_mem_cons.mpr ⟨lw_p15, fun _ h => absurd h List.not_mem_nil⟩⟩⟩⟩⟩⟩⟩⟩⟩⟩⟩⟩⟩⟩⟩⟩
theorem lw_p16 : lw_okq (⟨"CheckCodesModel", "plainCheck", "(J)I"⟩, 21) := ⟨⟨by decide +kernel, by decide +kernel⟩, List.mem_of_getElem? (i := 544) (by decide +kernel), List.mem_of_getElem? (i := 663) (by decide +kernel), List.mem_of_getElem? (i := 664) (by decide +kernel)⟩
theorem lw_p17 : lw_okq (⟨"CheckCodesModel", "all", "()J"⟩, 21) := ⟨⟨by decide +kernel, by decide +kernel⟩, List.mem_of_getElem? (i := 544) (by decide +kernel), List.mem_of_getElem? (i := 667) (by decide +kernel), List.mem_of_getElem? (i := 668) (by decide +kernel)⟩
theorem lw_p18 : lw_okq (⟨"CheckCodesModel", "nibbleSums", "(J)I"⟩, 21) := ⟨⟨by decide +kernel, by decide +kernel⟩, List.mem_of_getElem? (i := 544) (by decide +kernel), List.mem_of_getElem? (i := 671) (by decide +kernel), List.mem_of_getElem? (i := 672) (by decide +kernel)⟩
theorem lw_p19 : lw_okq (⟨"CheckCodesModel", "nibbles", "()I"⟩, 21) := ⟨⟨by decide +kernel, by decide +kernel⟩, List.mem_of_getElem? (i := 544) (by decide +kernel), List.mem_of_getElem? (i := 675) (by decide +kernel), List.mem_of_getElem? (i := 676) (by decide +kernel)⟩
theorem lw_p20 : lw_okq (⟨"CheckCodesModel", "reading", "(JI)I"⟩, 21) := ⟨⟨by decide +kernel, by decide +kernel⟩, List.mem_of_getElem? (i := 544) (by decide +kernel), List.mem_of_getElem? (i := 693) (by decide +kernel), List.mem_of_getElem? (i := 694) (by decide +kernel)⟩
theorem lw_p21 : lw_okq (⟨"CheckCodesModel", "mendNibbles", "(I)I"⟩, 21) := ⟨⟨by decide +kernel, by decide +kernel⟩, List.mem_of_getElem? (i := 544) (by decide +kernel), List.mem_of_getElem? (i := 697) (by decide +kernel), List.mem_of_getElem? (i := 698) (by decide +kernel)⟩
theorem lw_p22 : lw_okq (⟨"CheckCodesModel", "mendSums", "(IJI)I"⟩, 21) := ⟨⟨by decide +kernel, by decide +kernel⟩, List.mem_of_getElem? (i := 544) (by decide +kernel), List.mem_of_getElem? (i := 702) (by decide +kernel), List.mem_of_getElem? (i := 703) (by decide +kernel)⟩
theorem lw_p23 : lw_okq (⟨"CheckCodesModel", "mend", "(II)I"⟩, 21) := ⟨⟨by decide +kernel, by decide +kernel⟩, List.mem_of_getElem? (i := 544) (by decide +kernel), List.mem_of_getElem? (i := 706) (by decide +kernel), List.mem_of_getElem? (i := 707) (by decide +kernel)⟩
theorem lw_p24 : lw_okq (⟨"CheckCodesModel", "answerOf", "(II)I"⟩, 21) := ⟨⟨by decide +kernel, by decide +kernel⟩, List.mem_of_getElem? (i := 544) (by decide +kernel), List.mem_of_getElem? (i := 726) (by decide +kernel), List.mem_of_getElem? (i := 727) (by decide +kernel)⟩
theorem lw_p25 : lw_okq (⟨"CheckCodesModel", "answerTo", "(JI)I"⟩, 21) := ⟨⟨by decide +kernel, by decide +kernel⟩, List.mem_of_getElem? (i := 544) (by decide +kernel), List.mem_of_getElem? (i := 730) (by decide +kernel), List.mem_of_getElem? (i := 731) (by decide +kernel)⟩
theorem lw_p26 : lw_okq (⟨"CheckCodesModel", "many", "(ZI)I"⟩, 21) := ⟨⟨by decide +kernel, by decide +kernel⟩, List.mem_of_getElem? (i := 544) (by decide +kernel), List.mem_of_getElem? (i := 738) (by decide +kernel), List.mem_of_getElem? (i := 739) (by decide +kernel)⟩
theorem lw_p27 : lw_okq (⟨"CheckCodesModel", "answer", "(II)I"⟩, 21) := ⟨⟨by decide +kernel, by decide +kernel⟩, List.mem_of_getElem? (i := 544) (by decide +kernel), List.mem_of_getElem? (i := 746) (by decide +kernel), List.mem_of_getElem? (i := 747) (by decide +kernel)⟩
def lw_privs_2 : List (MethodName × Nat) := [(⟨"CheckCodesModel", "plainCheck", "(J)I"⟩, 21), (⟨"CheckCodesModel", "all", "()J"⟩, 21), (⟨"CheckCodesModel", "nibbleSums", "(J)I"⟩, 21), (⟨"CheckCodesModel", "nibbles", "()I"⟩, 21), (⟨"CheckCodesModel", "reading", "(JI)I"⟩, 21), (⟨"CheckCodesModel", "mendNibbles", "(I)I"⟩, 21), (⟨"CheckCodesModel", "mendSums", "(IJI)I"⟩, 21), (⟨"CheckCodesModel", "mend", "(II)I"⟩, 21), (⟨"CheckCodesModel", "answerOf", "(II)I"⟩, 21), (⟨"CheckCodesModel", "answerTo", "(JI)I"⟩, 21), (⟨"CheckCodesModel", "many", "(ZI)I"⟩, 21), (⟨"CheckCodesModel", "answer", "(II)I"⟩, 21)]
theorem lw_r2 : ∀ q ∈ lw_privs_2, lw_okq q := List.forall_mem_cons.mpr ⟨lw_p16, List.forall_mem_cons.mpr ⟨lw_p17, List.forall_mem_cons.mpr ⟨lw_p18, List.forall_mem_cons.mpr ⟨lw_p19, List.forall_mem_cons.mpr ⟨lw_p20, List.forall_mem_cons.mpr ⟨lw_p21, List.forall_mem_cons.mpr ⟨lw_p22, List.forall_mem_cons.mpr ⟨lw_p23, List.forall_mem_cons.mpr ⟨lw_p24, List.forall_mem_cons.mpr ⟨lw_p25, List.forall_mem_cons.mpr ⟨lw_p26, List.forall_mem_cons.mpr ⟨lw_p27, fun _ h => absurd h List.not_mem_nil⟩⟩⟩⟩⟩⟩⟩⟩⟩⟩⟩⟩
def lw_privs : List (MethodName × Nat) := lw_privs_1 ++ (lw_privs_2)
def lw_tbl : List Cond := k2_sels lw_privs ++ tables_1
theorem lw_privs_ok : ∀ q ∈ lw_privs, lw_okq q := by
  show ∀ q ∈ lw_privs_1 ++ (lw_privs_2), lw_okq q
  exact List.forall_mem_append.mpr ⟨lw_r1, lw_r2⟩
def R_C : String := "CheckCodes"
def R_K : String := "CheckCodes$Code"
def R_L : String := "CheckCodes$Lane"
def R_N : String := "CheckCodes$NibbleCode"
def R_P : String := "CheckCodes$ParityCode"
def R_S : String := "CheckCodes$SumCode"
def R_T : String := "CheckCodes$Turn"
def R_M : String := "CheckCodesModel"
def R_W : String := "CheckCodesLaw"
def R_JM : String := "java/lang/Math"
def R_JI : String := "java/lang/Integer"
def R_JL : String := "java/lang/Long"
def R_JA : String := "java/util/Arrays"
def R_JO : String := "java/lang/Object"
def F_C : u_T := fun k => match k with
  | 0 => ("CheckCodes", "kind", "I", true)
  | 1 => ("CheckCodes", "wordBits", "I", true)
  | 2 => ("CheckCodes", "storedBits", "I", true)
  | 3 => ("CheckCodes", "wordMask", "J", true)
  | 4 => ("CheckCodes", "checkMask", "I", true)
  | 5 => ("CheckCodes", "code", "LCheckCodes$Code;", true)
  | 6 => ("CheckCodes", "turn", "LCheckCodes$Turn;", true)
  | 7 => ("CheckCodes", "hasAddress", "Z", false)
  | 8 => ("CheckCodes", "addressFold", "I", false)
  | 9 => ("CheckCodes", "lastWord", "J", false)
  | 10 => ("CheckCodes", "lastCheck", "I", false)
  | 11 => ("CheckCodes", "lastTurned", "I", false)
  | 12 => ("CheckCodes", "answerCounts", "[I", true)
  | 13 => ("CheckCodes", "answersCounted", "Z", false)
  | 14 => ("CheckCodes", "longestMendedBurst", "I", false)
  | 15 => ("CheckCodes", "sparedRows", "[I", true)
  | _ => ("CheckCodes", "sparesUsed", "I", false)
def tf_C : Nat → FieldType := fun k => match k with
  | 0 => .int
  | 1 => .int
  | 2 => .int
  | 3 => .long
  | 4 => .int
  | 5 => .object "CheckCodes$Code"
  | 6 => .object "CheckCodes$Turn"
  | 7 => .boolean
  | 8 => .int
  | 9 => .long
  | 10 => .int
  | 11 => .int
  | 12 => .array .int
  | 13 => .boolean
  | 14 => .int
  | 15 => .array .int
  | _ => .int
theorem nf_C : ∀ a, a < 17 → ∀ b, b < 17 → a ≠ b → (F_C a).2.1 ≠ (F_C b).2.1 := by decide +kernel
theorem tf_C_ok : ∀ k, k < 17 → parseFieldDescriptor (F_C k).2.2.1 = some (tf_C k) := by decide +kernel
def F_S : u_T := fun k => match k with
  | 0 => ("CheckCodes$Code", "wordBits", "I", true)
  | 1 => ("CheckCodes$Code", "checkBits", "I", true)
  | 2 => ("CheckCodes$Code", "marks", "[I", true)
  | _ => ("CheckCodes$SumCode", "lanes", "[LCheckCodes$Lane;", true)
def tf_S : Nat → FieldType := fun k => match k with
  | 0 => .int
  | 1 => .int
  | 2 => .array .int
  | _ => .array (.object "CheckCodes$Lane")
theorem nf_S : ∀ a, a < 4 → ∀ b, b < 4 → a ≠ b → (F_S a).2.1 ≠ (F_S b).2.1 := by decide +kernel
theorem tf_S_ok : ∀ k, k < 4 → parseFieldDescriptor (F_S k).2.2.1 = some (tf_S k) := by decide +kernel
def F_P : u_T := fun k => match k with
  | 0 => ("CheckCodes$Code", "wordBits", "I", true)
  | 1 => ("CheckCodes$Code", "checkBits", "I", true)
  | _ => ("CheckCodes$Code", "marks", "[I", true)
def tf_P : Nat → FieldType := fun k => match k with
  | 0 => .int
  | 1 => .int
  | _ => .array .int
theorem nf_P : ∀ a, a < 3 → ∀ b, b < 3 → a ≠ b → (F_P a).2.1 ≠ (F_P b).2.1 := by decide +kernel
theorem tf_P_ok : ∀ k, k < 3 → parseFieldDescriptor (F_P k).2.2.1 = some (tf_P k) := by decide +kernel
def F_N : u_T := fun k => match k with
  | 0 => ("CheckCodes$Code", "wordBits", "I", true)
  | 1 => ("CheckCodes$Code", "checkBits", "I", true)
  | _ => ("CheckCodes$Code", "marks", "[I", true)
def tf_N : Nat → FieldType := fun k => match k with
  | 0 => .int
  | 1 => .int
  | _ => .array .int
theorem nf_N : ∀ a, a < 3 → ∀ b, b < 3 → a ≠ b → (F_N a).2.1 ≠ (F_N b).2.1 := by decide +kernel
theorem tf_N_ok : ∀ k, k < 3 → parseFieldDescriptor (F_N k).2.2.1 = some (tf_N k) := by decide +kernel
def F_L : u_T := fun k => match k with
  | 0 => ("CheckCodes$Lane", "checkBits", "I", true)
  | 1 => ("CheckCodes$Lane", "columns", "[I", true)
  | 2 => ("CheckCodes$Lane", "rowSums", "[I", true)
  | _ => ("CheckCodes$Lane", "bitAt", "[I", true)
def tf_L : Nat → FieldType := fun k => match k with
  | 0 => .int
  | 1 => .array .int
  | 2 => .array .int
  | _ => .array .int
theorem nf_L : ∀ a, a < 4 → ∀ b, b < 4 → a ≠ b → (F_L a).2.1 ≠ (F_L b).2.1 := by decide +kernel
theorem tf_L_ok : ∀ k, k < 4 → parseFieldDescriptor (F_L k).2.2.1 = some (tf_L k) := by decide +kernel
def F_T : u_T := fun k => match k with
  | 0 => ("CheckCodes$Turn", "wordFlips", "J", false)
  | _ => ("CheckCodes$Turn", "checkFlips", "I", false)
def tf_T : Nat → FieldType := fun k => match k with
  | 0 => .long
  | _ => .int
theorem nf_T : ∀ a, a < 2 → ∀ b, b < 2 → a ≠ b → (F_T a).2.1 ≠ (F_T b).2.1 := by decide +kernel
theorem tf_T_ok : ∀ k, k < 2 → parseFieldDescriptor (F_T k).2.2.1 = some (tf_T k) := by decide +kernel
def F_M : u_T := fun k => match k with
  | 0 => ("CheckCodesModel", "thrown", "I", false)
  | 1 => ("CheckCodesModel", "m", "I", true)
  | 2 => ("CheckCodesModel", "kind", "I", true)
  | 3 => ("CheckCodesModel", "\x72", "I", false)
  | 4 => ("CheckCodesModel", "codes", "I", true)
  | 5 => ("CheckCodesModel", "widths", "[I", true)
  | 6 => ("CheckCodesModel", "checks", "[I", true)
  | 7 => ("CheckCodesModel", "froms", "[I", true)
  | 8 => ("CheckCodesModel", "columns", "[I", true)
  | 9 => ("CheckCodesModel", "greatest", "I", false)
  | 10 => ("CheckCodesModel", "isFolded", "Z", false)
  | 11 => ("CheckCodesModel", "fold", "I", false)
  | 12 => ("CheckCodesModel", "made", "J", false)
  | 13 => ("CheckCodesModel", "madeCheck", "I", false)
  | 14 => ("CheckCodesModel", "bits", "I", false)
  | 15 => ("CheckCodesModel", "word", "J", false)
  | 16 => ("CheckCodesModel", "check", "I", false)
  | 17 => ("CheckCodesModel", "turned", "I", false)
  | 18 => ("CheckCodesModel", "spares", "[I", true)
  | 19 => ("CheckCodesModel", "used", "[Z", true)
  | _ => ("CheckCodesModel", "sums", "[I", true)
def tf_M : Nat → FieldType := fun k => match k with
  | 0 => .int
  | 1 => .int
  | 2 => .int
  | 3 => .int
  | 4 => .int
  | 5 => .array .int
  | 6 => .array .int
  | 7 => .array .int
  | 8 => .array .int
  | 9 => .int
  | 10 => .boolean
  | 11 => .int
  | 12 => .long
  | 13 => .int
  | 14 => .int
  | 15 => .long
  | 16 => .int
  | 17 => .int
  | 18 => .array .int
  | 19 => .array .boolean
  | _ => .array .int
theorem nf_M : ∀ a, a < 21 → ∀ b, b < 21 → a ≠ b → (F_M a).2.1 ≠ (F_M b).2.1 := by decide +kernel
theorem tf_M_ok : ∀ k, k < 21 → parseFieldDescriptor (F_M k).2.2.1 = some (tf_M k) := by decide +kernel
abbrev vwCl : List vw_C := [(R_C, F_C, 17), (R_S, F_S, 4), (R_P, F_P, 3), (R_N, F_N, 3), (R_L, F_L, 4), (R_T, F_T, 2), (R_M, F_M, 21)]
/-- the words that last: every method's own list but for its code -/
def wA : List Cond := lw_tbl.filter goodWord
theorem in_wA {w : Cond} (h : w ∈ lw_tbl) (g : goodWord w = true) : w ∈ wA := List.mem_filter.mpr ⟨h, g⟩
theorem wA_tbl {w : Cond} (h : w ∈ wA) : w ∈ lw_tbl := (List.mem_filter.mp h).1
theorem wA_good {c : Cond} (h : c ∈ wA) : GoodIn wA (c :: wA) := fun w hw => by
  rcases List.mem_cons.mp hw with h1 | h1
  · rw [h1]; exact ⟨h, good_of_word (List.mem_filter.mp h).2⟩
  · exact ⟨h1, good_of_word (List.mem_filter.mp h1).2⟩
theorem sub_pos {big ws : List Cond} (ps : List Nat) (h : ws = ps.filterMap (fun i => big[i]?)) : ∀ w ∈ ws, w ∈ big := by
  intro w hw
  rw [h] at hw
  obtain ⟨i, -, hi⟩ := List.mem_filterMap.mp hw
  exact List.mem_of_getElem? hi
set_option maxRecDepth 20000 in
theorem i_C : ∀ w ∈ u_ws R_C F_C 17, w ∈ wA := fun w h => in_wA (sub_pos [220, 222, 224, 226, 228, 230, 232, 234, 236, 238, 240, 242, 244, 246, 248, 250, 252] rfl w h) (by revert w; decide +kernel)
set_option maxRecDepth 20000 in
theorem i_S : ∀ w ∈ u_ws R_S F_S 4, w ∈ wA := fun w h => in_wA (sub_pos [142, 144, 146, 140] rfl w h) (by revert w; decide +kernel)
set_option maxRecDepth 20000 in
theorem i_P : ∀ w ∈ u_ws R_P F_P 3, w ∈ wA := fun w h => in_wA (sub_pos [161, 162, 163] rfl w h) (by revert w; decide +kernel)
set_option maxRecDepth 20000 in
theorem i_N : ∀ w ∈ u_ws R_N F_N 3, w ∈ wA := fun w h => in_wA (sub_pos [180, 181, 182] rfl w h) (by revert w; decide +kernel)
set_option maxRecDepth 20000 in
theorem i_L : ∀ w ∈ u_ws R_L F_L 4, w ∈ wA := fun w h => in_wA (sub_pos [108, 110, 112, 114] rfl w h) (by revert w; decide +kernel)
set_option maxRecDepth 20000 in
theorem i_T : ∀ w ∈ u_ws R_T F_T 2, w ∈ wA := fun w h => in_wA (sub_pos [198, 200] rfl w h) (by revert w; decide +kernel)
set_option maxRecDepth 20000 in
theorem i_M : ∀ w ∈ u_ws R_M F_M 21, w ∈ wA := fun w h => in_wA (sub_pos [610, 612, 614, 616, 618, 620, 622, 624, 626, 628, 630, 632, 634, 636, 638, 640, 642, 644, 646, 648, 650] rfl w h) (by revert w; decide +kernel)
abbrev b_C_init : ByteArray := prog_1_method_1_code
def y_C_init : MethodName := ⟨R_C, "<init>", "(II)V"⟩
abbrev b_JO_init : ByteArray := object_method_1_code
def y_JO_init : MethodName := ⟨R_JO, "<init>", "()V"⟩
abbrev b_JM_floorMod : ByteArray := prog_15_method_52_code
def y_JM_floorMod : MethodName := ⟨R_JM, "floorMod", "(JJ)J"⟩
abbrev b_JM_floorMod2 : ByteArray := prog_15_method_50_code
def y_JM_floorMod2 : MethodName := ⟨R_JM, "floorMod", "(II)I"⟩
abbrev b_C_codeOf : ByteArray := prog_1_method_17_code
def y_C_codeOf : MethodName := ⟨R_C, "codeOf", "(II)LCheckCodes$Code;"⟩
abbrev b_C_lanesOf : ByteArray := prog_1_method_18_code
def y_C_lanesOf : MethodName := ⟨R_C, "lanesOf", "(II)[LCheckCodes$Lane;"⟩
abbrev b_L_init : ByteArray := prog_3_method_1_code
def y_L_init : MethodName := ⟨R_L, "<init>", "(I)V"⟩
abbrev b_L_checkBitsFor : ByteArray := prog_3_method_2_code
def y_L_checkBitsFor : MethodName := ⟨R_L, "checkBitsFor", "(I)I"⟩
abbrev b_JA_fill : ByteArray := prog_20_method_103_code
def y_JA_fill : MethodName := ⟨R_JA, "fill", "([II)V"⟩
abbrev b_L_bestColumn : ByteArray := prog_3_method_3_code
def y_L_bestColumn : MethodName := ⟨R_L, "bestColumn", "([I[I)I"⟩
abbrev b_L_bestColumnOfWeight : ByteArray := prog_3_method_4_code
def y_L_bestColumnOfWeight : MethodName := ⟨R_L, "bestColumnOfWeight", "(I[I[I)I"⟩
abbrev b_JI_bitCount : ByteArray := prog_13_method_49_code
def y_JI_bitCount : MethodName := ⟨R_JI, "bitCount", "(I)I"⟩
abbrev b_L_greatestSumWith : ByteArray := prog_3_method_5_code
def y_L_greatestSumWith : MethodName := ⟨R_L, "greatestSumWith", "([II)I"⟩
abbrev b_L_addTo : ByteArray := prog_3_method_6_code
def y_L_addTo : MethodName := ⟨R_L, "addTo", "([II)V"⟩
abbrev b_S_init : ByteArray := prog_6_method_1_code
def y_S_init : MethodName := ⟨R_S, "<init>", "(I[LCheckCodes$Lane;)V"⟩
abbrev b_S_checkBitsOf : ByteArray := prog_6_method_2_code
def y_S_checkBitsOf : MethodName := ⟨R_S, "checkBitsOf", "([LCheckCodes$Lane;)I"⟩
abbrev b_S_marksOf : ByteArray := prog_6_method_3_code
def y_S_marksOf : MethodName := ⟨R_S, "marksOf", "(I[LCheckCodes$Lane;)[I"⟩
abbrev b_K_init : ByteArray := prog_2_method_1_code
def y_K_init : MethodName := ⟨R_K, "<init>", "(II[I)V"⟩
abbrev b_JM_min : ByteArray := prog_15_method_69_code
def y_JM_min : MethodName := ⟨R_JM, "min", "(II)I"⟩
abbrev b_P_init : ByteArray := prog_5_method_1_code
def y_P_init : MethodName := ⟨R_P, "<init>", "(II)V"⟩
abbrev b_P_marksOf : ByteArray := prog_5_method_2_code
def y_P_marksOf : MethodName := ⟨R_P, "marksOf", "(II)[I"⟩
abbrev b_N_init : ByteArray := prog_4_method_1_code
def y_N_init : MethodName := ⟨R_N, "<init>", "(I)V"⟩
abbrev b_N_marksOf : ByteArray := prog_4_method_2_code
def y_N_marksOf : MethodName := ⟨R_N, "marksOf", "(I)[I"⟩
abbrev b_N_raised : ByteArray := prog_4_method_4_code
def y_N_raised : MethodName := ⟨R_N, "raised", "(II)I"⟩
abbrev b_N_timesG : ByteArray := prog_4_method_3_code
def y_N_timesG : MethodName := ⟨R_N, "timesG", "(I)I"⟩
abbrev b_T_init : ByteArray := prog_7_method_1_code
def y_T_init : MethodName := ⟨R_T, "<init>", "()V"⟩
abbrev b_C_size : ByteArray := prog_1_method_2_code
def y_C_size : MethodName := ⟨R_C, "size", "(I)I"⟩
abbrev b_S_greatestRowSum : ByteArray := prog_6_method_5_code
def y_S_greatestRowSum : MethodName := ⟨R_S, "greatestRowSum", "()I"⟩
abbrev b_L_greatestSum : ByteArray := prog_3_method_7_code
def y_L_greatestSum : MethodName := ⟨R_L, "greatestSum", "()I"⟩
abbrev b_JM_max : ByteArray := prog_15_method_65_code
def y_JM_max : MethodName := ⟨R_JM, "max", "(II)I"⟩
abbrev b_K_greatestRowSum : ByteArray := prog_2_method_4_code
def y_K_greatestRowSum : MethodName := ⟨R_K, "greatestRowSum", "()I"⟩
abbrev b_C_plain : ByteArray := prog_1_method_5_code
def y_C_plain : MethodName := ⟨R_C, "plain", "()Z"⟩
abbrev b_C_check : ByteArray := prog_1_method_6_code
def y_C_check : MethodName := ⟨R_C, "check", "(J)I"⟩
abbrev b_K_sumOf : ByteArray := prog_2_method_5_code
def y_K_sumOf : MethodName := ⟨R_K, "sumOf", "(J)I"⟩
abbrev b_C_word : ByteArray := prog_1_method_8_code
def y_C_word : MethodName := ⟨R_C, "word", "()J"⟩
abbrev b_C_checkRead : ByteArray := prog_1_method_9_code
def y_C_checkRead : MethodName := ⟨R_C, "checkRead", "()I"⟩
abbrev b_C_turned : ByteArray := prog_1_method_10_code
def y_C_turned : MethodName := ⟨R_C, "turned", "()I"⟩
abbrev b_W_cell : ByteArray := method_2_code
def y_W_cell : MethodName := ⟨R_W, "cell", "([II)I"⟩
abbrev b_W_column : ByteArray := method_3_code
def y_W_column : MethodName := ⟨R_W, "column", "(LCheckCodes;I[J)I"⟩
abbrev b_C_column : ByteArray := prog_1_method_3_code
def y_C_column : MethodName := ⟨R_C, "column", "(I)I"⟩
abbrev b_S_columnOf : ByteArray := prog_6_method_4_code
def y_S_columnOf : MethodName := ⟨R_S, "columnOf", "(I)I"⟩
abbrev b_K_columnOf : ByteArray := prog_2_method_3_code
def y_K_columnOf : MethodName := ⟨R_K, "columnOf", "(I)I"⟩
abbrev b_W_address : ByteArray := method_4_code
def y_W_address : MethodName := ⟨R_W, "address", "(LCheckCodes;I[J)I"⟩
abbrev b_C_address : ByteArray := prog_1_method_4_code
def y_C_address : MethodName := ⟨R_C, "address", "(I)Z"⟩
abbrev b_C_foldOf : ByteArray := prog_1_method_19_code
def y_C_foldOf : MethodName := ⟨R_C, "foldOf", "(I)I"⟩
abbrev b_W_read : ByteArray := method_5_code
def y_W_read : MethodName := ⟨R_W, "read", "(LCheckCodes;JI[J)I"⟩
abbrev b_C_read : ByteArray := prog_1_method_7_code
def y_C_read : MethodName := ⟨R_C, "read", "(JI)I"⟩
abbrev b_N_judge : ByteArray := prog_4_method_5_code
def y_N_judge : MethodName := ⟨R_N, "judge", "(ILCheckCodes$Turn;)I"⟩
abbrev b_T_clear : ByteArray := prog_7_method_2_code
def y_T_clear : MethodName := ⟨R_T, "clear", "()V"⟩
abbrev b_N_wordFlipsFor : ByteArray := prog_4_method_6_code
def y_N_wordFlipsFor : MethodName := ⟨R_N, "wordFlipsFor", "(III)J"⟩
abbrev b_P_judge : ByteArray := prog_5_method_3_code
def y_P_judge : MethodName := ⟨R_P, "judge", "(ILCheckCodes$Turn;)I"⟩
abbrev b_S_judge : ByteArray := prog_6_method_6_code
def y_S_judge : MethodName := ⟨R_S, "judge", "(ILCheckCodes$Turn;)I"⟩
abbrev b_L_bitFor : ByteArray := prog_3_method_8_code
def y_L_bitFor : MethodName := ⟨R_L, "bitFor", "(I)I"⟩
abbrev b_JL_bitCount : ByteArray := prog_14_method_50_code
def y_JL_bitCount : MethodName := ⟨R_JL, "bitCount", "(J)I"⟩
abbrev b_W_flips : ByteArray := method_6_code
def y_W_flips : MethodName := ⟨R_W, "flips", "(LCheckCodes;II[J)I"⟩
abbrev b_C_flips : ByteArray := prog_1_method_11_code
def y_C_flips : MethodName := ⟨R_C, "flips", "(II)I"⟩
abbrev b_C_isStoredBit : ByteArray := prog_1_method_20_code
def y_C_isStoredBit : MethodName := ⟨R_C, "isStoredBit", "(I)Z"⟩
abbrev b_C_answerToPair : ByteArray := prog_1_method_25_code
def y_C_answerToPair : MethodName := ⟨R_C, "answerToPair", "(II)I"⟩
abbrev b_C_wordPart : ByteArray := prog_1_method_23_code
def y_C_wordPart : MethodName := ⟨R_C, "wordPart", "(I)J"⟩
abbrev b_C_checkPart : ByteArray := prog_1_method_24_code
def y_C_checkPart : MethodName := ⟨R_C, "checkPart", "(I)I"⟩
abbrev b_C_answerTo : ByteArray := prog_1_method_27_code
def y_C_answerTo : MethodName := ⟨R_C, "answerTo", "(JI)I"⟩
abbrev b_W_table : ByteArray := method_7_code
def y_W_table : MethodName := ⟨R_W, "table", "(LCheckCodes;I[J)I"⟩
abbrev b_C_table : ByteArray := prog_1_method_12_code
def y_C_table : MethodName := ⟨R_C, "table", "(I)I"⟩
abbrev b_C_countAnswers : ByteArray := prog_1_method_28_code
def y_C_countAnswers : MethodName := ⟨R_C, "countAnswers", "()V"⟩
abbrev b_W_bursts : ByteArray := method_8_code
def y_W_bursts : MethodName := ⟨R_W, "bursts", "(LCheckCodes;I[J)I"⟩
abbrev b_C_bursts : ByteArray := prog_1_method_13_code
def y_C_bursts : MethodName := ⟨R_C, "bursts", "(I)Z"⟩
abbrev b_C_findLongestMendedBurst : ByteArray := prog_1_method_29_code
def y_C_findLongestMendedBurst : MethodName := ⟨R_C, "findLongestMendedBurst", "()I"⟩
abbrev b_C_allMended : ByteArray := prog_1_method_30_code
def y_C_allMended : MethodName := ⟨R_C, "allMended", "(I)Z"⟩
abbrev b_C_answerToPattern : ByteArray := prog_1_method_26_code
def y_C_answerToPattern : MethodName := ⟨R_C, "answerToPattern", "(II)I"⟩
abbrev b_W_spare : ByteArray := method_9_code
def y_W_spare : MethodName := ⟨R_W, "spare", "(LCheckCodes;I[J)I"⟩
abbrev b_C_spare : ByteArray := prog_1_method_14_code
def y_C_spare : MethodName := ⟨R_C, "spare", "(I)I"⟩
abbrev b_C_isRow : ByteArray := prog_1_method_21_code
def y_C_isRow : MethodName := ⟨R_C, "isRow", "(I)Z"⟩
abbrev b_C_findSpare : ByteArray := prog_1_method_22_code
def y_C_findSpare : MethodName := ⟨R_C, "findSpare", "(I)I"⟩
abbrev b_W_spareOf : ByteArray := method_10_code
def y_W_spareOf : MethodName := ⟨R_W, "spareOf", "(LCheckCodes;I[J)I"⟩
abbrev b_C_spareOf : ByteArray := prog_1_method_15_code
def y_C_spareOf : MethodName := ⟨R_C, "spareOf", "(I)I"⟩
abbrev b_W_share : ByteArray := method_11_code
def y_W_share : MethodName := ⟨R_W, "share", "(LCheckCodes;I[J)I"⟩
abbrev b_C_share : ByteArray := prog_1_method_16_code
def y_C_share : MethodName := ⟨R_C, "share", "(I)I"⟩
abbrev b_C_greatestCommonDivisor : ByteArray := prog_1_method_31_code
def y_C_greatestCommonDivisor : MethodName := ⟨R_C, "greatestCommonDivisor", "(II)I"⟩
abbrev b_M_init : ByteArray := prog_9_method_1_code
def y_M_init : MethodName := ⟨R_M, "<init>", "(II)V"⟩
abbrev b_M_choose : ByteArray := prog_9_method_7_code
def y_M_choose : MethodName := ⟨R_M, "choose", "(I)V"⟩
abbrev b_M_weight : ByteArray := prog_9_method_5_code
def y_M_weight : MethodName := ⟨R_M, "weight", "(J)I"⟩
abbrev b_M_most : ByteArray := prog_9_method_6_code
def y_M_most : MethodName := ⟨R_M, "most", "(I)I"⟩
abbrev b_M_thrown : ByteArray := prog_9_method_2_code
def y_M_thrown : MethodName := ⟨R_M, "thrown", "()I"⟩
abbrev b_M_size : ByteArray := prog_9_method_22_code
def y_M_size : MethodName := ⟨R_M, "size", "(I)I"⟩
abbrev b_M_column : ByteArray := prog_9_method_23_code
def y_M_column : MethodName := ⟨R_M, "column", "(I)I"⟩
abbrev b_M_in : ByteArray := prog_9_method_4_code
def y_M_in : MethodName := ⟨R_M, "in", "(III)Z"⟩
abbrev b_M_fails : ByteArray := prog_9_method_3_code
def y_M_fails : MethodName := ⟨R_M, "fails", "(ZZ)Z"⟩
abbrev b_M_address : ByteArray := prog_9_method_24_code
def y_M_address : MethodName := ⟨R_M, "address", "(I)Z"⟩
abbrev b_M_plain : ByteArray := prog_9_method_25_code
def y_M_plain : MethodName := ⟨R_M, "plain", "()Z"⟩
abbrev b_M_check : ByteArray := prog_9_method_26_code
def y_M_check : MethodName := ⟨R_M, "check", "(J)I"⟩
abbrev b_M_folded : ByteArray := prog_9_method_15_code
def y_M_folded : MethodName := ⟨R_M, "folded", "()I"⟩
abbrev b_M_plainCheck : ByteArray := prog_9_method_14_code
def y_M_plainCheck : MethodName := ⟨R_M, "plainCheck", "(J)I"⟩
abbrev b_M_all : ByteArray := prog_9_method_9_code
def y_M_all : MethodName := ⟨R_M, "all", "()J"⟩
abbrev b_M_nibbleSums : ByteArray := prog_9_method_13_code
def y_M_nibbleSums : MethodName := ⟨R_M, "nibbleSums", "(J)I"⟩
abbrev b_M_nibbles : ByteArray := prog_9_method_12_code
def y_M_nibbles : MethodName := ⟨R_M, "nibbles", "()I"⟩
abbrev b_M_power : ByteArray := prog_9_method_11_code
def y_M_power : MethodName := ⟨R_M, "power", "(I)I"⟩
abbrev b_M_times : ByteArray := prog_9_method_10_code
def y_M_times : MethodName := ⟨R_M, "times", "(II)I"⟩
abbrev b_M_has : ByteArray := prog_9_method_8_code
def y_M_has : MethodName := ⟨R_M, "has", "(JI)Z"⟩
abbrev b_M_read : ByteArray := prog_9_method_27_code
def y_M_read : MethodName := ⟨R_M, "read", "(JI)I"⟩
abbrev b_M_reading : ByteArray := prog_9_method_19_code
def y_M_reading : MethodName := ⟨R_M, "reading", "(JI)I"⟩
abbrev b_M_mendNibbles : ByteArray := prog_9_method_18_code
def y_M_mendNibbles : MethodName := ⟨R_M, "mendNibbles", "(I)I"⟩
abbrev b_M_mendSums : ByteArray := prog_9_method_17_code
def y_M_mendSums : MethodName := ⟨R_M, "mendSums", "(IJI)I"⟩
abbrev b_M_mend : ByteArray := prog_9_method_16_code
def y_M_mend : MethodName := ⟨R_M, "mend", "(II)I"⟩
abbrev b_M_word : ByteArray := prog_9_method_28_code
def y_M_word : MethodName := ⟨R_M, "word", "()J"⟩
abbrev b_M_checkRead : ByteArray := prog_9_method_29_code
def y_M_checkRead : MethodName := ⟨R_M, "checkRead", "()I"⟩
abbrev b_M_turned : ByteArray := prog_9_method_30_code
def y_M_turned : MethodName := ⟨R_M, "turned", "()I"⟩
abbrev b_M_flips : ByteArray := prog_9_method_32_code
def y_M_flips : MethodName := ⟨R_M, "flips", "(II)I"⟩
abbrev b_M_answerOf : ByteArray := prog_9_method_31_code
def y_M_answerOf : MethodName := ⟨R_M, "answerOf", "(II)I"⟩
abbrev b_M_answerTo : ByteArray := prog_9_method_21_code
def y_M_answerTo : MethodName := ⟨R_M, "answerTo", "(JI)I"⟩
abbrev b_M_table : ByteArray := prog_9_method_34_code
def y_M_table : MethodName := ⟨R_M, "table", "(I)I"⟩
abbrev b_M_many : ByteArray := prog_9_method_33_code
def y_M_many : MethodName := ⟨R_M, "many", "(ZI)I"⟩
abbrev b_M_bursts : ByteArray := prog_9_method_35_code
def y_M_bursts : MethodName := ⟨R_M, "bursts", "(I)Z"⟩
abbrev b_M_answer : ByteArray := prog_9_method_20_code
def y_M_answer : MethodName := ⟨R_M, "answer", "(II)I"⟩
abbrev b_M_spare : ByteArray := prog_9_method_36_code
def y_M_spare : MethodName := ⟨R_M, "spare", "(I)I"⟩
abbrev b_M_spareOf : ByteArray := prog_9_method_37_code
def y_M_spareOf : MethodName := ⟨R_M, "spareOf", "(I)I"⟩
abbrev b_M_share : ByteArray := prog_9_method_38_code
def y_M_share : MethodName := ⟨R_M, "share", "(I)I"⟩
abbrev b_W_law : ByteArray := code
def y_W_law : MethodName := ⟨R_W, "law", "([I)Z"⟩
end
section
theorem xn_and (a b : Nat) : nI a &&& nI b = nI (a &&& b) := by
  apply Int32.toBitVec_inj.1
  show BitVec.ofNat 32 a &&& BitVec.ofNat 32 b = BitVec.ofNat 32 (a &&& b)
  apply BitVec.eq_of_getLsbD_eq
  intro i hi
  simp [hi]
theorem xn_or (a b : Nat) : nI a ||| nI b = nI (a ||| b) := by
  apply Int32.toBitVec_inj.1
  show BitVec.ofNat 32 a ||| BitVec.ofNat 32 b = BitVec.ofNat 32 (a ||| b)
  apply BitVec.eq_of_getLsbD_eq
  intro i hi
  simp [hi]
theorem xn_xor (a b : Nat) : nI a ^^^ nI b = nI (a ^^^ b) := by
  apply Int32.toBitVec_inj.1
  show BitVec.ofNat 32 a ^^^ BitVec.ofNat 32 b = BitVec.ofNat 32 (a ^^^ b)
  apply BitVec.eq_of_getLsbD_eq
  intro i hi
  simp [hi]
theorem xl_and (a b : Nat) : lN a &&& lN b = lN (a &&& b) := by
  apply Int64.toBitVec_inj.1
  show BitVec.ofNat 64 a &&& BitVec.ofNat 64 b = BitVec.ofNat 64 (a &&& b)
  apply BitVec.eq_of_getLsbD_eq
  intro i hi
  simp [hi]
theorem xl_or (a b : Nat) : lN a ||| lN b = lN (a ||| b) := by
  apply Int64.toBitVec_inj.1
  show BitVec.ofNat 64 a ||| BitVec.ofNat 64 b = BitVec.ofNat 64 (a ||| b)
  apply BitVec.eq_of_getLsbD_eq
  intro i hi
  simp [hi]
theorem xl_xor (a b : Nat) : lN a ^^^ lN b = lN (a ^^^ b) := by
  apply Int64.toBitVec_inj.1
  show BitVec.ofNat 64 a ^^^ BitVec.ofNat 64 b = BitVec.ofNat 64 (a ^^^ b)
  apply BitVec.eq_of_getLsbD_eq
  intro i hi
  simp [hi]
theorem xn_of (x : Int32) : ∃ n, n < 2 ^ 32 ∧ x = nI n := ⟨x.toBitVec.toNat, x.toBitVec.isLt, Int32.toBitVec_inj.mp (by show _ = BitVec.ofNat 32 _; simp)⟩
theorem xl_of (x : Int64) : ∃ n, n < 2 ^ 64 ∧ x = lN n := ⟨x.toBitVec.toNat, x.toBitVec.isLt, Int64.toBitVec_inj.mp (by show _ = BitVec.ofNat 64 _; simp)⟩
theorem xn_inj {a b : Nat} (ha : a < 2 ^ 32) (hb : b < 2 ^ 32) (h : nI a = nI b) : a = b := by
  have h1 : (nI a).toBitVec.toNat = (nI b).toBitVec.toNat := by rw [h]
  rwa [pk_tn ha, pk_tn hb] at h1
theorem xl_tn {n : Nat} (h : n < 2 ^ 64) : (lN n).toBitVec.toNat = n := by
  show (BitVec.ofNat 64 n).toNat = n
  rw [BitVec.toNat_ofNat, Nat.mod_eq_of_lt h]
theorem xl_inj {a b : Nat} (ha : a < 2 ^ 64) (hb : b < 2 ^ 64) (h : lN a = lN b) : a = b := by
  have h1 : (lN a).toBitVec.toNat = (lN b).toBitVec.toNat := by rw [h]
  rwa [xl_tn ha, xl_tn hb] at h1
theorem xn_sc : ∀ k, k < 32 → ((nI k &&& 31).toBitVec.smod 32).toNat = k := by decide +kernel
theorem xn_uc : ∀ k, k < 32 → (((nI k).toUInt32 &&& Int32.toUInt32 31).toBitVec % 32).toNat = k := by decide +kernel
theorem xn_shl (a : Nat) {k : Nat} (hk : k < 32) : nI a <<< (nI k &&& 31) = nI (a <<< k) := by
  apply Int32.toBitVec_inj.1
  apply BitVec.eq_of_toNat_eq
  rw [pk_shl _ _ k (xn_sc k hk)]
  show (BitVec.ofNat 32 a).toNat * 2 ^ k % 2 ^ 32 = (BitVec.ofNat 32 (a <<< k)).toNat
  rw [BitVec.toNat_ofNat, BitVec.toNat_ofNat, Nat.shiftLeft_eq, Nat.mod_mul_mod]
theorem xn_ushr {a k : Nat} (ha : a < 2 ^ 32) (hk : k < 32) : ((nI a).toUInt32 >>> ((nI k).toUInt32 &&& Int32.toUInt32 31)).toInt32 = nI (a >>> k) := by
  rw [pk_ushrN ha _ k (xn_uc k hk), Nat.shiftRight_eq_div_pow]
theorem xl_c : ∀ k, k < 64 → ((nI k).toInt64 &&& 63) = lN k := by decide +kernel
theorem xl_cu : ∀ k, k < 64 → ((nI k).toInt64.toUInt64 &&& Int64.toUInt64 63) = UInt64.ofNat k := by decide +kernel
theorem xl_sm : ∀ k, k < 64 → (BitVec.ofNat 64 k).smod 64 = BitVec.ofNat 64 k := by decide +kernel
theorem xl_shl (a : Nat) {k : Nat} (hk : k < 64) : lN a <<< ((nI k).toInt64 &&& 63) = lN (a <<< k) := by
  rw [xl_c k hk]
  apply Int64.toBitVec_inj.1
  rw [Int64.toBitVec_shiftLeft]
  show BitVec.ofNat 64 a <<< (BitVec.ofNat 64 k).smod 64 = BitVec.ofNat 64 (a <<< k)
  rw [xl_sm k hk]
  apply BitVec.eq_of_toNat_eq
  simp [Nat.shiftLeft_eq, Nat.mod_eq_of_lt (show k < 2 ^ 64 by omega), Nat.mod_mul_mod]
theorem xl_ushr {a k : Nat} (ha : a < 2 ^ 64) (hk : k < 64) : ((lN a).toUInt64 >>> ((nI k).toInt64.toUInt64 &&& Int64.toUInt64 63)).toInt64 = lN (a >>> k) := by
  rw [xl_cu k hk]
  apply Int64.toBitVec_inj.1
  apply BitVec.eq_of_toNat_eq
  show ((lN a).toUInt64 >>> UInt64.ofNat k).toNat = (BitVec.ofNat 64 (a >>> k)).toNat
  rw [UInt64.toNat_shiftRight]
  have h1 : (lN a).toUInt64.toNat = a := xl_tn ha
  have h2 : (UInt64.ofNat k).toNat = k := by simp; omega
  rw [h1, h2, Nat.mod_eq_of_lt hk, BitVec.toNat_ofNat, Nat.mod_eq_of_lt]
  rw [Nat.shiftRight_eq_div_pow]
  exact Nat.lt_of_le_of_lt (Nat.div_le_self _ _) ha
theorem xn_0 {a : Nat} (ha : a < 2 ^ 32) : nI a = 0 ↔ a = 0 := ⟨fun h => xn_inj ha (by decide) (h.trans nI_0.symm), fun h => by rw [h]; exact nI_0⟩
theorem lN_0 : lN 0 = 0 := by decide
theorem nI_nm1 {k : Nat} (h : k < 2 ^ 31) : ¬ nI k = -1 := by
  intro q
  have h9 : (nI k).toInt = (-1 : Int32).toInt := by rw [q]
  rw [nI_toInt h] at h9
  have : (-1 : Int32).toInt = -1 := by decide
  omega
section LX
variable {p : Program} {l : Launch} {e : Env} {R : Room} {s : State} {m : MethodId} {args : Array Value} {below : List Frame} {meth : Method} {c : Code} {H : Heap} {locs : List Loc} {cells slots : Nat} {Q : State → Prop}
variable {cc : ByteArray} {pc : Nat} {ls : Array Slot} {rest : List Value}
theorem lx_iadd (hx : p.tables.exec = Jvm.exec) (hb : c.code = cc) {x y z : Int32} (hd : decode cc pc = .ok (.iadd, 1)) (hz : x + y = z) (k : W p l e R s m args below meth c H locs cells slots Q (F0 m (pc + 1) ls (.int z :: rest))) : W p l e R s m args below meth c H locs cells slots Q (F0 m (pc) ls (.int y :: .int x :: rest)) := by
  subst hz
  exact lv_iadd hx hb hd k
theorem lx_isub (hx : p.tables.exec = Jvm.exec) (hb : c.code = cc) {x y z : Int32} (hd : decode cc pc = .ok (.isub, 1)) (hz : x - y = z) (k : W p l e R s m args below meth c H locs cells slots Q (F0 m (pc + 1) ls (.int z :: rest))) : W p l e R s m args below meth c H locs cells slots Q (F0 m (pc) ls (.int y :: .int x :: rest)) := by
  subst hz
  exact lv_isub hx hb hd k
theorem lx_imul (hx : p.tables.exec = Jvm.exec) (hb : c.code = cc) {x y z : Int32} (hd : decode cc pc = .ok (.imul, 1)) (hz : x * y = z) (k : W p l e R s m args below meth c H locs cells slots Q (F0 m (pc + 1) ls (.int z :: rest))) : W p l e R s m args below meth c H locs cells slots Q (F0 m (pc) ls (.int y :: .int x :: rest)) := by
  subst hz
  exact lv_imul hx hb hd k
theorem lx_iand (hx : p.tables.exec = Jvm.exec) (hb : c.code = cc) {x y z : Int32} (hd : decode cc pc = .ok (.iand, 1)) (hz : x &&& y = z) (k : W p l e R s m args below meth c H locs cells slots Q (F0 m (pc + 1) ls (.int z :: rest))) : W p l e R s m args below meth c H locs cells slots Q (F0 m (pc) ls (.int y :: .int x :: rest)) := by
  subst hz
  exact lv_iand hx hb hd k
theorem lx_ior (hx : p.tables.exec = Jvm.exec) (hb : c.code = cc) {x y z : Int32} (hd : decode cc pc = .ok (.ior, 1)) (hz : x ||| y = z) (k : W p l e R s m args below meth c H locs cells slots Q (F0 m (pc + 1) ls (.int z :: rest))) : W p l e R s m args below meth c H locs cells slots Q (F0 m (pc) ls (.int y :: .int x :: rest)) := by
  subst hz
  exact lv_ior hx hb hd k
theorem lx_ixor (hx : p.tables.exec = Jvm.exec) (hb : c.code = cc) {x y z : Int32} (hd : decode cc pc = .ok (.ixor, 1)) (hz : x ^^^ y = z) (k : W p l e R s m args below meth c H locs cells slots Q (F0 m (pc + 1) ls (.int z :: rest))) : W p l e R s m args below meth c H locs cells slots Q (F0 m (pc) ls (.int y :: .int x :: rest)) := by
  subst hz
  exact lv_ixor hx hb hd k
theorem lx_ishl (hx : p.tables.exec = Jvm.exec) (hb : c.code = cc) {x y z : Int32} (hd : decode cc pc = .ok (.ishl, 1)) (hz : x <<< (y &&& 31) = z) (k : W p l e R s m args below meth c H locs cells slots Q (F0 m (pc + 1) ls (.int z :: rest))) : W p l e R s m args below meth c H locs cells slots Q (F0 m (pc) ls (.int y :: .int x :: rest)) := by
  subst hz
  exact lv_ishl hx hb hd k
theorem lx_ishr (hx : p.tables.exec = Jvm.exec) (hb : c.code = cc) {x y z : Int32} (hd : decode cc pc = .ok (.ishr, 1)) (hz : x >>> (y &&& 31) = z) (k : W p l e R s m args below meth c H locs cells slots Q (F0 m (pc + 1) ls (.int z :: rest))) : W p l e R s m args below meth c H locs cells slots Q (F0 m (pc) ls (.int y :: .int x :: rest)) := by
  subst hz
  exact lv_ishr hx hb hd k
theorem lx_ladd (hx : p.tables.exec = Jvm.exec) (hb : c.code = cc) {x y z : Int64} (hd : decode cc pc = .ok (.ladd, 1)) (hz : x + y = z) (k : W p l e R s m args below meth c H locs cells slots Q (F0 m (pc + 1) ls (.long z :: rest))) : W p l e R s m args below meth c H locs cells slots Q (F0 m (pc) ls (.long y :: .long x :: rest)) := by
  subst hz
  exact lv_ladd hx hb hd k
theorem lx_lsub (hx : p.tables.exec = Jvm.exec) (hb : c.code = cc) {x y z : Int64} (hd : decode cc pc = .ok (.lsub, 1)) (hz : x - y = z) (k : W p l e R s m args below meth c H locs cells slots Q (F0 m (pc + 1) ls (.long z :: rest))) : W p l e R s m args below meth c H locs cells slots Q (F0 m (pc) ls (.long y :: .long x :: rest)) := by
  subst hz
  exact lv_lsub hx hb hd k
theorem lx_lmul (hx : p.tables.exec = Jvm.exec) (hb : c.code = cc) {x y z : Int64} (hd : decode cc pc = .ok (.lmul, 1)) (hz : x * y = z) (k : W p l e R s m args below meth c H locs cells slots Q (F0 m (pc + 1) ls (.long z :: rest))) : W p l e R s m args below meth c H locs cells slots Q (F0 m (pc) ls (.long y :: .long x :: rest)) := by
  subst hz
  exact lv_lmul hx hb hd k
theorem lx_land (hx : p.tables.exec = Jvm.exec) (hb : c.code = cc) {x y z : Int64} (hd : decode cc pc = .ok (.land, 1)) (hz : x &&& y = z) (k : W p l e R s m args below meth c H locs cells slots Q (F0 m (pc + 1) ls (.long z :: rest))) : W p l e R s m args below meth c H locs cells slots Q (F0 m (pc) ls (.long y :: .long x :: rest)) := by
  subst hz
  exact lv_land hx hb hd k
theorem lx_lor (hx : p.tables.exec = Jvm.exec) (hb : c.code = cc) {x y z : Int64} (hd : decode cc pc = .ok (.lor, 1)) (hz : x ||| y = z) (k : W p l e R s m args below meth c H locs cells slots Q (F0 m (pc + 1) ls (.long z :: rest))) : W p l e R s m args below meth c H locs cells slots Q (F0 m (pc) ls (.long y :: .long x :: rest)) := by
  subst hz
  exact lv_lor hx hb hd k
theorem lx_lxor (hx : p.tables.exec = Jvm.exec) (hb : c.code = cc) {x y z : Int64} (hd : decode cc pc = .ok (.lxor, 1)) (hz : x ^^^ y = z) (k : W p l e R s m args below meth c H locs cells slots Q (F0 m (pc + 1) ls (.long z :: rest))) : W p l e R s m args below meth c H locs cells slots Q (F0 m (pc) ls (.long y :: .long x :: rest)) := by
  subst hz
  exact lv_lxor hx hb hd k
theorem lx_idiv (hx : p.tables.exec = Jvm.exec) (hb : c.code = cc) {x y z : Int32} (hd : decode cc pc = .ok (.idiv, 1)) (h0 : ¬ y = 0) (hz : x / y = z) (k : W p l e R s m args below meth c H locs cells slots Q (F0 m (pc + 1) ls (.int z :: rest))) : W p l e R s m args below meth c H locs cells slots Q (F0 m (pc) ls (.int y :: .int x :: rest)) := by
  subst hz
  exact lv_idiv hx hb hd h0 k
theorem lx_irem (hx : p.tables.exec = Jvm.exec) (hb : c.code = cc) {x y z : Int32} (hd : decode cc pc = .ok (.irem, 1)) (h0 : ¬ y = 0) (hz : x - x / y * y = z) (k : W p l e R s m args below meth c H locs cells slots Q (F0 m (pc + 1) ls (.int z :: rest))) : W p l e R s m args below meth c H locs cells slots Q (F0 m (pc) ls (.int y :: .int x :: rest)) := by
  subst hz
  exact lv_irem hx hb hd h0 k
theorem lx_ldiv (hx : p.tables.exec = Jvm.exec) (hb : c.code = cc) {x y z : Int64} (hd : decode cc pc = .ok (.ldiv, 1)) (h0 : ¬ y = 0) (hz : x / y = z) (k : W p l e R s m args below meth c H locs cells slots Q (F0 m (pc + 1) ls (.long z :: rest))) : W p l e R s m args below meth c H locs cells slots Q (F0 m (pc) ls (.long y :: .long x :: rest)) := by
  subst hz
  exact lv_ldiv hx hb hd h0 k
theorem lx_lrem (hx : p.tables.exec = Jvm.exec) (hb : c.code = cc) {x y z : Int64} (hd : decode cc pc = .ok (.lrem, 1)) (h0 : ¬ y = 0) (hz : x - x / y * y = z) (k : W p l e R s m args below meth c H locs cells slots Q (F0 m (pc + 1) ls (.long z :: rest))) : W p l e R s m args below meth c H locs cells slots Q (F0 m (pc) ls (.long y :: .long x :: rest)) := by
  subst hz
  exact lv_lrem hx hb hd h0 k
theorem lx_icmp_eq (hx : p.tables.exec = Jvm.exec) (hb : c.code = cc) {a b : Nat} {off : Int} {tgt : Nat} (hd : decode cc pc = .ok (.if_icmp .eq off, 3)) (ht : (pc : Int) + off = (tgt : Int)) (ha : a < 2 ^ 31) (hq : b < 2 ^ 31) (kt : a = b → W p l e R s m args below meth c H locs cells slots Q (F0 m (tgt) ls (rest))) (kf : a ≠ b → W p l e R s m args below meth c H locs cells slots Q (F0 m (pc + 3) ls (rest))) : W p l e R s m args below meth c H locs cells slots Q (F0 m (pc) ls (.int (nI b) :: .int (nI a) :: rest)) := by
  refine lv_icmp_eq hx hb hd ht (fun h => kt ?_) (fun h => kf ?_)
  · exact (nI_eq ha hq).mp h
  · exact fun q => h ((nI_eq ha hq).mpr q)
theorem lx_icmp_ne (hx : p.tables.exec = Jvm.exec) (hb : c.code = cc) {a b : Nat} {off : Int} {tgt : Nat} (hd : decode cc pc = .ok (.if_icmp .ne off, 3)) (ht : (pc : Int) + off = (tgt : Int)) (ha : a < 2 ^ 31) (hq : b < 2 ^ 31) (kt : a ≠ b → W p l e R s m args below meth c H locs cells slots Q (F0 m (tgt) ls (rest))) (kf : a = b → W p l e R s m args below meth c H locs cells slots Q (F0 m (pc + 3) ls (rest))) : W p l e R s m args below meth c H locs cells slots Q (F0 m (pc) ls (.int (nI b) :: .int (nI a) :: rest)) := by
  refine lv_icmp_ne hx hb hd ht (fun h => kt ?_) (fun h => kf ?_)
  · exact fun q => h ((nI_eq ha hq).mpr q)
  · exact (nI_eq ha hq).mp h
theorem lx_icmp_lt (hx : p.tables.exec = Jvm.exec) (hb : c.code = cc) {a b : Nat} {off : Int} {tgt : Nat} (hd : decode cc pc = .ok (.if_icmp .lt off, 3)) (ht : (pc : Int) + off = (tgt : Int)) (ha : a < 2 ^ 31) (hq : b < 2 ^ 31) (kt : a < b → W p l e R s m args below meth c H locs cells slots Q (F0 m (tgt) ls (rest))) (kf : b ≤ a → W p l e R s m args below meth c H locs cells slots Q (F0 m (pc + 3) ls (rest))) : W p l e R s m args below meth c H locs cells slots Q (F0 m (pc) ls (.int (nI b) :: .int (nI a) :: rest)) := by
  refine lv_icmp_lt hx hb hd ht (fun h => kt ?_) (fun h => kf ?_)
  · exact (nI_ltI ha hq).mp h
  · exact Nat.le_of_not_lt (fun q => h ((nI_ltI ha hq).mpr q))
theorem lx_icmp_ge (hx : p.tables.exec = Jvm.exec) (hb : c.code = cc) {a b : Nat} {off : Int} {tgt : Nat} (hd : decode cc pc = .ok (.if_icmp .ge off, 3)) (ht : (pc : Int) + off = (tgt : Int)) (ha : a < 2 ^ 31) (hq : b < 2 ^ 31) (kt : b ≤ a → W p l e R s m args below meth c H locs cells slots Q (F0 m (tgt) ls (rest))) (kf : a < b → W p l e R s m args below meth c H locs cells slots Q (F0 m (pc + 3) ls (rest))) : W p l e R s m args below meth c H locs cells slots Q (F0 m (pc) ls (.int (nI b) :: .int (nI a) :: rest)) := by
  refine lv_icmp_ge hx hb hd ht (fun h => kt ?_) (fun h => kf ?_)
  · exact (nI_leI hq ha).mp h
  · exact Nat.lt_of_not_le (fun q => h ((nI_leI hq ha).mpr q))
theorem lx_icmp_gt (hx : p.tables.exec = Jvm.exec) (hb : c.code = cc) {a b : Nat} {off : Int} {tgt : Nat} (hd : decode cc pc = .ok (.if_icmp .gt off, 3)) (ht : (pc : Int) + off = (tgt : Int)) (ha : a < 2 ^ 31) (hq : b < 2 ^ 31) (kt : b < a → W p l e R s m args below meth c H locs cells slots Q (F0 m (tgt) ls (rest))) (kf : a ≤ b → W p l e R s m args below meth c H locs cells slots Q (F0 m (pc + 3) ls (rest))) : W p l e R s m args below meth c H locs cells slots Q (F0 m (pc) ls (.int (nI b) :: .int (nI a) :: rest)) := by
  refine lv_icmp_gt hx hb hd ht (fun h => kt ?_) (fun h => kf ?_)
  · exact (nI_ltI hq ha).mp h
  · exact Nat.le_of_not_lt (fun q => h ((nI_ltI hq ha).mpr q))
theorem lx_icmp_le (hx : p.tables.exec = Jvm.exec) (hb : c.code = cc) {a b : Nat} {off : Int} {tgt : Nat} (hd : decode cc pc = .ok (.if_icmp .le off, 3)) (ht : (pc : Int) + off = (tgt : Int)) (ha : a < 2 ^ 31) (hq : b < 2 ^ 31) (kt : a ≤ b → W p l e R s m args below meth c H locs cells slots Q (F0 m (tgt) ls (rest))) (kf : b < a → W p l e R s m args below meth c H locs cells slots Q (F0 m (pc + 3) ls (rest))) : W p l e R s m args below meth c H locs cells slots Q (F0 m (pc) ls (.int (nI b) :: .int (nI a) :: rest)) := by
  refine lv_icmp_le hx hb hd ht (fun h => kt ?_) (fun h => kf ?_)
  · exact (nI_leI ha hq).mp h
  · exact Nat.lt_of_not_le (fun q => h ((nI_leI ha hq).mpr q))
theorem lx_if_eq (hx : p.tables.exec = Jvm.exec) (hb : c.code = cc) {a : Nat} {off : Int} {tgt : Nat} (hd : decode cc pc = .ok (.ifCond .eq off, 3)) (ht : (pc : Int) + off = (tgt : Int)) (ha : a < 2 ^ 31) (kt : a = 0 → W p l e R s m args below meth c H locs cells slots Q (F0 m (tgt) ls (rest))) (kf : a ≠ 0 → W p l e R s m args below meth c H locs cells slots Q (F0 m (pc + 3) ls (rest))) : W p l e R s m args below meth c H locs cells slots Q (F0 m (pc) ls (.int (nI a) :: rest)) := by
  refine lv_if_eq hx hb hd ht (fun h => kt ?_) (fun h => kf ?_)
  · exact (nI_eq ha (by decide)).mp (h.trans nI_0.symm)
  · exact fun q => h (by rw [q]; exact nI_0)
theorem lx_if_ne (hx : p.tables.exec = Jvm.exec) (hb : c.code = cc) {a : Nat} {off : Int} {tgt : Nat} (hd : decode cc pc = .ok (.ifCond .ne off, 3)) (ht : (pc : Int) + off = (tgt : Int)) (ha : a < 2 ^ 31) (kt : a ≠ 0 → W p l e R s m args below meth c H locs cells slots Q (F0 m (tgt) ls (rest))) (kf : a = 0 → W p l e R s m args below meth c H locs cells slots Q (F0 m (pc + 3) ls (rest))) : W p l e R s m args below meth c H locs cells slots Q (F0 m (pc) ls (.int (nI a) :: rest)) := by
  refine lv_if_ne hx hb hd ht (fun h => kt ?_) (fun h => kf ?_)
  · exact fun q => h (by rw [q]; exact nI_0)
  · exact (nI_eq ha (by decide)).mp (h.trans nI_0.symm)
theorem lx_if_lt (hx : p.tables.exec = Jvm.exec) (hb : c.code = cc) {a : Nat} {off : Int} {tgt : Nat} (hd : decode cc pc = .ok (.ifCond .lt off, 3)) (ht : (pc : Int) + off = (tgt : Int)) (ha : a < 2 ^ 31) (kf : W p l e R s m args below meth c H locs cells slots Q (F0 m (pc + 3) ls (rest))) : W p l e R s m args below meth c H locs cells slots Q (F0 m (pc) ls (.int (nI a) :: rest)) := lv_if_lt hx hb hd ht (fun h => absurd h (nI_pos ha)) (fun _ => kf)
theorem lx_if_ge (hx : p.tables.exec = Jvm.exec) (hb : c.code = cc) {a : Nat} {off : Int} {tgt : Nat} (hd : decode cc pc = .ok (.ifCond .ge off, 3)) (ht : (pc : Int) + off = (tgt : Int)) (ha : a < 2 ^ 31) (kt : W p l e R s m args below meth c H locs cells slots Q (F0 m (tgt) ls (rest))) : W p l e R s m args below meth c H locs cells slots Q (F0 m (pc) ls (.int (nI a) :: rest)) := lv_if_ge hx hb hd ht (fun _ => kt) (fun h => absurd (nI_pos' ha) h)
theorem lx_if_gt (hx : p.tables.exec = Jvm.exec) (hb : c.code = cc) {a : Nat} {off : Int} {tgt : Nat} (hd : decode cc pc = .ok (.ifCond .gt off, 3)) (ht : (pc : Int) + off = (tgt : Int)) (ha : a < 2 ^ 31) (kt : 0 < a → W p l e R s m args below meth c H locs cells slots Q (F0 m (tgt) ls (rest))) (kf : a = 0 → W p l e R s m args below meth c H locs cells slots Q (F0 m (pc + 3) ls (rest))) : W p l e R s m args below meth c H locs cells slots Q (F0 m (pc) ls (.int (nI a) :: rest)) := lv_if_gt hx hb hd ht (fun h => kt (Nat.pos_of_ne_zero (fun q => by rw [q, nI_0] at h; exact absurd h (by decide)))) (fun h => kf (Classical.byContradiction fun q => h (by rw [← nI_0]; exact nI_lt (Nat.pos_of_ne_zero q) ha)))
theorem lx_if_le (hx : p.tables.exec = Jvm.exec) (hb : c.code = cc) {a : Nat} {off : Int} {tgt : Nat} (hd : decode cc pc = .ok (.ifCond .le off, 3)) (ht : (pc : Int) + off = (tgt : Int)) (ha : a < 2 ^ 31) (kt : a = 0 → W p l e R s m args below meth c H locs cells slots Q (F0 m (tgt) ls (rest))) (kf : 0 < a → W p l e R s m args below meth c H locs cells slots Q (F0 m (pc + 3) ls (rest))) : W p l e R s m args below meth c H locs cells slots Q (F0 m (pc) ls (.int (nI a) :: rest)) := lv_if_le hx hb hd ht (fun h => kt (Classical.byContradiction fun q => nI_nle (Nat.pos_of_ne_zero q) ha h)) (fun h => kf (Nat.pos_of_ne_zero (fun q => h (by rw [q, nI_0]; decide))))
theorem lx_lcmp_eq (hx : p.tables.exec = Jvm.exec) (hb : c.code = cc) {x y : Int64} {off : Int} {tgt : Nat} (hd0 : decode cc pc = .ok (.lcmp, 1)) (hd : decode cc (pc + 1) = .ok (.ifCond .eq off, 3)) (ht : ((pc + 1 : Nat) : Int) + off = (tgt : Int)) (kt : x = y → W p l e R s m args below meth c H locs cells slots Q (F0 m (tgt) ls (rest))) (kf : ¬ x = y → W p l e R s m args below meth c H locs cells slots Q (F0 m (pc + 1 + 3) ls (rest))) : W p l e R s m args below meth c H locs cells slots Q (F0 m (pc) ls (.long y :: .long x :: rest)) := by
  refine W.lcmp hx hb hd0 (lv_if_eq hx hb hd ht (fun h => kt ?_) (fun h => kf ?_))
  · exact (lg_cmp_eq x y).mp h
  · exact fun q => h ((lg_cmp_eq x y).mpr q)
theorem lx_lcmp_ne (hx : p.tables.exec = Jvm.exec) (hb : c.code = cc) {x y : Int64} {off : Int} {tgt : Nat} (hd0 : decode cc pc = .ok (.lcmp, 1)) (hd : decode cc (pc + 1) = .ok (.ifCond .ne off, 3)) (ht : ((pc + 1 : Nat) : Int) + off = (tgt : Int)) (kt : ¬ x = y → W p l e R s m args below meth c H locs cells slots Q (F0 m (tgt) ls (rest))) (kf : x = y → W p l e R s m args below meth c H locs cells slots Q (F0 m (pc + 1 + 3) ls (rest))) : W p l e R s m args below meth c H locs cells slots Q (F0 m (pc) ls (.long y :: .long x :: rest)) := by
  refine W.lcmp hx hb hd0 (lv_if_ne hx hb hd ht (fun h => kt ?_) (fun h => kf ?_))
  · exact fun q => h ((lg_cmp_eq x y).mpr q)
  · exact (lg_cmp_eq x y).mp h
theorem lx_lcmp_lt (hx : p.tables.exec = Jvm.exec) (hb : c.code = cc) {x y : Int64} {off : Int} {tgt : Nat} (hd0 : decode cc pc = .ok (.lcmp, 1)) (hd : decode cc (pc + 1) = .ok (.ifCond .lt off, 3)) (ht : ((pc + 1 : Nat) : Int) + off = (tgt : Int)) (kt : x < y → W p l e R s m args below meth c H locs cells slots Q (F0 m (tgt) ls (rest))) (kf : ¬ x < y → W p l e R s m args below meth c H locs cells slots Q (F0 m (pc + 1 + 3) ls (rest))) : W p l e R s m args below meth c H locs cells slots Q (F0 m (pc) ls (.long y :: .long x :: rest)) := by
  refine W.lcmp hx hb hd0 (lv_if_lt hx hb hd ht (fun h => kt ?_) (fun h => kf ?_))
  · exact (lg_cmp_lt x y).mp h
  · exact fun q => h ((lg_cmp_lt x y).mpr q)
theorem lx_lcmp_ge (hx : p.tables.exec = Jvm.exec) (hb : c.code = cc) {x y : Int64} {off : Int} {tgt : Nat} (hd0 : decode cc pc = .ok (.lcmp, 1)) (hd : decode cc (pc + 1) = .ok (.ifCond .ge off, 3)) (ht : ((pc + 1 : Nat) : Int) + off = (tgt : Int)) (kt : y ≤ x → W p l e R s m args below meth c H locs cells slots Q (F0 m (tgt) ls (rest))) (kf : ¬ y ≤ x → W p l e R s m args below meth c H locs cells slots Q (F0 m (pc + 1 + 3) ls (rest))) : W p l e R s m args below meth c H locs cells slots Q (F0 m (pc) ls (.long y :: .long x :: rest)) := by
  refine W.lcmp hx hb hd0 (lv_if_ge hx hb hd ht (fun h => kt ?_) (fun h => kf ?_))
  · exact (lg_cmp_ge x y).mp h
  · exact fun q => h ((lg_cmp_ge x y).mpr q)
theorem lx_lcmp_gt (hx : p.tables.exec = Jvm.exec) (hb : c.code = cc) {x y : Int64} {off : Int} {tgt : Nat} (hd0 : decode cc pc = .ok (.lcmp, 1)) (hd : decode cc (pc + 1) = .ok (.ifCond .gt off, 3)) (ht : ((pc + 1 : Nat) : Int) + off = (tgt : Int)) (kt : y < x → W p l e R s m args below meth c H locs cells slots Q (F0 m (tgt) ls (rest))) (kf : ¬ y < x → W p l e R s m args below meth c H locs cells slots Q (F0 m (pc + 1 + 3) ls (rest))) : W p l e R s m args below meth c H locs cells slots Q (F0 m (pc) ls (.long y :: .long x :: rest)) := by
  refine W.lcmp hx hb hd0 (lv_if_gt hx hb hd ht (fun h => kt ?_) (fun h => kf ?_))
  · exact (lg_cmp_gt x y).mp h
  · exact fun q => h ((lg_cmp_gt x y).mpr q)
theorem lx_lcmp_le (hx : p.tables.exec = Jvm.exec) (hb : c.code = cc) {x y : Int64} {off : Int} {tgt : Nat} (hd0 : decode cc pc = .ok (.lcmp, 1)) (hd : decode cc (pc + 1) = .ok (.ifCond .le off, 3)) (ht : ((pc + 1 : Nat) : Int) + off = (tgt : Int)) (kt : x ≤ y → W p l e R s m args below meth c H locs cells slots Q (F0 m (tgt) ls (rest))) (kf : ¬ x ≤ y → W p l e R s m args below meth c H locs cells slots Q (F0 m (pc + 1 + 3) ls (rest))) : W p l e R s m args below meth c H locs cells slots Q (F0 m (pc) ls (.long y :: .long x :: rest)) := by
  refine W.lcmp hx hb hd0 (lv_if_le hx hb hd ht (fun h => kt ?_) (fun h => kf ?_))
  · exact (lg_cmp_le x y).mp h
  · exact fun q => h ((lg_cmp_le x y).mpr q)
variable {D : va_G} {A : Nat → Prop} {a : Nat} {tys : List (ClassId × FieldType)} {ws : va_W} {H0 : Heap}
theorem lx_iald (hx : p.tables.exec = Jvm.exec) (hb : c.code = cc) (hK : va_K D vwCl tys s) (hP : va_P D vwCl ws H) (q0 t0 : Nat) {cA : ClassId} {n : Nat} {f : Nat → Int32} (ha : ws[q0]? = some (a, .inl (cA, n, .inl f))) (ht : tys[t0]? = some (cA, .int)) {j : Nat} (hj : j < n) (hn : n < 2 ^ 31) {v : Int32} (hv : f j = v) (hd : decode cc pc = .ok (.iaload, 1)) (k : W p l e R s m args below meth c H locs cells slots Q (F0 m (pc + 1) ls (.int v :: rest))) : W p l e R s m args below meth c H locs cells slots Q (F0 m (pc) ls (.int (nI j) :: .ref a :: rest)) := by
  subst hv
  refine va_iald hx hb hK hP q0 t0 ha ht (vp_in_nI hj hn) hd ?_
  rw [nI_clamp (by omega)]
  exact k
theorem lx_iast (hx : p.tables.exec = Jvm.exec) (hb : c.code = cc) (hK : va_K D vwCl tys s) (hP : va_P D vwCl ws H) (hD : va_D A ws) (hS : va_S A H0 H locs) (q0 t0 : Nat) {cA : ClassId} {n : Nat} {f f' : Nat → Int32} (ha : ws[q0]? = some (a, .inl (cA, n, .inl f))) (ht : tys[t0]? = some (cA, .int)) {j : Nat} {x : Int32} (hj : j < n) (hn : n < 2 ^ 31) (hf : upd f j x = f') (hd : decode cc pc = .ok (.iastore, 1)) (kk : ∀ (H1 : Heap) (locs1 : List Loc), va_P D vwCl (ws.set q0 (a, .inl (cA, n, .inl f'))) H1 → va_D A (ws.set q0 (a, .inl (cA, n, .inl f'))) → va_S A H0 H1 locs1 → W p l e R s m args below meth c H1 locs1 cells slots Q (F0 m (pc + 1) ls (rest))) : W p l e R s m args below meth c H locs cells slots Q (F0 m (pc) ls (.int x :: .int (nI j) :: .ref a :: rest)) := by
  subst hf
  refine va_iast hx hb hK hP hD hS q0 t0 ha ht (vp_in_nI hj hn) hd (fun H1 locs1 h1 h2 h3 => ?_)
  rw [nI_clamp (by omega)] at h1 h2
  exact kk H1 locs1 h1 h2 h3
theorem lx_lald (hx : p.tables.exec = Jvm.exec) (hb : c.code = cc) (hK : va_K D vwCl tys s) (hP : va_P D vwCl ws H) (q0 t0 : Nat) {cA : ClassId} {n : Nat} {f : Nat → Int64} (ha : ws[q0]? = some (a, .inl (cA, n, .inr (.inl f)))) (ht : tys[t0]? = some (cA, .long)) {j : Nat} (hj : j < n) (hn : n < 2 ^ 31) {v : Int64} (hv : f j = v) (hd : decode cc pc = .ok (.laload, 1)) (k : W p l e R s m args below meth c H locs cells slots Q (F0 m (pc + 1) ls (.long v :: rest))) : W p l e R s m args below meth c H locs cells slots Q (F0 m (pc) ls (.int (nI j) :: .ref a :: rest)) := by
  subst hv
  refine va_lald hx hb hK hP q0 t0 ha ht (vp_in_nI hj hn) hd ?_
  rw [nI_clamp (by omega)]
  exact k
theorem lx_last (hx : p.tables.exec = Jvm.exec) (hb : c.code = cc) (hK : va_K D vwCl tys s) (hP : va_P D vwCl ws H) (hD : va_D A ws) (hS : va_S A H0 H locs) (q0 t0 : Nat) {cA : ClassId} {n : Nat} {f f' : Nat → Int64} (ha : ws[q0]? = some (a, .inl (cA, n, .inr (.inl f)))) (ht : tys[t0]? = some (cA, .long)) {j : Nat} {x : Int64} (hj : j < n) (hn : n < 2 ^ 31) (hf : vp_updL f j x = f') (hd : decode cc pc = .ok (.lastore, 1)) (kk : ∀ (H1 : Heap) (locs1 : List Loc), va_P D vwCl (ws.set q0 (a, .inl (cA, n, .inr (.inl f')))) H1 → va_D A (ws.set q0 (a, .inl (cA, n, .inr (.inl f')))) → va_S A H0 H1 locs1 → W p l e R s m args below meth c H1 locs1 cells slots Q (F0 m (pc + 1) ls (rest))) : W p l e R s m args below meth c H locs cells slots Q (F0 m (pc) ls (.long x :: .int (nI j) :: .ref a :: rest)) := by
  subst hf
  refine va_last hx hb hK hP hD hS q0 t0 ha ht (vp_in_nI hj hn) hd (fun H1 locs1 h1 h2 h3 => ?_)
  rw [nI_clamp (by omega)] at h1 h2
  exact kk H1 locs1 h1 h2 h3
end LX
/-- array classes: ints, longs, booleans, lanes -/
abbrev tyl (g : Nat → ClassId) : List (ClassId × FieldType) := [(g 0, .int), (g 1, .long), (g 2, .boolean), (g 3, .object "CheckCodes$Lane")]
def y_K_judge : MethodName := ⟨"CheckCodes$Code", "judge", "(ILCheckCodes$Turn;)I"⟩
/-- what lasts of the tables: classes, array classes, and two words that a warmed machine keeps -/
abbrev pK (D : va_G) (tys : List (ClassId × FieldType)) (U : State) : Prop := va_K D vwCl tys U ∧ va_AO "CheckCodes$Lane" U ∧ va_Nw (.methodLinkNest "CheckCodes" 52 y_T_init "CheckCodes") U ∧ va_Nw (.declares y_K_judge) U
theorem pK.warm {D : va_G} {tys : List (ClassId × FieldType)} {s U : State} (hW : s.WarmedH U.vm) (h : pK D tys s) : pK D tys U := ⟨va_K.moved hW.alike h.1, va_AO.moved hW.alike h.2.1, va_Nw.warmM hW h.2.2.1, va_Nw.warmD hW h.2.2.2⟩
theorem pK.same {D : va_G} {tys : List (ClassId × FieldType)} {s U : State} (hv : s.vm = U.vm) (h : pK D tys s) : pK D tys U := ⟨va_K.moved (by rw [← hv]; exact Vm.Alike.refl _) h.1, va_AO.moved (by rw [← hv]; exact Vm.Alike.refl _) h.2.1, va_Nw.same rfl hv h.2.2.1, va_Nw.same rfl hv h.2.2.2⟩
abbrev pP (D : va_G) (tys : List (ClassId × FieldType)) (ws : va_W) (sz : Nat) : State → Prop := fun U => U.heap.size = sz ∧ va_P D vwCl ws U.heap ∧ pK D tys U ∧ va_D (fun _ => True) ws
/-- a method's end: the world is now w1, made of old cells of ws and new ones -/
abbrev qB (D : va_G) (A : Nat → Prop) (w1 : va_W) (t : State) : Prop := va_P D vwCl w1 t.heap ∧ va_D A w1
theorem pP_blind (D : va_G) (tys : List (ClassId × FieldType)) (ws : va_W) (sz : Nat) (av : List Value) : FrameBlind (va_Pc av (pP D tys ws sz)) := fun a U g mk q => by
  obtain ⟨q0, q1, qP, qK, qD⟩ := q
  exact ⟨q0, q1, qP, pK.same (s := U) (U := U.calling g mk a) rfl qK, qD⟩
theorem pP_of {D : va_G} {tys : List (ClassId × FieldType)} {ws : va_W} {A : Nat → Prop} {s U : State} {H : Heap} (hU : U.heap = H) (hW : s.WarmedH U.vm) (hP : va_P D vwCl ws H) (hK : pK D tys s) (hD : va_D A ws) : pP D tys ws H.size U := ⟨by rw [hU], by rw [hU]; exact hP, hK.warm hW, hD.weaken (fun _ _ _ _ => trivial)⟩
theorem wA_in {A0 : Nat → Prop} {ws : va_W} {H0 H : Heap} {locs : List Loc} (hD : va_D A0 ws) (hS : va_S A0 H0 H locs) (hA : ∀ q, H0.size ≤ q → A0 q) : ∀ q, va_A ws H.size q → A0 q := by
  intro q h
  rcases h with ⟨k, e, h⟩ | h
  · exact hD.2 k (q, e) h
  · exact hA q (Nat.le_trans hS.1 h)
theorem kS {R : Room} {s : State} {args : Array Value} {own : String} {index maxL : Nat} {y : MethodName} {bytes : ByteArray} {ret : Option FieldType} {rm : Room} (n : Nat) (hts : ∀ w ∈ wA, w.before args s = true) (hc : Cond.code y bytes maxL ret ∈ wA) (hl : Cond.methodLink own index y ∈ wA) (hst : Cond.static y ∈ wA) (hini : Cond.initialized y.cls ∈ wA)
    (hd : y.cls ≠ "java/lang/invoke/MethodHandle" ∧ y.cls ≠ "java/lang/invoke/VarHandle" ∧ (parseMethodDescriptor y.desc).map (fun d => d.parameters.length) = some n) (hR : rm.frames + 1 ≤ R.frames ∧ 8 + (maxL + 11) + rm.locals ≤ R.locals) :
    CallB R s args own index y bytes maxL ret (.code y bytes maxL ret :: wA) rm rm.cells rm.slots n ∧ (Cond.static y).before args s = true := ⟨callB_of n hts (wA_good hc) rfl rfl rfl (hts _ hini) (hts _ hl) hd hR, hts _ hst⟩
theorem kV {R : Room} {s : State} {args : Array Value} {own C : String} {index maxL : Nat} {y : MethodName} {bytes : ByteArray} {ret : Option FieldType} {rm : Room} (n : Nat) (hts : ∀ w ∈ wA, w.before args s = true) (hc : Cond.code y bytes maxL ret ∈ wA) (hl : Cond.methodLink own index y ∈ wA) (hin : Cond.instanceMethod y ∈ wA) (hse : Cond.selects C y y ∈ wA) (hini : Cond.initialized y.cls ∈ wA)
    (hd : y.cls ≠ "java/lang/invoke/MethodHandle" ∧ y.cls ≠ "java/lang/invoke/VarHandle" ∧ (parseMethodDescriptor y.desc).map (fun d => d.parameters.length) = some n) (hR : rm.frames + 1 ≤ R.frames ∧ 8 + (maxL + 11) + rm.locals ≤ R.locals) :
    CallW R s args own C index y bytes maxL ret (.code y bytes maxL ret :: wA) rm rm.cells rm.slots n := ⟨callB_of n hts (wA_good hc) rfl rfl rfl (hts _ hini) (hts _ hl) hd hR, hts _ hin, hts _ hse⟩
theorem kI {R : Room} {s : State} {args : Array Value} {own : String} {index maxL : Nat} {y : MethodName} {bytes : ByteArray} {rm : Room} (n : Nat) (hts : ∀ w ∈ wA, w.before args s = true) (hc : Cond.code y bytes maxL none ∈ wA) (hl : Cond.methodLink own index y ∈ wA) (hin : Cond.instanceMethod y ∈ wA) (hini : Cond.initialized y.cls ∈ wA) (hy : y.name = "<init>")
    (hd : y.cls ≠ "java/lang/invoke/MethodHandle" ∧ y.cls ≠ "java/lang/invoke/VarHandle" ∧ (parseMethodDescriptor y.desc).map (fun d => d.parameters.length) = some n) (hR : rm.frames + 1 ≤ R.frames ∧ 8 + (maxL + 11) + rm.locals ≤ R.locals) :
    CallB R s args own index y bytes maxL none (.code y bytes maxL none :: wA) rm rm.cells rm.slots n ∧ y.name = "<init>" ∧ (Cond.instanceMethod y).before args s = true := ⟨callB_of n hts (wA_good hc) rfl rfl rfl (hts _ hini) (hts _ hl) hd hR, hy, hts _ hin⟩

theorem kU {R : Room} {s : State} {args : Array Value} {own C owner : String} {index maxL : Nat} {x y : MethodName} {bytes : ByteArray} {ret : Option FieldType} {rm : Room} (n : Nat) (hts : ∀ w ∈ wA, w.before args s = true) (hc : Cond.code y bytes maxL ret ∈ wA) (hl : Cond.methodLink own index x ∈ wA) (hs : Cond.sameMethod x.cls owner x.name x.desc ∈ wA) (hdec : va_Decl s ⟨owner, x.name, x.desc⟩) (hsel : Cond.selects C x y ∈ wA) (hin : Cond.instanceMethod y ∈ wA) (hini : Cond.initialized y.cls ∈ wA)
    (hd : owner ≠ "java/lang/invoke/MethodHandle" ∧ owner ≠ "java/lang/invoke/VarHandle" ∧ (parseMethodDescriptor x.desc).map (fun d => d.parameters.length) = some n) (hR : rm.frames + 1 ≤ R.frames ∧ 8 + (maxL + 11) + rm.locals ≤ R.locals) :
    va_CU R s args own C owner index x y bytes maxL ret (.code y bytes maxL ret :: wA) rm rm.cells rm.slots n := by
  refine ⟨⟨rfl, rfl, hR.1, hR.2, pay_in hts (wA_good hc), List.mem_cons_self⟩, hts _ hc, hts _ hini, ⟨hd.1, hd.2.1⟩, fun sig h => ?_, hts _ hl, hts _ hs, hdec, hts _ hsel, hts _ hin⟩
  have h2 := hd.2.2
  rw [h] at h2
  exact (Option.some.inj h2).symm
theorem kIN {R : Room} {s : State} {args : Array Value} {own host : String} {index maxL : Nat} {y : MethodName} {bytes : ByteArray} {rm : Room} (n : Nat) (hts : ∀ w ∈ wA, w.before args s = true) (hc : Cond.code y bytes maxL none ∈ wA) (hl : va_Nw (.methodLinkNest own index y host) s) (hin : Cond.instanceMethod y ∈ wA) (hini : Cond.initialized y.cls ∈ wA) (hy : y.name = "<init>")
    (hd : y.cls ≠ "java/lang/invoke/MethodHandle" ∧ y.cls ≠ "java/lang/invoke/VarHandle" ∧ (parseMethodDescriptor y.desc).map (fun d => d.parameters.length) = some n) (hR : rm.frames + 1 ≤ R.frames ∧ 8 + (maxL + 11) + rm.locals ≤ R.locals) :
    va_CN R s args own index y host bytes maxL none (.code y bytes maxL none :: wA) rm rm.cells rm.slots n ∧ y.name = "<init>" ∧ (Cond.instanceMethod y).before args s = true := ⟨va_cnB n hts (wA_good hc) rfl rfl rfl hl (hts _ hini) hd hR, hy, hts _ hin⟩
section LC
variable {p : Program} {l : Launch} {e : Env} {R : Room} {s : State} {m : MethodId} {args : Array Value} {below : List Frame} {meth : Method} {c : Code} {H : Heap} {locs : List Loc} {cells slots : Nat} {Q : State → Prop}
variable {cc : ByteArray} {pc : Nat} {ls : Array Slot} {rest st0 : List Value} {D : va_G} {tys : List (ClassId × FieldType)} {ws : va_W} {A0 : Nat → Prop} {H0 : Heap}
variable {y : MethodName} {bytes : ByteArray} {maxL nL mc ms n index : Nat} {ret : Option FieldType} {wy : List Cond} {rm : Room} {Ts : List Cond} {own C host owner : String} {x : MethodName} {b : Addr} {As : List Value}
theorem lc_Si {S : Type} {post : Int32 → S → Prop} {wo : S → va_W} (S0 : CallFix p m c cc nL s args Ts own)
    (hM : Met l y wy rm (va_Pc As (pP D tys ws H.size)) (va_Qi post (fun u => qB D (va_A ws H.size) (wo u)) (va_A ws H.size)) mc ms (va_A ws H.size))
    (cw : CallB R s args own index y bytes maxL ret wy rm mc ms n ∧ (Cond.static y).before args s = true) (hK : pK D tys s) (hP : va_P D vwCl ws H) (hD : va_D A0 ws) (hS : va_S A0 H0 H locs) (hA : ∀ q, H0.size ≤ q → A0 q)
    (hsz : ls.size = nL) (hn : As.length = n) (hst : st0 = As.reverse ++ rest) (hw : (rest.map fun v => v.category).sum ≤ 8) (hd : decode cc pc = .ok (.invokestatic index, 3)) (hf : cells + mc ≤ R.cells ∧ slots + ms ≤ R.slots)
    (kk : ∀ (r : Int32) (u : S) (H1 : Heap) (locs1 : List Loc), post r u → va_P D vwCl (wo u) H1 → va_D A0 (wo u) → va_S A0 H0 H1 locs1 → W p l e R s m args below meth c H1 locs1 (cells + mc) (slots + ms) Q (F0 m (pc + 3) ls (.int r :: rest))) :
    W p l e R s m args below meth c H locs cells slots Q (F0 m pc ls st0) := by
  have hF := wA_in hD hS hA
  refine va_calli (va_runS (As := As) (rest := rest) S0 hM cw ⟨pP_blind _ _ _ _ _, fun U hU hW => ⟨rfl, pP_of hU hW hP hK hD⟩⟩ rfl hn hsz hst (lv_room hw) hd hf) hS (fun q _ h => hF q h) hF (fun r u t H1 locs1 ht hvm hp hB hz hk hS1 => ?_)
  obtain ⟨hP1, hD1⟩ := hB
  rw [ht] at hP1
  exact kk r u H1 locs1 hp hP1 (hD1.weaken (fun _ q _ h => hF q.1 h)) hS1
theorem lc_Sl {S : Type} {post : Int64 → S → Prop} {wo : S → va_W} (S0 : CallFix p m c cc nL s args Ts own)
    (hM : Met l y wy rm (va_Pc As (pP D tys ws H.size)) (va_Ql post (fun u => qB D (va_A ws H.size) (wo u)) (va_A ws H.size)) mc ms (va_A ws H.size))
    (cw : CallB R s args own index y bytes maxL ret wy rm mc ms n ∧ (Cond.static y).before args s = true) (hK : pK D tys s) (hP : va_P D vwCl ws H) (hD : va_D A0 ws) (hS : va_S A0 H0 H locs) (hA : ∀ q, H0.size ≤ q → A0 q)
    (hsz : ls.size = nL) (hn : As.length = n) (hst : st0 = As.reverse ++ rest) (hw : (rest.map fun v => v.category).sum ≤ 8) (hd : decode cc pc = .ok (.invokestatic index, 3)) (hf : cells + mc ≤ R.cells ∧ slots + ms ≤ R.slots)
    (kk : ∀ (r : Int64) (u : S) (H1 : Heap) (locs1 : List Loc), post r u → va_P D vwCl (wo u) H1 → va_D A0 (wo u) → va_S A0 H0 H1 locs1 → W p l e R s m args below meth c H1 locs1 (cells + mc) (slots + ms) Q (F0 m (pc + 3) ls (.long r :: rest))) :
    W p l e R s m args below meth c H locs cells slots Q (F0 m pc ls st0) := by
  have hF := wA_in hD hS hA
  refine va_calll (va_runS (As := As) (rest := rest) S0 hM cw ⟨pP_blind _ _ _ _ _, fun U hU hW => ⟨rfl, pP_of hU hW hP hK hD⟩⟩ rfl hn hsz hst (lv_room hw) hd hf) hS (fun q _ h => hF q h) hF (fun r u t H1 locs1 ht hvm hp hB hz hk hS1 => ?_)
  obtain ⟨hP1, hD1⟩ := hB
  rw [ht] at hP1
  exact kk r u H1 locs1 hp hP1 (hD1.weaken (fun _ q _ h => hF q.1 h)) hS1
theorem lc_Sv {S : Type} {post : S → Prop} {wo : S → va_W} (S0 : CallFix p m c cc nL s args Ts own)
    (hM : Met l y wy rm (va_Pc As (pP D tys ws H.size)) (va_Qv post (fun u => qB D (va_A ws H.size) (wo u)) (va_A ws H.size)) mc ms (va_A ws H.size))
    (cw : CallB R s args own index y bytes maxL ret wy rm mc ms n ∧ (Cond.static y).before args s = true) (hK : pK D tys s) (hP : va_P D vwCl ws H) (hD : va_D A0 ws) (hS : va_S A0 H0 H locs) (hA : ∀ q, H0.size ≤ q → A0 q)
    (hsz : ls.size = nL) (hn : As.length = n) (hst : st0 = As.reverse ++ rest) (hw : (rest.map fun v => v.category).sum ≤ 8) (hd : decode cc pc = .ok (.invokestatic index, 3)) (hf : cells + mc ≤ R.cells ∧ slots + ms ≤ R.slots)
    (kk : ∀ (u : S) (H1 : Heap) (locs1 : List Loc), post u → va_P D vwCl (wo u) H1 → va_D A0 (wo u) → va_S A0 H0 H1 locs1 → W p l e R s m args below meth c H1 locs1 (cells + mc) (slots + ms) Q (F0 m (pc + 3) ls (rest))) :
    W p l e R s m args below meth c H locs cells slots Q (F0 m pc ls st0) := by
  have hF := wA_in hD hS hA
  refine va_callv (va_runS (As := As) (rest := rest) S0 hM cw ⟨pP_blind _ _ _ _ _, fun U hU hW => ⟨rfl, pP_of hU hW hP hK hD⟩⟩ rfl hn hsz hst (lv_room hw) hd hf) hS (fun q _ h => hF q h) hF (fun u t H1 locs1 ht hvm hp hB hz hk hS1 => ?_)
  obtain ⟨hP1, hD1⟩ := hB
  rw [ht] at hP1
  exact kk u H1 locs1 hp hP1 (hD1.weaken (fun _ q _ h => hF q.1 h)) hS1
theorem lc_Sr {S : Type} {post : S → Prop} {wo : S → Nat → va_W} (S0 : CallFix p m c cc nL s args Ts own)
    (hM : Met l y wy rm (va_Pc As (pP D tys ws H.size)) (va_Qr post (fun u a => qB D (va_A ws H.size) (wo u a)) (va_A ws H.size)) mc ms (va_A ws H.size))
    (cw : CallB R s args own index y bytes maxL ret wy rm mc ms n ∧ (Cond.static y).before args s = true) (hK : pK D tys s) (hP : va_P D vwCl ws H) (hD : va_D A0 ws) (hS : va_S A0 H0 H locs) (hA : ∀ q, H0.size ≤ q → A0 q)
    (hsz : ls.size = nL) (hn : As.length = n) (hst : st0 = As.reverse ++ rest) (hw : (rest.map fun v => v.category).sum ≤ 8) (hd : decode cc pc = .ok (.invokestatic index, 3)) (hf : cells + mc ≤ R.cells ∧ slots + ms ≤ R.slots)
    (kk : ∀ (u : S) (a : Nat) (H1 : Heap) (locs1 : List Loc), post u → va_P D vwCl (wo u a) H1 → va_D A0 (wo u a) → va_S A0 H0 H1 locs1 → W p l e R s m args below meth c H1 locs1 (cells + mc) (slots + ms) Q (F0 m (pc + 3) ls (.ref a :: rest))) :
    W p l e R s m args below meth c H locs cells slots Q (F0 m pc ls st0) := by
  have hF := wA_in hD hS hA
  refine va_callr (va_runS (As := As) (rest := rest) S0 hM cw ⟨pP_blind _ _ _ _ _, fun U hU hW => ⟨rfl, pP_of hU hW hP hK hD⟩⟩ rfl hn hsz hst (lv_room hw) hd hf) hS (fun q _ h => hF q h) hF (fun u a t H1 locs1 ht hvm hp hB hz hk hS1 => ?_)
  obtain ⟨hP1, hD1⟩ := hB
  rw [ht] at hP1
  exact kk u a H1 locs1 hp hP1 (hD1.weaken (fun _ q _ h => hF q.1 h)) hS1
theorem lc_Vi {S : Type} {post : Int32 → S → Prop} {wo : S → va_W} (S0 : CallFix p m c cc nL s args Ts own)
    (hM : Met l y wy rm (va_Pc (.ref b :: As) (pP D tys ws H.size)) (va_Qi post (fun u => qB D (va_A ws H.size) (wo u)) (va_A ws H.size)) mc ms (va_A ws H.size))
    (cw : CallW R s args own C index y bytes maxL ret wy rm mc ms n) (hrc : ∃ cell : Cell, H[b]? = some cell ∧ cell.vm.isStatics = false ∧ s.vm.findClass C = some cell.cls) (hK : pK D tys s) (hP : va_P D vwCl ws H) (hD : va_D A0 ws) (hS : va_S A0 H0 H locs) (hA : ∀ q, H0.size ≤ q → A0 q)
    (hsz : ls.size = nL) (hn : As.length = n) (hst : st0 = As.reverse ++ .ref b :: rest) (hw : (rest.map fun v => v.category).sum ≤ 8) (hd : decode cc pc = .ok (.invokevirtual index, 3)) (hf : cells + mc ≤ R.cells ∧ slots + ms ≤ R.slots)
    (kk : ∀ (r : Int32) (u : S) (H1 : Heap) (locs1 : List Loc), post r u → va_P D vwCl (wo u) H1 → va_D A0 (wo u) → va_S A0 H0 H1 locs1 → W p l e R s m args below meth c H1 locs1 (cells + mc) (slots + ms) Q (F0 m (pc + 3) ls (.int r :: rest))) :
    W p l e R s m args below meth c H locs cells slots Q (F0 m pc ls st0) := by
  have hF := wA_in hD hS hA
  refine va_calli (va_runV (As := As) (rest := rest) S0 hM cw ⟨pP_blind _ _ _ _ _, hrc, fun U hU hW => ⟨rfl, pP_of hU hW hP hK hD⟩⟩ rfl hn hsz hst (lv_room hw) hd hf) hS (fun q _ h => hF q h) hF (fun r u t H1 locs1 ht hvm hp hB hz hk hS1 => ?_)
  obtain ⟨hP1, hD1⟩ := hB
  rw [ht] at hP1
  exact kk r u H1 locs1 hp hP1 (hD1.weaken (fun _ q _ h => hF q.1 h)) hS1
theorem lc_Vl {S : Type} {post : Int64 → S → Prop} {wo : S → va_W} (S0 : CallFix p m c cc nL s args Ts own)
    (hM : Met l y wy rm (va_Pc (.ref b :: As) (pP D tys ws H.size)) (va_Ql post (fun u => qB D (va_A ws H.size) (wo u)) (va_A ws H.size)) mc ms (va_A ws H.size))
    (cw : CallW R s args own C index y bytes maxL ret wy rm mc ms n) (hrc : ∃ cell : Cell, H[b]? = some cell ∧ cell.vm.isStatics = false ∧ s.vm.findClass C = some cell.cls) (hK : pK D tys s) (hP : va_P D vwCl ws H) (hD : va_D A0 ws) (hS : va_S A0 H0 H locs) (hA : ∀ q, H0.size ≤ q → A0 q)
    (hsz : ls.size = nL) (hn : As.length = n) (hst : st0 = As.reverse ++ .ref b :: rest) (hw : (rest.map fun v => v.category).sum ≤ 8) (hd : decode cc pc = .ok (.invokevirtual index, 3)) (hf : cells + mc ≤ R.cells ∧ slots + ms ≤ R.slots)
    (kk : ∀ (r : Int64) (u : S) (H1 : Heap) (locs1 : List Loc), post r u → va_P D vwCl (wo u) H1 → va_D A0 (wo u) → va_S A0 H0 H1 locs1 → W p l e R s m args below meth c H1 locs1 (cells + mc) (slots + ms) Q (F0 m (pc + 3) ls (.long r :: rest))) :
    W p l e R s m args below meth c H locs cells slots Q (F0 m pc ls st0) := by
  have hF := wA_in hD hS hA
  refine va_calll (va_runV (As := As) (rest := rest) S0 hM cw ⟨pP_blind _ _ _ _ _, hrc, fun U hU hW => ⟨rfl, pP_of hU hW hP hK hD⟩⟩ rfl hn hsz hst (lv_room hw) hd hf) hS (fun q _ h => hF q h) hF (fun r u t H1 locs1 ht hvm hp hB hz hk hS1 => ?_)
  obtain ⟨hP1, hD1⟩ := hB
  rw [ht] at hP1
  exact kk r u H1 locs1 hp hP1 (hD1.weaken (fun _ q _ h => hF q.1 h)) hS1
theorem lc_Vv {S : Type} {post : S → Prop} {wo : S → va_W} (S0 : CallFix p m c cc nL s args Ts own)
    (hM : Met l y wy rm (va_Pc (.ref b :: As) (pP D tys ws H.size)) (va_Qv post (fun u => qB D (va_A ws H.size) (wo u)) (va_A ws H.size)) mc ms (va_A ws H.size))
    (cw : CallW R s args own C index y bytes maxL ret wy rm mc ms n) (hrc : ∃ cell : Cell, H[b]? = some cell ∧ cell.vm.isStatics = false ∧ s.vm.findClass C = some cell.cls) (hK : pK D tys s) (hP : va_P D vwCl ws H) (hD : va_D A0 ws) (hS : va_S A0 H0 H locs) (hA : ∀ q, H0.size ≤ q → A0 q)
    (hsz : ls.size = nL) (hn : As.length = n) (hst : st0 = As.reverse ++ .ref b :: rest) (hw : (rest.map fun v => v.category).sum ≤ 8) (hd : decode cc pc = .ok (.invokevirtual index, 3)) (hf : cells + mc ≤ R.cells ∧ slots + ms ≤ R.slots)
    (kk : ∀ (u : S) (H1 : Heap) (locs1 : List Loc), post u → va_P D vwCl (wo u) H1 → va_D A0 (wo u) → va_S A0 H0 H1 locs1 → W p l e R s m args below meth c H1 locs1 (cells + mc) (slots + ms) Q (F0 m (pc + 3) ls (rest))) :
    W p l e R s m args below meth c H locs cells slots Q (F0 m pc ls st0) := by
  have hF := wA_in hD hS hA
  refine va_callv (va_runV (As := As) (rest := rest) S0 hM cw ⟨pP_blind _ _ _ _ _, hrc, fun U hU hW => ⟨rfl, pP_of hU hW hP hK hD⟩⟩ rfl hn hsz hst (lv_room hw) hd hf) hS (fun q _ h => hF q h) hF (fun u t H1 locs1 ht hvm hp hB hz hk hS1 => ?_)
  obtain ⟨hP1, hD1⟩ := hB
  rw [ht] at hP1
  exact kk u H1 locs1 hp hP1 (hD1.weaken (fun _ q _ h => hF q.1 h)) hS1
theorem lc_Vr {S : Type} {post : S → Prop} {wo : S → Nat → va_W} (S0 : CallFix p m c cc nL s args Ts own)
    (hM : Met l y wy rm (va_Pc (.ref b :: As) (pP D tys ws H.size)) (va_Qr post (fun u a => qB D (va_A ws H.size) (wo u a)) (va_A ws H.size)) mc ms (va_A ws H.size))
    (cw : CallW R s args own C index y bytes maxL ret wy rm mc ms n) (hrc : ∃ cell : Cell, H[b]? = some cell ∧ cell.vm.isStatics = false ∧ s.vm.findClass C = some cell.cls) (hK : pK D tys s) (hP : va_P D vwCl ws H) (hD : va_D A0 ws) (hS : va_S A0 H0 H locs) (hA : ∀ q, H0.size ≤ q → A0 q)
    (hsz : ls.size = nL) (hn : As.length = n) (hst : st0 = As.reverse ++ .ref b :: rest) (hw : (rest.map fun v => v.category).sum ≤ 8) (hd : decode cc pc = .ok (.invokevirtual index, 3)) (hf : cells + mc ≤ R.cells ∧ slots + ms ≤ R.slots)
    (kk : ∀ (u : S) (a : Nat) (H1 : Heap) (locs1 : List Loc), post u → va_P D vwCl (wo u a) H1 → va_D A0 (wo u a) → va_S A0 H0 H1 locs1 → W p l e R s m args below meth c H1 locs1 (cells + mc) (slots + ms) Q (F0 m (pc + 3) ls (.ref a :: rest))) :
    W p l e R s m args below meth c H locs cells slots Q (F0 m pc ls st0) := by
  have hF := wA_in hD hS hA
  refine va_callr (va_runV (As := As) (rest := rest) S0 hM cw ⟨pP_blind _ _ _ _ _, hrc, fun U hU hW => ⟨rfl, pP_of hU hW hP hK hD⟩⟩ rfl hn hsz hst (lv_room hw) hd hf) hS (fun q _ h => hF q h) hF (fun u a t H1 locs1 ht hvm hp hB hz hk hS1 => ?_)
  obtain ⟨hP1, hD1⟩ := hB
  rw [ht] at hP1
  exact kk u a H1 locs1 hp hP1 (hD1.weaken (fun _ q _ h => hF q.1 h)) hS1
theorem lc_Ui {S : Type} {post : Int32 → S → Prop} {wo : S → va_W} (S0 : CallFix p m c cc nL s args Ts own)
    (hM : Met l y wy rm (va_Pc (.ref b :: As) (pP D tys ws H.size)) (va_Qi post (fun u => qB D (va_A ws H.size) (wo u)) (va_A ws H.size)) mc ms (va_A ws H.size))
    (cw : va_CU R s args own C owner index x y bytes maxL ret wy rm mc ms n) (hrc : ∃ cell : Cell, H[b]? = some cell ∧ cell.vm.isStatics = false ∧ s.vm.findClass C = some cell.cls) (hK : pK D tys s) (hP : va_P D vwCl ws H) (hD : va_D A0 ws) (hS : va_S A0 H0 H locs) (hA : ∀ q, H0.size ≤ q → A0 q)
    (hsz : ls.size = nL) (hn : As.length = n) (hst : st0 = As.reverse ++ .ref b :: rest) (hw : (rest.map fun v => v.category).sum ≤ 8) (hd : decode cc pc = .ok (.invokevirtual index, 3)) (hf : cells + mc ≤ R.cells ∧ slots + ms ≤ R.slots)
    (kk : ∀ (r : Int32) (u : S) (H1 : Heap) (locs1 : List Loc), post r u → va_P D vwCl (wo u) H1 → va_D A0 (wo u) → va_S A0 H0 H1 locs1 → W p l e R s m args below meth c H1 locs1 (cells + mc) (slots + ms) Q (F0 m (pc + 3) ls (.int r :: rest))) :
    W p l e R s m args below meth c H locs cells slots Q (F0 m pc ls st0) := by
  have hF := wA_in hD hS hA
  refine va_calli (va_runU (As := As) (rest := rest) S0 hM cw ⟨pP_blind _ _ _ _ _, hrc, fun U hU hW => ⟨rfl, pP_of hU hW hP hK hD⟩⟩ rfl hn hsz hst (lv_room hw) hd hf) hS (fun q _ h => hF q h) hF (fun r u t H1 locs1 ht hvm hp hB hz hk hS1 => ?_)
  obtain ⟨hP1, hD1⟩ := hB
  rw [ht] at hP1
  exact kk r u H1 locs1 hp hP1 (hD1.weaken (fun _ q _ h => hF q.1 h)) hS1
theorem lc_Ul {S : Type} {post : Int64 → S → Prop} {wo : S → va_W} (S0 : CallFix p m c cc nL s args Ts own)
    (hM : Met l y wy rm (va_Pc (.ref b :: As) (pP D tys ws H.size)) (va_Ql post (fun u => qB D (va_A ws H.size) (wo u)) (va_A ws H.size)) mc ms (va_A ws H.size))
    (cw : va_CU R s args own C owner index x y bytes maxL ret wy rm mc ms n) (hrc : ∃ cell : Cell, H[b]? = some cell ∧ cell.vm.isStatics = false ∧ s.vm.findClass C = some cell.cls) (hK : pK D tys s) (hP : va_P D vwCl ws H) (hD : va_D A0 ws) (hS : va_S A0 H0 H locs) (hA : ∀ q, H0.size ≤ q → A0 q)
    (hsz : ls.size = nL) (hn : As.length = n) (hst : st0 = As.reverse ++ .ref b :: rest) (hw : (rest.map fun v => v.category).sum ≤ 8) (hd : decode cc pc = .ok (.invokevirtual index, 3)) (hf : cells + mc ≤ R.cells ∧ slots + ms ≤ R.slots)
    (kk : ∀ (r : Int64) (u : S) (H1 : Heap) (locs1 : List Loc), post r u → va_P D vwCl (wo u) H1 → va_D A0 (wo u) → va_S A0 H0 H1 locs1 → W p l e R s m args below meth c H1 locs1 (cells + mc) (slots + ms) Q (F0 m (pc + 3) ls (.long r :: rest))) :
    W p l e R s m args below meth c H locs cells slots Q (F0 m pc ls st0) := by
  have hF := wA_in hD hS hA
  refine va_calll (va_runU (As := As) (rest := rest) S0 hM cw ⟨pP_blind _ _ _ _ _, hrc, fun U hU hW => ⟨rfl, pP_of hU hW hP hK hD⟩⟩ rfl hn hsz hst (lv_room hw) hd hf) hS (fun q _ h => hF q h) hF (fun r u t H1 locs1 ht hvm hp hB hz hk hS1 => ?_)
  obtain ⟨hP1, hD1⟩ := hB
  rw [ht] at hP1
  exact kk r u H1 locs1 hp hP1 (hD1.weaken (fun _ q _ h => hF q.1 h)) hS1
theorem lc_Uv {S : Type} {post : S → Prop} {wo : S → va_W} (S0 : CallFix p m c cc nL s args Ts own)
    (hM : Met l y wy rm (va_Pc (.ref b :: As) (pP D tys ws H.size)) (va_Qv post (fun u => qB D (va_A ws H.size) (wo u)) (va_A ws H.size)) mc ms (va_A ws H.size))
    (cw : va_CU R s args own C owner index x y bytes maxL ret wy rm mc ms n) (hrc : ∃ cell : Cell, H[b]? = some cell ∧ cell.vm.isStatics = false ∧ s.vm.findClass C = some cell.cls) (hK : pK D tys s) (hP : va_P D vwCl ws H) (hD : va_D A0 ws) (hS : va_S A0 H0 H locs) (hA : ∀ q, H0.size ≤ q → A0 q)
    (hsz : ls.size = nL) (hn : As.length = n) (hst : st0 = As.reverse ++ .ref b :: rest) (hw : (rest.map fun v => v.category).sum ≤ 8) (hd : decode cc pc = .ok (.invokevirtual index, 3)) (hf : cells + mc ≤ R.cells ∧ slots + ms ≤ R.slots)
    (kk : ∀ (u : S) (H1 : Heap) (locs1 : List Loc), post u → va_P D vwCl (wo u) H1 → va_D A0 (wo u) → va_S A0 H0 H1 locs1 → W p l e R s m args below meth c H1 locs1 (cells + mc) (slots + ms) Q (F0 m (pc + 3) ls (rest))) :
    W p l e R s m args below meth c H locs cells slots Q (F0 m pc ls st0) := by
  have hF := wA_in hD hS hA
  refine va_callv (va_runU (As := As) (rest := rest) S0 hM cw ⟨pP_blind _ _ _ _ _, hrc, fun U hU hW => ⟨rfl, pP_of hU hW hP hK hD⟩⟩ rfl hn hsz hst (lv_room hw) hd hf) hS (fun q _ h => hF q h) hF (fun u t H1 locs1 ht hvm hp hB hz hk hS1 => ?_)
  obtain ⟨hP1, hD1⟩ := hB
  rw [ht] at hP1
  exact kk u H1 locs1 hp hP1 (hD1.weaken (fun _ q _ h => hF q.1 h)) hS1
theorem lc_Ur {S : Type} {post : S → Prop} {wo : S → Nat → va_W} (S0 : CallFix p m c cc nL s args Ts own)
    (hM : Met l y wy rm (va_Pc (.ref b :: As) (pP D tys ws H.size)) (va_Qr post (fun u a => qB D (va_A ws H.size) (wo u a)) (va_A ws H.size)) mc ms (va_A ws H.size))
    (cw : va_CU R s args own C owner index x y bytes maxL ret wy rm mc ms n) (hrc : ∃ cell : Cell, H[b]? = some cell ∧ cell.vm.isStatics = false ∧ s.vm.findClass C = some cell.cls) (hK : pK D tys s) (hP : va_P D vwCl ws H) (hD : va_D A0 ws) (hS : va_S A0 H0 H locs) (hA : ∀ q, H0.size ≤ q → A0 q)
    (hsz : ls.size = nL) (hn : As.length = n) (hst : st0 = As.reverse ++ .ref b :: rest) (hw : (rest.map fun v => v.category).sum ≤ 8) (hd : decode cc pc = .ok (.invokevirtual index, 3)) (hf : cells + mc ≤ R.cells ∧ slots + ms ≤ R.slots)
    (kk : ∀ (u : S) (a : Nat) (H1 : Heap) (locs1 : List Loc), post u → va_P D vwCl (wo u a) H1 → va_D A0 (wo u a) → va_S A0 H0 H1 locs1 → W p l e R s m args below meth c H1 locs1 (cells + mc) (slots + ms) Q (F0 m (pc + 3) ls (.ref a :: rest))) :
    W p l e R s m args below meth c H locs cells slots Q (F0 m pc ls st0) := by
  have hF := wA_in hD hS hA
  refine va_callr (va_runU (As := As) (rest := rest) S0 hM cw ⟨pP_blind _ _ _ _ _, hrc, fun U hU hW => ⟨rfl, pP_of hU hW hP hK hD⟩⟩ rfl hn hsz hst (lv_room hw) hd hf) hS (fun q _ h => hF q h) hF (fun u a t H1 locs1 ht hvm hp hB hz hk hS1 => ?_)
  obtain ⟨hP1, hD1⟩ := hB
  rw [ht] at hP1
  exact kk u a H1 locs1 hp hP1 (hD1.weaken (fun _ q _ h => hF q.1 h)) hS1
theorem lc_Iv {S : Type} {post : S → Prop} {wo : S → va_W} (S0 : CallFix p m c cc nL s args Ts own)
    (hM : Met l y wy rm (va_Pc (.ref b :: As) (pP D tys ws H.size)) (va_Qv post (fun u => qB D (va_A ws H.size) (wo u)) (va_A ws H.size)) mc ms (va_A ws H.size))
    (cw : CallB R s args own index y bytes maxL none wy rm mc ms n ∧ y.name = "<init>" ∧ (Cond.instanceMethod y).before args s = true) (hK : pK D tys s) (hP : va_P D vwCl ws H) (hD : va_D A0 ws) (hS : va_S A0 H0 H locs) (hA : ∀ q, H0.size ≤ q → A0 q)
    (hsz : ls.size = nL) (hn : As.length = n) (hst : st0 = As.reverse ++ .ref b :: rest) (hw : (rest.map fun v => v.category).sum ≤ 8) (hd : decode cc pc = .ok (.invokespecial index, 3)) (hf : cells + mc ≤ R.cells ∧ slots + ms ≤ R.slots)
    (kk : ∀ (u : S) (H1 : Heap) (locs1 : List Loc), post u → va_P D vwCl (wo u) H1 → va_D A0 (wo u) → va_S A0 H0 H1 locs1 → W p l e R s m args below meth c H1 locs1 (cells + mc) (slots + ms) Q (F0 m (pc + 3) ls (rest))) :
    W p l e R s m args below meth c H locs cells slots Q (F0 m pc ls st0) := by
  have hF := wA_in hD hS hA
  refine va_callv (va_runI (As := As) (rest := rest) S0 hM cw ⟨pP_blind _ _ _ _ _, fun U hU hW => ⟨rfl, pP_of hU hW hP hK hD⟩⟩ rfl hn hsz hst (lv_room hw) hd hf) hS (fun q _ h => hF q h) hF (fun u t H1 locs1 ht hvm hp hB hz hk hS1 => ?_)
  obtain ⟨hP1, hD1⟩ := hB
  rw [ht] at hP1
  exact kk u H1 locs1 hp hP1 (hD1.weaken (fun _ q _ h => hF q.1 h)) hS1
theorem lc_INv {S : Type} {post : S → Prop} {wo : S → va_W} (S0 : CallFix p m c cc nL s args Ts own)
    (hM : Met l y wy rm (va_Pc (.ref b :: As) (pP D tys ws H.size)) (va_Qv post (fun u => qB D (va_A ws H.size) (wo u)) (va_A ws H.size)) mc ms (va_A ws H.size))
    (cw : va_CN R s args own index y host bytes maxL none wy rm mc ms n ∧ y.name = "<init>" ∧ (Cond.instanceMethod y).before args s = true) (hK : pK D tys s) (hP : va_P D vwCl ws H) (hD : va_D A0 ws) (hS : va_S A0 H0 H locs) (hA : ∀ q, H0.size ≤ q → A0 q)
    (hsz : ls.size = nL) (hn : As.length = n) (hst : st0 = As.reverse ++ .ref b :: rest) (hw : (rest.map fun v => v.category).sum ≤ 8) (hd : decode cc pc = .ok (.invokespecial index, 3)) (hf : cells + mc ≤ R.cells ∧ slots + ms ≤ R.slots)
    (kk : ∀ (u : S) (H1 : Heap) (locs1 : List Loc), post u → va_P D vwCl (wo u) H1 → va_D A0 (wo u) → va_S A0 H0 H1 locs1 → W p l e R s m args below meth c H1 locs1 (cells + mc) (slots + ms) Q (F0 m (pc + 3) ls (rest))) :
    W p l e R s m args below meth c H locs cells slots Q (F0 m pc ls st0) := by
  have hF := wA_in hD hS hA
  refine va_callv (va_runIN (As := As) (rest := rest) S0 hM cw ⟨pP_blind _ _ _ _ _, fun U hU hW => ⟨rfl, pP_of hU hW hP hK hD⟩⟩ rfl hn hsz hst (lv_room hw) hd hf) hS (fun q _ h => hF q h) hF (fun u t H1 locs1 ht hvm hp hB hz hk hS1 => ?_)
  obtain ⟨hP1, hD1⟩ := hB
  rw [ht] at hP1
  exact kk u H1 locs1 hp hP1 (hD1.weaken (fun _ q _ h => hF q.1 h)) hS1
theorem wp_iff {D : va_G} {ws : va_W} {H : Heap} : va_P D vwCl ws H ↔ ∀ q ∈ ws, va_at D vwCl q H := by
  constructor
  · intro h q hq
    obtain ⟨k, hk⟩ := List.getElem?_of_mem hq
    exact h k q hk
  · intro h k q hk
    exact h q (List.mem_of_getElem? hk)
theorem wd_iff {A : Nat → Prop} {ws : va_W} : va_D A ws ↔ (ws.map (fun q => q.1)).Nodup ∧ ∀ q ∈ ws, A q.1 := by
  constructor
  · intro h
    refine ⟨?_, fun q hq => ?_⟩
    · unfold List.Nodup
      rw [List.pairwise_iff_getElem]
      intro i j hi hj hij e
      rw [List.getElem_map, List.getElem_map] at e
      rw [List.length_map] at hi hj
      have := h.1 i j _ _ (List.getElem?_eq_getElem hi) (List.getElem?_eq_getElem hj) e
      omega
    · obtain ⟨k, hk⟩ := List.getElem?_of_mem hq
      exact h.2 k q hk
  · intro h
    refine ⟨fun i j p q hi hj e => ?_, fun k q hk => h.2 q (List.mem_of_getElem? hk)⟩
    have h1 : (ws.map (fun q => q.1))[i]? = some p.1 := by rw [List.getElem?_map, hi]; rfl
    have h2 : (ws.map (fun q => q.1))[j]? = some p.1 := by rw [List.getElem?_map, hj, e]; rfl
    have hi' := (List.getElem?_eq_some_iff.mp h1).1
    exact (List.getElem?_inj hi' h.1).mp (h1.trans h2.symm)
theorem wp_perm {D : va_G} {ws ws' : va_W} {H : Heap} (h : va_P D vwCl ws H) (hp : ws.Perm ws') : va_P D vwCl ws' H := wp_iff.mpr (fun q hq => wp_iff.mp h q (hp.mem_iff.mpr hq))
theorem wd_perm {A : Nat → Prop} {ws ws' : va_W} (h : va_D A ws) (hp : ws.Perm ws') : va_D A ws' := by
  obtain ⟨h1, h2⟩ := wd_iff.mp h
  exact wd_iff.mpr ⟨(hp.map _).nodup_iff.mp h1, fun q hq => h2 q (hp.mem_iff.mpr hq)⟩
theorem wp_pull {D : va_G} {ws : va_W} {x : Nat × va_E} {H : Heap} (l1 : va_W) (h : va_P D vwCl (l1 ++ x :: ws) H) : va_P D vwCl (x :: (l1 ++ ws)) H := wp_perm h List.perm_middle
theorem wd_pull {A : Nat → Prop} {ws : va_W} {x : Nat × va_E} (l1 : va_W) (h : va_D A (l1 ++ x :: ws)) : va_D A (x :: (l1 ++ ws)) := wd_perm h List.perm_middle
theorem wp_at {D : va_G} {ws : va_W} {H : Heap} {a n : Nat} {cA : ClassId} {f f' : Nat → Int32} (k : Nat) (h : va_P D vwCl ws H) (he : ws[k]? = some (a, .inl (cA, n, .inl f))) (hf : ∀ j, j < n → f j = f' j) : va_P D vwCl (ws.set k (a, .inl (cA, n, .inl f'))) H := by
  intro i q hq
  rw [List.getElem?_set] at hq
  by_cases e : k = i
  · subst e
    rw [if_pos rfl] at hq
    by_cases hl : k < ws.length
    · rw [if_pos hl] at hq
      cases hq
      have h1 := h k _ he
      show H[a]? = some (vp_cell cA (n, .inl f'))
      rw [show vp_cell cA (n, .inl f') = vp_cell cA (n, .inl f) from ?_]
      · exact h1
      · rw [vp_cell_i, vp_cell_i]
        unfold arrV
        congr 1
        apply Array.ext
        · simp
        · intro j h1 h2
          simp at h1 h2
          simp [hf j h1]
    · rw [if_neg hl] at hq; cases hq
  · rw [if_neg e] at hq
    exact h i q hq
theorem wp_atq {D : va_G} {ws : va_W} {H : Heap} {a n : Nat} {cA : ClassId} {f f' : Nat → Option Nat} (k : Nat) (h : va_P D vwCl ws H) (he : ws[k]? = some (a, .inl (cA, n, .inr (.inr (.inr (.inr f)))))) (hf : ∀ j, j < n → f j = f' j) : va_P D vwCl (ws.set k (a, .inl (cA, n, .inr (.inr (.inr (.inr f')))))) H := by
  intro i q hq
  rw [List.getElem?_set] at hq
  by_cases e : k = i
  · subst e
    rw [if_pos rfl] at hq
    by_cases hl : k < ws.length
    · rw [if_pos hl] at hq
      cases hq
      have h1 := h k _ he
      show H[a]? = some (vp_cell cA (n, .inr (.inr (.inr (.inr f')))))
      rw [show vp_cell cA (n, .inr (.inr (.inr (.inr f')))) = vp_cell cA (n, .inr (.inr (.inr (.inr f)))) from ?_]
      · exact h1
      · rw [vp_cell_q, vp_cell_q]
        unfold arrV
        congr 1
        apply Array.ext
        · simp
        · intro j h1 h2
          simp at h1 h2
          simp [hf j h1]
    · rw [if_neg hl] at hq; cases hq
  · rw [if_neg e] at hq
    exact h i q hq
theorem wd_front {A : Nat → Prop} {ws : va_W} {x : Nat × va_E} (h : va_D A (ws ++ [x])) : va_D A (x :: ws) := by
  refine h.by (fun k => if k = 0 then ws.length else k - 1) (fun k q hk => ?_) (fun i j hi hj e => ?_)
  · cases k with
    | zero => rw [if_pos rfl, List.getElem?_append_right (Nat.le_refl _), Nat.sub_self]; exact hk
    | succ k =>
      have hk1 : ws[k]? = some q := hk
      rw [if_neg (by omega), Nat.add_sub_cancel, List.getElem?_append_left (List.getElem?_eq_some_iff.mp hk1).1]
      exact hk1
  · rw [List.length_cons] at hi hj
    by_cases h1 : i = 0 <;> by_cases h2 : j = 0 <;> simp only [h1, h2, if_true, if_false] at e <;> omega
theorem wp_front {D : va_G} {ws : va_W} {x : Nat × va_E} {H : Heap} (h : va_P D vwCl (ws ++ [x]) H) : va_P D vwCl (x :: ws) H := by
  refine h.by (fun k => if k = 0 then ws.length else k - 1) (fun k q hk => ?_)
  cases k with
  | zero => rw [if_pos rfl, List.getElem?_append_right (Nat.le_refl _), Nat.sub_self]; exact hk
  | succ k =>
    have hk1 : ws[k]? = some q := hk
    rw [if_neg (by omega), Nat.add_sub_cancel, List.getElem?_append_left (List.getElem?_eq_some_iff.mp hk1).1]
    exact hk1
variable {g : Nat → ClassId}
theorem lx_newi (hx : p.tables.exec = Jvm.exec) (hb : c.code = cc) (harr : (Cond.arrayClass .int).before args s = true) (hK : va_K D vwCl (tyl g) s) (hP : va_P D vwCl ws H) (hD : va_D A0 ws) (hS : va_S A0 H0 H locs) (hA : ∀ q, H0.size ≤ q → A0 q)
    {N : Nat} (hN : N < 2 ^ 20) (hc : cells + 1 ≤ R.cells) (hs : slots + N ≤ R.slots) (hd : decode cc pc = .ok (.newarray .int, 2))
    (kk : ∀ (q : Nat) (H1 : Heap), va_P D vwCl ((q, .inl (g 0, N, .inl (fun _ => nI 0))) :: ws) H1 → va_D A0 ((q, .inl (g 0, N, .inl (fun _ => nI 0))) :: ws) → va_S A0 H0 H1 locs → W p l e R s m args below meth c H1 locs (cells + 1) (slots + N) Q (F0 m (pc + 2) ls (.ref q :: rest))) :
    W p l e R s m args below meth c H locs cells slots Q (F0 m pc ls (.int (nI N) :: rest)) := by
  refine va_newa (atype := .int) (ty := .int) (N' := N) (a0 := (N, .inl (fun _ => nI 0))) hx hb harr rfl hK hP hD hS hA (fun cA => rfl) (nI_pos (by omega)) (nI_clamp (by omega)) (by show N * 4 ≤ _; omega) hc hs hd (fun q cA H1 hK1 hP1 hD1 hS1 => ?_)
  have e : cA = g 0 := Option.some.inj ((hK1.2 4 (cA, .int) rfl).2.symm.trans (hK1.2 0 (g 0, .int) rfl).2)
  subst e
  exact kk q H1 (wp_front hP1) (wd_front hD1) hS1
theorem lx_newl (hx : p.tables.exec = Jvm.exec) (hb : c.code = cc) (harr : (Cond.arrayClass .long).before args s = true) (hK : va_K D vwCl (tyl g) s) (hP : va_P D vwCl ws H) (hD : va_D A0 ws) (hS : va_S A0 H0 H locs) (hA : ∀ q, H0.size ≤ q → A0 q)
    {N : Nat} (hN : N < 2 ^ 20) (hc : cells + 1 ≤ R.cells) (hs : slots + N ≤ R.slots) (hd : decode cc pc = .ok (.newarray .long, 2))
    (kk : ∀ (q : Nat) (H1 : Heap), va_P D vwCl ((q, .inl (g 1, N, .inr (.inl (fun _ => lN 0)))) :: ws) H1 → va_D A0 ((q, .inl (g 1, N, .inr (.inl (fun _ => lN 0)))) :: ws) → va_S A0 H0 H1 locs → W p l e R s m args below meth c H1 locs (cells + 1) (slots + N) Q (F0 m (pc + 2) ls (.ref q :: rest))) :
    W p l e R s m args below meth c H locs cells slots Q (F0 m pc ls (.int (nI N) :: rest)) := by
  refine va_newa (atype := .long) (ty := .long) (N' := N) (a0 := (N, .inr (.inl (fun _ => lN 0)))) hx hb harr rfl hK hP hD hS hA (fun cA => rfl) (nI_pos (by omega)) (nI_clamp (by omega)) (by show N * 8 ≤ _; omega) hc hs hd (fun q cA H1 hK1 hP1 hD1 hS1 => ?_)
  have e : cA = g 1 := Option.some.inj ((hK1.2 4 (cA, .long) rfl).2.symm.trans (hK1.2 1 (g 1, .long) rfl).2)
  subst e
  exact kk q H1 (wp_front hP1) (wd_front hD1) hS1
theorem lx_newz (hx : p.tables.exec = Jvm.exec) (hb : c.code = cc) (harr : (Cond.arrayClass .boolean).before args s = true) (hK : va_K D vwCl (tyl g) s) (hP : va_P D vwCl ws H) (hD : va_D A0 ws) (hS : va_S A0 H0 H locs) (hA : ∀ q, H0.size ≤ q → A0 q)
    {N : Nat} (hN : N < 2 ^ 20) (hc : cells + 1 ≤ R.cells) (hs : slots + N ≤ R.slots) (hd : decode cc pc = .ok (.newarray .boolean, 2))
    (kk : ∀ (q : Nat) (H1 : Heap), va_P D vwCl ((q, .inl (g 2, N, .inl (fun _ => nI 0))) :: ws) H1 → va_D A0 ((q, .inl (g 2, N, .inl (fun _ => nI 0))) :: ws) → va_S A0 H0 H1 locs → W p l e R s m args below meth c H1 locs (cells + 1) (slots + N) Q (F0 m (pc + 2) ls (.ref q :: rest))) :
    W p l e R s m args below meth c H locs cells slots Q (F0 m pc ls (.int (nI N) :: rest)) := by
  refine va_newa (atype := .boolean) (ty := .boolean) (N' := N) (a0 := (N, .inl (fun _ => nI 0))) hx hb harr rfl hK hP hD hS hA (fun cA => rfl) (nI_pos (by omega)) (nI_clamp (by omega)) (by show N * 1 ≤ _; omega) hc hs hd (fun q cA H1 hK1 hP1 hD1 hS1 => ?_)
  have e : cA = g 2 := Option.some.inj ((hK1.2 4 (cA, .boolean) rfl).2.symm.trans (hK1.2 2 (g 2, .boolean) rfl).2)
  subst e
  exact kk q H1 (wp_front hP1) (wd_front hD1) hS1
theorem lx_newq (hx : p.tables.exec = Jvm.exec) (hb : c.code = cc) (hown : s.vm.findClass own = some m.cls) (hcl : (Cond.classLink own index "CheckCodes$Lane").before args s = true) (hAO : va_AO "CheckCodes$Lane" s) (hK : va_K D vwCl (tyl g) s) (hP : va_P D vwCl ws H) (hD : va_D A0 ws) (hS : va_S A0 H0 H locs) (hA : ∀ q, H0.size ≤ q → A0 q)
    {N : Nat} (hN : N < 2 ^ 20) (hc : cells + 1 ≤ R.cells) (hs : slots + N ≤ R.slots) (hd : decode cc pc = .ok (.anewarray index, 3))
    (kk : ∀ (q : Nat) (H1 : Heap), va_P D vwCl ((q, .inl (g 3, N, .inr (.inr (.inr (.inr (fun _ => none)))))) :: ws) H1 → va_D A0 ((q, .inl (g 3, N, .inr (.inr (.inr (.inr (fun _ => none)))))) :: ws) → va_S A0 H0 H1 locs → W p l e R s m args below meth c H1 locs (cells + 1) (slots + N) Q (F0 m (pc + 3) ls (.ref q :: rest))) :
    W p l e R s m args below meth c H locs cells slots Q (F0 m pc ls (.int (nI N) :: rest)) := by
  refine va_newq (N' := N) hx hb hown hcl hAO hK hP hD hS hA (nI_pos (by omega)) (nI_clamp (by omega)) (by omega) hc hs hd (fun q cA H1 hK1 hP1 hD1 hS1 => ?_)
  obtain ⟨_, _, -, -, -, h1⟩ := (hK1.2 4 (cA, .object "CheckCodes$Lane") rfl).2
  obtain ⟨_, _, -, -, -, h2⟩ := (hK1.2 3 (g 3, .object "CheckCodes$Lane") rfl).2
  have e : cA = g 3 := Option.some.inj (h1.symm.trans h2)
  subst e
  exact kk q H1 (wp_front hP1) (wd_front hD1) hS1
theorem lx_aald (hx : p.tables.exec = Jvm.exec) (hb : c.code = cc) (hK : va_K D vwCl tys s) (hP : va_P D vwCl ws H) (q0 t0 : Nat) {cA : ClassId} {C : String} {n : Nat} {f : Nat → Option Nat} {a : Nat} (ha : ws[q0]? = some (a, .inl (cA, n, .inr (.inr (.inr (.inr f)))))) (ht : tys[t0]? = some (cA, .object C)) {j : Nat} (hj : j < n) (hn : n < 2 ^ 31) {v : Nat} (hv : f j = some v) (hd : decode cc pc = .ok (.aaload, 1)) (k : W p l e R s m args below meth c H locs cells slots Q (F0 m (pc + 1) ls (.ref v :: rest))) : W p l e R s m args below meth c H locs cells slots Q (F0 m pc ls (.int (nI j) :: .ref a :: rest)) := by
  refine va_aldq hx hb hK hP q0 t0 ha ht (vp_in_nI hj hn) hd ?_
  rw [nI_clamp (by omega), hv]
  exact k
theorem lx_aast (hx : p.tables.exec = Jvm.exec) (hb : c.code = cc) (hK : va_K D vwCl tys s) (hP : va_P D vwCl ws H) (hD : va_D A0 ws) (hS : va_S A0 H0 H locs) (q0 t0 qk ci : Nat) {cA : ClassId} {r : vw_C} {n v a : Nat} {vs : List Value} {f f' : Nat → Option Nat} (ha : ws[q0]? = some (a, .inl (cA, n, .inr (.inr (.inr (.inr f)))))) (ht : tys[t0]? = some (cA, .object r.1)) (hv : ws[qk]? = some (v, .inr (ci, vs))) (hc : vwCl[ci]? = some r) {j : Nat} (hj : j < n) (hn : n < 2 ^ 31) (hf : va_up f j (some v) = f') (hd : decode cc pc = .ok (.aastore, 1))
    (kk : ∀ (H1 : Heap) (locs1 : List Loc), va_P D vwCl (ws.set q0 (a, .inl (cA, n, .inr (.inr (.inr (.inr f')))))) H1 → va_D A0 (ws.set q0 (a, .inl (cA, n, .inr (.inr (.inr (.inr f')))))) → va_S A0 H0 H1 locs1 → W p l e R s m args below meth c H1 locs1 cells slots Q (F0 m (pc + 1) ls rest)) : W p l e R s m args below meth c H locs cells slots Q (F0 m pc ls (.ref v :: .int (nI j) :: .ref a :: rest)) := by
  subst hf
  refine va_astq hx hb hK hP hD hS q0 t0 qk ci ha ht hv hc (vp_in_nI hj hn) hd (fun H1 locs1 h1 h2 h3 => ?_)
  rw [nI_clamp (by omega)] at h1 h2
  exact kk H1 locs1 h1 h2 h3
theorem lx_new (hx : p.tables.exec = Jvm.exec) (hb : c.code = cc) {T : u_T} {N ci : Nat} {Ts : List Cond} (hts : ∀ w ∈ Ts, w.before args s = true) (hin : ∀ w ∈ u_ws C T N, w ∈ Ts) (ty : Nat → FieldType) (hty : ∀ k, k < N → parseFieldDescriptor (T k).2.2.1 = some (ty k)) (hown : s.vm.findClass own = some m.cls) (hcl : (Cond.classLink own index C).before args s = true) (hinst : (Cond.instantiable C N).before args s = true) (hini : (Cond.initialized C).before args s = true)
    (hK : va_K D vwCl tys s) (hP : va_P D vwCl ws H) (hD : va_D A0 ws) (hS : va_S A0 H0 H locs) (hA : ∀ q, H0.size ≤ q → A0 q) (hc : vwCl[ci]? = some (C, T, N)) {fs : List Value} (hfs : ∀ j, j < N → defaultValue (ty j) = vp_V fs j) (hcells : cells + 1 ≤ R.cells) (hslots : slots + N ≤ R.slots) (hd : decode cc pc = .ok (.new index, 3))
    (kk : ∀ (q : Nat) (H1 : Heap), va_P D vwCl ((q, .inr (ci, fs)) :: ws) H1 → va_D A0 ((q, .inr (ci, fs)) :: ws) → va_S A0 H0 H1 locs → W p l e R s m args below meth c H1 locs (cells + 1) (slots + N) Q (F0 m (pc + 3) ls (.ref q :: rest))) :
    W p l e R s m args below meth c H locs cells slots Q (F0 m pc ls rest) :=
  va_new hx hb hts hin ty hty hown hcl hinst hini hK hP hD hS hA hc hfs hcells hslots hd (fun q H1 hP1 hD1 hS1 => kk q H1 (wp_front hP1) (wd_front hD1) hS1)
end LC
end
section
/-- the exclusive or of f k over the bits k < n of x that are 1 -/
def xs (f : Nat → Nat) (x : Nat) : Nat → Nat
  | 0 => 0
  | n + 1 => xs f x n ^^^ (if x.testBit n then f n else 0)
theorem xs_stop {f : Nat → Nat} {x k : Nat} (h : x >>> k = 0) : ∀ n, k ≤ n → xs f x n = xs f x k := by
  intro n hn
  obtain ⟨d, rfl⟩ : ∃ d, n = k + d := ⟨n - k, by omega⟩
  induction d with
  | zero => rfl
  | succ d ih =>
    have hb : x.testBit (k + d) = false := by
      rw [← Nat.testBit_shiftRight, h]
      exact Nat.zero_testBit d
    show xs f x (k + d) ^^^ (if x.testBit (k + d) then f (k + d) else 0) = xs f x k
    rw [hb, ih (by omega)]
    simp
theorem xs_bit (x k : Nat) : x.testBit k = decide (x >>> k % 2 = 1) := by
  rw [Nat.testBit_eq_decide_div_mod_eq, Nat.shiftRight_eq_div_pow]
theorem xs_even {f : Nat → Nat} {x k : Nat} (hx : x >>> k < 2 ^ 64) (h : lN (x >>> k % 2) = lN 0) : xs f x (k + 1) = xs f x k := by
  have h1 := xl_inj (by omega) (by decide) h
  show xs f x k ^^^ (if x.testBit k then f k else 0) = xs f x k
  rw [xs_bit, h1]
  simp
theorem xs_odd {f : Nat → Nat} {x k : Nat} (hx : x >>> k < 2 ^ 64) (h : ¬ lN (x >>> k % 2) = lN 0) : xs f x (k + 1) = xs f x k ^^^ f k := by
  have h1 : x >>> k % 2 = 1 := by
    rcases Nat.mod_two_eq_zero_or_one (x >>> k) with h0 | h0
    · rw [h0] at h; exact absurd rfl h
    · exact h0
  show xs f x k ^^^ (if x.testBit k then f k else 0) = _
  rw [xs_bit, h1]
  simp
/-- a place or NONE -/
def oI (o : Option Nat) : Int32 := match o with
  | none => -1
  | some k => nI k
theorem oI_none {o : Option Nat} (h : ∀ k, o = some k → k < 2 ^ 31) : oI o = -1 ↔ o = none := by
  constructor
  · intro h1
    cases o with
    | none => rfl
    | some k =>
      have h2 := h k rfl
      have h3 : (nI k).toInt = (-1 : Int32).toInt := by rw [show nI k = -1 from h1]
      rw [nI_toInt h2] at h3
      have h4 : (-1 : Int32).toInt = -1 := by decide
      omega
  · intro h1
    rw [h1]
    rfl
/-- how many bits a check of b bits has -/
def lr (b : Nat) : Nat := if b = 0 then 0 else if b ≤ 4 then 4 else if b ≤ 11 then 5 else if b ≤ 26 then 6 else 7
/-- the greatest row sum with one column more -/
def gs (f : Nat → Nat) (c : Nat) : Nat → Nat
  | 0 => 0
  | n + 1 => max (gs f c n) (f n + c >>> n % 2)
theorem upd_lt (f h : Nat → Nat) (k : Nat) : upd (fun j => nI (if j < k then h j else f j)) k (nI (h k)) = fun j => nI (if j < k + 1 then h j else f j) := by
  funext j
  unfold upd
  by_cases e : j = k
  · subst e; simp
  · have : (j < k + 1) = (j < k) := by simp; omega
    simp [e, this]
theorem upd_fill (f : Nat → Int32) (v : Int32) (k : Nat) : upd (fun j => if j < k then v else f j) k v = fun j => if j < k + 1 then v else f j := by
  funext j
  unfold upd
  by_cases e : j = k
  · subst e; simp
  · have : (j < k + 1) = (j < k) := by simp; omega
    simp [e, this]
theorem lr_stop {b k : Nat} (h0 : b ≠ 0) (h : k = 4 ∨ k = 5 ∨ k = 6 ∨ k = 7) (hl : (k ≤ 4 ∨ 4 < b) ∧ (k ≤ 5 ∨ 11 < b) ∧ (k ≤ 6 ∨ 26 < b)) (hs : k = 7 ∨ b ≤ 1 <<< (k - 1) - k) : nI k = nI (lr b) := by
  congr 1
  unfold lr
  rcases h with rfl | rfl | rfl | rfl <;> simp at hs hl ⊢ <;> (repeat' split) <;> omega
end
section
theorem m_190 : Cond.fieldLink R_T 7 R_T "wordFlips" "J" ∈ wA := in_wA (List.mem_of_getElem? (i := 190) rfl) rfl
theorem m_194 : Cond.fieldLink R_T 13 R_T "checkFlips" "I" ∈ wA := in_wA (List.mem_of_getElem? (i := 194) rfl) rfl
theorem m_139 : Cond.fieldLink R_K 16 R_K "marks" "[I" ∈ wA := in_wA (List.mem_of_getElem? (i := 139) rfl) rfl
abbrev w_T_clear : List Cond := .code y_T_clear b_T_clear 1 none :: wA
abbrev rm_T_clear : Room := { frames := 0, cells := 0, slots := 0, locals := 0 }
theorem d_T_clear_0 : decode b_T_clear 0 = .ok (.aload_n 0, 1) := by decide +kernel
theorem d_T_clear_1 : decode b_T_clear 1 = .ok (.lconst 0, 1) := by decide +kernel
theorem d_T_clear_2 : decode b_T_clear 2 = .ok (.putfield 7, 3) := by decide +kernel
theorem d_T_clear_5 : decode b_T_clear 5 = .ok (.aload_n 0, 1) := by decide +kernel
theorem d_T_clear_6 : decode b_T_clear 6 = .ok (.iconst 0, 1) := by decide +kernel
theorem d_T_clear_7 : decode b_T_clear 7 = .ok (.putfield 13, 3) := by decide +kernel
theorem d_T_clear_10 : decode b_T_clear 10 = .ok (.return_, 1) := by decide +kernel
abbrev w_K_sumOf : List Cond := .code y_K_sumOf b_K_sumOf 7 (some .int) :: wA
abbrev rm_K_sumOf : Room := { frames := 0, cells := 0, slots := 0, locals := 0 }
theorem d_K_sumOf_0 : decode b_K_sumOf 0 = .ok (.iconst 0, 1) := by decide +kernel
theorem d_K_sumOf_1 : decode b_K_sumOf 1 = .ok (.istore_n 3, 1) := by decide +kernel
theorem d_K_sumOf_2 : decode b_K_sumOf 2 = .ok (.lload_n 1, 1) := by decide +kernel
theorem d_K_sumOf_3 : decode b_K_sumOf 3 = .ok (.lstore 4, 2) := by decide +kernel
theorem d_K_sumOf_5 : decode b_K_sumOf 5 = .ok (.iconst 0, 1) := by decide +kernel
theorem d_K_sumOf_6 : decode b_K_sumOf 6 = .ok (.istore 6, 2) := by decide +kernel
theorem d_K_sumOf_8 : decode b_K_sumOf 8 = .ok (.iload 6, 2) := by decide +kernel
theorem d_K_sumOf_10 : decode b_K_sumOf 10 = .ok (.aload_n 0, 1) := by decide +kernel
theorem d_K_sumOf_11 : decode b_K_sumOf 11 = .ok (.getfield 16, 3) := by decide +kernel
theorem d_K_sumOf_14 : decode b_K_sumOf 14 = .ok (.arraylength, 1) := by decide +kernel
theorem d_K_sumOf_15 : decode b_K_sumOf 15 = .ok (.if_icmp .ge 41, 3) := by decide +kernel
theorem d_K_sumOf_18 : decode b_K_sumOf 18 = .ok (.lload 4, 2) := by decide +kernel
theorem d_K_sumOf_20 : decode b_K_sumOf 20 = .ok (.lconst 0, 1) := by decide +kernel
theorem d_K_sumOf_21 : decode b_K_sumOf 21 = .ok (.lcmp, 1) := by decide +kernel
theorem d_K_sumOf_22 : decode b_K_sumOf 22 = .ok (.ifCond .eq 34, 3) := by decide +kernel
theorem d_K_sumOf_25 : decode b_K_sumOf 25 = .ok (.lload 4, 2) := by decide +kernel
theorem d_K_sumOf_27 : decode b_K_sumOf 27 = .ok (.lconst 1, 1) := by decide +kernel
theorem d_K_sumOf_28 : decode b_K_sumOf 28 = .ok (.land, 1) := by decide +kernel
theorem d_K_sumOf_29 : decode b_K_sumOf 29 = .ok (.lconst 0, 1) := by decide +kernel
theorem d_K_sumOf_30 : decode b_K_sumOf 30 = .ok (.lcmp, 1) := by decide +kernel
theorem d_K_sumOf_31 : decode b_K_sumOf 31 = .ok (.ifCond .eq 13, 3) := by decide +kernel
theorem d_K_sumOf_34 : decode b_K_sumOf 34 = .ok (.iload_n 3, 1) := by decide +kernel
theorem d_K_sumOf_35 : decode b_K_sumOf 35 = .ok (.aload_n 0, 1) := by decide +kernel
theorem d_K_sumOf_36 : decode b_K_sumOf 36 = .ok (.getfield 16, 3) := by decide +kernel
theorem d_K_sumOf_39 : decode b_K_sumOf 39 = .ok (.iload 6, 2) := by decide +kernel
theorem d_K_sumOf_41 : decode b_K_sumOf 41 = .ok (.iaload, 1) := by decide +kernel
theorem d_K_sumOf_42 : decode b_K_sumOf 42 = .ok (.ixor, 1) := by decide +kernel
theorem d_K_sumOf_43 : decode b_K_sumOf 43 = .ok (.istore_n 3, 1) := by decide +kernel
theorem d_K_sumOf_44 : decode b_K_sumOf 44 = .ok (.lload 4, 2) := by decide +kernel
theorem d_K_sumOf_46 : decode b_K_sumOf 46 = .ok (.iconst 1, 1) := by decide +kernel
theorem d_K_sumOf_47 : decode b_K_sumOf 47 = .ok (.lushr, 1) := by decide +kernel
theorem d_K_sumOf_48 : decode b_K_sumOf 48 = .ok (.lstore 4, 2) := by decide +kernel
theorem d_K_sumOf_50 : decode b_K_sumOf 50 = .ok (.iinc 6 1, 3) := by decide +kernel
theorem d_K_sumOf_53 : decode b_K_sumOf 53 = .ok (.goto (-45), 3) := by decide +kernel
theorem d_K_sumOf_56 : decode b_K_sumOf 56 = .ok (.iload_n 3, 1) := by decide +kernel
theorem d_K_sumOf_57 : decode b_K_sumOf 57 = .ok (.ireturn, 1) := by decide +kernel
set_option maxHeartbeats 4000000 in
set_option maxRecDepth 100000 in
/-- Turn.clear() -/
theorem c_T_clear (l : Launch) (D : va_G) (g : Nat → ClassId) (sz : Nat) (o : Nat) (a : Int64) (b : Int32) (wr : va_W) : Met l y_T_clear w_T_clear rm_T_clear (va_Pc [.ref o] (pP D (tyl g) ((o, .inr (5, [.long (a), .int (b)])) :: wr) sz)) (va_Qv (fun (u : Unit) => True) (fun u => qB D (va_A ((o, .inr (5, [.long (a), .int (b)])) :: wr) sz) ((o, .inr (5, [.long (lN 0), .int (nI 0)])) :: wr)) (va_A ((o, .inr (5, [.long (a), .int (b)])) :: wr) sz)) 0 0 (va_A ((o, .inr (5, [.long (a), .int (b)])) :: wr) sz) := by
  refine Met.ofW (cc := b_T_clear) (maxL := 1) (ret := none) (by decide +kernel) rfl ?_
  intro p e s m args below meth c s₁ Bq hml hv
  have hx := Bq.exec
  have hb := Bq.bytes
  have hr := Bq.returns
  have hts : ∀ w ∈ wA, w.before args s = true := fun w h => atoms_spec (ws := w_T_clear) Bq.pre w (List.mem_cons_of_mem _ h)
  have hown : s.vm.findClass R_T = some m.cls := findClass_of_methodNamed Bq.named
  have hlocks := Bq.notSynchronized
  obtain ⟨rfl, hsz, hP, hKK, hD0⟩ := hv
  have hK := hKK.1
  subst hsz
  have hD := hD0.self (sz := s.heap.size)
  generalize hAe : va_A ((o, .inr (5, [.long (a), .int (b)])) :: wr) s.heap.size = A at hD ⊢
  have hA : ∀ q : Nat, s.heap.size ≤ q → A q := fun q h => by rw [← hAe]; exact Or.inr h
  have hS : va_S A s.heap s.heap [] := va_S.rf
  have hl := lv_entry ([.ref o]) (n := 1) (Nat.le_of_ble_eq_true rfl)
  rw [lg_entry_eq]
  generalize (lg_sl ([.ref o]) ++ List.replicate (1 - (lg_sl ([.ref o])).length) Slot.unset).toArray = ls at hl ⊢
  have hl : lv_has ls 1 [(0, .ref o)] := hl
  generalize hQ : MQ below (va_Qv (fun (u : Unit) => True) (fun u => qB D (A) ((o, .inr (5, [.long (lN 0), .int (nI 0)])) :: wr)) (A)) [.ref o].toArray s 0 0 A = Q
  refine lv_aload_n hx hb d_T_clear_0 rfl (lv_at hl 0 rfl) ?_
  refine lv_lconst (v := lN 0) hx hb d_T_clear_1 (by decide) ?_
  refine va_put (D := D) (ci := 5) (v := .long (lN 0)) (ty := .long) (C := R_T) (T := F_T) (N := 2) hx hb hts i_T tf_T tf_T_ok nf_T hown hK hP hD hS 0 rfl rfl 0 (by decide) (hts _ m_190) (fun _ h9 => h9) rfl (by decide +kernel) rfl rfl (Nat.le_of_ble_eq_true rfl) d_T_clear_2 (fun H locs hP hD hS => ?_)
  have hP : va_P D vwCl ((o, .inr (5, [.long (lN 0), .int (b)])) :: wr) H := hP
  have hD : va_D A ((o, .inr (5, [.long (lN 0), .int (b)])) :: wr) := hD
  refine lv_aload_n hx hb d_T_clear_5 rfl (lv_at hl 0 rfl) ?_
  refine lv_iconst (v := nI 0) hx hb d_T_clear_6 (by decide) ?_
  refine va_put (D := D) (ci := 5) (v := .int (nI 0)) (ty := .int) (C := R_T) (T := F_T) (N := 2) hx hb hts i_T tf_T tf_T_ok nf_T hown hK hP hD hS 0 rfl rfl 1 (by decide) (hts _ m_194) (fun _ h9 => h9) rfl (by decide +kernel) rfl rfl (Nat.le_of_ble_eq_true rfl) d_T_clear_7 (fun H locs hP hD hS => ?_)
  have hP : va_P D vwCl ((o, .inr (5, [.long (lN 0), .int (nI 0)])) :: wr) H := hP
  have hD : va_D A ((o, .inr (5, [.long (lN 0), .int (nI 0)])) :: wr) := hD
  rw [← hQ]
  refine W.vret hx hb hr ?_ hS.2.2 d_T_clear_10
  exact fun t ht hW => ⟨⟨(), rfl, trivial, by rw [ht]; exact hP, hD⟩, hS.F ht⟩
set_option maxHeartbeats 4000000 in
set_option maxRecDepth 100000 in
/-- Code.sumOf(word): the exclusive or of the marks of its bits -/
theorem c_K_sumOf_S (l : Launch) (D : va_G) (g : Nat → ClassId) (sz : Nat) (ws : va_W) (k0 k1 o a : Nat) (x0 x1 : Int32) (x3 : Nat) (M : Nat) (f : Nat → Nat) (x : Nat) (h0 : ws[k0]? = some (o, .inr (1, [.int (x0), .int (x1), .ref a, .ref x3]))) (h1 : ws[k1]? = some (a, .inl (g 0, M, .inl (fun k => nI (f k))))) (hM : M < 64) (hx9 : x < 2 ^ 64) : Met l y_K_sumOf w_K_sumOf rm_K_sumOf (va_Pc [.ref o, .long (lN x)] (pP D (tyl g) (ws) sz)) (va_Qi (fun (r : Int32) (u : Unit) => r = nI (xs f x M)) (fun u => qB D (va_A (ws) sz) (ws)) (va_A (ws) sz)) 0 0 (va_A (ws) sz) := by
  refine Met.ofW (cc := b_K_sumOf) (maxL := 7) (ret := (some .int)) (by decide +kernel) rfl ?_
  intro p e s m args below meth c s₁ Bq hml hv
  have hx := Bq.exec
  have hb := Bq.bytes
  have hr := Bq.returns
  have hts : ∀ w ∈ wA, w.before args s = true := fun w h => atoms_spec (ws := w_K_sumOf) Bq.pre w (List.mem_cons_of_mem _ h)
  have hown : s.vm.findClass R_K = some m.cls := findClass_of_methodNamed Bq.named
  have hlocks := Bq.notSynchronized
  obtain ⟨rfl, hsz, hP, hKK, hD0⟩ := hv
  have hK := hKK.1
  subst hsz
  have hD := hD0.self (sz := s.heap.size)
  generalize hAe : va_A (ws) s.heap.size = A at hD ⊢
  have hA : ∀ q : Nat, s.heap.size ≤ q → A q := fun q h => by rw [← hAe]; exact Or.inr h
  have hS : va_S A s.heap s.heap [] := va_S.rf
  have hl := lv_entry ([.ref o, .long (lN x)]) (n := 7) (Nat.le_of_ble_eq_true rfl)
  rw [lg_entry_eq]
  generalize (lg_sl ([.ref o, .long (lN x)]) ++ List.replicate (7 - (lg_sl ([.ref o, .long (lN x)])).length) Slot.unset).toArray = ls at hl ⊢
  have hl : lv_has ls 7 [(0, .ref o), (1, .long (lN x))] := hl
  generalize hQ : MQ below (va_Qi (fun (r : Int32) (u : Unit) => r = nI (xs f x M)) (fun u => qB D (A) (ws)) (A)) [.ref o, .long (lN x)].toArray s 0 0 A = Q
  have lp8 : ∀ (n : Nat) (k : Nat) (ls : Array Slot) (H : Heap) (locs : List Loc), (M + 1 ≤ k + n) → (k ≤ M) → lv_has ls 7 [(0, .ref o), (3, .int (nI (xs f x k))), (4, .long (lN (x >>> k))), (6, .int (nI k))] → va_P D vwCl (ws) H → va_D A (ws) → va_S A s.heap H locs → W p l e (headSpec w_K_sumOf rm_K_sumOf).room s m [.ref o, .long (lN x)].toArray below meth c H locs 0 0 Q (F0 m 8 ls []) := by
    intro n
    induction n with
    | zero => intro k ls H locs hfu hk _ _ _ _; exact absurd hfu (by omega)
    | succ n ih =>
      intro k ls H locs hfu hk hl hP hD hS
      refine lv_iload hx hb d_K_sumOf_8 (lv_at hl 3 rfl) ?_
      refine lv_aload_n hx hb d_K_sumOf_10 rfl (lv_at hl 0 rfl) ?_
      refine va_get (D := D) (ci := 1) (v := .ref a) (C := R_S) (T := F_S) (N := 4) hx hb hts i_S hown hK hP k0 h0 rfl 2 (by decide) (hts _ m_139) (fun _ h9 => h9) rfl d_K_sumOf_11 ?_
      refine va_alen hx hb hK hP k1 0 h1 (v := nI M) rfl (rfl) d_K_sumOf_14 ?_
      refine lx_icmp_ge (tgt := 56) hx hb d_K_sumOf_15 (by decide) (by omega) (by omega) (fun c15 => ?_) (fun c15 => ?_)
      · skip
        obtain rfl : k = M := by omega
        refine lv_iload_n hx hb d_K_sumOf_56 rfl (lv_at hl 1 rfl) ?_
        rw [← hQ]
        refine W.iret (v := nI (xs f x k)) hx hb hr ?_ hS.2.2 d_K_sumOf_57
        exact fun t ht hW => ⟨⟨nI (xs f x k), (), rfl, rfl, by rw [ht]; exact hP, hD⟩, hS.F ht⟩
      · skip
        refine lv_lload hx hb d_K_sumOf_18 (lv_at hl 2 rfl) ?_
        refine lv_lconst (v := lN 0) hx hb d_K_sumOf_20 (by decide) ?_
        refine lx_lcmp_eq (tgt := 56) hx hb d_K_sumOf_21 d_K_sumOf_22 (by decide) (fun c22 => ?_) (fun c22 => ?_)
        · skip
          refine lv_iload_n hx hb d_K_sumOf_56 rfl (lv_at hl 1 rfl) ?_
          rw [← hQ]
          refine W.iret (v := nI (xs f x k)) hx hb hr ?_ hS.2.2 d_K_sumOf_57
          exact fun t ht hW => ⟨⟨nI (xs f x k), (), rfl, (by rw [xs_stop (xl_inj (Nat.lt_of_le_of_lt (Nat.shiftRight_le x k) hx9) (by decide) c22) M (by omega)]), by rw [ht]; exact hP, hD⟩, hS.F ht⟩
        · skip
          have j44 : ∀  (ls : Array Slot) (H : Heap) (locs : List Loc), lv_has ls 7 [(0, .ref o), (3, .int (nI (xs f x (k + 1)))), (4, .long (lN (x >>> k))), (6, .int (nI k))] → va_P D vwCl (ws) H → va_D A (ws) → va_S A s.heap H locs → W p l e (headSpec w_K_sumOf rm_K_sumOf).room s m [.ref o, .long (lN x)].toArray below meth c H locs 0 0 Q (F0 m 44 ls []) := by
            intro  ls H locs  hl hP hD hS
            refine lv_lload hx hb d_K_sumOf_44 (lv_at hl 2 rfl) ?_
            refine lv_iconst (v := nI 1) hx hb d_K_sumOf_46 (by decide) ?_
            refine lv_lushr (v := lN (x >>> (k + 1))) hx hb d_K_sumOf_47 ((xl_ushr (k := 1) (by have := Nat.shiftRight_le x k; omega) (by decide)).trans (by rw [Nat.shiftRight_add])) ?_
            refine lv_lstore (lv' := [(4, .long (lN (x >>> (k + 1)))), (0, .ref o), (3, .int (nI (xs f x (k + 1)))), (6, .int (nI k))]) hx hb d_K_sumOf_48 hl (by decide) rfl (fun ls hl => ?_)
            refine lv_iinc (v := nI (k + 1)) (lv' := [(6, .int (nI (k + 1))), (4, .long (lN (x >>> (k + 1)))), (0, .ref o), (3, .int (nI (xs f x (k + 1))))]) hx hb d_K_sumOf_50 hl (k := 3) rfl (nI_1 k) (by decide) rfl (fun ls hl => ?_)
            refine lv_goto (tgt := 8) hx hb d_K_sumOf_53 (by decide) ?_
            exact ih (k + 1) _ _ _ (by omega) (by omega) (lv_sub hl [2, 3, 1, 0] rfl) hP hD hS
          refine lv_lload hx hb d_K_sumOf_25 (lv_at hl 2 rfl) ?_
          refine lv_lconst (v := lN 1) hx hb d_K_sumOf_27 (by decide) ?_
          refine lx_land (z := lN (x >>> k % 2)) hx hb d_K_sumOf_28 ((xl_and _ _).trans (by rw [Nat.and_one_is_mod])) ?_
          refine lv_lconst (v := lN 0) hx hb d_K_sumOf_29 (by decide) ?_
          refine lx_lcmp_eq (tgt := 44) hx hb d_K_sumOf_30 d_K_sumOf_31 (by decide) (fun c31 => ?_) (fun c31 => ?_)
          · skip
            have hl : lv_has ls 7 [(0, .ref o), (3, .int (nI (xs f x (k + 1)))), (4, .long (lN (x >>> k))), (6, .int (nI k))] := by rw [xs_even (Nat.lt_of_le_of_lt (Nat.shiftRight_le x k) hx9) c31]; exact hl
            exact j44  _ _ _  (lv_sub hl [0, 1, 2, 3] rfl) hP hD hS
          · skip
            refine lv_iload_n hx hb d_K_sumOf_34 rfl (lv_at hl 1 rfl) ?_
            refine lv_aload_n hx hb d_K_sumOf_35 rfl (lv_at hl 0 rfl) ?_
            refine va_get (D := D) (ci := 1) (v := .ref a) (C := R_S) (T := F_S) (N := 4) hx hb hts i_S hown hK hP k0 h0 rfl 2 (by decide) (hts _ m_139) (fun _ h9 => h9) rfl d_K_sumOf_36 ?_
            refine lv_iload hx hb d_K_sumOf_39 (lv_at hl 3 rfl) ?_
            refine lx_iald (v := nI (f k)) hx hb hK hP k1 0 h1 rfl (j := k) (by omega) (by omega) (rfl) d_K_sumOf_41 ?_
            refine lx_ixor (z := nI (xs f x (k + 1))) hx hb d_K_sumOf_42 ((xn_xor _ _).trans (by rw [xs_odd (Nat.lt_of_le_of_lt (Nat.shiftRight_le x k) hx9) c31])) ?_
            refine lv_istore_n (lv' := [(3, .int (nI (xs f x (k + 1)))), (0, .ref o), (4, .long (lN (x >>> k))), (6, .int (nI k))]) hx hb d_K_sumOf_43 rfl hl (by decide) rfl (fun ls hl => ?_)
            exact j44  _ _ _  (lv_sub hl [1, 0, 2, 3] rfl) hP hD hS
  refine lv_iconst (v := nI 0) hx hb d_K_sumOf_0 (by decide) ?_
  refine lv_istore_n (lv' := [(3, .int (nI 0)), (0, .ref o), (1, .long (lN x))]) hx hb d_K_sumOf_1 rfl hl (by decide) rfl (fun ls hl => ?_)
  refine lv_lload_n hx hb d_K_sumOf_2 rfl (lv_at hl 2 rfl) ?_
  refine lv_lstore (lv' := [(4, .long (lN x)), (3, .int (nI 0)), (0, .ref o), (1, .long (lN x))]) hx hb d_K_sumOf_3 hl (by decide) rfl (fun ls hl => ?_)
  refine lv_iconst (v := nI 0) hx hb d_K_sumOf_5 (by decide) ?_
  refine lv_istore (lv' := [(6, .int (nI 0)), (4, .long (lN x)), (3, .int (nI 0)), (0, .ref o), (1, .long (lN x))]) hx hb d_K_sumOf_6 hl (by decide) rfl (fun ls hl => ?_)
  have hl : lv_has ls 7 [(6, .int (nI 0)), (4, .long (lN (x >>> 0))), (3, .int (nI 0)), (0, .ref o), (1, .long (lN x))] := by rw [Nat.shiftRight_zero]; exact hl
  exact lp8 (M + 1) 0 _ _ _ (by omega) (by omega) (lv_sub hl [3, 2, 1, 0] rfl) hP hD hS
set_option maxHeartbeats 4000000 in
set_option maxRecDepth 100000 in
/-- Code.sumOf(word): the exclusive or of the marks of its bits -/
theorem c_K_sumOf_P (l : Launch) (D : va_G) (g : Nat → ClassId) (sz : Nat) (ws : va_W) (k0 k1 o a : Nat) (x0 x1 : Int32) (M : Nat) (f : Nat → Nat) (x : Nat) (h0 : ws[k0]? = some (o, .inr (2, [.int (x0), .int (x1), .ref a]))) (h1 : ws[k1]? = some (a, .inl (g 0, M, .inl (fun k => nI (f k))))) (hM : M < 64) (hx9 : x < 2 ^ 64) : Met l y_K_sumOf w_K_sumOf rm_K_sumOf (va_Pc [.ref o, .long (lN x)] (pP D (tyl g) (ws) sz)) (va_Qi (fun (r : Int32) (u : Unit) => r = nI (xs f x M)) (fun u => qB D (va_A (ws) sz) (ws)) (va_A (ws) sz)) 0 0 (va_A (ws) sz) := by
  refine Met.ofW (cc := b_K_sumOf) (maxL := 7) (ret := (some .int)) (by decide +kernel) rfl ?_
  intro p e s m args below meth c s₁ Bq hml hv
  have hx := Bq.exec
  have hb := Bq.bytes
  have hr := Bq.returns
  have hts : ∀ w ∈ wA, w.before args s = true := fun w h => atoms_spec (ws := w_K_sumOf) Bq.pre w (List.mem_cons_of_mem _ h)
  have hown : s.vm.findClass R_K = some m.cls := findClass_of_methodNamed Bq.named
  have hlocks := Bq.notSynchronized
  obtain ⟨rfl, hsz, hP, hKK, hD0⟩ := hv
  have hK := hKK.1
  subst hsz
  have hD := hD0.self (sz := s.heap.size)
  generalize hAe : va_A (ws) s.heap.size = A at hD ⊢
  have hA : ∀ q : Nat, s.heap.size ≤ q → A q := fun q h => by rw [← hAe]; exact Or.inr h
  have hS : va_S A s.heap s.heap [] := va_S.rf
  have hl := lv_entry ([.ref o, .long (lN x)]) (n := 7) (Nat.le_of_ble_eq_true rfl)
  rw [lg_entry_eq]
  generalize (lg_sl ([.ref o, .long (lN x)]) ++ List.replicate (7 - (lg_sl ([.ref o, .long (lN x)])).length) Slot.unset).toArray = ls at hl ⊢
  have hl : lv_has ls 7 [(0, .ref o), (1, .long (lN x))] := hl
  generalize hQ : MQ below (va_Qi (fun (r : Int32) (u : Unit) => r = nI (xs f x M)) (fun u => qB D (A) (ws)) (A)) [.ref o, .long (lN x)].toArray s 0 0 A = Q
  have lp8 : ∀ (n : Nat) (k : Nat) (ls : Array Slot) (H : Heap) (locs : List Loc), (M + 1 ≤ k + n) → (k ≤ M) → lv_has ls 7 [(0, .ref o), (3, .int (nI (xs f x k))), (4, .long (lN (x >>> k))), (6, .int (nI k))] → va_P D vwCl (ws) H → va_D A (ws) → va_S A s.heap H locs → W p l e (headSpec w_K_sumOf rm_K_sumOf).room s m [.ref o, .long (lN x)].toArray below meth c H locs 0 0 Q (F0 m 8 ls []) := by
    intro n
    induction n with
    | zero => intro k ls H locs hfu hk _ _ _ _; exact absurd hfu (by omega)
    | succ n ih =>
      intro k ls H locs hfu hk hl hP hD hS
      refine lv_iload hx hb d_K_sumOf_8 (lv_at hl 3 rfl) ?_
      refine lv_aload_n hx hb d_K_sumOf_10 rfl (lv_at hl 0 rfl) ?_
      refine va_get (D := D) (ci := 2) (v := .ref a) (C := R_P) (T := F_P) (N := 3) hx hb hts i_P hown hK hP k0 h0 rfl 2 (by decide) (hts _ m_139) (fun _ h9 => h9) rfl d_K_sumOf_11 ?_
      refine va_alen hx hb hK hP k1 0 h1 (v := nI M) rfl (rfl) d_K_sumOf_14 ?_
      refine lx_icmp_ge (tgt := 56) hx hb d_K_sumOf_15 (by decide) (by omega) (by omega) (fun c15 => ?_) (fun c15 => ?_)
      · skip
        obtain rfl : k = M := by omega
        refine lv_iload_n hx hb d_K_sumOf_56 rfl (lv_at hl 1 rfl) ?_
        rw [← hQ]
        refine W.iret (v := nI (xs f x k)) hx hb hr ?_ hS.2.2 d_K_sumOf_57
        exact fun t ht hW => ⟨⟨nI (xs f x k), (), rfl, rfl, by rw [ht]; exact hP, hD⟩, hS.F ht⟩
      · skip
        refine lv_lload hx hb d_K_sumOf_18 (lv_at hl 2 rfl) ?_
        refine lv_lconst (v := lN 0) hx hb d_K_sumOf_20 (by decide) ?_
        refine lx_lcmp_eq (tgt := 56) hx hb d_K_sumOf_21 d_K_sumOf_22 (by decide) (fun c22 => ?_) (fun c22 => ?_)
        · skip
          refine lv_iload_n hx hb d_K_sumOf_56 rfl (lv_at hl 1 rfl) ?_
          rw [← hQ]
          refine W.iret (v := nI (xs f x k)) hx hb hr ?_ hS.2.2 d_K_sumOf_57
          exact fun t ht hW => ⟨⟨nI (xs f x k), (), rfl, (by rw [xs_stop (xl_inj (Nat.lt_of_le_of_lt (Nat.shiftRight_le x k) hx9) (by decide) c22) M (by omega)]), by rw [ht]; exact hP, hD⟩, hS.F ht⟩
        · skip
          have j44 : ∀  (ls : Array Slot) (H : Heap) (locs : List Loc), lv_has ls 7 [(0, .ref o), (3, .int (nI (xs f x (k + 1)))), (4, .long (lN (x >>> k))), (6, .int (nI k))] → va_P D vwCl (ws) H → va_D A (ws) → va_S A s.heap H locs → W p l e (headSpec w_K_sumOf rm_K_sumOf).room s m [.ref o, .long (lN x)].toArray below meth c H locs 0 0 Q (F0 m 44 ls []) := by
            intro  ls H locs  hl hP hD hS
            refine lv_lload hx hb d_K_sumOf_44 (lv_at hl 2 rfl) ?_
            refine lv_iconst (v := nI 1) hx hb d_K_sumOf_46 (by decide) ?_
            refine lv_lushr (v := lN (x >>> (k + 1))) hx hb d_K_sumOf_47 ((xl_ushr (k := 1) (by have := Nat.shiftRight_le x k; omega) (by decide)).trans (by rw [Nat.shiftRight_add])) ?_
            refine lv_lstore (lv' := [(4, .long (lN (x >>> (k + 1)))), (0, .ref o), (3, .int (nI (xs f x (k + 1)))), (6, .int (nI k))]) hx hb d_K_sumOf_48 hl (by decide) rfl (fun ls hl => ?_)
            refine lv_iinc (v := nI (k + 1)) (lv' := [(6, .int (nI (k + 1))), (4, .long (lN (x >>> (k + 1)))), (0, .ref o), (3, .int (nI (xs f x (k + 1))))]) hx hb d_K_sumOf_50 hl (k := 3) rfl (nI_1 k) (by decide) rfl (fun ls hl => ?_)
            refine lv_goto (tgt := 8) hx hb d_K_sumOf_53 (by decide) ?_
            exact ih (k + 1) _ _ _ (by omega) (by omega) (lv_sub hl [2, 3, 1, 0] rfl) hP hD hS
          refine lv_lload hx hb d_K_sumOf_25 (lv_at hl 2 rfl) ?_
          refine lv_lconst (v := lN 1) hx hb d_K_sumOf_27 (by decide) ?_
          refine lx_land (z := lN (x >>> k % 2)) hx hb d_K_sumOf_28 ((xl_and _ _).trans (by rw [Nat.and_one_is_mod])) ?_
          refine lv_lconst (v := lN 0) hx hb d_K_sumOf_29 (by decide) ?_
          refine lx_lcmp_eq (tgt := 44) hx hb d_K_sumOf_30 d_K_sumOf_31 (by decide) (fun c31 => ?_) (fun c31 => ?_)
          · skip
            have hl : lv_has ls 7 [(0, .ref o), (3, .int (nI (xs f x (k + 1)))), (4, .long (lN (x >>> k))), (6, .int (nI k))] := by rw [xs_even (Nat.lt_of_le_of_lt (Nat.shiftRight_le x k) hx9) c31]; exact hl
            exact j44  _ _ _  (lv_sub hl [0, 1, 2, 3] rfl) hP hD hS
          · skip
            refine lv_iload_n hx hb d_K_sumOf_34 rfl (lv_at hl 1 rfl) ?_
            refine lv_aload_n hx hb d_K_sumOf_35 rfl (lv_at hl 0 rfl) ?_
            refine va_get (D := D) (ci := 2) (v := .ref a) (C := R_P) (T := F_P) (N := 3) hx hb hts i_P hown hK hP k0 h0 rfl 2 (by decide) (hts _ m_139) (fun _ h9 => h9) rfl d_K_sumOf_36 ?_
            refine lv_iload hx hb d_K_sumOf_39 (lv_at hl 3 rfl) ?_
            refine lx_iald (v := nI (f k)) hx hb hK hP k1 0 h1 rfl (j := k) (by omega) (by omega) (rfl) d_K_sumOf_41 ?_
            refine lx_ixor (z := nI (xs f x (k + 1))) hx hb d_K_sumOf_42 ((xn_xor _ _).trans (by rw [xs_odd (Nat.lt_of_le_of_lt (Nat.shiftRight_le x k) hx9) c31])) ?_
            refine lv_istore_n (lv' := [(3, .int (nI (xs f x (k + 1)))), (0, .ref o), (4, .long (lN (x >>> k))), (6, .int (nI k))]) hx hb d_K_sumOf_43 rfl hl (by decide) rfl (fun ls hl => ?_)
            exact j44  _ _ _  (lv_sub hl [1, 0, 2, 3] rfl) hP hD hS
  refine lv_iconst (v := nI 0) hx hb d_K_sumOf_0 (by decide) ?_
  refine lv_istore_n (lv' := [(3, .int (nI 0)), (0, .ref o), (1, .long (lN x))]) hx hb d_K_sumOf_1 rfl hl (by decide) rfl (fun ls hl => ?_)
  refine lv_lload_n hx hb d_K_sumOf_2 rfl (lv_at hl 2 rfl) ?_
  refine lv_lstore (lv' := [(4, .long (lN x)), (3, .int (nI 0)), (0, .ref o), (1, .long (lN x))]) hx hb d_K_sumOf_3 hl (by decide) rfl (fun ls hl => ?_)
  refine lv_iconst (v := nI 0) hx hb d_K_sumOf_5 (by decide) ?_
  refine lv_istore (lv' := [(6, .int (nI 0)), (4, .long (lN x)), (3, .int (nI 0)), (0, .ref o), (1, .long (lN x))]) hx hb d_K_sumOf_6 hl (by decide) rfl (fun ls hl => ?_)
  have hl : lv_has ls 7 [(6, .int (nI 0)), (4, .long (lN (x >>> 0))), (3, .int (nI 0)), (0, .ref o), (1, .long (lN x))] := by rw [Nat.shiftRight_zero]; exact hl
  exact lp8 (M + 1) 0 _ _ _ (by omega) (by omega) (lv_sub hl [3, 2, 1, 0] rfl) hP hD hS
set_option maxHeartbeats 4000000 in
set_option maxRecDepth 100000 in
/-- Code.sumOf(word): the exclusive or of the marks of its bits -/
theorem c_K_sumOf_N (l : Launch) (D : va_G) (g : Nat → ClassId) (sz : Nat) (ws : va_W) (k0 k1 o a : Nat) (x0 x1 : Int32) (M : Nat) (f : Nat → Nat) (x : Nat) (h0 : ws[k0]? = some (o, .inr (3, [.int (x0), .int (x1), .ref a]))) (h1 : ws[k1]? = some (a, .inl (g 0, M, .inl (fun k => nI (f k))))) (hM : M < 64) (hx9 : x < 2 ^ 64) : Met l y_K_sumOf w_K_sumOf rm_K_sumOf (va_Pc [.ref o, .long (lN x)] (pP D (tyl g) (ws) sz)) (va_Qi (fun (r : Int32) (u : Unit) => r = nI (xs f x M)) (fun u => qB D (va_A (ws) sz) (ws)) (va_A (ws) sz)) 0 0 (va_A (ws) sz) := by
  refine Met.ofW (cc := b_K_sumOf) (maxL := 7) (ret := (some .int)) (by decide +kernel) rfl ?_
  intro p e s m args below meth c s₁ Bq hml hv
  have hx := Bq.exec
  have hb := Bq.bytes
  have hr := Bq.returns
  have hts : ∀ w ∈ wA, w.before args s = true := fun w h => atoms_spec (ws := w_K_sumOf) Bq.pre w (List.mem_cons_of_mem _ h)
  have hown : s.vm.findClass R_K = some m.cls := findClass_of_methodNamed Bq.named
  have hlocks := Bq.notSynchronized
  obtain ⟨rfl, hsz, hP, hKK, hD0⟩ := hv
  have hK := hKK.1
  subst hsz
  have hD := hD0.self (sz := s.heap.size)
  generalize hAe : va_A (ws) s.heap.size = A at hD ⊢
  have hA : ∀ q : Nat, s.heap.size ≤ q → A q := fun q h => by rw [← hAe]; exact Or.inr h
  have hS : va_S A s.heap s.heap [] := va_S.rf
  have hl := lv_entry ([.ref o, .long (lN x)]) (n := 7) (Nat.le_of_ble_eq_true rfl)
  rw [lg_entry_eq]
  generalize (lg_sl ([.ref o, .long (lN x)]) ++ List.replicate (7 - (lg_sl ([.ref o, .long (lN x)])).length) Slot.unset).toArray = ls at hl ⊢
  have hl : lv_has ls 7 [(0, .ref o), (1, .long (lN x))] := hl
  generalize hQ : MQ below (va_Qi (fun (r : Int32) (u : Unit) => r = nI (xs f x M)) (fun u => qB D (A) (ws)) (A)) [.ref o, .long (lN x)].toArray s 0 0 A = Q
  have lp8 : ∀ (n : Nat) (k : Nat) (ls : Array Slot) (H : Heap) (locs : List Loc), (M + 1 ≤ k + n) → (k ≤ M) → lv_has ls 7 [(0, .ref o), (3, .int (nI (xs f x k))), (4, .long (lN (x >>> k))), (6, .int (nI k))] → va_P D vwCl (ws) H → va_D A (ws) → va_S A s.heap H locs → W p l e (headSpec w_K_sumOf rm_K_sumOf).room s m [.ref o, .long (lN x)].toArray below meth c H locs 0 0 Q (F0 m 8 ls []) := by
    intro n
    induction n with
    | zero => intro k ls H locs hfu hk _ _ _ _; exact absurd hfu (by omega)
    | succ n ih =>
      intro k ls H locs hfu hk hl hP hD hS
      refine lv_iload hx hb d_K_sumOf_8 (lv_at hl 3 rfl) ?_
      refine lv_aload_n hx hb d_K_sumOf_10 rfl (lv_at hl 0 rfl) ?_
      refine va_get (D := D) (ci := 3) (v := .ref a) (C := R_N) (T := F_N) (N := 3) hx hb hts i_N hown hK hP k0 h0 rfl 2 (by decide) (hts _ m_139) (fun _ h9 => h9) rfl d_K_sumOf_11 ?_
      refine va_alen hx hb hK hP k1 0 h1 (v := nI M) rfl (rfl) d_K_sumOf_14 ?_
      refine lx_icmp_ge (tgt := 56) hx hb d_K_sumOf_15 (by decide) (by omega) (by omega) (fun c15 => ?_) (fun c15 => ?_)
      · skip
        obtain rfl : k = M := by omega
        refine lv_iload_n hx hb d_K_sumOf_56 rfl (lv_at hl 1 rfl) ?_
        rw [← hQ]
        refine W.iret (v := nI (xs f x k)) hx hb hr ?_ hS.2.2 d_K_sumOf_57
        exact fun t ht hW => ⟨⟨nI (xs f x k), (), rfl, rfl, by rw [ht]; exact hP, hD⟩, hS.F ht⟩
      · skip
        refine lv_lload hx hb d_K_sumOf_18 (lv_at hl 2 rfl) ?_
        refine lv_lconst (v := lN 0) hx hb d_K_sumOf_20 (by decide) ?_
        refine lx_lcmp_eq (tgt := 56) hx hb d_K_sumOf_21 d_K_sumOf_22 (by decide) (fun c22 => ?_) (fun c22 => ?_)
        · skip
          refine lv_iload_n hx hb d_K_sumOf_56 rfl (lv_at hl 1 rfl) ?_
          rw [← hQ]
          refine W.iret (v := nI (xs f x k)) hx hb hr ?_ hS.2.2 d_K_sumOf_57
          exact fun t ht hW => ⟨⟨nI (xs f x k), (), rfl, (by rw [xs_stop (xl_inj (Nat.lt_of_le_of_lt (Nat.shiftRight_le x k) hx9) (by decide) c22) M (by omega)]), by rw [ht]; exact hP, hD⟩, hS.F ht⟩
        · skip
          have j44 : ∀  (ls : Array Slot) (H : Heap) (locs : List Loc), lv_has ls 7 [(0, .ref o), (3, .int (nI (xs f x (k + 1)))), (4, .long (lN (x >>> k))), (6, .int (nI k))] → va_P D vwCl (ws) H → va_D A (ws) → va_S A s.heap H locs → W p l e (headSpec w_K_sumOf rm_K_sumOf).room s m [.ref o, .long (lN x)].toArray below meth c H locs 0 0 Q (F0 m 44 ls []) := by
            intro  ls H locs  hl hP hD hS
            refine lv_lload hx hb d_K_sumOf_44 (lv_at hl 2 rfl) ?_
            refine lv_iconst (v := nI 1) hx hb d_K_sumOf_46 (by decide) ?_
            refine lv_lushr (v := lN (x >>> (k + 1))) hx hb d_K_sumOf_47 ((xl_ushr (k := 1) (by have := Nat.shiftRight_le x k; omega) (by decide)).trans (by rw [Nat.shiftRight_add])) ?_
            refine lv_lstore (lv' := [(4, .long (lN (x >>> (k + 1)))), (0, .ref o), (3, .int (nI (xs f x (k + 1)))), (6, .int (nI k))]) hx hb d_K_sumOf_48 hl (by decide) rfl (fun ls hl => ?_)
            refine lv_iinc (v := nI (k + 1)) (lv' := [(6, .int (nI (k + 1))), (4, .long (lN (x >>> (k + 1)))), (0, .ref o), (3, .int (nI (xs f x (k + 1))))]) hx hb d_K_sumOf_50 hl (k := 3) rfl (nI_1 k) (by decide) rfl (fun ls hl => ?_)
            refine lv_goto (tgt := 8) hx hb d_K_sumOf_53 (by decide) ?_
            exact ih (k + 1) _ _ _ (by omega) (by omega) (lv_sub hl [2, 3, 1, 0] rfl) hP hD hS
          refine lv_lload hx hb d_K_sumOf_25 (lv_at hl 2 rfl) ?_
          refine lv_lconst (v := lN 1) hx hb d_K_sumOf_27 (by decide) ?_
          refine lx_land (z := lN (x >>> k % 2)) hx hb d_K_sumOf_28 ((xl_and _ _).trans (by rw [Nat.and_one_is_mod])) ?_
          refine lv_lconst (v := lN 0) hx hb d_K_sumOf_29 (by decide) ?_
          refine lx_lcmp_eq (tgt := 44) hx hb d_K_sumOf_30 d_K_sumOf_31 (by decide) (fun c31 => ?_) (fun c31 => ?_)
          · skip
            have hl : lv_has ls 7 [(0, .ref o), (3, .int (nI (xs f x (k + 1)))), (4, .long (lN (x >>> k))), (6, .int (nI k))] := by rw [xs_even (Nat.lt_of_le_of_lt (Nat.shiftRight_le x k) hx9) c31]; exact hl
            exact j44  _ _ _  (lv_sub hl [0, 1, 2, 3] rfl) hP hD hS
          · skip
            refine lv_iload_n hx hb d_K_sumOf_34 rfl (lv_at hl 1 rfl) ?_
            refine lv_aload_n hx hb d_K_sumOf_35 rfl (lv_at hl 0 rfl) ?_
            refine va_get (D := D) (ci := 3) (v := .ref a) (C := R_N) (T := F_N) (N := 3) hx hb hts i_N hown hK hP k0 h0 rfl 2 (by decide) (hts _ m_139) (fun _ h9 => h9) rfl d_K_sumOf_36 ?_
            refine lv_iload hx hb d_K_sumOf_39 (lv_at hl 3 rfl) ?_
            refine lx_iald (v := nI (f k)) hx hb hK hP k1 0 h1 rfl (j := k) (by omega) (by omega) (rfl) d_K_sumOf_41 ?_
            refine lx_ixor (z := nI (xs f x (k + 1))) hx hb d_K_sumOf_42 ((xn_xor _ _).trans (by rw [xs_odd (Nat.lt_of_le_of_lt (Nat.shiftRight_le x k) hx9) c31])) ?_
            refine lv_istore_n (lv' := [(3, .int (nI (xs f x (k + 1)))), (0, .ref o), (4, .long (lN (x >>> k))), (6, .int (nI k))]) hx hb d_K_sumOf_43 rfl hl (by decide) rfl (fun ls hl => ?_)
            exact j44  _ _ _  (lv_sub hl [1, 0, 2, 3] rfl) hP hD hS
  refine lv_iconst (v := nI 0) hx hb d_K_sumOf_0 (by decide) ?_
  refine lv_istore_n (lv' := [(3, .int (nI 0)), (0, .ref o), (1, .long (lN x))]) hx hb d_K_sumOf_1 rfl hl (by decide) rfl (fun ls hl => ?_)
  refine lv_lload_n hx hb d_K_sumOf_2 rfl (lv_at hl 2 rfl) ?_
  refine lv_lstore (lv' := [(4, .long (lN x)), (3, .int (nI 0)), (0, .ref o), (1, .long (lN x))]) hx hb d_K_sumOf_3 hl (by decide) rfl (fun ls hl => ?_)
  refine lv_iconst (v := nI 0) hx hb d_K_sumOf_5 (by decide) ?_
  refine lv_istore (lv' := [(6, .int (nI 0)), (4, .long (lN x)), (3, .int (nI 0)), (0, .ref o), (1, .long (lN x))]) hx hb d_K_sumOf_6 hl (by decide) rfl (fun ls hl => ?_)
  have hl : lv_has ls 7 [(6, .int (nI 0)), (4, .long (lN (x >>> 0))), (3, .int (nI 0)), (0, .ref o), (1, .long (lN x))] := by rw [Nat.shiftRight_zero]; exact hl
  exact lp8 (M + 1) 0 _ _ _ (by omega) (by omega) (lv_sub hl [3, 2, 1, 0] rfl) hP hD hS
end
section
abbrev w_JM_min : List Cond := .code y_JM_min b_JM_min 2 (some .int) :: wA
abbrev rm_JM_min : Room := { frames := 0, cells := 0, slots := 0, locals := 0 }
theorem d_JM_min_0 : decode b_JM_min 0 = .ok (.iload_n 0, 1) := by decide +kernel
theorem d_JM_min_1 : decode b_JM_min 1 = .ok (.iload_n 1, 1) := by decide +kernel
theorem d_JM_min_2 : decode b_JM_min 2 = .ok (.if_icmp .gt 7, 3) := by decide +kernel
theorem d_JM_min_5 : decode b_JM_min 5 = .ok (.iload_n 0, 1) := by decide +kernel
theorem d_JM_min_6 : decode b_JM_min 6 = .ok (.goto 4, 3) := by decide +kernel
theorem d_JM_min_9 : decode b_JM_min 9 = .ok (.iload_n 1, 1) := by decide +kernel
theorem d_JM_min_10 : decode b_JM_min 10 = .ok (.ireturn, 1) := by decide +kernel
abbrev w_JM_max : List Cond := .code y_JM_max b_JM_max 2 (some .int) :: wA
abbrev rm_JM_max : Room := { frames := 0, cells := 0, slots := 0, locals := 0 }
theorem d_JM_max_0 : decode b_JM_max 0 = .ok (.iload_n 0, 1) := by decide +kernel
theorem d_JM_max_1 : decode b_JM_max 1 = .ok (.iload_n 1, 1) := by decide +kernel
theorem d_JM_max_2 : decode b_JM_max 2 = .ok (.if_icmp .lt 7, 3) := by decide +kernel
theorem d_JM_max_5 : decode b_JM_max 5 = .ok (.iload_n 0, 1) := by decide +kernel
theorem d_JM_max_6 : decode b_JM_max 6 = .ok (.goto 4, 3) := by decide +kernel
theorem d_JM_max_9 : decode b_JM_max 9 = .ok (.iload_n 1, 1) := by decide +kernel
theorem d_JM_max_10 : decode b_JM_max 10 = .ok (.ireturn, 1) := by decide +kernel
abbrev w_L_checkBitsFor : List Cond := .code y_L_checkBitsFor b_L_checkBitsFor 2 (some .int) :: wA
abbrev rm_L_checkBitsFor : Room := { frames := 0, cells := 0, slots := 0, locals := 0 }
theorem d_L_checkBitsFor_0 : decode b_L_checkBitsFor 0 = .ok (.iload_n 0, 1) := by decide +kernel
theorem d_L_checkBitsFor_1 : decode b_L_checkBitsFor 1 = .ok (.ifCond .ne 5, 3) := by decide +kernel
theorem d_L_checkBitsFor_4 : decode b_L_checkBitsFor 4 = .ok (.iconst 0, 1) := by decide +kernel
theorem d_L_checkBitsFor_5 : decode b_L_checkBitsFor 5 = .ok (.ireturn, 1) := by decide +kernel
theorem d_L_checkBitsFor_6 : decode b_L_checkBitsFor 6 = .ok (.iconst 4, 1) := by decide +kernel
theorem d_L_checkBitsFor_7 : decode b_L_checkBitsFor 7 = .ok (.istore_n 1, 1) := by decide +kernel
theorem d_L_checkBitsFor_8 : decode b_L_checkBitsFor 8 = .ok (.iload_n 1, 1) := by decide +kernel
theorem d_L_checkBitsFor_9 : decode b_L_checkBitsFor 9 = .ok (.bipush 7, 2) := by decide +kernel
theorem d_L_checkBitsFor_11 : decode b_L_checkBitsFor 11 = .ok (.if_icmp .ge 20, 3) := by decide +kernel
theorem d_L_checkBitsFor_14 : decode b_L_checkBitsFor 14 = .ok (.iconst 1, 1) := by decide +kernel
theorem d_L_checkBitsFor_15 : decode b_L_checkBitsFor 15 = .ok (.iload_n 1, 1) := by decide +kernel
theorem d_L_checkBitsFor_16 : decode b_L_checkBitsFor 16 = .ok (.iconst 1, 1) := by decide +kernel
theorem d_L_checkBitsFor_17 : decode b_L_checkBitsFor 17 = .ok (.isub, 1) := by decide +kernel
theorem d_L_checkBitsFor_18 : decode b_L_checkBitsFor 18 = .ok (.ishl, 1) := by decide +kernel
theorem d_L_checkBitsFor_19 : decode b_L_checkBitsFor 19 = .ok (.iload_n 1, 1) := by decide +kernel
theorem d_L_checkBitsFor_20 : decode b_L_checkBitsFor 20 = .ok (.isub, 1) := by decide +kernel
theorem d_L_checkBitsFor_21 : decode b_L_checkBitsFor 21 = .ok (.iload_n 0, 1) := by decide +kernel
theorem d_L_checkBitsFor_22 : decode b_L_checkBitsFor 22 = .ok (.if_icmp .ge 9, 3) := by decide +kernel
theorem d_L_checkBitsFor_25 : decode b_L_checkBitsFor 25 = .ok (.iinc 1 1, 3) := by decide +kernel
theorem d_L_checkBitsFor_28 : decode b_L_checkBitsFor 28 = .ok (.goto (-20), 3) := by decide +kernel
theorem d_L_checkBitsFor_31 : decode b_L_checkBitsFor 31 = .ok (.iload_n 1, 1) := by decide +kernel
theorem d_L_checkBitsFor_32 : decode b_L_checkBitsFor 32 = .ok (.ireturn, 1) := by decide +kernel
abbrev w_L_greatestSumWith : List Cond := .code y_L_greatestSumWith b_L_greatestSumWith 5 (some .int) :: wA
abbrev rm_L_greatestSumWith : Room := { frames := 0, cells := 0, slots := 0, locals := 0 }
theorem d_L_greatestSumWith_0 : decode b_L_greatestSumWith 0 = .ok (.iconst 0, 1) := by decide +kernel
theorem d_L_greatestSumWith_1 : decode b_L_greatestSumWith 1 = .ok (.istore_n 2, 1) := by decide +kernel
theorem d_L_greatestSumWith_2 : decode b_L_greatestSumWith 2 = .ok (.iconst 0, 1) := by decide +kernel
theorem d_L_greatestSumWith_3 : decode b_L_greatestSumWith 3 = .ok (.istore_n 3, 1) := by decide +kernel
theorem d_L_greatestSumWith_4 : decode b_L_greatestSumWith 4 = .ok (.iload_n 3, 1) := by decide +kernel
theorem d_L_greatestSumWith_5 : decode b_L_greatestSumWith 5 = .ok (.aload_n 0, 1) := by decide +kernel
theorem d_L_greatestSumWith_6 : decode b_L_greatestSumWith 6 = .ok (.arraylength, 1) := by decide +kernel
theorem d_L_greatestSumWith_7 : decode b_L_greatestSumWith 7 = .ok (.if_icmp .ge 33, 3) := by decide +kernel
theorem d_L_greatestSumWith_10 : decode b_L_greatestSumWith 10 = .ok (.aload_n 0, 1) := by decide +kernel
theorem d_L_greatestSumWith_11 : decode b_L_greatestSumWith 11 = .ok (.iload_n 3, 1) := by decide +kernel
theorem d_L_greatestSumWith_12 : decode b_L_greatestSumWith 12 = .ok (.iaload, 1) := by decide +kernel
theorem d_L_greatestSumWith_13 : decode b_L_greatestSumWith 13 = .ok (.iload_n 1, 1) := by decide +kernel
theorem d_L_greatestSumWith_14 : decode b_L_greatestSumWith 14 = .ok (.iload_n 3, 1) := by decide +kernel
theorem d_L_greatestSumWith_15 : decode b_L_greatestSumWith 15 = .ok (.iushr, 1) := by decide +kernel
theorem d_L_greatestSumWith_16 : decode b_L_greatestSumWith 16 = .ok (.iconst 1, 1) := by decide +kernel
theorem d_L_greatestSumWith_17 : decode b_L_greatestSumWith 17 = .ok (.iand, 1) := by decide +kernel
theorem d_L_greatestSumWith_18 : decode b_L_greatestSumWith 18 = .ok (.iadd, 1) := by decide +kernel
theorem d_L_greatestSumWith_19 : decode b_L_greatestSumWith 19 = .ok (.istore 4, 2) := by decide +kernel
theorem d_L_greatestSumWith_21 : decode b_L_greatestSumWith 21 = .ok (.iload 4, 2) := by decide +kernel
theorem d_L_greatestSumWith_23 : decode b_L_greatestSumWith 23 = .ok (.iload_n 2, 1) := by decide +kernel
theorem d_L_greatestSumWith_24 : decode b_L_greatestSumWith 24 = .ok (.if_icmp .le 8, 3) := by decide +kernel
theorem d_L_greatestSumWith_27 : decode b_L_greatestSumWith 27 = .ok (.iload 4, 2) := by decide +kernel
theorem d_L_greatestSumWith_29 : decode b_L_greatestSumWith 29 = .ok (.goto 4, 3) := by decide +kernel
theorem d_L_greatestSumWith_32 : decode b_L_greatestSumWith 32 = .ok (.iload_n 2, 1) := by decide +kernel
theorem d_L_greatestSumWith_33 : decode b_L_greatestSumWith 33 = .ok (.istore_n 2, 1) := by decide +kernel
theorem d_L_greatestSumWith_34 : decode b_L_greatestSumWith 34 = .ok (.iinc 3 1, 3) := by decide +kernel
theorem d_L_greatestSumWith_37 : decode b_L_greatestSumWith 37 = .ok (.goto (-33), 3) := by decide +kernel
theorem d_L_greatestSumWith_40 : decode b_L_greatestSumWith 40 = .ok (.iload_n 2, 1) := by decide +kernel
theorem d_L_greatestSumWith_41 : decode b_L_greatestSumWith 41 = .ok (.ireturn, 1) := by decide +kernel
abbrev w_L_addTo : List Cond := .code y_L_addTo b_L_addTo 3 none :: wA
abbrev rm_L_addTo : Room := { frames := 0, cells := 0, slots := 0, locals := 0 }
theorem d_L_addTo_0 : decode b_L_addTo 0 = .ok (.iconst 0, 1) := by decide +kernel
theorem d_L_addTo_1 : decode b_L_addTo 1 = .ok (.istore_n 2, 1) := by decide +kernel
theorem d_L_addTo_2 : decode b_L_addTo 2 = .ok (.iload_n 2, 1) := by decide +kernel
theorem d_L_addTo_3 : decode b_L_addTo 3 = .ok (.aload_n 0, 1) := by decide +kernel
theorem d_L_addTo_4 : decode b_L_addTo 4 = .ok (.arraylength, 1) := by decide +kernel
theorem d_L_addTo_5 : decode b_L_addTo 5 = .ok (.if_icmp .ge 20, 3) := by decide +kernel
theorem d_L_addTo_8 : decode b_L_addTo 8 = .ok (.aload_n 0, 1) := by decide +kernel
theorem d_L_addTo_9 : decode b_L_addTo 9 = .ok (.iload_n 2, 1) := by decide +kernel
theorem d_L_addTo_10 : decode b_L_addTo 10 = .ok (.dup2, 1) := by decide +kernel
theorem d_L_addTo_11 : decode b_L_addTo 11 = .ok (.iaload, 1) := by decide +kernel
theorem d_L_addTo_12 : decode b_L_addTo 12 = .ok (.iload_n 1, 1) := by decide +kernel
theorem d_L_addTo_13 : decode b_L_addTo 13 = .ok (.iload_n 2, 1) := by decide +kernel
theorem d_L_addTo_14 : decode b_L_addTo 14 = .ok (.iushr, 1) := by decide +kernel
theorem d_L_addTo_15 : decode b_L_addTo 15 = .ok (.iconst 1, 1) := by decide +kernel
theorem d_L_addTo_16 : decode b_L_addTo 16 = .ok (.iand, 1) := by decide +kernel
theorem d_L_addTo_17 : decode b_L_addTo 17 = .ok (.iadd, 1) := by decide +kernel
theorem d_L_addTo_18 : decode b_L_addTo 18 = .ok (.iastore, 1) := by decide +kernel
theorem d_L_addTo_19 : decode b_L_addTo 19 = .ok (.iinc 2 1, 3) := by decide +kernel
theorem d_L_addTo_22 : decode b_L_addTo 22 = .ok (.goto (-20), 3) := by decide +kernel
theorem d_L_addTo_25 : decode b_L_addTo 25 = .ok (.return_, 1) := by decide +kernel
abbrev w_JA_fill : List Cond := .code y_JA_fill b_JA_fill 4 none :: wA
abbrev rm_JA_fill : Room := { frames := 0, cells := 0, slots := 0, locals := 0 }
theorem d_JA_fill_0 : decode b_JA_fill 0 = .ok (.iconst 0, 1) := by decide +kernel
theorem d_JA_fill_1 : decode b_JA_fill 1 = .ok (.istore_n 2, 1) := by decide +kernel
theorem d_JA_fill_2 : decode b_JA_fill 2 = .ok (.aload_n 0, 1) := by decide +kernel
theorem d_JA_fill_3 : decode b_JA_fill 3 = .ok (.arraylength, 1) := by decide +kernel
theorem d_JA_fill_4 : decode b_JA_fill 4 = .ok (.istore_n 3, 1) := by decide +kernel
theorem d_JA_fill_5 : decode b_JA_fill 5 = .ok (.iload_n 2, 1) := by decide +kernel
theorem d_JA_fill_6 : decode b_JA_fill 6 = .ok (.iload_n 3, 1) := by decide +kernel
theorem d_JA_fill_7 : decode b_JA_fill 7 = .ok (.if_icmp .ge 13, 3) := by decide +kernel
theorem d_JA_fill_10 : decode b_JA_fill 10 = .ok (.aload_n 0, 1) := by decide +kernel
theorem d_JA_fill_11 : decode b_JA_fill 11 = .ok (.iload_n 2, 1) := by decide +kernel
theorem d_JA_fill_12 : decode b_JA_fill 12 = .ok (.iload_n 1, 1) := by decide +kernel
theorem d_JA_fill_13 : decode b_JA_fill 13 = .ok (.iastore, 1) := by decide +kernel
theorem d_JA_fill_14 : decode b_JA_fill 14 = .ok (.iinc 2 1, 3) := by decide +kernel
theorem d_JA_fill_17 : decode b_JA_fill 17 = .ok (.goto (-12), 3) := by decide +kernel
theorem d_JA_fill_20 : decode b_JA_fill 20 = .ok (.return_, 1) := by decide +kernel
set_option maxHeartbeats 4000000 in
set_option maxRecDepth 100000 in
theorem c_JM_min (l : Launch) (D : va_G) (g : Nat → ClassId) (sz : Nat) (ws : va_W) (a b : Nat) (ha : a < 2 ^ 31) (hq : b < 2 ^ 31) : Met l y_JM_min w_JM_min rm_JM_min (va_Pc [.int (nI a), .int (nI b)] (pP D (tyl g) (ws) sz)) (va_Qi (fun (r : Int32) (u : Unit) => r = nI (min a b)) (fun u => qB D (va_A (ws) sz) (ws)) (va_A (ws) sz)) 0 0 (va_A (ws) sz) := by
  refine va_MetF (cc := b_JM_min) (maxL := 2) (ret := (some .int)) (by decide +kernel) rfl ?_
  intro p e s m args below meth c s₁ Bq hml hv
  have hx := Bq.exec
  have hb := Bq.bytes
  have hr := Bq.returns
  have hts : ∀ w ∈ wA, w.before args s = true := fun w h => atoms_spec (ws := w_JM_min) Bq.pre w (List.mem_cons_of_mem _ h)
  have hown : s.vm.findClass R_JM = some m.cls := findClass_of_methodNamed Bq.named
  have hlocks := Bq.notSynchronized
  obtain ⟨rfl, hsz, hP, hKK, hD0⟩ := hv
  have hK := hKK.1
  subst hsz
  have hD := hD0.self (sz := s.heap.size)
  generalize hAe : va_A (ws) s.heap.size = A at hD ⊢
  have hA : ∀ q : Nat, s.heap.size ≤ q → A q := fun q h => by rw [← hAe]; exact Or.inr h
  have hS : va_S A s.heap s.heap [] := va_S.rf
  have hl := lv_entry ([.int (nI a), .int (nI b)]) (n := 2) (Nat.le_of_ble_eq_true rfl)
  rw [lg_entry_eq]
  generalize (lg_sl ([.int (nI a), .int (nI b)]) ++ List.replicate (2 - (lg_sl ([.int (nI a), .int (nI b)])).length) Slot.unset).toArray = ls at hl ⊢
  have hl : lv_has ls 2 [(0, .int (nI a)), (1, .int (nI b))] := hl
  generalize hQ : MQ below (va_Qi (fun (r : Int32) (u : Unit) => r = nI (min a b)) (fun u => qB D (A) (ws)) (A)) [.int (nI a), .int (nI b)].toArray s 0 0 A = Q
  refine lv_iload_n hx hb d_JM_min_0 rfl (lv_at hl 0 rfl) ?_
  refine lv_iload_n hx hb d_JM_min_1 rfl (lv_at hl 1 rfl) ?_
  refine lx_icmp_gt (tgt := 9) hx hb d_JM_min_2 (by decide) (by omega) (by omega) (fun c2 => ?_) (fun c2 => ?_)
  · skip
    refine lv_iload_n hx hb d_JM_min_9 rfl (lv_at hl 1 rfl) ?_
    rw [← hQ]
    refine W.iret (v := nI b) hx hb hr ?_ hS.2.2 d_JM_min_10
    exact fun t ht hW => ⟨⟨nI b, (), rfl, (by rw [show min a b = b by omega]), by rw [ht]; exact hP, hD⟩, hS.F ht⟩
  · skip
    refine lv_iload_n hx hb d_JM_min_5 rfl (lv_at hl 0 rfl) ?_
    refine lv_goto (tgt := 10) hx hb d_JM_min_6 (by decide) ?_
    rw [← hQ]
    refine W.iret (v := nI a) hx hb hr ?_ hS.2.2 d_JM_min_10
    exact fun t ht hW => ⟨⟨nI a, (), rfl, (by rw [show min a b = a by omega]), by rw [ht]; exact hP, hD⟩, hS.F ht⟩
set_option maxHeartbeats 4000000 in
set_option maxRecDepth 100000 in
theorem c_JM_max (l : Launch) (D : va_G) (g : Nat → ClassId) (sz : Nat) (ws : va_W) (a b : Nat) (ha : a < 2 ^ 31) (hq : b < 2 ^ 31) : Met l y_JM_max w_JM_max rm_JM_max (va_Pc [.int (nI a), .int (nI b)] (pP D (tyl g) (ws) sz)) (va_Qi (fun (r : Int32) (u : Unit) => r = nI (max a b)) (fun u => qB D (va_A (ws) sz) (ws)) (va_A (ws) sz)) 0 0 (va_A (ws) sz) := by
  refine va_MetF (cc := b_JM_max) (maxL := 2) (ret := (some .int)) (by decide +kernel) rfl ?_
  intro p e s m args below meth c s₁ Bq hml hv
  have hx := Bq.exec
  have hb := Bq.bytes
  have hr := Bq.returns
  have hts : ∀ w ∈ wA, w.before args s = true := fun w h => atoms_spec (ws := w_JM_max) Bq.pre w (List.mem_cons_of_mem _ h)
  have hown : s.vm.findClass R_JM = some m.cls := findClass_of_methodNamed Bq.named
  have hlocks := Bq.notSynchronized
  obtain ⟨rfl, hsz, hP, hKK, hD0⟩ := hv
  have hK := hKK.1
  subst hsz
  have hD := hD0.self (sz := s.heap.size)
  generalize hAe : va_A (ws) s.heap.size = A at hD ⊢
  have hA : ∀ q : Nat, s.heap.size ≤ q → A q := fun q h => by rw [← hAe]; exact Or.inr h
  have hS : va_S A s.heap s.heap [] := va_S.rf
  have hl := lv_entry ([.int (nI a), .int (nI b)]) (n := 2) (Nat.le_of_ble_eq_true rfl)
  rw [lg_entry_eq]
  generalize (lg_sl ([.int (nI a), .int (nI b)]) ++ List.replicate (2 - (lg_sl ([.int (nI a), .int (nI b)])).length) Slot.unset).toArray = ls at hl ⊢
  have hl : lv_has ls 2 [(0, .int (nI a)), (1, .int (nI b))] := hl
  generalize hQ : MQ below (va_Qi (fun (r : Int32) (u : Unit) => r = nI (max a b)) (fun u => qB D (A) (ws)) (A)) [.int (nI a), .int (nI b)].toArray s 0 0 A = Q
  refine lv_iload_n hx hb d_JM_max_0 rfl (lv_at hl 0 rfl) ?_
  refine lv_iload_n hx hb d_JM_max_1 rfl (lv_at hl 1 rfl) ?_
  refine lx_icmp_lt (tgt := 9) hx hb d_JM_max_2 (by decide) (by omega) (by omega) (fun c2 => ?_) (fun c2 => ?_)
  · skip
    refine lv_iload_n hx hb d_JM_max_9 rfl (lv_at hl 1 rfl) ?_
    rw [← hQ]
    refine W.iret (v := nI b) hx hb hr ?_ hS.2.2 d_JM_max_10
    exact fun t ht hW => ⟨⟨nI b, (), rfl, (by rw [show max a b = b by omega]), by rw [ht]; exact hP, hD⟩, hS.F ht⟩
  · skip
    refine lv_iload_n hx hb d_JM_max_5 rfl (lv_at hl 0 rfl) ?_
    refine lv_goto (tgt := 10) hx hb d_JM_max_6 (by decide) ?_
    rw [← hQ]
    refine W.iret (v := nI a) hx hb hr ?_ hS.2.2 d_JM_max_10
    exact fun t ht hW => ⟨⟨nI a, (), rfl, (by rw [show max a b = a by omega]), by rw [ht]; exact hP, hD⟩, hS.F ht⟩
set_option maxHeartbeats 4000000 in
set_option maxRecDepth 100000 in
theorem c_L_checkBitsFor (l : Launch) (D : va_G) (g : Nat → ClassId) (sz : Nat) (ws : va_W) (b : Nat) (hq : b ≤ 57) : Met l y_L_checkBitsFor w_L_checkBitsFor rm_L_checkBitsFor (va_Pc [.int (nI b)] (pP D (tyl g) (ws) sz)) (va_Qi (fun (r : Int32) (u : Unit) => r = nI (lr b)) (fun u => qB D (va_A (ws) sz) (ws)) (va_A (ws) sz)) 0 0 (va_A (ws) sz) := by
  refine Met.ofW (cc := b_L_checkBitsFor) (maxL := 2) (ret := (some .int)) (by decide +kernel) rfl ?_
  intro p e s m args below meth c s₁ Bq hml hv
  have hx := Bq.exec
  have hb := Bq.bytes
  have hr := Bq.returns
  have hts : ∀ w ∈ wA, w.before args s = true := fun w h => atoms_spec (ws := w_L_checkBitsFor) Bq.pre w (List.mem_cons_of_mem _ h)
  have hown : s.vm.findClass R_L = some m.cls := findClass_of_methodNamed Bq.named
  have hlocks := Bq.notSynchronized
  obtain ⟨rfl, hsz, hP, hKK, hD0⟩ := hv
  have hK := hKK.1
  subst hsz
  have hD := hD0.self (sz := s.heap.size)
  generalize hAe : va_A (ws) s.heap.size = A at hD ⊢
  have hA : ∀ q : Nat, s.heap.size ≤ q → A q := fun q h => by rw [← hAe]; exact Or.inr h
  have hS : va_S A s.heap s.heap [] := va_S.rf
  have hl := lv_entry ([.int (nI b)]) (n := 2) (Nat.le_of_ble_eq_true rfl)
  rw [lg_entry_eq]
  generalize (lg_sl ([.int (nI b)]) ++ List.replicate (2 - (lg_sl ([.int (nI b)])).length) Slot.unset).toArray = ls at hl ⊢
  have hl : lv_has ls 2 [(0, .int (nI b))] := hl
  generalize hQ : MQ below (va_Qi (fun (r : Int32) (u : Unit) => r = nI (lr b)) (fun u => qB D (A) (ws)) (A)) [.int (nI b)].toArray s 0 0 A = Q
  refine lv_iload_n hx hb d_L_checkBitsFor_0 rfl (lv_at hl 0 rfl) ?_
  refine lx_if_ne (tgt := 6) hx hb d_L_checkBitsFor_1 (by decide) (by omega) (fun c1 => ?_) (fun c1 => ?_)
  · skip
    have lp8 : ∀ (n : Nat) (k : Nat) (ls : Array Slot) (H : Heap) (locs : List Loc), (8 ≤ k + n) → (k = 4 ∨ k = 5 ∨ k = 6 ∨ k = 7) → ((k ≤ 4 ∨ 4 < b) ∧ (k ≤ 5 ∨ 11 < b) ∧ (k ≤ 6 ∨ 26 < b)) → lv_has ls 2 [(0, .int (nI b)), (1, .int (nI k))] → va_P D vwCl (ws) H → va_D A (ws) → va_S A s.heap H locs → W p l e (headSpec w_L_checkBitsFor rm_L_checkBitsFor).room s m [.int (nI b)].toArray below meth c H locs 0 0 Q (F0 m 8 ls []) := by
      intro n
      induction n with
      | zero => intro k ls H locs hfu h47 hlow _ _ _ _; exact absurd hfu (by omega)
      | succ n ih =>
        intro k ls H locs hfu h47 hlow hl hP hD hS
        refine lv_iload_n hx hb d_L_checkBitsFor_8 rfl (lv_at hl 1 rfl) ?_
        refine lv_bipush (v := nI 7) hx hb d_L_checkBitsFor_9 (by decide) ?_
        refine lx_icmp_ge (tgt := 31) hx hb d_L_checkBitsFor_11 (by decide) (by omega) (by omega) (fun c11 => ?_) (fun c11 => ?_)
        · skip
          refine lv_iload_n hx hb d_L_checkBitsFor_31 rfl (lv_at hl 1 rfl) ?_
          rw [← hQ]
          refine W.iret (v := nI k) hx hb hr ?_ hS.2.2 d_L_checkBitsFor_32
          exact fun t ht hW => ⟨⟨nI k, (), rfl, lr_stop c1 h47 hlow (Or.inl (by omega)), by rw [ht]; exact hP, hD⟩, hS.F ht⟩
        · skip
          refine lv_iconst (v := nI 1) hx hb d_L_checkBitsFor_14 (by decide) ?_
          refine lv_iload_n hx hb d_L_checkBitsFor_15 rfl (lv_at hl 1 rfl) ?_
          refine lv_iconst (v := nI 1) hx hb d_L_checkBitsFor_16 (by decide) ?_
          refine lx_isub (z := nI (k - 1)) hx hb d_L_checkBitsFor_17 (pk_sub (by omega)) ?_
          refine lx_ishl (z := nI (1 <<< (k - 1))) hx hb d_L_checkBitsFor_18 (xn_shl 1 (by omega)) ?_
          refine lv_iload_n hx hb d_L_checkBitsFor_19 rfl (lv_at hl 1 rfl) ?_
          refine lx_isub (z := nI (1 <<< (k - 1) - k)) hx hb d_L_checkBitsFor_20 (pk_sub (by rcases h47 with rfl | rfl | rfl | rfl <;> decide)) ?_
          refine lv_iload_n hx hb d_L_checkBitsFor_21 rfl (lv_at hl 0 rfl) ?_
          have hs : 1 <<< (k - 1) - k < 2 ^ 31 := by rcases h47 with rfl | rfl | rfl | rfl <;> decide
          refine lx_icmp_ge (tgt := 31) hx hb d_L_checkBitsFor_22 (by decide) (by omega) (by omega) (fun c22 => ?_) (fun c22 => ?_)
          · skip
            refine lv_iload_n hx hb d_L_checkBitsFor_31 rfl (lv_at hl 1 rfl) ?_
            rw [← hQ]
            refine W.iret (v := nI k) hx hb hr ?_ hS.2.2 d_L_checkBitsFor_32
            exact fun t ht hW => ⟨⟨nI k, (), rfl, lr_stop c1 h47 hlow (Or.inr c22), by rw [ht]; exact hP, hD⟩, hS.F ht⟩
          · skip
            refine lv_iinc (v := nI (k + 1)) (lv' := [(1, .int (nI (k + 1))), (0, .int (nI b))]) hx hb d_L_checkBitsFor_25 hl (k := 1) rfl (nI_1 k) (by decide) rfl (fun ls hl => ?_)
            refine lv_goto (tgt := 8) hx hb d_L_checkBitsFor_28 (by decide) ?_
            exact ih (k + 1) _ _ _ (by omega) (by omega) (by rcases h47 with rfl | rfl | rfl | rfl <;> (simp at c22 hlow ⊢) <;> omega) (lv_sub hl [1, 0] rfl) hP hD hS
    refine lv_iconst (v := nI 4) hx hb d_L_checkBitsFor_6 (by decide) ?_
    refine lv_istore_n (lv' := [(1, .int (nI 4)), (0, .int (nI b))]) hx hb d_L_checkBitsFor_7 rfl hl (by decide) rfl (fun ls hl => ?_)
    exact lp8 4 4 _ _ _ (by omega) (by omega) (by omega) (lv_sub hl [1, 0] rfl) hP hD hS
  · skip
    refine lv_iconst (v := nI 0) hx hb d_L_checkBitsFor_4 (by decide) ?_
    rw [← hQ]
    refine W.iret (v := nI 0) hx hb hr ?_ hS.2.2 d_L_checkBitsFor_5
    exact fun t ht hW => ⟨⟨nI 0, (), rfl, (by rw [c1]; rfl), by rw [ht]; exact hP, hD⟩, hS.F ht⟩
set_option maxHeartbeats 4000000 in
set_option maxRecDepth 100000 in
theorem c_L_greatestSumWith (l : Launch) (D : va_G) (g : Nat → ClassId) (sz : Nat) (ws : va_W) (k0 a n0 : Nat) (f : Nat → Nat) (c0 : Nat) (h0 : ws[k0]? = some (a, .inl (g 0, n0, .inl (fun k => nI (f k))))) (hn0 : n0 ≤ 32) (hf : ∀ k, k < n0 → f k < 2 ^ 20) (hc0 : c0 < 2 ^ 31) : Met l y_L_greatestSumWith w_L_greatestSumWith rm_L_greatestSumWith (va_Pc [.ref a, .int (nI c0)] (pP D (tyl g) (ws) sz)) (va_Qi (fun (r : Int32) (u : Unit) => r = nI (gs f c0 n0)) (fun u => qB D (va_A (ws) sz) (ws)) (va_A (ws) sz)) 0 0 (va_A (ws) sz) := by
  refine Met.ofW (cc := b_L_greatestSumWith) (maxL := 5) (ret := (some .int)) (by decide +kernel) rfl ?_
  intro p e s m args below meth c s₁ Bq hml hv
  have hx := Bq.exec
  have hb := Bq.bytes
  have hr := Bq.returns
  have hts : ∀ w ∈ wA, w.before args s = true := fun w h => atoms_spec (ws := w_L_greatestSumWith) Bq.pre w (List.mem_cons_of_mem _ h)
  have hown : s.vm.findClass R_L = some m.cls := findClass_of_methodNamed Bq.named
  have hlocks := Bq.notSynchronized
  obtain ⟨rfl, hsz, hP, hKK, hD0⟩ := hv
  have hK := hKK.1
  subst hsz
  have hD := hD0.self (sz := s.heap.size)
  generalize hAe : va_A (ws) s.heap.size = A at hD ⊢
  have hA : ∀ q : Nat, s.heap.size ≤ q → A q := fun q h => by rw [← hAe]; exact Or.inr h
  have hS : va_S A s.heap s.heap [] := va_S.rf
  have hl := lv_entry ([.ref a, .int (nI c0)]) (n := 5) (Nat.le_of_ble_eq_true rfl)
  rw [lg_entry_eq]
  generalize (lg_sl ([.ref a, .int (nI c0)]) ++ List.replicate (5 - (lg_sl ([.ref a, .int (nI c0)])).length) Slot.unset).toArray = ls at hl ⊢
  have hl : lv_has ls 5 [(0, .ref a), (1, .int (nI c0))] := hl
  generalize hQ : MQ below (va_Qi (fun (r : Int32) (u : Unit) => r = nI (gs f c0 n0)) (fun u => qB D (A) (ws)) (A)) [.ref a, .int (nI c0)].toArray s 0 0 A = Q
  have lp4 : ∀ (n : Nat) (k : Nat) (ls : Array Slot) (H : Heap) (locs : List Loc), (n0 + 1 ≤ k + n) → (k ≤ n0) → (gs f c0 k < 2 ^ 21) → lv_has ls 5 [(0, .ref a), (1, .int (nI c0)), (2, .int (nI (gs f c0 k))), (3, .int (nI k))] → va_P D vwCl (ws) H → va_D A (ws) → va_S A s.heap H locs → W p l e (headSpec w_L_greatestSumWith rm_L_greatestSumWith).room s m [.ref a, .int (nI c0)].toArray below meth c H locs 0 0 Q (F0 m 4 ls []) := by
    intro n
    induction n with
    | zero => intro k ls H locs hfu hk hg _ _ _ _; exact absurd hfu (by omega)
    | succ n ih =>
      intro k ls H locs hfu hk hg hl hP hD hS
      refine lv_iload_n hx hb d_L_greatestSumWith_4 rfl (lv_at hl 3 rfl) ?_
      refine lv_aload_n hx hb d_L_greatestSumWith_5 rfl (lv_at hl 0 rfl) ?_
      refine va_alen hx hb hK hP k0 0 h0 (v := nI n0) rfl (rfl) d_L_greatestSumWith_6 ?_
      refine lx_icmp_ge (tgt := 40) hx hb d_L_greatestSumWith_7 (by decide) (by omega) (by omega) (fun c7 => ?_) (fun c7 => ?_)
      · skip
        obtain rfl : k = n0 := by omega
        refine lv_iload_n hx hb d_L_greatestSumWith_40 rfl (lv_at hl 2 rfl) ?_
        rw [← hQ]
        refine W.iret (v := nI (gs f c0 k)) hx hb hr ?_ hS.2.2 d_L_greatestSumWith_41
        exact fun t ht hW => ⟨⟨nI (gs f c0 k), (), rfl, rfl, by rw [ht]; exact hP, hD⟩, hS.F ht⟩
      · skip
        have hfk := hf k c7
        have hq : f k + c0 >>> k % 2 < 2 ^ 21 := by omega
        have j33 : ∀  (ls : Array Slot) (H : Heap) (locs : List Loc), lv_has ls 5 [(0, .ref a), (1, .int (nI c0)), (3, .int (nI k))] → va_P D vwCl (ws) H → va_D A (ws) → va_S A s.heap H locs → W p l e (headSpec w_L_greatestSumWith rm_L_greatestSumWith).room s m [.ref a, .int (nI c0)].toArray below meth c H locs 0 0 Q (F0 m 33 ls [.int (nI (gs f c0 (k + 1)))]) := by
          intro  ls H locs  hl hP hD hS
          refine lv_istore_n (lv' := [(2, .int (nI (gs f c0 (k + 1)))), (0, .ref a), (1, .int (nI c0)), (3, .int (nI k))]) hx hb d_L_greatestSumWith_33 rfl hl (by decide) rfl (fun ls hl => ?_)
          refine lv_iinc (v := nI (k + 1)) (lv' := [(3, .int (nI (k + 1))), (2, .int (nI (gs f c0 (k + 1)))), (0, .ref a), (1, .int (nI c0))]) hx hb d_L_greatestSumWith_34 hl (k := 3) rfl (nI_1 k) (by decide) rfl (fun ls hl => ?_)
          refine lv_goto (tgt := 4) hx hb d_L_greatestSumWith_37 (by decide) ?_
          exact ih (k + 1) _ _ _ (by omega) (by omega) (Nat.max_lt.mpr ⟨hg, hq⟩) (lv_sub hl [2, 3, 1, 0] rfl) hP hD hS
        refine lv_aload_n hx hb d_L_greatestSumWith_10 rfl (lv_at hl 0 rfl) ?_
        refine lv_iload_n hx hb d_L_greatestSumWith_11 rfl (lv_at hl 3 rfl) ?_
        refine lx_iald (v := nI (f k)) hx hb hK hP k0 0 h0 rfl (j := k) (by omega) (by omega) (rfl) d_L_greatestSumWith_12 ?_
        refine lv_iload_n hx hb d_L_greatestSumWith_13 rfl (lv_at hl 1 rfl) ?_
        refine lv_iload_n hx hb d_L_greatestSumWith_14 rfl (lv_at hl 3 rfl) ?_
        refine lv_iushr (v := nI (c0 >>> k)) hx hb d_L_greatestSumWith_15 (xn_ushr (by omega) (by omega)) ?_
        refine lv_iconst (v := nI 1) hx hb d_L_greatestSumWith_16 (by decide) ?_
        refine lx_iand (z := nI (c0 >>> k % 2)) hx hb d_L_greatestSumWith_17 ((xn_and _ _).trans (by rw [Nat.and_one_is_mod])) ?_
        refine lx_iadd (z := nI (f k + (c0 >>> k % 2))) hx hb d_L_greatestSumWith_18 (nI_add (f k) (c0 >>> k % 2)) ?_
        refine lv_istore (lv' := [(4, .int (nI (f k + (c0 >>> k % 2)))), (0, .ref a), (1, .int (nI c0)), (2, .int (nI (gs f c0 k))), (3, .int (nI k))]) hx hb d_L_greatestSumWith_19 hl (by decide) rfl (fun ls hl => ?_)
        refine lv_iload hx hb d_L_greatestSumWith_21 (lv_at hl 0 rfl) ?_
        refine lv_iload_n hx hb d_L_greatestSumWith_23 rfl (lv_at hl 3 rfl) ?_
        refine lx_icmp_le (tgt := 32) hx hb d_L_greatestSumWith_24 (by decide) (by omega) (by omega) (fun c24 => ?_) (fun c24 => ?_)
        · skip
          refine lv_iload_n hx hb d_L_greatestSumWith_32 rfl (lv_at hl 3 rfl) ?_
          have e9 : gs f c0 (k + 1) = gs f c0 k := by show max _ _ = _; omega
          rw [← e9]
          exact j33  _ _ _  (lv_sub hl [1, 2, 4] rfl) hP hD hS
        · skip
          refine lv_iload hx hb d_L_greatestSumWith_27 (lv_at hl 0 rfl) ?_
          refine lv_goto (tgt := 33) hx hb d_L_greatestSumWith_29 (by decide) ?_
          have e9 : gs f c0 (k + 1) = f k + c0 >>> k % 2 := by show max _ _ = _; omega
          rw [← e9]
          exact j33  _ _ _  (lv_sub hl [1, 2, 4] rfl) hP hD hS
  refine lv_iconst (v := nI 0) hx hb d_L_greatestSumWith_0 (by decide) ?_
  refine lv_istore_n (lv' := [(2, .int (nI 0)), (0, .ref a), (1, .int (nI c0))]) hx hb d_L_greatestSumWith_1 rfl hl (by decide) rfl (fun ls hl => ?_)
  refine lv_iconst (v := nI 0) hx hb d_L_greatestSumWith_2 (by decide) ?_
  refine lv_istore_n (lv' := [(3, .int (nI 0)), (2, .int (nI 0)), (0, .ref a), (1, .int (nI c0))]) hx hb d_L_greatestSumWith_3 rfl hl (by decide) rfl (fun ls hl => ?_)
  exact lp4 (n0 + 1) 0 _ _ _ (by omega) (by omega) (by show 0 < 2 ^ 21; decide) (lv_sub hl [2, 3, 1, 0] rfl) hP hD hS
set_option maxHeartbeats 4000000 in
set_option maxRecDepth 100000 in
theorem c_L_addTo (l : Launch) (D : va_G) (g : Nat → ClassId) (sz : Nat) (wr : va_W) (a n0 : Nat) (f : Nat → Nat) (c0 : Nat) (hn0 : n0 ≤ 32) (hc0 : c0 < 2 ^ 31) : Met l y_L_addTo w_L_addTo rm_L_addTo (va_Pc [.ref a, .int (nI c0)] (pP D (tyl g) ((a, .inl (g 0, n0, .inl (fun k => nI (f k)))) :: wr) sz)) (va_Qv (fun (u : Unit) => True) (fun u => qB D (va_A ((a, .inl (g 0, n0, .inl (fun k => nI (f k)))) :: wr) sz) ((a, .inl (g 0, n0, .inl (fun j => nI (if j < n0 then f j + c0 >>> j % 2 else f j)))) :: wr)) (va_A ((a, .inl (g 0, n0, .inl (fun k => nI (f k)))) :: wr) sz)) 0 0 (va_A ((a, .inl (g 0, n0, .inl (fun k => nI (f k)))) :: wr) sz) := by
  refine Met.ofW (cc := b_L_addTo) (maxL := 3) (ret := none) (by decide +kernel) rfl ?_
  intro p e s m args below meth c s₁ Bq hml hv
  have hx := Bq.exec
  have hb := Bq.bytes
  have hr := Bq.returns
  have hts : ∀ w ∈ wA, w.before args s = true := fun w h => atoms_spec (ws := w_L_addTo) Bq.pre w (List.mem_cons_of_mem _ h)
  have hown : s.vm.findClass R_L = some m.cls := findClass_of_methodNamed Bq.named
  have hlocks := Bq.notSynchronized
  obtain ⟨rfl, hsz, hP, hKK, hD0⟩ := hv
  have hK := hKK.1
  subst hsz
  have hD := hD0.self (sz := s.heap.size)
  generalize hAe : va_A ((a, .inl (g 0, n0, .inl (fun k => nI (f k)))) :: wr) s.heap.size = A at hD ⊢
  have hA : ∀ q : Nat, s.heap.size ≤ q → A q := fun q h => by rw [← hAe]; exact Or.inr h
  have hS : va_S A s.heap s.heap [] := va_S.rf
  have hl := lv_entry ([.ref a, .int (nI c0)]) (n := 3) (Nat.le_of_ble_eq_true rfl)
  rw [lg_entry_eq]
  generalize (lg_sl ([.ref a, .int (nI c0)]) ++ List.replicate (3 - (lg_sl ([.ref a, .int (nI c0)])).length) Slot.unset).toArray = ls at hl ⊢
  have hl : lv_has ls 3 [(0, .ref a), (1, .int (nI c0))] := hl
  generalize hQ : MQ below (va_Qv (fun (u : Unit) => True) (fun u => qB D (A) ((a, .inl (g 0, n0, .inl (fun j => nI (if j < n0 then f j + c0 >>> j % 2 else f j)))) :: wr)) (A)) [.ref a, .int (nI c0)].toArray s 0 0 A = Q
  have lp2 : ∀ (n : Nat) (k : Nat) (ls : Array Slot) (H : Heap) (locs : List Loc), (n0 + 1 ≤ k + n) → (k ≤ n0) → lv_has ls 3 [(0, .ref a), (1, .int (nI c0)), (2, .int (nI k))] → va_P D vwCl ((a, .inl (g 0, n0, .inl (fun j => nI (if j < k then f j + c0 >>> j % 2 else f j)))) :: wr) H → va_D A ((a, .inl (g 0, n0, .inl (fun j => nI (if j < k then f j + c0 >>> j % 2 else f j)))) :: wr) → va_S A s.heap H locs → W p l e (headSpec w_L_addTo rm_L_addTo).room s m [.ref a, .int (nI c0)].toArray below meth c H locs 0 0 Q (F0 m 2 ls []) := by
    intro n
    induction n with
    | zero => intro k ls H locs hfu hk _ _ _ _; exact absurd hfu (by omega)
    | succ n ih =>
      intro k ls H locs hfu hk hl hP hD hS
      refine lv_iload_n hx hb d_L_addTo_2 rfl (lv_at hl 2 rfl) ?_
      refine lv_aload_n hx hb d_L_addTo_3 rfl (lv_at hl 0 rfl) ?_
      refine va_alen hx hb hK hP 0 0 rfl (v := nI n0) rfl (rfl) d_L_addTo_4 ?_
      refine lx_icmp_ge (tgt := 25) hx hb d_L_addTo_5 (by decide) (by omega) (by omega) (fun c5 => ?_) (fun c5 => ?_)
      · skip
        obtain rfl : k = n0 := by omega
        rw [← hQ]
        refine W.vret hx hb hr ?_ hS.2.2 d_L_addTo_25
        exact fun t ht hW => ⟨⟨(), rfl, trivial, by rw [ht]; exact hP, hD⟩, hS.F ht⟩
      · skip
        refine lv_aload_n hx hb d_L_addTo_8 rfl (lv_at hl 0 rfl) ?_
        refine lv_iload_n hx hb d_L_addTo_9 rfl (lv_at hl 2 rfl) ?_
        refine lv_dup2_11 hx hb d_L_addTo_10 rfl rfl ?_
        refine lx_iald (v := nI (f k)) hx hb hK hP 0 0 rfl rfl (j := k) (by omega) (by omega) (by rw [if_neg (Nat.lt_irrefl k)]) d_L_addTo_11 ?_
        refine lv_iload_n hx hb d_L_addTo_12 rfl (lv_at hl 1 rfl) ?_
        refine lv_iload_n hx hb d_L_addTo_13 rfl (lv_at hl 2 rfl) ?_
        refine lv_iushr (v := nI (c0 >>> k)) hx hb d_L_addTo_14 (xn_ushr (by omega) (by omega)) ?_
        refine lv_iconst (v := nI 1) hx hb d_L_addTo_15 (by decide) ?_
        refine lx_iand (z := nI (c0 >>> k % 2)) hx hb d_L_addTo_16 ((xn_and _ _).trans (by rw [Nat.and_one_is_mod])) ?_
        refine lx_iadd (z := nI (f k + (c0 >>> k % 2))) hx hb d_L_addTo_17 (nI_add (f k) (c0 >>> k % 2)) ?_
        refine lx_iast (f' := fun j => nI (if j < k + 1 then f j + c0 >>> j % 2 else f j)) hx hb hK hP hD hS 0 0 rfl rfl (j := k) (by omega) (by omega) (upd_lt _ _ _) d_L_addTo_18 (fun H locs hP hD hS => ?_)
        have hP : va_P D vwCl ((a, .inl (g 0, n0, .inl (fun j => nI (if j < k + 1 then f j + c0 >>> j % 2 else f j)))) :: wr) H := hP
        have hD : va_D A ((a, .inl (g 0, n0, .inl (fun j => nI (if j < k + 1 then f j + c0 >>> j % 2 else f j)))) :: wr) := hD
        refine lv_iinc (v := nI (k + 1)) (lv' := [(2, .int (nI (k + 1))), (0, .ref a), (1, .int (nI c0))]) hx hb d_L_addTo_19 hl (k := 2) rfl (nI_1 k) (by decide) rfl (fun ls hl => ?_)
        refine lv_goto (tgt := 2) hx hb d_L_addTo_22 (by decide) ?_
        exact ih (k + 1) _ _ _ (by omega) (by omega) (lv_sub hl [1, 2, 0] rfl) hP hD hS
  refine lv_iconst (v := nI 0) hx hb d_L_addTo_0 (by decide) ?_
  refine lv_istore_n (lv' := [(2, .int (nI 0)), (0, .ref a), (1, .int (nI c0))]) hx hb d_L_addTo_1 rfl hl (by decide) rfl (fun ls hl => ?_)
  have hP : va_P D vwCl ((a, .inl (g 0, n0, .inl (fun j => nI (if j < 0 then f j + c0 >>> j % 2 else f j)))) :: wr) s.heap := by simpa using hP
  have hD : va_D A ((a, .inl (g 0, n0, .inl (fun j => nI (if j < 0 then f j + c0 >>> j % 2 else f j)))) :: wr) := by simpa using hD
  exact lp2 (n0 + 1) 0 _ _ _ (by omega) (by omega) (lv_sub hl [1, 2, 0] rfl) hP hD hS
set_option maxHeartbeats 4000000 in
set_option maxRecDepth 100000 in
theorem c_JA_fill (l : Launch) (D : va_G) (g : Nat → ClassId) (sz : Nat) (wr : va_W) (a n0 : Nat) (f : Nat → Int32) (v : Int32) (hn0 : n0 < 2 ^ 20) : Met l y_JA_fill w_JA_fill rm_JA_fill (va_Pc [.ref a, .int (v)] (pP D (tyl g) ((a, .inl (g 0, n0, .inl (f))) :: wr) sz)) (va_Qv (fun (u : Unit) => True) (fun u => qB D (va_A ((a, .inl (g 0, n0, .inl (f))) :: wr) sz) ((a, .inl (g 0, n0, .inl (fun j => if j < n0 then v else f j))) :: wr)) (va_A ((a, .inl (g 0, n0, .inl (f))) :: wr) sz)) 0 0 (va_A ((a, .inl (g 0, n0, .inl (f))) :: wr) sz) := by
  refine va_MetF (cc := b_JA_fill) (maxL := 4) (ret := none) (by decide +kernel) rfl ?_
  intro p e s m args below meth c s₁ Bq hml hv
  have hx := Bq.exec
  have hb := Bq.bytes
  have hr := Bq.returns
  have hts : ∀ w ∈ wA, w.before args s = true := fun w h => atoms_spec (ws := w_JA_fill) Bq.pre w (List.mem_cons_of_mem _ h)
  have hown : s.vm.findClass R_JA = some m.cls := findClass_of_methodNamed Bq.named
  have hlocks := Bq.notSynchronized
  obtain ⟨rfl, hsz, hP, hKK, hD0⟩ := hv
  have hK := hKK.1
  subst hsz
  have hD := hD0.self (sz := s.heap.size)
  generalize hAe : va_A ((a, .inl (g 0, n0, .inl (f))) :: wr) s.heap.size = A at hD ⊢
  have hA : ∀ q : Nat, s.heap.size ≤ q → A q := fun q h => by rw [← hAe]; exact Or.inr h
  have hS : va_S A s.heap s.heap [] := va_S.rf
  have hl := lv_entry ([.ref a, .int (v)]) (n := 4) (Nat.le_of_ble_eq_true rfl)
  rw [lg_entry_eq]
  generalize (lg_sl ([.ref a, .int (v)]) ++ List.replicate (4 - (lg_sl ([.ref a, .int (v)])).length) Slot.unset).toArray = ls at hl ⊢
  have hl : lv_has ls 4 [(0, .ref a), (1, .int (v))] := hl
  generalize hQ : MQ below (va_Qv (fun (u : Unit) => True) (fun u => qB D (A) ((a, .inl (g 0, n0, .inl (fun j => if j < n0 then v else f j))) :: wr)) (A)) [.ref a, .int (v)].toArray s 0 0 A = Q
  have lp5 : ∀ (n : Nat) (k : Nat) (ls : Array Slot) (H : Heap) (locs : List Loc), (n0 + 1 ≤ k + n) → (k ≤ n0) → lv_has ls 4 [(0, .ref a), (1, .int (v)), (2, .int (nI k)), (3, .int (nI n0))] → va_P D vwCl ((a, .inl (g 0, n0, .inl (fun j => if j < k then v else f j))) :: wr) H → va_D A ((a, .inl (g 0, n0, .inl (fun j => if j < k then v else f j))) :: wr) → va_S A s.heap H locs → W p l e (headSpec w_JA_fill rm_JA_fill).room s m [.ref a, .int (v)].toArray below meth c H locs 0 0 Q (F0 m 5 ls []) := by
    intro n
    induction n with
    | zero => intro k ls H locs hfu hk _ _ _ _; exact absurd hfu (by omega)
    | succ n ih =>
      intro k ls H locs hfu hk hl hP hD hS
      refine lv_iload_n hx hb d_JA_fill_5 rfl (lv_at hl 2 rfl) ?_
      refine lv_iload_n hx hb d_JA_fill_6 rfl (lv_at hl 3 rfl) ?_
      refine lx_icmp_ge (tgt := 20) hx hb d_JA_fill_7 (by decide) (by omega) (by omega) (fun c7 => ?_) (fun c7 => ?_)
      · skip
        obtain rfl : k = n0 := by omega
        rw [← hQ]
        refine W.vret hx hb hr ?_ hS.2.2 d_JA_fill_20
        exact fun t ht hW => ⟨⟨(), rfl, trivial, by rw [ht]; exact hP, hD⟩, hS.F ht⟩
      · skip
        refine lv_aload_n hx hb d_JA_fill_10 rfl (lv_at hl 0 rfl) ?_
        refine lv_iload_n hx hb d_JA_fill_11 rfl (lv_at hl 2 rfl) ?_
        refine lv_iload_n hx hb d_JA_fill_12 rfl (lv_at hl 1 rfl) ?_
        refine lx_iast (f' := fun j => if j < k + 1 then v else f j) hx hb hK hP hD hS 0 0 rfl rfl (j := k) (by omega) (by omega) (upd_fill _ _ _) d_JA_fill_13 (fun H locs hP hD hS => ?_)
        have hP : va_P D vwCl ((a, .inl (g 0, n0, .inl (fun j => if j < k + 1 then v else f j))) :: wr) H := hP
        have hD : va_D A ((a, .inl (g 0, n0, .inl (fun j => if j < k + 1 then v else f j))) :: wr) := hD
        refine lv_iinc (v := nI (k + 1)) (lv' := [(2, .int (nI (k + 1))), (0, .ref a), (1, .int (v)), (3, .int (nI n0))]) hx hb d_JA_fill_14 hl (k := 2) rfl (nI_1 k) (by decide) rfl (fun ls hl => ?_)
        refine lv_goto (tgt := 5) hx hb d_JA_fill_17 (by decide) ?_
        exact ih (k + 1) _ _ _ (by omega) (by omega) (lv_sub hl [1, 2, 0, 3] rfl) hP hD hS
  refine lv_iconst (v := nI 0) hx hb d_JA_fill_0 (by decide) ?_
  refine lv_istore_n (lv' := [(2, .int (nI 0)), (0, .ref a), (1, .int (v))]) hx hb d_JA_fill_1 rfl hl (by decide) rfl (fun ls hl => ?_)
  refine lv_aload_n hx hb d_JA_fill_2 rfl (lv_at hl 1 rfl) ?_
  refine va_alen hx hb hK hP 0 0 rfl (v := nI n0) rfl (rfl) d_JA_fill_3 ?_
  refine lv_istore_n (lv' := [(3, .int (nI n0)), (2, .int (nI 0)), (0, .ref a), (1, .int (v))]) hx hb d_JA_fill_4 rfl hl (by decide) rfl (fun ls hl => ?_)
  have hP : va_P D vwCl ((a, .inl (g 0, n0, .inl (fun j => if j < 0 then v else f j))) :: wr) s.heap := by simpa using hP
  have hD : va_D A ((a, .inl (g 0, n0, .inl (fun j => if j < 0 then v else f j))) :: wr) := by simpa using hD
  exact lp5 (n0 + 1) 0 _ _ _ (by omega) (by omega) (lv_sub hl [2, 3, 1, 0] rfl) hP hD hS
end
section
/-- the bits of a number, as Integer.bitCount counts them -/
def bc1 (a : Nat) : Nat := a - (a >>> 1 &&& 1431655765)
def bc2 (a : Nat) : Nat := (bc1 a &&& 858993459) + (bc1 a >>> 2 &&& 858993459)
def bc3 (a : Nat) : Nat := (bc2 a + bc2 a >>> 4) &&& 252645135
def bc4 (a : Nat) : Nat := bc3 a + bc3 a >>> 8
def bc5 (a : Nat) : Nat := bc4 a + bc4 a >>> 16
def bc32 (a : Nat) : Nat := bc5 a &&& 63
theorem bc1_le (a : Nat) : a >>> 1 &&& 1431655765 ≤ a := Nat.le_trans Nat.and_le_left (Nat.shiftRight_le a 1)
theorem bc1_lt {a : Nat} (h : a < 2 ^ 32) : bc1 a < 2 ^ 32 := Nat.lt_of_le_of_lt (Nat.sub_le _ _) h
theorem bc2_lt (a : Nat) : bc2 a < 2 ^ 31 := by
  have h1 : bc1 a &&& 858993459 ≤ 858993459 := Nat.and_le_right
  have h2 : bc1 a >>> 2 &&& 858993459 ≤ 858993459 := Nat.and_le_right
  unfold bc2; omega
theorem bc3_lt (a : Nat) : bc3 a < 2 ^ 28 := by
  have h1 : bc3 a ≤ 252645135 := Nat.and_le_right
  omega
theorem bc4_lt (a : Nat) : bc4 a < 2 ^ 29 := by
  have h1 := bc3_lt a
  have h2 : bc3 a >>> 8 ≤ bc3 a := Nat.shiftRight_le _ _
  unfold bc4; omega
theorem bc5_lt (a : Nat) : bc5 a < 2 ^ 30 := by
  have h1 := bc4_lt a
  have h2 : bc4 a >>> 16 ≤ bc4 a := Nat.shiftRight_le _ _
  unfold bc5; omega
theorem bc32_lt (a : Nat) : bc32 a < 64 := Nat.lt_of_le_of_lt Nat.and_le_right (by decide)
/-- of the candidates below n: the best of a weight, with its greatest row sum -/
def bw (fr : Nat → Bool) (f : Nat → Nat) (R wt : Nat) : Nat → Option (Nat × Nat)
  | 0 => none
  | n + 1 => match bw fr f R wt n with
    | none => if (bc32 n == wt && fr n) = true then some (n, gs f n R) else none
    | some q => if (bc32 n == wt && fr n && decide (gs f n R < q.2)) = true then some (n, gs f n R) else some q
def bwL (o : Option (Nat × Nat)) : Nat := match o with
  | none => 2147483647
  | some q => q.2
theorem bw_no {fr : Nat → Bool} {f : Nat → Nat} {R wt n : Nat} (h : ¬ (bc32 n = wt ∧ fr n = true ∧ gs f n R < bwL (bw fr f R wt n))) (hg : gs f n R < 2147483647) : bw fr f R wt (n + 1) = bw fr f R wt n := by
  show (match bw fr f R wt n with | none => _ | some q => _) = _
  cases e : bw fr f R wt n with
  | none =>
    rw [e] at h
    have : ¬ (bc32 n == wt && fr n) = true := by
      intro q
      simp only [Bool.and_eq_true, beq_iff_eq] at q
      exact h ⟨q.1, q.2, hg⟩
    simp only [if_neg this]
  | some q =>
    rw [e] at h
    have : ¬ (bc32 n == wt && fr n && decide (gs f n R < q.2)) = true := by
      intro z
      simp only [Bool.and_eq_true, beq_iff_eq, decide_eq_true_eq] at z
      exact h ⟨z.1.1, z.1.2, z.2⟩
    simp only [if_neg this]
theorem bw_yes {fr : Nat → Bool} {f : Nat → Nat} {R wt n : Nat} (h1 : bc32 n = wt) (h2 : fr n = true) (h3 : gs f n R < bwL (bw fr f R wt n)) : bw fr f R wt (n + 1) = some (n, gs f n R) := by
  show (match bw fr f R wt n with | none => _ | some q => _) = _
  cases e : bw fr f R wt n with
  | none => simp [h1, h2]
  | some q =>
    rw [e] at h3
    have h4 : gs f n R < q.2 := h3
    simp [h1, h2, h4]
/-- the best column: the least weight that has one -/
def bcol (fr : Nat → Bool) (f : Nat → Nat) (R nb : Nat) : Nat → Nat → Option Nat
  | 0, _ => none
  | n + 1, wt => if R < wt then none else match bw fr f R wt nb with
    | some q => some q.1
    | none => bcol fr f R nb n (wt + 2)
/-- the columns of kind 0 by the check's bits -/
def ct : Nat → List Nat
  | 4 => [7, 11, 13, 14]
  | 5 => [7, 11, 28, 13, 14, 19, 21, 26, 22, 25, 31]
  | 6 => [7, 56, 11, 52, 13, 50, 14, 49, 19, 44, 21, 42, 22, 41, 25, 38, 26, 37, 28, 35, 31, 47, 55, 59, 61, 62]
  | 7 => [7, 56, 11, 52, 13, 50, 14, 49, 19, 44, 21, 42, 22, 41, 25, 38, 26, 37, 28, 35, 67, 76, 112, 69, 74, 70, 73, 81, 82, 84, 104, 88, 97, 98, 100, 31, 47, 55, 59, 124, 61, 62, 79, 115, 87, 91, 93, 110, 94, 103, 121, 107, 109, 118, 117, 122, 127]
  | _ => []
def cc_ (R k : Nat) : Nat := (ct R).getD k 0
/-- the row sums behind k columns -/
def rsf (R : Nat) : Nat → Nat → Nat
  | 0, _ => 0
  | k + 1, j => if j < R then rsf R k j + cc_ R k >>> j % 2 else rsf R k j
/-- the first place below n where f is s -/
def fnd (f : Nat → Nat) (s : Nat) : Nat → Option Nat
  | 0 => none
  | n + 1 => match fnd f s n with
    | some k => some k
    | none => if f n = s then some n else none
def fr_ (R k s : Nat) : Bool := (fnd (cc_ R) s k).isNone && (fnd (fun r => 2 ^ r) s R).isNone
/-- which bit a syndrome points at, behind k columns of a word of b bits -/
def ba (R b k s : Nat) : Option Nat := match fnd (cc_ R) s k with
  | some j => some j
  | none => match fnd (fun r => 2 ^ r) s R with
    | some r => some (b + r)
    | none => none
theorem best4 : (List.range 4).all (fun k => bcol (fr_ 4 k) (rsf 4 k) 4 16 4 3 == some (cc_ 4 k)) = true := by decide +kernel
theorem best5 : (List.range 11).all (fun k => bcol (fr_ 5 k) (rsf 5 k) 5 32 4 3 == some (cc_ 5 k)) = true := by decide +kernel
theorem best6 : (List.range 26).all (fun k => bcol (fr_ 6 k) (rsf 6 k) 6 64 4 3 == some (cc_ 6 k)) = true := by decide +kernel
theorem best7 : (List.range 57).all (fun k => bcol (fr_ 7 k) (rsf 7 k) 7 128 4 3 == some (cc_ 7 k)) = true := by decide +kernel
theorem gs_lt {f : Nat → Nat} {c : Nat} : ∀ {n : Nat}, (∀ k, k < n → f k < 2 ^ 20) → gs f c n < 2 ^ 21 := by
  intro n
  induction n with
  | zero => intro _; show 0 < 2 ^ 21; decide
  | succ n ih =>
    intro h
    have h1 := ih (fun k hk => h k (by omega))
    have h2 := h n (by omega)
    show max (gs f c n) (f n + c >>> n % 2) < 2 ^ 21
    omega
theorem bwL_lt {fr : Nat → Bool} {f : Nat → Nat} {R wt : Nat} (h : ∀ k, k < R → f k < 2 ^ 20) : ∀ n, bwL (bw fr f R wt n) < 2 ^ 31 := by
  intro n
  induction n with
  | zero => show 2147483647 < 2 ^ 31; decide
  | succ n ih =>
    have hg : gs f n R < 2 ^ 21 := gs_lt h
    show bwL (match bw fr f R wt n with | none => _ | some q => _) < _
    cases e : bw fr f R wt n with
    | none =>
      by_cases c : (bc32 n == wt && fr n) = true
      · simp only [if_pos c]; show gs f n R < _; omega
      · simp only [if_neg c]; show 2147483647 < _; decide
    | some q =>
      rw [e] at ih
      by_cases c : (bc32 n == wt && fr n && decide (gs f n R < q.2)) = true
      · simp only [if_pos c]; show gs f n R < _; omega
      · simp only [if_neg c]; exact ih
theorem bw_lt {fr : Nat → Bool} {f : Nat → Nat} {R wt n : Nat} (hn : n ≤ 128) : ∀ k, (bw fr f R wt n).map (fun q => q.1) = some k → k < 2 ^ 31 := by
  have h : ∀ n q, bw fr f R wt n = some q → q.1 < n := by
    intro n
    induction n with
    | zero => intro q h; cases h
    | succ n ih =>
      intro q h
      have h1 : (match bw fr f R wt n with
        | none => if (bc32 n == wt && fr n) = true then some (n, gs f n R) else none
        | some q => if (bc32 n == wt && fr n && decide (gs f n R < q.2)) = true then some (n, gs f n R) else some q) = some q := h
      cases e : bw fr f R wt n with
      | none =>
        rw [e] at h1
        by_cases c : (bc32 n == wt && fr n) = true
        · simp only [if_pos c] at h1; cases h1; exact Nat.lt_succ_self n
        · simp only [if_neg c] at h1; cases h1
      | some p =>
        rw [e] at h1
        by_cases c : (bc32 n == wt && fr n && decide (gs f n R < p.2)) = true
        · simp only [if_pos c] at h1; cases h1; exact Nat.lt_succ_self n
        · simp only [if_neg c] at h1; have := ih q (by rw [e]; exact h1); omega
  intro k hk
  cases e : bw fr f R wt n with
  | none => rw [e] at hk; cases hk
  | some q => rw [e] at hk; have h1 : q.1 = k := Option.some.inj hk; have := h n q e; omega
theorem bcol_end {fr : Nat → Bool} {f : Nat → Nat} {R nb n wt : Nat} (h : R < wt) : (-1 : Int32) = oI (bcol fr f R nb (n + 1) wt) := by
  show _ = oI (if R < wt then none else _)
  rw [if_pos h]; rfl
theorem bcol_no {fr : Nat → Bool} {f : Nat → Nat} {R nb n wt : Nat} (e : bw fr f R wt nb = none) (h : ¬ R < wt) : bcol fr f R nb (n + 1) wt = bcol fr f R nb n (wt + 2) := by
  show (if R < wt then none else match bw fr f R wt nb with | some q => some q.1 | none => bcol fr f R nb n (wt + 2)) = _
  rw [if_neg h, e]
theorem bcol_yes {fr : Nat → Bool} {f : Nat → Nat} {R nb n wt : Nat} (e : ¬ bw fr f R wt nb = none) (h : ¬ R < wt) : oI ((bw fr f R wt nb).map (fun q => q.1)) = oI (bcol fr f R nb (n + 1) wt) := by
  show _ = oI (if R < wt then none else match bw fr f R wt nb with | some q => some q.1 | none => bcol fr f R nb n (wt + 2))
  rw [if_neg h]
  cases e1 : bw fr f R wt nb with
  | none => exact absurd e1 e
  | some q => rfl
end
section
theorem m_93 : Cond.constant R_JI 265 1431655765 ∈ wA := in_wA (List.mem_of_getElem? (i := 93) rfl) rfl
theorem m_94 : Cond.constant R_JI 266 858993459 ∈ wA := in_wA (List.mem_of_getElem? (i := 94) rfl) rfl
theorem m_95 : Cond.constant R_JI 267 252645135 ∈ wA := in_wA (List.mem_of_getElem? (i := 95) rfl) rfl
theorem m_92 : Cond.code y_JI_bitCount b_JI_bitCount 1 (some .int) ∈ wA := in_wA (List.mem_of_getElem? (i := 92) rfl) rfl
theorem m_90 : Cond.methodLink R_L 49 y_JI_bitCount ∈ wA := in_wA (List.mem_of_getElem? (i := 90) rfl) rfl
theorem m_91 : Cond.static y_JI_bitCount ∈ wA := in_wA (List.mem_of_getElem? (i := 91) rfl) rfl
theorem m_35 : Cond.initialized R_JI ∈ wA := in_wA (List.mem_of_getElem? (i := 35) rfl) rfl
theorem m_98 : Cond.code y_L_greatestSumWith b_L_greatestSumWith 5 (some .int) ∈ wA := in_wA (List.mem_of_getElem? (i := 98) rfl) rfl
theorem m_96 : Cond.methodLink R_L 52 y_L_greatestSumWith ∈ wA := in_wA (List.mem_of_getElem? (i := 96) rfl) rfl
theorem m_97 : Cond.static y_L_greatestSumWith ∈ wA := in_wA (List.mem_of_getElem? (i := 97) rfl) rfl
theorem m_33 : Cond.initialized R_L ∈ wA := in_wA (List.mem_of_getElem? (i := 33) rfl) rfl
theorem m_89 : Cond.constant R_L 48 2147483647 ∈ wA := in_wA (List.mem_of_getElem? (i := 89) rfl) rfl
theorem m_88 : Cond.code y_L_bestColumnOfWeight b_L_bestColumnOfWeight 7 (some .int) ∈ wA := in_wA (List.mem_of_getElem? (i := 88) rfl) rfl
theorem m_86 : Cond.methodLink R_L 42 y_L_bestColumnOfWeight ∈ wA := in_wA (List.mem_of_getElem? (i := 86) rfl) rfl
theorem m_87 : Cond.static y_L_bestColumnOfWeight ∈ wA := in_wA (List.mem_of_getElem? (i := 87) rfl) rfl
abbrev w_JI_bitCount : List Cond := .code y_JI_bitCount b_JI_bitCount 1 (some .int) :: wA
abbrev rm_JI_bitCount : Room := { frames := 0, cells := 0, slots := 0, locals := 0 }
theorem d_JI_bitCount_0 : decode b_JI_bitCount 0 = .ok (.iload_n 0, 1) := by decide +kernel
theorem d_JI_bitCount_1 : decode b_JI_bitCount 1 = .ok (.iload_n 0, 1) := by decide +kernel
theorem d_JI_bitCount_2 : decode b_JI_bitCount 2 = .ok (.iconst 1, 1) := by decide +kernel
theorem d_JI_bitCount_3 : decode b_JI_bitCount 3 = .ok (.iushr, 1) := by decide +kernel
theorem d_JI_bitCount_4 : decode b_JI_bitCount 4 = .ok (.ldc_w 265, 3) := by decide +kernel
theorem d_JI_bitCount_7 : decode b_JI_bitCount 7 = .ok (.iand, 1) := by decide +kernel
theorem d_JI_bitCount_8 : decode b_JI_bitCount 8 = .ok (.isub, 1) := by decide +kernel
theorem d_JI_bitCount_9 : decode b_JI_bitCount 9 = .ok (.istore_n 0, 1) := by decide +kernel
theorem d_JI_bitCount_10 : decode b_JI_bitCount 10 = .ok (.iload_n 0, 1) := by decide +kernel
theorem d_JI_bitCount_11 : decode b_JI_bitCount 11 = .ok (.ldc_w 266, 3) := by decide +kernel
theorem d_JI_bitCount_14 : decode b_JI_bitCount 14 = .ok (.iand, 1) := by decide +kernel
theorem d_JI_bitCount_15 : decode b_JI_bitCount 15 = .ok (.iload_n 0, 1) := by decide +kernel
theorem d_JI_bitCount_16 : decode b_JI_bitCount 16 = .ok (.iconst 2, 1) := by decide +kernel
theorem d_JI_bitCount_17 : decode b_JI_bitCount 17 = .ok (.iushr, 1) := by decide +kernel
theorem d_JI_bitCount_18 : decode b_JI_bitCount 18 = .ok (.ldc_w 266, 3) := by decide +kernel
theorem d_JI_bitCount_21 : decode b_JI_bitCount 21 = .ok (.iand, 1) := by decide +kernel
theorem d_JI_bitCount_22 : decode b_JI_bitCount 22 = .ok (.iadd, 1) := by decide +kernel
theorem d_JI_bitCount_23 : decode b_JI_bitCount 23 = .ok (.istore_n 0, 1) := by decide +kernel
theorem d_JI_bitCount_24 : decode b_JI_bitCount 24 = .ok (.iload_n 0, 1) := by decide +kernel
theorem d_JI_bitCount_25 : decode b_JI_bitCount 25 = .ok (.iload_n 0, 1) := by decide +kernel
theorem d_JI_bitCount_26 : decode b_JI_bitCount 26 = .ok (.iconst 4, 1) := by decide +kernel
theorem d_JI_bitCount_27 : decode b_JI_bitCount 27 = .ok (.iushr, 1) := by decide +kernel
theorem d_JI_bitCount_28 : decode b_JI_bitCount 28 = .ok (.iadd, 1) := by decide +kernel
theorem d_JI_bitCount_29 : decode b_JI_bitCount 29 = .ok (.ldc_w 267, 3) := by decide +kernel
theorem d_JI_bitCount_32 : decode b_JI_bitCount 32 = .ok (.iand, 1) := by decide +kernel
theorem d_JI_bitCount_33 : decode b_JI_bitCount 33 = .ok (.istore_n 0, 1) := by decide +kernel
theorem d_JI_bitCount_34 : decode b_JI_bitCount 34 = .ok (.iload_n 0, 1) := by decide +kernel
theorem d_JI_bitCount_35 : decode b_JI_bitCount 35 = .ok (.iload_n 0, 1) := by decide +kernel
theorem d_JI_bitCount_36 : decode b_JI_bitCount 36 = .ok (.bipush 8, 2) := by decide +kernel
theorem d_JI_bitCount_38 : decode b_JI_bitCount 38 = .ok (.iushr, 1) := by decide +kernel
theorem d_JI_bitCount_39 : decode b_JI_bitCount 39 = .ok (.iadd, 1) := by decide +kernel
theorem d_JI_bitCount_40 : decode b_JI_bitCount 40 = .ok (.istore_n 0, 1) := by decide +kernel
theorem d_JI_bitCount_41 : decode b_JI_bitCount 41 = .ok (.iload_n 0, 1) := by decide +kernel
theorem d_JI_bitCount_42 : decode b_JI_bitCount 42 = .ok (.iload_n 0, 1) := by decide +kernel
theorem d_JI_bitCount_43 : decode b_JI_bitCount 43 = .ok (.bipush 16, 2) := by decide +kernel
theorem d_JI_bitCount_45 : decode b_JI_bitCount 45 = .ok (.iushr, 1) := by decide +kernel
theorem d_JI_bitCount_46 : decode b_JI_bitCount 46 = .ok (.iadd, 1) := by decide +kernel
theorem d_JI_bitCount_47 : decode b_JI_bitCount 47 = .ok (.istore_n 0, 1) := by decide +kernel
theorem d_JI_bitCount_48 : decode b_JI_bitCount 48 = .ok (.iload_n 0, 1) := by decide +kernel
theorem d_JI_bitCount_49 : decode b_JI_bitCount 49 = .ok (.bipush 63, 2) := by decide +kernel
theorem d_JI_bitCount_51 : decode b_JI_bitCount 51 = .ok (.iand, 1) := by decide +kernel
theorem d_JI_bitCount_52 : decode b_JI_bitCount 52 = .ok (.ireturn, 1) := by decide +kernel
abbrev w_L_bestColumnOfWeight : List Cond := .code y_L_bestColumnOfWeight b_L_bestColumnOfWeight 7 (some .int) :: wA
abbrev rm_L_bestColumnOfWeight : Room := { frames := 1, cells := 0, slots := 0, locals := 24 }
theorem d_L_bestColumnOfWeight_0 : decode b_L_bestColumnOfWeight 0 = .ok (.iconst (-1), 1) := by decide +kernel
theorem d_L_bestColumnOfWeight_1 : decode b_L_bestColumnOfWeight 1 = .ok (.istore_n 3, 1) := by decide +kernel
theorem d_L_bestColumnOfWeight_2 : decode b_L_bestColumnOfWeight 2 = .ok (.ldc 48, 2) := by decide +kernel
theorem d_L_bestColumnOfWeight_4 : decode b_L_bestColumnOfWeight 4 = .ok (.istore 4, 2) := by decide +kernel
theorem d_L_bestColumnOfWeight_6 : decode b_L_bestColumnOfWeight 6 = .ok (.iconst 0, 1) := by decide +kernel
theorem d_L_bestColumnOfWeight_7 : decode b_L_bestColumnOfWeight 7 = .ok (.istore 5, 2) := by decide +kernel
theorem d_L_bestColumnOfWeight_9 : decode b_L_bestColumnOfWeight 9 = .ok (.iload 5, 2) := by decide +kernel
theorem d_L_bestColumnOfWeight_11 : decode b_L_bestColumnOfWeight 11 = .ok (.aload_n 1, 1) := by decide +kernel
theorem d_L_bestColumnOfWeight_12 : decode b_L_bestColumnOfWeight 12 = .ok (.arraylength, 1) := by decide +kernel
theorem d_L_bestColumnOfWeight_13 : decode b_L_bestColumnOfWeight 13 = .ok (.if_icmp .ge 48, 3) := by decide +kernel
theorem d_L_bestColumnOfWeight_16 : decode b_L_bestColumnOfWeight 16 = .ok (.aload_n 1, 1) := by decide +kernel
theorem d_L_bestColumnOfWeight_17 : decode b_L_bestColumnOfWeight 17 = .ok (.iload 5, 2) := by decide +kernel
theorem d_L_bestColumnOfWeight_19 : decode b_L_bestColumnOfWeight 19 = .ok (.iaload, 1) := by decide +kernel
theorem d_L_bestColumnOfWeight_20 : decode b_L_bestColumnOfWeight 20 = .ok (.iconst (-1), 1) := by decide +kernel
theorem d_L_bestColumnOfWeight_21 : decode b_L_bestColumnOfWeight 21 = .ok (.if_icmp .ne 34, 3) := by decide +kernel
theorem d_L_bestColumnOfWeight_24 : decode b_L_bestColumnOfWeight 24 = .ok (.iload 5, 2) := by decide +kernel
theorem d_L_bestColumnOfWeight_26 : decode b_L_bestColumnOfWeight 26 = .ok (.invokestatic 49, 3) := by decide +kernel
theorem d_L_bestColumnOfWeight_29 : decode b_L_bestColumnOfWeight 29 = .ok (.iload_n 0, 1) := by decide +kernel
theorem d_L_bestColumnOfWeight_30 : decode b_L_bestColumnOfWeight 30 = .ok (.if_icmp .ne 25, 3) := by decide +kernel
theorem d_L_bestColumnOfWeight_33 : decode b_L_bestColumnOfWeight 33 = .ok (.aload_n 2, 1) := by decide +kernel
theorem d_L_bestColumnOfWeight_34 : decode b_L_bestColumnOfWeight 34 = .ok (.iload 5, 2) := by decide +kernel
theorem d_L_bestColumnOfWeight_36 : decode b_L_bestColumnOfWeight 36 = .ok (.invokestatic 52, 3) := by decide +kernel
theorem d_L_bestColumnOfWeight_39 : decode b_L_bestColumnOfWeight 39 = .ok (.istore 6, 2) := by decide +kernel
theorem d_L_bestColumnOfWeight_41 : decode b_L_bestColumnOfWeight 41 = .ok (.iload 6, 2) := by decide +kernel
theorem d_L_bestColumnOfWeight_43 : decode b_L_bestColumnOfWeight 43 = .ok (.iload 4, 2) := by decide +kernel
theorem d_L_bestColumnOfWeight_45 : decode b_L_bestColumnOfWeight 45 = .ok (.if_icmp .ge 10, 3) := by decide +kernel
theorem d_L_bestColumnOfWeight_48 : decode b_L_bestColumnOfWeight 48 = .ok (.iload 6, 2) := by decide +kernel
theorem d_L_bestColumnOfWeight_50 : decode b_L_bestColumnOfWeight 50 = .ok (.istore 4, 2) := by decide +kernel
theorem d_L_bestColumnOfWeight_52 : decode b_L_bestColumnOfWeight 52 = .ok (.iload 5, 2) := by decide +kernel
theorem d_L_bestColumnOfWeight_54 : decode b_L_bestColumnOfWeight 54 = .ok (.istore_n 3, 1) := by decide +kernel
theorem d_L_bestColumnOfWeight_55 : decode b_L_bestColumnOfWeight 55 = .ok (.iinc 5 1, 3) := by decide +kernel
theorem d_L_bestColumnOfWeight_58 : decode b_L_bestColumnOfWeight 58 = .ok (.goto (-49), 3) := by decide +kernel
theorem d_L_bestColumnOfWeight_61 : decode b_L_bestColumnOfWeight 61 = .ok (.iload_n 3, 1) := by decide +kernel
theorem d_L_bestColumnOfWeight_62 : decode b_L_bestColumnOfWeight 62 = .ok (.ireturn, 1) := by decide +kernel
abbrev w_L_bestColumn : List Cond := .code y_L_bestColumn b_L_bestColumn 4 (some .int) :: wA
abbrev rm_L_bestColumn : Room := { frames := 2, cells := 0, slots := 0, locals := 50 }
theorem d_L_bestColumn_0 : decode b_L_bestColumn 0 = .ok (.iconst 3, 1) := by decide +kernel
theorem d_L_bestColumn_1 : decode b_L_bestColumn 1 = .ok (.istore_n 2, 1) := by decide +kernel
theorem d_L_bestColumn_2 : decode b_L_bestColumn 2 = .ok (.iload_n 2, 1) := by decide +kernel
theorem d_L_bestColumn_3 : decode b_L_bestColumn 3 = .ok (.aload_n 1, 1) := by decide +kernel
theorem d_L_bestColumn_4 : decode b_L_bestColumn 4 = .ok (.arraylength, 1) := by decide +kernel
theorem d_L_bestColumn_5 : decode b_L_bestColumn 5 = .ok (.if_icmp .gt 23, 3) := by decide +kernel
theorem d_L_bestColumn_8 : decode b_L_bestColumn 8 = .ok (.iload_n 2, 1) := by decide +kernel
theorem d_L_bestColumn_9 : decode b_L_bestColumn 9 = .ok (.aload_n 0, 1) := by decide +kernel
theorem d_L_bestColumn_10 : decode b_L_bestColumn 10 = .ok (.aload_n 1, 1) := by decide +kernel
theorem d_L_bestColumn_11 : decode b_L_bestColumn 11 = .ok (.invokestatic 42, 3) := by decide +kernel
theorem d_L_bestColumn_14 : decode b_L_bestColumn 14 = .ok (.istore_n 3, 1) := by decide +kernel
theorem d_L_bestColumn_15 : decode b_L_bestColumn 15 = .ok (.iload_n 3, 1) := by decide +kernel
theorem d_L_bestColumn_16 : decode b_L_bestColumn 16 = .ok (.iconst (-1), 1) := by decide +kernel
theorem d_L_bestColumn_17 : decode b_L_bestColumn 17 = .ok (.if_icmp .eq 5, 3) := by decide +kernel
theorem d_L_bestColumn_20 : decode b_L_bestColumn 20 = .ok (.iload_n 3, 1) := by decide +kernel
theorem d_L_bestColumn_21 : decode b_L_bestColumn 21 = .ok (.ireturn, 1) := by decide +kernel
theorem d_L_bestColumn_22 : decode b_L_bestColumn 22 = .ok (.iinc 2 2, 3) := by decide +kernel
theorem d_L_bestColumn_25 : decode b_L_bestColumn 25 = .ok (.goto (-23), 3) := by decide +kernel
theorem d_L_bestColumn_28 : decode b_L_bestColumn 28 = .ok (.iconst (-1), 1) := by decide +kernel
theorem d_L_bestColumn_29 : decode b_L_bestColumn 29 = .ok (.ireturn, 1) := by decide +kernel
set_option maxHeartbeats 4000000 in
set_option maxRecDepth 100000 in
theorem c_JI_bitCount (l : Launch) (D : va_G) (g : Nat → ClassId) (sz : Nat) (ws : va_W) (a : Nat) (ha : a < 2 ^ 32) : Met l y_JI_bitCount w_JI_bitCount rm_JI_bitCount (va_Pc [.int (nI a)] (pP D (tyl g) (ws) sz)) (va_Qi (fun (r : Int32) (u : Unit) => r = nI (bc32 a)) (fun u => qB D (va_A (ws) sz) (ws)) (va_A (ws) sz)) 0 0 (va_A (ws) sz) := by
  refine va_MetF (cc := b_JI_bitCount) (maxL := 1) (ret := (some .int)) (by decide +kernel) rfl ?_
  intro p e s m args below meth c s₁ Bq hml hv
  have hx := Bq.exec
  have hb := Bq.bytes
  have hr := Bq.returns
  have hts : ∀ w ∈ wA, w.before args s = true := fun w h => atoms_spec (ws := w_JI_bitCount) Bq.pre w (List.mem_cons_of_mem _ h)
  have hown : s.vm.findClass R_JI = some m.cls := findClass_of_methodNamed Bq.named
  have hlocks := Bq.notSynchronized
  obtain ⟨rfl, hsz, hP, hKK, hD0⟩ := hv
  have hK := hKK.1
  subst hsz
  have hD := hD0.self (sz := s.heap.size)
  generalize hAe : va_A (ws) s.heap.size = A at hD ⊢
  have hA : ∀ q : Nat, s.heap.size ≤ q → A q := fun q h => by rw [← hAe]; exact Or.inr h
  have hS : va_S A s.heap s.heap [] := va_S.rf
  have hl := lv_entry ([.int (nI a)]) (n := 1) (Nat.le_of_ble_eq_true rfl)
  rw [lg_entry_eq]
  generalize (lg_sl ([.int (nI a)]) ++ List.replicate (1 - (lg_sl ([.int (nI a)])).length) Slot.unset).toArray = ls at hl ⊢
  have hl : lv_has ls 1 [(0, .int (nI a))] := hl
  generalize hQ : MQ below (va_Qi (fun (r : Int32) (u : Unit) => r = nI (bc32 a)) (fun u => qB D (A) (ws)) (A)) [.int (nI a)].toArray s 0 0 A = Q
  have b1 := bc1_lt ha
  have b2 := bc2_lt a
  have b3 := bc3_lt a
  have b4 := bc4_lt a
  have b5 := bc5_lt a
  refine lv_iload_n hx hb d_JI_bitCount_0 rfl (lv_at hl 0 rfl) ?_
  refine lv_iload_n hx hb d_JI_bitCount_1 rfl (lv_at hl 0 rfl) ?_
  refine lv_iconst (v := nI 1) hx hb d_JI_bitCount_2 (by decide) ?_
  refine lv_iushr (v := nI (a >>> 1)) hx hb d_JI_bitCount_3 (xn_ushr ha (by decide)) ?_
  refine lv_ldcw (v := 1431655765) hx hb hown (hts _ m_93) d_JI_bitCount_4 ?_
  refine lv_topi (fun y1 ey1 => ?_)
  obtain rfl : y1 = nI 1431655765 := ey1.trans (by decide)
  refine lx_iand (z := nI ((a >>> 1) &&& 1431655765)) hx hb d_JI_bitCount_7 (xn_and (a >>> 1) 1431655765) ?_
  refine lx_isub (z := nI (bc1 a)) hx hb d_JI_bitCount_8 (pk_sub (bc1_le a)) ?_
  refine lv_istore_n (lv' := [(0, .int (nI (bc1 a)))]) hx hb d_JI_bitCount_9 rfl hl (by decide) rfl (fun ls hl => ?_)
  refine lv_iload_n hx hb d_JI_bitCount_10 rfl (lv_at hl 0 rfl) ?_
  refine lv_ldcw (v := 858993459) hx hb hown (hts _ m_94) d_JI_bitCount_11 ?_
  refine lv_topi (fun y2 ey2 => ?_)
  obtain rfl : y2 = nI 858993459 := ey2.trans (by decide)
  refine lx_iand (z := nI ((bc1 a) &&& 858993459)) hx hb d_JI_bitCount_14 (xn_and (bc1 a) 858993459) ?_
  refine lv_iload_n hx hb d_JI_bitCount_15 rfl (lv_at hl 0 rfl) ?_
  refine lv_iconst (v := nI 2) hx hb d_JI_bitCount_16 (by decide) ?_
  refine lv_iushr (v := nI (bc1 a >>> 2)) hx hb d_JI_bitCount_17 (xn_ushr b1 (by decide)) ?_
  refine lv_ldcw (v := 858993459) hx hb hown (hts _ m_94) d_JI_bitCount_18 ?_
  refine lv_topi (fun y3 ey3 => ?_)
  obtain rfl : y3 = nI 858993459 := ey3.trans (by decide)
  refine lx_iand (z := nI ((bc1 a >>> 2) &&& 858993459)) hx hb d_JI_bitCount_21 (xn_and (bc1 a >>> 2) 858993459) ?_
  refine lx_iadd (z := nI (bc2 a)) hx hb d_JI_bitCount_22 (nI_add _ _) ?_
  refine lv_istore_n (lv' := [(0, .int (nI (bc2 a)))]) hx hb d_JI_bitCount_23 rfl hl (by decide) rfl (fun ls hl => ?_)
  refine lv_iload_n hx hb d_JI_bitCount_24 rfl (lv_at hl 0 rfl) ?_
  refine lv_iload_n hx hb d_JI_bitCount_25 rfl (lv_at hl 0 rfl) ?_
  refine lv_iconst (v := nI 4) hx hb d_JI_bitCount_26 (by decide) ?_
  refine lv_iushr (v := nI (bc2 a >>> 4)) hx hb d_JI_bitCount_27 (xn_ushr (by omega) (by decide)) ?_
  refine lx_iadd (z := nI (bc2 a + (bc2 a >>> 4))) hx hb d_JI_bitCount_28 (nI_add (bc2 a) (bc2 a >>> 4)) ?_
  refine lv_ldcw (v := 252645135) hx hb hown (hts _ m_95) d_JI_bitCount_29 ?_
  refine lv_topi (fun y4 ey4 => ?_)
  obtain rfl : y4 = nI 252645135 := ey4.trans (by decide)
  refine lx_iand (z := nI (bc3 a)) hx hb d_JI_bitCount_32 (xn_and _ _) ?_
  refine lv_istore_n (lv' := [(0, .int (nI (bc3 a)))]) hx hb d_JI_bitCount_33 rfl hl (by decide) rfl (fun ls hl => ?_)
  refine lv_iload_n hx hb d_JI_bitCount_34 rfl (lv_at hl 0 rfl) ?_
  refine lv_iload_n hx hb d_JI_bitCount_35 rfl (lv_at hl 0 rfl) ?_
  refine lv_bipush (v := nI 8) hx hb d_JI_bitCount_36 (by decide) ?_
  refine lv_iushr (v := nI (bc3 a >>> 8)) hx hb d_JI_bitCount_38 (xn_ushr (by omega) (by decide)) ?_
  refine lx_iadd (z := nI (bc4 a)) hx hb d_JI_bitCount_39 (nI_add _ _) ?_
  refine lv_istore_n (lv' := [(0, .int (nI (bc4 a)))]) hx hb d_JI_bitCount_40 rfl hl (by decide) rfl (fun ls hl => ?_)
  refine lv_iload_n hx hb d_JI_bitCount_41 rfl (lv_at hl 0 rfl) ?_
  refine lv_iload_n hx hb d_JI_bitCount_42 rfl (lv_at hl 0 rfl) ?_
  refine lv_bipush (v := nI 16) hx hb d_JI_bitCount_43 (by decide) ?_
  refine lv_iushr (v := nI (bc4 a >>> 16)) hx hb d_JI_bitCount_45 (xn_ushr (by omega) (by decide)) ?_
  refine lx_iadd (z := nI (bc5 a)) hx hb d_JI_bitCount_46 (nI_add _ _) ?_
  refine lv_istore_n (lv' := [(0, .int (nI (bc5 a)))]) hx hb d_JI_bitCount_47 rfl hl (by decide) rfl (fun ls hl => ?_)
  refine lv_iload_n hx hb d_JI_bitCount_48 rfl (lv_at hl 0 rfl) ?_
  refine lv_bipush (v := nI 63) hx hb d_JI_bitCount_49 (by decide) ?_
  refine lx_iand (z := nI (bc32 a)) hx hb d_JI_bitCount_51 (xn_and _ _) ?_
  rw [← hQ]
  refine W.iret (v := nI (bc32 a)) hx hb hr ?_ hS.2.2 d_JI_bitCount_52
  exact fun t ht hW => ⟨⟨nI (bc32 a), (), rfl, rfl, by rw [ht]; exact hP, hD⟩, hS.F ht⟩
set_option maxHeartbeats 4000000 in
set_option maxRecDepth 100000 in
theorem c_L_bestColumnOfWeight (l : Launch) (D : va_G) (g : Nat → ClassId) (sz : Nat) (ws : va_W) (k1 k2 a1 a2 nb R wt : Nat) (B : Nat → Option Nat) (f : Nat → Nat) (h1 : ws[k1]? = some (a1, .inl (g 0, nb, .inl (fun s => oI (B s))))) (h2 : ws[k2]? = some (a2, .inl (g 0, R, .inl (fun r => nI (f r))))) (hB : ∀ s k, B s = some k → k < 2 ^ 31) (hf : ∀ k, k < R → f k < 2 ^ 20) (hR : R ≤ 32) (hnb : nb ≤ 128) (hwt : wt < 64) : Met l y_L_bestColumnOfWeight w_L_bestColumnOfWeight rm_L_bestColumnOfWeight (va_Pc [.int (nI wt), .ref a1, .ref a2] (pP D (tyl g) (ws) sz)) (va_Qi (fun (r : Int32) (u : Unit) => r = oI ((bw (fun s => (B s).isNone) f R wt nb).map (fun q => q.1))) (fun u => qB D (va_A (ws) sz) (ws)) (va_A (ws) sz)) 0 0 (va_A (ws) sz) := by
  refine Met.ofW (cc := b_L_bestColumnOfWeight) (maxL := 7) (ret := (some .int)) (by decide +kernel) rfl ?_
  intro p e s m args below meth c s₁ Bq hml hv
  have hx := Bq.exec
  have hb := Bq.bytes
  have hr := Bq.returns
  have hts : ∀ w ∈ wA, w.before args s = true := fun w h => atoms_spec (ws := w_L_bestColumnOfWeight) Bq.pre w (List.mem_cons_of_mem _ h)
  have hown : s.vm.findClass R_L = some m.cls := findClass_of_methodNamed Bq.named
  have hlocks := Bq.notSynchronized
  obtain ⟨rfl, hsz, hP, hKK, hD0⟩ := hv
  have hK := hKK.1
  subst hsz
  have hD := hD0.self (sz := s.heap.size)
  generalize hAe : va_A (ws) s.heap.size = A at hD ⊢
  have hA : ∀ q : Nat, s.heap.size ≤ q → A q := fun q h => by rw [← hAe]; exact Or.inr h
  have hS : va_S A s.heap s.heap [] := va_S.rf
  have hl := lv_entry ([.int (nI wt), .ref a1, .ref a2]) (n := 7) (Nat.le_of_ble_eq_true rfl)
  rw [lg_entry_eq]
  generalize (lg_sl ([.int (nI wt), .ref a1, .ref a2]) ++ List.replicate (7 - (lg_sl ([.int (nI wt), .ref a1, .ref a2])).length) Slot.unset).toArray = ls at hl ⊢
  have hl : lv_has ls 7 [(0, .int (nI wt)), (1, .ref a1), (2, .ref a2)] := hl
  generalize hQ : MQ below (va_Qi (fun (r : Int32) (u : Unit) => r = oI ((bw (fun s => (B s).isNone) f R wt nb).map (fun q => q.1))) (fun u => qB D (A) (ws)) (A)) [.int (nI wt), .ref a1, .ref a2].toArray s 0 0 A = Q
  have lp9 : ∀ (n : Nat) (k : Nat) (ls : Array Slot) (H : Heap) (locs : List Loc), (nb + 1 ≤ k + n) → (k ≤ nb) → lv_has ls 7 [(0, .int (nI wt)), (1, .ref a1), (2, .ref a2), (3, .int (oI ((bw (fun s => (B s).isNone) f R wt k).map (fun q => q.1)))), (4, .int (nI (bwL (bw (fun s => (B s).isNone) f R wt k)))), (5, .int (nI k))] → va_P D vwCl (ws) H → va_D A (ws) → va_S A s.heap H locs → W p l e (headSpec w_L_bestColumnOfWeight rm_L_bestColumnOfWeight).room s m [.int (nI wt), .ref a1, .ref a2].toArray below meth c H locs 0 0 Q (F0 m 9 ls []) := by
    intro n
    induction n with
    | zero => intro k ls H locs hfu hk _ _ _ _; exact absurd hfu (by omega)
    | succ n ih =>
      intro k ls H locs hfu hk hl hP hD hS
      refine lv_iload hx hb d_L_bestColumnOfWeight_9 (lv_at hl 5 rfl) ?_
      refine lv_aload_n hx hb d_L_bestColumnOfWeight_11 rfl (lv_at hl 1 rfl) ?_
      refine va_alen hx hb hK hP k1 0 h1 (v := nI nb) rfl (rfl) d_L_bestColumnOfWeight_12 ?_
      refine lx_icmp_ge (tgt := 61) hx hb d_L_bestColumnOfWeight_13 (by decide) (by omega) (by omega) (fun c13 => ?_) (fun c13 => ?_)
      · skip
        obtain rfl : k = nb := by omega
        refine lv_iload_n hx hb d_L_bestColumnOfWeight_61 rfl (lv_at hl 3 rfl) ?_
        rw [← hQ]
        refine W.iret (v := oI ((bw (fun s => (B s).isNone) f R wt k).map (fun q => q.1))) hx hb hr ?_ hS.2.2 d_L_bestColumnOfWeight_62
        exact fun t ht hW => ⟨⟨oI ((bw (fun s => (B s).isNone) f R wt k).map (fun q => q.1)), (), rfl, rfl, by rw [ht]; exact hP, hD⟩, hS.F ht⟩
      · skip
        have hg : gs f k R < 2 ^ 21 := gs_lt hf
        have hbl : bwL (bw (fun s => (B s).isNone) f R wt k) < 2 ^ 31 := bwL_lt hf k
        have hbc := bc32_lt k
        have j55 : ∀  (ls : Array Slot) (H : Heap) (locs : List Loc), lv_has ls 7 [(0, .int (nI wt)), (1, .ref a1), (2, .ref a2), (3, .int (oI ((bw (fun s => (B s).isNone) f R wt (k + 1)).map (fun q => q.1)))), (4, .int (nI (bwL (bw (fun s => (B s).isNone) f R wt (k + 1))))), (5, .int (nI k))] → va_P D vwCl (ws) H → va_D A (ws) → va_S A s.heap H locs → W p l e (headSpec w_L_bestColumnOfWeight rm_L_bestColumnOfWeight).room s m [.int (nI wt), .ref a1, .ref a2].toArray below meth c H locs 0 0 Q (F0 m 55 ls []) := by
          intro  ls H locs  hl hP hD hS
          refine lv_iinc (v := nI (k + 1)) (lv' := [(5, .int (nI (k + 1))), (0, .int (nI wt)), (1, .ref a1), (2, .ref a2), (3, .int (oI ((bw (fun s => (B s).isNone) f R wt (k + 1)).map (fun q => q.1)))), (4, .int (nI (bwL (bw (fun s => (B s).isNone) f R wt (k + 1)))))]) hx hb d_L_bestColumnOfWeight_55 hl (k := 5) rfl (nI_1 k) (by decide) rfl (fun ls hl => ?_)
          refine lv_goto (tgt := 9) hx hb d_L_bestColumnOfWeight_58 (by decide) ?_
          exact ih (k + 1) _ _ _ (by omega) (by omega) (lv_sub hl [1, 2, 3, 4, 5, 0] rfl) hP hD hS
        refine lv_aload_n hx hb d_L_bestColumnOfWeight_16 rfl (lv_at hl 1 rfl) ?_
        refine lv_iload hx hb d_L_bestColumnOfWeight_17 (lv_at hl 5 rfl) ?_
        refine lx_iald (v := oI (B k)) hx hb hK hP k1 0 h1 rfl (j := k) (by omega) (by omega) (rfl) d_L_bestColumnOfWeight_19 ?_
        refine lv_iconst (v := (-1)) hx hb d_L_bestColumnOfWeight_20 (by decide) ?_
        refine lv_icmp_ne (tgt := 55) hx hb d_L_bestColumnOfWeight_21 (by decide) (fun c21 => ?_) (fun c21 => ?_)
        · skip
          have e9 : bw (fun s => (B s).isNone) f R wt (k + 1) = bw (fun s => (B s).isNone) f R wt k := bw_no (fun z => c21 ((oI_none (hB k)).mpr (Option.isNone_iff_eq_none.mp z.2.1))) (by omega)
          have hl : lv_has ls 7 [(0, .int (nI wt)), (1, .ref a1), (2, .ref a2), (3, .int (oI ((bw (fun s => (B s).isNone) f R wt (k + 1)).map (fun q => q.1)))), (4, .int (nI (bwL (bw (fun s => (B s).isNone) f R wt (k + 1))))), (5, .int (nI k))] := by rw [e9]; exact hl
          exact j55  _ _ _  (lv_sub hl [0, 1, 2, 3, 4, 5] rfl) hP hD hS
        · skip
          refine lv_iload hx hb d_L_bestColumnOfWeight_24 (lv_at hl 5 rfl) ?_
          refine lc_Si (As := [.int (nI k)]) (rest := []) ⟨hx, hb, hml, hown, hts⟩ (c_JI_bitCount l D g _ ws k (by omega)) (kS 1 hts m_92 m_90 m_91 m_35 (by decide +kernel) ⟨Nat.le_of_ble_eq_true rfl, Nat.le_of_ble_eq_true rfl⟩) hKK hP hD hS hA hl.1 rfl rfl (Nat.le_of_ble_eq_true rfl) d_L_bestColumnOfWeight_26 ⟨Nat.le_of_ble_eq_true rfl, Nat.le_of_ble_eq_true rfl⟩ (fun r1 u H locs e1 hP hD hS => ?_)
          obtain rfl : r1 = nI (bc32 k) := e1
          refine lv_iload_n hx hb d_L_bestColumnOfWeight_29 rfl (lv_at hl 0 rfl) ?_
          refine lx_icmp_ne (tgt := 55) hx hb d_L_bestColumnOfWeight_30 (by decide) (by omega) (by omega) (fun c30 => ?_) (fun c30 => ?_)
          · skip
            have e9 : bw (fun s => (B s).isNone) f R wt (k + 1) = bw (fun s => (B s).isNone) f R wt k := bw_no (fun z => c30 z.1) (by omega)
            have hl : lv_has ls 7 [(0, .int (nI wt)), (1, .ref a1), (2, .ref a2), (3, .int (oI ((bw (fun s => (B s).isNone) f R wt (k + 1)).map (fun q => q.1)))), (4, .int (nI (bwL (bw (fun s => (B s).isNone) f R wt (k + 1))))), (5, .int (nI k))] := by rw [e9]; exact hl
            exact j55  _ _ _  (lv_sub hl [0, 1, 2, 3, 4, 5] rfl) hP hD hS
          · skip
            refine lv_aload_n hx hb d_L_bestColumnOfWeight_33 rfl (lv_at hl 2 rfl) ?_
            refine lv_iload hx hb d_L_bestColumnOfWeight_34 (lv_at hl 5 rfl) ?_
            refine lc_Si (As := [.ref a2, .int (nI k)]) (rest := []) ⟨hx, hb, hml, hown, hts⟩ (c_L_greatestSumWith l D g _ ws k2 a2 R f k h2 hR hf (by omega)) (kS 2 hts m_98 m_96 m_97 m_33 (by decide +kernel) ⟨Nat.le_of_ble_eq_true rfl, Nat.le_of_ble_eq_true rfl⟩) hKK hP hD hS hA hl.1 rfl rfl (Nat.le_of_ble_eq_true rfl) d_L_bestColumnOfWeight_36 ⟨Nat.le_of_ble_eq_true rfl, Nat.le_of_ble_eq_true rfl⟩ (fun r2 u H locs e2 hP hD hS => ?_)
            obtain rfl : r2 = nI (gs f k R) := e2
            refine lv_istore (lv' := [(6, .int (nI (gs f k R))), (0, .int (nI wt)), (1, .ref a1), (2, .ref a2), (3, .int (oI ((bw (fun s => (B s).isNone) f R wt k).map (fun q => q.1)))), (4, .int (nI (bwL (bw (fun s => (B s).isNone) f R wt k)))), (5, .int (nI k))]) hx hb d_L_bestColumnOfWeight_39 hl (by decide) rfl (fun ls hl => ?_)
            refine lv_iload hx hb d_L_bestColumnOfWeight_41 (lv_at hl 0 rfl) ?_
            refine lv_iload hx hb d_L_bestColumnOfWeight_43 (lv_at hl 5 rfl) ?_
            refine lx_icmp_ge (tgt := 55) hx hb d_L_bestColumnOfWeight_45 (by decide) (by omega) (by omega) (fun c45 => ?_) (fun c45 => ?_)
            · skip
              have e9 : bw (fun s => (B s).isNone) f R wt (k + 1) = bw (fun s => (B s).isNone) f R wt k := bw_no (fun z => by have := z.2.2; omega) (by omega)
              have hl : lv_has ls 7 [(6, .int (nI (gs f k R))), (0, .int (nI wt)), (1, .ref a1), (2, .ref a2), (3, .int (oI ((bw (fun s => (B s).isNone) f R wt (k + 1)).map (fun q => q.1)))), (4, .int (nI (bwL (bw (fun s => (B s).isNone) f R wt (k + 1))))), (5, .int (nI k))] := by rw [e9]; exact hl
              exact j55  _ _ _  (lv_sub hl [1, 2, 3, 4, 5, 6] rfl) hP hD hS
            · skip
              have e9 : bw (fun s => (B s).isNone) f R wt (k + 1) = some (k, gs f k R) := bw_yes c30 (by rw [(oI_none (hB k)).mp c21]; rfl) (by omega)
              refine lv_iload hx hb d_L_bestColumnOfWeight_48 (lv_at hl 0 rfl) ?_
              refine lv_istore (lv' := [(4, .int (nI (gs f k R))), (6, .int (nI (gs f k R))), (0, .int (nI wt)), (1, .ref a1), (2, .ref a2), (3, .int (oI ((bw (fun s => (B s).isNone) f R wt k).map (fun q => q.1)))), (5, .int (nI k))]) hx hb d_L_bestColumnOfWeight_50 hl (by decide) rfl (fun ls hl => ?_)
              refine lv_iload hx hb d_L_bestColumnOfWeight_52 (lv_at hl 6 rfl) ?_
              refine lv_istore_n (lv' := [(3, .int (nI k)), (4, .int (nI (gs f k R))), (6, .int (nI (gs f k R))), (0, .int (nI wt)), (1, .ref a1), (2, .ref a2), (5, .int (nI k))]) hx hb d_L_bestColumnOfWeight_54 rfl hl (by decide) rfl (fun ls hl => ?_)
              have hl : lv_has ls 7 [(3, .int (oI ((bw (fun s => (B s).isNone) f R wt (k + 1)).map (fun q => q.1)))), (4, .int (nI (bwL (bw (fun s => (B s).isNone) f R wt (k + 1))))), (6, .int (nI (gs f k R))), (0, .int (nI wt)), (1, .ref a1), (2, .ref a2), (5, .int (nI k))] := by rw [e9]; exact hl
              exact j55  _ _ _  (lv_sub hl [3, 4, 5, 0, 1, 6] rfl) hP hD hS
  refine lv_iconst (v := (-1)) hx hb d_L_bestColumnOfWeight_0 (by decide) ?_
  refine lv_istore_n (lv' := [(3, .int ((-1))), (0, .int (nI wt)), (1, .ref a1), (2, .ref a2)]) hx hb d_L_bestColumnOfWeight_1 rfl hl (by decide) rfl (fun ls hl => ?_)
  refine lv_ldc (v := 2147483647) hx hb hown (hts _ m_89) d_L_bestColumnOfWeight_2 ?_
  refine lv_topi (fun y1 ey1 => ?_)
  obtain rfl : y1 = nI 2147483647 := ey1.trans (by decide)
  refine lv_istore (lv' := [(4, .int (nI 2147483647)), (3, .int ((-1))), (0, .int (nI wt)), (1, .ref a1), (2, .ref a2)]) hx hb d_L_bestColumnOfWeight_4 hl (by decide) rfl (fun ls hl => ?_)
  refine lv_iconst (v := nI 0) hx hb d_L_bestColumnOfWeight_6 (by decide) ?_
  refine lv_istore (lv' := [(5, .int (nI 0)), (4, .int (nI 2147483647)), (3, .int ((-1))), (0, .int (nI wt)), (1, .ref a1), (2, .ref a2)]) hx hb d_L_bestColumnOfWeight_7 hl (by decide) rfl (fun ls hl => ?_)
  exact lp9 (nb + 1) 0 _ _ _ (by omega) (by omega) (lv_sub hl [3, 4, 5, 2, 1, 0] rfl) hP hD hS
set_option maxHeartbeats 4000000 in
set_option maxRecDepth 100000 in
theorem c_L_bestColumn (l : Launch) (D : va_G) (g : Nat → ClassId) (sz : Nat) (ws : va_W) (k1 k2 a1 a2 nb R : Nat) (B : Nat → Option Nat) (f : Nat → Nat) (h1 : ws[k1]? = some (a1, .inl (g 0, nb, .inl (fun s => oI (B s))))) (h2 : ws[k2]? = some (a2, .inl (g 0, R, .inl (fun r => nI (f r))))) (hB : ∀ s k, B s = some k → k < 2 ^ 31) (hf : ∀ k, k < R → f k < 2 ^ 20) (hR : R ≤ 7) (hnb : nb ≤ 128) : Met l y_L_bestColumn w_L_bestColumn rm_L_bestColumn (va_Pc [.ref a1, .ref a2] (pP D (tyl g) (ws) sz)) (va_Qi (fun (r : Int32) (u : Unit) => r = oI (bcol (fun s => (B s).isNone) f R nb 4 3)) (fun u => qB D (va_A (ws) sz) (ws)) (va_A (ws) sz)) 0 0 (va_A (ws) sz) := by
  refine Met.ofW (cc := b_L_bestColumn) (maxL := 4) (ret := (some .int)) (by decide +kernel) rfl ?_
  intro p e s m args below meth c s₁ Bq hml hv
  have hx := Bq.exec
  have hb := Bq.bytes
  have hr := Bq.returns
  have hts : ∀ w ∈ wA, w.before args s = true := fun w h => atoms_spec (ws := w_L_bestColumn) Bq.pre w (List.mem_cons_of_mem _ h)
  have hown : s.vm.findClass R_L = some m.cls := findClass_of_methodNamed Bq.named
  have hlocks := Bq.notSynchronized
  obtain ⟨rfl, hsz, hP, hKK, hD0⟩ := hv
  have hK := hKK.1
  subst hsz
  have hD := hD0.self (sz := s.heap.size)
  generalize hAe : va_A (ws) s.heap.size = A at hD ⊢
  have hA : ∀ q : Nat, s.heap.size ≤ q → A q := fun q h => by rw [← hAe]; exact Or.inr h
  have hS : va_S A s.heap s.heap [] := va_S.rf
  have hl := lv_entry ([.ref a1, .ref a2]) (n := 4) (Nat.le_of_ble_eq_true rfl)
  rw [lg_entry_eq]
  generalize (lg_sl ([.ref a1, .ref a2]) ++ List.replicate (4 - (lg_sl ([.ref a1, .ref a2])).length) Slot.unset).toArray = ls at hl ⊢
  have hl : lv_has ls 4 [(0, .ref a1), (1, .ref a2)] := hl
  generalize hQ : MQ below (va_Qi (fun (r : Int32) (u : Unit) => r = oI (bcol (fun s => (B s).isNone) f R nb 4 3)) (fun u => qB D (A) (ws)) (A)) [.ref a1, .ref a2].toArray s 0 0 A = Q
  have lp2 : ∀ (n wt : Nat) (ls : Array Slot) (H : Heap) (locs : List Loc), R < wt + 2 * n → wt < 20 → bcol (fun s => (B s).isNone) f R nb n wt = bcol (fun s => (B s).isNone) f R nb 4 3 → lv_has ls 4 [(0, .ref a1), (1, .ref a2), (2, .int (nI wt))] → va_P D vwCl ws H → va_D A ws → va_S A s.heap H locs → W p l e (headSpec w_L_bestColumn rm_L_bestColumn).room s m [.ref a1, .ref a2].toArray below meth c H locs 0 0 Q (F0 m 2 ls []) := by
    intro n
    induction n with
    | zero =>
      intro wt ls H locs hfu hwt hbc hl hP hD hS
      refine lv_iload_n hx hb d_L_bestColumn_2 rfl (lv_at hl 2 rfl) ?_
      refine lv_aload_n hx hb d_L_bestColumn_3 rfl (lv_at hl 1 rfl) ?_
      refine va_alen hx hb hK hP k2 0 h2 (v := nI R) rfl (rfl) d_L_bestColumn_4 ?_
      refine lx_icmp_gt (tgt := 28) hx hb d_L_bestColumn_5 (by decide) (by omega) (by omega) (fun c5 => ?_) (fun c5 => ?_)
      · skip
        refine lv_iconst (v := (-1)) hx hb d_L_bestColumn_28 (by decide) ?_
        rw [← hQ]
        refine W.iret (v := (-1)) hx hb hr ?_ hS.2.2 d_L_bestColumn_29
        exact fun t ht hW => ⟨⟨(-1), (), rfl, (by rw [← hbc]; rfl), by rw [ht]; exact hP, hD⟩, hS.F ht⟩
      · skip
        exact absurd c5 (by omega)
    | succ n ih =>
      intro wt ls H locs hfu hwt hbc hl hP hD hS
      refine lv_iload_n hx hb d_L_bestColumn_2 rfl (lv_at hl 2 rfl) ?_
      refine lv_aload_n hx hb d_L_bestColumn_3 rfl (lv_at hl 1 rfl) ?_
      refine va_alen hx hb hK hP k2 0 h2 (v := nI R) rfl (rfl) d_L_bestColumn_4 ?_
      refine lx_icmp_gt (tgt := 28) hx hb d_L_bestColumn_5 (by decide) (by omega) (by omega) (fun c5 => ?_) (fun c5 => ?_)
      · skip
        refine lv_iconst (v := (-1)) hx hb d_L_bestColumn_28 (by decide) ?_
        rw [← hQ]
        refine W.iret (v := (-1)) hx hb hr ?_ hS.2.2 d_L_bestColumn_29
        exact fun t ht hW => ⟨⟨(-1), (), rfl, (by rw [← hbc]; exact bcol_end c5), by rw [ht]; exact hP, hD⟩, hS.F ht⟩
      · skip
        refine lv_iload_n hx hb d_L_bestColumn_8 rfl (lv_at hl 2 rfl) ?_
        refine lv_aload_n hx hb d_L_bestColumn_9 rfl (lv_at hl 0 rfl) ?_
        refine lv_aload_n hx hb d_L_bestColumn_10 rfl (lv_at hl 1 rfl) ?_
        refine lc_Si (As := [.int (nI wt), .ref a1, .ref a2]) (rest := []) ⟨hx, hb, hml, hown, hts⟩ (c_L_bestColumnOfWeight l D g _ ws k1 k2 a1 a2 nb R wt B f h1 h2 hB hf (by omega) hnb (by omega)) (kS 3 hts m_88 m_86 m_87 m_33 (by decide +kernel) ⟨Nat.le_of_ble_eq_true rfl, Nat.le_of_ble_eq_true rfl⟩) hKK hP hD hS hA hl.1 rfl rfl (Nat.le_of_ble_eq_true rfl) d_L_bestColumn_11 ⟨Nat.le_of_ble_eq_true rfl, Nat.le_of_ble_eq_true rfl⟩ (fun r1 u H locs e1 hP hD hS => ?_)
        obtain rfl : r1 = oI ((bw (fun s => (B s).isNone) f R wt nb).map (fun q => q.1)) := e1
        have hb9 : ∀ k, (bw (fun s => (B s).isNone) f R wt nb).map (fun q => q.1) = some k → k < 2 ^ 31 := bw_lt hnb
        refine lv_istore_n (lv' := [(3, .int (oI ((bw (fun s => (B s).isNone) f R wt nb).map (fun q => q.1)))), (0, .ref a1), (1, .ref a2), (2, .int (nI wt))]) hx hb d_L_bestColumn_14 rfl hl (by decide) rfl (fun ls hl => ?_)
        refine lv_iload_n hx hb d_L_bestColumn_15 rfl (lv_at hl 0 rfl) ?_
        refine lv_iconst (v := (-1)) hx hb d_L_bestColumn_16 (by decide) ?_
        refine lv_icmp_eq (tgt := 22) hx hb d_L_bestColumn_17 (by decide) (fun c17 => ?_) (fun c17 => ?_)
        · skip
          have e9 : bw (fun s => (B s).isNone) f R wt nb = none := by have := (oI_none hb9).mp c17; simpa using this
          refine lv_iinc (v := nI (wt + 2)) (lv' := [(2, .int (nI (wt + 2))), (3, .int (oI ((bw (fun s => (B s).isNone) f R wt nb).map (fun q => q.1)))), (0, .ref a1), (1, .ref a2)]) hx hb d_L_bestColumn_22 hl (k := 3) rfl (nI_add wt 2) (by decide) rfl (fun ls hl => ?_)
          refine lv_goto (tgt := 2) hx hb d_L_bestColumn_25 (by decide) ?_
          exact ih (wt + 2) _ _ _ (by omega) (by omega) (by rw [← hbc]; exact (bcol_no e9 (by omega)).symm) (lv_sub hl [2, 3, 0] rfl) hP hD hS
        · skip
          refine lv_iload_n hx hb d_L_bestColumn_20 rfl (lv_at hl 0 rfl) ?_
          rw [← hQ]
          refine W.iret (v := oI ((bw (fun s => (B s).isNone) f R wt nb).map (fun q => q.1))) hx hb hr ?_ hS.2.2 d_L_bestColumn_21
          exact fun t ht hW => ⟨⟨oI ((bw (fun s => (B s).isNone) f R wt nb).map (fun q => q.1)), (), rfl, (by rw [← hbc]; exact bcol_yes (fun q => c17 (by rw [q]; rfl)) (by omega)), by rw [ht]; exact hP, hD⟩, hS.F ht⟩
  refine lv_iconst (v := nI 3) hx hb d_L_bestColumn_0 (by decide) ?_
  refine lv_istore_n (lv' := [(2, .int (nI 3)), (0, .ref a1), (1, .ref a2)]) hx hb d_L_bestColumn_1 rfl hl (by decide) rfl (fun ls hl => ?_)
  exact lp2 4 3 _ _ _ (by omega) (by omega) (rfl) (lv_sub hl [1, 2, 0] rfl) hP hD hS
end
section
theorem lr_in {b : Nat} (h : 0 < b) : lr b = 4 ∨ lr b = 5 ∨ lr b = 6 ∨ lr b = 7 := by
  unfold lr
  (repeat' split) <;> omega
theorem lr_le (b : Nat) : lr b ≤ 7 := by
  unfold lr
  (repeat' split) <;> omega
theorem lr_len {b : Nat} (h : b ≤ 57) : b ≤ (ct (lr b)).length := by
  unfold lr
  (repeat' split) <;> first | (show b ≤ 4; omega) | (show b ≤ 11; omega) | (show b ≤ 26; omega) | (show b ≤ 57; omega) | omega
theorem pow_le {R : Nat} (h : R ≤ 7) : 2 ^ R ≤ 128 := Nat.pow_le_pow_right (by decide) h
theorem best_ok {R k : Nat} (hR : R = 4 ∨ R = 5 ∨ R = 6 ∨ R = 7) (hk : k < (ct R).length) : bcol (fr_ R k) (rsf R k) R (2 ^ R) 4 3 = some (cc_ R k) := by
  rcases hR with rfl | rfl | rfl | rfl
  · have := List.all_eq_true.mp best4 k (List.mem_range.mpr hk); simpa using this
  · have := List.all_eq_true.mp best5 k (List.mem_range.mpr hk); simpa using this
  · have := List.all_eq_true.mp best6 k (List.mem_range.mpr hk); simpa using this
  · have := List.all_eq_true.mp best7 k (List.mem_range.mpr hk); simpa using this
theorem ba_fr (R b k : Nat) : (fun s => (ba R b k s).isNone) = fr_ R k := by
  funext s
  unfold ba fr_
  cases fnd (cc_ R) s k with
  | some j => rfl
  | none => cases fnd (fun r => 2 ^ r) s R <;> rfl
theorem fnd_lt {f : Nat → Nat} {s : Nat} : ∀ {n k : Nat}, fnd f s n = some k → k < n ∧ f k = s := by
  intro n
  induction n with
  | zero => intro k h; cases h
  | succ n ih =>
    intro k h
    have h1 : (match fnd f s n with | some k => some k | none => if f n = s then some n else none) = some k := h
    cases e : fnd f s n with
    | some j =>
      rw [e] at h1
      have h2 : j = k := Option.some.inj h1
      have := ih e
      rw [← h2]
      exact ⟨by omega, this.2⟩
    | none =>
      rw [e] at h1
      by_cases c : f n = s
      · simp only [if_pos c] at h1
        have h2 : n = k := Option.some.inj h1
        rw [← h2]
        exact ⟨Nat.lt_succ_self n, c⟩
      · simp only [if_neg c] at h1; cases h1
theorem fnd_none {f : Nat → Nat} {s : Nat} : ∀ {n : Nat}, (∀ k, k < n → f k ≠ s) → fnd f s n = none := by
  intro n h
  cases e : fnd f s n with
  | none => rfl
  | some k => exact absurd (fnd_lt e).2 (h k (fnd_lt e).1)
theorem ba_lt {R b k s : Nat} (hb : b ≤ 57) (hk : k ≤ 57) (hR : R ≤ 7) : ∀ j, ba R b k s = some j → j < 2 ^ 31 := by
  intro j h
  unfold ba at h
  cases e : fnd (cc_ R) s k with
  | some i => rw [e] at h; have h1 : i = j := Option.some.inj h; have := (fnd_lt e).1; omega
  | none =>
    rw [e] at h
    cases e2 : fnd (fun r => 2 ^ r) s R with
    | some r => rw [e2] at h; have h1 : b + r = j := Option.some.inj h; have := (fnd_lt e2).1; omega
    | none => rw [e2] at h; cases h
/-- the places of the check's own bits -/
def pw (b k s : Nat) : Option Nat := match fnd (fun r => 2 ^ r) s k with
  | some r => some (b + r)
  | none => none
theorem pw_upd (b k : Nat) : upd (fun s => oI (pw b k s)) (2 ^ k) (nI (b + k)) = fun s => oI (pw b (k + 1) s) := by
  funext s
  unfold upd
  by_cases e : s = 2 ^ k
  · subst e
    rw [if_pos rfl]
    have h1 : fnd (fun r => 2 ^ r) (2 ^ k) k = none := fnd_none (fun j hj q => by exact absurd q (Nat.ne_of_lt (Nat.pow_lt_pow_right (by decide) hj)))
    have h2 : fnd (fun r => 2 ^ r) (2 ^ k) (k + 1) = some k := by
      show (match fnd (fun r => 2 ^ r) (2 ^ k) k with | some k => some k | none => if 2 ^ k = 2 ^ k then some k else none) = some k
      rw [h1]; simp
    unfold pw
    rw [h2]; rfl
  · rw [if_neg e]
    have h2 : fnd (fun r => 2 ^ r) s (k + 1) = fnd (fun r => 2 ^ r) s k := by
      show (match fnd (fun r => 2 ^ r) s k with | some k => some k | none => if 2 ^ k = s then some k else none) = _
      cases fnd (fun r => 2 ^ r) s k with
      | some j => rfl
      | none => simp only [if_neg (fun q => e q.symm : ¬ 2 ^ k = s)]
    unfold pw
    rw [h2]
theorem ba_pw (R b s : Nat) : pw b R s = ba R b 0 s := rfl
theorem ba_upd {R b k : Nat} (h : fnd (cc_ R) (cc_ R k) k = none) : upd (fun s => oI (ba R b k s)) (cc_ R k) (nI k) = fun s => oI (ba R b (k + 1) s) := by
  funext s
  unfold upd
  by_cases e : s = cc_ R k
  · subst e
    rw [if_pos rfl]
    have h2 : fnd (cc_ R) (cc_ R k) (k + 1) = some k := by
      show (match fnd (cc_ R) (cc_ R k) k with | some k => some k | none => if cc_ R k = cc_ R k then some k else none) = some k
      rw [h]; simp
    unfold ba
    rw [h2]; rfl
  · rw [if_neg e]
    have h2 : fnd (cc_ R) s (k + 1) = fnd (cc_ R) s k := by
      show (match fnd (cc_ R) s k with | some k => some k | none => if cc_ R k = s then some k else none) = _
      cases fnd (cc_ R) s k with
      | some j => rfl
      | none => simp only [if_neg (fun q => e q.symm : ¬ cc_ R k = s)]
    unfold ba
    rw [h2]
theorem rsf_le {R : Nat} : ∀ k j, rsf R k j ≤ k := by
  intro k
  induction k with
  | zero => intro j; exact Nat.le_refl 0
  | succ k ih =>
    intro j
    have := ih j
    show (if j < R then rsf R k j + cc_ R k >>> j % 2 else rsf R k j) ≤ k + 1
    split <;> omega
theorem cc_in4 : (List.range 4).all (fun k => decide (cc_ 4 k < 16) && (fnd (cc_ 4) (cc_ 4 k) k).isNone) = true := by decide +kernel
theorem cc_in5 : (List.range 11).all (fun k => decide (cc_ 5 k < 32) && (fnd (cc_ 5) (cc_ 5 k) k).isNone) = true := by decide +kernel
theorem cc_in6 : (List.range 26).all (fun k => decide (cc_ 6 k < 64) && (fnd (cc_ 6) (cc_ 6 k) k).isNone) = true := by decide +kernel
theorem cc_in7 : (List.range 57).all (fun k => decide (cc_ 7 k < 128) && (fnd (cc_ 7) (cc_ 7 k) k).isNone) = true := by decide +kernel
theorem cc_in {R k : Nat} (hR : R = 4 ∨ R = 5 ∨ R = 6 ∨ R = 7) (hk : k < (ct R).length) : cc_ R k < 2 ^ R ∧ fnd (cc_ R) (cc_ R k) k = none := by
  rcases hR with rfl | rfl | rfl | rfl
  · have := List.all_eq_true.mp cc_in4 k (List.mem_range.mpr hk); simpa using this
  · have := List.all_eq_true.mp cc_in5 k (List.mem_range.mpr hk); simpa using this
  · have := List.all_eq_true.mp cc_in6 k (List.mem_range.mpr hk); simpa using this
  · have := List.all_eq_true.mp cc_in7 k (List.mem_range.mpr hk); simpa using this
end
section
theorem m_76 : Cond.methodLink R_L 3 objectInit ∈ wA := in_wA (List.mem_of_getElem? (i := 76) rfl) rfl
theorem m_53 : Cond.instanceMethod objectInit ∈ wA := in_wA (List.mem_of_getElem? (i := 53) rfl) rfl
theorem m_54 : Cond.code objectInit ⟨#[0xb1]⟩ 1 none ∈ wA := in_wA (List.mem_of_getElem? (i := 54) rfl) rfl
theorem m_79 : Cond.code y_L_checkBitsFor b_L_checkBitsFor 2 (some .int) ∈ wA := in_wA (List.mem_of_getElem? (i := 79) rfl) rfl
theorem m_77 : Cond.methodLink R_L 9 y_L_checkBitsFor ∈ wA := in_wA (List.mem_of_getElem? (i := 77) rfl) rfl
theorem m_78 : Cond.static y_L_checkBitsFor ∈ wA := in_wA (List.mem_of_getElem? (i := 78) rfl) rfl
theorem m_102 : Cond.fieldLink R_L 15 R_L "checkBits" "I" ∈ wA := in_wA (List.mem_of_getElem? (i := 102) rfl) rfl
theorem m_117 : Cond.arrayClass .int ∈ wA := in_wA (List.mem_of_getElem? (i := 117) rfl) rfl
theorem m_104 : Cond.fieldLink R_L 19 R_L "columns" "[I" ∈ wA := in_wA (List.mem_of_getElem? (i := 104) rfl) rfl
theorem m_106 : Cond.fieldLink R_L 23 R_L "rowSums" "[I" ∈ wA := in_wA (List.mem_of_getElem? (i := 106) rfl) rfl
theorem m_107 : Cond.fieldLink R_L 26 R_L "bitAt" "[I" ∈ wA := in_wA (List.mem_of_getElem? (i := 107) rfl) rfl
theorem m_82 : Cond.code y_JA_fill b_JA_fill 4 none ∈ wA := in_wA (List.mem_of_getElem? (i := 82) rfl) rfl
theorem m_80 : Cond.methodLink R_L 29 y_JA_fill ∈ wA := in_wA (List.mem_of_getElem? (i := 80) rfl) rfl
theorem m_81 : Cond.static y_JA_fill ∈ wA := in_wA (List.mem_of_getElem? (i := 81) rfl) rfl
theorem m_34 : Cond.initialized R_JA ∈ wA := in_wA (List.mem_of_getElem? (i := 34) rfl) rfl
theorem m_85 : Cond.code y_L_bestColumn b_L_bestColumn 4 (some .int) ∈ wA := in_wA (List.mem_of_getElem? (i := 85) rfl) rfl
theorem m_83 : Cond.methodLink R_L 35 y_L_bestColumn ∈ wA := in_wA (List.mem_of_getElem? (i := 83) rfl) rfl
theorem m_84 : Cond.static y_L_bestColumn ∈ wA := in_wA (List.mem_of_getElem? (i := 84) rfl) rfl
theorem m_101 : Cond.code y_L_addTo b_L_addTo 3 none ∈ wA := in_wA (List.mem_of_getElem? (i := 101) rfl) rfl
theorem m_99 : Cond.methodLink R_L 39 y_L_addTo ∈ wA := in_wA (List.mem_of_getElem? (i := 99) rfl) rfl
theorem m_100 : Cond.static y_L_addTo ∈ wA := in_wA (List.mem_of_getElem? (i := 100) rfl) rfl
abbrev w_L_init : List Cond := .code y_L_init b_L_init 4 none :: wA
abbrev rm_L_init : Room := { frames := 3, cells := 3, slots := 192, locals := 73 }
theorem d_L_init_0 : decode b_L_init 0 = .ok (.aload_n 0, 1) := by decide +kernel
theorem d_L_init_1 : decode b_L_init 1 = .ok (.invokespecial 3, 3) := by decide +kernel
theorem d_L_init_4 : decode b_L_init 4 = .ok (.aload_n 0, 1) := by decide +kernel
theorem d_L_init_5 : decode b_L_init 5 = .ok (.iload_n 1, 1) := by decide +kernel
theorem d_L_init_6 : decode b_L_init 6 = .ok (.invokestatic 9, 3) := by decide +kernel
theorem d_L_init_9 : decode b_L_init 9 = .ok (.putfield 15, 3) := by decide +kernel
theorem d_L_init_12 : decode b_L_init 12 = .ok (.aload_n 0, 1) := by decide +kernel
theorem d_L_init_13 : decode b_L_init 13 = .ok (.iload_n 1, 1) := by decide +kernel
theorem d_L_init_14 : decode b_L_init 14 = .ok (.newarray .int, 2) := by decide +kernel
theorem d_L_init_16 : decode b_L_init 16 = .ok (.putfield 19, 3) := by decide +kernel
theorem d_L_init_19 : decode b_L_init 19 = .ok (.aload_n 0, 1) := by decide +kernel
theorem d_L_init_20 : decode b_L_init 20 = .ok (.aload_n 0, 1) := by decide +kernel
theorem d_L_init_21 : decode b_L_init 21 = .ok (.getfield 15, 3) := by decide +kernel
theorem d_L_init_24 : decode b_L_init 24 = .ok (.newarray .int, 2) := by decide +kernel
theorem d_L_init_26 : decode b_L_init 26 = .ok (.putfield 23, 3) := by decide +kernel
theorem d_L_init_29 : decode b_L_init 29 = .ok (.aload_n 0, 1) := by decide +kernel
theorem d_L_init_30 : decode b_L_init 30 = .ok (.iconst 1, 1) := by decide +kernel
theorem d_L_init_31 : decode b_L_init 31 = .ok (.aload_n 0, 1) := by decide +kernel
theorem d_L_init_32 : decode b_L_init 32 = .ok (.getfield 15, 3) := by decide +kernel
theorem d_L_init_35 : decode b_L_init 35 = .ok (.ishl, 1) := by decide +kernel
theorem d_L_init_36 : decode b_L_init 36 = .ok (.newarray .int, 2) := by decide +kernel
theorem d_L_init_38 : decode b_L_init 38 = .ok (.putfield 26, 3) := by decide +kernel
theorem d_L_init_41 : decode b_L_init 41 = .ok (.aload_n 0, 1) := by decide +kernel
theorem d_L_init_42 : decode b_L_init 42 = .ok (.getfield 26, 3) := by decide +kernel
theorem d_L_init_45 : decode b_L_init 45 = .ok (.iconst (-1), 1) := by decide +kernel
theorem d_L_init_46 : decode b_L_init 46 = .ok (.invokestatic 29, 3) := by decide +kernel
theorem d_L_init_49 : decode b_L_init 49 = .ok (.iconst 0, 1) := by decide +kernel
theorem d_L_init_50 : decode b_L_init 50 = .ok (.istore_n 2, 1) := by decide +kernel
theorem d_L_init_51 : decode b_L_init 51 = .ok (.iload_n 2, 1) := by decide +kernel
theorem d_L_init_52 : decode b_L_init 52 = .ok (.aload_n 0, 1) := by decide +kernel
theorem d_L_init_53 : decode b_L_init 53 = .ok (.getfield 15, 3) := by decide +kernel
theorem d_L_init_56 : decode b_L_init 56 = .ok (.if_icmp .ge 20, 3) := by decide +kernel
theorem d_L_init_59 : decode b_L_init 59 = .ok (.aload_n 0, 1) := by decide +kernel
theorem d_L_init_60 : decode b_L_init 60 = .ok (.getfield 26, 3) := by decide +kernel
theorem d_L_init_63 : decode b_L_init 63 = .ok (.iconst 1, 1) := by decide +kernel
theorem d_L_init_64 : decode b_L_init 64 = .ok (.iload_n 2, 1) := by decide +kernel
theorem d_L_init_65 : decode b_L_init 65 = .ok (.ishl, 1) := by decide +kernel
theorem d_L_init_66 : decode b_L_init 66 = .ok (.iload_n 1, 1) := by decide +kernel
theorem d_L_init_67 : decode b_L_init 67 = .ok (.iload_n 2, 1) := by decide +kernel
theorem d_L_init_68 : decode b_L_init 68 = .ok (.iadd, 1) := by decide +kernel
theorem d_L_init_69 : decode b_L_init 69 = .ok (.iastore, 1) := by decide +kernel
theorem d_L_init_70 : decode b_L_init 70 = .ok (.iinc 2 1, 3) := by decide +kernel
theorem d_L_init_73 : decode b_L_init 73 = .ok (.goto (-22), 3) := by decide +kernel
theorem d_L_init_76 : decode b_L_init 76 = .ok (.iconst 0, 1) := by decide +kernel
theorem d_L_init_77 : decode b_L_init 77 = .ok (.istore_n 2, 1) := by decide +kernel
theorem d_L_init_78 : decode b_L_init 78 = .ok (.iload_n 2, 1) := by decide +kernel
theorem d_L_init_79 : decode b_L_init 79 = .ok (.iload_n 1, 1) := by decide +kernel
theorem d_L_init_80 : decode b_L_init 80 = .ok (.if_icmp .ge 48, 3) := by decide +kernel
theorem d_L_init_83 : decode b_L_init 83 = .ok (.aload_n 0, 1) := by decide +kernel
theorem d_L_init_84 : decode b_L_init 84 = .ok (.getfield 26, 3) := by decide +kernel
theorem d_L_init_87 : decode b_L_init 87 = .ok (.aload_n 0, 1) := by decide +kernel
theorem d_L_init_88 : decode b_L_init 88 = .ok (.getfield 23, 3) := by decide +kernel
theorem d_L_init_91 : decode b_L_init 91 = .ok (.invokestatic 35, 3) := by decide +kernel
theorem d_L_init_94 : decode b_L_init 94 = .ok (.istore_n 3, 1) := by decide +kernel
theorem d_L_init_95 : decode b_L_init 95 = .ok (.iload_n 3, 1) := by decide +kernel
theorem d_L_init_96 : decode b_L_init 96 = .ok (.iconst (-1), 1) := by decide +kernel
theorem d_L_init_97 : decode b_L_init 97 = .ok (.if_icmp .eq 25, 3) := by decide +kernel
theorem d_L_init_100 : decode b_L_init 100 = .ok (.aload_n 0, 1) := by decide +kernel
theorem d_L_init_101 : decode b_L_init 101 = .ok (.getfield 19, 3) := by decide +kernel
theorem d_L_init_104 : decode b_L_init 104 = .ok (.iload_n 2, 1) := by decide +kernel
theorem d_L_init_105 : decode b_L_init 105 = .ok (.iload_n 3, 1) := by decide +kernel
theorem d_L_init_106 : decode b_L_init 106 = .ok (.iastore, 1) := by decide +kernel
theorem d_L_init_107 : decode b_L_init 107 = .ok (.aload_n 0, 1) := by decide +kernel
theorem d_L_init_108 : decode b_L_init 108 = .ok (.getfield 26, 3) := by decide +kernel
theorem d_L_init_111 : decode b_L_init 111 = .ok (.iload_n 3, 1) := by decide +kernel
theorem d_L_init_112 : decode b_L_init 112 = .ok (.iload_n 2, 1) := by decide +kernel
theorem d_L_init_113 : decode b_L_init 113 = .ok (.iastore, 1) := by decide +kernel
theorem d_L_init_114 : decode b_L_init 114 = .ok (.aload_n 0, 1) := by decide +kernel
theorem d_L_init_115 : decode b_L_init 115 = .ok (.getfield 23, 3) := by decide +kernel
theorem d_L_init_118 : decode b_L_init 118 = .ok (.iload_n 3, 1) := by decide +kernel
theorem d_L_init_119 : decode b_L_init 119 = .ok (.invokestatic 39, 3) := by decide +kernel
theorem d_L_init_122 : decode b_L_init 122 = .ok (.iinc 2 1, 3) := by decide +kernel
theorem d_L_init_125 : decode b_L_init 125 = .ok (.goto (-47), 3) := by decide +kernel
theorem d_L_init_128 : decode b_L_init 128 = .ok (.return_, 1) := by decide +kernel
abbrev w_L_greatestSum : List Cond := .code y_L_greatestSum b_L_greatestSum 1 (some .int) :: wA
abbrev rm_L_greatestSum : Room := { frames := 1, cells := 0, slots := 0, locals := 24 }
theorem d_L_greatestSum_0 : decode b_L_greatestSum 0 = .ok (.aload_n 0, 1) := by decide +kernel
theorem d_L_greatestSum_1 : decode b_L_greatestSum 1 = .ok (.getfield 23, 3) := by decide +kernel
theorem d_L_greatestSum_4 : decode b_L_greatestSum 4 = .ok (.iconst 0, 1) := by decide +kernel
theorem d_L_greatestSum_5 : decode b_L_greatestSum 5 = .ok (.invokestatic 52, 3) := by decide +kernel
theorem d_L_greatestSum_8 : decode b_L_greatestSum 8 = .ok (.ireturn, 1) := by decide +kernel
abbrev w_L_bitFor : List Cond := .code y_L_bitFor b_L_bitFor 2 (some .int) :: wA
abbrev rm_L_bitFor : Room := { frames := 0, cells := 0, slots := 0, locals := 0 }
theorem d_L_bitFor_0 : decode b_L_bitFor 0 = .ok (.iload_n 1, 1) := by decide +kernel
theorem d_L_bitFor_1 : decode b_L_bitFor 1 = .ok (.ifCond .lt 21, 3) := by decide +kernel
theorem d_L_bitFor_4 : decode b_L_bitFor 4 = .ok (.iload_n 1, 1) := by decide +kernel
theorem d_L_bitFor_5 : decode b_L_bitFor 5 = .ok (.aload_n 0, 1) := by decide +kernel
theorem d_L_bitFor_6 : decode b_L_bitFor 6 = .ok (.getfield 26, 3) := by decide +kernel
theorem d_L_bitFor_9 : decode b_L_bitFor 9 = .ok (.arraylength, 1) := by decide +kernel
theorem d_L_bitFor_10 : decode b_L_bitFor 10 = .ok (.if_icmp .ge 12, 3) := by decide +kernel
theorem d_L_bitFor_13 : decode b_L_bitFor 13 = .ok (.aload_n 0, 1) := by decide +kernel
theorem d_L_bitFor_14 : decode b_L_bitFor 14 = .ok (.getfield 26, 3) := by decide +kernel
theorem d_L_bitFor_17 : decode b_L_bitFor 17 = .ok (.iload_n 1, 1) := by decide +kernel
theorem d_L_bitFor_18 : decode b_L_bitFor 18 = .ok (.iaload, 1) := by decide +kernel
theorem d_L_bitFor_19 : decode b_L_bitFor 19 = .ok (.goto 4, 3) := by decide +kernel
theorem d_L_bitFor_22 : decode b_L_bitFor 22 = .ok (.iconst (-1), 1) := by decide +kernel
theorem d_L_bitFor_23 : decode b_L_bitFor 23 = .ok (.ireturn, 1) := by decide +kernel
set_option maxHeartbeats 4000000 in
set_option maxRecDepth 100000 in
/-- Lane(bits): its columns, row sums and what a syndrome points at -/
theorem c_L_init (l : Launch) (D : va_G) (g : Nat → ClassId) (sz : Nat) (wr : va_W) (o b : Nat) (hb57 : b ≤ 57) : Met l y_L_init w_L_init rm_L_init (va_Pc [.ref o, .int (nI b)] (pP D (tyl g) ((o, .inr (4, [.int (nI 0), .null, .null, .null])) :: wr) sz)) (va_Qv (fun (u : (Nat × Nat × Nat)) => True) (fun u => qB D (va_A ((o, .inr (4, [.int (nI 0), .null, .null, .null])) :: wr) sz) ((u.2.2, .inl (g 0, 2 ^ lr b, .inl (fun s => oI (ba (lr b) b b s)))) :: (u.2.1, .inl (g 0, lr b, .inl (fun r => nI (rsf (lr b) b r)))) :: (u.1, .inl (g 0, b, .inl (fun j => nI (if j < b then cc_ (lr b) j else 0)))) :: (o, .inr (4, [.int (nI (lr b)), .ref u.1, .ref u.2.1, .ref u.2.2])) :: wr)) (va_A ((o, .inr (4, [.int (nI 0), .null, .null, .null])) :: wr) sz)) 3 192 (va_A ((o, .inr (4, [.int (nI 0), .null, .null, .null])) :: wr) sz) := by
  refine Met.ofW (cc := b_L_init) (maxL := 4) (ret := none) (by decide +kernel) rfl ?_
  intro p e s m args below meth c s₁ Bq hml hv
  have hx := Bq.exec
  have hb := Bq.bytes
  have hr := Bq.returns
  have hts : ∀ w ∈ wA, w.before args s = true := fun w h => atoms_spec (ws := w_L_init) Bq.pre w (List.mem_cons_of_mem _ h)
  have hown : s.vm.findClass R_L = some m.cls := findClass_of_methodNamed Bq.named
  have hlocks := Bq.notSynchronized
  have hin : meth.name = "<init>" := (name_of_methodNamed Bq.named Bq.method).1
  obtain ⟨rfl, hsz, hP, hKK, hD0⟩ := hv
  have hK := hKK.1
  subst hsz
  have hD := hD0.self (sz := s.heap.size)
  generalize hAe : va_A ((o, .inr (4, [.int (nI 0), .null, .null, .null])) :: wr) s.heap.size = A at hD ⊢
  have hA : ∀ q : Nat, s.heap.size ≤ q → A q := fun q h => by rw [← hAe]; exact Or.inr h
  have hS : va_S A s.heap s.heap [] := va_S.rf
  have hl := lv_entry ([.ref o, .int (nI b)]) (n := 4) (Nat.le_of_ble_eq_true rfl)
  rw [lg_entry_eq]
  generalize (lg_sl ([.ref o, .int (nI b)]) ++ List.replicate (4 - (lg_sl ([.ref o, .int (nI b)])).length) Slot.unset).toArray = ls at hl ⊢
  have hl : lv_has ls 4 [(0, .ref o), (1, .int (nI b))] := hl
  generalize hQ : MQ below (va_Qv (fun (u : (Nat × Nat × Nat)) => True) (fun u => qB D (A) ((u.2.2, .inl (g 0, 2 ^ lr b, .inl (fun s => oI (ba (lr b) b b s)))) :: (u.2.1, .inl (g 0, lr b, .inl (fun r => nI (rsf (lr b) b r)))) :: (u.1, .inl (g 0, b, .inl (fun j => nI (if j < b then cc_ (lr b) j else 0)))) :: (o, .inr (4, [.int (nI (lr b)), .ref u.1, .ref u.2.1, .ref u.2.2])) :: wr)) (A)) [.ref o, .int (nI b)].toArray s 3 192 A = Q
  have hRc : (headSpec w_L_init rm_L_init).room.cells = 3 := rfl
  have hRs : (headSpec w_L_init rm_L_init).room.slots = 192 := rfl
  have hR7 := lr_le b
  have hnb := pow_le hR7
  have hlen := lr_len hb57
  refine lv_aload_n hx hb d_L_init_0 rfl (lv_at hl 0 rfl) ?_
  refine W.objInit hx hb hown (hts _ m_76) (hts _ m_53) (hts _ m_54) rfl (by rw [hml]; exact hl.1) rfl d_L_init_1 (Nat.le_of_ble_eq_true rfl) (Nat.le_of_ble_eq_true rfl) ?_
  refine W.eq (g2 := F0 m 4 ls []) rfl ?_
  refine lv_aload_n hx hb d_L_init_4 rfl (lv_at hl 0 rfl) ?_
  refine lv_iload_n hx hb d_L_init_5 rfl (lv_at hl 1 rfl) ?_
  refine lc_Si (As := [.int (nI b)]) (rest := [.ref o]) ⟨hx, hb, hml, hown, hts⟩ (c_L_checkBitsFor l D g _ _ b hb57) (kS 1 hts m_79 m_77 m_78 m_33 (by decide +kernel) ⟨Nat.le_of_ble_eq_true rfl, Nat.le_of_ble_eq_true rfl⟩) hKK hP hD hS hA hl.1 rfl rfl (Nat.le_of_ble_eq_true rfl) d_L_init_6 ⟨Nat.le_of_ble_eq_true rfl, Nat.le_of_ble_eq_true rfl⟩ (fun r1 u H locs e1 hP hD hS => ?_)
  obtain rfl : r1 = nI (lr b) := e1
  refine va_putF (D := D) (ci := 4) (v := .int (nI (lr b))) (ty := .int) (C := R_L) (T := F_L) (N := 4) hx hb hts i_L tf_L tf_L_ok nf_L hown hK hP hD hS 0 rfl rfl 0 (by decide) (hts _ m_102) (fun _ h9 => h9) rfl hin rfl (by decide +kernel) rfl rfl (Nat.le_of_ble_eq_true rfl) d_L_init_9 (fun H locs hP hD hS => ?_)
  have hP : va_P D vwCl ((o, .inr (4, [.int (nI (lr b)), .null, .null, .null])) :: wr) H := hP
  have hD : va_D A ((o, .inr (4, [.int (nI (lr b)), .null, .null, .null])) :: wr) := hD
  refine lv_aload_n hx hb d_L_init_12 rfl (lv_at hl 0 rfl) ?_
  refine lv_iload_n hx hb d_L_init_13 rfl (lv_at hl 1 rfl) ?_
  refine lx_newi (N := b) hx hb (hts _ m_117) hK hP hD hS hA (by omega) (Nat.le_of_ble_eq_true rfl) (by first | omega | exact Nat.le_of_ble_eq_true rfl) d_L_init_14 (fun qc H hP hD hS => ?_)
  refine W.widen (k := 1) (n := b) (by omega) (by omega) ?_
  have hP : va_P D vwCl ((qc, .inl (g 0, b, .inl (fun _ => nI 0))) :: (o, .inr (4, [.int (nI (lr b)), .null, .null, .null])) :: wr) H := hP
  have hD : va_D A ((qc, .inl (g 0, b, .inl (fun _ => nI 0))) :: (o, .inr (4, [.int (nI (lr b)), .null, .null, .null])) :: wr) := hD
  refine va_putF (D := D) (ci := 4) (v := .ref qc) (ty := .array .int) (C := R_L) (T := F_L) (N := 4) hx hb hts i_L tf_L tf_L_ok nf_L hown hK hP hD hS 1 rfl rfl 1 (by decide) (hts _ m_104) (fun _ h9 => h9) rfl hin rfl (by decide +kernel) rfl rfl (Nat.le_of_ble_eq_true rfl) d_L_init_16 (fun H locs hP hD hS => ?_)
  have hP : va_P D vwCl ((qc, .inl (g 0, b, .inl (fun _ => nI 0))) :: (o, .inr (4, [.int (nI (lr b)), .ref qc, .null, .null])) :: wr) H := hP
  have hD : va_D A ((qc, .inl (g 0, b, .inl (fun _ => nI 0))) :: (o, .inr (4, [.int (nI (lr b)), .ref qc, .null, .null])) :: wr) := hD
  refine lv_aload_n hx hb d_L_init_19 rfl (lv_at hl 0 rfl) ?_
  refine lv_aload_n hx hb d_L_init_20 rfl (lv_at hl 0 rfl) ?_
  refine va_get (D := D) (ci := 4) (v := .int (nI (lr b))) (C := R_L) (T := F_L) (N := 4) hx hb hts i_L hown hK hP 1 rfl rfl 0 (by decide) (hts _ m_102) (fun _ h9 => h9) rfl d_L_init_21 ?_
  refine lx_newi (N := lr b) hx hb (hts _ m_117) hK hP hD hS hA (by omega) (Nat.le_of_ble_eq_true rfl) (by first | omega | exact Nat.le_of_ble_eq_true rfl) d_L_init_24 (fun qr H hP hD hS => ?_)
  refine W.widen (k := 1 + 1) (n := b + (lr b)) (by omega) (by omega) ?_
  have hP : va_P D vwCl ((qr, .inl (g 0, lr b, .inl (fun _ => nI 0))) :: (qc, .inl (g 0, b, .inl (fun _ => nI 0))) :: (o, .inr (4, [.int (nI (lr b)), .ref qc, .null, .null])) :: wr) H := hP
  have hD : va_D A ((qr, .inl (g 0, lr b, .inl (fun _ => nI 0))) :: (qc, .inl (g 0, b, .inl (fun _ => nI 0))) :: (o, .inr (4, [.int (nI (lr b)), .ref qc, .null, .null])) :: wr) := hD
  refine va_putF (D := D) (ci := 4) (v := .ref qr) (ty := .array .int) (C := R_L) (T := F_L) (N := 4) hx hb hts i_L tf_L tf_L_ok nf_L hown hK hP hD hS 2 rfl rfl 2 (by decide) (hts _ m_106) (fun _ h9 => h9) rfl hin rfl (by decide +kernel) rfl rfl (Nat.le_of_ble_eq_true rfl) d_L_init_26 (fun H locs hP hD hS => ?_)
  have hP : va_P D vwCl ((qr, .inl (g 0, lr b, .inl (fun _ => nI 0))) :: (qc, .inl (g 0, b, .inl (fun _ => nI 0))) :: (o, .inr (4, [.int (nI (lr b)), .ref qc, .ref qr, .null])) :: wr) H := hP
  have hD : va_D A ((qr, .inl (g 0, lr b, .inl (fun _ => nI 0))) :: (qc, .inl (g 0, b, .inl (fun _ => nI 0))) :: (o, .inr (4, [.int (nI (lr b)), .ref qc, .ref qr, .null])) :: wr) := hD
  refine lv_aload_n hx hb d_L_init_29 rfl (lv_at hl 0 rfl) ?_
  refine lv_iconst (v := nI 1) hx hb d_L_init_30 (by decide) ?_
  refine lv_aload_n hx hb d_L_init_31 rfl (lv_at hl 0 rfl) ?_
  refine va_get (D := D) (ci := 4) (v := .int (nI (lr b))) (C := R_L) (T := F_L) (N := 4) hx hb hts i_L hown hK hP 2 rfl rfl 0 (by decide) (hts _ m_102) (fun _ h9 => h9) rfl d_L_init_32 ?_
  refine lx_ishl (z := nI (2 ^ lr b)) hx hb d_L_init_35 ((xn_shl 1 (by omega)).trans (by rw [Nat.one_shiftLeft])) ?_
  refine lx_newi (N := 2 ^ lr b) hx hb (hts _ m_117) hK hP hD hS hA (by omega) (by first | omega | exact Nat.le_of_ble_eq_true rfl) (by first | omega | exact Nat.le_of_ble_eq_true rfl) d_L_init_36 (fun qb H hP hD hS => ?_)
  refine W.widen (k := 1 + 1 + 1) (n := b + (lr b) + (2 ^ lr b)) (by omega) (by omega) ?_
  have hP : va_P D vwCl ((qb, .inl (g 0, 2 ^ lr b, .inl (fun _ => nI 0))) :: (qr, .inl (g 0, lr b, .inl (fun _ => nI 0))) :: (qc, .inl (g 0, b, .inl (fun _ => nI 0))) :: (o, .inr (4, [.int (nI (lr b)), .ref qc, .ref qr, .null])) :: wr) H := hP
  have hD : va_D A ((qb, .inl (g 0, 2 ^ lr b, .inl (fun _ => nI 0))) :: (qr, .inl (g 0, lr b, .inl (fun _ => nI 0))) :: (qc, .inl (g 0, b, .inl (fun _ => nI 0))) :: (o, .inr (4, [.int (nI (lr b)), .ref qc, .ref qr, .null])) :: wr) := hD
  refine va_putF (D := D) (ci := 4) (v := .ref qb) (ty := .array .int) (C := R_L) (T := F_L) (N := 4) hx hb hts i_L tf_L tf_L_ok nf_L hown hK hP hD hS 3 rfl rfl 3 (by decide) (hts _ m_107) (fun _ h9 => h9) rfl hin rfl (by decide +kernel) rfl rfl (Nat.le_of_ble_eq_true rfl) d_L_init_38 (fun H locs hP hD hS => ?_)
  have hP : va_P D vwCl ((qb, .inl (g 0, 2 ^ lr b, .inl (fun _ => nI 0))) :: (qr, .inl (g 0, lr b, .inl (fun _ => nI 0))) :: (qc, .inl (g 0, b, .inl (fun _ => nI 0))) :: (o, .inr (4, [.int (nI (lr b)), .ref qc, .ref qr, .ref qb])) :: wr) H := hP
  have hD : va_D A ((qb, .inl (g 0, 2 ^ lr b, .inl (fun _ => nI 0))) :: (qr, .inl (g 0, lr b, .inl (fun _ => nI 0))) :: (qc, .inl (g 0, b, .inl (fun _ => nI 0))) :: (o, .inr (4, [.int (nI (lr b)), .ref qc, .ref qr, .ref qb])) :: wr) := hD
  refine lv_aload_n hx hb d_L_init_41 rfl (lv_at hl 0 rfl) ?_
  refine va_get (D := D) (ci := 4) (v := .ref qb) (C := R_L) (T := F_L) (N := 4) hx hb hts i_L hown hK hP 3 rfl rfl 3 (by decide) (hts _ m_107) (fun _ h9 => h9) rfl d_L_init_42 ?_
  refine lv_iconst (v := (-1)) hx hb d_L_init_45 (by decide) ?_
  refine lc_Sv (As := [.ref qb, .int ((-1))]) (rest := []) ⟨hx, hb, hml, hown, hts⟩ (c_JA_fill l D g _ _ qb (2 ^ lr b) (fun _ => nI 0) (-1) (by omega)) (kS 2 hts m_82 m_80 m_81 m_34 (by decide +kernel) ⟨Nat.le_of_ble_eq_true rfl, Nat.le_of_ble_eq_true rfl⟩) hKK hP hD hS hA hl.1 rfl rfl (Nat.le_of_ble_eq_true rfl) d_L_init_46 ⟨by first | omega | exact Nat.le_of_ble_eq_true rfl, by first | omega | exact Nat.le_of_ble_eq_true rfl⟩ (fun u H locs _ hP hD hS => ?_)
  have hP : va_P D vwCl ((qb, .inl (g 0, 2 ^ lr b, .inl (fun j => if j < 2 ^ lr b then (-1) else nI 0))) :: (qr, .inl (g 0, lr b, .inl (fun _ => nI 0))) :: (qc, .inl (g 0, b, .inl (fun _ => nI 0))) :: (o, .inr (4, [.int (nI (lr b)), .ref qc, .ref qr, .ref qb])) :: wr) H := hP
  have hD : va_D A ((qb, .inl (g 0, 2 ^ lr b, .inl (fun j => if j < 2 ^ lr b then (-1) else nI 0))) :: (qr, .inl (g 0, lr b, .inl (fun _ => nI 0))) :: (qc, .inl (g 0, b, .inl (fun _ => nI 0))) :: (o, .inr (4, [.int (nI (lr b)), .ref qc, .ref qr, .ref qb])) :: wr) := hD
  have hP : va_P D vwCl ((qb, .inl (g 0, 2 ^ lr b, .inl (fun s => oI (pw b 0 s)))) :: (qr, .inl (g 0, lr b, .inl (fun _ => nI 0))) :: (qc, .inl (g 0, b, .inl (fun _ => nI 0))) :: (o, .inr (4, [.int (nI (lr b)), .ref qc, .ref qr, .ref qb])) :: wr) H := wp_at 0 hP rfl (fun j hj => by rw [if_pos hj]; rfl)
  have hD : va_D A ((qb, .inl (g 0, 2 ^ lr b, .inl (fun s => oI (pw b 0 s)))) :: (qr, .inl (g 0, lr b, .inl (fun _ => nI 0))) :: (qc, .inl (g 0, b, .inl (fun _ => nI 0))) :: (o, .inr (4, [.int (nI (lr b)), .ref qc, .ref qr, .ref qb])) :: wr) := hD.set (p := 0) rfl
  have lp78 : ∀ (n : Nat) (k : Nat) (ls : Array Slot) (H : Heap) (locs : List Loc), (b + 1 ≤ k + n) → (k ≤ b) → lv_has ls 4 [(0, .ref o), (1, .int (nI b)), (2, .int (nI k))] → va_P D vwCl ((qb, .inl (g 0, 2 ^ lr b, .inl (fun s => oI (ba (lr b) b k s)))) :: (qr, .inl (g 0, lr b, .inl (fun r => nI (rsf (lr b) k r)))) :: (qc, .inl (g 0, b, .inl (fun j => nI (if j < k then cc_ (lr b) j else 0)))) :: (o, .inr (4, [.int (nI (lr b)), .ref qc, .ref qr, .ref qb])) :: wr) H → va_D A ((qb, .inl (g 0, 2 ^ lr b, .inl (fun s => oI (ba (lr b) b k s)))) :: (qr, .inl (g 0, lr b, .inl (fun r => nI (rsf (lr b) k r)))) :: (qc, .inl (g 0, b, .inl (fun j => nI (if j < k then cc_ (lr b) j else 0)))) :: (o, .inr (4, [.int (nI (lr b)), .ref qc, .ref qr, .ref qb])) :: wr) → va_S A s.heap H locs → W p l e (headSpec w_L_init rm_L_init).room s m [.ref o, .int (nI b)].toArray below meth c H locs (1 + 1 + 1) (b + (lr b) + (2 ^ lr b)) Q (F0 m 78 ls []) := by
    intro n
    induction n with
    | zero => intro k ls H locs hfu hk _ _ _ _; exact absurd hfu (by omega)
    | succ n ih =>
      intro k ls H locs hfu hk hl hP hD hS
      refine lv_iload_n hx hb d_L_init_78 rfl (lv_at hl 2 rfl) ?_
      refine lv_iload_n hx hb d_L_init_79 rfl (lv_at hl 1 rfl) ?_
      refine lx_icmp_ge (tgt := 128) hx hb d_L_init_80 (by decide) (by omega) (by omega) (fun c80 => ?_) (fun c80 => ?_)
      · skip
        obtain rfl : k = b := by omega
        refine W.widen (k := 3) (n := 192) (by omega) (by omega) ?_
        rw [← hQ]
        refine W.vret hx hb hr ?_ hS.2.2 d_L_init_128
        exact fun t ht hW => ⟨⟨(qc, qr, qb), rfl, trivial, by rw [ht]; exact hP, hD⟩, hS.F ht⟩
      · skip
        have h4 : lr b = 4 ∨ lr b = 5 ∨ lr b = 6 ∨ lr b = 7 := lr_in (by omega)
        have hkl : k < (ct (lr b)).length := by omega
        obtain ⟨hci, hcn⟩ := cc_in h4 hkl
        refine lv_aload_n hx hb d_L_init_83 rfl (lv_at hl 0 rfl) ?_
        refine va_get (D := D) (ci := 4) (v := .ref qb) (C := R_L) (T := F_L) (N := 4) hx hb hts i_L hown hK hP 3 rfl rfl 3 (by decide) (hts _ m_107) (fun _ h9 => h9) rfl d_L_init_84 ?_
        refine lv_aload_n hx hb d_L_init_87 rfl (lv_at hl 0 rfl) ?_
        refine va_get (D := D) (ci := 4) (v := .ref qr) (C := R_L) (T := F_L) (N := 4) hx hb hts i_L hown hK hP 3 rfl rfl 2 (by decide) (hts _ m_106) (fun _ h9 => h9) rfl d_L_init_88 ?_
        refine lc_Si (As := [.ref qb, .ref qr]) (rest := []) ⟨hx, hb, hml, hown, hts⟩ (c_L_bestColumn l D g _ _ 0 1 qb qr (2 ^ lr b) (lr b) (ba (lr b) b k) (rsf (lr b) k) rfl rfl (fun s => ba_lt hb57 (by omega) hR7) (fun j _ => by have := rsf_le (R := lr b) k j; omega) hR7 hnb) (kS 2 hts m_85 m_83 m_84 m_33 (by decide +kernel) ⟨Nat.le_of_ble_eq_true rfl, Nat.le_of_ble_eq_true rfl⟩) hKK hP hD hS hA hl.1 rfl rfl (Nat.le_of_ble_eq_true rfl) d_L_init_91 ⟨by first | omega | exact Nat.le_of_ble_eq_true rfl, by first | omega | exact Nat.le_of_ble_eq_true rfl⟩ (fun r2 u H locs e2 hP hD hS => ?_)
        obtain rfl : r2 = nI (cc_ (lr b) k) := by rw [e2, ba_fr, best_ok h4 hkl]; rfl
        refine lv_istore_n (lv' := [(3, .int (nI (cc_ (lr b) k))), (0, .ref o), (1, .int (nI b)), (2, .int (nI k))]) hx hb d_L_init_94 rfl hl (by decide) rfl (fun ls hl => ?_)
        refine lv_iload_n hx hb d_L_init_95 rfl (lv_at hl 0 rfl) ?_
        refine lv_iconst (v := (-1)) hx hb d_L_init_96 (by decide) ?_
        refine lv_icmp_eq (tgt := 122) hx hb d_L_init_97 (by decide) (fun c97 => ?_) (fun c97 => ?_)
        · skip
          exact absurd c97 (nI_nm1 (by omega))
        · skip
          refine lv_aload_n hx hb d_L_init_100 rfl (lv_at hl 1 rfl) ?_
          refine va_get (D := D) (ci := 4) (v := .ref qc) (C := R_L) (T := F_L) (N := 4) hx hb hts i_L hown hK hP 3 rfl rfl 1 (by decide) (hts _ m_104) (fun _ h9 => h9) rfl d_L_init_101 ?_
          refine lv_iload_n hx hb d_L_init_104 rfl (lv_at hl 3 rfl) ?_
          refine lv_iload_n hx hb d_L_init_105 rfl (lv_at hl 0 rfl) ?_
          refine lx_iast (f' := fun j => nI (if j < k + 1 then cc_ (lr b) j else 0)) hx hb hK hP hD hS 2 0 rfl rfl (j := k) (by omega) (by omega) (upd_lt (fun _ => 0) (cc_ (lr b)) k) d_L_init_106 (fun H locs hP hD hS => ?_)
          have hP : va_P D vwCl ((qb, .inl (g 0, 2 ^ lr b, .inl (fun s => oI (ba (lr b) b k s)))) :: (qr, .inl (g 0, lr b, .inl (fun r => nI (rsf (lr b) k r)))) :: (qc, .inl (g 0, b, .inl (fun j => nI (if j < k + 1 then cc_ (lr b) j else 0)))) :: (o, .inr (4, [.int (nI (lr b)), .ref qc, .ref qr, .ref qb])) :: wr) H := hP
          have hD : va_D A ((qb, .inl (g 0, 2 ^ lr b, .inl (fun s => oI (ba (lr b) b k s)))) :: (qr, .inl (g 0, lr b, .inl (fun r => nI (rsf (lr b) k r)))) :: (qc, .inl (g 0, b, .inl (fun j => nI (if j < k + 1 then cc_ (lr b) j else 0)))) :: (o, .inr (4, [.int (nI (lr b)), .ref qc, .ref qr, .ref qb])) :: wr) := hD
          refine lv_aload_n hx hb d_L_init_107 rfl (lv_at hl 1 rfl) ?_
          refine va_get (D := D) (ci := 4) (v := .ref qb) (C := R_L) (T := F_L) (N := 4) hx hb hts i_L hown hK hP 3 rfl rfl 3 (by decide) (hts _ m_107) (fun _ h9 => h9) rfl d_L_init_108 ?_
          refine lv_iload_n hx hb d_L_init_111 rfl (lv_at hl 0 rfl) ?_
          refine lv_iload_n hx hb d_L_init_112 rfl (lv_at hl 3 rfl) ?_
          refine lx_iast (f' := fun s => oI (ba (lr b) b (k + 1) s)) hx hb hK hP hD hS 0 0 rfl rfl (j := cc_ (lr b) k) (by omega) (by omega) (ba_upd hcn) d_L_init_113 (fun H locs hP hD hS => ?_)
          have hP : va_P D vwCl ((qb, .inl (g 0, 2 ^ lr b, .inl (fun s => oI (ba (lr b) b (k + 1) s)))) :: (qr, .inl (g 0, lr b, .inl (fun r => nI (rsf (lr b) k r)))) :: (qc, .inl (g 0, b, .inl (fun j => nI (if j < k + 1 then cc_ (lr b) j else 0)))) :: (o, .inr (4, [.int (nI (lr b)), .ref qc, .ref qr, .ref qb])) :: wr) H := hP
          have hD : va_D A ((qb, .inl (g 0, 2 ^ lr b, .inl (fun s => oI (ba (lr b) b (k + 1) s)))) :: (qr, .inl (g 0, lr b, .inl (fun r => nI (rsf (lr b) k r)))) :: (qc, .inl (g 0, b, .inl (fun j => nI (if j < k + 1 then cc_ (lr b) j else 0)))) :: (o, .inr (4, [.int (nI (lr b)), .ref qc, .ref qr, .ref qb])) :: wr) := hD
          refine lv_aload_n hx hb d_L_init_114 rfl (lv_at hl 1 rfl) ?_
          refine va_get (D := D) (ci := 4) (v := .ref qr) (C := R_L) (T := F_L) (N := 4) hx hb hts i_L hown hK hP 3 rfl rfl 2 (by decide) (hts _ m_106) (fun _ h9 => h9) rfl d_L_init_115 ?_
          refine lv_iload_n hx hb d_L_init_118 rfl (lv_at hl 0 rfl) ?_
          have hP : va_P D vwCl ((qr, .inl (g 0, lr b, .inl (fun r => nI (rsf (lr b) k r)))) :: (qb, .inl (g 0, 2 ^ lr b, .inl (fun s => oI (ba (lr b) b (k + 1) s)))) :: (qc, .inl (g 0, b, .inl (fun j => nI (if j < k + 1 then cc_ (lr b) j else 0)))) :: (o, .inr (4, [.int (nI (lr b)), .ref qc, .ref qr, .ref qb])) :: wr) H := wp_pull [(qb, .inl (g 0, 2 ^ lr b, .inl (fun s => oI (ba (lr b) b (k + 1) s))))] hP
          have hD : va_D A ((qr, .inl (g 0, lr b, .inl (fun r => nI (rsf (lr b) k r)))) :: (qb, .inl (g 0, 2 ^ lr b, .inl (fun s => oI (ba (lr b) b (k + 1) s)))) :: (qc, .inl (g 0, b, .inl (fun j => nI (if j < k + 1 then cc_ (lr b) j else 0)))) :: (o, .inr (4, [.int (nI (lr b)), .ref qc, .ref qr, .ref qb])) :: wr) := wd_pull [(qb, .inl (g 0, 2 ^ lr b, .inl (fun s => oI (ba (lr b) b (k + 1) s))))] hD
          refine lc_Sv (As := [.ref qr, .int (nI (cc_ (lr b) k))]) (rest := []) ⟨hx, hb, hml, hown, hts⟩ (c_L_addTo l D g _ _ qr (lr b) (rsf (lr b) k) (cc_ (lr b) k) (by omega) (by omega)) (kS 2 hts m_101 m_99 m_100 m_33 (by decide +kernel) ⟨Nat.le_of_ble_eq_true rfl, Nat.le_of_ble_eq_true rfl⟩) hKK hP hD hS hA hl.1 rfl rfl (Nat.le_of_ble_eq_true rfl) d_L_init_119 ⟨by first | omega | exact Nat.le_of_ble_eq_true rfl, by first | omega | exact Nat.le_of_ble_eq_true rfl⟩ (fun u H locs _ hP hD hS => ?_)
          have hP : va_P D vwCl ((qr, .inl (g 0, lr b, .inl (fun j => nI (if j < lr b then rsf (lr b) k j + cc_ (lr b) k >>> j % 2 else rsf (lr b) k j)))) :: (qb, .inl (g 0, 2 ^ lr b, .inl (fun s => oI (ba (lr b) b (k + 1) s)))) :: (qc, .inl (g 0, b, .inl (fun j => nI (if j < k + 1 then cc_ (lr b) j else 0)))) :: (o, .inr (4, [.int (nI (lr b)), .ref qc, .ref qr, .ref qb])) :: wr) H := hP
          have hD : va_D A ((qr, .inl (g 0, lr b, .inl (fun j => nI (if j < lr b then rsf (lr b) k j + cc_ (lr b) k >>> j % 2 else rsf (lr b) k j)))) :: (qb, .inl (g 0, 2 ^ lr b, .inl (fun s => oI (ba (lr b) b (k + 1) s)))) :: (qc, .inl (g 0, b, .inl (fun j => nI (if j < k + 1 then cc_ (lr b) j else 0)))) :: (o, .inr (4, [.int (nI (lr b)), .ref qc, .ref qr, .ref qb])) :: wr) := hD
          have hP : va_P D vwCl ((qb, .inl (g 0, 2 ^ lr b, .inl (fun s => oI (ba (lr b) b (k + 1) s)))) :: (qr, .inl (g 0, lr b, .inl (fun j => nI (if j < lr b then rsf (lr b) k j + cc_ (lr b) k >>> j % 2 else rsf (lr b) k j)))) :: (qc, .inl (g 0, b, .inl (fun j => nI (if j < k + 1 then cc_ (lr b) j else 0)))) :: (o, .inr (4, [.int (nI (lr b)), .ref qc, .ref qr, .ref qb])) :: wr) H := wp_pull [(qr, .inl (g 0, lr b, .inl (fun j => nI (if j < lr b then rsf (lr b) k j + cc_ (lr b) k >>> j % 2 else rsf (lr b) k j))))] hP
          have hD : va_D A ((qb, .inl (g 0, 2 ^ lr b, .inl (fun s => oI (ba (lr b) b (k + 1) s)))) :: (qr, .inl (g 0, lr b, .inl (fun j => nI (if j < lr b then rsf (lr b) k j + cc_ (lr b) k >>> j % 2 else rsf (lr b) k j)))) :: (qc, .inl (g 0, b, .inl (fun j => nI (if j < k + 1 then cc_ (lr b) j else 0)))) :: (o, .inr (4, [.int (nI (lr b)), .ref qc, .ref qr, .ref qb])) :: wr) := wd_pull [(qr, .inl (g 0, lr b, .inl (fun j => nI (if j < lr b then rsf (lr b) k j + cc_ (lr b) k >>> j % 2 else rsf (lr b) k j))))] hD
          refine lv_iinc (v := nI (k + 1)) (lv' := [(2, .int (nI (k + 1))), (3, .int (nI (cc_ (lr b) k))), (0, .ref o), (1, .int (nI b))]) hx hb d_L_init_122 hl (k := 3) rfl (nI_1 k) (by decide) rfl (fun ls hl => ?_)
          refine lv_goto (tgt := 78) hx hb d_L_init_125 (by decide) ?_
          exact ih (k + 1) _ _ _ (by omega) (by omega) (lv_sub hl [2, 3, 0] rfl) hP hD hS
  have lp51 : ∀ (n : Nat) (k : Nat) (ls : Array Slot) (H : Heap) (locs : List Loc), (lr b + 1 ≤ k + n) → (k ≤ lr b) → lv_has ls 4 [(0, .ref o), (1, .int (nI b)), (2, .int (nI k))] → va_P D vwCl ((qb, .inl (g 0, 2 ^ lr b, .inl (fun s => oI (pw b k s)))) :: (qr, .inl (g 0, lr b, .inl (fun _ => nI 0))) :: (qc, .inl (g 0, b, .inl (fun _ => nI 0))) :: (o, .inr (4, [.int (nI (lr b)), .ref qc, .ref qr, .ref qb])) :: wr) H → va_D A ((qb, .inl (g 0, 2 ^ lr b, .inl (fun s => oI (pw b k s)))) :: (qr, .inl (g 0, lr b, .inl (fun _ => nI 0))) :: (qc, .inl (g 0, b, .inl (fun _ => nI 0))) :: (o, .inr (4, [.int (nI (lr b)), .ref qc, .ref qr, .ref qb])) :: wr) → va_S A s.heap H locs → W p l e (headSpec w_L_init rm_L_init).room s m [.ref o, .int (nI b)].toArray below meth c H locs (1 + 1 + 1) (b + (lr b) + (2 ^ lr b)) Q (F0 m 51 ls []) := by
    intro n
    induction n with
    | zero => intro k ls H locs hfu hk _ _ _ _; exact absurd hfu (by omega)
    | succ n ih =>
      intro k ls H locs hfu hk hl hP hD hS
      refine lv_iload_n hx hb d_L_init_51 rfl (lv_at hl 2 rfl) ?_
      refine lv_aload_n hx hb d_L_init_52 rfl (lv_at hl 0 rfl) ?_
      refine va_get (D := D) (ci := 4) (v := .int (nI (lr b))) (C := R_L) (T := F_L) (N := 4) hx hb hts i_L hown hK hP 3 rfl rfl 0 (by decide) (hts _ m_102) (fun _ h9 => h9) rfl d_L_init_53 ?_
      refine lx_icmp_ge (tgt := 76) hx hb d_L_init_56 (by decide) (by omega) (by omega) (fun c56 => ?_) (fun c56 => ?_)
      · skip
        obtain rfl : k = lr b := by omega
        refine lv_iconst (v := nI 0) hx hb d_L_init_76 (by decide) ?_
        refine lv_istore_n (lv' := [(2, .int (nI 0)), (0, .ref o), (1, .int (nI b))]) hx hb d_L_init_77 rfl hl (by decide) rfl (fun ls hl => ?_)
        exact lp78 (b + 1) 0 _ _ _ (by omega) (by omega) (lv_sub hl [1, 2, 0] rfl) hP hD hS
      · skip
        refine lv_aload_n hx hb d_L_init_59 rfl (lv_at hl 0 rfl) ?_
        refine va_get (D := D) (ci := 4) (v := .ref qb) (C := R_L) (T := F_L) (N := 4) hx hb hts i_L hown hK hP 3 rfl rfl 3 (by decide) (hts _ m_107) (fun _ h9 => h9) rfl d_L_init_60 ?_
        refine lv_iconst (v := nI 1) hx hb d_L_init_63 (by decide) ?_
        refine lv_iload_n hx hb d_L_init_64 rfl (lv_at hl 2 rfl) ?_
        refine lx_ishl (z := nI (2 ^ k)) hx hb d_L_init_65 ((xn_shl 1 (by omega)).trans (by rw [Nat.one_shiftLeft])) ?_
        refine lv_iload_n hx hb d_L_init_66 rfl (lv_at hl 1 rfl) ?_
        refine lv_iload_n hx hb d_L_init_67 rfl (lv_at hl 2 rfl) ?_
        refine lx_iadd (z := nI (b + k)) hx hb d_L_init_68 (nI_add b k) ?_
        refine lx_iast (f' := fun s => oI (pw b (k + 1) s)) hx hb hK hP hD hS 0 0 rfl rfl (j := 2 ^ k) (Nat.pow_lt_pow_right (by decide) c56) (by omega) (pw_upd b k) d_L_init_69 (fun H locs hP hD hS => ?_)
        have hP : va_P D vwCl ((qb, .inl (g 0, 2 ^ lr b, .inl (fun s => oI (pw b (k + 1) s)))) :: (qr, .inl (g 0, lr b, .inl (fun _ => nI 0))) :: (qc, .inl (g 0, b, .inl (fun _ => nI 0))) :: (o, .inr (4, [.int (nI (lr b)), .ref qc, .ref qr, .ref qb])) :: wr) H := hP
        have hD : va_D A ((qb, .inl (g 0, 2 ^ lr b, .inl (fun s => oI (pw b (k + 1) s)))) :: (qr, .inl (g 0, lr b, .inl (fun _ => nI 0))) :: (qc, .inl (g 0, b, .inl (fun _ => nI 0))) :: (o, .inr (4, [.int (nI (lr b)), .ref qc, .ref qr, .ref qb])) :: wr) := hD
        refine lv_iinc (v := nI (k + 1)) (lv' := [(2, .int (nI (k + 1))), (0, .ref o), (1, .int (nI b))]) hx hb d_L_init_70 hl (k := 2) rfl (nI_1 k) (by decide) rfl (fun ls hl => ?_)
        refine lv_goto (tgt := 51) hx hb d_L_init_73 (by decide) ?_
        exact ih (k + 1) _ _ _ (by omega) (by omega) (lv_sub hl [1, 2, 0] rfl) hP hD hS
  refine lv_iconst (v := nI 0) hx hb d_L_init_49 (by decide) ?_
  refine lv_istore_n (lv' := [(2, .int (nI 0)), (0, .ref o), (1, .int (nI b))]) hx hb d_L_init_50 rfl hl (by decide) rfl (fun ls hl => ?_)
  exact lp51 (lr b + 1) 0 _ _ _ (by omega) (by omega) (lv_sub hl [1, 2, 0] rfl) hP hD hS
set_option maxHeartbeats 4000000 in
set_option maxRecDepth 100000 in
theorem c_L_greatestSum (l : Launch) (D : va_G) (g : Nat → ClassId) (sz : Nat) (ws : va_W) (k0 k1 o a x1 x3 n0 : Nat) (x0 : Int32) (f : Nat → Nat) (h0 : ws[k0]? = some (o, .inr (4, [.int (x0), .ref x1, .ref a, .ref x3]))) (h1 : ws[k1]? = some (a, .inl (g 0, n0, .inl (fun r => nI (f r))))) (hn0 : n0 ≤ 32) (hf : ∀ k, k < n0 → f k < 2 ^ 20) : Met l y_L_greatestSum w_L_greatestSum rm_L_greatestSum (va_Pc [.ref o] (pP D (tyl g) (ws) sz)) (va_Qi (fun (r : Int32) (u : Unit) => r = nI (gs f 0 n0)) (fun u => qB D (va_A (ws) sz) (ws)) (va_A (ws) sz)) 0 0 (va_A (ws) sz) := by
  refine Met.ofW (cc := b_L_greatestSum) (maxL := 1) (ret := (some .int)) (by decide +kernel) rfl ?_
  intro p e s m args below meth c s₁ Bq hml hv
  have hx := Bq.exec
  have hb := Bq.bytes
  have hr := Bq.returns
  have hts : ∀ w ∈ wA, w.before args s = true := fun w h => atoms_spec (ws := w_L_greatestSum) Bq.pre w (List.mem_cons_of_mem _ h)
  have hown : s.vm.findClass R_L = some m.cls := findClass_of_methodNamed Bq.named
  have hlocks := Bq.notSynchronized
  obtain ⟨rfl, hsz, hP, hKK, hD0⟩ := hv
  have hK := hKK.1
  subst hsz
  have hD := hD0.self (sz := s.heap.size)
  generalize hAe : va_A (ws) s.heap.size = A at hD ⊢
  have hA : ∀ q : Nat, s.heap.size ≤ q → A q := fun q h => by rw [← hAe]; exact Or.inr h
  have hS : va_S A s.heap s.heap [] := va_S.rf
  have hl := lv_entry ([.ref o]) (n := 1) (Nat.le_of_ble_eq_true rfl)
  rw [lg_entry_eq]
  generalize (lg_sl ([.ref o]) ++ List.replicate (1 - (lg_sl ([.ref o])).length) Slot.unset).toArray = ls at hl ⊢
  have hl : lv_has ls 1 [(0, .ref o)] := hl
  generalize hQ : MQ below (va_Qi (fun (r : Int32) (u : Unit) => r = nI (gs f 0 n0)) (fun u => qB D (A) (ws)) (A)) [.ref o].toArray s 0 0 A = Q
  refine lv_aload_n hx hb d_L_greatestSum_0 rfl (lv_at hl 0 rfl) ?_
  refine va_get (D := D) (ci := 4) (v := .ref a) (C := R_L) (T := F_L) (N := 4) hx hb hts i_L hown hK hP k0 h0 rfl 2 (by decide) (hts _ m_106) (fun _ h9 => h9) rfl d_L_greatestSum_1 ?_
  refine lv_iconst (v := nI 0) hx hb d_L_greatestSum_4 (by decide) ?_
  refine lc_Si (As := [.ref a, .int (nI 0)]) (rest := []) ⟨hx, hb, hml, hown, hts⟩ (c_L_greatestSumWith l D g _ ws k1 a n0 f 0 h1 hn0 hf (by decide)) (kS 2 hts m_98 m_96 m_97 m_33 (by decide +kernel) ⟨Nat.le_of_ble_eq_true rfl, Nat.le_of_ble_eq_true rfl⟩) hKK hP hD hS hA hl.1 rfl rfl (Nat.le_of_ble_eq_true rfl) d_L_greatestSum_5 ⟨Nat.le_of_ble_eq_true rfl, Nat.le_of_ble_eq_true rfl⟩ (fun r1 u H locs e1 hP hD hS => ?_)
  rw [← hQ]
  refine W.iret (v := r1) hx hb hr ?_ hS.2.2 d_L_greatestSum_8
  exact fun t ht hW => ⟨⟨r1, (), rfl, e1, by rw [ht]; exact hP, hD⟩, hS.F ht⟩
set_option maxHeartbeats 4000000 in
set_option maxRecDepth 100000 in
theorem c_L_bitFor (l : Launch) (D : va_G) (g : Nat → ClassId) (sz : Nat) (ws : va_W) (k0 k1 o a x1 x2 nb : Nat) (x0 : Int32) (B : Nat → Option Nat) (y : Nat) (h0 : ws[k0]? = some (o, .inr (4, [.int (x0), .ref x1, .ref x2, .ref a]))) (h1 : ws[k1]? = some (a, .inl (g 0, nb, .inl (fun s => oI (B s))))) (hnb : nb ≤ 128) (hy : y < nb) : Met l y_L_bitFor w_L_bitFor rm_L_bitFor (va_Pc [.ref o, .int (nI y)] (pP D (tyl g) (ws) sz)) (va_Qi (fun (r : Int32) (u : Unit) => r = oI (B y)) (fun u => qB D (va_A (ws) sz) (ws)) (va_A (ws) sz)) 0 0 (va_A (ws) sz) := by
  refine Met.ofW (cc := b_L_bitFor) (maxL := 2) (ret := (some .int)) (by decide +kernel) rfl ?_
  intro p e s m args below meth c s₁ Bq hml hv
  have hx := Bq.exec
  have hb := Bq.bytes
  have hr := Bq.returns
  have hts : ∀ w ∈ wA, w.before args s = true := fun w h => atoms_spec (ws := w_L_bitFor) Bq.pre w (List.mem_cons_of_mem _ h)
  have hown : s.vm.findClass R_L = some m.cls := findClass_of_methodNamed Bq.named
  have hlocks := Bq.notSynchronized
  obtain ⟨rfl, hsz, hP, hKK, hD0⟩ := hv
  have hK := hKK.1
  subst hsz
  have hD := hD0.self (sz := s.heap.size)
  generalize hAe : va_A (ws) s.heap.size = A at hD ⊢
  have hA : ∀ q : Nat, s.heap.size ≤ q → A q := fun q h => by rw [← hAe]; exact Or.inr h
  have hS : va_S A s.heap s.heap [] := va_S.rf
  have hl := lv_entry ([.ref o, .int (nI y)]) (n := 2) (Nat.le_of_ble_eq_true rfl)
  rw [lg_entry_eq]
  generalize (lg_sl ([.ref o, .int (nI y)]) ++ List.replicate (2 - (lg_sl ([.ref o, .int (nI y)])).length) Slot.unset).toArray = ls at hl ⊢
  have hl : lv_has ls 2 [(0, .ref o), (1, .int (nI y))] := hl
  generalize hQ : MQ below (va_Qi (fun (r : Int32) (u : Unit) => r = oI (B y)) (fun u => qB D (A) (ws)) (A)) [.ref o, .int (nI y)].toArray s 0 0 A = Q
  refine lv_iload_n hx hb d_L_bitFor_0 rfl (lv_at hl 1 rfl) ?_
  refine lx_if_lt (tgt := 22) hx hb d_L_bitFor_1 (by decide) (by omega) ?_
  refine lv_iload_n hx hb d_L_bitFor_4 rfl (lv_at hl 1 rfl) ?_
  refine lv_aload_n hx hb d_L_bitFor_5 rfl (lv_at hl 0 rfl) ?_
  refine va_get (D := D) (ci := 4) (v := .ref a) (C := R_L) (T := F_L) (N := 4) hx hb hts i_L hown hK hP k0 h0 rfl 3 (by decide) (hts _ m_107) (fun _ h9 => h9) rfl d_L_bitFor_6 ?_
  refine va_alen hx hb hK hP k1 0 h1 (v := nI nb) rfl (rfl) d_L_bitFor_9 ?_
  refine lx_icmp_ge (tgt := 22) hx hb d_L_bitFor_10 (by decide) (by omega) (by omega) (fun c10 => ?_) (fun c10 => ?_)
  · skip
    exact absurd c10 (by omega)
  · skip
    refine lv_aload_n hx hb d_L_bitFor_13 rfl (lv_at hl 0 rfl) ?_
    refine va_get (D := D) (ci := 4) (v := .ref a) (C := R_L) (T := F_L) (N := 4) hx hb hts i_L hown hK hP k0 h0 rfl 3 (by decide) (hts _ m_107) (fun _ h9 => h9) rfl d_L_bitFor_14 ?_
    refine lv_iload_n hx hb d_L_bitFor_17 rfl (lv_at hl 1 rfl) ?_
    refine lx_iald (v := oI (B y)) hx hb hK hP k1 0 h1 rfl (j := y) (by omega) (by omega) (rfl) d_L_bitFor_18 ?_
    refine lv_goto (tgt := 23) hx hb d_L_bitFor_19 (by decide) ?_
    rw [← hQ]
    refine W.iret (v := oI (B y)) hx hb hr ?_ hS.2.2 d_L_bitFor_23
    exact fun t ht hW => ⟨⟨oI (B y), (), rfl, rfl, by rw [ht]; exact hP, hD⟩, hS.F ht⟩
end
section
theorem xn_sa {a b c : Nat} (h : b ≤ a + c) : nI a - nI b + nI c = nI (a + c - b) := by
  rw [← pk_sub h, ← nI_add]
  rw [Int32.sub_eq_add_neg, Int32.sub_eq_add_neg, Int32.add_assoc, Int32.add_comm (-nI b), ← Int32.add_assoc]
/-- the bits of lane i of n -/
def wid (M n i : Nat) : Nat := (M + n - i - 1) / n
/-- where the check of lane i begins -/
def frm (M n : Nat) : Nat → Nat
  | 0 => 0
  | i + 1 => frm M n i + lr (wid M n i)
/-- the mark of bit k: its lane's column, moved -/
def mkS (M n k : Nat) : Nat := cc_ (lr (wid M n (k % n))) (k / n) <<< frm M n (k % n)
def mkp (M n i b k : Nat) : Nat := if k % n < i ∨ (k % n = i ∧ k / n < b) then mkS M n k else 0
theorem wid_le {M n i : Nat} (hM : M ≤ 57) (hn : n = 1 ∨ n = 4) : wid M n i ≤ 57 := by
  unfold wid
  rcases hn with rfl | rfl <;> omega
theorem wid_at {M n i k : Nat} (hn : n = 1 ∨ n = 4) (hi : i < n) (hk : k < wid M n i) : k * n + i < M := by
  unfold wid at hk
  rcases hn with rfl | rfl <;> omega
theorem wid_of {M n k : Nat} (hn : n = 1 ∨ n = 4) (hk : k < M) : k / n < wid M n (k % n) := by
  unfold wid
  rcases hn with rfl | rfl <;> omega
theorem frm_le {M n : Nat} : ∀ i, frm M n i ≤ 7 * i := by
  intro i
  induction i with
  | zero => exact Nat.le_refl 0
  | succ i ih => have := lr_le (wid M n i); show frm M n i + lr (wid M n i) ≤ _; omega
theorem mkp_upd {M n i b : Nat} (hn : n = 1 ∨ n = 4) (hi : i < n) : upd (fun k => nI (mkp M n i b k)) (b * n + i) (nI (cc_ (lr (wid M n i)) b <<< frm M n i)) = fun k => nI (mkp M n i (b + 1) k) := by
  funext k
  unfold upd
  have h1 : (b * n + i) % n = i := by rcases hn with rfl | rfl <;> omega
  have h2 : (b * n + i) / n = b := by rcases hn with rfl | rfl <;> omega
  by_cases e : k = b * n + i
  · subst e
    rw [if_pos rfl]
    unfold mkp
    rw [if_pos (Or.inr ⟨h1, by omega⟩)]
    unfold mkS
    rw [h1, h2]
  · rw [if_neg e]
    unfold mkp
    have h3 : (k % n < i ∨ (k % n = i ∧ k / n < b)) ↔ (k % n < i ∨ (k % n = i ∧ k / n < b + 1)) := by
      have : k % n = i → k / n = b → k = b * n + i := fun q1 q2 => by rcases hn with rfl | rfl <;> omega
      constructor
      · rintro (h | ⟨h, h'⟩)
        · exact Or.inl h
        · exact Or.inr ⟨h, by omega⟩
      · rintro (h | ⟨h, h'⟩)
        · exact Or.inl h
        · refine Or.inr ⟨h, ?_⟩
          by_cases q : k / n = b
          · exact absurd (this h q) e
          · omega
    simp only [h3]
theorem mkp_next {M n i : Nat} (hn : n = 1 ∨ n = 4) (k : Nat) (hk : k < M) : nI (mkp M n i (wid M n i) k) = nI (mkp M n (i + 1) 0 k) := by
  unfold mkp
  have h3 : (k % n < i ∨ (k % n = i ∧ k / n < wid M n i)) ↔ (k % n < i + 1 ∨ (k % n = i + 1 ∧ k / n < 0)) := by
    constructor
    · rintro (h | ⟨h, h'⟩)
      · exact Or.inl (by omega)
      · exact Or.inl (by omega)
    · rintro (h | ⟨h, h'⟩)
      · by_cases q : k % n = i
        · refine Or.inr ⟨q, ?_⟩
          have := wid_of hn hk
          rw [q] at this
          exact this
        · exact Or.inl (by omega)
      · exact absurd h' (Nat.not_lt_zero _)
  simp only [h3]
theorem mkp_end {M n : Nat} (hn : n = 1 ∨ n = 4) (k : Nat) : nI (mkp M n n 0 k) = nI (mkS M n k) := by
  unfold mkp
  rw [if_pos (Or.inl (Nat.mod_lt _ (by omega)))]
theorem mkp_0 (M n : Nat) (k : Nat) : nI 0 = nI (mkp M n 0 0 k) := by
  unfold mkp
  rw [if_neg (by rintro (h | ⟨h, h'⟩); exact Nat.not_lt_zero _ h; exact Nat.not_lt_zero _ h')]
end
section
theorem m_130 : Cond.methodLink R_K 1 objectInit ∈ wA := in_wA (List.mem_of_getElem? (i := 130) rfl) rfl
theorem m_132 : Cond.fieldLink R_K 7 R_K "wordBits" "I" ∈ wA := in_wA (List.mem_of_getElem? (i := 132) rfl) rfl
theorem m_137 : Cond.fieldLink R_K 13 R_K "checkBits" "I" ∈ wA := in_wA (List.mem_of_getElem? (i := 137) rfl) rfl
theorem m_70 : Cond.classLink R_C 195 R_L ∈ wA := in_wA (List.mem_of_getElem? (i := 70) rfl) rfl
theorem m_72 : Cond.instantiable R_L 4 ∈ wA := in_wA (List.mem_of_getElem? (i := 72) rfl) rfl
theorem m_75 : Cond.code y_L_init b_L_init 4 none ∈ wA := in_wA (List.mem_of_getElem? (i := 75) rfl) rfl
theorem m_73 : Cond.methodLink R_C 197 y_L_init ∈ wA := in_wA (List.mem_of_getElem? (i := 73) rfl) rfl
theorem m_74 : Cond.instanceMethod y_L_init ∈ wA := in_wA (List.mem_of_getElem? (i := 74) rfl) rfl
theorem m_103 : Cond.fieldLink R_S 23 R_L "checkBits" "I" ∈ wA := in_wA (List.mem_of_getElem? (i := 103) rfl) rfl
theorem m_105 : Cond.fieldLink R_S 29 R_L "columns" "[I" ∈ wA := in_wA (List.mem_of_getElem? (i := 105) rfl) rfl
theorem m_123 : Cond.code y_S_checkBitsOf b_S_checkBitsOf 6 (some .int) ∈ wA := in_wA (List.mem_of_getElem? (i := 123) rfl) rfl
theorem m_121 : Cond.methodLink R_S 3 y_S_checkBitsOf ∈ wA := in_wA (List.mem_of_getElem? (i := 121) rfl) rfl
theorem m_122 : Cond.static y_S_checkBitsOf ∈ wA := in_wA (List.mem_of_getElem? (i := 122) rfl) rfl
theorem m_32 : Cond.initialized R_S ∈ wA := in_wA (List.mem_of_getElem? (i := 32) rfl) rfl
theorem m_126 : Cond.code y_S_marksOf b_S_marksOf 7 (some (.array .int)) ∈ wA := in_wA (List.mem_of_getElem? (i := 126) rfl) rfl
theorem m_124 : Cond.methodLink R_S 9 y_S_marksOf ∈ wA := in_wA (List.mem_of_getElem? (i := 124) rfl) rfl
theorem m_125 : Cond.static y_S_marksOf ∈ wA := in_wA (List.mem_of_getElem? (i := 125) rfl) rfl
theorem m_129 : Cond.code y_K_init b_K_init 4 none ∈ wA := in_wA (List.mem_of_getElem? (i := 129) rfl) rfl
theorem m_127 : Cond.methodLink R_S 13 y_K_init ∈ wA := in_wA (List.mem_of_getElem? (i := 127) rfl) rfl
theorem m_128 : Cond.instanceMethod y_K_init ∈ wA := in_wA (List.mem_of_getElem? (i := 128) rfl) rfl
theorem m_31 : Cond.initialized R_K ∈ wA := in_wA (List.mem_of_getElem? (i := 31) rfl) rfl
theorem m_131 : Cond.fieldLink R_S 19 R_S "lanes" "[LCheckCodes$Lane;" ∈ wA := in_wA (List.mem_of_getElem? (i := 131) rfl) rfl
abbrev w_K_init : List Cond := .code y_K_init b_K_init 4 none :: wA
abbrev rm_K_init : Room := { frames := 1, cells := 0, slots := 0, locals := 12 }
theorem d_K_init_0 : decode b_K_init 0 = .ok (.aload_n 0, 1) := by decide +kernel
theorem d_K_init_1 : decode b_K_init 1 = .ok (.invokespecial 1, 3) := by decide +kernel
theorem d_K_init_4 : decode b_K_init 4 = .ok (.aload_n 0, 1) := by decide +kernel
theorem d_K_init_5 : decode b_K_init 5 = .ok (.iload_n 1, 1) := by decide +kernel
theorem d_K_init_6 : decode b_K_init 6 = .ok (.putfield 7, 3) := by decide +kernel
theorem d_K_init_9 : decode b_K_init 9 = .ok (.aload_n 0, 1) := by decide +kernel
theorem d_K_init_10 : decode b_K_init 10 = .ok (.iload_n 2, 1) := by decide +kernel
theorem d_K_init_11 : decode b_K_init 11 = .ok (.putfield 13, 3) := by decide +kernel
theorem d_K_init_14 : decode b_K_init 14 = .ok (.aload_n 0, 1) := by decide +kernel
theorem d_K_init_15 : decode b_K_init 15 = .ok (.aload_n 3, 1) := by decide +kernel
theorem d_K_init_16 : decode b_K_init 16 = .ok (.putfield 16, 3) := by decide +kernel
theorem d_K_init_19 : decode b_K_init 19 = .ok (.return_, 1) := by decide +kernel
abbrev w_C_lanesOf : List Cond := .code y_C_lanesOf b_C_lanesOf 4 (some (.array (.object "CheckCodes$Lane"))) :: wA
abbrev rm_C_lanesOf : Room := { frames := 4, cells := 17, slots := 788, locals := 96 }
theorem d_C_lanesOf_0 : decode b_C_lanesOf 0 = .ok (.iload_n 1, 1) := by decide +kernel
theorem d_C_lanesOf_1 : decode b_C_lanesOf 1 = .ok (.anewarray 195, 3) := by decide +kernel
theorem d_C_lanesOf_4 : decode b_C_lanesOf 4 = .ok (.astore_n 2, 1) := by decide +kernel
theorem d_C_lanesOf_5 : decode b_C_lanesOf 5 = .ok (.iconst 0, 1) := by decide +kernel
theorem d_C_lanesOf_6 : decode b_C_lanesOf 6 = .ok (.istore_n 3, 1) := by decide +kernel
theorem d_C_lanesOf_7 : decode b_C_lanesOf 7 = .ok (.iload_n 3, 1) := by decide +kernel
theorem d_C_lanesOf_8 : decode b_C_lanesOf 8 = .ok (.iload_n 1, 1) := by decide +kernel
theorem d_C_lanesOf_9 : decode b_C_lanesOf 9 = .ok (.if_icmp .ge 28, 3) := by decide +kernel
theorem d_C_lanesOf_12 : decode b_C_lanesOf 12 = .ok (.aload_n 2, 1) := by decide +kernel
theorem d_C_lanesOf_13 : decode b_C_lanesOf 13 = .ok (.iload_n 3, 1) := by decide +kernel
theorem d_C_lanesOf_14 : decode b_C_lanesOf 14 = .ok (.new 195, 3) := by decide +kernel
theorem d_C_lanesOf_17 : decode b_C_lanesOf 17 = .ok (.dup, 1) := by decide +kernel
theorem d_C_lanesOf_18 : decode b_C_lanesOf 18 = .ok (.iload_n 0, 1) := by decide +kernel
theorem d_C_lanesOf_19 : decode b_C_lanesOf 19 = .ok (.iload_n 3, 1) := by decide +kernel
theorem d_C_lanesOf_20 : decode b_C_lanesOf 20 = .ok (.isub, 1) := by decide +kernel
theorem d_C_lanesOf_21 : decode b_C_lanesOf 21 = .ok (.iload_n 1, 1) := by decide +kernel
theorem d_C_lanesOf_22 : decode b_C_lanesOf 22 = .ok (.iadd, 1) := by decide +kernel
theorem d_C_lanesOf_23 : decode b_C_lanesOf 23 = .ok (.iconst 1, 1) := by decide +kernel
theorem d_C_lanesOf_24 : decode b_C_lanesOf 24 = .ok (.isub, 1) := by decide +kernel
theorem d_C_lanesOf_25 : decode b_C_lanesOf 25 = .ok (.iload_n 1, 1) := by decide +kernel
theorem d_C_lanesOf_26 : decode b_C_lanesOf 26 = .ok (.idiv, 1) := by decide +kernel
theorem d_C_lanesOf_27 : decode b_C_lanesOf 27 = .ok (.invokespecial 197, 3) := by decide +kernel
theorem d_C_lanesOf_30 : decode b_C_lanesOf 30 = .ok (.aastore, 1) := by decide +kernel
theorem d_C_lanesOf_31 : decode b_C_lanesOf 31 = .ok (.iinc 3 1, 3) := by decide +kernel
theorem d_C_lanesOf_34 : decode b_C_lanesOf 34 = .ok (.goto (-27), 3) := by decide +kernel
theorem d_C_lanesOf_37 : decode b_C_lanesOf 37 = .ok (.aload_n 2, 1) := by decide +kernel
theorem d_C_lanesOf_38 : decode b_C_lanesOf 38 = .ok (.areturn, 1) := by decide +kernel
abbrev w_S_checkBitsOf : List Cond := .code y_S_checkBitsOf b_S_checkBitsOf 6 (some .int) :: wA
abbrev rm_S_checkBitsOf : Room := { frames := 0, cells := 0, slots := 0, locals := 0 }
theorem d_S_checkBitsOf_0 : decode b_S_checkBitsOf 0 = .ok (.iconst 0, 1) := by decide +kernel
theorem d_S_checkBitsOf_1 : decode b_S_checkBitsOf 1 = .ok (.istore_n 1, 1) := by decide +kernel
theorem d_S_checkBitsOf_2 : decode b_S_checkBitsOf 2 = .ok (.aload_n 0, 1) := by decide +kernel
theorem d_S_checkBitsOf_3 : decode b_S_checkBitsOf 3 = .ok (.astore_n 2, 1) := by decide +kernel
theorem d_S_checkBitsOf_4 : decode b_S_checkBitsOf 4 = .ok (.aload_n 2, 1) := by decide +kernel
theorem d_S_checkBitsOf_5 : decode b_S_checkBitsOf 5 = .ok (.arraylength, 1) := by decide +kernel
theorem d_S_checkBitsOf_6 : decode b_S_checkBitsOf 6 = .ok (.istore_n 3, 1) := by decide +kernel
theorem d_S_checkBitsOf_7 : decode b_S_checkBitsOf 7 = .ok (.iconst 0, 1) := by decide +kernel
theorem d_S_checkBitsOf_8 : decode b_S_checkBitsOf 8 = .ok (.istore 4, 2) := by decide +kernel
theorem d_S_checkBitsOf_10 : decode b_S_checkBitsOf 10 = .ok (.iload 4, 2) := by decide +kernel
theorem d_S_checkBitsOf_12 : decode b_S_checkBitsOf 12 = .ok (.iload_n 3, 1) := by decide +kernel
theorem d_S_checkBitsOf_13 : decode b_S_checkBitsOf 13 = .ok (.if_icmp .ge 23, 3) := by decide +kernel
theorem d_S_checkBitsOf_16 : decode b_S_checkBitsOf 16 = .ok (.aload_n 2, 1) := by decide +kernel
theorem d_S_checkBitsOf_17 : decode b_S_checkBitsOf 17 = .ok (.iload 4, 2) := by decide +kernel
theorem d_S_checkBitsOf_19 : decode b_S_checkBitsOf 19 = .ok (.aaload, 1) := by decide +kernel
theorem d_S_checkBitsOf_20 : decode b_S_checkBitsOf 20 = .ok (.astore 5, 2) := by decide +kernel
theorem d_S_checkBitsOf_22 : decode b_S_checkBitsOf 22 = .ok (.iload_n 1, 1) := by decide +kernel
theorem d_S_checkBitsOf_23 : decode b_S_checkBitsOf 23 = .ok (.aload 5, 2) := by decide +kernel
theorem d_S_checkBitsOf_25 : decode b_S_checkBitsOf 25 = .ok (.getfield 23, 3) := by decide +kernel
theorem d_S_checkBitsOf_28 : decode b_S_checkBitsOf 28 = .ok (.iadd, 1) := by decide +kernel
theorem d_S_checkBitsOf_29 : decode b_S_checkBitsOf 29 = .ok (.istore_n 1, 1) := by decide +kernel
theorem d_S_checkBitsOf_30 : decode b_S_checkBitsOf 30 = .ok (.iinc 4 1, 3) := by decide +kernel
theorem d_S_checkBitsOf_33 : decode b_S_checkBitsOf 33 = .ok (.goto (-23), 3) := by decide +kernel
theorem d_S_checkBitsOf_36 : decode b_S_checkBitsOf 36 = .ok (.iload_n 1, 1) := by decide +kernel
theorem d_S_checkBitsOf_37 : decode b_S_checkBitsOf 37 = .ok (.ireturn, 1) := by decide +kernel
abbrev w_S_marksOf : List Cond := .code y_S_marksOf b_S_marksOf 7 (some (.array .int)) :: wA
abbrev rm_S_marksOf : Room := { frames := 0, cells := 1, slots := 57, locals := 0 }
theorem d_S_marksOf_0 : decode b_S_marksOf 0 = .ok (.iload_n 0, 1) := by decide +kernel
theorem d_S_marksOf_1 : decode b_S_marksOf 1 = .ok (.newarray .int, 2) := by decide +kernel
theorem d_S_marksOf_3 : decode b_S_marksOf 3 = .ok (.astore_n 2, 1) := by decide +kernel
theorem d_S_marksOf_4 : decode b_S_marksOf 4 = .ok (.iconst 0, 1) := by decide +kernel
theorem d_S_marksOf_5 : decode b_S_marksOf 5 = .ok (.istore_n 3, 1) := by decide +kernel
theorem d_S_marksOf_6 : decode b_S_marksOf 6 = .ok (.iconst 0, 1) := by decide +kernel
theorem d_S_marksOf_7 : decode b_S_marksOf 7 = .ok (.istore 4, 2) := by decide +kernel
theorem d_S_marksOf_9 : decode b_S_marksOf 9 = .ok (.iload 4, 2) := by decide +kernel
theorem d_S_marksOf_11 : decode b_S_marksOf 11 = .ok (.aload_n 1, 1) := by decide +kernel
theorem d_S_marksOf_12 : decode b_S_marksOf 12 = .ok (.arraylength, 1) := by decide +kernel
theorem d_S_marksOf_13 : decode b_S_marksOf 13 = .ok (.if_icmp .ge 62, 3) := by decide +kernel
theorem d_S_marksOf_16 : decode b_S_marksOf 16 = .ok (.aload_n 1, 1) := by decide +kernel
theorem d_S_marksOf_17 : decode b_S_marksOf 17 = .ok (.iload 4, 2) := by decide +kernel
theorem d_S_marksOf_19 : decode b_S_marksOf 19 = .ok (.aaload, 1) := by decide +kernel
theorem d_S_marksOf_20 : decode b_S_marksOf 20 = .ok (.getfield 29, 3) := by decide +kernel
theorem d_S_marksOf_23 : decode b_S_marksOf 23 = .ok (.astore 5, 2) := by decide +kernel
theorem d_S_marksOf_25 : decode b_S_marksOf 25 = .ok (.iconst 0, 1) := by decide +kernel
theorem d_S_marksOf_26 : decode b_S_marksOf 26 = .ok (.istore 6, 2) := by decide +kernel
theorem d_S_marksOf_28 : decode b_S_marksOf 28 = .ok (.iload 6, 2) := by decide +kernel
theorem d_S_marksOf_30 : decode b_S_marksOf 30 = .ok (.aload 5, 2) := by decide +kernel
theorem d_S_marksOf_32 : decode b_S_marksOf 32 = .ok (.arraylength, 1) := by decide +kernel
theorem d_S_marksOf_33 : decode b_S_marksOf 33 = .ok (.if_icmp .ge 26, 3) := by decide +kernel
theorem d_S_marksOf_36 : decode b_S_marksOf 36 = .ok (.aload_n 2, 1) := by decide +kernel
theorem d_S_marksOf_37 : decode b_S_marksOf 37 = .ok (.iload 6, 2) := by decide +kernel
theorem d_S_marksOf_39 : decode b_S_marksOf 39 = .ok (.aload_n 1, 1) := by decide +kernel
theorem d_S_marksOf_40 : decode b_S_marksOf 40 = .ok (.arraylength, 1) := by decide +kernel
theorem d_S_marksOf_41 : decode b_S_marksOf 41 = .ok (.imul, 1) := by decide +kernel
theorem d_S_marksOf_42 : decode b_S_marksOf 42 = .ok (.iload 4, 2) := by decide +kernel
theorem d_S_marksOf_44 : decode b_S_marksOf 44 = .ok (.iadd, 1) := by decide +kernel
theorem d_S_marksOf_45 : decode b_S_marksOf 45 = .ok (.aload 5, 2) := by decide +kernel
theorem d_S_marksOf_47 : decode b_S_marksOf 47 = .ok (.iload 6, 2) := by decide +kernel
theorem d_S_marksOf_49 : decode b_S_marksOf 49 = .ok (.iaload, 1) := by decide +kernel
theorem d_S_marksOf_50 : decode b_S_marksOf 50 = .ok (.iload_n 3, 1) := by decide +kernel
theorem d_S_marksOf_51 : decode b_S_marksOf 51 = .ok (.ishl, 1) := by decide +kernel
theorem d_S_marksOf_52 : decode b_S_marksOf 52 = .ok (.iastore, 1) := by decide +kernel
theorem d_S_marksOf_53 : decode b_S_marksOf 53 = .ok (.iinc 6 1, 3) := by decide +kernel
theorem d_S_marksOf_56 : decode b_S_marksOf 56 = .ok (.goto (-28), 3) := by decide +kernel
theorem d_S_marksOf_59 : decode b_S_marksOf 59 = .ok (.iload_n 3, 1) := by decide +kernel
theorem d_S_marksOf_60 : decode b_S_marksOf 60 = .ok (.aload_n 1, 1) := by decide +kernel
theorem d_S_marksOf_61 : decode b_S_marksOf 61 = .ok (.iload 4, 2) := by decide +kernel
theorem d_S_marksOf_63 : decode b_S_marksOf 63 = .ok (.aaload, 1) := by decide +kernel
theorem d_S_marksOf_64 : decode b_S_marksOf 64 = .ok (.getfield 23, 3) := by decide +kernel
theorem d_S_marksOf_67 : decode b_S_marksOf 67 = .ok (.iadd, 1) := by decide +kernel
theorem d_S_marksOf_68 : decode b_S_marksOf 68 = .ok (.istore_n 3, 1) := by decide +kernel
theorem d_S_marksOf_69 : decode b_S_marksOf 69 = .ok (.iinc 4 1, 3) := by decide +kernel
theorem d_S_marksOf_72 : decode b_S_marksOf 72 = .ok (.goto (-63), 3) := by decide +kernel
theorem d_S_marksOf_75 : decode b_S_marksOf 75 = .ok (.aload_n 2, 1) := by decide +kernel
theorem d_S_marksOf_76 : decode b_S_marksOf 76 = .ok (.areturn, 1) := by decide +kernel
abbrev w_S_init : List Cond := .code y_S_init b_S_init 3 none :: wA
abbrev rm_S_init : Room := { frames := 2, cells := 1, slots := 57, locals := 35 }
theorem d_S_init_0 : decode b_S_init 0 = .ok (.aload_n 0, 1) := by decide +kernel
theorem d_S_init_1 : decode b_S_init 1 = .ok (.iload_n 1, 1) := by decide +kernel
theorem d_S_init_2 : decode b_S_init 2 = .ok (.aload_n 2, 1) := by decide +kernel
theorem d_S_init_3 : decode b_S_init 3 = .ok (.invokestatic 3, 3) := by decide +kernel
theorem d_S_init_6 : decode b_S_init 6 = .ok (.iload_n 1, 1) := by decide +kernel
theorem d_S_init_7 : decode b_S_init 7 = .ok (.aload_n 2, 1) := by decide +kernel
theorem d_S_init_8 : decode b_S_init 8 = .ok (.invokestatic 9, 3) := by decide +kernel
theorem d_S_init_11 : decode b_S_init 11 = .ok (.invokespecial 13, 3) := by decide +kernel
theorem d_S_init_14 : decode b_S_init 14 = .ok (.aload_n 0, 1) := by decide +kernel
theorem d_S_init_15 : decode b_S_init 15 = .ok (.aload_n 2, 1) := by decide +kernel
theorem d_S_init_16 : decode b_S_init 16 = .ok (.putfield 19, 3) := by decide +kernel
theorem d_S_init_19 : decode b_S_init 19 = .ok (.return_, 1) := by decide +kernel
set_option maxHeartbeats 4000000 in
set_option maxRecDepth 100000 in
theorem c_K_init_S (l : Launch) (D : va_G) (g : Nat → ClassId) (sz : Nat) (wr : va_W) (o a : Nat) (x1 x2 : Int32) : Met l y_K_init w_K_init rm_K_init (va_Pc [.ref o, .int (x1), .int (x2), .ref a] (pP D (tyl g) ((o, .inr (1, [.int (nI 0), .int (nI 0), .null, .null])) :: wr) sz)) (va_Qv (fun (u : Unit) => True) (fun u => qB D (va_A ((o, .inr (1, [.int (nI 0), .int (nI 0), .null, .null])) :: wr) sz) ((o, .inr (1, [.int (x1), .int (x2), .ref a, .null])) :: wr)) (va_A ((o, .inr (1, [.int (nI 0), .int (nI 0), .null, .null])) :: wr) sz)) 0 0 (va_A ((o, .inr (1, [.int (nI 0), .int (nI 0), .null, .null])) :: wr) sz) := by
  refine Met.ofW (cc := b_K_init) (maxL := 4) (ret := none) (by decide +kernel) rfl ?_
  intro p e s m args below meth c s₁ Bq hml hv
  have hx := Bq.exec
  have hb := Bq.bytes
  have hr := Bq.returns
  have hts : ∀ w ∈ wA, w.before args s = true := fun w h => atoms_spec (ws := w_K_init) Bq.pre w (List.mem_cons_of_mem _ h)
  have hown : s.vm.findClass R_K = some m.cls := findClass_of_methodNamed Bq.named
  have hlocks := Bq.notSynchronized
  have hin : meth.name = "<init>" := (name_of_methodNamed Bq.named Bq.method).1
  obtain ⟨rfl, hsz, hP, hKK, hD0⟩ := hv
  have hK := hKK.1
  subst hsz
  have hD := hD0.self (sz := s.heap.size)
  generalize hAe : va_A ((o, .inr (1, [.int (nI 0), .int (nI 0), .null, .null])) :: wr) s.heap.size = A at hD ⊢
  have hA : ∀ q : Nat, s.heap.size ≤ q → A q := fun q h => by rw [← hAe]; exact Or.inr h
  have hS : va_S A s.heap s.heap [] := va_S.rf
  have hl := lv_entry ([.ref o, .int (x1), .int (x2), .ref a]) (n := 4) (Nat.le_of_ble_eq_true rfl)
  rw [lg_entry_eq]
  generalize (lg_sl ([.ref o, .int (x1), .int (x2), .ref a]) ++ List.replicate (4 - (lg_sl ([.ref o, .int (x1), .int (x2), .ref a])).length) Slot.unset).toArray = ls at hl ⊢
  have hl : lv_has ls 4 [(0, .ref o), (1, .int (x1)), (2, .int (x2)), (3, .ref a)] := hl
  generalize hQ : MQ below (va_Qv (fun (u : Unit) => True) (fun u => qB D (A) ((o, .inr (1, [.int (x1), .int (x2), .ref a, .null])) :: wr)) (A)) [.ref o, .int (x1), .int (x2), .ref a].toArray s 0 0 A = Q
  refine lv_aload_n hx hb d_K_init_0 rfl (lv_at hl 0 rfl) ?_
  refine W.objInit hx hb hown (hts _ m_130) (hts _ m_53) (hts _ m_54) rfl (by rw [hml]; exact hl.1) rfl d_K_init_1 (Nat.le_of_ble_eq_true rfl) (Nat.le_of_ble_eq_true rfl) ?_
  refine W.eq (g2 := F0 m 4 ls []) rfl ?_
  refine lv_aload_n hx hb d_K_init_4 rfl (lv_at hl 0 rfl) ?_
  refine lv_iload_n hx hb d_K_init_5 rfl (lv_at hl 1 rfl) ?_
  refine va_putF (D := D) (ci := 1) (v := .int (x1)) (ty := .int) (C := R_S) (T := F_S) (N := 4) hx hb hts i_S tf_S tf_S_ok nf_S hown hK hP hD hS 0 rfl rfl 0 (by decide) (hts _ m_132) (fun _ h9 => h9) rfl hin rfl (by decide +kernel) rfl rfl (Nat.le_of_ble_eq_true rfl) d_K_init_6 (fun H locs hP hD hS => ?_)
  have hP : va_P D vwCl ((o, .inr (1, [.int (x1), .int (nI 0), .null, .null])) :: wr) H := hP
  have hD : va_D A ((o, .inr (1, [.int (x1), .int (nI 0), .null, .null])) :: wr) := hD
  refine lv_aload_n hx hb d_K_init_9 rfl (lv_at hl 0 rfl) ?_
  refine lv_iload_n hx hb d_K_init_10 rfl (lv_at hl 2 rfl) ?_
  refine va_putF (D := D) (ci := 1) (v := .int (x2)) (ty := .int) (C := R_S) (T := F_S) (N := 4) hx hb hts i_S tf_S tf_S_ok nf_S hown hK hP hD hS 0 rfl rfl 1 (by decide) (hts _ m_137) (fun _ h9 => h9) rfl hin rfl (by decide +kernel) rfl rfl (Nat.le_of_ble_eq_true rfl) d_K_init_11 (fun H locs hP hD hS => ?_)
  have hP : va_P D vwCl ((o, .inr (1, [.int (x1), .int (x2), .null, .null])) :: wr) H := hP
  have hD : va_D A ((o, .inr (1, [.int (x1), .int (x2), .null, .null])) :: wr) := hD
  refine lv_aload_n hx hb d_K_init_14 rfl (lv_at hl 0 rfl) ?_
  refine lv_aload_n hx hb d_K_init_15 rfl (lv_at hl 3 rfl) ?_
  refine va_putF (D := D) (ci := 1) (v := .ref a) (ty := .array .int) (C := R_S) (T := F_S) (N := 4) hx hb hts i_S tf_S tf_S_ok nf_S hown hK hP hD hS 0 rfl rfl 2 (by decide) (hts _ m_139) (fun _ h9 => h9) rfl hin rfl (by decide +kernel) rfl rfl (Nat.le_of_ble_eq_true rfl) d_K_init_16 (fun H locs hP hD hS => ?_)
  have hP : va_P D vwCl ((o, .inr (1, [.int (x1), .int (x2), .ref a, .null])) :: wr) H := hP
  have hD : va_D A ((o, .inr (1, [.int (x1), .int (x2), .ref a, .null])) :: wr) := hD
  rw [← hQ]
  refine W.vret hx hb hr ?_ hS.2.2 d_K_init_19
  exact fun t ht hW => ⟨⟨(), rfl, trivial, by rw [ht]; exact hP, hD⟩, hS.F ht⟩
set_option maxHeartbeats 4000000 in
set_option maxRecDepth 100000 in
theorem c_K_init_P (l : Launch) (D : va_G) (g : Nat → ClassId) (sz : Nat) (wr : va_W) (o a : Nat) (x1 x2 : Int32) : Met l y_K_init w_K_init rm_K_init (va_Pc [.ref o, .int (x1), .int (x2), .ref a] (pP D (tyl g) ((o, .inr (2, [.int (nI 0), .int (nI 0), .null])) :: wr) sz)) (va_Qv (fun (u : Unit) => True) (fun u => qB D (va_A ((o, .inr (2, [.int (nI 0), .int (nI 0), .null])) :: wr) sz) ((o, .inr (2, [.int (x1), .int (x2), .ref a])) :: wr)) (va_A ((o, .inr (2, [.int (nI 0), .int (nI 0), .null])) :: wr) sz)) 0 0 (va_A ((o, .inr (2, [.int (nI 0), .int (nI 0), .null])) :: wr) sz) := by
  refine Met.ofW (cc := b_K_init) (maxL := 4) (ret := none) (by decide +kernel) rfl ?_
  intro p e s m args below meth c s₁ Bq hml hv
  have hx := Bq.exec
  have hb := Bq.bytes
  have hr := Bq.returns
  have hts : ∀ w ∈ wA, w.before args s = true := fun w h => atoms_spec (ws := w_K_init) Bq.pre w (List.mem_cons_of_mem _ h)
  have hown : s.vm.findClass R_K = some m.cls := findClass_of_methodNamed Bq.named
  have hlocks := Bq.notSynchronized
  have hin : meth.name = "<init>" := (name_of_methodNamed Bq.named Bq.method).1
  obtain ⟨rfl, hsz, hP, hKK, hD0⟩ := hv
  have hK := hKK.1
  subst hsz
  have hD := hD0.self (sz := s.heap.size)
  generalize hAe : va_A ((o, .inr (2, [.int (nI 0), .int (nI 0), .null])) :: wr) s.heap.size = A at hD ⊢
  have hA : ∀ q : Nat, s.heap.size ≤ q → A q := fun q h => by rw [← hAe]; exact Or.inr h
  have hS : va_S A s.heap s.heap [] := va_S.rf
  have hl := lv_entry ([.ref o, .int (x1), .int (x2), .ref a]) (n := 4) (Nat.le_of_ble_eq_true rfl)
  rw [lg_entry_eq]
  generalize (lg_sl ([.ref o, .int (x1), .int (x2), .ref a]) ++ List.replicate (4 - (lg_sl ([.ref o, .int (x1), .int (x2), .ref a])).length) Slot.unset).toArray = ls at hl ⊢
  have hl : lv_has ls 4 [(0, .ref o), (1, .int (x1)), (2, .int (x2)), (3, .ref a)] := hl
  generalize hQ : MQ below (va_Qv (fun (u : Unit) => True) (fun u => qB D (A) ((o, .inr (2, [.int (x1), .int (x2), .ref a])) :: wr)) (A)) [.ref o, .int (x1), .int (x2), .ref a].toArray s 0 0 A = Q
  refine lv_aload_n hx hb d_K_init_0 rfl (lv_at hl 0 rfl) ?_
  refine W.objInit hx hb hown (hts _ m_130) (hts _ m_53) (hts _ m_54) rfl (by rw [hml]; exact hl.1) rfl d_K_init_1 (Nat.le_of_ble_eq_true rfl) (Nat.le_of_ble_eq_true rfl) ?_
  refine W.eq (g2 := F0 m 4 ls []) rfl ?_
  refine lv_aload_n hx hb d_K_init_4 rfl (lv_at hl 0 rfl) ?_
  refine lv_iload_n hx hb d_K_init_5 rfl (lv_at hl 1 rfl) ?_
  refine va_putF (D := D) (ci := 2) (v := .int (x1)) (ty := .int) (C := R_P) (T := F_P) (N := 3) hx hb hts i_P tf_P tf_P_ok nf_P hown hK hP hD hS 0 rfl rfl 0 (by decide) (hts _ m_132) (fun _ h9 => h9) rfl hin rfl (by decide +kernel) rfl rfl (Nat.le_of_ble_eq_true rfl) d_K_init_6 (fun H locs hP hD hS => ?_)
  have hP : va_P D vwCl ((o, .inr (2, [.int (x1), .int (nI 0), .null])) :: wr) H := hP
  have hD : va_D A ((o, .inr (2, [.int (x1), .int (nI 0), .null])) :: wr) := hD
  refine lv_aload_n hx hb d_K_init_9 rfl (lv_at hl 0 rfl) ?_
  refine lv_iload_n hx hb d_K_init_10 rfl (lv_at hl 2 rfl) ?_
  refine va_putF (D := D) (ci := 2) (v := .int (x2)) (ty := .int) (C := R_P) (T := F_P) (N := 3) hx hb hts i_P tf_P tf_P_ok nf_P hown hK hP hD hS 0 rfl rfl 1 (by decide) (hts _ m_137) (fun _ h9 => h9) rfl hin rfl (by decide +kernel) rfl rfl (Nat.le_of_ble_eq_true rfl) d_K_init_11 (fun H locs hP hD hS => ?_)
  have hP : va_P D vwCl ((o, .inr (2, [.int (x1), .int (x2), .null])) :: wr) H := hP
  have hD : va_D A ((o, .inr (2, [.int (x1), .int (x2), .null])) :: wr) := hD
  refine lv_aload_n hx hb d_K_init_14 rfl (lv_at hl 0 rfl) ?_
  refine lv_aload_n hx hb d_K_init_15 rfl (lv_at hl 3 rfl) ?_
  refine va_putF (D := D) (ci := 2) (v := .ref a) (ty := .array .int) (C := R_P) (T := F_P) (N := 3) hx hb hts i_P tf_P tf_P_ok nf_P hown hK hP hD hS 0 rfl rfl 2 (by decide) (hts _ m_139) (fun _ h9 => h9) rfl hin rfl (by decide +kernel) rfl rfl (Nat.le_of_ble_eq_true rfl) d_K_init_16 (fun H locs hP hD hS => ?_)
  have hP : va_P D vwCl ((o, .inr (2, [.int (x1), .int (x2), .ref a])) :: wr) H := hP
  have hD : va_D A ((o, .inr (2, [.int (x1), .int (x2), .ref a])) :: wr) := hD
  rw [← hQ]
  refine W.vret hx hb hr ?_ hS.2.2 d_K_init_19
  exact fun t ht hW => ⟨⟨(), rfl, trivial, by rw [ht]; exact hP, hD⟩, hS.F ht⟩
set_option maxHeartbeats 4000000 in
set_option maxRecDepth 100000 in
theorem c_K_init_N (l : Launch) (D : va_G) (g : Nat → ClassId) (sz : Nat) (wr : va_W) (o a : Nat) (x1 x2 : Int32) : Met l y_K_init w_K_init rm_K_init (va_Pc [.ref o, .int (x1), .int (x2), .ref a] (pP D (tyl g) ((o, .inr (3, [.int (nI 0), .int (nI 0), .null])) :: wr) sz)) (va_Qv (fun (u : Unit) => True) (fun u => qB D (va_A ((o, .inr (3, [.int (nI 0), .int (nI 0), .null])) :: wr) sz) ((o, .inr (3, [.int (x1), .int (x2), .ref a])) :: wr)) (va_A ((o, .inr (3, [.int (nI 0), .int (nI 0), .null])) :: wr) sz)) 0 0 (va_A ((o, .inr (3, [.int (nI 0), .int (nI 0), .null])) :: wr) sz) := by
  refine Met.ofW (cc := b_K_init) (maxL := 4) (ret := none) (by decide +kernel) rfl ?_
  intro p e s m args below meth c s₁ Bq hml hv
  have hx := Bq.exec
  have hb := Bq.bytes
  have hr := Bq.returns
  have hts : ∀ w ∈ wA, w.before args s = true := fun w h => atoms_spec (ws := w_K_init) Bq.pre w (List.mem_cons_of_mem _ h)
  have hown : s.vm.findClass R_K = some m.cls := findClass_of_methodNamed Bq.named
  have hlocks := Bq.notSynchronized
  have hin : meth.name = "<init>" := (name_of_methodNamed Bq.named Bq.method).1
  obtain ⟨rfl, hsz, hP, hKK, hD0⟩ := hv
  have hK := hKK.1
  subst hsz
  have hD := hD0.self (sz := s.heap.size)
  generalize hAe : va_A ((o, .inr (3, [.int (nI 0), .int (nI 0), .null])) :: wr) s.heap.size = A at hD ⊢
  have hA : ∀ q : Nat, s.heap.size ≤ q → A q := fun q h => by rw [← hAe]; exact Or.inr h
  have hS : va_S A s.heap s.heap [] := va_S.rf
  have hl := lv_entry ([.ref o, .int (x1), .int (x2), .ref a]) (n := 4) (Nat.le_of_ble_eq_true rfl)
  rw [lg_entry_eq]
  generalize (lg_sl ([.ref o, .int (x1), .int (x2), .ref a]) ++ List.replicate (4 - (lg_sl ([.ref o, .int (x1), .int (x2), .ref a])).length) Slot.unset).toArray = ls at hl ⊢
  have hl : lv_has ls 4 [(0, .ref o), (1, .int (x1)), (2, .int (x2)), (3, .ref a)] := hl
  generalize hQ : MQ below (va_Qv (fun (u : Unit) => True) (fun u => qB D (A) ((o, .inr (3, [.int (x1), .int (x2), .ref a])) :: wr)) (A)) [.ref o, .int (x1), .int (x2), .ref a].toArray s 0 0 A = Q
  refine lv_aload_n hx hb d_K_init_0 rfl (lv_at hl 0 rfl) ?_
  refine W.objInit hx hb hown (hts _ m_130) (hts _ m_53) (hts _ m_54) rfl (by rw [hml]; exact hl.1) rfl d_K_init_1 (Nat.le_of_ble_eq_true rfl) (Nat.le_of_ble_eq_true rfl) ?_
  refine W.eq (g2 := F0 m 4 ls []) rfl ?_
  refine lv_aload_n hx hb d_K_init_4 rfl (lv_at hl 0 rfl) ?_
  refine lv_iload_n hx hb d_K_init_5 rfl (lv_at hl 1 rfl) ?_
  refine va_putF (D := D) (ci := 3) (v := .int (x1)) (ty := .int) (C := R_N) (T := F_N) (N := 3) hx hb hts i_N tf_N tf_N_ok nf_N hown hK hP hD hS 0 rfl rfl 0 (by decide) (hts _ m_132) (fun _ h9 => h9) rfl hin rfl (by decide +kernel) rfl rfl (Nat.le_of_ble_eq_true rfl) d_K_init_6 (fun H locs hP hD hS => ?_)
  have hP : va_P D vwCl ((o, .inr (3, [.int (x1), .int (nI 0), .null])) :: wr) H := hP
  have hD : va_D A ((o, .inr (3, [.int (x1), .int (nI 0), .null])) :: wr) := hD
  refine lv_aload_n hx hb d_K_init_9 rfl (lv_at hl 0 rfl) ?_
  refine lv_iload_n hx hb d_K_init_10 rfl (lv_at hl 2 rfl) ?_
  refine va_putF (D := D) (ci := 3) (v := .int (x2)) (ty := .int) (C := R_N) (T := F_N) (N := 3) hx hb hts i_N tf_N tf_N_ok nf_N hown hK hP hD hS 0 rfl rfl 1 (by decide) (hts _ m_137) (fun _ h9 => h9) rfl hin rfl (by decide +kernel) rfl rfl (Nat.le_of_ble_eq_true rfl) d_K_init_11 (fun H locs hP hD hS => ?_)
  have hP : va_P D vwCl ((o, .inr (3, [.int (x1), .int (x2), .null])) :: wr) H := hP
  have hD : va_D A ((o, .inr (3, [.int (x1), .int (x2), .null])) :: wr) := hD
  refine lv_aload_n hx hb d_K_init_14 rfl (lv_at hl 0 rfl) ?_
  refine lv_aload_n hx hb d_K_init_15 rfl (lv_at hl 3 rfl) ?_
  refine va_putF (D := D) (ci := 3) (v := .ref a) (ty := .array .int) (C := R_N) (T := F_N) (N := 3) hx hb hts i_N tf_N tf_N_ok nf_N hown hK hP hD hS 0 rfl rfl 2 (by decide) (hts _ m_139) (fun _ h9 => h9) rfl hin rfl (by decide +kernel) rfl rfl (Nat.le_of_ble_eq_true rfl) d_K_init_16 (fun H locs hP hD hS => ?_)
  have hP : va_P D vwCl ((o, .inr (3, [.int (x1), .int (x2), .ref a])) :: wr) H := hP
  have hD : va_D A ((o, .inr (3, [.int (x1), .int (x2), .ref a])) :: wr) := hD
  rw [← hQ]
  refine W.vret hx hb hr ?_ hS.2.2 d_K_init_19
  exact fun t ht hW => ⟨⟨(), rfl, trivial, by rw [ht]; exact hP, hD⟩, hS.F ht⟩
set_option maxHeartbeats 4000000 in
set_option maxRecDepth 100000 in
theorem c_C_lanesOf_1 (l : Launch) (D : va_G) (g : Nat → ClassId) (sz : Nat) (wr : va_W) (M : Nat) (hM : 0 < M) (hM57 : M ≤ 57) : Met l y_C_lanesOf w_C_lanesOf rm_C_lanesOf (va_Pc [.int (nI M), .int (nI 1)] (pP D (tyl g) (wr) sz)) (va_Qr (fun (u : (Nat → Nat)) => True) (fun u (a : Nat) => qB D (va_A (wr) sz) ((u 3, .inl (g 0, 2 ^ lr (wid M 1 0), .inl (fun s => oI (ba (lr (wid M 1 0)) (wid M 1 0) (wid M 1 0) s)))) :: (u 2, .inl (g 0, lr (wid M 1 0), .inl (fun r => nI (rsf (lr (wid M 1 0)) (wid M 1 0) r)))) :: (u 1, .inl (g 0, (wid M 1 0), .inl (fun j => nI (if j < wid M 1 0 then cc_ (lr (wid M 1 0)) j else 0)))) :: (u 0, .inr (4, [.int (nI (lr (wid M 1 0))), .ref (u 1), .ref (u 2), .ref (u 3)])) :: (a, .inl (g 3, 1, .inr (.inr (.inr (.inr (fun i => some (u (4 * i)))))))) :: wr)) (va_A (wr) sz)) 17 788 (va_A (wr) sz) := by
  refine Met.ofW (cc := b_C_lanesOf) (maxL := 4) (ret := (some (.array (.object "CheckCodes$Lane")))) (by decide +kernel) rfl ?_
  intro p e s m args below meth c s₁ Bq hml hv
  have hx := Bq.exec
  have hb := Bq.bytes
  have hr := Bq.returns
  have hts : ∀ w ∈ wA, w.before args s = true := fun w h => atoms_spec (ws := w_C_lanesOf) Bq.pre w (List.mem_cons_of_mem _ h)
  have hown : s.vm.findClass R_C = some m.cls := findClass_of_methodNamed Bq.named
  have hlocks := Bq.notSynchronized
  obtain ⟨rfl, hsz, hP, hKK, hD0⟩ := hv
  have hK := hKK.1
  subst hsz
  have hD := hD0.self (sz := s.heap.size)
  generalize hAe : va_A (wr) s.heap.size = A at hD ⊢
  have hA : ∀ q : Nat, s.heap.size ≤ q → A q := fun q h => by rw [← hAe]; exact Or.inr h
  have hS : va_S A s.heap s.heap [] := va_S.rf
  have hl := lv_entry ([.int (nI M), .int (nI 1)]) (n := 4) (Nat.le_of_ble_eq_true rfl)
  rw [lg_entry_eq]
  generalize (lg_sl ([.int (nI M), .int (nI 1)]) ++ List.replicate (4 - (lg_sl ([.int (nI M), .int (nI 1)])).length) Slot.unset).toArray = ls at hl ⊢
  have hl : lv_has ls 4 [(0, .int (nI M)), (1, .int (nI 1))] := hl
  generalize hQ : MQ below (va_Qr (fun (u : (Nat → Nat)) => True) (fun u (a : Nat) => qB D (A) ((u 3, .inl (g 0, 2 ^ lr (wid M 1 0), .inl (fun s => oI (ba (lr (wid M 1 0)) (wid M 1 0) (wid M 1 0) s)))) :: (u 2, .inl (g 0, lr (wid M 1 0), .inl (fun r => nI (rsf (lr (wid M 1 0)) (wid M 1 0) r)))) :: (u 1, .inl (g 0, (wid M 1 0), .inl (fun j => nI (if j < wid M 1 0 then cc_ (lr (wid M 1 0)) j else 0)))) :: (u 0, .inr (4, [.int (nI (lr (wid M 1 0))), .ref (u 1), .ref (u 2), .ref (u 3)])) :: (a, .inl (g 3, 1, .inr (.inr (.inr (.inr (fun i => some (u (4 * i)))))))) :: wr)) (A)) [.int (nI M), .int (nI 1)].toArray s 17 788 A = Q
  have hRc : (headSpec w_C_lanesOf rm_C_lanesOf).room.cells = 17 := rfl
  have hRs : (headSpec w_C_lanesOf rm_C_lanesOf).room.slots = 788 := rfl
  refine lv_iload_n hx hb d_C_lanesOf_0 rfl (lv_at hl 1 rfl) ?_
  refine lx_newq (N := 1) hx hb hown (hts _ m_70) hKK.2.1 hK hP hD hS hA (by omega) (Nat.le_of_ble_eq_true rfl) (Nat.le_of_ble_eq_true rfl) d_C_lanesOf_1 (fun qa H hP hD hS => ?_)
  refine W.widen (k := 1) (n := 1) (by omega) (by omega) ?_
  have hP : va_P D vwCl ((qa, .inl (g 3, 1, .inr (.inr (.inr (.inr (fun _ => none)))))) :: wr) H := hP
  have hD : va_D A ((qa, .inl (g 3, 1, .inr (.inr (.inr (.inr (fun _ => none)))))) :: wr) := hD
  refine lv_astore_n (lv' := [(2, .ref qa), (0, .int (nI M)), (1, .int (nI 1))]) hx hb d_C_lanesOf_4 rfl hl (by decide) rfl (fun ls hl => ?_)
  refine lv_iconst (v := nI 0) hx hb d_C_lanesOf_5 (by decide) ?_
  refine lv_istore_n (lv' := [(3, .int (nI 0)), (2, .ref qa), (0, .int (nI M)), (1, .int (nI 1))]) hx hb d_C_lanesOf_6 rfl hl (by decide) rfl (fun ls hl => ?_)
  have hw0 : wid M 1 0 ≤ 57 := wid_le hM57 (by decide)
  refine lv_iload_n hx hb d_C_lanesOf_7 rfl (lv_at hl 0 rfl) ?_
  refine lv_iload_n hx hb d_C_lanesOf_8 rfl (lv_at hl 3 rfl) ?_
  refine lx_icmp_ge (tgt := 37) hx hb d_C_lanesOf_9 (by decide) (by omega) (by omega) (fun c9_0 => ?_) (fun c9_0 => ?_)
  · skip
    exact absurd c9_0 (by decide)
  · skip
    refine lv_aload_n hx hb d_C_lanesOf_12 rfl (lv_at hl 1 rfl) ?_
    refine lv_iload_n hx hb d_C_lanesOf_13 rfl (lv_at hl 0 rfl) ?_
    refine lx_new (ci := 4) (fs := [.int (nI 0), .null, .null, .null]) (C := R_L) (T := F_L) (N := 4) hx hb hts i_L tf_L tf_L_ok hown (hts _ m_70) (hts _ m_72) (hts _ m_33) hK hP hD hS hA rfl (by decide +kernel) (Nat.le_of_ble_eq_true rfl) (Nat.le_of_ble_eq_true rfl) d_C_lanesOf_14 (fun o0 H hP hD hS => ?_)
    refine W.widen (k := 1 + 1) (n := 1 + 4) (by omega) (by omega) ?_
    have hP : va_P D vwCl ((o0, .inr (4, [.int (nI 0), .null, .null, .null])) :: (qa, .inl (g 3, 1, .inr (.inr (.inr (.inr (fun _ => none)))))) :: wr) H := hP
    have hD : va_D A ((o0, .inr (4, [.int (nI 0), .null, .null, .null])) :: (qa, .inl (g 3, 1, .inr (.inr (.inr (.inr (fun _ => none)))))) :: wr) := hD
    refine lv_dup hx hb d_C_lanesOf_17 rfl ?_
    refine lv_iload_n hx hb d_C_lanesOf_18 rfl (lv_at hl 2 rfl) ?_
    refine lv_iload_n hx hb d_C_lanesOf_19 rfl (lv_at hl 0 rfl) ?_
    refine lx_isub (z := nI M - nI 0) hx hb d_C_lanesOf_20 (rfl) ?_
    refine lv_iload_n hx hb d_C_lanesOf_21 rfl (lv_at hl 3 rfl) ?_
    refine lx_iadd (z := nI (M + 1 - 0)) hx hb d_C_lanesOf_22 (xn_sa (by omega)) ?_
    refine lv_iconst (v := nI 1) hx hb d_C_lanesOf_23 (by decide) ?_
    refine lx_isub (z := nI (M + 1 - 0 - 1)) hx hb d_C_lanesOf_24 (pk_sub (by omega)) ?_
    refine lv_iload_n hx hb d_C_lanesOf_25 rfl (lv_at hl 3 rfl) ?_
    refine lx_idiv (z := nI (wid M 1 0)) hx hb d_C_lanesOf_26 (by decide) (pk_div (by omega) (by decide) (by decide)) ?_
    refine lc_Iv (b := o0) (As := [.int (nI (wid M 1 0))]) (rest := [.ref o0, .int (nI 0), .ref qa]) ⟨hx, hb, hml, hown, hts⟩ (c_L_init l D g _ _ o0 (wid M 1 0) hw0) (kI 1 hts m_75 m_73 m_74 m_33 rfl (by decide +kernel) ⟨Nat.le_of_ble_eq_true rfl, Nat.le_of_ble_eq_true rfl⟩) hKK hP hD hS hA hl.1 rfl rfl (Nat.le_of_ble_eq_true rfl) d_C_lanesOf_27 ⟨by first | omega | exact Nat.le_of_ble_eq_true rfl, by first | omega | exact Nat.le_of_ble_eq_true rfl⟩ (fun u0 H locs _ hP hD hS => ?_)
    refine W.widen (k := 1 + 1 + 3) (n := 1 + 4 + 192) (by omega) (by omega) ?_
    have hP : va_P D vwCl ((u0.2.2, .inl (g 0, 2 ^ lr (wid M 1 0), .inl (fun s => oI (ba (lr (wid M 1 0)) (wid M 1 0) (wid M 1 0) s)))) :: (u0.2.1, .inl (g 0, lr (wid M 1 0), .inl (fun r => nI (rsf (lr (wid M 1 0)) (wid M 1 0) r)))) :: (u0.1, .inl (g 0, (wid M 1 0), .inl (fun j => nI (if j < wid M 1 0 then cc_ (lr (wid M 1 0)) j else 0)))) :: (o0, .inr (4, [.int (nI (lr (wid M 1 0))), .ref u0.1, .ref u0.2.1, .ref u0.2.2])) :: (qa, .inl (g 3, 1, .inr (.inr (.inr (.inr (fun _ => none)))))) :: wr) H := hP
    have hD : va_D A ((u0.2.2, .inl (g 0, 2 ^ lr (wid M 1 0), .inl (fun s => oI (ba (lr (wid M 1 0)) (wid M 1 0) (wid M 1 0) s)))) :: (u0.2.1, .inl (g 0, lr (wid M 1 0), .inl (fun r => nI (rsf (lr (wid M 1 0)) (wid M 1 0) r)))) :: (u0.1, .inl (g 0, (wid M 1 0), .inl (fun j => nI (if j < wid M 1 0 then cc_ (lr (wid M 1 0)) j else 0)))) :: (o0, .inr (4, [.int (nI (lr (wid M 1 0))), .ref u0.1, .ref u0.2.1, .ref u0.2.2])) :: (qa, .inl (g 3, 1, .inr (.inr (.inr (.inr (fun _ => none)))))) :: wr) := hD
    refine lx_aast (f' := va_up (fun _ => none) 0 (some o0)) hx hb hK hP hD hS 4 3 3 4 rfl rfl rfl rfl (j := 0) (by omega) (by omega) (rfl) d_C_lanesOf_30 (fun H locs hP hD hS => ?_)
    have hP : va_P D vwCl ((u0.2.2, .inl (g 0, 2 ^ lr (wid M 1 0), .inl (fun s => oI (ba (lr (wid M 1 0)) (wid M 1 0) (wid M 1 0) s)))) :: (u0.2.1, .inl (g 0, lr (wid M 1 0), .inl (fun r => nI (rsf (lr (wid M 1 0)) (wid M 1 0) r)))) :: (u0.1, .inl (g 0, (wid M 1 0), .inl (fun j => nI (if j < wid M 1 0 then cc_ (lr (wid M 1 0)) j else 0)))) :: (o0, .inr (4, [.int (nI (lr (wid M 1 0))), .ref u0.1, .ref u0.2.1, .ref u0.2.2])) :: (qa, .inl (g 3, 1, .inr (.inr (.inr (.inr (va_up (fun _ => none) 0 (some o0))))))) :: wr) H := hP
    have hD : va_D A ((u0.2.2, .inl (g 0, 2 ^ lr (wid M 1 0), .inl (fun s => oI (ba (lr (wid M 1 0)) (wid M 1 0) (wid M 1 0) s)))) :: (u0.2.1, .inl (g 0, lr (wid M 1 0), .inl (fun r => nI (rsf (lr (wid M 1 0)) (wid M 1 0) r)))) :: (u0.1, .inl (g 0, (wid M 1 0), .inl (fun j => nI (if j < wid M 1 0 then cc_ (lr (wid M 1 0)) j else 0)))) :: (o0, .inr (4, [.int (nI (lr (wid M 1 0))), .ref u0.1, .ref u0.2.1, .ref u0.2.2])) :: (qa, .inl (g 3, 1, .inr (.inr (.inr (.inr (va_up (fun _ => none) 0 (some o0))))))) :: wr) := hD
    refine lv_iinc (v := nI 1) (lv' := [(3, .int (nI 1)), (2, .ref qa), (0, .int (nI M)), (1, .int (nI 1))]) hx hb d_C_lanesOf_31 hl (k := 0) rfl (by decide) (by decide) rfl (fun ls hl => ?_)
    refine lv_goto (tgt := 7) hx hb d_C_lanesOf_34 (by decide) ?_
    refine lv_iload_n hx hb d_C_lanesOf_7 rfl (lv_at hl 0 rfl) ?_
    refine lv_iload_n hx hb d_C_lanesOf_8 rfl (lv_at hl 3 rfl) ?_
    refine lx_icmp_ge (tgt := 37) hx hb d_C_lanesOf_9 (by decide) (by omega) (by omega) (fun c9_1 => ?_) (fun c9_1 => ?_)
    · skip
      have hP : va_P D vwCl ((u0.2.2, .inl (g 0, 2 ^ lr (wid M 1 0), .inl (fun s => oI (ba (lr (wid M 1 0)) (wid M 1 0) (wid M 1 0) s)))) :: (u0.2.1, .inl (g 0, lr (wid M 1 0), .inl (fun r => nI (rsf (lr (wid M 1 0)) (wid M 1 0) r)))) :: (u0.1, .inl (g 0, (wid M 1 0), .inl (fun j => nI (if j < wid M 1 0 then cc_ (lr (wid M 1 0)) j else 0)))) :: (o0, .inr (4, [.int (nI (lr (wid M 1 0))), .ref u0.1, .ref u0.2.1, .ref u0.2.2])) :: (qa, .inl (g 3, 1, .inr (.inr (.inr (.inr (fun i => some ((fun k => ([o0, u0.1, u0.2.1, u0.2.2] : List Nat).getD k 0) (4 * i)))))))) :: wr) H := wp_atq 4 hP rfl (fun j hj => by obtain rfl : j = 0 := (by omega); rfl)
      have hD : va_D A ((u0.2.2, .inl (g 0, 2 ^ lr (wid M 1 0), .inl (fun s => oI (ba (lr (wid M 1 0)) (wid M 1 0) (wid M 1 0) s)))) :: (u0.2.1, .inl (g 0, lr (wid M 1 0), .inl (fun r => nI (rsf (lr (wid M 1 0)) (wid M 1 0) r)))) :: (u0.1, .inl (g 0, (wid M 1 0), .inl (fun j => nI (if j < wid M 1 0 then cc_ (lr (wid M 1 0)) j else 0)))) :: (o0, .inr (4, [.int (nI (lr (wid M 1 0))), .ref u0.1, .ref u0.2.1, .ref u0.2.2])) :: (qa, .inl (g 3, 1, .inr (.inr (.inr (.inr (fun i => some ((fun k => ([o0, u0.1, u0.2.1, u0.2.2] : List Nat).getD k 0) (4 * i)))))))) :: wr) := hD.set (p := 4) rfl
      refine lv_aload_n hx hb d_C_lanesOf_37 rfl (lv_at hl 1 rfl) ?_
      refine W.widen (k := 17) (n := 788) (by omega) (by omega) ?_
      rw [← hQ]
      refine W.aret (v := .ref qa) hx hb hr (by first | exact Or.inl ⟨_, rfl⟩ | exact Or.inr ⟨_, rfl⟩) (Or.inr ⟨_, rfl⟩) ?_ hS.2.2 d_C_lanesOf_38
      exact fun t ht hW => ⟨⟨(fun k => ([o0, u0.1, u0.2.1, u0.2.2] : List Nat).getD k 0), qa, rfl, trivial, by rw [ht]; exact hP, hD⟩, hS.F ht⟩
    · skip
      exact absurd c9_1 (by decide)
set_option maxHeartbeats 4000000 in
set_option maxRecDepth 100000 in
theorem c_C_lanesOf_4 (l : Launch) (D : va_G) (g : Nat → ClassId) (sz : Nat) (wr : va_W) (M : Nat) (hM : 0 < M) (hM57 : M ≤ 57) : Met l y_C_lanesOf w_C_lanesOf rm_C_lanesOf (va_Pc [.int (nI M), .int (nI 4)] (pP D (tyl g) (wr) sz)) (va_Qr (fun (u : (Nat → Nat)) => True) (fun u (a : Nat) => qB D (va_A (wr) sz) ((u 15, .inl (g 0, 2 ^ lr (wid M 4 3), .inl (fun s => oI (ba (lr (wid M 4 3)) (wid M 4 3) (wid M 4 3) s)))) :: (u 14, .inl (g 0, lr (wid M 4 3), .inl (fun r => nI (rsf (lr (wid M 4 3)) (wid M 4 3) r)))) :: (u 13, .inl (g 0, (wid M 4 3), .inl (fun j => nI (if j < wid M 4 3 then cc_ (lr (wid M 4 3)) j else 0)))) :: (u 12, .inr (4, [.int (nI (lr (wid M 4 3))), .ref (u 13), .ref (u 14), .ref (u 15)])) :: (u 11, .inl (g 0, 2 ^ lr (wid M 4 2), .inl (fun s => oI (ba (lr (wid M 4 2)) (wid M 4 2) (wid M 4 2) s)))) :: (u 10, .inl (g 0, lr (wid M 4 2), .inl (fun r => nI (rsf (lr (wid M 4 2)) (wid M 4 2) r)))) :: (u 9, .inl (g 0, (wid M 4 2), .inl (fun j => nI (if j < wid M 4 2 then cc_ (lr (wid M 4 2)) j else 0)))) :: (u 8, .inr (4, [.int (nI (lr (wid M 4 2))), .ref (u 9), .ref (u 10), .ref (u 11)])) :: (u 7, .inl (g 0, 2 ^ lr (wid M 4 1), .inl (fun s => oI (ba (lr (wid M 4 1)) (wid M 4 1) (wid M 4 1) s)))) :: (u 6, .inl (g 0, lr (wid M 4 1), .inl (fun r => nI (rsf (lr (wid M 4 1)) (wid M 4 1) r)))) :: (u 5, .inl (g 0, (wid M 4 1), .inl (fun j => nI (if j < wid M 4 1 then cc_ (lr (wid M 4 1)) j else 0)))) :: (u 4, .inr (4, [.int (nI (lr (wid M 4 1))), .ref (u 5), .ref (u 6), .ref (u 7)])) :: (u 3, .inl (g 0, 2 ^ lr (wid M 4 0), .inl (fun s => oI (ba (lr (wid M 4 0)) (wid M 4 0) (wid M 4 0) s)))) :: (u 2, .inl (g 0, lr (wid M 4 0), .inl (fun r => nI (rsf (lr (wid M 4 0)) (wid M 4 0) r)))) :: (u 1, .inl (g 0, (wid M 4 0), .inl (fun j => nI (if j < wid M 4 0 then cc_ (lr (wid M 4 0)) j else 0)))) :: (u 0, .inr (4, [.int (nI (lr (wid M 4 0))), .ref (u 1), .ref (u 2), .ref (u 3)])) :: (a, .inl (g 3, 4, .inr (.inr (.inr (.inr (fun i => some (u (4 * i)))))))) :: wr)) (va_A (wr) sz)) 17 788 (va_A (wr) sz) := by
  refine Met.ofW (cc := b_C_lanesOf) (maxL := 4) (ret := (some (.array (.object "CheckCodes$Lane")))) (by decide +kernel) rfl ?_
  intro p e s m args below meth c s₁ Bq hml hv
  have hx := Bq.exec
  have hb := Bq.bytes
  have hr := Bq.returns
  have hts : ∀ w ∈ wA, w.before args s = true := fun w h => atoms_spec (ws := w_C_lanesOf) Bq.pre w (List.mem_cons_of_mem _ h)
  have hown : s.vm.findClass R_C = some m.cls := findClass_of_methodNamed Bq.named
  have hlocks := Bq.notSynchronized
  obtain ⟨rfl, hsz, hP, hKK, hD0⟩ := hv
  have hK := hKK.1
  subst hsz
  have hD := hD0.self (sz := s.heap.size)
  generalize hAe : va_A (wr) s.heap.size = A at hD ⊢
  have hA : ∀ q : Nat, s.heap.size ≤ q → A q := fun q h => by rw [← hAe]; exact Or.inr h
  have hS : va_S A s.heap s.heap [] := va_S.rf
  have hl := lv_entry ([.int (nI M), .int (nI 4)]) (n := 4) (Nat.le_of_ble_eq_true rfl)
  rw [lg_entry_eq]
  generalize (lg_sl ([.int (nI M), .int (nI 4)]) ++ List.replicate (4 - (lg_sl ([.int (nI M), .int (nI 4)])).length) Slot.unset).toArray = ls at hl ⊢
  have hl : lv_has ls 4 [(0, .int (nI M)), (1, .int (nI 4))] := hl
  generalize hQ : MQ below (va_Qr (fun (u : (Nat → Nat)) => True) (fun u (a : Nat) => qB D (A) ((u 15, .inl (g 0, 2 ^ lr (wid M 4 3), .inl (fun s => oI (ba (lr (wid M 4 3)) (wid M 4 3) (wid M 4 3) s)))) :: (u 14, .inl (g 0, lr (wid M 4 3), .inl (fun r => nI (rsf (lr (wid M 4 3)) (wid M 4 3) r)))) :: (u 13, .inl (g 0, (wid M 4 3), .inl (fun j => nI (if j < wid M 4 3 then cc_ (lr (wid M 4 3)) j else 0)))) :: (u 12, .inr (4, [.int (nI (lr (wid M 4 3))), .ref (u 13), .ref (u 14), .ref (u 15)])) :: (u 11, .inl (g 0, 2 ^ lr (wid M 4 2), .inl (fun s => oI (ba (lr (wid M 4 2)) (wid M 4 2) (wid M 4 2) s)))) :: (u 10, .inl (g 0, lr (wid M 4 2), .inl (fun r => nI (rsf (lr (wid M 4 2)) (wid M 4 2) r)))) :: (u 9, .inl (g 0, (wid M 4 2), .inl (fun j => nI (if j < wid M 4 2 then cc_ (lr (wid M 4 2)) j else 0)))) :: (u 8, .inr (4, [.int (nI (lr (wid M 4 2))), .ref (u 9), .ref (u 10), .ref (u 11)])) :: (u 7, .inl (g 0, 2 ^ lr (wid M 4 1), .inl (fun s => oI (ba (lr (wid M 4 1)) (wid M 4 1) (wid M 4 1) s)))) :: (u 6, .inl (g 0, lr (wid M 4 1), .inl (fun r => nI (rsf (lr (wid M 4 1)) (wid M 4 1) r)))) :: (u 5, .inl (g 0, (wid M 4 1), .inl (fun j => nI (if j < wid M 4 1 then cc_ (lr (wid M 4 1)) j else 0)))) :: (u 4, .inr (4, [.int (nI (lr (wid M 4 1))), .ref (u 5), .ref (u 6), .ref (u 7)])) :: (u 3, .inl (g 0, 2 ^ lr (wid M 4 0), .inl (fun s => oI (ba (lr (wid M 4 0)) (wid M 4 0) (wid M 4 0) s)))) :: (u 2, .inl (g 0, lr (wid M 4 0), .inl (fun r => nI (rsf (lr (wid M 4 0)) (wid M 4 0) r)))) :: (u 1, .inl (g 0, (wid M 4 0), .inl (fun j => nI (if j < wid M 4 0 then cc_ (lr (wid M 4 0)) j else 0)))) :: (u 0, .inr (4, [.int (nI (lr (wid M 4 0))), .ref (u 1), .ref (u 2), .ref (u 3)])) :: (a, .inl (g 3, 4, .inr (.inr (.inr (.inr (fun i => some (u (4 * i)))))))) :: wr)) (A)) [.int (nI M), .int (nI 4)].toArray s 17 788 A = Q
  have hRc : (headSpec w_C_lanesOf rm_C_lanesOf).room.cells = 17 := rfl
  have hRs : (headSpec w_C_lanesOf rm_C_lanesOf).room.slots = 788 := rfl
  refine lv_iload_n hx hb d_C_lanesOf_0 rfl (lv_at hl 1 rfl) ?_
  refine lx_newq (N := 4) hx hb hown (hts _ m_70) hKK.2.1 hK hP hD hS hA (by omega) (Nat.le_of_ble_eq_true rfl) (Nat.le_of_ble_eq_true rfl) d_C_lanesOf_1 (fun qa H hP hD hS => ?_)
  refine W.widen (k := 1) (n := 4) (by omega) (by omega) ?_
  have hP : va_P D vwCl ((qa, .inl (g 3, 4, .inr (.inr (.inr (.inr (fun _ => none)))))) :: wr) H := hP
  have hD : va_D A ((qa, .inl (g 3, 4, .inr (.inr (.inr (.inr (fun _ => none)))))) :: wr) := hD
  refine lv_astore_n (lv' := [(2, .ref qa), (0, .int (nI M)), (1, .int (nI 4))]) hx hb d_C_lanesOf_4 rfl hl (by decide) rfl (fun ls hl => ?_)
  refine lv_iconst (v := nI 0) hx hb d_C_lanesOf_5 (by decide) ?_
  refine lv_istore_n (lv' := [(3, .int (nI 0)), (2, .ref qa), (0, .int (nI M)), (1, .int (nI 4))]) hx hb d_C_lanesOf_6 rfl hl (by decide) rfl (fun ls hl => ?_)
  have hw0 : wid M 4 0 ≤ 57 := wid_le hM57 (by decide)
  refine lv_iload_n hx hb d_C_lanesOf_7 rfl (lv_at hl 0 rfl) ?_
  refine lv_iload_n hx hb d_C_lanesOf_8 rfl (lv_at hl 3 rfl) ?_
  refine lx_icmp_ge (tgt := 37) hx hb d_C_lanesOf_9 (by decide) (by omega) (by omega) (fun c9_0 => ?_) (fun c9_0 => ?_)
  · skip
    exact absurd c9_0 (by decide)
  · skip
    refine lv_aload_n hx hb d_C_lanesOf_12 rfl (lv_at hl 1 rfl) ?_
    refine lv_iload_n hx hb d_C_lanesOf_13 rfl (lv_at hl 0 rfl) ?_
    refine lx_new (ci := 4) (fs := [.int (nI 0), .null, .null, .null]) (C := R_L) (T := F_L) (N := 4) hx hb hts i_L tf_L tf_L_ok hown (hts _ m_70) (hts _ m_72) (hts _ m_33) hK hP hD hS hA rfl (by decide +kernel) (Nat.le_of_ble_eq_true rfl) (Nat.le_of_ble_eq_true rfl) d_C_lanesOf_14 (fun o0 H hP hD hS => ?_)
    refine W.widen (k := 1 + 1) (n := 4 + 4) (by omega) (by omega) ?_
    have hP : va_P D vwCl ((o0, .inr (4, [.int (nI 0), .null, .null, .null])) :: (qa, .inl (g 3, 4, .inr (.inr (.inr (.inr (fun _ => none)))))) :: wr) H := hP
    have hD : va_D A ((o0, .inr (4, [.int (nI 0), .null, .null, .null])) :: (qa, .inl (g 3, 4, .inr (.inr (.inr (.inr (fun _ => none)))))) :: wr) := hD
    refine lv_dup hx hb d_C_lanesOf_17 rfl ?_
    refine lv_iload_n hx hb d_C_lanesOf_18 rfl (lv_at hl 2 rfl) ?_
    refine lv_iload_n hx hb d_C_lanesOf_19 rfl (lv_at hl 0 rfl) ?_
    refine lx_isub (z := nI M - nI 0) hx hb d_C_lanesOf_20 (rfl) ?_
    refine lv_iload_n hx hb d_C_lanesOf_21 rfl (lv_at hl 3 rfl) ?_
    refine lx_iadd (z := nI (M + 4 - 0)) hx hb d_C_lanesOf_22 (xn_sa (by omega)) ?_
    refine lv_iconst (v := nI 1) hx hb d_C_lanesOf_23 (by decide) ?_
    refine lx_isub (z := nI (M + 4 - 0 - 1)) hx hb d_C_lanesOf_24 (pk_sub (by omega)) ?_
    refine lv_iload_n hx hb d_C_lanesOf_25 rfl (lv_at hl 3 rfl) ?_
    refine lx_idiv (z := nI (wid M 4 0)) hx hb d_C_lanesOf_26 (by decide) (pk_div (by omega) (by decide) (by decide)) ?_
    refine lc_Iv (b := o0) (As := [.int (nI (wid M 4 0))]) (rest := [.ref o0, .int (nI 0), .ref qa]) ⟨hx, hb, hml, hown, hts⟩ (c_L_init l D g _ _ o0 (wid M 4 0) hw0) (kI 1 hts m_75 m_73 m_74 m_33 rfl (by decide +kernel) ⟨Nat.le_of_ble_eq_true rfl, Nat.le_of_ble_eq_true rfl⟩) hKK hP hD hS hA hl.1 rfl rfl (Nat.le_of_ble_eq_true rfl) d_C_lanesOf_27 ⟨by first | omega | exact Nat.le_of_ble_eq_true rfl, by first | omega | exact Nat.le_of_ble_eq_true rfl⟩ (fun u0 H locs _ hP hD hS => ?_)
    refine W.widen (k := 1 + 1 + 3) (n := 4 + 4 + 192) (by omega) (by omega) ?_
    have hP : va_P D vwCl ((u0.2.2, .inl (g 0, 2 ^ lr (wid M 4 0), .inl (fun s => oI (ba (lr (wid M 4 0)) (wid M 4 0) (wid M 4 0) s)))) :: (u0.2.1, .inl (g 0, lr (wid M 4 0), .inl (fun r => nI (rsf (lr (wid M 4 0)) (wid M 4 0) r)))) :: (u0.1, .inl (g 0, (wid M 4 0), .inl (fun j => nI (if j < wid M 4 0 then cc_ (lr (wid M 4 0)) j else 0)))) :: (o0, .inr (4, [.int (nI (lr (wid M 4 0))), .ref u0.1, .ref u0.2.1, .ref u0.2.2])) :: (qa, .inl (g 3, 4, .inr (.inr (.inr (.inr (fun _ => none)))))) :: wr) H := hP
    have hD : va_D A ((u0.2.2, .inl (g 0, 2 ^ lr (wid M 4 0), .inl (fun s => oI (ba (lr (wid M 4 0)) (wid M 4 0) (wid M 4 0) s)))) :: (u0.2.1, .inl (g 0, lr (wid M 4 0), .inl (fun r => nI (rsf (lr (wid M 4 0)) (wid M 4 0) r)))) :: (u0.1, .inl (g 0, (wid M 4 0), .inl (fun j => nI (if j < wid M 4 0 then cc_ (lr (wid M 4 0)) j else 0)))) :: (o0, .inr (4, [.int (nI (lr (wid M 4 0))), .ref u0.1, .ref u0.2.1, .ref u0.2.2])) :: (qa, .inl (g 3, 4, .inr (.inr (.inr (.inr (fun _ => none)))))) :: wr) := hD
    refine lx_aast (f' := va_up (fun _ => none) 0 (some o0)) hx hb hK hP hD hS 4 3 3 4 rfl rfl rfl rfl (j := 0) (by omega) (by omega) (rfl) d_C_lanesOf_30 (fun H locs hP hD hS => ?_)
    have hP : va_P D vwCl ((u0.2.2, .inl (g 0, 2 ^ lr (wid M 4 0), .inl (fun s => oI (ba (lr (wid M 4 0)) (wid M 4 0) (wid M 4 0) s)))) :: (u0.2.1, .inl (g 0, lr (wid M 4 0), .inl (fun r => nI (rsf (lr (wid M 4 0)) (wid M 4 0) r)))) :: (u0.1, .inl (g 0, (wid M 4 0), .inl (fun j => nI (if j < wid M 4 0 then cc_ (lr (wid M 4 0)) j else 0)))) :: (o0, .inr (4, [.int (nI (lr (wid M 4 0))), .ref u0.1, .ref u0.2.1, .ref u0.2.2])) :: (qa, .inl (g 3, 4, .inr (.inr (.inr (.inr (va_up (fun _ => none) 0 (some o0))))))) :: wr) H := hP
    have hD : va_D A ((u0.2.2, .inl (g 0, 2 ^ lr (wid M 4 0), .inl (fun s => oI (ba (lr (wid M 4 0)) (wid M 4 0) (wid M 4 0) s)))) :: (u0.2.1, .inl (g 0, lr (wid M 4 0), .inl (fun r => nI (rsf (lr (wid M 4 0)) (wid M 4 0) r)))) :: (u0.1, .inl (g 0, (wid M 4 0), .inl (fun j => nI (if j < wid M 4 0 then cc_ (lr (wid M 4 0)) j else 0)))) :: (o0, .inr (4, [.int (nI (lr (wid M 4 0))), .ref u0.1, .ref u0.2.1, .ref u0.2.2])) :: (qa, .inl (g 3, 4, .inr (.inr (.inr (.inr (va_up (fun _ => none) 0 (some o0))))))) :: wr) := hD
    refine lv_iinc (v := nI 1) (lv' := [(3, .int (nI 1)), (2, .ref qa), (0, .int (nI M)), (1, .int (nI 4))]) hx hb d_C_lanesOf_31 hl (k := 0) rfl (by decide) (by decide) rfl (fun ls hl => ?_)
    refine lv_goto (tgt := 7) hx hb d_C_lanesOf_34 (by decide) ?_
    have hw1 : wid M 4 1 ≤ 57 := wid_le hM57 (by decide)
    refine lv_iload_n hx hb d_C_lanesOf_7 rfl (lv_at hl 0 rfl) ?_
    refine lv_iload_n hx hb d_C_lanesOf_8 rfl (lv_at hl 3 rfl) ?_
    refine lx_icmp_ge (tgt := 37) hx hb d_C_lanesOf_9 (by decide) (by omega) (by omega) (fun c9_1 => ?_) (fun c9_1 => ?_)
    · skip
      exact absurd c9_1 (by decide)
    · skip
      refine lv_aload_n hx hb d_C_lanesOf_12 rfl (lv_at hl 1 rfl) ?_
      refine lv_iload_n hx hb d_C_lanesOf_13 rfl (lv_at hl 0 rfl) ?_
      refine lx_new (ci := 4) (fs := [.int (nI 0), .null, .null, .null]) (C := R_L) (T := F_L) (N := 4) hx hb hts i_L tf_L tf_L_ok hown (hts _ m_70) (hts _ m_72) (hts _ m_33) hK hP hD hS hA rfl (by decide +kernel) (by first | omega | exact Nat.le_of_ble_eq_true rfl) (by first | omega | exact Nat.le_of_ble_eq_true rfl) d_C_lanesOf_14 (fun o1 H hP hD hS => ?_)
      refine W.widen (k := 1 + 1 + 3 + 1) (n := 4 + 4 + 192 + 4) (by omega) (by omega) ?_
      have hP : va_P D vwCl ((o1, .inr (4, [.int (nI 0), .null, .null, .null])) :: (u0.2.2, .inl (g 0, 2 ^ lr (wid M 4 0), .inl (fun s => oI (ba (lr (wid M 4 0)) (wid M 4 0) (wid M 4 0) s)))) :: (u0.2.1, .inl (g 0, lr (wid M 4 0), .inl (fun r => nI (rsf (lr (wid M 4 0)) (wid M 4 0) r)))) :: (u0.1, .inl (g 0, (wid M 4 0), .inl (fun j => nI (if j < wid M 4 0 then cc_ (lr (wid M 4 0)) j else 0)))) :: (o0, .inr (4, [.int (nI (lr (wid M 4 0))), .ref u0.1, .ref u0.2.1, .ref u0.2.2])) :: (qa, .inl (g 3, 4, .inr (.inr (.inr (.inr (va_up (fun _ => none) 0 (some o0))))))) :: wr) H := hP
      have hD : va_D A ((o1, .inr (4, [.int (nI 0), .null, .null, .null])) :: (u0.2.2, .inl (g 0, 2 ^ lr (wid M 4 0), .inl (fun s => oI (ba (lr (wid M 4 0)) (wid M 4 0) (wid M 4 0) s)))) :: (u0.2.1, .inl (g 0, lr (wid M 4 0), .inl (fun r => nI (rsf (lr (wid M 4 0)) (wid M 4 0) r)))) :: (u0.1, .inl (g 0, (wid M 4 0), .inl (fun j => nI (if j < wid M 4 0 then cc_ (lr (wid M 4 0)) j else 0)))) :: (o0, .inr (4, [.int (nI (lr (wid M 4 0))), .ref u0.1, .ref u0.2.1, .ref u0.2.2])) :: (qa, .inl (g 3, 4, .inr (.inr (.inr (.inr (va_up (fun _ => none) 0 (some o0))))))) :: wr) := hD
      refine lv_dup hx hb d_C_lanesOf_17 rfl ?_
      refine lv_iload_n hx hb d_C_lanesOf_18 rfl (lv_at hl 2 rfl) ?_
      refine lv_iload_n hx hb d_C_lanesOf_19 rfl (lv_at hl 0 rfl) ?_
      refine lx_isub (z := nI M - nI 1) hx hb d_C_lanesOf_20 (rfl) ?_
      refine lv_iload_n hx hb d_C_lanesOf_21 rfl (lv_at hl 3 rfl) ?_
      refine lx_iadd (z := nI (M + 4 - 1)) hx hb d_C_lanesOf_22 (xn_sa (by omega)) ?_
      refine lv_iconst (v := nI 1) hx hb d_C_lanesOf_23 (by decide) ?_
      refine lx_isub (z := nI (M + 4 - 1 - 1)) hx hb d_C_lanesOf_24 (pk_sub (by omega)) ?_
      refine lv_iload_n hx hb d_C_lanesOf_25 rfl (lv_at hl 3 rfl) ?_
      refine lx_idiv (z := nI (wid M 4 1)) hx hb d_C_lanesOf_26 (by decide) (pk_div (by omega) (by decide) (by decide)) ?_
      refine lc_Iv (b := o1) (As := [.int (nI (wid M 4 1))]) (rest := [.ref o1, .int (nI 1), .ref qa]) ⟨hx, hb, hml, hown, hts⟩ (c_L_init l D g _ _ o1 (wid M 4 1) hw1) (kI 1 hts m_75 m_73 m_74 m_33 rfl (by decide +kernel) ⟨Nat.le_of_ble_eq_true rfl, Nat.le_of_ble_eq_true rfl⟩) hKK hP hD hS hA hl.1 rfl rfl (Nat.le_of_ble_eq_true rfl) d_C_lanesOf_27 ⟨by first | omega | exact Nat.le_of_ble_eq_true rfl, by first | omega | exact Nat.le_of_ble_eq_true rfl⟩ (fun u1 H locs _ hP hD hS => ?_)
      refine W.widen (k := 1 + 1 + 3 + 1 + 3) (n := 4 + 4 + 192 + 4 + 192) (by omega) (by omega) ?_
      have hP : va_P D vwCl ((u1.2.2, .inl (g 0, 2 ^ lr (wid M 4 1), .inl (fun s => oI (ba (lr (wid M 4 1)) (wid M 4 1) (wid M 4 1) s)))) :: (u1.2.1, .inl (g 0, lr (wid M 4 1), .inl (fun r => nI (rsf (lr (wid M 4 1)) (wid M 4 1) r)))) :: (u1.1, .inl (g 0, (wid M 4 1), .inl (fun j => nI (if j < wid M 4 1 then cc_ (lr (wid M 4 1)) j else 0)))) :: (o1, .inr (4, [.int (nI (lr (wid M 4 1))), .ref u1.1, .ref u1.2.1, .ref u1.2.2])) :: (u0.2.2, .inl (g 0, 2 ^ lr (wid M 4 0), .inl (fun s => oI (ba (lr (wid M 4 0)) (wid M 4 0) (wid M 4 0) s)))) :: (u0.2.1, .inl (g 0, lr (wid M 4 0), .inl (fun r => nI (rsf (lr (wid M 4 0)) (wid M 4 0) r)))) :: (u0.1, .inl (g 0, (wid M 4 0), .inl (fun j => nI (if j < wid M 4 0 then cc_ (lr (wid M 4 0)) j else 0)))) :: (o0, .inr (4, [.int (nI (lr (wid M 4 0))), .ref u0.1, .ref u0.2.1, .ref u0.2.2])) :: (qa, .inl (g 3, 4, .inr (.inr (.inr (.inr (va_up (fun _ => none) 0 (some o0))))))) :: wr) H := hP
      have hD : va_D A ((u1.2.2, .inl (g 0, 2 ^ lr (wid M 4 1), .inl (fun s => oI (ba (lr (wid M 4 1)) (wid M 4 1) (wid M 4 1) s)))) :: (u1.2.1, .inl (g 0, lr (wid M 4 1), .inl (fun r => nI (rsf (lr (wid M 4 1)) (wid M 4 1) r)))) :: (u1.1, .inl (g 0, (wid M 4 1), .inl (fun j => nI (if j < wid M 4 1 then cc_ (lr (wid M 4 1)) j else 0)))) :: (o1, .inr (4, [.int (nI (lr (wid M 4 1))), .ref u1.1, .ref u1.2.1, .ref u1.2.2])) :: (u0.2.2, .inl (g 0, 2 ^ lr (wid M 4 0), .inl (fun s => oI (ba (lr (wid M 4 0)) (wid M 4 0) (wid M 4 0) s)))) :: (u0.2.1, .inl (g 0, lr (wid M 4 0), .inl (fun r => nI (rsf (lr (wid M 4 0)) (wid M 4 0) r)))) :: (u0.1, .inl (g 0, (wid M 4 0), .inl (fun j => nI (if j < wid M 4 0 then cc_ (lr (wid M 4 0)) j else 0)))) :: (o0, .inr (4, [.int (nI (lr (wid M 4 0))), .ref u0.1, .ref u0.2.1, .ref u0.2.2])) :: (qa, .inl (g 3, 4, .inr (.inr (.inr (.inr (va_up (fun _ => none) 0 (some o0))))))) :: wr) := hD
      refine lx_aast (f' := va_up (va_up (fun _ => none) 0 (some o0)) 1 (some o1)) hx hb hK hP hD hS 8 3 3 4 rfl rfl rfl rfl (j := 1) (by omega) (by omega) (rfl) d_C_lanesOf_30 (fun H locs hP hD hS => ?_)
      have hP : va_P D vwCl ((u1.2.2, .inl (g 0, 2 ^ lr (wid M 4 1), .inl (fun s => oI (ba (lr (wid M 4 1)) (wid M 4 1) (wid M 4 1) s)))) :: (u1.2.1, .inl (g 0, lr (wid M 4 1), .inl (fun r => nI (rsf (lr (wid M 4 1)) (wid M 4 1) r)))) :: (u1.1, .inl (g 0, (wid M 4 1), .inl (fun j => nI (if j < wid M 4 1 then cc_ (lr (wid M 4 1)) j else 0)))) :: (o1, .inr (4, [.int (nI (lr (wid M 4 1))), .ref u1.1, .ref u1.2.1, .ref u1.2.2])) :: (u0.2.2, .inl (g 0, 2 ^ lr (wid M 4 0), .inl (fun s => oI (ba (lr (wid M 4 0)) (wid M 4 0) (wid M 4 0) s)))) :: (u0.2.1, .inl (g 0, lr (wid M 4 0), .inl (fun r => nI (rsf (lr (wid M 4 0)) (wid M 4 0) r)))) :: (u0.1, .inl (g 0, (wid M 4 0), .inl (fun j => nI (if j < wid M 4 0 then cc_ (lr (wid M 4 0)) j else 0)))) :: (o0, .inr (4, [.int (nI (lr (wid M 4 0))), .ref u0.1, .ref u0.2.1, .ref u0.2.2])) :: (qa, .inl (g 3, 4, .inr (.inr (.inr (.inr (va_up (va_up (fun _ => none) 0 (some o0)) 1 (some o1))))))) :: wr) H := hP
      have hD : va_D A ((u1.2.2, .inl (g 0, 2 ^ lr (wid M 4 1), .inl (fun s => oI (ba (lr (wid M 4 1)) (wid M 4 1) (wid M 4 1) s)))) :: (u1.2.1, .inl (g 0, lr (wid M 4 1), .inl (fun r => nI (rsf (lr (wid M 4 1)) (wid M 4 1) r)))) :: (u1.1, .inl (g 0, (wid M 4 1), .inl (fun j => nI (if j < wid M 4 1 then cc_ (lr (wid M 4 1)) j else 0)))) :: (o1, .inr (4, [.int (nI (lr (wid M 4 1))), .ref u1.1, .ref u1.2.1, .ref u1.2.2])) :: (u0.2.2, .inl (g 0, 2 ^ lr (wid M 4 0), .inl (fun s => oI (ba (lr (wid M 4 0)) (wid M 4 0) (wid M 4 0) s)))) :: (u0.2.1, .inl (g 0, lr (wid M 4 0), .inl (fun r => nI (rsf (lr (wid M 4 0)) (wid M 4 0) r)))) :: (u0.1, .inl (g 0, (wid M 4 0), .inl (fun j => nI (if j < wid M 4 0 then cc_ (lr (wid M 4 0)) j else 0)))) :: (o0, .inr (4, [.int (nI (lr (wid M 4 0))), .ref u0.1, .ref u0.2.1, .ref u0.2.2])) :: (qa, .inl (g 3, 4, .inr (.inr (.inr (.inr (va_up (va_up (fun _ => none) 0 (some o0)) 1 (some o1))))))) :: wr) := hD
      refine lv_iinc (v := nI 2) (lv' := [(3, .int (nI 2)), (2, .ref qa), (0, .int (nI M)), (1, .int (nI 4))]) hx hb d_C_lanesOf_31 hl (k := 0) rfl (by decide) (by decide) rfl (fun ls hl => ?_)
      refine lv_goto (tgt := 7) hx hb d_C_lanesOf_34 (by decide) ?_
      have hw2 : wid M 4 2 ≤ 57 := wid_le hM57 (by decide)
      refine lv_iload_n hx hb d_C_lanesOf_7 rfl (lv_at hl 0 rfl) ?_
      refine lv_iload_n hx hb d_C_lanesOf_8 rfl (lv_at hl 3 rfl) ?_
      refine lx_icmp_ge (tgt := 37) hx hb d_C_lanesOf_9 (by decide) (by omega) (by omega) (fun c9_2 => ?_) (fun c9_2 => ?_)
      · skip
        exact absurd c9_2 (by decide)
      · skip
        refine lv_aload_n hx hb d_C_lanesOf_12 rfl (lv_at hl 1 rfl) ?_
        refine lv_iload_n hx hb d_C_lanesOf_13 rfl (lv_at hl 0 rfl) ?_
        refine lx_new (ci := 4) (fs := [.int (nI 0), .null, .null, .null]) (C := R_L) (T := F_L) (N := 4) hx hb hts i_L tf_L tf_L_ok hown (hts _ m_70) (hts _ m_72) (hts _ m_33) hK hP hD hS hA rfl (by decide +kernel) (by first | omega | exact Nat.le_of_ble_eq_true rfl) (by first | omega | exact Nat.le_of_ble_eq_true rfl) d_C_lanesOf_14 (fun o2 H hP hD hS => ?_)
        refine W.widen (k := 1 + 1 + 3 + 1 + 3 + 1) (n := 4 + 4 + 192 + 4 + 192 + 4) (by omega) (by omega) ?_
        have hP : va_P D vwCl ((o2, .inr (4, [.int (nI 0), .null, .null, .null])) :: (u1.2.2, .inl (g 0, 2 ^ lr (wid M 4 1), .inl (fun s => oI (ba (lr (wid M 4 1)) (wid M 4 1) (wid M 4 1) s)))) :: (u1.2.1, .inl (g 0, lr (wid M 4 1), .inl (fun r => nI (rsf (lr (wid M 4 1)) (wid M 4 1) r)))) :: (u1.1, .inl (g 0, (wid M 4 1), .inl (fun j => nI (if j < wid M 4 1 then cc_ (lr (wid M 4 1)) j else 0)))) :: (o1, .inr (4, [.int (nI (lr (wid M 4 1))), .ref u1.1, .ref u1.2.1, .ref u1.2.2])) :: (u0.2.2, .inl (g 0, 2 ^ lr (wid M 4 0), .inl (fun s => oI (ba (lr (wid M 4 0)) (wid M 4 0) (wid M 4 0) s)))) :: (u0.2.1, .inl (g 0, lr (wid M 4 0), .inl (fun r => nI (rsf (lr (wid M 4 0)) (wid M 4 0) r)))) :: (u0.1, .inl (g 0, (wid M 4 0), .inl (fun j => nI (if j < wid M 4 0 then cc_ (lr (wid M 4 0)) j else 0)))) :: (o0, .inr (4, [.int (nI (lr (wid M 4 0))), .ref u0.1, .ref u0.2.1, .ref u0.2.2])) :: (qa, .inl (g 3, 4, .inr (.inr (.inr (.inr (va_up (va_up (fun _ => none) 0 (some o0)) 1 (some o1))))))) :: wr) H := hP
        have hD : va_D A ((o2, .inr (4, [.int (nI 0), .null, .null, .null])) :: (u1.2.2, .inl (g 0, 2 ^ lr (wid M 4 1), .inl (fun s => oI (ba (lr (wid M 4 1)) (wid M 4 1) (wid M 4 1) s)))) :: (u1.2.1, .inl (g 0, lr (wid M 4 1), .inl (fun r => nI (rsf (lr (wid M 4 1)) (wid M 4 1) r)))) :: (u1.1, .inl (g 0, (wid M 4 1), .inl (fun j => nI (if j < wid M 4 1 then cc_ (lr (wid M 4 1)) j else 0)))) :: (o1, .inr (4, [.int (nI (lr (wid M 4 1))), .ref u1.1, .ref u1.2.1, .ref u1.2.2])) :: (u0.2.2, .inl (g 0, 2 ^ lr (wid M 4 0), .inl (fun s => oI (ba (lr (wid M 4 0)) (wid M 4 0) (wid M 4 0) s)))) :: (u0.2.1, .inl (g 0, lr (wid M 4 0), .inl (fun r => nI (rsf (lr (wid M 4 0)) (wid M 4 0) r)))) :: (u0.1, .inl (g 0, (wid M 4 0), .inl (fun j => nI (if j < wid M 4 0 then cc_ (lr (wid M 4 0)) j else 0)))) :: (o0, .inr (4, [.int (nI (lr (wid M 4 0))), .ref u0.1, .ref u0.2.1, .ref u0.2.2])) :: (qa, .inl (g 3, 4, .inr (.inr (.inr (.inr (va_up (va_up (fun _ => none) 0 (some o0)) 1 (some o1))))))) :: wr) := hD
        refine lv_dup hx hb d_C_lanesOf_17 rfl ?_
        refine lv_iload_n hx hb d_C_lanesOf_18 rfl (lv_at hl 2 rfl) ?_
        refine lv_iload_n hx hb d_C_lanesOf_19 rfl (lv_at hl 0 rfl) ?_
        refine lx_isub (z := nI M - nI 2) hx hb d_C_lanesOf_20 (rfl) ?_
        refine lv_iload_n hx hb d_C_lanesOf_21 rfl (lv_at hl 3 rfl) ?_
        refine lx_iadd (z := nI (M + 4 - 2)) hx hb d_C_lanesOf_22 (xn_sa (by omega)) ?_
        refine lv_iconst (v := nI 1) hx hb d_C_lanesOf_23 (by decide) ?_
        refine lx_isub (z := nI (M + 4 - 2 - 1)) hx hb d_C_lanesOf_24 (pk_sub (by omega)) ?_
        refine lv_iload_n hx hb d_C_lanesOf_25 rfl (lv_at hl 3 rfl) ?_
        refine lx_idiv (z := nI (wid M 4 2)) hx hb d_C_lanesOf_26 (by decide) (pk_div (by omega) (by decide) (by decide)) ?_
        refine lc_Iv (b := o2) (As := [.int (nI (wid M 4 2))]) (rest := [.ref o2, .int (nI 2), .ref qa]) ⟨hx, hb, hml, hown, hts⟩ (c_L_init l D g _ _ o2 (wid M 4 2) hw2) (kI 1 hts m_75 m_73 m_74 m_33 rfl (by decide +kernel) ⟨Nat.le_of_ble_eq_true rfl, Nat.le_of_ble_eq_true rfl⟩) hKK hP hD hS hA hl.1 rfl rfl (Nat.le_of_ble_eq_true rfl) d_C_lanesOf_27 ⟨by first | omega | exact Nat.le_of_ble_eq_true rfl, by first | omega | exact Nat.le_of_ble_eq_true rfl⟩ (fun u2 H locs _ hP hD hS => ?_)
        refine W.widen (k := 1 + 1 + 3 + 1 + 3 + 1 + 3) (n := 4 + 4 + 192 + 4 + 192 + 4 + 192) (by omega) (by omega) ?_
        have hP : va_P D vwCl ((u2.2.2, .inl (g 0, 2 ^ lr (wid M 4 2), .inl (fun s => oI (ba (lr (wid M 4 2)) (wid M 4 2) (wid M 4 2) s)))) :: (u2.2.1, .inl (g 0, lr (wid M 4 2), .inl (fun r => nI (rsf (lr (wid M 4 2)) (wid M 4 2) r)))) :: (u2.1, .inl (g 0, (wid M 4 2), .inl (fun j => nI (if j < wid M 4 2 then cc_ (lr (wid M 4 2)) j else 0)))) :: (o2, .inr (4, [.int (nI (lr (wid M 4 2))), .ref u2.1, .ref u2.2.1, .ref u2.2.2])) :: (u1.2.2, .inl (g 0, 2 ^ lr (wid M 4 1), .inl (fun s => oI (ba (lr (wid M 4 1)) (wid M 4 1) (wid M 4 1) s)))) :: (u1.2.1, .inl (g 0, lr (wid M 4 1), .inl (fun r => nI (rsf (lr (wid M 4 1)) (wid M 4 1) r)))) :: (u1.1, .inl (g 0, (wid M 4 1), .inl (fun j => nI (if j < wid M 4 1 then cc_ (lr (wid M 4 1)) j else 0)))) :: (o1, .inr (4, [.int (nI (lr (wid M 4 1))), .ref u1.1, .ref u1.2.1, .ref u1.2.2])) :: (u0.2.2, .inl (g 0, 2 ^ lr (wid M 4 0), .inl (fun s => oI (ba (lr (wid M 4 0)) (wid M 4 0) (wid M 4 0) s)))) :: (u0.2.1, .inl (g 0, lr (wid M 4 0), .inl (fun r => nI (rsf (lr (wid M 4 0)) (wid M 4 0) r)))) :: (u0.1, .inl (g 0, (wid M 4 0), .inl (fun j => nI (if j < wid M 4 0 then cc_ (lr (wid M 4 0)) j else 0)))) :: (o0, .inr (4, [.int (nI (lr (wid M 4 0))), .ref u0.1, .ref u0.2.1, .ref u0.2.2])) :: (qa, .inl (g 3, 4, .inr (.inr (.inr (.inr (va_up (va_up (fun _ => none) 0 (some o0)) 1 (some o1))))))) :: wr) H := hP
        have hD : va_D A ((u2.2.2, .inl (g 0, 2 ^ lr (wid M 4 2), .inl (fun s => oI (ba (lr (wid M 4 2)) (wid M 4 2) (wid M 4 2) s)))) :: (u2.2.1, .inl (g 0, lr (wid M 4 2), .inl (fun r => nI (rsf (lr (wid M 4 2)) (wid M 4 2) r)))) :: (u2.1, .inl (g 0, (wid M 4 2), .inl (fun j => nI (if j < wid M 4 2 then cc_ (lr (wid M 4 2)) j else 0)))) :: (o2, .inr (4, [.int (nI (lr (wid M 4 2))), .ref u2.1, .ref u2.2.1, .ref u2.2.2])) :: (u1.2.2, .inl (g 0, 2 ^ lr (wid M 4 1), .inl (fun s => oI (ba (lr (wid M 4 1)) (wid M 4 1) (wid M 4 1) s)))) :: (u1.2.1, .inl (g 0, lr (wid M 4 1), .inl (fun r => nI (rsf (lr (wid M 4 1)) (wid M 4 1) r)))) :: (u1.1, .inl (g 0, (wid M 4 1), .inl (fun j => nI (if j < wid M 4 1 then cc_ (lr (wid M 4 1)) j else 0)))) :: (o1, .inr (4, [.int (nI (lr (wid M 4 1))), .ref u1.1, .ref u1.2.1, .ref u1.2.2])) :: (u0.2.2, .inl (g 0, 2 ^ lr (wid M 4 0), .inl (fun s => oI (ba (lr (wid M 4 0)) (wid M 4 0) (wid M 4 0) s)))) :: (u0.2.1, .inl (g 0, lr (wid M 4 0), .inl (fun r => nI (rsf (lr (wid M 4 0)) (wid M 4 0) r)))) :: (u0.1, .inl (g 0, (wid M 4 0), .inl (fun j => nI (if j < wid M 4 0 then cc_ (lr (wid M 4 0)) j else 0)))) :: (o0, .inr (4, [.int (nI (lr (wid M 4 0))), .ref u0.1, .ref u0.2.1, .ref u0.2.2])) :: (qa, .inl (g 3, 4, .inr (.inr (.inr (.inr (va_up (va_up (fun _ => none) 0 (some o0)) 1 (some o1))))))) :: wr) := hD
        refine lx_aast (f' := va_up (va_up (va_up (fun _ => none) 0 (some o0)) 1 (some o1)) 2 (some o2)) hx hb hK hP hD hS 12 3 3 4 rfl rfl rfl rfl (j := 2) (by omega) (by omega) (rfl) d_C_lanesOf_30 (fun H locs hP hD hS => ?_)
        have hP : va_P D vwCl ((u2.2.2, .inl (g 0, 2 ^ lr (wid M 4 2), .inl (fun s => oI (ba (lr (wid M 4 2)) (wid M 4 2) (wid M 4 2) s)))) :: (u2.2.1, .inl (g 0, lr (wid M 4 2), .inl (fun r => nI (rsf (lr (wid M 4 2)) (wid M 4 2) r)))) :: (u2.1, .inl (g 0, (wid M 4 2), .inl (fun j => nI (if j < wid M 4 2 then cc_ (lr (wid M 4 2)) j else 0)))) :: (o2, .inr (4, [.int (nI (lr (wid M 4 2))), .ref u2.1, .ref u2.2.1, .ref u2.2.2])) :: (u1.2.2, .inl (g 0, 2 ^ lr (wid M 4 1), .inl (fun s => oI (ba (lr (wid M 4 1)) (wid M 4 1) (wid M 4 1) s)))) :: (u1.2.1, .inl (g 0, lr (wid M 4 1), .inl (fun r => nI (rsf (lr (wid M 4 1)) (wid M 4 1) r)))) :: (u1.1, .inl (g 0, (wid M 4 1), .inl (fun j => nI (if j < wid M 4 1 then cc_ (lr (wid M 4 1)) j else 0)))) :: (o1, .inr (4, [.int (nI (lr (wid M 4 1))), .ref u1.1, .ref u1.2.1, .ref u1.2.2])) :: (u0.2.2, .inl (g 0, 2 ^ lr (wid M 4 0), .inl (fun s => oI (ba (lr (wid M 4 0)) (wid M 4 0) (wid M 4 0) s)))) :: (u0.2.1, .inl (g 0, lr (wid M 4 0), .inl (fun r => nI (rsf (lr (wid M 4 0)) (wid M 4 0) r)))) :: (u0.1, .inl (g 0, (wid M 4 0), .inl (fun j => nI (if j < wid M 4 0 then cc_ (lr (wid M 4 0)) j else 0)))) :: (o0, .inr (4, [.int (nI (lr (wid M 4 0))), .ref u0.1, .ref u0.2.1, .ref u0.2.2])) :: (qa, .inl (g 3, 4, .inr (.inr (.inr (.inr (va_up (va_up (va_up (fun _ => none) 0 (some o0)) 1 (some o1)) 2 (some o2))))))) :: wr) H := hP
        have hD : va_D A ((u2.2.2, .inl (g 0, 2 ^ lr (wid M 4 2), .inl (fun s => oI (ba (lr (wid M 4 2)) (wid M 4 2) (wid M 4 2) s)))) :: (u2.2.1, .inl (g 0, lr (wid M 4 2), .inl (fun r => nI (rsf (lr (wid M 4 2)) (wid M 4 2) r)))) :: (u2.1, .inl (g 0, (wid M 4 2), .inl (fun j => nI (if j < wid M 4 2 then cc_ (lr (wid M 4 2)) j else 0)))) :: (o2, .inr (4, [.int (nI (lr (wid M 4 2))), .ref u2.1, .ref u2.2.1, .ref u2.2.2])) :: (u1.2.2, .inl (g 0, 2 ^ lr (wid M 4 1), .inl (fun s => oI (ba (lr (wid M 4 1)) (wid M 4 1) (wid M 4 1) s)))) :: (u1.2.1, .inl (g 0, lr (wid M 4 1), .inl (fun r => nI (rsf (lr (wid M 4 1)) (wid M 4 1) r)))) :: (u1.1, .inl (g 0, (wid M 4 1), .inl (fun j => nI (if j < wid M 4 1 then cc_ (lr (wid M 4 1)) j else 0)))) :: (o1, .inr (4, [.int (nI (lr (wid M 4 1))), .ref u1.1, .ref u1.2.1, .ref u1.2.2])) :: (u0.2.2, .inl (g 0, 2 ^ lr (wid M 4 0), .inl (fun s => oI (ba (lr (wid M 4 0)) (wid M 4 0) (wid M 4 0) s)))) :: (u0.2.1, .inl (g 0, lr (wid M 4 0), .inl (fun r => nI (rsf (lr (wid M 4 0)) (wid M 4 0) r)))) :: (u0.1, .inl (g 0, (wid M 4 0), .inl (fun j => nI (if j < wid M 4 0 then cc_ (lr (wid M 4 0)) j else 0)))) :: (o0, .inr (4, [.int (nI (lr (wid M 4 0))), .ref u0.1, .ref u0.2.1, .ref u0.2.2])) :: (qa, .inl (g 3, 4, .inr (.inr (.inr (.inr (va_up (va_up (va_up (fun _ => none) 0 (some o0)) 1 (some o1)) 2 (some o2))))))) :: wr) := hD
        refine lv_iinc (v := nI 3) (lv' := [(3, .int (nI 3)), (2, .ref qa), (0, .int (nI M)), (1, .int (nI 4))]) hx hb d_C_lanesOf_31 hl (k := 0) rfl (by decide) (by decide) rfl (fun ls hl => ?_)
        refine lv_goto (tgt := 7) hx hb d_C_lanesOf_34 (by decide) ?_
        have hw3 : wid M 4 3 ≤ 57 := wid_le hM57 (by decide)
        refine lv_iload_n hx hb d_C_lanesOf_7 rfl (lv_at hl 0 rfl) ?_
        refine lv_iload_n hx hb d_C_lanesOf_8 rfl (lv_at hl 3 rfl) ?_
        refine lx_icmp_ge (tgt := 37) hx hb d_C_lanesOf_9 (by decide) (by omega) (by omega) (fun c9_3 => ?_) (fun c9_3 => ?_)
        · skip
          exact absurd c9_3 (by decide)
        · skip
          refine lv_aload_n hx hb d_C_lanesOf_12 rfl (lv_at hl 1 rfl) ?_
          refine lv_iload_n hx hb d_C_lanesOf_13 rfl (lv_at hl 0 rfl) ?_
          refine lx_new (ci := 4) (fs := [.int (nI 0), .null, .null, .null]) (C := R_L) (T := F_L) (N := 4) hx hb hts i_L tf_L tf_L_ok hown (hts _ m_70) (hts _ m_72) (hts _ m_33) hK hP hD hS hA rfl (by decide +kernel) (by first | omega | exact Nat.le_of_ble_eq_true rfl) (by first | omega | exact Nat.le_of_ble_eq_true rfl) d_C_lanesOf_14 (fun o3 H hP hD hS => ?_)
          refine W.widen (k := 1 + 1 + 3 + 1 + 3 + 1 + 3 + 1) (n := 4 + 4 + 192 + 4 + 192 + 4 + 192 + 4) (by omega) (by omega) ?_
          have hP : va_P D vwCl ((o3, .inr (4, [.int (nI 0), .null, .null, .null])) :: (u2.2.2, .inl (g 0, 2 ^ lr (wid M 4 2), .inl (fun s => oI (ba (lr (wid M 4 2)) (wid M 4 2) (wid M 4 2) s)))) :: (u2.2.1, .inl (g 0, lr (wid M 4 2), .inl (fun r => nI (rsf (lr (wid M 4 2)) (wid M 4 2) r)))) :: (u2.1, .inl (g 0, (wid M 4 2), .inl (fun j => nI (if j < wid M 4 2 then cc_ (lr (wid M 4 2)) j else 0)))) :: (o2, .inr (4, [.int (nI (lr (wid M 4 2))), .ref u2.1, .ref u2.2.1, .ref u2.2.2])) :: (u1.2.2, .inl (g 0, 2 ^ lr (wid M 4 1), .inl (fun s => oI (ba (lr (wid M 4 1)) (wid M 4 1) (wid M 4 1) s)))) :: (u1.2.1, .inl (g 0, lr (wid M 4 1), .inl (fun r => nI (rsf (lr (wid M 4 1)) (wid M 4 1) r)))) :: (u1.1, .inl (g 0, (wid M 4 1), .inl (fun j => nI (if j < wid M 4 1 then cc_ (lr (wid M 4 1)) j else 0)))) :: (o1, .inr (4, [.int (nI (lr (wid M 4 1))), .ref u1.1, .ref u1.2.1, .ref u1.2.2])) :: (u0.2.2, .inl (g 0, 2 ^ lr (wid M 4 0), .inl (fun s => oI (ba (lr (wid M 4 0)) (wid M 4 0) (wid M 4 0) s)))) :: (u0.2.1, .inl (g 0, lr (wid M 4 0), .inl (fun r => nI (rsf (lr (wid M 4 0)) (wid M 4 0) r)))) :: (u0.1, .inl (g 0, (wid M 4 0), .inl (fun j => nI (if j < wid M 4 0 then cc_ (lr (wid M 4 0)) j else 0)))) :: (o0, .inr (4, [.int (nI (lr (wid M 4 0))), .ref u0.1, .ref u0.2.1, .ref u0.2.2])) :: (qa, .inl (g 3, 4, .inr (.inr (.inr (.inr (va_up (va_up (va_up (fun _ => none) 0 (some o0)) 1 (some o1)) 2 (some o2))))))) :: wr) H := hP
          have hD : va_D A ((o3, .inr (4, [.int (nI 0), .null, .null, .null])) :: (u2.2.2, .inl (g 0, 2 ^ lr (wid M 4 2), .inl (fun s => oI (ba (lr (wid M 4 2)) (wid M 4 2) (wid M 4 2) s)))) :: (u2.2.1, .inl (g 0, lr (wid M 4 2), .inl (fun r => nI (rsf (lr (wid M 4 2)) (wid M 4 2) r)))) :: (u2.1, .inl (g 0, (wid M 4 2), .inl (fun j => nI (if j < wid M 4 2 then cc_ (lr (wid M 4 2)) j else 0)))) :: (o2, .inr (4, [.int (nI (lr (wid M 4 2))), .ref u2.1, .ref u2.2.1, .ref u2.2.2])) :: (u1.2.2, .inl (g 0, 2 ^ lr (wid M 4 1), .inl (fun s => oI (ba (lr (wid M 4 1)) (wid M 4 1) (wid M 4 1) s)))) :: (u1.2.1, .inl (g 0, lr (wid M 4 1), .inl (fun r => nI (rsf (lr (wid M 4 1)) (wid M 4 1) r)))) :: (u1.1, .inl (g 0, (wid M 4 1), .inl (fun j => nI (if j < wid M 4 1 then cc_ (lr (wid M 4 1)) j else 0)))) :: (o1, .inr (4, [.int (nI (lr (wid M 4 1))), .ref u1.1, .ref u1.2.1, .ref u1.2.2])) :: (u0.2.2, .inl (g 0, 2 ^ lr (wid M 4 0), .inl (fun s => oI (ba (lr (wid M 4 0)) (wid M 4 0) (wid M 4 0) s)))) :: (u0.2.1, .inl (g 0, lr (wid M 4 0), .inl (fun r => nI (rsf (lr (wid M 4 0)) (wid M 4 0) r)))) :: (u0.1, .inl (g 0, (wid M 4 0), .inl (fun j => nI (if j < wid M 4 0 then cc_ (lr (wid M 4 0)) j else 0)))) :: (o0, .inr (4, [.int (nI (lr (wid M 4 0))), .ref u0.1, .ref u0.2.1, .ref u0.2.2])) :: (qa, .inl (g 3, 4, .inr (.inr (.inr (.inr (va_up (va_up (va_up (fun _ => none) 0 (some o0)) 1 (some o1)) 2 (some o2))))))) :: wr) := hD
          refine lv_dup hx hb d_C_lanesOf_17 rfl ?_
          refine lv_iload_n hx hb d_C_lanesOf_18 rfl (lv_at hl 2 rfl) ?_
          refine lv_iload_n hx hb d_C_lanesOf_19 rfl (lv_at hl 0 rfl) ?_
          refine lx_isub (z := nI M - nI 3) hx hb d_C_lanesOf_20 (rfl) ?_
          refine lv_iload_n hx hb d_C_lanesOf_21 rfl (lv_at hl 3 rfl) ?_
          refine lx_iadd (z := nI (M + 4 - 3)) hx hb d_C_lanesOf_22 (xn_sa (by omega)) ?_
          refine lv_iconst (v := nI 1) hx hb d_C_lanesOf_23 (by decide) ?_
          refine lx_isub (z := nI (M + 4 - 3 - 1)) hx hb d_C_lanesOf_24 (pk_sub (by omega)) ?_
          refine lv_iload_n hx hb d_C_lanesOf_25 rfl (lv_at hl 3 rfl) ?_
          refine lx_idiv (z := nI (wid M 4 3)) hx hb d_C_lanesOf_26 (by decide) (pk_div (by omega) (by decide) (by decide)) ?_
          refine lc_Iv (b := o3) (As := [.int (nI (wid M 4 3))]) (rest := [.ref o3, .int (nI 3), .ref qa]) ⟨hx, hb, hml, hown, hts⟩ (c_L_init l D g _ _ o3 (wid M 4 3) hw3) (kI 1 hts m_75 m_73 m_74 m_33 rfl (by decide +kernel) ⟨Nat.le_of_ble_eq_true rfl, Nat.le_of_ble_eq_true rfl⟩) hKK hP hD hS hA hl.1 rfl rfl (Nat.le_of_ble_eq_true rfl) d_C_lanesOf_27 ⟨by first | omega | exact Nat.le_of_ble_eq_true rfl, by first | omega | exact Nat.le_of_ble_eq_true rfl⟩ (fun u3 H locs _ hP hD hS => ?_)
          refine W.widen (k := 1 + 1 + 3 + 1 + 3 + 1 + 3 + 1 + 3) (n := 4 + 4 + 192 + 4 + 192 + 4 + 192 + 4 + 192) (by omega) (by omega) ?_
          have hP : va_P D vwCl ((u3.2.2, .inl (g 0, 2 ^ lr (wid M 4 3), .inl (fun s => oI (ba (lr (wid M 4 3)) (wid M 4 3) (wid M 4 3) s)))) :: (u3.2.1, .inl (g 0, lr (wid M 4 3), .inl (fun r => nI (rsf (lr (wid M 4 3)) (wid M 4 3) r)))) :: (u3.1, .inl (g 0, (wid M 4 3), .inl (fun j => nI (if j < wid M 4 3 then cc_ (lr (wid M 4 3)) j else 0)))) :: (o3, .inr (4, [.int (nI (lr (wid M 4 3))), .ref u3.1, .ref u3.2.1, .ref u3.2.2])) :: (u2.2.2, .inl (g 0, 2 ^ lr (wid M 4 2), .inl (fun s => oI (ba (lr (wid M 4 2)) (wid M 4 2) (wid M 4 2) s)))) :: (u2.2.1, .inl (g 0, lr (wid M 4 2), .inl (fun r => nI (rsf (lr (wid M 4 2)) (wid M 4 2) r)))) :: (u2.1, .inl (g 0, (wid M 4 2), .inl (fun j => nI (if j < wid M 4 2 then cc_ (lr (wid M 4 2)) j else 0)))) :: (o2, .inr (4, [.int (nI (lr (wid M 4 2))), .ref u2.1, .ref u2.2.1, .ref u2.2.2])) :: (u1.2.2, .inl (g 0, 2 ^ lr (wid M 4 1), .inl (fun s => oI (ba (lr (wid M 4 1)) (wid M 4 1) (wid M 4 1) s)))) :: (u1.2.1, .inl (g 0, lr (wid M 4 1), .inl (fun r => nI (rsf (lr (wid M 4 1)) (wid M 4 1) r)))) :: (u1.1, .inl (g 0, (wid M 4 1), .inl (fun j => nI (if j < wid M 4 1 then cc_ (lr (wid M 4 1)) j else 0)))) :: (o1, .inr (4, [.int (nI (lr (wid M 4 1))), .ref u1.1, .ref u1.2.1, .ref u1.2.2])) :: (u0.2.2, .inl (g 0, 2 ^ lr (wid M 4 0), .inl (fun s => oI (ba (lr (wid M 4 0)) (wid M 4 0) (wid M 4 0) s)))) :: (u0.2.1, .inl (g 0, lr (wid M 4 0), .inl (fun r => nI (rsf (lr (wid M 4 0)) (wid M 4 0) r)))) :: (u0.1, .inl (g 0, (wid M 4 0), .inl (fun j => nI (if j < wid M 4 0 then cc_ (lr (wid M 4 0)) j else 0)))) :: (o0, .inr (4, [.int (nI (lr (wid M 4 0))), .ref u0.1, .ref u0.2.1, .ref u0.2.2])) :: (qa, .inl (g 3, 4, .inr (.inr (.inr (.inr (va_up (va_up (va_up (fun _ => none) 0 (some o0)) 1 (some o1)) 2 (some o2))))))) :: wr) H := hP
          have hD : va_D A ((u3.2.2, .inl (g 0, 2 ^ lr (wid M 4 3), .inl (fun s => oI (ba (lr (wid M 4 3)) (wid M 4 3) (wid M 4 3) s)))) :: (u3.2.1, .inl (g 0, lr (wid M 4 3), .inl (fun r => nI (rsf (lr (wid M 4 3)) (wid M 4 3) r)))) :: (u3.1, .inl (g 0, (wid M 4 3), .inl (fun j => nI (if j < wid M 4 3 then cc_ (lr (wid M 4 3)) j else 0)))) :: (o3, .inr (4, [.int (nI (lr (wid M 4 3))), .ref u3.1, .ref u3.2.1, .ref u3.2.2])) :: (u2.2.2, .inl (g 0, 2 ^ lr (wid M 4 2), .inl (fun s => oI (ba (lr (wid M 4 2)) (wid M 4 2) (wid M 4 2) s)))) :: (u2.2.1, .inl (g 0, lr (wid M 4 2), .inl (fun r => nI (rsf (lr (wid M 4 2)) (wid M 4 2) r)))) :: (u2.1, .inl (g 0, (wid M 4 2), .inl (fun j => nI (if j < wid M 4 2 then cc_ (lr (wid M 4 2)) j else 0)))) :: (o2, .inr (4, [.int (nI (lr (wid M 4 2))), .ref u2.1, .ref u2.2.1, .ref u2.2.2])) :: (u1.2.2, .inl (g 0, 2 ^ lr (wid M 4 1), .inl (fun s => oI (ba (lr (wid M 4 1)) (wid M 4 1) (wid M 4 1) s)))) :: (u1.2.1, .inl (g 0, lr (wid M 4 1), .inl (fun r => nI (rsf (lr (wid M 4 1)) (wid M 4 1) r)))) :: (u1.1, .inl (g 0, (wid M 4 1), .inl (fun j => nI (if j < wid M 4 1 then cc_ (lr (wid M 4 1)) j else 0)))) :: (o1, .inr (4, [.int (nI (lr (wid M 4 1))), .ref u1.1, .ref u1.2.1, .ref u1.2.2])) :: (u0.2.2, .inl (g 0, 2 ^ lr (wid M 4 0), .inl (fun s => oI (ba (lr (wid M 4 0)) (wid M 4 0) (wid M 4 0) s)))) :: (u0.2.1, .inl (g 0, lr (wid M 4 0), .inl (fun r => nI (rsf (lr (wid M 4 0)) (wid M 4 0) r)))) :: (u0.1, .inl (g 0, (wid M 4 0), .inl (fun j => nI (if j < wid M 4 0 then cc_ (lr (wid M 4 0)) j else 0)))) :: (o0, .inr (4, [.int (nI (lr (wid M 4 0))), .ref u0.1, .ref u0.2.1, .ref u0.2.2])) :: (qa, .inl (g 3, 4, .inr (.inr (.inr (.inr (va_up (va_up (va_up (fun _ => none) 0 (some o0)) 1 (some o1)) 2 (some o2))))))) :: wr) := hD
          refine lx_aast (f' := va_up (va_up (va_up (va_up (fun _ => none) 0 (some o0)) 1 (some o1)) 2 (some o2)) 3 (some o3)) hx hb hK hP hD hS 16 3 3 4 rfl rfl rfl rfl (j := 3) (by omega) (by omega) (rfl) d_C_lanesOf_30 (fun H locs hP hD hS => ?_)
          have hP : va_P D vwCl ((u3.2.2, .inl (g 0, 2 ^ lr (wid M 4 3), .inl (fun s => oI (ba (lr (wid M 4 3)) (wid M 4 3) (wid M 4 3) s)))) :: (u3.2.1, .inl (g 0, lr (wid M 4 3), .inl (fun r => nI (rsf (lr (wid M 4 3)) (wid M 4 3) r)))) :: (u3.1, .inl (g 0, (wid M 4 3), .inl (fun j => nI (if j < wid M 4 3 then cc_ (lr (wid M 4 3)) j else 0)))) :: (o3, .inr (4, [.int (nI (lr (wid M 4 3))), .ref u3.1, .ref u3.2.1, .ref u3.2.2])) :: (u2.2.2, .inl (g 0, 2 ^ lr (wid M 4 2), .inl (fun s => oI (ba (lr (wid M 4 2)) (wid M 4 2) (wid M 4 2) s)))) :: (u2.2.1, .inl (g 0, lr (wid M 4 2), .inl (fun r => nI (rsf (lr (wid M 4 2)) (wid M 4 2) r)))) :: (u2.1, .inl (g 0, (wid M 4 2), .inl (fun j => nI (if j < wid M 4 2 then cc_ (lr (wid M 4 2)) j else 0)))) :: (o2, .inr (4, [.int (nI (lr (wid M 4 2))), .ref u2.1, .ref u2.2.1, .ref u2.2.2])) :: (u1.2.2, .inl (g 0, 2 ^ lr (wid M 4 1), .inl (fun s => oI (ba (lr (wid M 4 1)) (wid M 4 1) (wid M 4 1) s)))) :: (u1.2.1, .inl (g 0, lr (wid M 4 1), .inl (fun r => nI (rsf (lr (wid M 4 1)) (wid M 4 1) r)))) :: (u1.1, .inl (g 0, (wid M 4 1), .inl (fun j => nI (if j < wid M 4 1 then cc_ (lr (wid M 4 1)) j else 0)))) :: (o1, .inr (4, [.int (nI (lr (wid M 4 1))), .ref u1.1, .ref u1.2.1, .ref u1.2.2])) :: (u0.2.2, .inl (g 0, 2 ^ lr (wid M 4 0), .inl (fun s => oI (ba (lr (wid M 4 0)) (wid M 4 0) (wid M 4 0) s)))) :: (u0.2.1, .inl (g 0, lr (wid M 4 0), .inl (fun r => nI (rsf (lr (wid M 4 0)) (wid M 4 0) r)))) :: (u0.1, .inl (g 0, (wid M 4 0), .inl (fun j => nI (if j < wid M 4 0 then cc_ (lr (wid M 4 0)) j else 0)))) :: (o0, .inr (4, [.int (nI (lr (wid M 4 0))), .ref u0.1, .ref u0.2.1, .ref u0.2.2])) :: (qa, .inl (g 3, 4, .inr (.inr (.inr (.inr (va_up (va_up (va_up (va_up (fun _ => none) 0 (some o0)) 1 (some o1)) 2 (some o2)) 3 (some o3))))))) :: wr) H := hP
          have hD : va_D A ((u3.2.2, .inl (g 0, 2 ^ lr (wid M 4 3), .inl (fun s => oI (ba (lr (wid M 4 3)) (wid M 4 3) (wid M 4 3) s)))) :: (u3.2.1, .inl (g 0, lr (wid M 4 3), .inl (fun r => nI (rsf (lr (wid M 4 3)) (wid M 4 3) r)))) :: (u3.1, .inl (g 0, (wid M 4 3), .inl (fun j => nI (if j < wid M 4 3 then cc_ (lr (wid M 4 3)) j else 0)))) :: (o3, .inr (4, [.int (nI (lr (wid M 4 3))), .ref u3.1, .ref u3.2.1, .ref u3.2.2])) :: (u2.2.2, .inl (g 0, 2 ^ lr (wid M 4 2), .inl (fun s => oI (ba (lr (wid M 4 2)) (wid M 4 2) (wid M 4 2) s)))) :: (u2.2.1, .inl (g 0, lr (wid M 4 2), .inl (fun r => nI (rsf (lr (wid M 4 2)) (wid M 4 2) r)))) :: (u2.1, .inl (g 0, (wid M 4 2), .inl (fun j => nI (if j < wid M 4 2 then cc_ (lr (wid M 4 2)) j else 0)))) :: (o2, .inr (4, [.int (nI (lr (wid M 4 2))), .ref u2.1, .ref u2.2.1, .ref u2.2.2])) :: (u1.2.2, .inl (g 0, 2 ^ lr (wid M 4 1), .inl (fun s => oI (ba (lr (wid M 4 1)) (wid M 4 1) (wid M 4 1) s)))) :: (u1.2.1, .inl (g 0, lr (wid M 4 1), .inl (fun r => nI (rsf (lr (wid M 4 1)) (wid M 4 1) r)))) :: (u1.1, .inl (g 0, (wid M 4 1), .inl (fun j => nI (if j < wid M 4 1 then cc_ (lr (wid M 4 1)) j else 0)))) :: (o1, .inr (4, [.int (nI (lr (wid M 4 1))), .ref u1.1, .ref u1.2.1, .ref u1.2.2])) :: (u0.2.2, .inl (g 0, 2 ^ lr (wid M 4 0), .inl (fun s => oI (ba (lr (wid M 4 0)) (wid M 4 0) (wid M 4 0) s)))) :: (u0.2.1, .inl (g 0, lr (wid M 4 0), .inl (fun r => nI (rsf (lr (wid M 4 0)) (wid M 4 0) r)))) :: (u0.1, .inl (g 0, (wid M 4 0), .inl (fun j => nI (if j < wid M 4 0 then cc_ (lr (wid M 4 0)) j else 0)))) :: (o0, .inr (4, [.int (nI (lr (wid M 4 0))), .ref u0.1, .ref u0.2.1, .ref u0.2.2])) :: (qa, .inl (g 3, 4, .inr (.inr (.inr (.inr (va_up (va_up (va_up (va_up (fun _ => none) 0 (some o0)) 1 (some o1)) 2 (some o2)) 3 (some o3))))))) :: wr) := hD
          refine lv_iinc (v := nI 4) (lv' := [(3, .int (nI 4)), (2, .ref qa), (0, .int (nI M)), (1, .int (nI 4))]) hx hb d_C_lanesOf_31 hl (k := 0) rfl (by decide) (by decide) rfl (fun ls hl => ?_)
          refine lv_goto (tgt := 7) hx hb d_C_lanesOf_34 (by decide) ?_
          refine lv_iload_n hx hb d_C_lanesOf_7 rfl (lv_at hl 0 rfl) ?_
          refine lv_iload_n hx hb d_C_lanesOf_8 rfl (lv_at hl 3 rfl) ?_
          refine lx_icmp_ge (tgt := 37) hx hb d_C_lanesOf_9 (by decide) (by omega) (by omega) (fun c9_4 => ?_) (fun c9_4 => ?_)
          · skip
            have hP : va_P D vwCl ((u3.2.2, .inl (g 0, 2 ^ lr (wid M 4 3), .inl (fun s => oI (ba (lr (wid M 4 3)) (wid M 4 3) (wid M 4 3) s)))) :: (u3.2.1, .inl (g 0, lr (wid M 4 3), .inl (fun r => nI (rsf (lr (wid M 4 3)) (wid M 4 3) r)))) :: (u3.1, .inl (g 0, (wid M 4 3), .inl (fun j => nI (if j < wid M 4 3 then cc_ (lr (wid M 4 3)) j else 0)))) :: (o3, .inr (4, [.int (nI (lr (wid M 4 3))), .ref u3.1, .ref u3.2.1, .ref u3.2.2])) :: (u2.2.2, .inl (g 0, 2 ^ lr (wid M 4 2), .inl (fun s => oI (ba (lr (wid M 4 2)) (wid M 4 2) (wid M 4 2) s)))) :: (u2.2.1, .inl (g 0, lr (wid M 4 2), .inl (fun r => nI (rsf (lr (wid M 4 2)) (wid M 4 2) r)))) :: (u2.1, .inl (g 0, (wid M 4 2), .inl (fun j => nI (if j < wid M 4 2 then cc_ (lr (wid M 4 2)) j else 0)))) :: (o2, .inr (4, [.int (nI (lr (wid M 4 2))), .ref u2.1, .ref u2.2.1, .ref u2.2.2])) :: (u1.2.2, .inl (g 0, 2 ^ lr (wid M 4 1), .inl (fun s => oI (ba (lr (wid M 4 1)) (wid M 4 1) (wid M 4 1) s)))) :: (u1.2.1, .inl (g 0, lr (wid M 4 1), .inl (fun r => nI (rsf (lr (wid M 4 1)) (wid M 4 1) r)))) :: (u1.1, .inl (g 0, (wid M 4 1), .inl (fun j => nI (if j < wid M 4 1 then cc_ (lr (wid M 4 1)) j else 0)))) :: (o1, .inr (4, [.int (nI (lr (wid M 4 1))), .ref u1.1, .ref u1.2.1, .ref u1.2.2])) :: (u0.2.2, .inl (g 0, 2 ^ lr (wid M 4 0), .inl (fun s => oI (ba (lr (wid M 4 0)) (wid M 4 0) (wid M 4 0) s)))) :: (u0.2.1, .inl (g 0, lr (wid M 4 0), .inl (fun r => nI (rsf (lr (wid M 4 0)) (wid M 4 0) r)))) :: (u0.1, .inl (g 0, (wid M 4 0), .inl (fun j => nI (if j < wid M 4 0 then cc_ (lr (wid M 4 0)) j else 0)))) :: (o0, .inr (4, [.int (nI (lr (wid M 4 0))), .ref u0.1, .ref u0.2.1, .ref u0.2.2])) :: (qa, .inl (g 3, 4, .inr (.inr (.inr (.inr (fun i => some ((fun k => ([o0, u0.1, u0.2.1, u0.2.2, o1, u1.1, u1.2.1, u1.2.2, o2, u2.1, u2.2.1, u2.2.2, o3, u3.1, u3.2.1, u3.2.2] : List Nat).getD k 0) (4 * i)))))))) :: wr) H := wp_atq 16 hP rfl (fun j hj => by rcases (show j = 0 ∨ j = 1 ∨ j = 2 ∨ j = 3 by omega) with rfl | rfl | rfl | rfl <;> rfl)
            have hD : va_D A ((u3.2.2, .inl (g 0, 2 ^ lr (wid M 4 3), .inl (fun s => oI (ba (lr (wid M 4 3)) (wid M 4 3) (wid M 4 3) s)))) :: (u3.2.1, .inl (g 0, lr (wid M 4 3), .inl (fun r => nI (rsf (lr (wid M 4 3)) (wid M 4 3) r)))) :: (u3.1, .inl (g 0, (wid M 4 3), .inl (fun j => nI (if j < wid M 4 3 then cc_ (lr (wid M 4 3)) j else 0)))) :: (o3, .inr (4, [.int (nI (lr (wid M 4 3))), .ref u3.1, .ref u3.2.1, .ref u3.2.2])) :: (u2.2.2, .inl (g 0, 2 ^ lr (wid M 4 2), .inl (fun s => oI (ba (lr (wid M 4 2)) (wid M 4 2) (wid M 4 2) s)))) :: (u2.2.1, .inl (g 0, lr (wid M 4 2), .inl (fun r => nI (rsf (lr (wid M 4 2)) (wid M 4 2) r)))) :: (u2.1, .inl (g 0, (wid M 4 2), .inl (fun j => nI (if j < wid M 4 2 then cc_ (lr (wid M 4 2)) j else 0)))) :: (o2, .inr (4, [.int (nI (lr (wid M 4 2))), .ref u2.1, .ref u2.2.1, .ref u2.2.2])) :: (u1.2.2, .inl (g 0, 2 ^ lr (wid M 4 1), .inl (fun s => oI (ba (lr (wid M 4 1)) (wid M 4 1) (wid M 4 1) s)))) :: (u1.2.1, .inl (g 0, lr (wid M 4 1), .inl (fun r => nI (rsf (lr (wid M 4 1)) (wid M 4 1) r)))) :: (u1.1, .inl (g 0, (wid M 4 1), .inl (fun j => nI (if j < wid M 4 1 then cc_ (lr (wid M 4 1)) j else 0)))) :: (o1, .inr (4, [.int (nI (lr (wid M 4 1))), .ref u1.1, .ref u1.2.1, .ref u1.2.2])) :: (u0.2.2, .inl (g 0, 2 ^ lr (wid M 4 0), .inl (fun s => oI (ba (lr (wid M 4 0)) (wid M 4 0) (wid M 4 0) s)))) :: (u0.2.1, .inl (g 0, lr (wid M 4 0), .inl (fun r => nI (rsf (lr (wid M 4 0)) (wid M 4 0) r)))) :: (u0.1, .inl (g 0, (wid M 4 0), .inl (fun j => nI (if j < wid M 4 0 then cc_ (lr (wid M 4 0)) j else 0)))) :: (o0, .inr (4, [.int (nI (lr (wid M 4 0))), .ref u0.1, .ref u0.2.1, .ref u0.2.2])) :: (qa, .inl (g 3, 4, .inr (.inr (.inr (.inr (fun i => some ((fun k => ([o0, u0.1, u0.2.1, u0.2.2, o1, u1.1, u1.2.1, u1.2.2, o2, u2.1, u2.2.1, u2.2.2, o3, u3.1, u3.2.1, u3.2.2] : List Nat).getD k 0) (4 * i)))))))) :: wr) := hD.set (p := 16) rfl
            refine lv_aload_n hx hb d_C_lanesOf_37 rfl (lv_at hl 1 rfl) ?_
            refine W.widen (k := 17) (n := 788) (by omega) (by omega) ?_
            rw [← hQ]
            refine W.aret (v := .ref qa) hx hb hr (by first | exact Or.inl ⟨_, rfl⟩ | exact Or.inr ⟨_, rfl⟩) (Or.inr ⟨_, rfl⟩) ?_ hS.2.2 d_C_lanesOf_38
            exact fun t ht hW => ⟨⟨(fun k => ([o0, u0.1, u0.2.1, u0.2.2, o1, u1.1, u1.2.1, u1.2.2, o2, u2.1, u2.2.1, u2.2.2, o3, u3.1, u3.2.1, u3.2.2] : List Nat).getD k 0), qa, rfl, trivial, by rw [ht]; exact hP, hD⟩, hS.F ht⟩
          · skip
            exact absurd c9_4 (by decide)
set_option maxHeartbeats 4000000 in
set_option maxRecDepth 100000 in
theorem c_S_checkBitsOf (l : Launch) (D : va_G) (g : Nat → ClassId) (sz : Nat) (ws : va_W) (M n0 : Nat) (hn0 : n0 ≤ 4) (kl al : Nat) (lf : Nat → Option Nat) (kL kc kr kb la ca ra ba9 : Nat → Nat) (ql : ws[kl]? = some (al, .inl (g 3, n0, .inr (.inr (.inr (.inr (lf))))))) (qf : ∀ i, i < n0 → lf i = some (la i)) (qL : ∀ i, i < n0 → ws[kL i]? = some (la i, .inr (4, [.int (nI (lr (wid M n0 i))), .ref (ca i), .ref (ra i), .ref (ba9 i)]))) : Met l y_S_checkBitsOf w_S_checkBitsOf rm_S_checkBitsOf (va_Pc [.ref al] (pP D (tyl g) (ws) sz)) (va_Qi (fun (r : Int32) (u : Unit) => r = nI (frm M n0 n0)) (fun u => qB D (va_A (ws) sz) (ws)) (va_A (ws) sz)) 0 0 (va_A (ws) sz) := by
  refine Met.ofW (cc := b_S_checkBitsOf) (maxL := 6) (ret := (some .int)) (by decide +kernel) rfl ?_
  intro p e s m args below meth c s₁ Bq hml hv
  have hx := Bq.exec
  have hb := Bq.bytes
  have hr := Bq.returns
  have hts : ∀ w ∈ wA, w.before args s = true := fun w h => atoms_spec (ws := w_S_checkBitsOf) Bq.pre w (List.mem_cons_of_mem _ h)
  have hown : s.vm.findClass R_S = some m.cls := findClass_of_methodNamed Bq.named
  have hlocks := Bq.notSynchronized
  obtain ⟨rfl, hsz, hP, hKK, hD0⟩ := hv
  have hK := hKK.1
  subst hsz
  have hD := hD0.self (sz := s.heap.size)
  generalize hAe : va_A (ws) s.heap.size = A at hD ⊢
  have hA : ∀ q : Nat, s.heap.size ≤ q → A q := fun q h => by rw [← hAe]; exact Or.inr h
  have hS : va_S A s.heap s.heap [] := va_S.rf
  have hl := lv_entry ([.ref al]) (n := 6) (Nat.le_of_ble_eq_true rfl)
  rw [lg_entry_eq]
  generalize (lg_sl ([.ref al]) ++ List.replicate (6 - (lg_sl ([.ref al])).length) Slot.unset).toArray = ls at hl ⊢
  have hl : lv_has ls 6 [(0, .ref al)] := hl
  generalize hQ : MQ below (va_Qi (fun (r : Int32) (u : Unit) => r = nI (frm M n0 n0)) (fun u => qB D (A) (ws)) (A)) [.ref al].toArray s 0 0 A = Q
  have lp10 : ∀ (n : Nat) (k : Nat) (ls : Array Slot) (H : Heap) (locs : List Loc), (n0 + 1 ≤ k + n) → (k ≤ n0) → lv_has ls 6 [(1, .int (nI (frm M n0 k))), (2, .ref al), (3, .int (nI n0)), (4, .int (nI k))] → va_P D vwCl (ws) H → va_D A (ws) → va_S A s.heap H locs → W p l e (headSpec w_S_checkBitsOf rm_S_checkBitsOf).room s m [.ref al].toArray below meth c H locs 0 0 Q (F0 m 10 ls []) := by
    intro n
    induction n with
    | zero => intro k ls H locs hfu hk _ _ _ _; exact absurd hfu (by omega)
    | succ n ih =>
      intro k ls H locs hfu hk hl hP hD hS
      refine lv_iload hx hb d_S_checkBitsOf_10 (lv_at hl 3 rfl) ?_
      refine lv_iload_n hx hb d_S_checkBitsOf_12 rfl (lv_at hl 2 rfl) ?_
      refine lx_icmp_ge (tgt := 36) hx hb d_S_checkBitsOf_13 (by decide) (by omega) (by omega) (fun c13 => ?_) (fun c13 => ?_)
      · skip
        refine lv_iload_n hx hb d_S_checkBitsOf_36 rfl (lv_at hl 0 rfl) ?_
        rw [← hQ]
        refine W.iret (v := nI (frm M n0 k)) hx hb hr ?_ hS.2.2 d_S_checkBitsOf_37
        exact fun t ht hW => ⟨⟨nI (frm M n0 k), (), rfl, (by rw [show k = n0 by omega]), by rw [ht]; exact hP, hD⟩, hS.F ht⟩
      · skip
        refine lv_aload_n hx hb d_S_checkBitsOf_16 rfl (lv_at hl 1 rfl) ?_
        refine lv_iload hx hb d_S_checkBitsOf_17 (lv_at hl 3 rfl) ?_
        refine lx_aald (v := la k) hx hb hK hP kl 3 ql rfl (j := k) (by omega) (by omega) (qf k c13) d_S_checkBitsOf_19 ?_
        refine lv_astore (lv' := [(5, .ref (la k)), (1, .int (nI (frm M n0 k))), (2, .ref al), (3, .int (nI n0)), (4, .int (nI k))]) hx hb d_S_checkBitsOf_20 hl (by decide) rfl (fun ls hl => ?_)
        refine lv_iload_n hx hb d_S_checkBitsOf_22 rfl (lv_at hl 1 rfl) ?_
        refine lv_aload hx hb d_S_checkBitsOf_23 (lv_at hl 0 rfl) ?_
        refine va_get (D := D) (ci := 4) (v := .int (nI (lr (wid M n0 k)))) (C := R_L) (T := F_L) (N := 4) hx hb hts i_L hown hK hP (kL k) (qL k c13) rfl 0 (by decide) (hts _ m_103) (fun _ h9 => h9) rfl d_S_checkBitsOf_25 ?_
        refine lx_iadd (z := nI (frm M n0 (k + 1))) hx hb d_S_checkBitsOf_28 (nI_add _ _) ?_
        refine lv_istore_n (lv' := [(1, .int (nI (frm M n0 (k + 1)))), (5, .ref (la k)), (2, .ref al), (3, .int (nI n0)), (4, .int (nI k))]) hx hb d_S_checkBitsOf_29 rfl hl (by decide) rfl (fun ls hl => ?_)
        refine lv_iinc (v := nI (k + 1)) (lv' := [(4, .int (nI (k + 1))), (1, .int (nI (frm M n0 (k + 1)))), (5, .ref (la k)), (2, .ref al), (3, .int (nI n0))]) hx hb d_S_checkBitsOf_30 hl (k := 4) rfl (nI_1 k) (by decide) rfl (fun ls hl => ?_)
        refine lv_goto (tgt := 10) hx hb d_S_checkBitsOf_33 (by decide) ?_
        exact ih (k + 1) _ _ _ (by omega) (by omega) (lv_sub hl [1, 3, 4, 0] rfl) hP hD hS
  refine lv_iconst (v := nI 0) hx hb d_S_checkBitsOf_0 (by decide) ?_
  refine lv_istore_n (lv' := [(1, .int (nI 0)), (0, .ref al)]) hx hb d_S_checkBitsOf_1 rfl hl (by decide) rfl (fun ls hl => ?_)
  refine lv_aload_n hx hb d_S_checkBitsOf_2 rfl (lv_at hl 1 rfl) ?_
  refine lv_astore_n (lv' := [(2, .ref al), (1, .int (nI 0)), (0, .ref al)]) hx hb d_S_checkBitsOf_3 rfl hl (by decide) rfl (fun ls hl => ?_)
  refine lv_aload_n hx hb d_S_checkBitsOf_4 rfl (lv_at hl 0 rfl) ?_
  refine va_alen hx hb hK hP kl 3 ql (v := nI n0) rfl (rfl) d_S_checkBitsOf_5 ?_
  refine lv_istore_n (lv' := [(3, .int (nI n0)), (2, .ref al), (1, .int (nI 0)), (0, .ref al)]) hx hb d_S_checkBitsOf_6 rfl hl (by decide) rfl (fun ls hl => ?_)
  refine lv_iconst (v := nI 0) hx hb d_S_checkBitsOf_7 (by decide) ?_
  refine lv_istore (lv' := [(4, .int (nI 0)), (3, .int (nI n0)), (2, .ref al), (1, .int (nI 0)), (0, .ref al)]) hx hb d_S_checkBitsOf_8 hl (by decide) rfl (fun ls hl => ?_)
  exact lp10 (n0 + 1) 0 _ _ _ (by omega) (by omega) (lv_sub hl [3, 2, 1, 0] rfl) hP hD hS
set_option maxHeartbeats 4000000 in
set_option maxRecDepth 100000 in
theorem c_S_marksOf (l : Launch) (D : va_G) (g : Nat → ClassId) (sz : Nat) (ws : va_W) (M n0 : Nat) (hM57 : M ≤ 57) (hn0 : n0 = 1 ∨ n0 = 4) (kl al : Nat) (lf : Nat → Option Nat) (kL kc kr kb la ca ra ba9 : Nat → Nat) (ql : ws[kl]? = some (al, .inl (g 3, n0, .inr (.inr (.inr (.inr (lf))))))) (qf : ∀ i, i < n0 → lf i = some (la i)) (qL : ∀ i, i < n0 → ws[kL i]? = some (la i, .inr (4, [.int (nI (lr (wid M n0 i))), .ref (ca i), .ref (ra i), .ref (ba9 i)]))) (qc : ∀ i, i < n0 → ws[kc i]? = some (ca i, .inl (g 0, wid M n0 i, .inl (fun j => nI (if j < wid M n0 i then cc_ (lr (wid M n0 i)) j else 0))))) : Met l y_S_marksOf w_S_marksOf rm_S_marksOf (va_Pc [.int (nI M), .ref al] (pP D (tyl g) (ws) sz)) (va_Qr (fun (u : Unit) => True) (fun u (a : Nat) => qB D (va_A (ws) sz) ((a, .inl (g 0, M, .inl (fun k => nI (mkS M n0 k)))) :: ws)) (va_A (ws) sz)) 1 57 (va_A (ws) sz) := by
  refine Met.ofW (cc := b_S_marksOf) (maxL := 7) (ret := (some (.array .int))) (by decide +kernel) rfl ?_
  intro p e s m args below meth c s₁ Bq hml hv
  have hx := Bq.exec
  have hb := Bq.bytes
  have hr := Bq.returns
  have hts : ∀ w ∈ wA, w.before args s = true := fun w h => atoms_spec (ws := w_S_marksOf) Bq.pre w (List.mem_cons_of_mem _ h)
  have hown : s.vm.findClass R_S = some m.cls := findClass_of_methodNamed Bq.named
  have hlocks := Bq.notSynchronized
  obtain ⟨rfl, hsz, hP, hKK, hD0⟩ := hv
  have hK := hKK.1
  subst hsz
  have hD := hD0.self (sz := s.heap.size)
  generalize hAe : va_A (ws) s.heap.size = A at hD ⊢
  have hA : ∀ q : Nat, s.heap.size ≤ q → A q := fun q h => by rw [← hAe]; exact Or.inr h
  have hS : va_S A s.heap s.heap [] := va_S.rf
  have hl := lv_entry ([.int (nI M), .ref al]) (n := 7) (Nat.le_of_ble_eq_true rfl)
  rw [lg_entry_eq]
  generalize (lg_sl ([.int (nI M), .ref al]) ++ List.replicate (7 - (lg_sl ([.int (nI M), .ref al])).length) Slot.unset).toArray = ls at hl ⊢
  have hl : lv_has ls 7 [(0, .int (nI M)), (1, .ref al)] := hl
  generalize hQ : MQ below (va_Qr (fun (u : Unit) => True) (fun u (a : Nat) => qB D (A) ((a, .inl (g 0, M, .inl (fun k => nI (mkS M n0 k)))) :: ws)) (A)) [.int (nI M), .ref al].toArray s 1 57 A = Q
  have hRc : (headSpec w_S_marksOf rm_S_marksOf).room.cells = 1 := rfl
  have hRs : (headSpec w_S_marksOf rm_S_marksOf).room.slots = 57 := rfl
  refine lv_iload_n hx hb d_S_marksOf_0 rfl (lv_at hl 0 rfl) ?_
  refine lx_newi (N := M) hx hb (hts _ m_117) hK hP hD hS hA (by omega) (Nat.le_of_ble_eq_true rfl) (by first | omega | exact Nat.le_of_ble_eq_true rfl) d_S_marksOf_1 (fun am H hP hD hS => ?_)
  refine W.widen (k := 1) (n := M) (by omega) (by omega) ?_
  have hP : va_P D vwCl ((am, .inl (g 0, M, .inl (fun _ => nI 0))) :: ws) H := hP
  have hD : va_D A ((am, .inl (g 0, M, .inl (fun _ => nI 0))) :: ws) := hD
  have hP : va_P D vwCl ((am, .inl (g 0, M, .inl (fun k => nI (mkp M n0 0 0 k)))) :: ws) H := wp_at 0 hP rfl (fun j hj => mkp_0 M n0 j)
  have hD : va_D A ((am, .inl (g 0, M, .inl (fun k => nI (mkp M n0 0 0 k)))) :: ws) := hD.set (p := 0) rfl
  have h4 : n0 ≤ 4 := by omega
  have lp9 : ∀ (n : Nat) (i : Nat) (ls : Array Slot) (H : Heap) (locs : List Loc), (n0 + 1 ≤ i + n) → (i ≤ n0) → lv_has ls 7 [(0, .int (nI M)), (1, .ref al), (2, .ref am), (3, .int (nI (frm M n0 i))), (4, .int (nI i))] → va_P D vwCl ((am, .inl (g 0, M, .inl (fun k => nI (mkp M n0 i 0 k)))) :: ws) H → va_D A ((am, .inl (g 0, M, .inl (fun k => nI (mkp M n0 i 0 k)))) :: ws) → va_S A s.heap H locs → W p l e (headSpec w_S_marksOf rm_S_marksOf).room s m [.int (nI M), .ref al].toArray below meth c H locs 1 M Q (F0 m 9 ls []) := by
    intro n
    induction n with
    | zero => intro i ls H locs hfu hio _ _ _ _; exact absurd hfu (by omega)
    | succ n ih =>
      intro i ls H locs hfu hio hl hP hD hS
      refine lv_iload hx hb d_S_marksOf_9 (lv_at hl 4 rfl) ?_
      refine lv_aload_n hx hb d_S_marksOf_11 rfl (lv_at hl 1 rfl) ?_
      refine va_alen hx hb hK hP (kl + 1) 3 ql (v := nI n0) rfl (rfl) d_S_marksOf_12 ?_
      refine lx_icmp_ge (tgt := 75) hx hb d_S_marksOf_13 (by decide) (by omega) (by omega) (fun c13 => ?_) (fun c13 => ?_)
      · skip
        obtain rfl : i = n0 := by omega
        have hn1 := hn0
        have hP : va_P D vwCl ((am, .inl (g 0, M, .inl (fun k => nI (mkS M i k)))) :: ws) H := wp_at 0 hP rfl (fun j hj => mkp_end hn1 j)
        have hD : va_D A ((am, .inl (g 0, M, .inl (fun k => nI (mkS M i k)))) :: ws) := hD.set (p := 0) rfl
        refine lv_aload_n hx hb d_S_marksOf_75 rfl (lv_at hl 2 rfl) ?_
        refine W.widen (k := 1) (n := 57) (by omega) (by omega) ?_
        rw [← hQ]
        refine W.aret (v := .ref am) hx hb hr (by first | exact Or.inl ⟨_, rfl⟩ | exact Or.inr ⟨_, rfl⟩) (Or.inr ⟨_, rfl⟩) ?_ hS.2.2 d_S_marksOf_76
        exact fun t ht hW => ⟨⟨(), am, rfl, trivial, by rw [ht]; exact hP, hD⟩, hS.F ht⟩
      · skip
        have hi : i < n0 := c13
        have hwi : wid M n0 i ≤ 57 := wid_le hM57 hn0
        have ih9 := ih
        refine lv_aload_n hx hb d_S_marksOf_16 rfl (lv_at hl 1 rfl) ?_
        refine lv_iload hx hb d_S_marksOf_17 (lv_at hl 4 rfl) ?_
        refine lx_aald (v := la i) hx hb hK hP (kl + 1) 3 ql rfl (j := i) (by omega) (by omega) (qf i c13) d_S_marksOf_19 ?_
        refine va_get (D := D) (ci := 4) (v := .ref (ca i)) (C := R_L) (T := F_L) (N := 4) hx hb hts i_L hown hK hP (kL i + 1) (qL i hi) rfl 1 (by decide) (hts _ m_105) (fun _ h9 => h9) rfl d_S_marksOf_20 ?_
        have lp28 : ∀ (n2 : Nat) (b : Nat) (ls : Array Slot) (H : Heap) (locs : List Loc), (wid M n0 i + 1 ≤ b + n2) → (b ≤ wid M n0 i) → lv_has ls 7 [(0, .int (nI M)), (1, .ref al), (2, .ref am), (3, .int (nI (frm M n0 i))), (4, .int (nI i)), (5, .ref (ca i)), (6, .int (nI b))] → va_P D vwCl ((am, .inl (g 0, M, .inl (fun k => nI (mkp M n0 i b k)))) :: ws) H → va_D A ((am, .inl (g 0, M, .inl (fun k => nI (mkp M n0 i b k)))) :: ws) → va_S A s.heap H locs → W p l e (headSpec w_S_marksOf rm_S_marksOf).room s m [.int (nI M), .ref al].toArray below meth c H locs 1 M Q (F0 m 28 ls []) := by
          intro n2
          induction n2 with
          | zero => intro b ls H locs hfu hb9 _ _ _ _; exact absurd hfu (by omega)
          | succ n2 ih2 =>
            intro b ls H locs hfu2 hb9 hl hP hD hS
            refine lv_iload hx hb d_S_marksOf_28 (lv_at hl 6 rfl) ?_
            refine lv_aload hx hb d_S_marksOf_30 (lv_at hl 5 rfl) ?_
            refine va_alen hx hb hK hP (kc i + 1) 0 (qc i hi) (v := nI (wid M n0 i)) rfl (rfl) d_S_marksOf_32 ?_
            refine lx_icmp_ge (tgt := 59) hx hb d_S_marksOf_33 (by decide) (by omega) (by omega) (fun c33 => ?_) (fun c33 => ?_)
            · skip
              obtain rfl : b = wid M n0 i := by omega
              have hP : va_P D vwCl ((am, .inl (g 0, M, .inl (fun k => nI (mkp M n0 (i + 1) 0 k)))) :: ws) H := wp_at 0 hP rfl (fun j hj => mkp_next hn0 j hj)
              have hD : va_D A ((am, .inl (g 0, M, .inl (fun k => nI (mkp M n0 (i + 1) 0 k)))) :: ws) := hD.set (p := 0) rfl
              refine lv_iload_n hx hb d_S_marksOf_59 rfl (lv_at hl 3 rfl) ?_
              refine lv_aload_n hx hb d_S_marksOf_60 rfl (lv_at hl 1 rfl) ?_
              refine lv_iload hx hb d_S_marksOf_61 (lv_at hl 4 rfl) ?_
              refine lx_aald (v := la i) hx hb hK hP (kl + 1) 3 ql rfl (j := i) (by omega) (by omega) (qf i hi) d_S_marksOf_63 ?_
              refine va_get (D := D) (ci := 4) (v := .int (nI (lr (wid M n0 i)))) (C := R_L) (T := F_L) (N := 4) hx hb hts i_L hown hK hP (kL i + 1) (qL i hi) rfl 0 (by decide) (hts _ m_103) (fun _ h9 => h9) rfl d_S_marksOf_64 ?_
              refine lx_iadd (z := nI (frm M n0 (i + 1))) hx hb d_S_marksOf_67 (nI_add _ _) ?_
              refine lv_istore_n (lv' := [(3, .int (nI (frm M n0 (i + 1)))), (0, .int (nI M)), (1, .ref al), (2, .ref am), (4, .int (nI i)), (5, .ref (ca i)), (6, .int (nI (wid M n0 i)))]) hx hb d_S_marksOf_68 rfl hl (by decide) rfl (fun ls hl => ?_)
              refine lv_iinc (v := nI (i + 1)) (lv' := [(4, .int (nI (i + 1))), (3, .int (nI (frm M n0 (i + 1)))), (0, .int (nI M)), (1, .ref al), (2, .ref am), (5, .ref (ca i)), (6, .int (nI (wid M n0 i)))]) hx hb d_S_marksOf_69 hl (k := 4) rfl (nI_1 i) (by decide) rfl (fun ls hl => ?_)
              refine lv_goto (tgt := 9) hx hb d_S_marksOf_72 (by decide) ?_
              exact ih (i + 1) _ _ _ (by omega) (by omega) (lv_sub hl [2, 3, 4, 1, 0] rfl) hP hD hS
            · skip
              refine lv_aload_n hx hb d_S_marksOf_36 rfl (lv_at hl 2 rfl) ?_
              refine lv_iload hx hb d_S_marksOf_37 (lv_at hl 6 rfl) ?_
              refine lv_aload_n hx hb d_S_marksOf_39 rfl (lv_at hl 1 rfl) ?_
              refine va_alen hx hb hK hP (kl + 1) 3 ql (v := nI n0) rfl (rfl) d_S_marksOf_40 ?_
              have hat := wid_at hn0 hi c33
              refine lx_imul (z := nI (b * n0)) hx hb d_S_marksOf_41 (pk_mul _ _) ?_
              refine lv_iload hx hb d_S_marksOf_42 (lv_at hl 4 rfl) ?_
              refine lx_iadd (z := nI (b * n0 + i)) hx hb d_S_marksOf_44 (nI_add (b * n0) i) ?_
              refine lv_aload hx hb d_S_marksOf_45 (lv_at hl 5 rfl) ?_
              refine lv_iload hx hb d_S_marksOf_47 (lv_at hl 6 rfl) ?_
              refine lx_iald (v := nI (cc_ (lr (wid M n0 i)) b)) hx hb hK hP (kc i + 1) 0 (qc i hi) rfl (j := b) (by omega) (by omega) (by rw [if_pos c33]) d_S_marksOf_49 ?_
              have hfr := frm_le (M := M) (n := n0) i
              refine lv_iload_n hx hb d_S_marksOf_50 rfl (lv_at hl 3 rfl) ?_
              refine lx_ishl (z := nI (cc_ (lr (wid M n0 i)) b <<< frm M n0 i)) hx hb d_S_marksOf_51 (xn_shl _ (by omega)) ?_
              refine lx_iast (f' := fun k => nI (mkp M n0 i (b + 1) k)) hx hb hK hP hD hS 0 0 rfl rfl (j := b * n0 + i) (by omega) (by omega) (mkp_upd hn0 hi) d_S_marksOf_52 (fun H locs hP hD hS => ?_)
              have hP : va_P D vwCl ((am, .inl (g 0, M, .inl (fun k => nI (mkp M n0 i (b + 1) k)))) :: ws) H := hP
              have hD : va_D A ((am, .inl (g 0, M, .inl (fun k => nI (mkp M n0 i (b + 1) k)))) :: ws) := hD
              refine lv_iinc (v := nI (b + 1)) (lv' := [(6, .int (nI (b + 1))), (0, .int (nI M)), (1, .ref al), (2, .ref am), (3, .int (nI (frm M n0 i))), (4, .int (nI i)), (5, .ref (ca i))]) hx hb d_S_marksOf_53 hl (k := 6) rfl (nI_1 b) (by decide) rfl (fun ls hl => ?_)
              refine lv_goto (tgt := 28) hx hb d_S_marksOf_56 (by decide) ?_
              exact ih2 (b + 1) _ _ _ (by omega) (by omega) (lv_sub hl [1, 2, 3, 4, 5, 6, 0] rfl) hP hD hS
        refine lv_astore (lv' := [(5, .ref (ca i)), (0, .int (nI M)), (1, .ref al), (2, .ref am), (3, .int (nI (frm M n0 i))), (4, .int (nI i))]) hx hb d_S_marksOf_23 hl (by decide) rfl (fun ls hl => ?_)
        refine lv_iconst (v := nI 0) hx hb d_S_marksOf_25 (by decide) ?_
        refine lv_istore (lv' := [(6, .int (nI 0)), (5, .ref (ca i)), (0, .int (nI M)), (1, .ref al), (2, .ref am), (3, .int (nI (frm M n0 i))), (4, .int (nI i))]) hx hb d_S_marksOf_26 hl (by decide) rfl (fun ls hl => ?_)
        exact lp28 (wid M n0 i + 1) 0 _ _ _ (by omega) (by omega) (lv_sub hl [2, 3, 4, 5, 6, 1, 0] rfl) hP hD hS
  refine lv_astore_n (lv' := [(2, .ref am), (0, .int (nI M)), (1, .ref al)]) hx hb d_S_marksOf_3 rfl hl (by decide) rfl (fun ls hl => ?_)
  refine lv_iconst (v := nI 0) hx hb d_S_marksOf_4 (by decide) ?_
  refine lv_istore_n (lv' := [(3, .int (nI 0)), (2, .ref am), (0, .int (nI M)), (1, .ref al)]) hx hb d_S_marksOf_5 rfl hl (by decide) rfl (fun ls hl => ?_)
  refine lv_iconst (v := nI 0) hx hb d_S_marksOf_6 (by decide) ?_
  refine lv_istore (lv' := [(4, .int (nI 0)), (3, .int (nI 0)), (2, .ref am), (0, .int (nI M)), (1, .ref al)]) hx hb d_S_marksOf_7 hl (by decide) rfl (fun ls hl => ?_)
  exact lp9 (n0 + 1) 0 _ _ _ (by omega) (by omega) (lv_sub hl [3, 4, 2, 1, 0] rfl) hP hD hS
set_option maxHeartbeats 4000000 in
set_option maxRecDepth 100000 in
theorem c_S_init (l : Launch) (D : va_G) (g : Nat → ClassId) (sz : Nat) (ws : va_W) (M n0 o : Nat) (hM57 : M ≤ 57) (hn0 : n0 = 1 ∨ n0 = 4) (kl al : Nat) (lf : Nat → Option Nat) (kL kc kr kb la ca ra ba9 : Nat → Nat) (ql : ws[kl]? = some (al, .inl (g 3, n0, .inr (.inr (.inr (.inr (lf))))))) (qf : ∀ i, i < n0 → lf i = some (la i)) (qL : ∀ i, i < n0 → ws[kL i]? = some (la i, .inr (4, [.int (nI (lr (wid M n0 i))), .ref (ca i), .ref (ra i), .ref (ba9 i)]))) (qc : ∀ i, i < n0 → ws[kc i]? = some (ca i, .inl (g 0, wid M n0 i, .inl (fun j => nI (if j < wid M n0 i then cc_ (lr (wid M n0 i)) j else 0))))) : Met l y_S_init w_S_init rm_S_init (va_Pc [.ref o, .int (nI M), .ref al] (pP D (tyl g) ((o, .inr (1, [.int (nI 0), .int (nI 0), .null, .null])) :: ws) sz)) (va_Qv (fun (u : Nat) => True) (fun u => qB D (va_A ((o, .inr (1, [.int (nI 0), .int (nI 0), .null, .null])) :: ws) sz) ((o, .inr (1, [.int (nI M), .int (nI (frm M n0 n0)), .ref u, .ref al])) :: (u, .inl (g 0, M, .inl (fun k => nI (mkS M n0 k)))) :: ws)) (va_A ((o, .inr (1, [.int (nI 0), .int (nI 0), .null, .null])) :: ws) sz)) 1 57 (va_A ((o, .inr (1, [.int (nI 0), .int (nI 0), .null, .null])) :: ws) sz) := by
  refine Met.ofW (cc := b_S_init) (maxL := 3) (ret := none) (by decide +kernel) rfl ?_
  intro p e s m args below meth c s₁ Bq hml hv
  have hx := Bq.exec
  have hb := Bq.bytes
  have hr := Bq.returns
  have hts : ∀ w ∈ wA, w.before args s = true := fun w h => atoms_spec (ws := w_S_init) Bq.pre w (List.mem_cons_of_mem _ h)
  have hown : s.vm.findClass R_S = some m.cls := findClass_of_methodNamed Bq.named
  have hlocks := Bq.notSynchronized
  have hin : meth.name = "<init>" := (name_of_methodNamed Bq.named Bq.method).1
  obtain ⟨rfl, hsz, hP, hKK, hD0⟩ := hv
  have hK := hKK.1
  subst hsz
  have hD := hD0.self (sz := s.heap.size)
  generalize hAe : va_A ((o, .inr (1, [.int (nI 0), .int (nI 0), .null, .null])) :: ws) s.heap.size = A at hD ⊢
  have hA : ∀ q : Nat, s.heap.size ≤ q → A q := fun q h => by rw [← hAe]; exact Or.inr h
  have hS : va_S A s.heap s.heap [] := va_S.rf
  have hl := lv_entry ([.ref o, .int (nI M), .ref al]) (n := 3) (Nat.le_of_ble_eq_true rfl)
  rw [lg_entry_eq]
  generalize (lg_sl ([.ref o, .int (nI M), .ref al]) ++ List.replicate (3 - (lg_sl ([.ref o, .int (nI M), .ref al])).length) Slot.unset).toArray = ls at hl ⊢
  have hl : lv_has ls 3 [(0, .ref o), (1, .int (nI M)), (2, .ref al)] := hl
  generalize hQ : MQ below (va_Qv (fun (u : Nat) => True) (fun u => qB D (A) ((o, .inr (1, [.int (nI M), .int (nI (frm M n0 n0)), .ref u, .ref al])) :: (u, .inl (g 0, M, .inl (fun k => nI (mkS M n0 k)))) :: ws)) (A)) [.ref o, .int (nI M), .ref al].toArray s 1 57 A = Q
  have hRc : (headSpec w_S_init rm_S_init).room.cells = 1 := rfl
  have hRs : (headSpec w_S_init rm_S_init).room.slots = 57 := rfl
  refine lv_aload_n hx hb d_S_init_0 rfl (lv_at hl 0 rfl) ?_
  refine lv_iload_n hx hb d_S_init_1 rfl (lv_at hl 1 rfl) ?_
  refine lv_aload_n hx hb d_S_init_2 rfl (lv_at hl 2 rfl) ?_
  refine lc_Si (As := [.ref al]) (rest := [.int (nI M), .ref o]) ⟨hx, hb, hml, hown, hts⟩ (c_S_checkBitsOf l D g _ _ M n0 (by omega) (kl + 1) al lf (fun i => kL i + 1) (fun i => kc i + 1) kr kb la ca ra ba9 ql qf qL) (kS 1 hts m_123 m_121 m_122 m_32 (by decide +kernel) ⟨Nat.le_of_ble_eq_true rfl, Nat.le_of_ble_eq_true rfl⟩) hKK hP hD hS hA hl.1 rfl rfl (Nat.le_of_ble_eq_true rfl) d_S_init_3 ⟨Nat.le_of_ble_eq_true rfl, Nat.le_of_ble_eq_true rfl⟩ (fun r1 u H locs e1 hP hD hS => ?_)
  obtain rfl : r1 = nI (frm M n0 n0) := e1
  refine lv_iload_n hx hb d_S_init_6 rfl (lv_at hl 1 rfl) ?_
  refine lv_aload_n hx hb d_S_init_7 rfl (lv_at hl 2 rfl) ?_
  refine lc_Sr (As := [.int (nI M), .ref al]) (rest := [.int (nI (frm M n0 n0)), .int (nI M), .ref o]) ⟨hx, hb, hml, hown, hts⟩ (c_S_marksOf l D g _ _ M n0 hM57 hn0 (kl + 1) al lf (fun i => kL i + 1) (fun i => kc i + 1) kr kb la ca ra ba9 ql qf qL qc) (kS 2 hts m_126 m_124 m_125 m_32 (by decide +kernel) ⟨Nat.le_of_ble_eq_true rfl, Nat.le_of_ble_eq_true rfl⟩) hKK hP hD hS hA hl.1 rfl rfl (Nat.le_of_ble_eq_true rfl) d_S_init_8 ⟨Nat.le_of_ble_eq_true rfl, Nat.le_of_ble_eq_true rfl⟩ (fun u am H locs _ hP hD hS => ?_)
  refine W.widen (k := 1) (n := 57) (by omega) (by omega) ?_
  have hP : va_P D vwCl ((am, .inl (g 0, M, .inl (fun k => nI (mkS M n0 k)))) :: (o, .inr (1, [.int (nI 0), .int (nI 0), .null, .null])) :: ws) H := hP
  have hD : va_D A ((am, .inl (g 0, M, .inl (fun k => nI (mkS M n0 k)))) :: (o, .inr (1, [.int (nI 0), .int (nI 0), .null, .null])) :: ws) := hD
  have hP : va_P D vwCl ((o, .inr (1, [.int (nI 0), .int (nI 0), .null, .null])) :: (am, .inl (g 0, M, .inl (fun k => nI (mkS M n0 k)))) :: ws) H := wp_pull [(am, .inl (g 0, M, .inl (fun k => nI (mkS M n0 k))))] hP
  have hD : va_D A ((o, .inr (1, [.int (nI 0), .int (nI 0), .null, .null])) :: (am, .inl (g 0, M, .inl (fun k => nI (mkS M n0 k)))) :: ws) := wd_pull [(am, .inl (g 0, M, .inl (fun k => nI (mkS M n0 k))))] hD
  refine lc_Iv (b := o) (As := [.int (nI M), .int (nI (frm M n0 n0)), .ref am]) (rest := []) ⟨hx, hb, hml, hown, hts⟩ (c_K_init_S l D g _ _ o am (nI M) (nI (frm M n0 n0))) (kI 3 hts m_129 m_127 m_128 m_31 rfl (by decide +kernel) ⟨Nat.le_of_ble_eq_true rfl, Nat.le_of_ble_eq_true rfl⟩) hKK hP hD hS hA hl.1 rfl rfl (Nat.le_of_ble_eq_true rfl) d_S_init_11 ⟨Nat.le_of_ble_eq_true rfl, Nat.le_of_ble_eq_true rfl⟩ (fun u H locs _ hP hD hS => ?_)
  have hP : va_P D vwCl ((o, .inr (1, [.int (nI M), .int (nI (frm M n0 n0)), .ref am, .null])) :: (am, .inl (g 0, M, .inl (fun k => nI (mkS M n0 k)))) :: ws) H := hP
  have hD : va_D A ((o, .inr (1, [.int (nI M), .int (nI (frm M n0 n0)), .ref am, .null])) :: (am, .inl (g 0, M, .inl (fun k => nI (mkS M n0 k)))) :: ws) := hD
  refine lv_aload_n hx hb d_S_init_14 rfl (lv_at hl 0 rfl) ?_
  refine lv_aload_n hx hb d_S_init_15 rfl (lv_at hl 2 rfl) ?_
  refine va_putF (D := D) (ci := 1) (v := .ref al) (ty := .array (.object "CheckCodes$Lane")) (C := R_S) (T := F_S) (N := 4) hx hb hts i_S tf_S tf_S_ok nf_S hown hK hP hD hS 0 rfl rfl 3 (by decide) (hts _ m_131) (fun _ h9 => h9) rfl hin rfl (by decide +kernel) rfl rfl (Nat.le_of_ble_eq_true rfl) d_S_init_16 (fun H locs hP hD hS => ?_)
  have hP : va_P D vwCl ((o, .inr (1, [.int (nI M), .int (nI (frm M n0 n0)), .ref am, .ref al])) :: (am, .inl (g 0, M, .inl (fun k => nI (mkS M n0 k)))) :: ws) H := hP
  have hD : va_D A ((o, .inr (1, [.int (nI M), .int (nI (frm M n0 n0)), .ref am, .ref al])) :: (am, .inl (g 0, M, .inl (fun k => nI (mkS M n0 k)))) :: ws) := hD
  rw [← hQ]
  refine W.vret hx hb hr ?_ hS.2.2 d_S_init_19
  exact fun t ht hW => ⟨⟨am, rfl, trivial, by rw [ht]; exact hP, hD⟩, hS.F ht⟩
end
section
/-- times g, over sixteen elements -/
def tg (e : Nat) : Nat := if 15 < 2 * e then (2 * e) ^^^ 19 else 2 * e
def rz (e : Nat) : Nat → Nat
  | 0 => e
  | p + 1 => tg (rz e p)
theorem tg_lt : ∀ e, e < 16 → tg e < 16 := by decide +kernel
theorem rz_lt {e : Nat} (h : e < 16) : ∀ p, rz e p < 16 := by
  intro p
  induction p with
  | zero => exact h
  | succ p ih => exact tg_lt _ ih
/-- marks of kind 1 and of kind 2 -/
def mkP (R k : Nat) : Nat := 1 <<< (k % R)
def mkN (k : Nat) : Nat := (1 <<< (k % 4) ||| rz (1 <<< (k % 4)) (k / 4) <<< 4) ||| rz (rz (1 <<< (k % 4)) (k / 4)) (k / 4) <<< 8
theorem mod_next {R k : Nat} (h : R = 1 ∨ R = 2 ∨ R = 3 ∨ R = 4) : (k + 1) % R = if k % R + 1 < R then k % R + 1 else 0 := by
  rcases h with rfl | rfl | rfl | rfl <;> split <;> omega
/-- what a nibble's reading turns in the word -/
def wfL (M s t u : Nat) : Nat → Nat → Nat
  | 0, _ => 0
  | n + 1, j => if M ≤ 4 * j then 0 else if rz s j = t ∧ rz s (2 * j) = u then (if (s <<< (4 * j)) >>> M = 0 then s <<< (4 * j) else 0) else wfL M s t u n (j + 1)
def wfN (M s t u : Nat) : Nat := if s = 0 then 0 else wfL M s t u 16 0
/-- a reading's answer, and what it turns in the word and in the check -/
def jdP (y : Nat) : Nat × Nat × Nat := if y = 0 then (0, 0, 0) else (2, 0, 0)
def jdN (M y : Nat) : Nat × Nat × Nat :=
  if y = 0 then (0, 0, 0)
  else if y = y % 16 ∨ y = (y >>> 4 % 16) <<< 4 ∨ y = (y >>> 8 % 16) <<< 8 then (1, 0, y)
  else if wfN M (y % 16) (y >>> 4 % 16) (y >>> 8 % 16) = 0 then (2, 0, 0)
  else (1, wfN M (y % 16) (y >>> 4 % 16) (y >>> 8 % 16), 0)
theorem wfL_lt {M s t u : Nat} (hs : s < 16) (hM : M ≤ 57) : ∀ n j, wfL M s t u n j < 2 ^ 62 := by
  intro n
  induction n with
  | zero => intro j; show 0 < 2 ^ 62; decide
  | succ n ih =>
    intro j
    show (if M ≤ 4 * j then 0 else if rz s j = t ∧ rz s (2 * j) = u then (if (s <<< (4 * j)) >>> M = 0 then s <<< (4 * j) else 0) else wfL M s t u n (j + 1)) < 2 ^ 62
    by_cases c1 : M ≤ 4 * j
    · rw [if_pos c1]; decide
    · rw [if_neg c1]
      by_cases c2 : rz s j = t ∧ rz s (2 * j) = u
      · rw [if_pos c2]
        by_cases c3 : (s <<< (4 * j)) >>> M = 0
        · rw [if_pos c3, Nat.shiftLeft_eq]
          have h1 : 2 ^ (4 * j) ≤ 2 ^ 56 := Nat.pow_le_pow_right (by decide) (by omega)
          have h2 : s * 2 ^ (4 * j) ≤ 15 * 2 ^ 56 := Nat.mul_le_mul (by omega) h1
          have h3 : 15 * 2 ^ 56 < 2 ^ 62 := by decide
          omega
        · rw [if_neg c3]; decide
      · rw [if_neg c2]; exact ih (j + 1)
theorem wfN_lt {M s t u : Nat} (hs : s < 16) (hM : M ≤ 57) : wfN M s t u < 2 ^ 62 := by
  unfold wfN
  split
  · decide
  · exact wfL_lt hs hM _ _
/-- one lane's part of a reading of sums -/
def stS (M n y i : Nat) (q : Nat × Nat × Nat) : Option (Nat × Nat × Nat) :=
  if y >>> frm M n i % 2 ^ lr (wid M n i) = 0 then some q
  else match ba (lr (wid M n i)) (wid M n i) (wid M n i) (y >>> frm M n i % 2 ^ lr (wid M n i)) with
    | none => none
    | some b => if b < wid M n i then some (1, q.2.1 ||| 1 <<< (b * n + i), q.2.2) else some (1, q.2.1, q.2.2 ||| 1 <<< (frm M n i + b - wid M n i))
def jS (M n y : Nat) : Nat → Option (Nat × Nat × Nat)
  | 0 => some (0, 0, 0)
  | i + 1 => match jS M n y i with
    | none => none
    | some q => stS M n y i q
def jdS (M n y : Nat) : Nat × Nat × Nat := match jS M n y n with
  | none => (2, 0, 0)
  | some q => q
theorem jS_none {M n y i : Nat} (h : jS M n y i = none) : ∀ k, i ≤ k → jS M n y k = none := by
  intro k hk
  obtain ⟨d, rfl⟩ : ∃ d, k = i + d := ⟨k - i, by omega⟩
  clear hk
  induction d with
  | zero => exact h
  | succ d ih =>
    show (match jS M n y (i + d) with | none => none | some q => stS M n y (i + d) q) = none
    rw [ih]
theorem jS_step {M n y i : Nat} {q : Nat × Nat × Nat} (h : jS M n y i = some q) : jS M n y (i + 1) = stS M n y i q := by
  show (match jS M n y i with | none => none | some q => stS M n y i q) = _
  rw [h]
theorem ba_in {R b k s j : Nat} (h : ba R b k s = some j) : j < k ∨ (b ≤ j ∧ j < b + R) := by
  unfold ba at h
  cases e : fnd (cc_ R) s k with
  | some i => rw [e] at h; have h1 : i = j := Option.some.inj h; have := (fnd_lt e).1; omega
  | none =>
    rw [e] at h
    cases e2 : fnd (fun r => 2 ^ r) s R with
    | some r => rw [e2] at h; have h1 : b + r = j := Option.some.inj h; have := (fnd_lt e2).1; omega
    | none => rw [e2] at h; cases h
theorem frm_lt {M n i : Nat} (hi : i < 4) : frm M n i ≤ 21 := by have := frm_le (M := M) (n := n) i; omega
theorem wfL_end {M s t u n j : Nat} (h : M ≤ 4 * j) : wfL M s t u (n + 1) j = 0 := by
  show (if M ≤ 4 * j then 0 else _) = 0
  rw [if_pos h]
theorem wfL_next {M s t u n j : Nat} (h : 4 * j < M) (h2 : ¬ (rz s j = t ∧ rz s (2 * j) = u)) : wfL M s t u (n + 1) j = wfL M s t u n (j + 1) := by
  show (if M ≤ 4 * j then 0 else if rz s j = t ∧ rz s (2 * j) = u then _ else wfL M s t u n (j + 1)) = _
  rw [if_neg (by omega), if_neg h2]
theorem wfL_hit {M s t u n j : Nat} (h : 4 * j < M) (h2 : rz s j = t ∧ rz s (2 * j) = u) : wfL M s t u (n + 1) j = if (s <<< (4 * j)) >>> M = 0 then s <<< (4 * j) else 0 := by
  show (if M ≤ 4 * j then 0 else if rz s j = t ∧ rz s (2 * j) = u then (if (s <<< (4 * j)) >>> M = 0 then s <<< (4 * j) else 0) else wfL M s t u n (j + 1)) = _
  rw [if_neg (by omega), if_pos h2]
theorem sh_lt {s k : Nat} (hs : s < 16) (hk : k ≤ 58) : s <<< k < 2 ^ 64 := by
  rw [Nat.shiftLeft_eq]
  have h1 : 2 ^ k ≤ 2 ^ 58 := Nat.pow_le_pow_right (by decide) hk
  have h2 : s * 2 ^ k ≤ 15 * 2 ^ 58 := Nat.mul_le_mul (by omega) h1
  have h3 : 15 * 2 ^ 58 < 2 ^ 64 := by decide
  omega
end
section
theorem m_159 : Cond.code y_P_marksOf b_P_marksOf 5 (some (.array .int)) ∈ wA := in_wA (List.mem_of_getElem? (i := 159) rfl) rfl
theorem m_157 : Cond.methodLink R_P 3 y_P_marksOf ∈ wA := in_wA (List.mem_of_getElem? (i := 157) rfl) rfl
theorem m_158 : Cond.static y_P_marksOf ∈ wA := in_wA (List.mem_of_getElem? (i := 158) rfl) rfl
theorem m_36 : Cond.initialized R_P ∈ wA := in_wA (List.mem_of_getElem? (i := 36) rfl) rfl
theorem m_160 : Cond.methodLink R_P 9 y_K_init ∈ wA := in_wA (List.mem_of_getElem? (i := 160) rfl) rfl
theorem m_178 : Cond.code y_N_timesG b_N_timesG 2 (some .int) ∈ wA := in_wA (List.mem_of_getElem? (i := 178) rfl) rfl
theorem m_176 : Cond.methodLink R_N 19 y_N_timesG ∈ wA := in_wA (List.mem_of_getElem? (i := 176) rfl) rfl
theorem m_177 : Cond.static y_N_timesG ∈ wA := in_wA (List.mem_of_getElem? (i := 177) rfl) rfl
theorem m_37 : Cond.initialized R_N ∈ wA := in_wA (List.mem_of_getElem? (i := 37) rfl) rfl
theorem m_175 : Cond.code y_N_raised b_N_raised 4 (some .int) ∈ wA := in_wA (List.mem_of_getElem? (i := 175) rfl) rfl
theorem m_173 : Cond.methodLink R_N 15 y_N_raised ∈ wA := in_wA (List.mem_of_getElem? (i := 173) rfl) rfl
theorem m_174 : Cond.static y_N_raised ∈ wA := in_wA (List.mem_of_getElem? (i := 174) rfl) rfl
theorem m_172 : Cond.code y_N_marksOf b_N_marksOf 7 (some (.array .int)) ∈ wA := in_wA (List.mem_of_getElem? (i := 172) rfl) rfl
theorem m_170 : Cond.methodLink R_N 5 y_N_marksOf ∈ wA := in_wA (List.mem_of_getElem? (i := 170) rfl) rfl
theorem m_171 : Cond.static y_N_marksOf ∈ wA := in_wA (List.mem_of_getElem? (i := 171) rfl) rfl
theorem m_179 : Cond.methodLink R_N 9 y_K_init ∈ wA := in_wA (List.mem_of_getElem? (i := 179) rfl) rfl
theorem m_452 : Cond.code y_T_clear b_T_clear 1 none ∈ wA := in_wA (List.mem_of_getElem? (i := 452) rfl) rfl
theorem m_460 : Cond.methodLink R_P 15 y_T_clear ∈ wA := in_wA (List.mem_of_getElem? (i := 460) rfl) rfl
theorem m_450 : Cond.instanceMethod y_T_clear ∈ wA := in_wA (List.mem_of_getElem? (i := 450) rfl) rfl
theorem m_451 : Cond.selects R_T y_T_clear y_T_clear ∈ wA := in_wA (List.mem_of_getElem? (i := 451) rfl) rfl
theorem m_38 : Cond.initialized R_T ∈ wA := in_wA (List.mem_of_getElem? (i := 38) rfl) rfl
theorem m_136 : Cond.sameField R_N R_K "wordBits" "I" ∈ wA := in_wA (List.mem_of_getElem? (i := 136) rfl) rfl
theorem m_135 : Cond.fieldLink R_N 41 R_N "wordBits" "I" ∈ wA := in_wA (List.mem_of_getElem? (i := 135) rfl) rfl
theorem m_449 : Cond.methodLink R_N 23 y_T_clear ∈ wA := in_wA (List.mem_of_getElem? (i := 449) rfl) rfl
theorem m_195 : Cond.fieldLink R_N 29 R_T "checkFlips" "I" ∈ wA := in_wA (List.mem_of_getElem? (i := 195) rfl) rfl
theorem m_456 : Cond.code y_N_wordFlipsFor b_N_wordFlipsFor 9 (some .long) ∈ wA := in_wA (List.mem_of_getElem? (i := 456) rfl) rfl
theorem m_453 : Cond.methodLink R_N 33 y_N_wordFlipsFor ∈ wA := in_wA (List.mem_of_getElem? (i := 453) rfl) rfl
theorem m_455 : Cond.instanceMethod y_N_wordFlipsFor ∈ wA := in_wA (List.mem_of_getElem? (i := 455) rfl) rfl
theorem m_1 : Cond.selects R_N y_N_wordFlipsFor y_N_wordFlipsFor ∈ wA := in_wA (List.mem_of_getElem? (i := 1) rfl) rfl
theorem m_191 : Cond.fieldLink R_N 37 R_T "wordFlips" "J" ∈ wA := in_wA (List.mem_of_getElem? (i := 191) rfl) rfl
abbrev w_P_marksOf : List Cond := .code y_P_marksOf b_P_marksOf 5 (some (.array .int)) :: wA
abbrev rm_P_marksOf : Room := { frames := 0, cells := 1, slots := 57, locals := 0 }
theorem d_P_marksOf_0 : decode b_P_marksOf 0 = .ok (.iload_n 0, 1) := by decide +kernel
theorem d_P_marksOf_1 : decode b_P_marksOf 1 = .ok (.newarray .int, 2) := by decide +kernel
theorem d_P_marksOf_3 : decode b_P_marksOf 3 = .ok (.astore_n 2, 1) := by decide +kernel
theorem d_P_marksOf_4 : decode b_P_marksOf 4 = .ok (.iconst 0, 1) := by decide +kernel
theorem d_P_marksOf_5 : decode b_P_marksOf 5 = .ok (.istore_n 3, 1) := by decide +kernel
theorem d_P_marksOf_6 : decode b_P_marksOf 6 = .ok (.iconst 0, 1) := by decide +kernel
theorem d_P_marksOf_7 : decode b_P_marksOf 7 = .ok (.istore 4, 2) := by decide +kernel
theorem d_P_marksOf_9 : decode b_P_marksOf 9 = .ok (.iload 4, 2) := by decide +kernel
theorem d_P_marksOf_11 : decode b_P_marksOf 11 = .ok (.iload_n 0, 1) := by decide +kernel
theorem d_P_marksOf_12 : decode b_P_marksOf 12 = .ok (.if_icmp .ge 31, 3) := by decide +kernel
theorem d_P_marksOf_15 : decode b_P_marksOf 15 = .ok (.aload_n 2, 1) := by decide +kernel
theorem d_P_marksOf_16 : decode b_P_marksOf 16 = .ok (.iload 4, 2) := by decide +kernel
theorem d_P_marksOf_18 : decode b_P_marksOf 18 = .ok (.iconst 1, 1) := by decide +kernel
theorem d_P_marksOf_19 : decode b_P_marksOf 19 = .ok (.iload_n 3, 1) := by decide +kernel
theorem d_P_marksOf_20 : decode b_P_marksOf 20 = .ok (.ishl, 1) := by decide +kernel
theorem d_P_marksOf_21 : decode b_P_marksOf 21 = .ok (.iastore, 1) := by decide +kernel
theorem d_P_marksOf_22 : decode b_P_marksOf 22 = .ok (.iload_n 3, 1) := by decide +kernel
theorem d_P_marksOf_23 : decode b_P_marksOf 23 = .ok (.iconst 1, 1) := by decide +kernel
theorem d_P_marksOf_24 : decode b_P_marksOf 24 = .ok (.iadd, 1) := by decide +kernel
theorem d_P_marksOf_25 : decode b_P_marksOf 25 = .ok (.iload_n 1, 1) := by decide +kernel
theorem d_P_marksOf_26 : decode b_P_marksOf 26 = .ok (.if_icmp .ge 9, 3) := by decide +kernel
theorem d_P_marksOf_29 : decode b_P_marksOf 29 = .ok (.iload_n 3, 1) := by decide +kernel
theorem d_P_marksOf_30 : decode b_P_marksOf 30 = .ok (.iconst 1, 1) := by decide +kernel
theorem d_P_marksOf_31 : decode b_P_marksOf 31 = .ok (.iadd, 1) := by decide +kernel
theorem d_P_marksOf_32 : decode b_P_marksOf 32 = .ok (.goto 4, 3) := by decide +kernel
theorem d_P_marksOf_35 : decode b_P_marksOf 35 = .ok (.iconst 0, 1) := by decide +kernel
theorem d_P_marksOf_36 : decode b_P_marksOf 36 = .ok (.istore_n 3, 1) := by decide +kernel
theorem d_P_marksOf_37 : decode b_P_marksOf 37 = .ok (.iinc 4 1, 3) := by decide +kernel
theorem d_P_marksOf_40 : decode b_P_marksOf 40 = .ok (.goto (-31), 3) := by decide +kernel
theorem d_P_marksOf_43 : decode b_P_marksOf 43 = .ok (.aload_n 2, 1) := by decide +kernel
theorem d_P_marksOf_44 : decode b_P_marksOf 44 = .ok (.areturn, 1) := by decide +kernel
abbrev w_P_init : List Cond := .code y_P_init b_P_init 3 none :: wA
abbrev rm_P_init : Room := { frames := 2, cells := 1, slots := 57, locals := 35 }
theorem d_P_init_0 : decode b_P_init 0 = .ok (.aload_n 0, 1) := by decide +kernel
theorem d_P_init_1 : decode b_P_init 1 = .ok (.iload_n 1, 1) := by decide +kernel
theorem d_P_init_2 : decode b_P_init 2 = .ok (.iload_n 2, 1) := by decide +kernel
theorem d_P_init_3 : decode b_P_init 3 = .ok (.iload_n 1, 1) := by decide +kernel
theorem d_P_init_4 : decode b_P_init 4 = .ok (.iload_n 2, 1) := by decide +kernel
theorem d_P_init_5 : decode b_P_init 5 = .ok (.invokestatic 3, 3) := by decide +kernel
theorem d_P_init_8 : decode b_P_init 8 = .ok (.invokespecial 9, 3) := by decide +kernel
theorem d_P_init_11 : decode b_P_init 11 = .ok (.return_, 1) := by decide +kernel
abbrev w_N_timesG : List Cond := .code y_N_timesG b_N_timesG 2 (some .int) :: wA
abbrev rm_N_timesG : Room := { frames := 0, cells := 0, slots := 0, locals := 0 }
theorem d_N_timesG_0 : decode b_N_timesG 0 = .ok (.iload_n 0, 1) := by decide +kernel
theorem d_N_timesG_1 : decode b_N_timesG 1 = .ok (.iconst 1, 1) := by decide +kernel
theorem d_N_timesG_2 : decode b_N_timesG 2 = .ok (.ishl, 1) := by decide +kernel
theorem d_N_timesG_3 : decode b_N_timesG 3 = .ok (.istore_n 1, 1) := by decide +kernel
theorem d_N_timesG_4 : decode b_N_timesG 4 = .ok (.iload_n 1, 1) := by decide +kernel
theorem d_N_timesG_5 : decode b_N_timesG 5 = .ok (.bipush 15, 2) := by decide +kernel
theorem d_N_timesG_7 : decode b_N_timesG 7 = .ok (.if_icmp .le 10, 3) := by decide +kernel
theorem d_N_timesG_10 : decode b_N_timesG 10 = .ok (.iload_n 1, 1) := by decide +kernel
theorem d_N_timesG_11 : decode b_N_timesG 11 = .ok (.bipush 19, 2) := by decide +kernel
theorem d_N_timesG_13 : decode b_N_timesG 13 = .ok (.ixor, 1) := by decide +kernel
theorem d_N_timesG_14 : decode b_N_timesG 14 = .ok (.goto 4, 3) := by decide +kernel
theorem d_N_timesG_17 : decode b_N_timesG 17 = .ok (.iload_n 1, 1) := by decide +kernel
theorem d_N_timesG_18 : decode b_N_timesG 18 = .ok (.ireturn, 1) := by decide +kernel
abbrev w_N_raised : List Cond := .code y_N_raised b_N_raised 4 (some .int) :: wA
abbrev rm_N_raised : Room := { frames := 1, cells := 0, slots := 0, locals := 21 }
theorem d_N_raised_0 : decode b_N_raised 0 = .ok (.iload_n 0, 1) := by decide +kernel
theorem d_N_raised_1 : decode b_N_raised 1 = .ok (.istore_n 2, 1) := by decide +kernel
theorem d_N_raised_2 : decode b_N_raised 2 = .ok (.iconst 0, 1) := by decide +kernel
theorem d_N_raised_3 : decode b_N_raised 3 = .ok (.istore_n 3, 1) := by decide +kernel
theorem d_N_raised_4 : decode b_N_raised 4 = .ok (.iload_n 3, 1) := by decide +kernel
theorem d_N_raised_5 : decode b_N_raised 5 = .ok (.iload_n 1, 1) := by decide +kernel
theorem d_N_raised_6 : decode b_N_raised 6 = .ok (.if_icmp .ge 14, 3) := by decide +kernel
theorem d_N_raised_9 : decode b_N_raised 9 = .ok (.iload_n 2, 1) := by decide +kernel
theorem d_N_raised_10 : decode b_N_raised 10 = .ok (.invokestatic 19, 3) := by decide +kernel
theorem d_N_raised_13 : decode b_N_raised 13 = .ok (.istore_n 2, 1) := by decide +kernel
theorem d_N_raised_14 : decode b_N_raised 14 = .ok (.iinc 3 1, 3) := by decide +kernel
theorem d_N_raised_17 : decode b_N_raised 17 = .ok (.goto (-13), 3) := by decide +kernel
theorem d_N_raised_20 : decode b_N_raised 20 = .ok (.iload_n 2, 1) := by decide +kernel
theorem d_N_raised_21 : decode b_N_raised 21 = .ok (.ireturn, 1) := by decide +kernel
abbrev w_N_marksOf : List Cond := .code y_N_marksOf b_N_marksOf 7 (some (.array .int)) :: wA
abbrev rm_N_marksOf : Room := { frames := 2, cells := 1, slots := 57, locals := 44 }
theorem d_N_marksOf_0 : decode b_N_marksOf 0 = .ok (.iload_n 0, 1) := by decide +kernel
theorem d_N_marksOf_1 : decode b_N_marksOf 1 = .ok (.newarray .int, 2) := by decide +kernel
theorem d_N_marksOf_3 : decode b_N_marksOf 3 = .ok (.astore_n 1, 1) := by decide +kernel
theorem d_N_marksOf_4 : decode b_N_marksOf 4 = .ok (.iconst 0, 1) := by decide +kernel
theorem d_N_marksOf_5 : decode b_N_marksOf 5 = .ok (.istore_n 2, 1) := by decide +kernel
theorem d_N_marksOf_6 : decode b_N_marksOf 6 = .ok (.iload_n 2, 1) := by decide +kernel
theorem d_N_marksOf_7 : decode b_N_marksOf 7 = .ok (.iload_n 0, 1) := by decide +kernel
theorem d_N_marksOf_8 : decode b_N_marksOf 8 = .ok (.if_icmp .ge 52, 3) := by decide +kernel
theorem d_N_marksOf_11 : decode b_N_marksOf 11 = .ok (.iload_n 2, 1) := by decide +kernel
theorem d_N_marksOf_12 : decode b_N_marksOf 12 = .ok (.iconst 4, 1) := by decide +kernel
theorem d_N_marksOf_13 : decode b_N_marksOf 13 = .ok (.idiv, 1) := by decide +kernel
theorem d_N_marksOf_14 : decode b_N_marksOf 14 = .ok (.istore_n 3, 1) := by decide +kernel
theorem d_N_marksOf_15 : decode b_N_marksOf 15 = .ok (.iconst 1, 1) := by decide +kernel
theorem d_N_marksOf_16 : decode b_N_marksOf 16 = .ok (.iload_n 2, 1) := by decide +kernel
theorem d_N_marksOf_17 : decode b_N_marksOf 17 = .ok (.iconst 4, 1) := by decide +kernel
theorem d_N_marksOf_18 : decode b_N_marksOf 18 = .ok (.irem, 1) := by decide +kernel
theorem d_N_marksOf_19 : decode b_N_marksOf 19 = .ok (.ishl, 1) := by decide +kernel
theorem d_N_marksOf_20 : decode b_N_marksOf 20 = .ok (.istore 4, 2) := by decide +kernel
theorem d_N_marksOf_22 : decode b_N_marksOf 22 = .ok (.iload 4, 2) := by decide +kernel
theorem d_N_marksOf_24 : decode b_N_marksOf 24 = .ok (.iload_n 3, 1) := by decide +kernel
theorem d_N_marksOf_25 : decode b_N_marksOf 25 = .ok (.invokestatic 15, 3) := by decide +kernel
theorem d_N_marksOf_28 : decode b_N_marksOf 28 = .ok (.istore 5, 2) := by decide +kernel
theorem d_N_marksOf_30 : decode b_N_marksOf 30 = .ok (.iload 5, 2) := by decide +kernel
theorem d_N_marksOf_32 : decode b_N_marksOf 32 = .ok (.iload_n 3, 1) := by decide +kernel
theorem d_N_marksOf_33 : decode b_N_marksOf 33 = .ok (.invokestatic 15, 3) := by decide +kernel
theorem d_N_marksOf_36 : decode b_N_marksOf 36 = .ok (.istore 6, 2) := by decide +kernel
theorem d_N_marksOf_38 : decode b_N_marksOf 38 = .ok (.aload_n 1, 1) := by decide +kernel
theorem d_N_marksOf_39 : decode b_N_marksOf 39 = .ok (.iload_n 2, 1) := by decide +kernel
theorem d_N_marksOf_40 : decode b_N_marksOf 40 = .ok (.iload 4, 2) := by decide +kernel
theorem d_N_marksOf_42 : decode b_N_marksOf 42 = .ok (.iload 5, 2) := by decide +kernel
theorem d_N_marksOf_44 : decode b_N_marksOf 44 = .ok (.iconst 4, 1) := by decide +kernel
theorem d_N_marksOf_45 : decode b_N_marksOf 45 = .ok (.ishl, 1) := by decide +kernel
theorem d_N_marksOf_46 : decode b_N_marksOf 46 = .ok (.ior, 1) := by decide +kernel
theorem d_N_marksOf_47 : decode b_N_marksOf 47 = .ok (.iload 6, 2) := by decide +kernel
theorem d_N_marksOf_49 : decode b_N_marksOf 49 = .ok (.bipush 8, 2) := by decide +kernel
theorem d_N_marksOf_51 : decode b_N_marksOf 51 = .ok (.ishl, 1) := by decide +kernel
theorem d_N_marksOf_52 : decode b_N_marksOf 52 = .ok (.ior, 1) := by decide +kernel
theorem d_N_marksOf_53 : decode b_N_marksOf 53 = .ok (.iastore, 1) := by decide +kernel
theorem d_N_marksOf_54 : decode b_N_marksOf 54 = .ok (.iinc 2 1, 3) := by decide +kernel
theorem d_N_marksOf_57 : decode b_N_marksOf 57 = .ok (.goto (-51), 3) := by decide +kernel
theorem d_N_marksOf_60 : decode b_N_marksOf 60 = .ok (.aload_n 1, 1) := by decide +kernel
theorem d_N_marksOf_61 : decode b_N_marksOf 61 = .ok (.areturn, 1) := by decide +kernel
abbrev w_N_init : List Cond := .code y_N_init b_N_init 2 none :: wA
abbrev rm_N_init : Room := { frames := 3, cells := 1, slots := 57, locals := 70 }
theorem d_N_init_0 : decode b_N_init 0 = .ok (.aload_n 0, 1) := by decide +kernel
theorem d_N_init_1 : decode b_N_init 1 = .ok (.iload_n 1, 1) := by decide +kernel
theorem d_N_init_2 : decode b_N_init 2 = .ok (.bipush 12, 2) := by decide +kernel
theorem d_N_init_4 : decode b_N_init 4 = .ok (.iload_n 1, 1) := by decide +kernel
theorem d_N_init_5 : decode b_N_init 5 = .ok (.invokestatic 5, 3) := by decide +kernel
theorem d_N_init_8 : decode b_N_init 8 = .ok (.invokespecial 9, 3) := by decide +kernel
theorem d_N_init_11 : decode b_N_init 11 = .ok (.return_, 1) := by decide +kernel
abbrev w_P_judge : List Cond := .code y_P_judge b_P_judge 3 (some .int) :: wA
abbrev rm_P_judge : Room := { frames := 1, cells := 0, slots := 0, locals := 20 }
theorem d_P_judge_0 : decode b_P_judge 0 = .ok (.aload_n 2, 1) := by decide +kernel
theorem d_P_judge_1 : decode b_P_judge 1 = .ok (.invokevirtual 15, 3) := by decide +kernel
theorem d_P_judge_4 : decode b_P_judge 4 = .ok (.iload_n 1, 1) := by decide +kernel
theorem d_P_judge_5 : decode b_P_judge 5 = .ok (.ifCond .ne 7, 3) := by decide +kernel
theorem d_P_judge_8 : decode b_P_judge 8 = .ok (.iconst 0, 1) := by decide +kernel
theorem d_P_judge_9 : decode b_P_judge 9 = .ok (.goto 4, 3) := by decide +kernel
theorem d_P_judge_12 : decode b_P_judge 12 = .ok (.iconst 2, 1) := by decide +kernel
theorem d_P_judge_13 : decode b_P_judge 13 = .ok (.ireturn, 1) := by decide +kernel
abbrev w_N_wordFlipsFor : List Cond := .code y_N_wordFlipsFor b_N_wordFlipsFor 9 (some .long) :: wA
abbrev rm_N_wordFlipsFor : Room := { frames := 1, cells := 0, slots := 0, locals := 21 }
theorem d_N_wordFlipsFor_0 : decode b_N_wordFlipsFor 0 = .ok (.iload_n 1, 1) := by decide +kernel
theorem d_N_wordFlipsFor_1 : decode b_N_wordFlipsFor 1 = .ok (.ifCond .ne 5, 3) := by decide +kernel
theorem d_N_wordFlipsFor_4 : decode b_N_wordFlipsFor 4 = .ok (.lconst 0, 1) := by decide +kernel
theorem d_N_wordFlipsFor_5 : decode b_N_wordFlipsFor 5 = .ok (.lreturn, 1) := by decide +kernel
theorem d_N_wordFlipsFor_6 : decode b_N_wordFlipsFor 6 = .ok (.iload_n 1, 1) := by decide +kernel
theorem d_N_wordFlipsFor_7 : decode b_N_wordFlipsFor 7 = .ok (.istore 4, 2) := by decide +kernel
theorem d_N_wordFlipsFor_9 : decode b_N_wordFlipsFor 9 = .ok (.iload_n 1, 1) := by decide +kernel
theorem d_N_wordFlipsFor_10 : decode b_N_wordFlipsFor 10 = .ok (.istore 5, 2) := by decide +kernel
theorem d_N_wordFlipsFor_12 : decode b_N_wordFlipsFor 12 = .ok (.iconst 0, 1) := by decide +kernel
theorem d_N_wordFlipsFor_13 : decode b_N_wordFlipsFor 13 = .ok (.istore 6, 2) := by decide +kernel
theorem d_N_wordFlipsFor_15 : decode b_N_wordFlipsFor 15 = .ok (.iload 6, 2) := by decide +kernel
theorem d_N_wordFlipsFor_17 : decode b_N_wordFlipsFor 17 = .ok (.aload_n 0, 1) := by decide +kernel
theorem d_N_wordFlipsFor_18 : decode b_N_wordFlipsFor 18 = .ok (.getfield 41, 3) := by decide +kernel
theorem d_N_wordFlipsFor_21 : decode b_N_wordFlipsFor 21 = .ok (.if_icmp .ge 64, 3) := by decide +kernel
theorem d_N_wordFlipsFor_24 : decode b_N_wordFlipsFor 24 = .ok (.iload 4, 2) := by decide +kernel
theorem d_N_wordFlipsFor_26 : decode b_N_wordFlipsFor 26 = .ok (.iload_n 2, 1) := by decide +kernel
theorem d_N_wordFlipsFor_27 : decode b_N_wordFlipsFor 27 = .ok (.if_icmp .ne 35, 3) := by decide +kernel
theorem d_N_wordFlipsFor_30 : decode b_N_wordFlipsFor 30 = .ok (.iload 5, 2) := by decide +kernel
theorem d_N_wordFlipsFor_32 : decode b_N_wordFlipsFor 32 = .ok (.iload_n 3, 1) := by decide +kernel
theorem d_N_wordFlipsFor_33 : decode b_N_wordFlipsFor 33 = .ok (.if_icmp .ne 29, 3) := by decide +kernel
theorem d_N_wordFlipsFor_36 : decode b_N_wordFlipsFor 36 = .ok (.iload_n 1, 1) := by decide +kernel
theorem d_N_wordFlipsFor_37 : decode b_N_wordFlipsFor 37 = .ok (.i2l, 1) := by decide +kernel
theorem d_N_wordFlipsFor_38 : decode b_N_wordFlipsFor 38 = .ok (.iload 6, 2) := by decide +kernel
theorem d_N_wordFlipsFor_40 : decode b_N_wordFlipsFor 40 = .ok (.lshl, 1) := by decide +kernel
theorem d_N_wordFlipsFor_41 : decode b_N_wordFlipsFor 41 = .ok (.lstore 7, 2) := by decide +kernel
theorem d_N_wordFlipsFor_43 : decode b_N_wordFlipsFor 43 = .ok (.lload 7, 2) := by decide +kernel
theorem d_N_wordFlipsFor_45 : decode b_N_wordFlipsFor 45 = .ok (.aload_n 0, 1) := by decide +kernel
theorem d_N_wordFlipsFor_46 : decode b_N_wordFlipsFor 46 = .ok (.getfield 41, 3) := by decide +kernel
theorem d_N_wordFlipsFor_49 : decode b_N_wordFlipsFor 49 = .ok (.lushr, 1) := by decide +kernel
theorem d_N_wordFlipsFor_50 : decode b_N_wordFlipsFor 50 = .ok (.lconst 0, 1) := by decide +kernel
theorem d_N_wordFlipsFor_51 : decode b_N_wordFlipsFor 51 = .ok (.lcmp, 1) := by decide +kernel
theorem d_N_wordFlipsFor_52 : decode b_N_wordFlipsFor 52 = .ok (.ifCond .ne 8, 3) := by decide +kernel
theorem d_N_wordFlipsFor_55 : decode b_N_wordFlipsFor 55 = .ok (.lload 7, 2) := by decide +kernel
theorem d_N_wordFlipsFor_57 : decode b_N_wordFlipsFor 57 = .ok (.goto 4, 3) := by decide +kernel
theorem d_N_wordFlipsFor_60 : decode b_N_wordFlipsFor 60 = .ok (.lconst 0, 1) := by decide +kernel
theorem d_N_wordFlipsFor_61 : decode b_N_wordFlipsFor 61 = .ok (.lreturn, 1) := by decide +kernel
theorem d_N_wordFlipsFor_62 : decode b_N_wordFlipsFor 62 = .ok (.iload 4, 2) := by decide +kernel
theorem d_N_wordFlipsFor_64 : decode b_N_wordFlipsFor 64 = .ok (.invokestatic 19, 3) := by decide +kernel
theorem d_N_wordFlipsFor_67 : decode b_N_wordFlipsFor 67 = .ok (.istore 4, 2) := by decide +kernel
theorem d_N_wordFlipsFor_69 : decode b_N_wordFlipsFor 69 = .ok (.iload 5, 2) := by decide +kernel
theorem d_N_wordFlipsFor_71 : decode b_N_wordFlipsFor 71 = .ok (.invokestatic 19, 3) := by decide +kernel
theorem d_N_wordFlipsFor_74 : decode b_N_wordFlipsFor 74 = .ok (.invokestatic 19, 3) := by decide +kernel
theorem d_N_wordFlipsFor_77 : decode b_N_wordFlipsFor 77 = .ok (.istore 5, 2) := by decide +kernel
theorem d_N_wordFlipsFor_79 : decode b_N_wordFlipsFor 79 = .ok (.iinc 6 4, 3) := by decide +kernel
theorem d_N_wordFlipsFor_82 : decode b_N_wordFlipsFor 82 = .ok (.goto (-67), 3) := by decide +kernel
theorem d_N_wordFlipsFor_85 : decode b_N_wordFlipsFor 85 = .ok (.lconst 0, 1) := by decide +kernel
theorem d_N_wordFlipsFor_86 : decode b_N_wordFlipsFor 86 = .ok (.lreturn, 1) := by decide +kernel
abbrev w_N_judge : List Cond := .code y_N_judge b_N_judge 6 (some .int) :: wA
abbrev rm_N_judge : Room := { frames := 2, cells := 0, slots := 0, locals := 49 }
theorem d_N_judge_0 : decode b_N_judge 0 = .ok (.aload_n 2, 1) := by decide +kernel
theorem d_N_judge_1 : decode b_N_judge 1 = .ok (.invokevirtual 23, 3) := by decide +kernel
theorem d_N_judge_4 : decode b_N_judge 4 = .ok (.iload_n 1, 1) := by decide +kernel
theorem d_N_judge_5 : decode b_N_judge 5 = .ok (.ifCond .ne 5, 3) := by decide +kernel
theorem d_N_judge_8 : decode b_N_judge 8 = .ok (.iconst 0, 1) := by decide +kernel
theorem d_N_judge_9 : decode b_N_judge 9 = .ok (.ireturn, 1) := by decide +kernel
theorem d_N_judge_10 : decode b_N_judge 10 = .ok (.iload_n 1, 1) := by decide +kernel
theorem d_N_judge_11 : decode b_N_judge 11 = .ok (.bipush 15, 2) := by decide +kernel
theorem d_N_judge_13 : decode b_N_judge 13 = .ok (.iand, 1) := by decide +kernel
theorem d_N_judge_14 : decode b_N_judge 14 = .ok (.istore_n 3, 1) := by decide +kernel
theorem d_N_judge_15 : decode b_N_judge 15 = .ok (.iload_n 1, 1) := by decide +kernel
theorem d_N_judge_16 : decode b_N_judge 16 = .ok (.iconst 4, 1) := by decide +kernel
theorem d_N_judge_17 : decode b_N_judge 17 = .ok (.iushr, 1) := by decide +kernel
theorem d_N_judge_18 : decode b_N_judge 18 = .ok (.bipush 15, 2) := by decide +kernel
theorem d_N_judge_20 : decode b_N_judge 20 = .ok (.iand, 1) := by decide +kernel
theorem d_N_judge_21 : decode b_N_judge 21 = .ok (.istore 4, 2) := by decide +kernel
theorem d_N_judge_23 : decode b_N_judge 23 = .ok (.iload_n 1, 1) := by decide +kernel
theorem d_N_judge_24 : decode b_N_judge 24 = .ok (.bipush 8, 2) := by decide +kernel
theorem d_N_judge_26 : decode b_N_judge 26 = .ok (.iushr, 1) := by decide +kernel
theorem d_N_judge_27 : decode b_N_judge 27 = .ok (.bipush 15, 2) := by decide +kernel
theorem d_N_judge_29 : decode b_N_judge 29 = .ok (.iand, 1) := by decide +kernel
theorem d_N_judge_30 : decode b_N_judge 30 = .ok (.istore 5, 2) := by decide +kernel
theorem d_N_judge_32 : decode b_N_judge 32 = .ok (.iload_n 1, 1) := by decide +kernel
theorem d_N_judge_33 : decode b_N_judge 33 = .ok (.iload_n 3, 1) := by decide +kernel
theorem d_N_judge_34 : decode b_N_judge 34 = .ok (.if_icmp .eq 20, 3) := by decide +kernel
theorem d_N_judge_37 : decode b_N_judge 37 = .ok (.iload_n 1, 1) := by decide +kernel
theorem d_N_judge_38 : decode b_N_judge 38 = .ok (.iload 4, 2) := by decide +kernel
theorem d_N_judge_40 : decode b_N_judge 40 = .ok (.iconst 4, 1) := by decide +kernel
theorem d_N_judge_41 : decode b_N_judge 41 = .ok (.ishl, 1) := by decide +kernel
theorem d_N_judge_42 : decode b_N_judge 42 = .ok (.if_icmp .eq 12, 3) := by decide +kernel
theorem d_N_judge_45 : decode b_N_judge 45 = .ok (.iload_n 1, 1) := by decide +kernel
theorem d_N_judge_46 : decode b_N_judge 46 = .ok (.iload 5, 2) := by decide +kernel
theorem d_N_judge_48 : decode b_N_judge 48 = .ok (.bipush 8, 2) := by decide +kernel
theorem d_N_judge_50 : decode b_N_judge 50 = .ok (.ishl, 1) := by decide +kernel
theorem d_N_judge_51 : decode b_N_judge 51 = .ok (.if_icmp .ne 10, 3) := by decide +kernel
theorem d_N_judge_54 : decode b_N_judge 54 = .ok (.aload_n 2, 1) := by decide +kernel
theorem d_N_judge_55 : decode b_N_judge 55 = .ok (.iload_n 1, 1) := by decide +kernel
theorem d_N_judge_56 : decode b_N_judge 56 = .ok (.putfield 29, 3) := by decide +kernel
theorem d_N_judge_59 : decode b_N_judge 59 = .ok (.iconst 1, 1) := by decide +kernel
theorem d_N_judge_60 : decode b_N_judge 60 = .ok (.ireturn, 1) := by decide +kernel
theorem d_N_judge_61 : decode b_N_judge 61 = .ok (.aload_n 2, 1) := by decide +kernel
theorem d_N_judge_62 : decode b_N_judge 62 = .ok (.aload_n 0, 1) := by decide +kernel
theorem d_N_judge_63 : decode b_N_judge 63 = .ok (.iload_n 3, 1) := by decide +kernel
theorem d_N_judge_64 : decode b_N_judge 64 = .ok (.iload 4, 2) := by decide +kernel
theorem d_N_judge_66 : decode b_N_judge 66 = .ok (.iload 5, 2) := by decide +kernel
theorem d_N_judge_68 : decode b_N_judge 68 = .ok (.invokevirtual 33, 3) := by decide +kernel
theorem d_N_judge_71 : decode b_N_judge 71 = .ok (.putfield 37, 3) := by decide +kernel
theorem d_N_judge_74 : decode b_N_judge 74 = .ok (.aload_n 2, 1) := by decide +kernel
theorem d_N_judge_75 : decode b_N_judge 75 = .ok (.getfield 37, 3) := by decide +kernel
theorem d_N_judge_78 : decode b_N_judge 78 = .ok (.lconst 0, 1) := by decide +kernel
theorem d_N_judge_79 : decode b_N_judge 79 = .ok (.lcmp, 1) := by decide +kernel
theorem d_N_judge_80 : decode b_N_judge 80 = .ok (.ifCond .ne 7, 3) := by decide +kernel
theorem d_N_judge_83 : decode b_N_judge 83 = .ok (.iconst 2, 1) := by decide +kernel
theorem d_N_judge_84 : decode b_N_judge 84 = .ok (.goto 4, 3) := by decide +kernel
theorem d_N_judge_87 : decode b_N_judge 87 = .ok (.iconst 1, 1) := by decide +kernel
theorem d_N_judge_88 : decode b_N_judge 88 = .ok (.ireturn, 1) := by decide +kernel
abbrev w_K_columnOf : List Cond := .code y_K_columnOf b_K_columnOf 2 (some .int) :: wA
abbrev rm_K_columnOf : Room := { frames := 0, cells := 0, slots := 0, locals := 0 }
theorem d_K_columnOf_0 : decode b_K_columnOf 0 = .ok (.iload_n 1, 1) := by decide +kernel
theorem d_K_columnOf_1 : decode b_K_columnOf 1 = .ok (.ifCond .lt 21, 3) := by decide +kernel
theorem d_K_columnOf_4 : decode b_K_columnOf 4 = .ok (.iload_n 1, 1) := by decide +kernel
theorem d_K_columnOf_5 : decode b_K_columnOf 5 = .ok (.aload_n 0, 1) := by decide +kernel
theorem d_K_columnOf_6 : decode b_K_columnOf 6 = .ok (.getfield 16, 3) := by decide +kernel
theorem d_K_columnOf_9 : decode b_K_columnOf 9 = .ok (.arraylength, 1) := by decide +kernel
theorem d_K_columnOf_10 : decode b_K_columnOf 10 = .ok (.if_icmp .ge 12, 3) := by decide +kernel
theorem d_K_columnOf_13 : decode b_K_columnOf 13 = .ok (.aload_n 0, 1) := by decide +kernel
theorem d_K_columnOf_14 : decode b_K_columnOf 14 = .ok (.getfield 16, 3) := by decide +kernel
theorem d_K_columnOf_17 : decode b_K_columnOf 17 = .ok (.iload_n 1, 1) := by decide +kernel
theorem d_K_columnOf_18 : decode b_K_columnOf 18 = .ok (.iaload, 1) := by decide +kernel
theorem d_K_columnOf_19 : decode b_K_columnOf 19 = .ok (.goto 4, 3) := by decide +kernel
theorem d_K_columnOf_22 : decode b_K_columnOf 22 = .ok (.iconst 0, 1) := by decide +kernel
theorem d_K_columnOf_23 : decode b_K_columnOf 23 = .ok (.ireturn, 1) := by decide +kernel
abbrev w_K_greatestRowSum : List Cond := .code y_K_greatestRowSum b_K_greatestRowSum 1 (some .int) :: wA
abbrev rm_K_greatestRowSum : Room := { frames := 0, cells := 0, slots := 0, locals := 0 }
theorem d_K_greatestRowSum_0 : decode b_K_greatestRowSum 0 = .ok (.iconst 0, 1) := by decide +kernel
theorem d_K_greatestRowSum_1 : decode b_K_greatestRowSum 1 = .ok (.ireturn, 1) := by decide +kernel
set_option maxHeartbeats 4000000 in
set_option maxRecDepth 100000 in
theorem c_P_marksOf (l : Launch) (D : va_G) (g : Nat → ClassId) (sz : Nat) (ws : va_W) (M R : Nat) (hM57 : M ≤ 57) (hR : R = 1 ∨ R = 2 ∨ R = 3 ∨ R = 4) : Met l y_P_marksOf w_P_marksOf rm_P_marksOf (va_Pc [.int (nI M), .int (nI R)] (pP D (tyl g) (ws) sz)) (va_Qr (fun (u : Unit) => True) (fun u (a : Nat) => qB D (va_A (ws) sz) ((a, .inl (g 0, M, .inl (fun j => nI (if j < M then mkP R j else 0)))) :: ws)) (va_A (ws) sz)) 1 57 (va_A (ws) sz) := by
  refine Met.ofW (cc := b_P_marksOf) (maxL := 5) (ret := (some (.array .int))) (by decide +kernel) rfl ?_
  intro p e s m args below meth c s₁ Bq hml hv
  have hx := Bq.exec
  have hb := Bq.bytes
  have hr := Bq.returns
  have hts : ∀ w ∈ wA, w.before args s = true := fun w h => atoms_spec (ws := w_P_marksOf) Bq.pre w (List.mem_cons_of_mem _ h)
  have hown : s.vm.findClass R_P = some m.cls := findClass_of_methodNamed Bq.named
  have hlocks := Bq.notSynchronized
  obtain ⟨rfl, hsz, hP, hKK, hD0⟩ := hv
  have hK := hKK.1
  subst hsz
  have hD := hD0.self (sz := s.heap.size)
  generalize hAe : va_A (ws) s.heap.size = A at hD ⊢
  have hA : ∀ q : Nat, s.heap.size ≤ q → A q := fun q h => by rw [← hAe]; exact Or.inr h
  have hS : va_S A s.heap s.heap [] := va_S.rf
  have hl := lv_entry ([.int (nI M), .int (nI R)]) (n := 5) (Nat.le_of_ble_eq_true rfl)
  rw [lg_entry_eq]
  generalize (lg_sl ([.int (nI M), .int (nI R)]) ++ List.replicate (5 - (lg_sl ([.int (nI M), .int (nI R)])).length) Slot.unset).toArray = ls at hl ⊢
  have hl : lv_has ls 5 [(0, .int (nI M)), (1, .int (nI R))] := hl
  generalize hQ : MQ below (va_Qr (fun (u : Unit) => True) (fun u (a : Nat) => qB D (A) ((a, .inl (g 0, M, .inl (fun j => nI (if j < M then mkP R j else 0)))) :: ws)) (A)) [.int (nI M), .int (nI R)].toArray s 1 57 A = Q
  have hRc : (headSpec w_P_marksOf rm_P_marksOf).room.cells = 1 := rfl
  have hRs : (headSpec w_P_marksOf rm_P_marksOf).room.slots = 57 := rfl
  refine lv_iload_n hx hb d_P_marksOf_0 rfl (lv_at hl 0 rfl) ?_
  refine lx_newi (N := M) hx hb (hts _ m_117) hK hP hD hS hA (by omega) (Nat.le_of_ble_eq_true rfl) (by first | omega | exact Nat.le_of_ble_eq_true rfl) d_P_marksOf_1 (fun am H hP hD hS => ?_)
  refine W.widen (k := 1) (n := M) (by omega) (by omega) ?_
  have hP : va_P D vwCl ((am, .inl (g 0, M, .inl (fun _ => nI 0))) :: ws) H := hP
  have hD : va_D A ((am, .inl (g 0, M, .inl (fun _ => nI 0))) :: ws) := hD
  have hP : va_P D vwCl ((am, .inl (g 0, M, .inl (fun j => nI (if j < 0 then mkP R j else 0)))) :: ws) H := wp_at 0 hP rfl (fun j hj => rfl)
  have hD : va_D A ((am, .inl (g 0, M, .inl (fun j => nI (if j < 0 then mkP R j else 0)))) :: ws) := hD.set (p := 0) rfl
  have lp9 : ∀ (n : Nat) (k : Nat) (ls : Array Slot) (H : Heap) (locs : List Loc), (M + 1 ≤ k + n) → (k ≤ M) → lv_has ls 5 [(0, .int (nI M)), (1, .int (nI R)), (2, .ref am), (3, .int (nI (k % R))), (4, .int (nI k))] → va_P D vwCl ((am, .inl (g 0, M, .inl (fun j => nI (if j < k then mkP R j else 0)))) :: ws) H → va_D A ((am, .inl (g 0, M, .inl (fun j => nI (if j < k then mkP R j else 0)))) :: ws) → va_S A s.heap H locs → W p l e (headSpec w_P_marksOf rm_P_marksOf).room s m [.int (nI M), .int (nI R)].toArray below meth c H locs 1 M Q (F0 m 9 ls []) := by
    intro n
    induction n with
    | zero => intro k ls H locs hfu hk _ _ _ _; exact absurd hfu (by omega)
    | succ n ih =>
      intro k ls H locs hfu hk hl hP hD hS
      refine lv_iload hx hb d_P_marksOf_9 (lv_at hl 4 rfl) ?_
      refine lv_iload_n hx hb d_P_marksOf_11 rfl (lv_at hl 0 rfl) ?_
      refine lx_icmp_ge (tgt := 43) hx hb d_P_marksOf_12 (by decide) (by omega) (by omega) (fun c12 => ?_) (fun c12 => ?_)
      · skip
        obtain rfl : M = k := by omega
        refine lv_aload_n hx hb d_P_marksOf_43 rfl (lv_at hl 2 rfl) ?_
        refine W.widen (k := 1) (n := 57) (by omega) (by omega) ?_
        rw [← hQ]
        refine W.aret (v := .ref am) hx hb hr (by first | exact Or.inl ⟨_, rfl⟩ | exact Or.inr ⟨_, rfl⟩) (Or.inr ⟨_, rfl⟩) ?_ hS.2.2 d_P_marksOf_44
        exact fun t ht hW => ⟨⟨(), am, rfl, trivial, by rw [ht]; exact hP, hD⟩, hS.F ht⟩
      · skip
        have hm : k % R < R := Nat.mod_lt _ (by omega)
        refine lv_aload_n hx hb d_P_marksOf_15 rfl (lv_at hl 2 rfl) ?_
        refine lv_iload hx hb d_P_marksOf_16 (lv_at hl 4 rfl) ?_
        refine lv_iconst (v := nI 1) hx hb d_P_marksOf_18 (by decide) ?_
        refine lv_iload_n hx hb d_P_marksOf_19 rfl (lv_at hl 3 rfl) ?_
        refine lx_ishl (z := nI (mkP R k)) hx hb d_P_marksOf_20 (xn_shl 1 (by omega)) ?_
        refine lx_iast (f' := fun j => nI (if j < k + 1 then mkP R j else 0)) hx hb hK hP hD hS 0 0 rfl rfl (j := k) (by omega) (by omega) (upd_lt (fun _ => 0) (mkP R) k) d_P_marksOf_21 (fun H locs hP hD hS => ?_)
        have hP : va_P D vwCl ((am, .inl (g 0, M, .inl (fun j => nI (if j < k + 1 then mkP R j else 0)))) :: ws) H := hP
        have hD : va_D A ((am, .inl (g 0, M, .inl (fun j => nI (if j < k + 1 then mkP R j else 0)))) :: ws) := hD
        have j36 : ∀  (ls : Array Slot) (H : Heap) (locs : List Loc), lv_has ls 5 [(0, .int (nI M)), (1, .int (nI R)), (2, .ref am), (4, .int (nI k))] → va_P D vwCl ((am, .inl (g 0, M, .inl (fun j => nI (if j < k + 1 then mkP R j else 0)))) :: ws) H → va_D A ((am, .inl (g 0, M, .inl (fun j => nI (if j < k + 1 then mkP R j else 0)))) :: ws) → va_S A s.heap H locs → W p l e (headSpec w_P_marksOf rm_P_marksOf).room s m [.int (nI M), .int (nI R)].toArray below meth c H locs 1 M Q (F0 m 36 ls [.int (nI ((k + 1) % R))]) := by
          intro  ls H locs  hl hP hD hS
          refine lv_istore_n (lv' := [(3, .int (nI ((k + 1) % R))), (0, .int (nI M)), (1, .int (nI R)), (2, .ref am), (4, .int (nI k))]) hx hb d_P_marksOf_36 rfl hl (by decide) rfl (fun ls hl => ?_)
          refine lv_iinc (v := nI (k + 1)) (lv' := [(4, .int (nI (k + 1))), (3, .int (nI ((k + 1) % R))), (0, .int (nI M)), (1, .int (nI R)), (2, .ref am)]) hx hb d_P_marksOf_37 hl (k := 4) rfl (nI_1 k) (by decide) rfl (fun ls hl => ?_)
          refine lv_goto (tgt := 9) hx hb d_P_marksOf_40 (by decide) ?_
          exact ih (k + 1) _ _ _ (by omega) (by omega) (lv_sub hl [2, 3, 4, 1, 0] rfl) hP hD hS
        refine lv_iload_n hx hb d_P_marksOf_22 rfl (lv_at hl 3 rfl) ?_
        refine lv_iconst (v := nI 1) hx hb d_P_marksOf_23 (by decide) ?_
        refine lx_iadd (z := nI (k % R + 1)) hx hb d_P_marksOf_24 (nI_add (k % R) 1) ?_
        refine lv_iload_n hx hb d_P_marksOf_25 rfl (lv_at hl 1 rfl) ?_
        refine lx_icmp_ge (tgt := 35) hx hb d_P_marksOf_26 (by decide) (by omega) (by omega) (fun c26 => ?_) (fun c26 => ?_)
        · skip
          refine lv_iconst (v := nI 0) hx hb d_P_marksOf_35 (by decide) ?_
          rw [show (0 : Nat) = (k + 1) % R by rw [mod_next hR, if_neg (by omega)]]
          exact j36  _ _ _  (lv_sub hl [0, 1, 2, 4] rfl) hP hD hS
        · skip
          refine lv_iload_n hx hb d_P_marksOf_29 rfl (lv_at hl 3 rfl) ?_
          refine lv_iconst (v := nI 1) hx hb d_P_marksOf_30 (by decide) ?_
          refine lx_iadd (z := nI (k % R + 1)) hx hb d_P_marksOf_31 (nI_add (k % R) 1) ?_
          refine lv_goto (tgt := 36) hx hb d_P_marksOf_32 (by decide) ?_
          rw [show k % R + 1 = (k + 1) % R by rw [mod_next hR, if_pos (by omega)]]
          exact j36  _ _ _  (lv_sub hl [0, 1, 2, 4] rfl) hP hD hS
  refine lv_astore_n (lv' := [(2, .ref am), (0, .int (nI M)), (1, .int (nI R))]) hx hb d_P_marksOf_3 rfl hl (by decide) rfl (fun ls hl => ?_)
  refine lv_iconst (v := nI 0) hx hb d_P_marksOf_4 (by decide) ?_
  refine lv_istore_n (lv' := [(3, .int (nI 0)), (2, .ref am), (0, .int (nI M)), (1, .int (nI R))]) hx hb d_P_marksOf_5 rfl hl (by decide) rfl (fun ls hl => ?_)
  refine lv_iconst (v := nI 0) hx hb d_P_marksOf_6 (by decide) ?_
  refine lv_istore (lv' := [(4, .int (nI 0)), (3, .int (nI 0)), (2, .ref am), (0, .int (nI M)), (1, .int (nI R))]) hx hb d_P_marksOf_7 hl (by decide) rfl (fun ls hl => ?_)
  have hl : lv_has ls 5 [(4, .int (nI 0)), (3, .int (nI (0 % R))), (2, .ref am), (0, .int (nI M)), (1, .int (nI R))] := by rw [Nat.zero_mod]; exact hl
  exact lp9 (M + 1) 0 _ _ _ (by omega) (by omega) (lv_sub hl [3, 4, 2, 1, 0] rfl) hP hD hS
set_option maxHeartbeats 4000000 in
set_option maxRecDepth 100000 in
theorem c_P_init (l : Launch) (D : va_G) (g : Nat → ClassId) (sz : Nat) (ws : va_W) (M R o : Nat) (hM57 : M ≤ 57) (hR : R = 1 ∨ R = 2 ∨ R = 3 ∨ R = 4) : Met l y_P_init w_P_init rm_P_init (va_Pc [.ref o, .int (nI M), .int (nI R)] (pP D (tyl g) ((o, .inr (2, [.int (nI 0), .int (nI 0), .null])) :: ws) sz)) (va_Qv (fun (u : Nat) => True) (fun u => qB D (va_A ((o, .inr (2, [.int (nI 0), .int (nI 0), .null])) :: ws) sz) ((o, .inr (2, [.int (nI M), .int (nI R), .ref u])) :: (u, .inl (g 0, M, .inl (fun j => nI (if j < M then mkP R j else 0)))) :: ws)) (va_A ((o, .inr (2, [.int (nI 0), .int (nI 0), .null])) :: ws) sz)) 1 57 (va_A ((o, .inr (2, [.int (nI 0), .int (nI 0), .null])) :: ws) sz) := by
  refine Met.ofW (cc := b_P_init) (maxL := 3) (ret := none) (by decide +kernel) rfl ?_
  intro p e s m args below meth c s₁ Bq hml hv
  have hx := Bq.exec
  have hb := Bq.bytes
  have hr := Bq.returns
  have hts : ∀ w ∈ wA, w.before args s = true := fun w h => atoms_spec (ws := w_P_init) Bq.pre w (List.mem_cons_of_mem _ h)
  have hown : s.vm.findClass R_P = some m.cls := findClass_of_methodNamed Bq.named
  have hlocks := Bq.notSynchronized
  have hin : meth.name = "<init>" := (name_of_methodNamed Bq.named Bq.method).1
  obtain ⟨rfl, hsz, hP, hKK, hD0⟩ := hv
  have hK := hKK.1
  subst hsz
  have hD := hD0.self (sz := s.heap.size)
  generalize hAe : va_A ((o, .inr (2, [.int (nI 0), .int (nI 0), .null])) :: ws) s.heap.size = A at hD ⊢
  have hA : ∀ q : Nat, s.heap.size ≤ q → A q := fun q h => by rw [← hAe]; exact Or.inr h
  have hS : va_S A s.heap s.heap [] := va_S.rf
  have hl := lv_entry ([.ref o, .int (nI M), .int (nI R)]) (n := 3) (Nat.le_of_ble_eq_true rfl)
  rw [lg_entry_eq]
  generalize (lg_sl ([.ref o, .int (nI M), .int (nI R)]) ++ List.replicate (3 - (lg_sl ([.ref o, .int (nI M), .int (nI R)])).length) Slot.unset).toArray = ls at hl ⊢
  have hl : lv_has ls 3 [(0, .ref o), (1, .int (nI M)), (2, .int (nI R))] := hl
  generalize hQ : MQ below (va_Qv (fun (u : Nat) => True) (fun u => qB D (A) ((o, .inr (2, [.int (nI M), .int (nI R), .ref u])) :: (u, .inl (g 0, M, .inl (fun j => nI (if j < M then mkP R j else 0)))) :: ws)) (A)) [.ref o, .int (nI M), .int (nI R)].toArray s 1 57 A = Q
  have hRc : (headSpec w_P_init rm_P_init).room.cells = 1 := rfl
  have hRs : (headSpec w_P_init rm_P_init).room.slots = 57 := rfl
  refine lv_aload_n hx hb d_P_init_0 rfl (lv_at hl 0 rfl) ?_
  refine lv_iload_n hx hb d_P_init_1 rfl (lv_at hl 1 rfl) ?_
  refine lv_iload_n hx hb d_P_init_2 rfl (lv_at hl 2 rfl) ?_
  refine lv_iload_n hx hb d_P_init_3 rfl (lv_at hl 1 rfl) ?_
  refine lv_iload_n hx hb d_P_init_4 rfl (lv_at hl 2 rfl) ?_
  refine lc_Sr (As := [.int (nI M), .int (nI R)]) (rest := [.int (nI R), .int (nI M), .ref o]) ⟨hx, hb, hml, hown, hts⟩ (c_P_marksOf l D g _ _ M R hM57 hR) (kS 2 hts m_159 m_157 m_158 m_36 (by decide +kernel) ⟨Nat.le_of_ble_eq_true rfl, Nat.le_of_ble_eq_true rfl⟩) hKK hP hD hS hA hl.1 rfl rfl (Nat.le_of_ble_eq_true rfl) d_P_init_5 ⟨Nat.le_of_ble_eq_true rfl, Nat.le_of_ble_eq_true rfl⟩ (fun u am H locs _ hP hD hS => ?_)
  refine W.widen (k := 1) (n := 57) (by omega) (by omega) ?_
  have hP : va_P D vwCl ((am, .inl (g 0, M, .inl (fun j => nI (if j < M then mkP R j else 0)))) :: (o, .inr (2, [.int (nI 0), .int (nI 0), .null])) :: ws) H := hP
  have hD : va_D A ((am, .inl (g 0, M, .inl (fun j => nI (if j < M then mkP R j else 0)))) :: (o, .inr (2, [.int (nI 0), .int (nI 0), .null])) :: ws) := hD
  have hP : va_P D vwCl ((o, .inr (2, [.int (nI 0), .int (nI 0), .null])) :: (am, .inl (g 0, M, .inl (fun j => nI (if j < M then mkP R j else 0)))) :: ws) H := wp_pull [(am, .inl (g 0, M, .inl (fun j => nI (if j < M then mkP R j else 0))))] hP
  have hD : va_D A ((o, .inr (2, [.int (nI 0), .int (nI 0), .null])) :: (am, .inl (g 0, M, .inl (fun j => nI (if j < M then mkP R j else 0)))) :: ws) := wd_pull [(am, .inl (g 0, M, .inl (fun j => nI (if j < M then mkP R j else 0))))] hD
  refine lc_Iv (b := o) (As := [.int (nI M), .int (nI R), .ref am]) (rest := []) ⟨hx, hb, hml, hown, hts⟩ (c_K_init_P l D g _ _ o am (nI M) (nI R)) (kI 3 hts m_129 m_160 m_128 m_31 rfl (by decide +kernel) ⟨Nat.le_of_ble_eq_true rfl, Nat.le_of_ble_eq_true rfl⟩) hKK hP hD hS hA hl.1 rfl rfl (Nat.le_of_ble_eq_true rfl) d_P_init_8 ⟨Nat.le_of_ble_eq_true rfl, Nat.le_of_ble_eq_true rfl⟩ (fun u H locs _ hP hD hS => ?_)
  have hP : va_P D vwCl ((o, .inr (2, [.int (nI M), .int (nI R), .ref am])) :: (am, .inl (g 0, M, .inl (fun j => nI (if j < M then mkP R j else 0)))) :: ws) H := hP
  have hD : va_D A ((o, .inr (2, [.int (nI M), .int (nI R), .ref am])) :: (am, .inl (g 0, M, .inl (fun j => nI (if j < M then mkP R j else 0)))) :: ws) := hD
  rw [← hQ]
  refine W.vret hx hb hr ?_ hS.2.2 d_P_init_11
  exact fun t ht hW => ⟨⟨am, rfl, trivial, by rw [ht]; exact hP, hD⟩, hS.F ht⟩
set_option maxHeartbeats 4000000 in
set_option maxRecDepth 100000 in
theorem c_N_timesG (l : Launch) (D : va_G) (g : Nat → ClassId) (sz : Nat) (ws : va_W) (e0 : Nat) (he0 : e0 < 16) : Met l y_N_timesG w_N_timesG rm_N_timesG (va_Pc [.int (nI e0)] (pP D (tyl g) (ws) sz)) (va_Qi (fun (r : Int32) (u : Unit) => r = nI (tg e0)) (fun u => qB D (va_A (ws) sz) (ws)) (va_A (ws) sz)) 0 0 (va_A (ws) sz) := by
  refine Met.ofW (cc := b_N_timesG) (maxL := 2) (ret := (some .int)) (by decide +kernel) rfl ?_
  intro p e s m args below meth c s₁ Bq hml hv
  have hx := Bq.exec
  have hb := Bq.bytes
  have hr := Bq.returns
  have hts : ∀ w ∈ wA, w.before args s = true := fun w h => atoms_spec (ws := w_N_timesG) Bq.pre w (List.mem_cons_of_mem _ h)
  have hown : s.vm.findClass R_N = some m.cls := findClass_of_methodNamed Bq.named
  have hlocks := Bq.notSynchronized
  obtain ⟨rfl, hsz, hP, hKK, hD0⟩ := hv
  have hK := hKK.1
  subst hsz
  have hD := hD0.self (sz := s.heap.size)
  generalize hAe : va_A (ws) s.heap.size = A at hD ⊢
  have hA : ∀ q : Nat, s.heap.size ≤ q → A q := fun q h => by rw [← hAe]; exact Or.inr h
  have hS : va_S A s.heap s.heap [] := va_S.rf
  have hl := lv_entry ([.int (nI e0)]) (n := 2) (Nat.le_of_ble_eq_true rfl)
  rw [lg_entry_eq]
  generalize (lg_sl ([.int (nI e0)]) ++ List.replicate (2 - (lg_sl ([.int (nI e0)])).length) Slot.unset).toArray = ls at hl ⊢
  have hl : lv_has ls 2 [(0, .int (nI e0))] := hl
  generalize hQ : MQ below (va_Qi (fun (r : Int32) (u : Unit) => r = nI (tg e0)) (fun u => qB D (A) (ws)) (A)) [.int (nI e0)].toArray s 0 0 A = Q
  refine lv_iload_n hx hb d_N_timesG_0 rfl (lv_at hl 0 rfl) ?_
  refine lv_iconst (v := nI 1) hx hb d_N_timesG_1 (by decide) ?_
  refine lx_ishl (z := nI (2 * e0)) hx hb d_N_timesG_2 ((xn_shl e0 (by decide)).trans (by rw [Nat.shiftLeft_eq, Nat.mul_comm])) ?_
  refine lv_istore_n (lv' := [(1, .int (nI (2 * e0))), (0, .int (nI e0))]) hx hb d_N_timesG_3 rfl hl (by decide) rfl (fun ls hl => ?_)
  refine lv_iload_n hx hb d_N_timesG_4 rfl (lv_at hl 0 rfl) ?_
  refine lv_bipush (v := nI 15) hx hb d_N_timesG_5 (by decide) ?_
  refine lx_icmp_le (tgt := 17) hx hb d_N_timesG_7 (by decide) (by omega) (by omega) (fun c7 => ?_) (fun c7 => ?_)
  · skip
    refine lv_iload_n hx hb d_N_timesG_17 rfl (lv_at hl 0 rfl) ?_
    rw [← hQ]
    refine W.iret (v := nI (2 * e0)) hx hb hr ?_ hS.2.2 d_N_timesG_18
    exact fun t ht hW => ⟨⟨nI (2 * e0), (), rfl, (by unfold tg; rw [if_neg (by omega)]), by rw [ht]; exact hP, hD⟩, hS.F ht⟩
  · skip
    refine lv_iload_n hx hb d_N_timesG_10 rfl (lv_at hl 0 rfl) ?_
    refine lv_bipush (v := nI 19) hx hb d_N_timesG_11 (by decide) ?_
    refine lx_ixor (z := nI ((2 * e0) ^^^ 19)) hx hb d_N_timesG_13 (xn_xor (2 * e0) 19) ?_
    refine lv_goto (tgt := 18) hx hb d_N_timesG_14 (by decide) ?_
    rw [← hQ]
    refine W.iret (v := nI ((2 * e0) ^^^ 19)) hx hb hr ?_ hS.2.2 d_N_timesG_18
    exact fun t ht hW => ⟨⟨nI ((2 * e0) ^^^ 19), (), rfl, (by unfold tg; rw [if_pos (by omega)]), by rw [ht]; exact hP, hD⟩, hS.F ht⟩
set_option maxHeartbeats 4000000 in
set_option maxRecDepth 100000 in
theorem c_N_raised (l : Launch) (D : va_G) (g : Nat → ClassId) (sz : Nat) (ws : va_W) (e0 p0 : Nat) (he0 : e0 < 16) (hp0 : p0 < 64) : Met l y_N_raised w_N_raised rm_N_raised (va_Pc [.int (nI e0), .int (nI p0)] (pP D (tyl g) (ws) sz)) (va_Qi (fun (r : Int32) (u : Unit) => r = nI (rz e0 p0)) (fun u => qB D (va_A (ws) sz) (ws)) (va_A (ws) sz)) 0 0 (va_A (ws) sz) := by
  refine Met.ofW (cc := b_N_raised) (maxL := 4) (ret := (some .int)) (by decide +kernel) rfl ?_
  intro p e s m args below meth c s₁ Bq hml hv
  have hx := Bq.exec
  have hb := Bq.bytes
  have hr := Bq.returns
  have hts : ∀ w ∈ wA, w.before args s = true := fun w h => atoms_spec (ws := w_N_raised) Bq.pre w (List.mem_cons_of_mem _ h)
  have hown : s.vm.findClass R_N = some m.cls := findClass_of_methodNamed Bq.named
  have hlocks := Bq.notSynchronized
  obtain ⟨rfl, hsz, hP, hKK, hD0⟩ := hv
  have hK := hKK.1
  subst hsz
  have hD := hD0.self (sz := s.heap.size)
  generalize hAe : va_A (ws) s.heap.size = A at hD ⊢
  have hA : ∀ q : Nat, s.heap.size ≤ q → A q := fun q h => by rw [← hAe]; exact Or.inr h
  have hS : va_S A s.heap s.heap [] := va_S.rf
  have hl := lv_entry ([.int (nI e0), .int (nI p0)]) (n := 4) (Nat.le_of_ble_eq_true rfl)
  rw [lg_entry_eq]
  generalize (lg_sl ([.int (nI e0), .int (nI p0)]) ++ List.replicate (4 - (lg_sl ([.int (nI e0), .int (nI p0)])).length) Slot.unset).toArray = ls at hl ⊢
  have hl : lv_has ls 4 [(0, .int (nI e0)), (1, .int (nI p0))] := hl
  generalize hQ : MQ below (va_Qi (fun (r : Int32) (u : Unit) => r = nI (rz e0 p0)) (fun u => qB D (A) (ws)) (A)) [.int (nI e0), .int (nI p0)].toArray s 0 0 A = Q
  have lp4 : ∀ (n : Nat) (k : Nat) (ls : Array Slot) (H : Heap) (locs : List Loc), (p0 + 1 ≤ k + n) → (k ≤ p0) → lv_has ls 4 [(1, .int (nI p0)), (2, .int (nI (rz e0 k))), (3, .int (nI k))] → va_P D vwCl (ws) H → va_D A (ws) → va_S A s.heap H locs → W p l e (headSpec w_N_raised rm_N_raised).room s m [.int (nI e0), .int (nI p0)].toArray below meth c H locs 0 0 Q (F0 m 4 ls []) := by
    intro n
    induction n with
    | zero => intro k ls H locs hfu hk _ _ _ _; exact absurd hfu (by omega)
    | succ n ih =>
      intro k ls H locs hfu hk hl hP hD hS
      refine lv_iload_n hx hb d_N_raised_4 rfl (lv_at hl 2 rfl) ?_
      refine lv_iload_n hx hb d_N_raised_5 rfl (lv_at hl 0 rfl) ?_
      refine lx_icmp_ge (tgt := 20) hx hb d_N_raised_6 (by decide) (by omega) (by omega) (fun c6 => ?_) (fun c6 => ?_)
      · skip
        refine lv_iload_n hx hb d_N_raised_20 rfl (lv_at hl 1 rfl) ?_
        rw [← hQ]
        refine W.iret (v := nI (rz e0 k)) hx hb hr ?_ hS.2.2 d_N_raised_21
        exact fun t ht hW => ⟨⟨nI (rz e0 k), (), rfl, (by rw [show k = p0 by omega]), by rw [ht]; exact hP, hD⟩, hS.F ht⟩
      · skip
        refine lv_iload_n hx hb d_N_raised_9 rfl (lv_at hl 1 rfl) ?_
        refine lc_Si (As := [.int (nI (rz e0 k))]) (rest := []) ⟨hx, hb, hml, hown, hts⟩ (c_N_timesG l D g _ _ (rz e0 k) (rz_lt he0 k)) (kS 1 hts m_178 m_176 m_177 m_37 (by decide +kernel) ⟨Nat.le_of_ble_eq_true rfl, Nat.le_of_ble_eq_true rfl⟩) hKK hP hD hS hA hl.1 rfl rfl (Nat.le_of_ble_eq_true rfl) d_N_raised_10 ⟨Nat.le_of_ble_eq_true rfl, Nat.le_of_ble_eq_true rfl⟩ (fun r1 u H locs e1 hP hD hS => ?_)
        obtain rfl : r1 = nI (rz e0 (k + 1)) := e1
        refine lv_istore_n (lv' := [(2, .int (nI (rz e0 (k + 1)))), (1, .int (nI p0)), (3, .int (nI k))]) hx hb d_N_raised_13 rfl hl (by decide) rfl (fun ls hl => ?_)
        refine lv_iinc (v := nI (k + 1)) (lv' := [(3, .int (nI (k + 1))), (2, .int (nI (rz e0 (k + 1)))), (1, .int (nI p0))]) hx hb d_N_raised_14 hl (k := 2) rfl (nI_1 k) (by decide) rfl (fun ls hl => ?_)
        refine lv_goto (tgt := 4) hx hb d_N_raised_17 (by decide) ?_
        exact ih (k + 1) _ _ _ (by omega) (by omega) (lv_sub hl [2, 1, 0] rfl) hP hD hS
  refine lv_iload_n hx hb d_N_raised_0 rfl (lv_at hl 0 rfl) ?_
  refine lv_istore_n (lv' := [(2, .int (nI e0)), (0, .int (nI e0)), (1, .int (nI p0))]) hx hb d_N_raised_1 rfl hl (by decide) rfl (fun ls hl => ?_)
  refine lv_iconst (v := nI 0) hx hb d_N_raised_2 (by decide) ?_
  refine lv_istore_n (lv' := [(3, .int (nI 0)), (2, .int (nI e0)), (0, .int (nI e0)), (1, .int (nI p0))]) hx hb d_N_raised_3 rfl hl (by decide) rfl (fun ls hl => ?_)
  have hl : lv_has ls 4 [(3, .int (nI 0)), (2, .int (nI (rz e0 0))), (0, .int (nI e0)), (1, .int (nI p0))] := by rw [show rz e0 0 = e0 from rfl]; exact hl
  exact lp4 (p0 + 1) 0 _ _ _ (by omega) (by omega) (lv_sub hl [3, 1, 0] rfl) hP hD hS
set_option maxHeartbeats 4000000 in
set_option maxRecDepth 100000 in
theorem c_N_marksOf (l : Launch) (D : va_G) (g : Nat → ClassId) (sz : Nat) (ws : va_W) (M : Nat) (hM57 : M ≤ 57) : Met l y_N_marksOf w_N_marksOf rm_N_marksOf (va_Pc [.int (nI M)] (pP D (tyl g) (ws) sz)) (va_Qr (fun (u : Unit) => True) (fun u (a : Nat) => qB D (va_A (ws) sz) ((a, .inl (g 0, M, .inl (fun j => nI (if j < M then mkN j else 0)))) :: ws)) (va_A (ws) sz)) 1 57 (va_A (ws) sz) := by
  refine Met.ofW (cc := b_N_marksOf) (maxL := 7) (ret := (some (.array .int))) (by decide +kernel) rfl ?_
  intro p e s m args below meth c s₁ Bq hml hv
  have hx := Bq.exec
  have hb := Bq.bytes
  have hr := Bq.returns
  have hts : ∀ w ∈ wA, w.before args s = true := fun w h => atoms_spec (ws := w_N_marksOf) Bq.pre w (List.mem_cons_of_mem _ h)
  have hown : s.vm.findClass R_N = some m.cls := findClass_of_methodNamed Bq.named
  have hlocks := Bq.notSynchronized
  obtain ⟨rfl, hsz, hP, hKK, hD0⟩ := hv
  have hK := hKK.1
  subst hsz
  have hD := hD0.self (sz := s.heap.size)
  generalize hAe : va_A (ws) s.heap.size = A at hD ⊢
  have hA : ∀ q : Nat, s.heap.size ≤ q → A q := fun q h => by rw [← hAe]; exact Or.inr h
  have hS : va_S A s.heap s.heap [] := va_S.rf
  have hl := lv_entry ([.int (nI M)]) (n := 7) (Nat.le_of_ble_eq_true rfl)
  rw [lg_entry_eq]
  generalize (lg_sl ([.int (nI M)]) ++ List.replicate (7 - (lg_sl ([.int (nI M)])).length) Slot.unset).toArray = ls at hl ⊢
  have hl : lv_has ls 7 [(0, .int (nI M))] := hl
  generalize hQ : MQ below (va_Qr (fun (u : Unit) => True) (fun u (a : Nat) => qB D (A) ((a, .inl (g 0, M, .inl (fun j => nI (if j < M then mkN j else 0)))) :: ws)) (A)) [.int (nI M)].toArray s 1 57 A = Q
  have hRc : (headSpec w_N_marksOf rm_N_marksOf).room.cells = 1 := rfl
  have hRs : (headSpec w_N_marksOf rm_N_marksOf).room.slots = 57 := rfl
  refine lv_iload_n hx hb d_N_marksOf_0 rfl (lv_at hl 0 rfl) ?_
  refine lx_newi (N := M) hx hb (hts _ m_117) hK hP hD hS hA (by omega) (Nat.le_of_ble_eq_true rfl) (by first | omega | exact Nat.le_of_ble_eq_true rfl) d_N_marksOf_1 (fun am H hP hD hS => ?_)
  refine W.widen (k := 1) (n := M) (by omega) (by omega) ?_
  have hP : va_P D vwCl ((am, .inl (g 0, M, .inl (fun _ => nI 0))) :: ws) H := hP
  have hD : va_D A ((am, .inl (g 0, M, .inl (fun _ => nI 0))) :: ws) := hD
  have hP : va_P D vwCl ((am, .inl (g 0, M, .inl (fun j => nI (if j < 0 then mkN j else 0)))) :: ws) H := wp_at 0 hP rfl (fun j hj => rfl)
  have hD : va_D A ((am, .inl (g 0, M, .inl (fun j => nI (if j < 0 then mkN j else 0)))) :: ws) := hD.set (p := 0) rfl
  have lp6 : ∀ (n : Nat) (k : Nat) (ls : Array Slot) (H : Heap) (locs : List Loc), (M + 1 ≤ k + n) → (k ≤ M) → lv_has ls 7 [(0, .int (nI M)), (1, .ref am), (2, .int (nI k))] → va_P D vwCl ((am, .inl (g 0, M, .inl (fun j => nI (if j < k then mkN j else 0)))) :: ws) H → va_D A ((am, .inl (g 0, M, .inl (fun j => nI (if j < k then mkN j else 0)))) :: ws) → va_S A s.heap H locs → W p l e (headSpec w_N_marksOf rm_N_marksOf).room s m [.int (nI M)].toArray below meth c H locs 1 M Q (F0 m 6 ls []) := by
    intro n
    induction n with
    | zero => intro k ls H locs hfu hk _ _ _ _; exact absurd hfu (by omega)
    | succ n ih =>
      intro k ls H locs hfu hk hl hP hD hS
      refine lv_iload_n hx hb d_N_marksOf_6 rfl (lv_at hl 2 rfl) ?_
      refine lv_iload_n hx hb d_N_marksOf_7 rfl (lv_at hl 0 rfl) ?_
      refine lx_icmp_ge (tgt := 60) hx hb d_N_marksOf_8 (by decide) (by omega) (by omega) (fun c8 => ?_) (fun c8 => ?_)
      · skip
        obtain rfl : M = k := by omega
        refine lv_aload_n hx hb d_N_marksOf_60 rfl (lv_at hl 1 rfl) ?_
        refine W.widen (k := 1) (n := 57) (by omega) (by omega) ?_
        rw [← hQ]
        refine W.aret (v := .ref am) hx hb hr (by first | exact Or.inl ⟨_, rfl⟩ | exact Or.inr ⟨_, rfl⟩) (Or.inr ⟨_, rfl⟩) ?_ hS.2.2 d_N_marksOf_61
        exact fun t ht hW => ⟨⟨(), am, rfl, trivial, by rw [ht]; exact hP, hD⟩, hS.F ht⟩
      · skip
        have h1 : 1 <<< (k % 4) < 16 := by rcases (show k % 4 = 0 ∨ k % 4 = 1 ∨ k % 4 = 2 ∨ k % 4 = 3 by omega) with h | h | h | h <;> rw [h] <;> decide
        refine lv_iload_n hx hb d_N_marksOf_11 rfl (lv_at hl 2 rfl) ?_
        refine lv_iconst (v := nI 4) hx hb d_N_marksOf_12 (by decide) ?_
        refine lx_idiv (z := nI (k / 4)) hx hb d_N_marksOf_13 (by decide) (pk_div (by omega) (by decide) (by decide)) ?_
        refine lv_istore_n (lv' := [(3, .int (nI (k / 4))), (0, .int (nI M)), (1, .ref am), (2, .int (nI k))]) hx hb d_N_marksOf_14 rfl hl (by decide) rfl (fun ls hl => ?_)
        refine lv_iconst (v := nI 1) hx hb d_N_marksOf_15 (by decide) ?_
        refine lv_iload_n hx hb d_N_marksOf_16 rfl (lv_at hl 3 rfl) ?_
        refine lv_iconst (v := nI 4) hx hb d_N_marksOf_17 (by decide) ?_
        refine lx_irem (z := nI (k % 4)) hx hb d_N_marksOf_18 (by decide) (pk_rem (by omega) (by decide) (by decide)) ?_
        refine lx_ishl (z := nI (1 <<< (k % 4))) hx hb d_N_marksOf_19 (xn_shl 1 (by omega)) ?_
        refine lv_istore (lv' := [(4, .int (nI (1 <<< (k % 4)))), (3, .int (nI (k / 4))), (0, .int (nI M)), (1, .ref am), (2, .int (nI k))]) hx hb d_N_marksOf_20 hl (by decide) rfl (fun ls hl => ?_)
        refine lv_iload hx hb d_N_marksOf_22 (lv_at hl 0 rfl) ?_
        refine lv_iload_n hx hb d_N_marksOf_24 rfl (lv_at hl 1 rfl) ?_
        refine lc_Si (As := [.int (nI (1 <<< (k % 4))), .int (nI (k / 4))]) (rest := []) ⟨hx, hb, hml, hown, hts⟩ (c_N_raised l D g _ _ (1 <<< (k % 4)) (k / 4) h1 (by omega)) (kS 2 hts m_175 m_173 m_174 m_37 (by decide +kernel) ⟨Nat.le_of_ble_eq_true rfl, Nat.le_of_ble_eq_true rfl⟩) hKK hP hD hS hA hl.1 rfl rfl (Nat.le_of_ble_eq_true rfl) d_N_marksOf_25 ⟨Nat.le_of_ble_eq_true rfl, by first | omega | exact Nat.le_of_ble_eq_true rfl⟩ (fun r1 u H locs e1 hP hD hS => ?_)
        obtain rfl : r1 = nI (rz (1 <<< (k % 4)) (k / 4)) := e1
        refine lv_istore (lv' := [(5, .int (nI (rz (1 <<< (k % 4)) (k / 4)))), (4, .int (nI (1 <<< (k % 4)))), (3, .int (nI (k / 4))), (0, .int (nI M)), (1, .ref am), (2, .int (nI k))]) hx hb d_N_marksOf_28 hl (by decide) rfl (fun ls hl => ?_)
        refine lv_iload hx hb d_N_marksOf_30 (lv_at hl 0 rfl) ?_
        refine lv_iload_n hx hb d_N_marksOf_32 rfl (lv_at hl 2 rfl) ?_
        refine lc_Si (As := [.int (nI (rz (1 <<< (k % 4)) (k / 4))), .int (nI (k / 4))]) (rest := []) ⟨hx, hb, hml, hown, hts⟩ (c_N_raised l D g _ _ (rz (1 <<< (k % 4)) (k / 4)) (k / 4) (rz_lt h1 _) (by omega)) (kS 2 hts m_175 m_173 m_174 m_37 (by decide +kernel) ⟨Nat.le_of_ble_eq_true rfl, Nat.le_of_ble_eq_true rfl⟩) hKK hP hD hS hA hl.1 rfl rfl (Nat.le_of_ble_eq_true rfl) d_N_marksOf_33 ⟨Nat.le_of_ble_eq_true rfl, by first | omega | exact Nat.le_of_ble_eq_true rfl⟩ (fun r2 u H locs e2 hP hD hS => ?_)
        obtain rfl : r2 = nI (rz (rz (1 <<< (k % 4)) (k / 4)) (k / 4)) := e2
        refine lv_istore (lv' := [(6, .int (nI (rz (rz (1 <<< (k % 4)) (k / 4)) (k / 4)))), (5, .int (nI (rz (1 <<< (k % 4)) (k / 4)))), (4, .int (nI (1 <<< (k % 4)))), (3, .int (nI (k / 4))), (0, .int (nI M)), (1, .ref am), (2, .int (nI k))]) hx hb d_N_marksOf_36 hl (by decide) rfl (fun ls hl => ?_)
        refine lv_aload_n hx hb d_N_marksOf_38 rfl (lv_at hl 5 rfl) ?_
        refine lv_iload_n hx hb d_N_marksOf_39 rfl (lv_at hl 6 rfl) ?_
        refine lv_iload hx hb d_N_marksOf_40 (lv_at hl 2 rfl) ?_
        refine lv_iload hx hb d_N_marksOf_42 (lv_at hl 1 rfl) ?_
        refine lv_iconst (v := nI 4) hx hb d_N_marksOf_44 (by decide) ?_
        refine lx_ishl (z := nI (rz (1 <<< (k % 4)) (k / 4) <<< 4)) hx hb d_N_marksOf_45 (xn_shl _ (by decide)) ?_
        refine lx_ior (z := nI ((1 <<< (k % 4)) ||| (rz (1 <<< (k % 4)) (k / 4) <<< 4))) hx hb d_N_marksOf_46 (xn_or (1 <<< (k % 4)) (rz (1 <<< (k % 4)) (k / 4) <<< 4)) ?_
        refine lv_iload hx hb d_N_marksOf_47 (lv_at hl 0 rfl) ?_
        refine lv_bipush (v := nI 8) hx hb d_N_marksOf_49 (by decide) ?_
        refine lx_ishl (z := nI (rz (rz (1 <<< (k % 4)) (k / 4)) (k / 4) <<< 8)) hx hb d_N_marksOf_51 (xn_shl _ (by decide)) ?_
        refine lx_ior (z := nI (mkN k)) hx hb d_N_marksOf_52 (xn_or _ _) ?_
        refine lx_iast (f' := fun j => nI (if j < k + 1 then mkN j else 0)) hx hb hK hP hD hS 0 0 rfl rfl (j := k) (by omega) (by omega) (upd_lt (fun _ => 0) mkN k) d_N_marksOf_53 (fun H locs hP hD hS => ?_)
        have hP : va_P D vwCl ((am, .inl (g 0, M, .inl (fun j => nI (if j < k + 1 then mkN j else 0)))) :: ws) H := hP
        have hD : va_D A ((am, .inl (g 0, M, .inl (fun j => nI (if j < k + 1 then mkN j else 0)))) :: ws) := hD
        refine lv_iinc (v := nI (k + 1)) (lv' := [(2, .int (nI (k + 1))), (6, .int (nI (rz (rz (1 <<< (k % 4)) (k / 4)) (k / 4)))), (5, .int (nI (rz (1 <<< (k % 4)) (k / 4)))), (4, .int (nI (1 <<< (k % 4)))), (3, .int (nI (k / 4))), (0, .int (nI M)), (1, .ref am)]) hx hb d_N_marksOf_54 hl (k := 6) rfl (nI_1 k) (by decide) rfl (fun ls hl => ?_)
        refine lv_goto (tgt := 6) hx hb d_N_marksOf_57 (by decide) ?_
        exact ih (k + 1) _ _ _ (by omega) (by omega) (lv_sub hl [5, 6, 0] rfl) hP hD hS
  refine lv_astore_n (lv' := [(1, .ref am), (0, .int (nI M))]) hx hb d_N_marksOf_3 rfl hl (by decide) rfl (fun ls hl => ?_)
  refine lv_iconst (v := nI 0) hx hb d_N_marksOf_4 (by decide) ?_
  refine lv_istore_n (lv' := [(2, .int (nI 0)), (1, .ref am), (0, .int (nI M))]) hx hb d_N_marksOf_5 rfl hl (by decide) rfl (fun ls hl => ?_)
  exact lp6 (M + 1) 0 _ _ _ (by omega) (by omega) (lv_sub hl [2, 1, 0] rfl) hP hD hS
set_option maxHeartbeats 4000000 in
set_option maxRecDepth 100000 in
theorem c_N_init (l : Launch) (D : va_G) (g : Nat → ClassId) (sz : Nat) (ws : va_W) (M o : Nat) (hM57 : M ≤ 57) : Met l y_N_init w_N_init rm_N_init (va_Pc [.ref o, .int (nI M)] (pP D (tyl g) ((o, .inr (3, [.int (nI 0), .int (nI 0), .null])) :: ws) sz)) (va_Qv (fun (u : Nat) => True) (fun u => qB D (va_A ((o, .inr (3, [.int (nI 0), .int (nI 0), .null])) :: ws) sz) ((o, .inr (3, [.int (nI M), .int (nI 12), .ref u])) :: (u, .inl (g 0, M, .inl (fun j => nI (if j < M then mkN j else 0)))) :: ws)) (va_A ((o, .inr (3, [.int (nI 0), .int (nI 0), .null])) :: ws) sz)) 1 57 (va_A ((o, .inr (3, [.int (nI 0), .int (nI 0), .null])) :: ws) sz) := by
  refine Met.ofW (cc := b_N_init) (maxL := 2) (ret := none) (by decide +kernel) rfl ?_
  intro p e s m args below meth c s₁ Bq hml hv
  have hx := Bq.exec
  have hb := Bq.bytes
  have hr := Bq.returns
  have hts : ∀ w ∈ wA, w.before args s = true := fun w h => atoms_spec (ws := w_N_init) Bq.pre w (List.mem_cons_of_mem _ h)
  have hown : s.vm.findClass R_N = some m.cls := findClass_of_methodNamed Bq.named
  have hlocks := Bq.notSynchronized
  have hin : meth.name = "<init>" := (name_of_methodNamed Bq.named Bq.method).1
  obtain ⟨rfl, hsz, hP, hKK, hD0⟩ := hv
  have hK := hKK.1
  subst hsz
  have hD := hD0.self (sz := s.heap.size)
  generalize hAe : va_A ((o, .inr (3, [.int (nI 0), .int (nI 0), .null])) :: ws) s.heap.size = A at hD ⊢
  have hA : ∀ q : Nat, s.heap.size ≤ q → A q := fun q h => by rw [← hAe]; exact Or.inr h
  have hS : va_S A s.heap s.heap [] := va_S.rf
  have hl := lv_entry ([.ref o, .int (nI M)]) (n := 2) (Nat.le_of_ble_eq_true rfl)
  rw [lg_entry_eq]
  generalize (lg_sl ([.ref o, .int (nI M)]) ++ List.replicate (2 - (lg_sl ([.ref o, .int (nI M)])).length) Slot.unset).toArray = ls at hl ⊢
  have hl : lv_has ls 2 [(0, .ref o), (1, .int (nI M))] := hl
  generalize hQ : MQ below (va_Qv (fun (u : Nat) => True) (fun u => qB D (A) ((o, .inr (3, [.int (nI M), .int (nI 12), .ref u])) :: (u, .inl (g 0, M, .inl (fun j => nI (if j < M then mkN j else 0)))) :: ws)) (A)) [.ref o, .int (nI M)].toArray s 1 57 A = Q
  have hRc : (headSpec w_N_init rm_N_init).room.cells = 1 := rfl
  have hRs : (headSpec w_N_init rm_N_init).room.slots = 57 := rfl
  refine lv_aload_n hx hb d_N_init_0 rfl (lv_at hl 0 rfl) ?_
  refine lv_iload_n hx hb d_N_init_1 rfl (lv_at hl 1 rfl) ?_
  refine lv_bipush (v := nI 12) hx hb d_N_init_2 (by decide) ?_
  refine lv_iload_n hx hb d_N_init_4 rfl (lv_at hl 1 rfl) ?_
  refine lc_Sr (As := [.int (nI M)]) (rest := [.int (nI 12), .int (nI M), .ref o]) ⟨hx, hb, hml, hown, hts⟩ (c_N_marksOf l D g _ _ M hM57) (kS 1 hts m_172 m_170 m_171 m_37 (by decide +kernel) ⟨Nat.le_of_ble_eq_true rfl, Nat.le_of_ble_eq_true rfl⟩) hKK hP hD hS hA hl.1 rfl rfl (Nat.le_of_ble_eq_true rfl) d_N_init_5 ⟨Nat.le_of_ble_eq_true rfl, Nat.le_of_ble_eq_true rfl⟩ (fun u am H locs _ hP hD hS => ?_)
  refine W.widen (k := 1) (n := 57) (by omega) (by omega) ?_
  have hP : va_P D vwCl ((am, .inl (g 0, M, .inl (fun j => nI (if j < M then mkN j else 0)))) :: (o, .inr (3, [.int (nI 0), .int (nI 0), .null])) :: ws) H := hP
  have hD : va_D A ((am, .inl (g 0, M, .inl (fun j => nI (if j < M then mkN j else 0)))) :: (o, .inr (3, [.int (nI 0), .int (nI 0), .null])) :: ws) := hD
  have hP : va_P D vwCl ((o, .inr (3, [.int (nI 0), .int (nI 0), .null])) :: (am, .inl (g 0, M, .inl (fun j => nI (if j < M then mkN j else 0)))) :: ws) H := wp_pull [(am, .inl (g 0, M, .inl (fun j => nI (if j < M then mkN j else 0))))] hP
  have hD : va_D A ((o, .inr (3, [.int (nI 0), .int (nI 0), .null])) :: (am, .inl (g 0, M, .inl (fun j => nI (if j < M then mkN j else 0)))) :: ws) := wd_pull [(am, .inl (g 0, M, .inl (fun j => nI (if j < M then mkN j else 0))))] hD
  refine lc_Iv (b := o) (As := [.int (nI M), .int (nI 12), .ref am]) (rest := []) ⟨hx, hb, hml, hown, hts⟩ (c_K_init_N l D g _ _ o am (nI M) (nI 12)) (kI 3 hts m_129 m_179 m_128 m_31 rfl (by decide +kernel) ⟨Nat.le_of_ble_eq_true rfl, Nat.le_of_ble_eq_true rfl⟩) hKK hP hD hS hA hl.1 rfl rfl (Nat.le_of_ble_eq_true rfl) d_N_init_8 ⟨Nat.le_of_ble_eq_true rfl, Nat.le_of_ble_eq_true rfl⟩ (fun u H locs _ hP hD hS => ?_)
  have hP : va_P D vwCl ((o, .inr (3, [.int (nI M), .int (nI 12), .ref am])) :: (am, .inl (g 0, M, .inl (fun j => nI (if j < M then mkN j else 0)))) :: ws) H := hP
  have hD : va_D A ((o, .inr (3, [.int (nI M), .int (nI 12), .ref am])) :: (am, .inl (g 0, M, .inl (fun j => nI (if j < M then mkN j else 0)))) :: ws) := hD
  rw [← hQ]
  refine W.vret hx hb hr ?_ hS.2.2 d_N_init_11
  exact fun t ht hW => ⟨⟨am, rfl, trivial, by rw [ht]; exact hP, hD⟩, hS.F ht⟩
set_option maxHeartbeats 4000000 in
set_option maxRecDepth 100000 in
theorem c_P_judge (l : Launch) (D : va_G) (g : Nat → ClassId) (sz : Nat) (wr : va_W) (o t y : Nat) (a0 : Int64) (b0 : Int32) (hy : y < 2 ^ 31) : Met l y_P_judge w_P_judge rm_P_judge (va_Pc [.ref o, .int (nI y), .ref t] (pP D (tyl g) ((t, .inr (5, [.long (a0), .int (b0)])) :: wr) sz)) (va_Qi (fun (r : Int32) (u : Unit) => r = nI (jdP y).1) (fun u => qB D (va_A ((t, .inr (5, [.long (a0), .int (b0)])) :: wr) sz) ((t, .inr (5, [.long (lN (jdP y).2.1), .int (nI (jdP y).2.2)])) :: wr)) (va_A ((t, .inr (5, [.long (a0), .int (b0)])) :: wr) sz)) 0 0 (va_A ((t, .inr (5, [.long (a0), .int (b0)])) :: wr) sz) := by
  refine Met.ofW (cc := b_P_judge) (maxL := 3) (ret := (some .int)) (by decide +kernel) rfl ?_
  intro p e s m args below meth c s₁ Bq hml hv
  have hx := Bq.exec
  have hb := Bq.bytes
  have hr := Bq.returns
  have hts : ∀ w ∈ wA, w.before args s = true := fun w h => atoms_spec (ws := w_P_judge) Bq.pre w (List.mem_cons_of_mem _ h)
  have hown : s.vm.findClass R_P = some m.cls := findClass_of_methodNamed Bq.named
  have hlocks := Bq.notSynchronized
  obtain ⟨rfl, hsz, hP, hKK, hD0⟩ := hv
  have hK := hKK.1
  subst hsz
  have hD := hD0.self (sz := s.heap.size)
  generalize hAe : va_A ((t, .inr (5, [.long (a0), .int (b0)])) :: wr) s.heap.size = A at hD ⊢
  have hA : ∀ q : Nat, s.heap.size ≤ q → A q := fun q h => by rw [← hAe]; exact Or.inr h
  have hS : va_S A s.heap s.heap [] := va_S.rf
  have hl := lv_entry ([.ref o, .int (nI y), .ref t]) (n := 3) (Nat.le_of_ble_eq_true rfl)
  rw [lg_entry_eq]
  generalize (lg_sl ([.ref o, .int (nI y), .ref t]) ++ List.replicate (3 - (lg_sl ([.ref o, .int (nI y), .ref t])).length) Slot.unset).toArray = ls at hl ⊢
  have hl : lv_has ls 3 [(0, .ref o), (1, .int (nI y)), (2, .ref t)] := hl
  generalize hQ : MQ below (va_Qi (fun (r : Int32) (u : Unit) => r = nI (jdP y).1) (fun u => qB D (A) ((t, .inr (5, [.long (lN (jdP y).2.1), .int (nI (jdP y).2.2)])) :: wr)) (A)) [.ref o, .int (nI y), .ref t].toArray s 0 0 A = Q
  refine lv_aload_n hx hb d_P_judge_0 rfl (lv_at hl 2 rfl) ?_
  refine lc_Vv (b := t) (As := []) (rest := []) ⟨hx, hb, hml, hown, hts⟩ (c_T_clear l D g _ t a0 b0 wr) (kV 0 hts m_452 m_460 m_450 m_451 m_38 (by decide +kernel) ⟨Nat.le_of_ble_eq_true rfl, Nat.le_of_ble_eq_true rfl⟩) (va_recv hK hP (ci := 5) (q0 := 0) rfl rfl) hKK hP hD hS hA hl.1 rfl rfl (Nat.le_of_ble_eq_true rfl) d_P_judge_1 ⟨Nat.le_of_ble_eq_true rfl, Nat.le_of_ble_eq_true rfl⟩ (fun u H locs _ hP hD hS => ?_)
  have hP : va_P D vwCl ((t, .inr (5, [.long (lN 0), .int (nI 0)])) :: wr) H := hP
  have hD : va_D A ((t, .inr (5, [.long (lN 0), .int (nI 0)])) :: wr) := hD
  refine lv_iload_n hx hb d_P_judge_4 rfl (lv_at hl 1 rfl) ?_
  refine lx_if_ne (tgt := 12) hx hb d_P_judge_5 (by decide) (by omega) (fun c5 => ?_) (fun c5 => ?_)
  · skip
    have ej : jdP y = (2, 0, 0) := by unfold jdP; rw [if_neg c5]
    rw [ej] at hQ
    refine lv_iconst (v := nI 2) hx hb d_P_judge_12 (by decide) ?_
    rw [← hQ]
    refine W.iret (v := nI 2) hx hb hr ?_ hS.2.2 d_P_judge_13
    exact fun t ht hW => ⟨⟨nI 2, (), rfl, rfl, by rw [ht]; exact hP, hD⟩, hS.F ht⟩
  · skip
    have ej : jdP y = (0, 0, 0) := by unfold jdP; rw [if_pos c5]
    rw [ej] at hQ
    refine lv_iconst (v := nI 0) hx hb d_P_judge_8 (by decide) ?_
    refine lv_goto (tgt := 13) hx hb d_P_judge_9 (by decide) ?_
    rw [← hQ]
    refine W.iret (v := nI 0) hx hb hr ?_ hS.2.2 d_P_judge_13
    exact fun t ht hW => ⟨⟨nI 0, (), rfl, rfl, by rw [ht]; exact hP, hD⟩, hS.F ht⟩
set_option maxHeartbeats 4000000 in
set_option maxRecDepth 100000 in
theorem c_N_wordFlipsFor (l : Launch) (D : va_G) (g : Nat → ClassId) (sz : Nat) (ws : va_W) (k0 o x2 M s0 t0 u0 : Nat) (x1 : Int32) (h0 : ws[k0]? = some (o, .inr (3, [.int (nI M), .int (x1), .ref x2]))) (hM57 : M ≤ 57) (hs : s0 < 16) (ht0 : t0 < 16) (hu0 : u0 < 16) : Met l y_N_wordFlipsFor w_N_wordFlipsFor rm_N_wordFlipsFor (va_Pc [.ref o, .int (nI s0), .int (nI t0), .int (nI u0)] (pP D (tyl g) (ws) sz)) (va_Ql (fun (r : Int64) (u : Unit) => r = lN (wfN M s0 t0 u0)) (fun u => qB D (va_A (ws) sz) (ws)) (va_A (ws) sz)) 0 0 (va_A (ws) sz) := by
  refine Met.ofW (cc := b_N_wordFlipsFor) (maxL := 9) (ret := (some .long)) (by decide +kernel) rfl ?_
  intro p e s m args below meth c s₁ Bq hml hv
  have hx := Bq.exec
  have hb := Bq.bytes
  have hr := Bq.returns
  have hts : ∀ w ∈ wA, w.before args s = true := fun w h => atoms_spec (ws := w_N_wordFlipsFor) Bq.pre w (List.mem_cons_of_mem _ h)
  have hown : s.vm.findClass R_N = some m.cls := findClass_of_methodNamed Bq.named
  have hlocks := Bq.notSynchronized
  obtain ⟨rfl, hsz, hP, hKK, hD0⟩ := hv
  have hK := hKK.1
  subst hsz
  have hD := hD0.self (sz := s.heap.size)
  generalize hAe : va_A (ws) s.heap.size = A at hD ⊢
  have hA : ∀ q : Nat, s.heap.size ≤ q → A q := fun q h => by rw [← hAe]; exact Or.inr h
  have hS : va_S A s.heap s.heap [] := va_S.rf
  have hl := lv_entry ([.ref o, .int (nI s0), .int (nI t0), .int (nI u0)]) (n := 9) (Nat.le_of_ble_eq_true rfl)
  rw [lg_entry_eq]
  generalize (lg_sl ([.ref o, .int (nI s0), .int (nI t0), .int (nI u0)]) ++ List.replicate (9 - (lg_sl ([.ref o, .int (nI s0), .int (nI t0), .int (nI u0)])).length) Slot.unset).toArray = ls at hl ⊢
  have hl : lv_has ls 9 [(0, .ref o), (1, .int (nI s0)), (2, .int (nI t0)), (3, .int (nI u0))] := hl
  generalize hQ : MQ below (va_Ql (fun (r : Int64) (u : Unit) => r = lN (wfN M s0 t0 u0)) (fun u => qB D (A) (ws)) (A)) [.ref o, .int (nI s0), .int (nI t0), .int (nI u0)].toArray s 0 0 A = Q
  refine lv_iload_n hx hb d_N_wordFlipsFor_0 rfl (lv_at hl 1 rfl) ?_
  refine lx_if_ne (tgt := 6) hx hb d_N_wordFlipsFor_1 (by decide) (by omega) (fun c1 => ?_) (fun c1 => ?_)
  · skip
    have lp15 : ∀ (n : Nat) (j : Nat) (ls : Array Slot) (H : Heap) (locs : List Loc), (16 ≤ j + n) → (j ≤ 15) → (wfL M s0 t0 u0 n j = wfN M s0 t0 u0) → lv_has ls 9 [(0, .ref o), (1, .int (nI s0)), (2, .int (nI t0)), (3, .int (nI u0)), (4, .int (nI (rz s0 j))), (5, .int (nI (rz s0 (2 * j)))), (6, .int (nI (4 * j)))] → va_P D vwCl (ws) H → va_D A (ws) → va_S A s.heap H locs → W p l e (headSpec w_N_wordFlipsFor rm_N_wordFlipsFor).room s m [.ref o, .int (nI s0), .int (nI t0), .int (nI u0)].toArray below meth c H locs 0 0 Q (F0 m 15 ls []) := by
      intro n
      induction n with
      | zero => intro j ls H locs hfu hj hQ9 _ _ _ _; exact absurd hfu (by omega)
      | succ n ih =>
        intro j ls H locs hfu hj hQ9 hl hP hD hS
        have hz1 := rz_lt hs j
        have hz2 := rz_lt hs (2 * j)
        have hz3 := rz_lt hs (2 * j + 1)
        refine lv_iload hx hb d_N_wordFlipsFor_15 (lv_at hl 6 rfl) ?_
        refine lv_aload_n hx hb d_N_wordFlipsFor_17 rfl (lv_at hl 0 rfl) ?_
        refine va_get (D := D) (ci := 3) (v := .int (nI M)) (C := R_N) (T := F_N) (N := 3) hx hb hts i_N hown hK hP k0 h0 rfl 0 (by decide) (hts _ m_135) (fun x9 h9 => u_same (hts _ m_136) x9 h9) rfl d_N_wordFlipsFor_18 ?_
        refine lx_icmp_ge (tgt := 85) hx hb d_N_wordFlipsFor_21 (by decide) (by omega) (by omega) (fun c21 => ?_) (fun c21 => ?_)
        · skip
          refine lv_lconst (v := lN 0) hx hb d_N_wordFlipsFor_85 (by decide) ?_
          rw [← hQ]
          refine W.lret (v := lN 0) hx hb hr ?_ hS.2.2 d_N_wordFlipsFor_86
          exact fun t ht hW => ⟨⟨lN 0, (), rfl, (by rw [← hQ9, wfL_end (by omega)]), by rw [ht]; exact hP, hD⟩, hS.F ht⟩
        · skip
          refine lv_iload hx hb d_N_wordFlipsFor_24 (lv_at hl 4 rfl) ?_
          refine lv_iload_n hx hb d_N_wordFlipsFor_26 rfl (lv_at hl 2 rfl) ?_
          refine lx_icmp_ne (tgt := 62) hx hb d_N_wordFlipsFor_27 (by decide) (by omega) (by omega) (fun c27 => ?_) (fun c27 => ?_)
          · skip
            refine lv_iload hx hb d_N_wordFlipsFor_62 (lv_at hl 4 rfl) ?_
            refine lc_Si (As := [.int (nI (rz s0 j))]) (rest := []) ⟨hx, hb, hml, hown, hts⟩ (c_N_timesG l D g _ _ (rz s0 j) hz1) (kS 1 hts m_178 m_176 m_177 m_37 (by decide +kernel) ⟨Nat.le_of_ble_eq_true rfl, Nat.le_of_ble_eq_true rfl⟩) hKK hP hD hS hA hl.1 rfl rfl (Nat.le_of_ble_eq_true rfl) d_N_wordFlipsFor_64 ⟨Nat.le_of_ble_eq_true rfl, Nat.le_of_ble_eq_true rfl⟩ (fun r1 u H locs e1 hP hD hS => ?_)
            obtain rfl : r1 = nI (rz s0 (j + 1)) := e1
            refine lv_istore (lv' := [(4, .int (nI (rz s0 (j + 1)))), (0, .ref o), (1, .int (nI s0)), (2, .int (nI t0)), (3, .int (nI u0)), (5, .int (nI (rz s0 (2 * j)))), (6, .int (nI (4 * j)))]) hx hb d_N_wordFlipsFor_67 hl (by decide) rfl (fun ls hl => ?_)
            refine lv_iload hx hb d_N_wordFlipsFor_69 (lv_at hl 5 rfl) ?_
            refine lc_Si (As := [.int (nI (rz s0 (2 * j)))]) (rest := []) ⟨hx, hb, hml, hown, hts⟩ (c_N_timesG l D g _ _ (rz s0 (2 * j)) hz2) (kS 1 hts m_178 m_176 m_177 m_37 (by decide +kernel) ⟨Nat.le_of_ble_eq_true rfl, Nat.le_of_ble_eq_true rfl⟩) hKK hP hD hS hA hl.1 rfl rfl (Nat.le_of_ble_eq_true rfl) d_N_wordFlipsFor_71 ⟨Nat.le_of_ble_eq_true rfl, Nat.le_of_ble_eq_true rfl⟩ (fun r2 u H locs e2 hP hD hS => ?_)
            obtain rfl : r2 = nI (rz s0 (2 * j + 1)) := e2
            refine lc_Si (As := [.int (nI (rz s0 (2 * j + 1)))]) (rest := []) ⟨hx, hb, hml, hown, hts⟩ (c_N_timesG l D g _ _ (rz s0 (2 * j + 1)) hz3) (kS 1 hts m_178 m_176 m_177 m_37 (by decide +kernel) ⟨Nat.le_of_ble_eq_true rfl, Nat.le_of_ble_eq_true rfl⟩) hKK hP hD hS hA hl.1 rfl rfl (Nat.le_of_ble_eq_true rfl) d_N_wordFlipsFor_74 ⟨Nat.le_of_ble_eq_true rfl, Nat.le_of_ble_eq_true rfl⟩ (fun r3 u H locs e3 hP hD hS => ?_)
            obtain rfl : r3 = nI (rz s0 (2 * (j + 1))) := e3
            refine lv_istore (lv' := [(5, .int (nI (rz s0 (2 * (j + 1))))), (4, .int (nI (rz s0 (j + 1)))), (0, .ref o), (1, .int (nI s0)), (2, .int (nI t0)), (3, .int (nI u0)), (6, .int (nI (4 * j)))]) hx hb d_N_wordFlipsFor_77 hl (by decide) rfl (fun ls hl => ?_)
            refine lv_iinc (v := nI (4 * (j + 1))) (lv' := [(6, .int (nI (4 * (j + 1)))), (5, .int (nI (rz s0 (2 * (j + 1))))), (4, .int (nI (rz s0 (j + 1)))), (0, .ref o), (1, .int (nI s0)), (2, .int (nI t0)), (3, .int (nI u0))]) hx hb d_N_wordFlipsFor_79 hl (k := 6) rfl (nI_add _ 4) (by decide) rfl (fun ls hl => ?_)
            refine lv_goto (tgt := 15) hx hb d_N_wordFlipsFor_82 (by decide) ?_
            rw [wfL_next c21 (fun q => c27 (by omega))] at hQ9
            exact ih (j + 1) _ _ _ (by omega) (by omega) (hQ9) (lv_sub hl [3, 4, 5, 6, 2, 1, 0] rfl) hP hD hS
          · skip
            refine lv_iload hx hb d_N_wordFlipsFor_30 (lv_at hl 5 rfl) ?_
            refine lv_iload_n hx hb d_N_wordFlipsFor_32 rfl (lv_at hl 3 rfl) ?_
            refine lx_icmp_ne (tgt := 62) hx hb d_N_wordFlipsFor_33 (by decide) (by omega) (by omega) (fun c33 => ?_) (fun c33 => ?_)
            · skip
              refine lv_iload hx hb d_N_wordFlipsFor_62 (lv_at hl 4 rfl) ?_
              refine lc_Si (As := [.int (nI (rz s0 j))]) (rest := []) ⟨hx, hb, hml, hown, hts⟩ (c_N_timesG l D g _ _ (rz s0 j) hz1) (kS 1 hts m_178 m_176 m_177 m_37 (by decide +kernel) ⟨Nat.le_of_ble_eq_true rfl, Nat.le_of_ble_eq_true rfl⟩) hKK hP hD hS hA hl.1 rfl rfl (Nat.le_of_ble_eq_true rfl) d_N_wordFlipsFor_64 ⟨Nat.le_of_ble_eq_true rfl, Nat.le_of_ble_eq_true rfl⟩ (fun r1 u H locs e1 hP hD hS => ?_)
              obtain rfl : r1 = nI (rz s0 (j + 1)) := e1
              refine lv_istore (lv' := [(4, .int (nI (rz s0 (j + 1)))), (0, .ref o), (1, .int (nI s0)), (2, .int (nI t0)), (3, .int (nI u0)), (5, .int (nI (rz s0 (2 * j)))), (6, .int (nI (4 * j)))]) hx hb d_N_wordFlipsFor_67 hl (by decide) rfl (fun ls hl => ?_)
              refine lv_iload hx hb d_N_wordFlipsFor_69 (lv_at hl 5 rfl) ?_
              refine lc_Si (As := [.int (nI (rz s0 (2 * j)))]) (rest := []) ⟨hx, hb, hml, hown, hts⟩ (c_N_timesG l D g _ _ (rz s0 (2 * j)) hz2) (kS 1 hts m_178 m_176 m_177 m_37 (by decide +kernel) ⟨Nat.le_of_ble_eq_true rfl, Nat.le_of_ble_eq_true rfl⟩) hKK hP hD hS hA hl.1 rfl rfl (Nat.le_of_ble_eq_true rfl) d_N_wordFlipsFor_71 ⟨Nat.le_of_ble_eq_true rfl, Nat.le_of_ble_eq_true rfl⟩ (fun r2 u H locs e2 hP hD hS => ?_)
              obtain rfl : r2 = nI (rz s0 (2 * j + 1)) := e2
              refine lc_Si (As := [.int (nI (rz s0 (2 * j + 1)))]) (rest := []) ⟨hx, hb, hml, hown, hts⟩ (c_N_timesG l D g _ _ (rz s0 (2 * j + 1)) hz3) (kS 1 hts m_178 m_176 m_177 m_37 (by decide +kernel) ⟨Nat.le_of_ble_eq_true rfl, Nat.le_of_ble_eq_true rfl⟩) hKK hP hD hS hA hl.1 rfl rfl (Nat.le_of_ble_eq_true rfl) d_N_wordFlipsFor_74 ⟨Nat.le_of_ble_eq_true rfl, Nat.le_of_ble_eq_true rfl⟩ (fun r3 u H locs e3 hP hD hS => ?_)
              obtain rfl : r3 = nI (rz s0 (2 * (j + 1))) := e3
              refine lv_istore (lv' := [(5, .int (nI (rz s0 (2 * (j + 1))))), (4, .int (nI (rz s0 (j + 1)))), (0, .ref o), (1, .int (nI s0)), (2, .int (nI t0)), (3, .int (nI u0)), (6, .int (nI (4 * j)))]) hx hb d_N_wordFlipsFor_77 hl (by decide) rfl (fun ls hl => ?_)
              refine lv_iinc (v := nI (4 * (j + 1))) (lv' := [(6, .int (nI (4 * (j + 1)))), (5, .int (nI (rz s0 (2 * (j + 1))))), (4, .int (nI (rz s0 (j + 1)))), (0, .ref o), (1, .int (nI s0)), (2, .int (nI t0)), (3, .int (nI u0))]) hx hb d_N_wordFlipsFor_79 hl (k := 6) rfl (nI_add _ 4) (by decide) rfl (fun ls hl => ?_)
              refine lv_goto (tgt := 15) hx hb d_N_wordFlipsFor_82 (by decide) ?_
              rw [wfL_next c21 (fun q => c33 (by omega))] at hQ9
              exact ih (j + 1) _ _ _ (by omega) (by omega) (hQ9) (lv_sub hl [3, 4, 5, 6, 2, 1, 0] rfl) hP hD hS
            · skip
              refine lv_iload_n hx hb d_N_wordFlipsFor_36 rfl (lv_at hl 1 rfl) ?_
              refine lv_i2l (v := lN s0) hx hb d_N_wordFlipsFor_37 (nI_l (by omega)) ?_
              refine lv_iload hx hb d_N_wordFlipsFor_38 (lv_at hl 6 rfl) ?_
              refine lv_lshl (v := lN (s0 <<< (4 * j))) hx hb d_N_wordFlipsFor_40 (xl_shl _ (by omega)) ?_
              refine lv_lstore (lv' := [(7, .long (lN (s0 <<< (4 * j)))), (0, .ref o), (1, .int (nI s0)), (2, .int (nI t0)), (3, .int (nI u0)), (4, .int (nI (rz s0 j))), (5, .int (nI (rz s0 (2 * j)))), (6, .int (nI (4 * j)))]) hx hb d_N_wordFlipsFor_41 hl (by decide) rfl (fun ls hl => ?_)
              refine lv_lload hx hb d_N_wordFlipsFor_43 (lv_at hl 0 rfl) ?_
              refine lv_aload_n hx hb d_N_wordFlipsFor_45 rfl (lv_at hl 1 rfl) ?_
              refine va_get (D := D) (ci := 3) (v := .int (nI M)) (C := R_N) (T := F_N) (N := 3) hx hb hts i_N hown hK hP k0 h0 rfl 0 (by decide) (hts _ m_135) (fun x9 h9 => u_same (hts _ m_136) x9 h9) rfl d_N_wordFlipsFor_46 ?_
              refine lv_lushr (v := lN ((s0 <<< (4 * j)) >>> M)) hx hb d_N_wordFlipsFor_49 (xl_ushr (sh_lt hs (by omega)) (by omega)) ?_
              refine lv_lconst (v := lN 0) hx hb d_N_wordFlipsFor_50 (by decide) ?_
              refine lx_lcmp_ne (tgt := 60) hx hb d_N_wordFlipsFor_51 d_N_wordFlipsFor_52 (by decide) (fun c52 => ?_) (fun c52 => ?_)
              · skip
                refine lv_lconst (v := lN 0) hx hb d_N_wordFlipsFor_60 (by decide) ?_
                rw [← hQ]
                refine W.lret (v := lN 0) hx hb hr ?_ hS.2.2 d_N_wordFlipsFor_61
                exact fun t ht hW => ⟨⟨lN 0, (), rfl, (by rw [← hQ9, wfL_hit c21 ⟨by omega, by omega⟩, if_neg (fun q => c52 (by rw [q]))]), by rw [ht]; exact hP, hD⟩, hS.F ht⟩
              · skip
                refine lv_lload hx hb d_N_wordFlipsFor_55 (lv_at hl 0 rfl) ?_
                refine lv_goto (tgt := 61) hx hb d_N_wordFlipsFor_57 (by decide) ?_
                rw [← hQ]
                refine W.lret (v := lN (s0 <<< (4 * j))) hx hb hr ?_ hS.2.2 d_N_wordFlipsFor_61
                exact fun t ht hW => ⟨⟨lN (s0 <<< (4 * j)), (), rfl, (by rw [← hQ9, wfL_hit c21 ⟨by omega, by omega⟩, if_pos (xl_inj (Nat.lt_of_le_of_lt (Nat.shiftRight_le _ _) (sh_lt hs (by omega))) (by decide) c52)]), by rw [ht]; exact hP, hD⟩, hS.F ht⟩
    refine lv_iload_n hx hb d_N_wordFlipsFor_6 rfl (lv_at hl 1 rfl) ?_
    refine lv_istore (lv' := [(4, .int (nI s0)), (0, .ref o), (1, .int (nI s0)), (2, .int (nI t0)), (3, .int (nI u0))]) hx hb d_N_wordFlipsFor_7 hl (by decide) rfl (fun ls hl => ?_)
    refine lv_iload_n hx hb d_N_wordFlipsFor_9 rfl (lv_at hl 2 rfl) ?_
    refine lv_istore (lv' := [(5, .int (nI s0)), (4, .int (nI s0)), (0, .ref o), (1, .int (nI s0)), (2, .int (nI t0)), (3, .int (nI u0))]) hx hb d_N_wordFlipsFor_10 hl (by decide) rfl (fun ls hl => ?_)
    refine lv_iconst (v := nI 0) hx hb d_N_wordFlipsFor_12 (by decide) ?_
    refine lv_istore (lv' := [(6, .int (nI 0)), (5, .int (nI s0)), (4, .int (nI s0)), (0, .ref o), (1, .int (nI s0)), (2, .int (nI t0)), (3, .int (nI u0))]) hx hb d_N_wordFlipsFor_13 hl (by decide) rfl (fun ls hl => ?_)
    exact lp15 16 0 _ _ _ (by omega) (by omega) (by unfold wfN; rw [if_neg c1]) (lv_sub hl [3, 4, 5, 6, 2, 1, 0] rfl) hP hD hS
  · skip
    refine lv_lconst (v := lN 0) hx hb d_N_wordFlipsFor_4 (by decide) ?_
    rw [← hQ]
    refine W.lret (v := lN 0) hx hb hr ?_ hS.2.2 d_N_wordFlipsFor_5
    exact fun t ht hW => ⟨⟨lN 0, (), rfl, (by unfold wfN; rw [if_pos c1]), by rw [ht]; exact hP, hD⟩, hS.F ht⟩
set_option maxHeartbeats 4000000 in
set_option maxRecDepth 100000 in
theorem c_N_judge (l : Launch) (D : va_G) (g : Nat → ClassId) (sz : Nat) (wr : va_W) (k0 o t x2 M y : Nat) (x1 : Int32) (a0 : Int64) (b0 : Int32) (h0 : wr[k0]? = some (o, .inr (3, [.int (nI M), .int (x1), .ref x2]))) (hM57 : M ≤ 57) (hy : y < 4096) : Met l y_N_judge w_N_judge rm_N_judge (va_Pc [.ref o, .int (nI y), .ref t] (pP D (tyl g) ((t, .inr (5, [.long (a0), .int (b0)])) :: wr) sz)) (va_Qi (fun (r : Int32) (u : Unit) => r = nI (jdN M y).1) (fun u => qB D (va_A ((t, .inr (5, [.long (a0), .int (b0)])) :: wr) sz) ((t, .inr (5, [.long (lN (jdN M y).2.1), .int (nI (jdN M y).2.2)])) :: wr)) (va_A ((t, .inr (5, [.long (a0), .int (b0)])) :: wr) sz)) 0 0 (va_A ((t, .inr (5, [.long (a0), .int (b0)])) :: wr) sz) := by
  refine Met.ofW (cc := b_N_judge) (maxL := 6) (ret := (some .int)) (by decide +kernel) rfl ?_
  intro p e s m args below meth c s₁ Bq hml hv
  have hx := Bq.exec
  have hb := Bq.bytes
  have hr := Bq.returns
  have hts : ∀ w ∈ wA, w.before args s = true := fun w h => atoms_spec (ws := w_N_judge) Bq.pre w (List.mem_cons_of_mem _ h)
  have hown : s.vm.findClass R_N = some m.cls := findClass_of_methodNamed Bq.named
  have hlocks := Bq.notSynchronized
  obtain ⟨rfl, hsz, hP, hKK, hD0⟩ := hv
  have hK := hKK.1
  subst hsz
  have hD := hD0.self (sz := s.heap.size)
  generalize hAe : va_A ((t, .inr (5, [.long (a0), .int (b0)])) :: wr) s.heap.size = A at hD ⊢
  have hA : ∀ q : Nat, s.heap.size ≤ q → A q := fun q h => by rw [← hAe]; exact Or.inr h
  have hS : va_S A s.heap s.heap [] := va_S.rf
  have hl := lv_entry ([.ref o, .int (nI y), .ref t]) (n := 6) (Nat.le_of_ble_eq_true rfl)
  rw [lg_entry_eq]
  generalize (lg_sl ([.ref o, .int (nI y), .ref t]) ++ List.replicate (6 - (lg_sl ([.ref o, .int (nI y), .ref t])).length) Slot.unset).toArray = ls at hl ⊢
  have hl : lv_has ls 6 [(0, .ref o), (1, .int (nI y)), (2, .ref t)] := hl
  generalize hQ : MQ below (va_Qi (fun (r : Int32) (u : Unit) => r = nI (jdN M y).1) (fun u => qB D (A) ((t, .inr (5, [.long (lN (jdN M y).2.1), .int (nI (jdN M y).2.2)])) :: wr)) (A)) [.ref o, .int (nI y), .ref t].toArray s 0 0 A = Q
  refine lv_aload_n hx hb d_N_judge_0 rfl (lv_at hl 2 rfl) ?_
  refine lc_Vv (b := t) (As := []) (rest := []) ⟨hx, hb, hml, hown, hts⟩ (c_T_clear l D g _ t a0 b0 wr) (kV 0 hts m_452 m_449 m_450 m_451 m_38 (by decide +kernel) ⟨Nat.le_of_ble_eq_true rfl, Nat.le_of_ble_eq_true rfl⟩) (va_recv hK hP (ci := 5) (q0 := 0) rfl rfl) hKK hP hD hS hA hl.1 rfl rfl (Nat.le_of_ble_eq_true rfl) d_N_judge_1 ⟨Nat.le_of_ble_eq_true rfl, Nat.le_of_ble_eq_true rfl⟩ (fun u H locs _ hP hD hS => ?_)
  have hP : va_P D vwCl ((t, .inr (5, [.long (lN 0), .int (nI 0)])) :: wr) H := hP
  have hD : va_D A ((t, .inr (5, [.long (lN 0), .int (nI 0)])) :: wr) := hD
  refine lv_iload_n hx hb d_N_judge_4 rfl (lv_at hl 1 rfl) ?_
  refine lx_if_ne (tgt := 10) hx hb d_N_judge_5 (by decide) (by omega) (fun c5 => ?_) (fun c5 => ?_)
  · skip
    have h4 : y >>> 4 < 2 ^ 31 := by rw [Nat.shiftRight_eq_div_pow]; omega
    have h8 : y >>> 8 < 2 ^ 31 := by rw [Nat.shiftRight_eq_div_pow]; omega
    have s4 : (y >>> 4 % 16) <<< 4 < 2 ^ 31 := by rw [Nat.shiftLeft_eq]; omega
    have s8 : (y >>> 8 % 16) <<< 8 < 2 ^ 31 := by rw [Nat.shiftLeft_eq]; omega
    refine lv_iload_n hx hb d_N_judge_10 rfl (lv_at hl 1 rfl) ?_
    refine lv_bipush (v := nI 15) hx hb d_N_judge_11 (by decide) ?_
    refine lx_iand (z := nI (y % 16)) hx hb d_N_judge_13 ((xn_and _ _).trans (by rw [show 15 = 2 ^ 4 - 1 from rfl, Nat.and_two_pow_sub_one_eq_mod])) ?_
    refine lv_istore_n (lv' := [(3, .int (nI (y % 16))), (0, .ref o), (1, .int (nI y)), (2, .ref t)]) hx hb d_N_judge_14 rfl hl (by decide) rfl (fun ls hl => ?_)
    refine lv_iload_n hx hb d_N_judge_15 rfl (lv_at hl 2 rfl) ?_
    refine lv_iconst (v := nI 4) hx hb d_N_judge_16 (by decide) ?_
    refine lv_iushr (v := nI (y >>> 4)) hx hb d_N_judge_17 (xn_ushr (by omega) (by decide)) ?_
    refine lv_bipush (v := nI 15) hx hb d_N_judge_18 (by decide) ?_
    refine lx_iand (z := nI (y >>> 4 % 16)) hx hb d_N_judge_20 ((xn_and _ _).trans (by rw [show 15 = 2 ^ 4 - 1 from rfl, Nat.and_two_pow_sub_one_eq_mod])) ?_
    refine lv_istore (lv' := [(4, .int (nI (y >>> 4 % 16))), (3, .int (nI (y % 16))), (0, .ref o), (1, .int (nI y)), (2, .ref t)]) hx hb d_N_judge_21 hl (by decide) rfl (fun ls hl => ?_)
    refine lv_iload_n hx hb d_N_judge_23 rfl (lv_at hl 3 rfl) ?_
    refine lv_bipush (v := nI 8) hx hb d_N_judge_24 (by decide) ?_
    refine lv_iushr (v := nI (y >>> 8)) hx hb d_N_judge_26 (xn_ushr (by omega) (by decide)) ?_
    refine lv_bipush (v := nI 15) hx hb d_N_judge_27 (by decide) ?_
    refine lx_iand (z := nI (y >>> 8 % 16)) hx hb d_N_judge_29 ((xn_and _ _).trans (by rw [show 15 = 2 ^ 4 - 1 from rfl, Nat.and_two_pow_sub_one_eq_mod])) ?_
    refine lv_istore (lv' := [(5, .int (nI (y >>> 8 % 16))), (4, .int (nI (y >>> 4 % 16))), (3, .int (nI (y % 16))), (0, .ref o), (1, .int (nI y)), (2, .ref t)]) hx hb d_N_judge_30 hl (by decide) rfl (fun ls hl => ?_)
    refine lv_iload_n hx hb d_N_judge_32 rfl (lv_at hl 4 rfl) ?_
    refine lv_iload_n hx hb d_N_judge_33 rfl (lv_at hl 2 rfl) ?_
    refine lx_icmp_eq (tgt := 54) hx hb d_N_judge_34 (by decide) (by omega) (by omega) (fun c34 => ?_) (fun c34 => ?_)
    · skip
      refine lv_aload_n hx hb d_N_judge_54 rfl (lv_at hl 5 rfl) ?_
      refine lv_iload_n hx hb d_N_judge_55 rfl (lv_at hl 4 rfl) ?_
      refine va_put (D := D) (ci := 5) (v := .int (nI y)) (ty := .int) (C := R_T) (T := F_T) (N := 2) hx hb hts i_T tf_T tf_T_ok nf_T hown hK hP hD hS 0 rfl rfl 1 (by decide) (hts _ m_195) (fun _ h9 => h9) rfl (by decide +kernel) rfl rfl (Nat.le_of_ble_eq_true rfl) d_N_judge_56 (fun H locs hP hD hS => ?_)
      have hP : va_P D vwCl ((t, .inr (5, [.long (lN 0), .int (nI y)])) :: wr) H := hP
      have hD : va_D A ((t, .inr (5, [.long (lN 0), .int (nI y)])) :: wr) := hD
      have ej : jdN M y = (1, 0, y) := by unfold jdN; rw [if_neg c5, if_pos (Or.inl c34)]
      rw [ej] at hQ
      refine lv_iconst (v := nI 1) hx hb d_N_judge_59 (by decide) ?_
      rw [← hQ]
      refine W.iret (v := nI 1) hx hb hr ?_ hS.2.2 d_N_judge_60
      exact fun t ht hW => ⟨⟨nI 1, (), rfl, rfl, by rw [ht]; exact hP, hD⟩, hS.F ht⟩
    · skip
      refine lv_iload_n hx hb d_N_judge_37 rfl (lv_at hl 4 rfl) ?_
      refine lv_iload hx hb d_N_judge_38 (lv_at hl 1 rfl) ?_
      refine lv_iconst (v := nI 4) hx hb d_N_judge_40 (by decide) ?_
      refine lx_ishl (z := nI ((y >>> 4 % 16) <<< 4)) hx hb d_N_judge_41 (xn_shl _ (by decide)) ?_
      refine lx_icmp_eq (tgt := 54) hx hb d_N_judge_42 (by decide) (by omega) (by omega) (fun c42 => ?_) (fun c42 => ?_)
      · skip
        refine lv_aload_n hx hb d_N_judge_54 rfl (lv_at hl 5 rfl) ?_
        refine lv_iload_n hx hb d_N_judge_55 rfl (lv_at hl 4 rfl) ?_
        refine va_put (D := D) (ci := 5) (v := .int (nI y)) (ty := .int) (C := R_T) (T := F_T) (N := 2) hx hb hts i_T tf_T tf_T_ok nf_T hown hK hP hD hS 0 rfl rfl 1 (by decide) (hts _ m_195) (fun _ h9 => h9) rfl (by decide +kernel) rfl rfl (Nat.le_of_ble_eq_true rfl) d_N_judge_56 (fun H locs hP hD hS => ?_)
        have hP : va_P D vwCl ((t, .inr (5, [.long (lN 0), .int (nI y)])) :: wr) H := hP
        have hD : va_D A ((t, .inr (5, [.long (lN 0), .int (nI y)])) :: wr) := hD
        have ej : jdN M y = (1, 0, y) := by unfold jdN; rw [if_neg c5, if_pos (Or.inr (Or.inl c42))]
        rw [ej] at hQ
        refine lv_iconst (v := nI 1) hx hb d_N_judge_59 (by decide) ?_
        rw [← hQ]
        refine W.iret (v := nI 1) hx hb hr ?_ hS.2.2 d_N_judge_60
        exact fun t ht hW => ⟨⟨nI 1, (), rfl, rfl, by rw [ht]; exact hP, hD⟩, hS.F ht⟩
      · skip
        refine lv_iload_n hx hb d_N_judge_45 rfl (lv_at hl 4 rfl) ?_
        refine lv_iload hx hb d_N_judge_46 (lv_at hl 0 rfl) ?_
        refine lv_bipush (v := nI 8) hx hb d_N_judge_48 (by decide) ?_
        refine lx_ishl (z := nI ((y >>> 8 % 16) <<< 8)) hx hb d_N_judge_50 (xn_shl _ (by decide)) ?_
        refine lx_icmp_ne (tgt := 61) hx hb d_N_judge_51 (by decide) (by omega) (by omega) (fun c51 => ?_) (fun c51 => ?_)
        · skip
          have hno : ¬ (y = y % 16 ∨ y = (y >>> 4 % 16) <<< 4 ∨ y = (y >>> 8 % 16) <<< 8) := by rintro (q | q | q); exact c34 q; exact c42 q; exact c51 q
          refine lv_aload_n hx hb d_N_judge_61 rfl (lv_at hl 5 rfl) ?_
          refine lv_aload_n hx hb d_N_judge_62 rfl (lv_at hl 3 rfl) ?_
          refine lv_iload_n hx hb d_N_judge_63 rfl (lv_at hl 2 rfl) ?_
          refine lv_iload hx hb d_N_judge_64 (lv_at hl 1 rfl) ?_
          refine lv_iload hx hb d_N_judge_66 (lv_at hl 0 rfl) ?_
          refine lc_Vl (b := o) (As := [.int (nI (y % 16)), .int (nI (y >>> 4 % 16)), .int (nI (y >>> 8 % 16))]) (rest := [.ref t]) ⟨hx, hb, hml, hown, hts⟩ (c_N_wordFlipsFor l D g _ _ (k0 + 1) o x2 M (y % 16) (y >>> 4 % 16) (y >>> 8 % 16) x1 h0 hM57 (by omega) (by omega) (by omega)) (kV 3 hts m_456 m_453 m_455 m_1 m_37 (by decide +kernel) ⟨Nat.le_of_ble_eq_true rfl, Nat.le_of_ble_eq_true rfl⟩) (va_recv hK hP (ci := 3) (q0 := k0 + 1) rfl h0) hKK hP hD hS hA hl.1 rfl rfl (Nat.le_of_ble_eq_true rfl) d_N_judge_68 ⟨Nat.le_of_ble_eq_true rfl, Nat.le_of_ble_eq_true rfl⟩ (fun r1 u H locs e1 hP hD hS => ?_)
          obtain rfl : r1 = lN (wfN M (y % 16) (y >>> 4 % 16) (y >>> 8 % 16)) := e1
          refine va_put (D := D) (ci := 5) (v := .long (lN (wfN M (y % 16) (y >>> 4 % 16) (y >>> 8 % 16)))) (ty := .long) (C := R_T) (T := F_T) (N := 2) hx hb hts i_T tf_T tf_T_ok nf_T hown hK hP hD hS 0 rfl rfl 0 (by decide) (hts _ m_191) (fun _ h9 => h9) rfl (by decide +kernel) rfl rfl (Nat.le_of_ble_eq_true rfl) d_N_judge_71 (fun H locs hP hD hS => ?_)
          have hP : va_P D vwCl ((t, .inr (5, [.long (lN (wfN M (y % 16) (y >>> 4 % 16) (y >>> 8 % 16))), .int (nI 0)])) :: wr) H := hP
          have hD : va_D A ((t, .inr (5, [.long (lN (wfN M (y % 16) (y >>> 4 % 16) (y >>> 8 % 16))), .int (nI 0)])) :: wr) := hD
          refine lv_aload_n hx hb d_N_judge_74 rfl (lv_at hl 5 rfl) ?_
          refine va_get (D := D) (ci := 5) (v := .long (lN (wfN M (y % 16) (y >>> 4 % 16) (y >>> 8 % 16)))) (C := R_T) (T := F_T) (N := 2) hx hb hts i_T hown hK hP 0 rfl rfl 0 (by decide) (hts _ m_191) (fun _ h9 => h9) rfl d_N_judge_75 ?_
          refine lv_lconst (v := lN 0) hx hb d_N_judge_78 (by decide) ?_
          have hwl : wfN M (y % 16) (y >>> 4 % 16) (y >>> 8 % 16) < 2 ^ 62 := wfN_lt (by omega) hM57
          refine lx_lcmp_ne (tgt := 87) hx hb d_N_judge_79 d_N_judge_80 (by decide) (fun c80 => ?_) (fun c80 => ?_)
          · skip
            have ej : jdN M y = (1, wfN M (y % 16) (y >>> 4 % 16) (y >>> 8 % 16), 0) := by unfold jdN; rw [if_neg c5, if_neg hno, if_neg (fun q => c80 (by rw [q]))]
            rw [ej] at hQ
            refine lv_iconst (v := nI 1) hx hb d_N_judge_87 (by decide) ?_
            rw [← hQ]
            refine W.iret (v := nI 1) hx hb hr ?_ hS.2.2 d_N_judge_88
            exact fun t ht hW => ⟨⟨nI 1, (), rfl, rfl, by rw [ht]; exact hP, hD⟩, hS.F ht⟩
          · skip
            have e0 : wfN M (y % 16) (y >>> 4 % 16) (y >>> 8 % 16) = 0 := xl_inj (by omega) (by decide) c80
            have ej : jdN M y = (2, wfN M (y % 16) (y >>> 4 % 16) (y >>> 8 % 16), 0) := by unfold jdN; rw [if_neg c5, if_neg hno, if_pos e0, e0]
            rw [ej] at hQ
            refine lv_iconst (v := nI 2) hx hb d_N_judge_83 (by decide) ?_
            refine lv_goto (tgt := 88) hx hb d_N_judge_84 (by decide) ?_
            rw [← hQ]
            refine W.iret (v := nI 2) hx hb hr ?_ hS.2.2 d_N_judge_88
            exact fun t ht hW => ⟨⟨nI 2, (), rfl, rfl, by rw [ht]; exact hP, hD⟩, hS.F ht⟩
        · skip
          refine lv_aload_n hx hb d_N_judge_54 rfl (lv_at hl 5 rfl) ?_
          refine lv_iload_n hx hb d_N_judge_55 rfl (lv_at hl 4 rfl) ?_
          refine va_put (D := D) (ci := 5) (v := .int (nI y)) (ty := .int) (C := R_T) (T := F_T) (N := 2) hx hb hts i_T tf_T tf_T_ok nf_T hown hK hP hD hS 0 rfl rfl 1 (by decide) (hts _ m_195) (fun _ h9 => h9) rfl (by decide +kernel) rfl rfl (Nat.le_of_ble_eq_true rfl) d_N_judge_56 (fun H locs hP hD hS => ?_)
          have hP : va_P D vwCl ((t, .inr (5, [.long (lN 0), .int (nI y)])) :: wr) H := hP
          have hD : va_D A ((t, .inr (5, [.long (lN 0), .int (nI y)])) :: wr) := hD
          have ej : jdN M y = (1, 0, y) := by unfold jdN; rw [if_neg c5, if_pos (Or.inr (Or.inr c51))]
          rw [ej] at hQ
          refine lv_iconst (v := nI 1) hx hb d_N_judge_59 (by decide) ?_
          rw [← hQ]
          refine W.iret (v := nI 1) hx hb hr ?_ hS.2.2 d_N_judge_60
          exact fun t ht hW => ⟨⟨nI 1, (), rfl, rfl, by rw [ht]; exact hP, hD⟩, hS.F ht⟩
  · skip
    have ej : jdN M y = (0, 0, 0) := by unfold jdN; rw [if_pos c5]
    rw [ej] at hQ
    refine lv_iconst (v := nI 0) hx hb d_N_judge_8 (by decide) ?_
    rw [← hQ]
    refine W.iret (v := nI 0) hx hb hr ?_ hS.2.2 d_N_judge_9
    exact fun t ht hW => ⟨⟨nI 0, (), rfl, rfl, by rw [ht]; exact hP, hD⟩, hS.F ht⟩
set_option maxHeartbeats 4000000 in
set_option maxRecDepth 100000 in
theorem c_K_columnOf_P (l : Launch) (D : va_G) (g : Nat → ClassId) (sz : Nat) (ws : va_W) (k0 k1 o a M j : Nat) (x0 x1 : Int32) (f : Nat → Nat) (h0 : ws[k0]? = some (o, .inr (2, [.int (x0), .int (x1), .ref a]))) (h1 : ws[k1]? = some (a, .inl (g 0, M, .inl (fun k => nI (f k))))) (hM57 : M ≤ 57) (hj : j < M) : Met l y_K_columnOf w_K_columnOf rm_K_columnOf (va_Pc [.ref o, .int (nI j)] (pP D (tyl g) (ws) sz)) (va_Qi (fun (r : Int32) (u : Unit) => r = nI (f j)) (fun u => qB D (va_A (ws) sz) (ws)) (va_A (ws) sz)) 0 0 (va_A (ws) sz) := by
  refine Met.ofW (cc := b_K_columnOf) (maxL := 2) (ret := (some .int)) (by decide +kernel) rfl ?_
  intro p e s m args below meth c s₁ Bq hml hv
  have hx := Bq.exec
  have hb := Bq.bytes
  have hr := Bq.returns
  have hts : ∀ w ∈ wA, w.before args s = true := fun w h => atoms_spec (ws := w_K_columnOf) Bq.pre w (List.mem_cons_of_mem _ h)
  have hown : s.vm.findClass R_K = some m.cls := findClass_of_methodNamed Bq.named
  have hlocks := Bq.notSynchronized
  obtain ⟨rfl, hsz, hP, hKK, hD0⟩ := hv
  have hK := hKK.1
  subst hsz
  have hD := hD0.self (sz := s.heap.size)
  generalize hAe : va_A (ws) s.heap.size = A at hD ⊢
  have hA : ∀ q : Nat, s.heap.size ≤ q → A q := fun q h => by rw [← hAe]; exact Or.inr h
  have hS : va_S A s.heap s.heap [] := va_S.rf
  have hl := lv_entry ([.ref o, .int (nI j)]) (n := 2) (Nat.le_of_ble_eq_true rfl)
  rw [lg_entry_eq]
  generalize (lg_sl ([.ref o, .int (nI j)]) ++ List.replicate (2 - (lg_sl ([.ref o, .int (nI j)])).length) Slot.unset).toArray = ls at hl ⊢
  have hl : lv_has ls 2 [(0, .ref o), (1, .int (nI j))] := hl
  generalize hQ : MQ below (va_Qi (fun (r : Int32) (u : Unit) => r = nI (f j)) (fun u => qB D (A) (ws)) (A)) [.ref o, .int (nI j)].toArray s 0 0 A = Q
  refine lv_iload_n hx hb d_K_columnOf_0 rfl (lv_at hl 1 rfl) ?_
  refine lx_if_lt (tgt := 22) hx hb d_K_columnOf_1 (by decide) (by omega) ?_
  refine lv_iload_n hx hb d_K_columnOf_4 rfl (lv_at hl 1 rfl) ?_
  refine lv_aload_n hx hb d_K_columnOf_5 rfl (lv_at hl 0 rfl) ?_
  refine va_get (D := D) (ci := 2) (v := .ref a) (C := R_P) (T := F_P) (N := 3) hx hb hts i_P hown hK hP k0 h0 rfl 2 (by decide) (hts _ m_139) (fun _ h9 => h9) rfl d_K_columnOf_6 ?_
  refine va_alen hx hb hK hP k1 0 h1 (v := nI M) rfl (rfl) d_K_columnOf_9 ?_
  refine lx_icmp_ge (tgt := 22) hx hb d_K_columnOf_10 (by decide) (by omega) (by omega) (fun c10 => ?_) (fun c10 => ?_)
  · skip
    exact absurd c10 (by omega)
  · skip
    refine lv_aload_n hx hb d_K_columnOf_13 rfl (lv_at hl 0 rfl) ?_
    refine va_get (D := D) (ci := 2) (v := .ref a) (C := R_P) (T := F_P) (N := 3) hx hb hts i_P hown hK hP k0 h0 rfl 2 (by decide) (hts _ m_139) (fun _ h9 => h9) rfl d_K_columnOf_14 ?_
    refine lv_iload_n hx hb d_K_columnOf_17 rfl (lv_at hl 1 rfl) ?_
    refine lx_iald (v := nI (f j)) hx hb hK hP k1 0 h1 rfl (j := j) (by omega) (by omega) (rfl) d_K_columnOf_18 ?_
    refine lv_goto (tgt := 23) hx hb d_K_columnOf_19 (by decide) ?_
    rw [← hQ]
    refine W.iret (v := nI (f j)) hx hb hr ?_ hS.2.2 d_K_columnOf_23
    exact fun t ht hW => ⟨⟨nI (f j), (), rfl, rfl, by rw [ht]; exact hP, hD⟩, hS.F ht⟩
set_option maxHeartbeats 4000000 in
set_option maxRecDepth 100000 in
theorem c_K_greatestRowSum (l : Launch) (D : va_G) (g : Nat → ClassId) (sz : Nat) (ws : va_W) (o : Nat) : Met l y_K_greatestRowSum w_K_greatestRowSum rm_K_greatestRowSum (va_Pc [.ref o] (pP D (tyl g) (ws) sz)) (va_Qi (fun (r : Int32) (u : Unit) => r = nI 0) (fun u => qB D (va_A (ws) sz) (ws)) (va_A (ws) sz)) 0 0 (va_A (ws) sz) := by
  refine Met.ofW (cc := b_K_greatestRowSum) (maxL := 1) (ret := (some .int)) (by decide +kernel) rfl ?_
  intro p e s m args below meth c s₁ Bq hml hv
  have hx := Bq.exec
  have hb := Bq.bytes
  have hr := Bq.returns
  have hts : ∀ w ∈ wA, w.before args s = true := fun w h => atoms_spec (ws := w_K_greatestRowSum) Bq.pre w (List.mem_cons_of_mem _ h)
  have hown : s.vm.findClass R_K = some m.cls := findClass_of_methodNamed Bq.named
  have hlocks := Bq.notSynchronized
  obtain ⟨rfl, hsz, hP, hKK, hD0⟩ := hv
  have hK := hKK.1
  subst hsz
  have hD := hD0.self (sz := s.heap.size)
  generalize hAe : va_A (ws) s.heap.size = A at hD ⊢
  have hA : ∀ q : Nat, s.heap.size ≤ q → A q := fun q h => by rw [← hAe]; exact Or.inr h
  have hS : va_S A s.heap s.heap [] := va_S.rf
  have hl := lv_entry ([.ref o]) (n := 1) (Nat.le_of_ble_eq_true rfl)
  rw [lg_entry_eq]
  generalize (lg_sl ([.ref o]) ++ List.replicate (1 - (lg_sl ([.ref o])).length) Slot.unset).toArray = ls at hl ⊢
  have hl : lv_has ls 1 [(0, .ref o)] := hl
  generalize hQ : MQ below (va_Qi (fun (r : Int32) (u : Unit) => r = nI 0) (fun u => qB D (A) (ws)) (A)) [.ref o].toArray s 0 0 A = Q
  refine lv_iconst (v := nI 0) hx hb d_K_greatestRowSum_0 (by decide) ?_
  rw [← hQ]
  refine W.iret (v := nI 0) hx hb hr ?_ hS.2.2 d_K_greatestRowSum_1
  exact fun t ht hW => ⟨⟨nI 0, (), rfl, rfl, by rw [ht]; exact hP, hD⟩, hS.F ht⟩
end
section
/-- the greatest row sum of the lanes below i -/
def grs (M n : Nat) : Nat → Nat
  | 0 => 0
  | i + 1 => max (grs M n i) (gs (rsf (lr (wid M n i)) (wid M n i)) 0 (lr (wid M n i)))
theorem grs_lt {M n : Nat} (hM : M ≤ 57) (hn : n = 1 ∨ n = 4) : ∀ i, grs M n i < 2 ^ 21 := by
  intro i
  induction i with
  | zero => show 0 < 2 ^ 21; decide
  | succ i ih =>
    have h : gs (rsf (lr (wid M n i)) (wid M n i)) 0 (lr (wid M n i)) < 2 ^ 21 := gs_lt (fun k _ => by have := rsf_le (R := lr (wid M n i)) (wid M n i) k; have := wid_le (i := i) hM hn; omega)
    show max _ _ < _
    omega
end
section
theorem m_134 : Cond.sameField R_S R_K "wordBits" "I" ∈ wA := in_wA (List.mem_of_getElem? (i := 134) rfl) rfl
theorem m_133 : Cond.fieldLink R_S 33 R_S "wordBits" "I" ∈ wA := in_wA (List.mem_of_getElem? (i := 133) rfl) rfl
theorem m_270 : Cond.code y_L_greatestSum b_L_greatestSum 1 (some .int) ∈ wA := in_wA (List.mem_of_getElem? (i := 270) rfl) rfl
theorem m_267 : Cond.methodLink R_S 36 y_L_greatestSum ∈ wA := in_wA (List.mem_of_getElem? (i := 267) rfl) rfl
theorem m_268 : Cond.instanceMethod y_L_greatestSum ∈ wA := in_wA (List.mem_of_getElem? (i := 268) rfl) rfl
theorem m_269 : Cond.selects R_L y_L_greatestSum y_L_greatestSum ∈ wA := in_wA (List.mem_of_getElem? (i := 269) rfl) rfl
theorem m_273 : Cond.code y_JM_max b_JM_max 2 (some .int) ∈ wA := in_wA (List.mem_of_getElem? (i := 273) rfl) rfl
theorem m_271 : Cond.methodLink R_S 40 y_JM_max ∈ wA := in_wA (List.mem_of_getElem? (i := 271) rfl) rfl
theorem m_272 : Cond.static y_JM_max ∈ wA := in_wA (List.mem_of_getElem? (i := 272) rfl) rfl
theorem m_30 : Cond.initialized R_JM ∈ wA := in_wA (List.mem_of_getElem? (i := 30) rfl) rfl
theorem m_464 : Cond.methodLink R_S 46 y_T_clear ∈ wA := in_wA (List.mem_of_getElem? (i := 464) rfl) rfl
theorem m_468 : Cond.code y_L_bitFor b_L_bitFor 2 (some .int) ∈ wA := in_wA (List.mem_of_getElem? (i := 468) rfl) rfl
theorem m_465 : Cond.methodLink R_S 52 y_L_bitFor ∈ wA := in_wA (List.mem_of_getElem? (i := 465) rfl) rfl
theorem m_466 : Cond.instanceMethod y_L_bitFor ∈ wA := in_wA (List.mem_of_getElem? (i := 466) rfl) rfl
theorem m_467 : Cond.selects R_L y_L_bitFor y_L_bitFor ∈ wA := in_wA (List.mem_of_getElem? (i := 467) rfl) rfl
theorem m_196 : Cond.fieldLink R_S 60 R_T "checkFlips" "I" ∈ wA := in_wA (List.mem_of_getElem? (i := 196) rfl) rfl
theorem m_192 : Cond.fieldLink R_S 56 R_T "wordFlips" "J" ∈ wA := in_wA (List.mem_of_getElem? (i := 192) rfl) rfl
abbrev w_S_columnOf : List Cond := .code y_S_columnOf b_S_columnOf 2 (some .int) :: wA
abbrev rm_S_columnOf : Room := { frames := 0, cells := 0, slots := 0, locals := 0 }
theorem d_S_columnOf_0 : decode b_S_columnOf 0 = .ok (.iload_n 1, 1) := by decide +kernel
theorem d_S_columnOf_1 : decode b_S_columnOf 1 = .ok (.ifCond .lt 19, 3) := by decide +kernel
theorem d_S_columnOf_4 : decode b_S_columnOf 4 = .ok (.iload_n 1, 1) := by decide +kernel
theorem d_S_columnOf_5 : decode b_S_columnOf 5 = .ok (.aload_n 0, 1) := by decide +kernel
theorem d_S_columnOf_6 : decode b_S_columnOf 6 = .ok (.getfield 33, 3) := by decide +kernel
theorem d_S_columnOf_9 : decode b_S_columnOf 9 = .ok (.if_icmp .ge 11, 3) := by decide +kernel
theorem d_S_columnOf_12 : decode b_S_columnOf 12 = .ok (.aload_n 0, 1) := by decide +kernel
theorem d_S_columnOf_13 : decode b_S_columnOf 13 = .ok (.getfield 19, 3) := by decide +kernel
theorem d_S_columnOf_16 : decode b_S_columnOf 16 = .ok (.arraylength, 1) := by decide +kernel
theorem d_S_columnOf_17 : decode b_S_columnOf 17 = .ok (.ifCond .ne 5, 3) := by decide +kernel
theorem d_S_columnOf_20 : decode b_S_columnOf 20 = .ok (.iconst 0, 1) := by decide +kernel
theorem d_S_columnOf_21 : decode b_S_columnOf 21 = .ok (.ireturn, 1) := by decide +kernel
theorem d_S_columnOf_22 : decode b_S_columnOf 22 = .ok (.aload_n 0, 1) := by decide +kernel
theorem d_S_columnOf_23 : decode b_S_columnOf 23 = .ok (.getfield 19, 3) := by decide +kernel
theorem d_S_columnOf_26 : decode b_S_columnOf 26 = .ok (.iload_n 1, 1) := by decide +kernel
theorem d_S_columnOf_27 : decode b_S_columnOf 27 = .ok (.aload_n 0, 1) := by decide +kernel
theorem d_S_columnOf_28 : decode b_S_columnOf 28 = .ok (.getfield 19, 3) := by decide +kernel
theorem d_S_columnOf_31 : decode b_S_columnOf 31 = .ok (.arraylength, 1) := by decide +kernel
theorem d_S_columnOf_32 : decode b_S_columnOf 32 = .ok (.irem, 1) := by decide +kernel
theorem d_S_columnOf_33 : decode b_S_columnOf 33 = .ok (.aaload, 1) := by decide +kernel
theorem d_S_columnOf_34 : decode b_S_columnOf 34 = .ok (.getfield 29, 3) := by decide +kernel
theorem d_S_columnOf_37 : decode b_S_columnOf 37 = .ok (.iload_n 1, 1) := by decide +kernel
theorem d_S_columnOf_38 : decode b_S_columnOf 38 = .ok (.aload_n 0, 1) := by decide +kernel
theorem d_S_columnOf_39 : decode b_S_columnOf 39 = .ok (.getfield 19, 3) := by decide +kernel
theorem d_S_columnOf_42 : decode b_S_columnOf 42 = .ok (.arraylength, 1) := by decide +kernel
theorem d_S_columnOf_43 : decode b_S_columnOf 43 = .ok (.idiv, 1) := by decide +kernel
theorem d_S_columnOf_44 : decode b_S_columnOf 44 = .ok (.iaload, 1) := by decide +kernel
theorem d_S_columnOf_45 : decode b_S_columnOf 45 = .ok (.ireturn, 1) := by decide +kernel
abbrev w_S_greatestRowSum : List Cond := .code y_S_greatestRowSum b_S_greatestRowSum 6 (some .int) :: wA
abbrev rm_S_greatestRowSum : Room := { frames := 2, cells := 0, slots := 0, locals := 44 }
theorem d_S_greatestRowSum_0 : decode b_S_greatestRowSum 0 = .ok (.iconst 0, 1) := by decide +kernel
theorem d_S_greatestRowSum_1 : decode b_S_greatestRowSum 1 = .ok (.istore_n 1, 1) := by decide +kernel
theorem d_S_greatestRowSum_2 : decode b_S_greatestRowSum 2 = .ok (.aload_n 0, 1) := by decide +kernel
theorem d_S_greatestRowSum_3 : decode b_S_greatestRowSum 3 = .ok (.getfield 19, 3) := by decide +kernel
theorem d_S_greatestRowSum_6 : decode b_S_greatestRowSum 6 = .ok (.astore_n 2, 1) := by decide +kernel
theorem d_S_greatestRowSum_7 : decode b_S_greatestRowSum 7 = .ok (.aload_n 2, 1) := by decide +kernel
theorem d_S_greatestRowSum_8 : decode b_S_greatestRowSum 8 = .ok (.arraylength, 1) := by decide +kernel
theorem d_S_greatestRowSum_9 : decode b_S_greatestRowSum 9 = .ok (.istore_n 3, 1) := by decide +kernel
theorem d_S_greatestRowSum_10 : decode b_S_greatestRowSum 10 = .ok (.iconst 0, 1) := by decide +kernel
theorem d_S_greatestRowSum_11 : decode b_S_greatestRowSum 11 = .ok (.istore 4, 2) := by decide +kernel
theorem d_S_greatestRowSum_13 : decode b_S_greatestRowSum 13 = .ok (.iload 4, 2) := by decide +kernel
theorem d_S_greatestRowSum_15 : decode b_S_greatestRowSum 15 = .ok (.iload_n 3, 1) := by decide +kernel
theorem d_S_greatestRowSum_16 : decode b_S_greatestRowSum 16 = .ok (.if_icmp .ge 25, 3) := by decide +kernel
theorem d_S_greatestRowSum_19 : decode b_S_greatestRowSum 19 = .ok (.aload_n 2, 1) := by decide +kernel
theorem d_S_greatestRowSum_20 : decode b_S_greatestRowSum 20 = .ok (.iload 4, 2) := by decide +kernel
theorem d_S_greatestRowSum_22 : decode b_S_greatestRowSum 22 = .ok (.aaload, 1) := by decide +kernel
theorem d_S_greatestRowSum_23 : decode b_S_greatestRowSum 23 = .ok (.astore 5, 2) := by decide +kernel
theorem d_S_greatestRowSum_25 : decode b_S_greatestRowSum 25 = .ok (.iload_n 1, 1) := by decide +kernel
theorem d_S_greatestRowSum_26 : decode b_S_greatestRowSum 26 = .ok (.aload 5, 2) := by decide +kernel
theorem d_S_greatestRowSum_28 : decode b_S_greatestRowSum 28 = .ok (.invokevirtual 36, 3) := by decide +kernel
theorem d_S_greatestRowSum_31 : decode b_S_greatestRowSum 31 = .ok (.invokestatic 40, 3) := by decide +kernel
theorem d_S_greatestRowSum_34 : decode b_S_greatestRowSum 34 = .ok (.istore_n 1, 1) := by decide +kernel
theorem d_S_greatestRowSum_35 : decode b_S_greatestRowSum 35 = .ok (.iinc 4 1, 3) := by decide +kernel
theorem d_S_greatestRowSum_38 : decode b_S_greatestRowSum 38 = .ok (.goto (-25), 3) := by decide +kernel
theorem d_S_greatestRowSum_41 : decode b_S_greatestRowSum 41 = .ok (.iload_n 1, 1) := by decide +kernel
theorem d_S_greatestRowSum_42 : decode b_S_greatestRowSum 42 = .ok (.ireturn, 1) := by decide +kernel
abbrev w_S_judge : List Cond := .code y_S_judge b_S_judge 10 (some .int) :: wA
abbrev rm_S_judge : Room := { frames := 1, cells := 0, slots := 0, locals := 21 }
theorem d_S_judge_0 : decode b_S_judge 0 = .ok (.aload_n 2, 1) := by decide +kernel
theorem d_S_judge_1 : decode b_S_judge 1 = .ok (.invokevirtual 46, 3) := by decide +kernel
theorem d_S_judge_4 : decode b_S_judge 4 = .ok (.iconst 0, 1) := by decide +kernel
theorem d_S_judge_5 : decode b_S_judge 5 = .ok (.istore_n 3, 1) := by decide +kernel
theorem d_S_judge_6 : decode b_S_judge 6 = .ok (.iconst 0, 1) := by decide +kernel
theorem d_S_judge_7 : decode b_S_judge 7 = .ok (.istore 4, 2) := by decide +kernel
theorem d_S_judge_9 : decode b_S_judge 9 = .ok (.iconst 0, 1) := by decide +kernel
theorem d_S_judge_10 : decode b_S_judge 10 = .ok (.istore 5, 2) := by decide +kernel
theorem d_S_judge_12 : decode b_S_judge 12 = .ok (.iload 5, 2) := by decide +kernel
theorem d_S_judge_14 : decode b_S_judge 14 = .ok (.aload_n 0, 1) := by decide +kernel
theorem d_S_judge_15 : decode b_S_judge 15 = .ok (.getfield 19, 3) := by decide +kernel
theorem d_S_judge_18 : decode b_S_judge 18 = .ok (.arraylength, 1) := by decide +kernel
theorem d_S_judge_19 : decode b_S_judge 19 = .ok (.if_icmp .ge 131, 3) := by decide +kernel
theorem d_S_judge_22 : decode b_S_judge 22 = .ok (.aload_n 0, 1) := by decide +kernel
theorem d_S_judge_23 : decode b_S_judge 23 = .ok (.getfield 19, 3) := by decide +kernel
theorem d_S_judge_26 : decode b_S_judge 26 = .ok (.iload 5, 2) := by decide +kernel
theorem d_S_judge_28 : decode b_S_judge 28 = .ok (.aaload, 1) := by decide +kernel
theorem d_S_judge_29 : decode b_S_judge 29 = .ok (.astore 6, 2) := by decide +kernel
theorem d_S_judge_31 : decode b_S_judge 31 = .ok (.iload_n 1, 1) := by decide +kernel
theorem d_S_judge_32 : decode b_S_judge 32 = .ok (.iload 4, 2) := by decide +kernel
theorem d_S_judge_34 : decode b_S_judge 34 = .ok (.iushr, 1) := by decide +kernel
theorem d_S_judge_35 : decode b_S_judge 35 = .ok (.iconst 1, 1) := by decide +kernel
theorem d_S_judge_36 : decode b_S_judge 36 = .ok (.aload 6, 2) := by decide +kernel
theorem d_S_judge_38 : decode b_S_judge 38 = .ok (.getfield 23, 3) := by decide +kernel
theorem d_S_judge_41 : decode b_S_judge 41 = .ok (.ishl, 1) := by decide +kernel
theorem d_S_judge_42 : decode b_S_judge 42 = .ok (.iconst 1, 1) := by decide +kernel
theorem d_S_judge_43 : decode b_S_judge 43 = .ok (.isub, 1) := by decide +kernel
theorem d_S_judge_44 : decode b_S_judge 44 = .ok (.iand, 1) := by decide +kernel
theorem d_S_judge_45 : decode b_S_judge 45 = .ok (.istore 7, 2) := by decide +kernel
theorem d_S_judge_47 : decode b_S_judge 47 = .ok (.iload 7, 2) := by decide +kernel
theorem d_S_judge_49 : decode b_S_judge 49 = .ok (.ifCond .eq 85, 3) := by decide +kernel
theorem d_S_judge_52 : decode b_S_judge 52 = .ok (.aload 6, 2) := by decide +kernel
theorem d_S_judge_54 : decode b_S_judge 54 = .ok (.iload 7, 2) := by decide +kernel
theorem d_S_judge_56 : decode b_S_judge 56 = .ok (.invokevirtual 52, 3) := by decide +kernel
theorem d_S_judge_59 : decode b_S_judge 59 = .ok (.istore 8, 2) := by decide +kernel
theorem d_S_judge_61 : decode b_S_judge 61 = .ok (.iload 8, 2) := by decide +kernel
theorem d_S_judge_63 : decode b_S_judge 63 = .ok (.iconst (-1), 1) := by decide +kernel
theorem d_S_judge_64 : decode b_S_judge 64 = .ok (.if_icmp .ne 9, 3) := by decide +kernel
theorem d_S_judge_67 : decode b_S_judge 67 = .ok (.aload_n 2, 1) := by decide +kernel
theorem d_S_judge_68 : decode b_S_judge 68 = .ok (.invokevirtual 46, 3) := by decide +kernel
theorem d_S_judge_71 : decode b_S_judge 71 = .ok (.iconst 2, 1) := by decide +kernel
theorem d_S_judge_72 : decode b_S_judge 72 = .ok (.ireturn, 1) := by decide +kernel
theorem d_S_judge_73 : decode b_S_judge 73 = .ok (.iconst 1, 1) := by decide +kernel
theorem d_S_judge_74 : decode b_S_judge 74 = .ok (.istore_n 3, 1) := by decide +kernel
theorem d_S_judge_75 : decode b_S_judge 75 = .ok (.aload 6, 2) := by decide +kernel
theorem d_S_judge_77 : decode b_S_judge 77 = .ok (.getfield 29, 3) := by decide +kernel
theorem d_S_judge_80 : decode b_S_judge 80 = .ok (.arraylength, 1) := by decide +kernel
theorem d_S_judge_81 : decode b_S_judge 81 = .ok (.istore 9, 2) := by decide +kernel
theorem d_S_judge_83 : decode b_S_judge 83 = .ok (.iload 8, 2) := by decide +kernel
theorem d_S_judge_85 : decode b_S_judge 85 = .ok (.iload 9, 2) := by decide +kernel
theorem d_S_judge_87 : decode b_S_judge 87 = .ok (.if_icmp .ge 28, 3) := by decide +kernel
theorem d_S_judge_90 : decode b_S_judge 90 = .ok (.aload_n 2, 1) := by decide +kernel
theorem d_S_judge_91 : decode b_S_judge 91 = .ok (.dup, 1) := by decide +kernel
theorem d_S_judge_92 : decode b_S_judge 92 = .ok (.getfield 56, 3) := by decide +kernel
theorem d_S_judge_95 : decode b_S_judge 95 = .ok (.lconst 1, 1) := by decide +kernel
theorem d_S_judge_96 : decode b_S_judge 96 = .ok (.iload 8, 2) := by decide +kernel
theorem d_S_judge_98 : decode b_S_judge 98 = .ok (.aload_n 0, 1) := by decide +kernel
theorem d_S_judge_99 : decode b_S_judge 99 = .ok (.getfield 19, 3) := by decide +kernel
theorem d_S_judge_102 : decode b_S_judge 102 = .ok (.arraylength, 1) := by decide +kernel
theorem d_S_judge_103 : decode b_S_judge 103 = .ok (.imul, 1) := by decide +kernel
theorem d_S_judge_104 : decode b_S_judge 104 = .ok (.iload 5, 2) := by decide +kernel
theorem d_S_judge_106 : decode b_S_judge 106 = .ok (.iadd, 1) := by decide +kernel
theorem d_S_judge_107 : decode b_S_judge 107 = .ok (.lshl, 1) := by decide +kernel
theorem d_S_judge_108 : decode b_S_judge 108 = .ok (.lor, 1) := by decide +kernel
theorem d_S_judge_109 : decode b_S_judge 109 = .ok (.putfield 56, 3) := by decide +kernel
theorem d_S_judge_112 : decode b_S_judge 112 = .ok (.goto 22, 3) := by decide +kernel
theorem d_S_judge_115 : decode b_S_judge 115 = .ok (.aload_n 2, 1) := by decide +kernel
theorem d_S_judge_116 : decode b_S_judge 116 = .ok (.dup, 1) := by decide +kernel
theorem d_S_judge_117 : decode b_S_judge 117 = .ok (.getfield 60, 3) := by decide +kernel
theorem d_S_judge_120 : decode b_S_judge 120 = .ok (.iconst 1, 1) := by decide +kernel
theorem d_S_judge_121 : decode b_S_judge 121 = .ok (.iload 4, 2) := by decide +kernel
theorem d_S_judge_123 : decode b_S_judge 123 = .ok (.iload 8, 2) := by decide +kernel
theorem d_S_judge_125 : decode b_S_judge 125 = .ok (.iadd, 1) := by decide +kernel
theorem d_S_judge_126 : decode b_S_judge 126 = .ok (.iload 9, 2) := by decide +kernel
theorem d_S_judge_128 : decode b_S_judge 128 = .ok (.isub, 1) := by decide +kernel
theorem d_S_judge_129 : decode b_S_judge 129 = .ok (.ishl, 1) := by decide +kernel
theorem d_S_judge_130 : decode b_S_judge 130 = .ok (.ior, 1) := by decide +kernel
theorem d_S_judge_131 : decode b_S_judge 131 = .ok (.putfield 60, 3) := by decide +kernel
theorem d_S_judge_134 : decode b_S_judge 134 = .ok (.iload 4, 2) := by decide +kernel
theorem d_S_judge_136 : decode b_S_judge 136 = .ok (.aload 6, 2) := by decide +kernel
theorem d_S_judge_138 : decode b_S_judge 138 = .ok (.getfield 23, 3) := by decide +kernel
theorem d_S_judge_141 : decode b_S_judge 141 = .ok (.iadd, 1) := by decide +kernel
theorem d_S_judge_142 : decode b_S_judge 142 = .ok (.istore 4, 2) := by decide +kernel
theorem d_S_judge_144 : decode b_S_judge 144 = .ok (.iinc 5 1, 3) := by decide +kernel
theorem d_S_judge_147 : decode b_S_judge 147 = .ok (.goto (-135), 3) := by decide +kernel
theorem d_S_judge_150 : decode b_S_judge 150 = .ok (.iload_n 3, 1) := by decide +kernel
theorem d_S_judge_151 : decode b_S_judge 151 = .ok (.ireturn, 1) := by decide +kernel
set_option maxHeartbeats 4000000 in
set_option maxRecDepth 100000 in
theorem c_S_columnOf (l : Launch) (D : va_G) (g : Nat → ClassId) (sz : Nat) (ws : va_W) (M n0 j : Nat) (hM57 : M ≤ 57) (hn0 : n0 = 1 ∨ n0 = 4) (kl al : Nat) (lf : Nat → Option Nat) (kL kc kr kb la ca ra ba9 : Nat → Nat) (ql : ws[kl]? = some (al, .inl (g 3, n0, .inr (.inr (.inr (.inr (lf))))))) (qf : ∀ i, i < n0 → lf i = some (la i)) (qL : ∀ i, i < n0 → ws[kL i]? = some (la i, .inr (4, [.int (nI (lr (wid M n0 i))), .ref (ca i), .ref (ra i), .ref (ba9 i)]))) (qc : ∀ i, i < n0 → ws[kc i]? = some (ca i, .inl (g 0, wid M n0 i, .inl (fun j => nI (if j < wid M n0 i then cc_ (lr (wid M n0 i)) j else 0))))) (k0 o x2 : Nat) (x1 : Int32) (h0 : ws[k0]? = some (o, .inr (1, [.int (nI M), .int (x1), .ref x2, .ref al]))) (hj : j < M) : Met l y_S_columnOf w_S_columnOf rm_S_columnOf (va_Pc [.ref o, .int (nI j)] (pP D (tyl g) (ws) sz)) (va_Qi (fun (r : Int32) (u : Unit) => r = nI (cc_ (lr (wid M n0 (j % n0))) (j / n0))) (fun u => qB D (va_A (ws) sz) (ws)) (va_A (ws) sz)) 0 0 (va_A (ws) sz) := by
  refine Met.ofW (cc := b_S_columnOf) (maxL := 2) (ret := (some .int)) (by decide +kernel) rfl ?_
  intro p e s m args below meth c s₁ Bq hml hv
  have hx := Bq.exec
  have hb := Bq.bytes
  have hr := Bq.returns
  have hts : ∀ w ∈ wA, w.before args s = true := fun w h => atoms_spec (ws := w_S_columnOf) Bq.pre w (List.mem_cons_of_mem _ h)
  have hown : s.vm.findClass R_S = some m.cls := findClass_of_methodNamed Bq.named
  have hlocks := Bq.notSynchronized
  obtain ⟨rfl, hsz, hP, hKK, hD0⟩ := hv
  have hK := hKK.1
  subst hsz
  have hD := hD0.self (sz := s.heap.size)
  generalize hAe : va_A (ws) s.heap.size = A at hD ⊢
  have hA : ∀ q : Nat, s.heap.size ≤ q → A q := fun q h => by rw [← hAe]; exact Or.inr h
  have hS : va_S A s.heap s.heap [] := va_S.rf
  have hl := lv_entry ([.ref o, .int (nI j)]) (n := 2) (Nat.le_of_ble_eq_true rfl)
  rw [lg_entry_eq]
  generalize (lg_sl ([.ref o, .int (nI j)]) ++ List.replicate (2 - (lg_sl ([.ref o, .int (nI j)])).length) Slot.unset).toArray = ls at hl ⊢
  have hl : lv_has ls 2 [(0, .ref o), (1, .int (nI j))] := hl
  generalize hQ : MQ below (va_Qi (fun (r : Int32) (u : Unit) => r = nI (cc_ (lr (wid M n0 (j % n0))) (j / n0))) (fun u => qB D (A) (ws)) (A)) [.ref o, .int (nI j)].toArray s 0 0 A = Q
  refine lv_iload_n hx hb d_S_columnOf_0 rfl (lv_at hl 1 rfl) ?_
  refine lx_if_lt (tgt := 20) hx hb d_S_columnOf_1 (by decide) (by omega) ?_
  refine lv_iload_n hx hb d_S_columnOf_4 rfl (lv_at hl 1 rfl) ?_
  refine lv_aload_n hx hb d_S_columnOf_5 rfl (lv_at hl 0 rfl) ?_
  refine va_get (D := D) (ci := 1) (v := .int (nI M)) (C := R_S) (T := F_S) (N := 4) hx hb hts i_S hown hK hP k0 h0 rfl 0 (by decide) (hts _ m_133) (fun x9 h9 => u_same (hts _ m_134) x9 h9) rfl d_S_columnOf_6 ?_
  refine lx_icmp_ge (tgt := 20) hx hb d_S_columnOf_9 (by decide) (by omega) (by omega) (fun c9 => ?_) (fun c9 => ?_)
  · skip
    exact absurd c9 (by omega)
  · skip
    have hm : j % n0 < n0 := Nat.mod_lt _ (by omega)
    have hd := wid_of hn0 hj
    have hwl := wid_le (i := j % n0) hM57 hn0
    have hjn : j / n0 < 2 ^ 31 := Nat.lt_of_le_of_lt (Nat.div_le_self _ _) (by omega)
    refine lv_aload_n hx hb d_S_columnOf_12 rfl (lv_at hl 0 rfl) ?_
    refine va_get (D := D) (ci := 1) (v := .ref al) (C := R_S) (T := F_S) (N := 4) hx hb hts i_S hown hK hP k0 h0 rfl 3 (by decide) (hts _ m_131) (fun _ h9 => h9) rfl d_S_columnOf_13 ?_
    refine va_alen hx hb hK hP kl 3 ql (v := nI n0) rfl (rfl) d_S_columnOf_16 ?_
    refine lx_if_ne (tgt := 22) hx hb d_S_columnOf_17 (by decide) (by omega) (fun c17 => ?_) (fun c17 => ?_)
    · skip
      refine lv_aload_n hx hb d_S_columnOf_22 rfl (lv_at hl 0 rfl) ?_
      refine va_get (D := D) (ci := 1) (v := .ref al) (C := R_S) (T := F_S) (N := 4) hx hb hts i_S hown hK hP k0 h0 rfl 3 (by decide) (hts _ m_131) (fun _ h9 => h9) rfl d_S_columnOf_23 ?_
      refine lv_iload_n hx hb d_S_columnOf_26 rfl (lv_at hl 1 rfl) ?_
      refine lv_aload_n hx hb d_S_columnOf_27 rfl (lv_at hl 0 rfl) ?_
      refine va_get (D := D) (ci := 1) (v := .ref al) (C := R_S) (T := F_S) (N := 4) hx hb hts i_S hown hK hP k0 h0 rfl 3 (by decide) (hts _ m_131) (fun _ h9 => h9) rfl d_S_columnOf_28 ?_
      refine va_alen hx hb hK hP kl 3 ql (v := nI n0) rfl (rfl) d_S_columnOf_31 ?_
      refine lx_irem (z := nI (j % n0)) hx hb d_S_columnOf_32 (nI_ne0 (by omega) (by omega)) (pk_rem (by omega) (by omega) (by omega)) ?_
      refine lx_aald (v := la (j % n0)) hx hb hK hP kl 3 ql rfl (j := j % n0) (by omega) (by omega) (qf _ hm) d_S_columnOf_33 ?_
      refine va_get (D := D) (ci := 4) (v := .ref (ca (j % n0))) (C := R_L) (T := F_L) (N := 4) hx hb hts i_L hown hK hP (kL (j % n0)) (qL _ hm) rfl 1 (by decide) (hts _ m_105) (fun _ h9 => h9) rfl d_S_columnOf_34 ?_
      refine lv_iload_n hx hb d_S_columnOf_37 rfl (lv_at hl 1 rfl) ?_
      refine lv_aload_n hx hb d_S_columnOf_38 rfl (lv_at hl 0 rfl) ?_
      refine va_get (D := D) (ci := 1) (v := .ref al) (C := R_S) (T := F_S) (N := 4) hx hb hts i_S hown hK hP k0 h0 rfl 3 (by decide) (hts _ m_131) (fun _ h9 => h9) rfl d_S_columnOf_39 ?_
      refine va_alen hx hb hK hP kl 3 ql (v := nI n0) rfl (rfl) d_S_columnOf_42 ?_
      refine lx_idiv (z := nI (j / n0)) hx hb d_S_columnOf_43 (nI_ne0 (by omega) (by omega)) (pk_div (by omega) (by omega) (by omega)) ?_
      refine lx_iald (v := nI (cc_ (lr (wid M n0 (j % n0))) (j / n0))) hx hb hK hP (kc (j % n0)) 0 (qc _ hm) rfl (j := j / n0) (hd) (by omega) (by rw [if_pos hd]) d_S_columnOf_44 ?_
      rw [← hQ]
      refine W.iret (v := nI (cc_ (lr (wid M n0 (j % n0))) (j / n0))) hx hb hr ?_ hS.2.2 d_S_columnOf_45
      exact fun t ht hW => ⟨⟨nI (cc_ (lr (wid M n0 (j % n0))) (j / n0)), (), rfl, rfl, by rw [ht]; exact hP, hD⟩, hS.F ht⟩
    · skip
      exact absurd c17 (by omega)
set_option maxHeartbeats 4000000 in
set_option maxRecDepth 100000 in
theorem c_S_greatestRowSum (l : Launch) (D : va_G) (g : Nat → ClassId) (sz : Nat) (ws : va_W) (M n0 : Nat) (hM57 : M ≤ 57) (hn0 : n0 = 1 ∨ n0 = 4) (kl al : Nat) (lf : Nat → Option Nat) (kL kc kr kb la ca ra ba9 : Nat → Nat) (ql : ws[kl]? = some (al, .inl (g 3, n0, .inr (.inr (.inr (.inr (lf))))))) (qf : ∀ i, i < n0 → lf i = some (la i)) (qL : ∀ i, i < n0 → ws[kL i]? = some (la i, .inr (4, [.int (nI (lr (wid M n0 i))), .ref (ca i), .ref (ra i), .ref (ba9 i)]))) (qr : ∀ i, i < n0 → ws[kr i]? = some (ra i, .inl (g 0, lr (wid M n0 i), .inl (fun r => nI (rsf (lr (wid M n0 i)) (wid M n0 i) r))))) (k0 o x2 : Nat) (x1 : Int32) (h0 : ws[k0]? = some (o, .inr (1, [.int (nI M), .int (x1), .ref x2, .ref al]))) : Met l y_S_greatestRowSum w_S_greatestRowSum rm_S_greatestRowSum (va_Pc [.ref o] (pP D (tyl g) (ws) sz)) (va_Qi (fun (r : Int32) (u : Unit) => r = nI (grs M n0 n0)) (fun u => qB D (va_A (ws) sz) (ws)) (va_A (ws) sz)) 0 0 (va_A (ws) sz) := by
  refine Met.ofW (cc := b_S_greatestRowSum) (maxL := 6) (ret := (some .int)) (by decide +kernel) rfl ?_
  intro p e s m args below meth c s₁ Bq hml hv
  have hx := Bq.exec
  have hb := Bq.bytes
  have hr := Bq.returns
  have hts : ∀ w ∈ wA, w.before args s = true := fun w h => atoms_spec (ws := w_S_greatestRowSum) Bq.pre w (List.mem_cons_of_mem _ h)
  have hown : s.vm.findClass R_S = some m.cls := findClass_of_methodNamed Bq.named
  have hlocks := Bq.notSynchronized
  obtain ⟨rfl, hsz, hP, hKK, hD0⟩ := hv
  have hK := hKK.1
  subst hsz
  have hD := hD0.self (sz := s.heap.size)
  generalize hAe : va_A (ws) s.heap.size = A at hD ⊢
  have hA : ∀ q : Nat, s.heap.size ≤ q → A q := fun q h => by rw [← hAe]; exact Or.inr h
  have hS : va_S A s.heap s.heap [] := va_S.rf
  have hl := lv_entry ([.ref o]) (n := 6) (Nat.le_of_ble_eq_true rfl)
  rw [lg_entry_eq]
  generalize (lg_sl ([.ref o]) ++ List.replicate (6 - (lg_sl ([.ref o])).length) Slot.unset).toArray = ls at hl ⊢
  have hl : lv_has ls 6 [(0, .ref o)] := hl
  generalize hQ : MQ below (va_Qi (fun (r : Int32) (u : Unit) => r = nI (grs M n0 n0)) (fun u => qB D (A) (ws)) (A)) [.ref o].toArray s 0 0 A = Q
  have h4 : n0 ≤ 4 := by omega
  have lp13 : ∀ (n : Nat) (k : Nat) (ls : Array Slot) (H : Heap) (locs : List Loc), (n0 + 1 ≤ k + n) → (k ≤ n0) → lv_has ls 6 [(1, .int (nI (grs M n0 k))), (2, .ref al), (3, .int (nI n0)), (4, .int (nI k))] → va_P D vwCl (ws) H → va_D A (ws) → va_S A s.heap H locs → W p l e (headSpec w_S_greatestRowSum rm_S_greatestRowSum).room s m [.ref o].toArray below meth c H locs 0 0 Q (F0 m 13 ls []) := by
    intro n
    induction n with
    | zero => intro k ls H locs hfu hk _ _ _ _; exact absurd hfu (by omega)
    | succ n ih =>
      intro k ls H locs hfu hk hl hP hD hS
      refine lv_iload hx hb d_S_greatestRowSum_13 (lv_at hl 3 rfl) ?_
      refine lv_iload_n hx hb d_S_greatestRowSum_15 rfl (lv_at hl 2 rfl) ?_
      refine lx_icmp_ge (tgt := 41) hx hb d_S_greatestRowSum_16 (by decide) (by omega) (by omega) (fun c16 => ?_) (fun c16 => ?_)
      · skip
        refine lv_iload_n hx hb d_S_greatestRowSum_41 rfl (lv_at hl 0 rfl) ?_
        rw [← hQ]
        refine W.iret (v := nI (grs M n0 k)) hx hb hr ?_ hS.2.2 d_S_greatestRowSum_42
        exact fun t ht hW => ⟨⟨nI (grs M n0 k), (), rfl, (by rw [show k = n0 by omega]), by rw [ht]; exact hP, hD⟩, hS.F ht⟩
      · skip
        have hwl := wid_le (i := k) hM57 hn0
        have hl7 := lr_le (wid M n0 k)
        have hf9 : ∀ j, j < lr (wid M n0 k) → rsf (lr (wid M n0 k)) (wid M n0 k) j < 2 ^ 20 := fun j _ => by have := rsf_le (R := lr (wid M n0 k)) (wid M n0 k) j; omega
        have hg1 : gs (rsf (lr (wid M n0 k)) (wid M n0 k)) 0 (lr (wid M n0 k)) < 2 ^ 21 := gs_lt hf9
        have hg2 := grs_lt hM57 hn0 k
        refine lv_aload_n hx hb d_S_greatestRowSum_19 rfl (lv_at hl 1 rfl) ?_
        refine lv_iload hx hb d_S_greatestRowSum_20 (lv_at hl 3 rfl) ?_
        refine lx_aald (v := la k) hx hb hK hP kl 3 ql rfl (j := k) (by omega) (by omega) (qf k c16) d_S_greatestRowSum_22 ?_
        refine lv_astore (lv' := [(5, .ref (la k)), (1, .int (nI (grs M n0 k))), (2, .ref al), (3, .int (nI n0)), (4, .int (nI k))]) hx hb d_S_greatestRowSum_23 hl (by decide) rfl (fun ls hl => ?_)
        refine lv_iload_n hx hb d_S_greatestRowSum_25 rfl (lv_at hl 1 rfl) ?_
        refine lv_aload hx hb d_S_greatestRowSum_26 (lv_at hl 0 rfl) ?_
        refine lc_Vi (b := la k) (As := []) (rest := [.int (nI (grs M n0 k))]) ⟨hx, hb, hml, hown, hts⟩ (c_L_greatestSum l D g _ _ (kL k) (kr k) (la k) (ra k) (ca k) (ba9 k) (lr (wid M n0 k)) (nI (lr (wid M n0 k))) (rsf (lr (wid M n0 k)) (wid M n0 k)) (qL k c16) (qr k c16) (by omega) hf9) (kV 0 hts m_270 m_267 m_268 m_269 m_33 (by decide +kernel) ⟨Nat.le_of_ble_eq_true rfl, Nat.le_of_ble_eq_true rfl⟩) (va_recv hK hP (ci := 4) (q0 := kL k) rfl (qL k c16)) hKK hP hD hS hA hl.1 rfl rfl (Nat.le_of_ble_eq_true rfl) d_S_greatestRowSum_28 ⟨Nat.le_of_ble_eq_true rfl, Nat.le_of_ble_eq_true rfl⟩ (fun r1 u H locs e1 hP hD hS => ?_)
        obtain rfl : r1 = nI (gs (rsf (lr (wid M n0 k)) (wid M n0 k)) 0 (lr (wid M n0 k))) := e1
        refine lc_Si (As := [.int (nI (grs M n0 k)), .int (nI (gs (rsf (lr (wid M n0 k)) (wid M n0 k)) 0 (lr (wid M n0 k))))]) (rest := []) ⟨hx, hb, hml, hown, hts⟩ (c_JM_max l D g _ _ (grs M n0 k) (gs (rsf (lr (wid M n0 k)) (wid M n0 k)) 0 (lr (wid M n0 k))) (by omega) (by omega)) (kS 2 hts m_273 m_271 m_272 m_30 (by decide +kernel) ⟨Nat.le_of_ble_eq_true rfl, Nat.le_of_ble_eq_true rfl⟩) hKK hP hD hS hA hl.1 rfl rfl (Nat.le_of_ble_eq_true rfl) d_S_greatestRowSum_31 ⟨Nat.le_of_ble_eq_true rfl, Nat.le_of_ble_eq_true rfl⟩ (fun r2 u H locs e2 hP hD hS => ?_)
        obtain rfl : r2 = nI (grs M n0 (k + 1)) := e2
        refine lv_istore_n (lv' := [(1, .int (nI (grs M n0 (k + 1)))), (5, .ref (la k)), (2, .ref al), (3, .int (nI n0)), (4, .int (nI k))]) hx hb d_S_greatestRowSum_34 rfl hl (by decide) rfl (fun ls hl => ?_)
        refine lv_iinc (v := nI (k + 1)) (lv' := [(4, .int (nI (k + 1))), (1, .int (nI (grs M n0 (k + 1)))), (5, .ref (la k)), (2, .ref al), (3, .int (nI n0))]) hx hb d_S_greatestRowSum_35 hl (k := 4) rfl (nI_1 k) (by decide) rfl (fun ls hl => ?_)
        refine lv_goto (tgt := 13) hx hb d_S_greatestRowSum_38 (by decide) ?_
        exact ih (k + 1) _ _ _ (by omega) (by omega) (lv_sub hl [1, 3, 4, 0] rfl) hP hD hS
  refine lv_iconst (v := nI 0) hx hb d_S_greatestRowSum_0 (by decide) ?_
  refine lv_istore_n (lv' := [(1, .int (nI 0)), (0, .ref o)]) hx hb d_S_greatestRowSum_1 rfl hl (by decide) rfl (fun ls hl => ?_)
  refine lv_aload_n hx hb d_S_greatestRowSum_2 rfl (lv_at hl 1 rfl) ?_
  refine va_get (D := D) (ci := 1) (v := .ref al) (C := R_S) (T := F_S) (N := 4) hx hb hts i_S hown hK hP k0 h0 rfl 3 (by decide) (hts _ m_131) (fun _ h9 => h9) rfl d_S_greatestRowSum_3 ?_
  refine lv_astore_n (lv' := [(2, .ref al), (1, .int (nI 0)), (0, .ref o)]) hx hb d_S_greatestRowSum_6 rfl hl (by decide) rfl (fun ls hl => ?_)
  refine lv_aload_n hx hb d_S_greatestRowSum_7 rfl (lv_at hl 0 rfl) ?_
  refine va_alen hx hb hK hP kl 3 ql (v := nI n0) rfl (rfl) d_S_greatestRowSum_8 ?_
  refine lv_istore_n (lv' := [(3, .int (nI n0)), (2, .ref al), (1, .int (nI 0)), (0, .ref o)]) hx hb d_S_greatestRowSum_9 rfl hl (by decide) rfl (fun ls hl => ?_)
  refine lv_iconst (v := nI 0) hx hb d_S_greatestRowSum_10 (by decide) ?_
  refine lv_istore (lv' := [(4, .int (nI 0)), (3, .int (nI n0)), (2, .ref al), (1, .int (nI 0)), (0, .ref o)]) hx hb d_S_greatestRowSum_11 hl (by decide) rfl (fun ls hl => ?_)
  exact lp13 (n0 + 1) 0 _ _ _ (by omega) (by omega) (lv_sub hl [3, 2, 1, 0] rfl) hP hD hS
set_option maxHeartbeats 4000000 in
set_option maxRecDepth 100000 in
theorem c_S_judge (l : Launch) (D : va_G) (g : Nat → ClassId) (sz : Nat) (wr : va_W) (M n0 t y : Nat) (a0 : Int64) (b0 : Int32) (hM57 : M ≤ 57) (hn0 : n0 = 1 ∨ n0 = 4) (kl al : Nat) (lf : Nat → Option Nat) (kL kc kr kb la ca ra ba9 : Nat → Nat) (ql : wr[kl]? = some (al, .inl (g 3, n0, .inr (.inr (.inr (.inr (lf))))))) (qf : ∀ i, i < n0 → lf i = some (la i)) (qL : ∀ i, i < n0 → wr[kL i]? = some (la i, .inr (4, [.int (nI (lr (wid M n0 i))), .ref (ca i), .ref (ra i), .ref (ba9 i)]))) (qc : ∀ i, i < n0 → wr[kc i]? = some (ca i, .inl (g 0, wid M n0 i, .inl (fun j => nI (if j < wid M n0 i then cc_ (lr (wid M n0 i)) j else 0))))) (qb : ∀ i, i < n0 → wr[kb i]? = some (ba9 i, .inl (g 0, 2 ^ lr (wid M n0 i), .inl (fun s => oI (ba (lr (wid M n0 i)) (wid M n0 i) (wid M n0 i) s))))) (k0 o x2 : Nat) (x1 : Int32) (h0 : wr[k0]? = some (o, .inr (1, [.int (nI M), .int (x1), .ref x2, .ref al]))) (hy : y < 2 ^ 31) : Met l y_S_judge w_S_judge rm_S_judge (va_Pc [.ref o, .int (nI y), .ref t] (pP D (tyl g) ((t, .inr (5, [.long (a0), .int (b0)])) :: wr) sz)) (va_Qi (fun (r : Int32) (u : Unit) => r = nI (jdS M n0 y).1) (fun u => qB D (va_A ((t, .inr (5, [.long (a0), .int (b0)])) :: wr) sz) ((t, .inr (5, [.long (lN (jdS M n0 y).2.1), .int (nI (jdS M n0 y).2.2)])) :: wr)) (va_A ((t, .inr (5, [.long (a0), .int (b0)])) :: wr) sz)) 0 0 (va_A ((t, .inr (5, [.long (a0), .int (b0)])) :: wr) sz) := by
  refine Met.ofW (cc := b_S_judge) (maxL := 10) (ret := (some .int)) (by decide +kernel) rfl ?_
  intro p e s m args below meth c s₁ Bq hml hv
  have hx := Bq.exec
  have hb := Bq.bytes
  have hr := Bq.returns
  have hts : ∀ w ∈ wA, w.before args s = true := fun w h => atoms_spec (ws := w_S_judge) Bq.pre w (List.mem_cons_of_mem _ h)
  have hown : s.vm.findClass R_S = some m.cls := findClass_of_methodNamed Bq.named
  have hlocks := Bq.notSynchronized
  obtain ⟨rfl, hsz, hP, hKK, hD0⟩ := hv
  have hK := hKK.1
  subst hsz
  have hD := hD0.self (sz := s.heap.size)
  generalize hAe : va_A ((t, .inr (5, [.long (a0), .int (b0)])) :: wr) s.heap.size = A at hD ⊢
  have hA : ∀ q : Nat, s.heap.size ≤ q → A q := fun q h => by rw [← hAe]; exact Or.inr h
  have hS : va_S A s.heap s.heap [] := va_S.rf
  have hl := lv_entry ([.ref o, .int (nI y), .ref t]) (n := 10) (Nat.le_of_ble_eq_true rfl)
  rw [lg_entry_eq]
  generalize (lg_sl ([.ref o, .int (nI y), .ref t]) ++ List.replicate (10 - (lg_sl ([.ref o, .int (nI y), .ref t])).length) Slot.unset).toArray = ls at hl ⊢
  have hl : lv_has ls 10 [(0, .ref o), (1, .int (nI y)), (2, .ref t)] := hl
  generalize hQ : MQ below (va_Qi (fun (r : Int32) (u : Unit) => r = nI (jdS M n0 y).1) (fun u => qB D (A) ((t, .inr (5, [.long (lN (jdS M n0 y).2.1), .int (nI (jdS M n0 y).2.2)])) :: wr)) (A)) [.ref o, .int (nI y), .ref t].toArray s 0 0 A = Q
  have h4 : n0 ≤ 4 := by omega
  refine lv_aload_n hx hb d_S_judge_0 rfl (lv_at hl 2 rfl) ?_
  refine lc_Vv (b := t) (As := []) (rest := []) ⟨hx, hb, hml, hown, hts⟩ (c_T_clear l D g _ t a0 b0 wr) (kV 0 hts m_452 m_464 m_450 m_451 m_38 (by decide +kernel) ⟨Nat.le_of_ble_eq_true rfl, Nat.le_of_ble_eq_true rfl⟩) (va_recv hK hP (ci := 5) (q0 := 0) rfl rfl) hKK hP hD hS hA hl.1 rfl rfl (Nat.le_of_ble_eq_true rfl) d_S_judge_1 ⟨Nat.le_of_ble_eq_true rfl, Nat.le_of_ble_eq_true rfl⟩ (fun u H locs _ hP hD hS => ?_)
  have hP : va_P D vwCl ((t, .inr (5, [.long (lN 0), .int (nI 0)])) :: wr) H := hP
  have hD : va_D A ((t, .inr (5, [.long (lN 0), .int (nI 0)])) :: wr) := hD
  have lp12 : ∀ (n : Nat) (k an wf cf : Nat) (ls : Array Slot) (H : Heap) (locs : List Loc), (n0 + 1 ≤ k + n) → (k ≤ n0) → (jS M n0 y k = some (an, wf, cf)) → lv_has ls 10 [(0, .ref o), (1, .int (nI y)), (2, .ref t), (3, .int (nI an)), (4, .int (nI (frm M n0 k))), (5, .int (nI k))] → va_P D vwCl ((t, .inr (5, [.long (lN wf), .int (nI cf)])) :: wr) H → va_D A ((t, .inr (5, [.long (lN wf), .int (nI cf)])) :: wr) → va_S A s.heap H locs → W p l e (headSpec w_S_judge rm_S_judge).room s m [.ref o, .int (nI y), .ref t].toArray below meth c H locs 0 0 Q (F0 m 12 ls []) := by
    intro n
    induction n with
    | zero => intro k an wf cf ls H locs hfu hk hjs _ _ _ _; exact absurd hfu (by omega)
    | succ n ih =>
      intro k an wf cf ls H locs hfu hk hjs hl hP hD hS
      refine lv_iload hx hb d_S_judge_12 (lv_at hl 5 rfl) ?_
      refine lv_aload_n hx hb d_S_judge_14 rfl (lv_at hl 0 rfl) ?_
      refine va_get (D := D) (ci := 1) (v := .ref al) (C := R_S) (T := F_S) (N := 4) hx hb hts i_S hown hK hP (k0 + 1) h0 rfl 3 (by decide) (hts _ m_131) (fun _ h9 => h9) rfl d_S_judge_15 ?_
      refine va_alen hx hb hK hP (kl + 1) 3 ql (v := nI n0) rfl (rfl) d_S_judge_18 ?_
      refine lx_icmp_ge (tgt := 150) hx hb d_S_judge_19 (by decide) (by omega) (by omega) (fun c19 => ?_) (fun c19 => ?_)
      · skip
        obtain rfl : n0 = k := by omega
        have ej : jdS M n0 y = (an, wf, cf) := by unfold jdS; rw [hjs]
        rw [ej] at hQ
        refine lv_iload_n hx hb d_S_judge_150 rfl (lv_at hl 3 rfl) ?_
        rw [← hQ]
        refine W.iret (v := nI an) hx hb hr ?_ hS.2.2 d_S_judge_151
        exact fun t ht hW => ⟨⟨nI an, (), rfl, rfl, by rw [ht]; exact hP, hD⟩, hS.F ht⟩
      · skip
        have hwl := wid_le (i := k) hM57 hn0
        have hl7 := lr_le (wid M n0 k)
        have hfl := frm_lt (M := M) (n := n0) (show k < 4 by omega)
        have hpw := pow_le hl7
        have hp1 : 1 ≤ 2 ^ lr (wid M n0 k) := Nat.one_le_two_pow
        have hown9 : y >>> frm M n0 k % 2 ^ lr (wid M n0 k) < 2 ^ lr (wid M n0 k) := Nat.mod_lt _ (by omega)
        have j134 : ∀ (an2 wf2 cf2 : Nat) (ls : Array Slot) (H : Heap) (locs : List Loc), (jS M n0 y (k + 1) = some (an2, wf2, cf2)) → lv_has ls 10 [(0, .ref o), (1, .int (nI y)), (2, .ref t), (3, .int (nI an2)), (4, .int (nI (frm M n0 k))), (5, .int (nI k)), (6, .ref (la k))] → va_P D vwCl ((t, .inr (5, [.long (lN wf2), .int (nI cf2)])) :: wr) H → va_D A ((t, .inr (5, [.long (lN wf2), .int (nI cf2)])) :: wr) → va_S A s.heap H locs → W p l e (headSpec w_S_judge rm_S_judge).room s m [.ref o, .int (nI y), .ref t].toArray below meth c H locs 0 0 Q (F0 m 134 ls []) := by
          intro an2 wf2 cf2 ls H locs hj2 hl hP hD hS
          refine lv_iload hx hb d_S_judge_134 (lv_at hl 4 rfl) ?_
          refine lv_aload hx hb d_S_judge_136 (lv_at hl 6 rfl) ?_
          refine va_get (D := D) (ci := 4) (v := .int (nI (lr (wid M n0 k)))) (C := R_L) (T := F_L) (N := 4) hx hb hts i_L hown hK hP (kL k + 1) (qL k c19) rfl 0 (by decide) (hts _ m_103) (fun _ h9 => h9) rfl d_S_judge_138 ?_
          refine lx_iadd (z := nI (frm M n0 (k + 1))) hx hb d_S_judge_141 (nI_add _ _) ?_
          refine lv_istore (lv' := [(4, .int (nI (frm M n0 (k + 1)))), (0, .ref o), (1, .int (nI y)), (2, .ref t), (3, .int (nI an2)), (5, .int (nI k)), (6, .ref (la k))]) hx hb d_S_judge_142 hl (by decide) rfl (fun ls hl => ?_)
          refine lv_iinc (v := nI (k + 1)) (lv' := [(5, .int (nI (k + 1))), (4, .int (nI (frm M n0 (k + 1)))), (0, .ref o), (1, .int (nI y)), (2, .ref t), (3, .int (nI an2)), (6, .ref (la k))]) hx hb d_S_judge_144 hl (k := 5) rfl (nI_1 k) (by decide) rfl (fun ls hl => ?_)
          refine lv_goto (tgt := 12) hx hb d_S_judge_147 (by decide) ?_
          exact ih (k + 1) an2 wf2 cf2 _ _ _ (by omega) (by omega) (hj2) (lv_sub hl [2, 3, 4, 5, 1, 0] rfl) hP hD hS
        refine lv_aload_n hx hb d_S_judge_22 rfl (lv_at hl 0 rfl) ?_
        refine va_get (D := D) (ci := 1) (v := .ref al) (C := R_S) (T := F_S) (N := 4) hx hb hts i_S hown hK hP (k0 + 1) h0 rfl 3 (by decide) (hts _ m_131) (fun _ h9 => h9) rfl d_S_judge_23 ?_
        refine lv_iload hx hb d_S_judge_26 (lv_at hl 5 rfl) ?_
        refine lx_aald (v := la k) hx hb hK hP (kl + 1) 3 ql rfl (j := k) (by omega) (by omega) (qf k c19) d_S_judge_28 ?_
        refine lv_astore (lv' := [(6, .ref (la k)), (0, .ref o), (1, .int (nI y)), (2, .ref t), (3, .int (nI an)), (4, .int (nI (frm M n0 k))), (5, .int (nI k))]) hx hb d_S_judge_29 hl (by decide) rfl (fun ls hl => ?_)
        refine lv_iload_n hx hb d_S_judge_31 rfl (lv_at hl 2 rfl) ?_
        refine lv_iload hx hb d_S_judge_32 (lv_at hl 5 rfl) ?_
        refine lv_iushr (v := nI (y >>> frm M n0 k)) hx hb d_S_judge_34 (xn_ushr (by omega) (by omega)) ?_
        refine lv_iconst (v := nI 1) hx hb d_S_judge_35 (by decide) ?_
        refine lv_aload hx hb d_S_judge_36 (lv_at hl 0 rfl) ?_
        refine va_get (D := D) (ci := 4) (v := .int (nI (lr (wid M n0 k)))) (C := R_L) (T := F_L) (N := 4) hx hb hts i_L hown hK hP (kL k + 1) (qL k c19) rfl 0 (by decide) (hts _ m_103) (fun _ h9 => h9) rfl d_S_judge_38 ?_
        refine lx_ishl (z := nI (2 ^ lr (wid M n0 k))) hx hb d_S_judge_41 ((xn_shl 1 (by omega)).trans (by rw [Nat.one_shiftLeft])) ?_
        refine lv_iconst (v := nI 1) hx hb d_S_judge_42 (by decide) ?_
        refine lx_isub (z := nI (2 ^ lr (wid M n0 k) - 1)) hx hb d_S_judge_43 (pk_sub hp1) ?_
        refine lx_iand (z := nI (y >>> frm M n0 k % 2 ^ lr (wid M n0 k))) hx hb d_S_judge_44 ((xn_and _ _).trans (by rw [Nat.and_two_pow_sub_one_eq_mod])) ?_
        refine lv_istore (lv' := [(7, .int (nI (y >>> frm M n0 k % 2 ^ lr (wid M n0 k)))), (6, .ref (la k)), (0, .ref o), (1, .int (nI y)), (2, .ref t), (3, .int (nI an)), (4, .int (nI (frm M n0 k))), (5, .int (nI k))]) hx hb d_S_judge_45 hl (by decide) rfl (fun ls hl => ?_)
        refine lv_iload hx hb d_S_judge_47 (lv_at hl 0 rfl) ?_
        refine lx_if_eq (tgt := 134) hx hb d_S_judge_49 (by decide) (by omega) (fun c49 => ?_) (fun c49 => ?_)
        · skip
          exact j134 an wf cf _ _ _ (by rw [jS_step hjs]; unfold stS; rw [if_pos c49]) (lv_sub hl [2, 3, 4, 5, 6, 7, 1] rfl) hP hD hS
        · skip
          refine lv_aload hx hb d_S_judge_52 (lv_at hl 1 rfl) ?_
          refine lv_iload hx hb d_S_judge_54 (lv_at hl 0 rfl) ?_
          refine lc_Vi (b := la k) (As := [.int (nI (y >>> frm M n0 k % 2 ^ lr (wid M n0 k)))]) (rest := []) ⟨hx, hb, hml, hown, hts⟩ (c_L_bitFor l D g _ _ (kL k + 1) (kb k + 1) (la k) (ba9 k) (ca k) (ra k) (2 ^ lr (wid M n0 k)) (nI (lr (wid M n0 k))) (ba (lr (wid M n0 k)) (wid M n0 k) (wid M n0 k)) (y >>> frm M n0 k % 2 ^ lr (wid M n0 k)) (qL k c19) (qb k c19) hpw hown9) (kV 1 hts m_468 m_465 m_466 m_467 m_33 (by decide +kernel) ⟨Nat.le_of_ble_eq_true rfl, Nat.le_of_ble_eq_true rfl⟩) (va_recv hK hP (ci := 4) (q0 := kL k + 1) rfl (qL k c19)) hKK hP hD hS hA hl.1 rfl rfl (Nat.le_of_ble_eq_true rfl) d_S_judge_56 ⟨Nat.le_of_ble_eq_true rfl, Nat.le_of_ble_eq_true rfl⟩ (fun r1 u H locs e1 hP hD hS => ?_)
          cases hb9 : ba (lr (wid M n0 k)) (wid M n0 k) (wid M n0 k) (y >>> frm M n0 k % 2 ^ lr (wid M n0 k)) with
          | none =>
            rw [hb9] at e1
            obtain rfl : r1 = (-1) := e1
            refine lv_istore (lv' := [(8, .int ((-1))), (7, .int (nI (y >>> frm M n0 k % 2 ^ lr (wid M n0 k)))), (6, .ref (la k)), (0, .ref o), (1, .int (nI y)), (2, .ref t), (3, .int (nI an)), (4, .int (nI (frm M n0 k))), (5, .int (nI k))]) hx hb d_S_judge_59 hl (by decide) rfl (fun ls hl => ?_)
            refine lv_iload hx hb d_S_judge_61 (lv_at hl 0 rfl) ?_
            refine lv_iconst (v := (-1)) hx hb d_S_judge_63 (by decide) ?_
            refine lv_icmp_ne (tgt := 73) hx hb d_S_judge_64 (by decide) (fun c64 => ?_) (fun c64 => ?_)
            · skip
              exact absurd rfl c64
            · skip
              refine lv_aload_n hx hb d_S_judge_67 rfl (lv_at hl 5 rfl) ?_
              refine lc_Vv (b := t) (As := []) (rest := []) ⟨hx, hb, hml, hown, hts⟩ (c_T_clear l D g _ t (lN wf) (nI cf) wr) (kV 0 hts m_452 m_464 m_450 m_451 m_38 (by decide +kernel) ⟨Nat.le_of_ble_eq_true rfl, Nat.le_of_ble_eq_true rfl⟩) (va_recv hK hP (ci := 5) (q0 := 0) rfl rfl) hKK hP hD hS hA hl.1 rfl rfl (Nat.le_of_ble_eq_true rfl) d_S_judge_68 ⟨Nat.le_of_ble_eq_true rfl, Nat.le_of_ble_eq_true rfl⟩ (fun u H locs _ hP hD hS => ?_)
              have hP : va_P D vwCl ((t, .inr (5, [.long (lN 0), .int (nI 0)])) :: wr) H := hP
              have hD : va_D A ((t, .inr (5, [.long (lN 0), .int (nI 0)])) :: wr) := hD
              have ej : jdS M n0 y = (2, 0, 0) := by unfold jdS; rw [jS_none (i := k + 1) (by rw [jS_step hjs]; unfold stS; rw [if_neg c49, hb9]) n0 (by omega)]
              rw [ej] at hQ
              refine lv_iconst (v := nI 2) hx hb d_S_judge_71 (by decide) ?_
              rw [← hQ]
              refine W.iret (v := nI 2) hx hb hr ?_ hS.2.2 d_S_judge_72
              exact fun t ht hW => ⟨⟨nI 2, (), rfl, rfl, by rw [ht]; exact hP, hD⟩, hS.F ht⟩
          | some b =>
            rw [hb9] at e1
            obtain rfl : r1 = nI b := e1
            have hbi := ba_in hb9
            refine lv_istore (lv' := [(8, .int (nI b)), (7, .int (nI (y >>> frm M n0 k % 2 ^ lr (wid M n0 k)))), (6, .ref (la k)), (0, .ref o), (1, .int (nI y)), (2, .ref t), (3, .int (nI an)), (4, .int (nI (frm M n0 k))), (5, .int (nI k))]) hx hb d_S_judge_59 hl (by decide) rfl (fun ls hl => ?_)
            refine lv_iload hx hb d_S_judge_61 (lv_at hl 0 rfl) ?_
            refine lv_iconst (v := (-1)) hx hb d_S_judge_63 (by decide) ?_
            refine lv_icmp_ne (tgt := 73) hx hb d_S_judge_64 (by decide) (fun c64 => ?_) (fun c64 => ?_)
            · skip
              refine lv_iconst (v := nI 1) hx hb d_S_judge_73 (by decide) ?_
              refine lv_istore_n (lv' := [(3, .int (nI 1)), (8, .int (nI b)), (7, .int (nI (y >>> frm M n0 k % 2 ^ lr (wid M n0 k)))), (6, .ref (la k)), (0, .ref o), (1, .int (nI y)), (2, .ref t), (4, .int (nI (frm M n0 k))), (5, .int (nI k))]) hx hb d_S_judge_74 rfl hl (by decide) rfl (fun ls hl => ?_)
              refine lv_aload hx hb d_S_judge_75 (lv_at hl 3 rfl) ?_
              refine va_get (D := D) (ci := 4) (v := .ref (ca k)) (C := R_L) (T := F_L) (N := 4) hx hb hts i_L hown hK hP (kL k + 1) (qL k c19) rfl 1 (by decide) (hts _ m_105) (fun _ h9 => h9) rfl d_S_judge_77 ?_
              refine va_alen hx hb hK hP (kc k + 1) 0 (qc k c19) (v := nI (wid M n0 k)) rfl (rfl) d_S_judge_80 ?_
              refine lv_istore (lv' := [(9, .int (nI (wid M n0 k))), (3, .int (nI 1)), (8, .int (nI b)), (7, .int (nI (y >>> frm M n0 k % 2 ^ lr (wid M n0 k)))), (6, .ref (la k)), (0, .ref o), (1, .int (nI y)), (2, .ref t), (4, .int (nI (frm M n0 k))), (5, .int (nI k))]) hx hb d_S_judge_81 hl (by decide) rfl (fun ls hl => ?_)
              refine lv_iload hx hb d_S_judge_83 (lv_at hl 2 rfl) ?_
              refine lv_iload hx hb d_S_judge_85 (lv_at hl 0 rfl) ?_
              refine lx_icmp_ge (tgt := 115) hx hb d_S_judge_87 (by decide) (by omega) (by omega) (fun c87 => ?_) (fun c87 => ?_)
              · skip
                refine lv_aload_n hx hb d_S_judge_115 rfl (lv_at hl 7 rfl) ?_
                refine lv_dup hx hb d_S_judge_116 rfl ?_
                refine va_get (D := D) (ci := 5) (v := .int (nI cf)) (C := R_T) (T := F_T) (N := 2) hx hb hts i_T hown hK hP 0 rfl rfl 1 (by decide) (hts _ m_196) (fun _ h9 => h9) rfl d_S_judge_117 ?_
                refine lv_iconst (v := nI 1) hx hb d_S_judge_120 (by decide) ?_
                refine lv_iload hx hb d_S_judge_121 (lv_at hl 8 rfl) ?_
                refine lv_iload hx hb d_S_judge_123 (lv_at hl 2 rfl) ?_
                refine lx_iadd (z := nI (frm M n0 k + b)) hx hb d_S_judge_125 (nI_add _ _) ?_
                refine lv_iload hx hb d_S_judge_126 (lv_at hl 0 rfl) ?_
                refine lx_isub (z := nI (frm M n0 k + b - wid M n0 k)) hx hb d_S_judge_128 (pk_sub (by omega)) ?_
                refine lx_ishl (z := nI (1 <<< (frm M n0 k + b - wid M n0 k))) hx hb d_S_judge_129 (xn_shl 1 (by omega)) ?_
                refine lx_ior (z := nI (cf ||| (1 <<< (frm M n0 k + b - wid M n0 k)))) hx hb d_S_judge_130 (xn_or cf (1 <<< (frm M n0 k + b - wid M n0 k))) ?_
                refine va_put (D := D) (ci := 5) (v := .int (nI (cf ||| (1 <<< (frm M n0 k + b - wid M n0 k))))) (ty := .int) (C := R_T) (T := F_T) (N := 2) hx hb hts i_T tf_T tf_T_ok nf_T hown hK hP hD hS 0 rfl rfl 1 (by decide) (hts _ m_196) (fun _ h9 => h9) rfl (by decide +kernel) rfl rfl (Nat.le_of_ble_eq_true rfl) d_S_judge_131 (fun H locs hP hD hS => ?_)
                have hP : va_P D vwCl ((t, .inr (5, [.long (lN wf), .int (nI (cf ||| 1 <<< (frm M n0 k + b - wid M n0 k)))])) :: wr) H := hP
                have hD : va_D A ((t, .inr (5, [.long (lN wf), .int (nI (cf ||| 1 <<< (frm M n0 k + b - wid M n0 k)))])) :: wr) := hD
                exact j134 1 wf (cf ||| 1 <<< (frm M n0 k + b - wid M n0 k)) _ _ _ (by rw [jS_step hjs]; unfold stS; rw [if_neg c49, hb9]; show (if b < wid M n0 k then _ else _) = _; rw [if_neg (by omega)]) (lv_sub hl [5, 6, 7, 1, 8, 9, 4] rfl) hP hD hS
              · skip
                have hat := wid_at hn0 c19 c87
                refine lv_aload_n hx hb d_S_judge_90 rfl (lv_at hl 7 rfl) ?_
                refine lv_dup hx hb d_S_judge_91 rfl ?_
                refine va_get (D := D) (ci := 5) (v := .long (lN wf)) (C := R_T) (T := F_T) (N := 2) hx hb hts i_T hown hK hP 0 rfl rfl 0 (by decide) (hts _ m_192) (fun _ h9 => h9) rfl d_S_judge_92 ?_
                refine lv_lconst (v := lN 1) hx hb d_S_judge_95 (by decide) ?_
                refine lv_iload hx hb d_S_judge_96 (lv_at hl 2 rfl) ?_
                refine lv_aload_n hx hb d_S_judge_98 rfl (lv_at hl 5 rfl) ?_
                refine va_get (D := D) (ci := 1) (v := .ref al) (C := R_S) (T := F_S) (N := 4) hx hb hts i_S hown hK hP (k0 + 1) h0 rfl 3 (by decide) (hts _ m_131) (fun _ h9 => h9) rfl d_S_judge_99 ?_
                refine va_alen hx hb hK hP (kl + 1) 3 ql (v := nI n0) rfl (rfl) d_S_judge_102 ?_
                refine lx_imul (z := nI (b * n0)) hx hb d_S_judge_103 (pk_mul _ _) ?_
                refine lv_iload hx hb d_S_judge_104 (lv_at hl 9 rfl) ?_
                refine lx_iadd (z := nI (b * n0 + k)) hx hb d_S_judge_106 (nI_add (b * n0) k) ?_
                refine lv_lshl (v := lN (1 <<< (b * n0 + k))) hx hb d_S_judge_107 (xl_shl 1 (by omega)) ?_
                refine lx_lor (z := lN (wf ||| (1 <<< (b * n0 + k)))) hx hb d_S_judge_108 (xl_or wf (1 <<< (b * n0 + k))) ?_
                refine va_put (D := D) (ci := 5) (v := .long (lN (wf ||| (1 <<< (b * n0 + k))))) (ty := .long) (C := R_T) (T := F_T) (N := 2) hx hb hts i_T tf_T tf_T_ok nf_T hown hK hP hD hS 0 rfl rfl 0 (by decide) (hts _ m_192) (fun _ h9 => h9) rfl (by decide +kernel) rfl rfl (Nat.le_of_ble_eq_true rfl) d_S_judge_109 (fun H locs hP hD hS => ?_)
                have hP : va_P D vwCl ((t, .inr (5, [.long (lN (wf ||| 1 <<< (b * n0 + k))), .int (nI cf)])) :: wr) H := hP
                have hD : va_D A ((t, .inr (5, [.long (lN (wf ||| 1 <<< (b * n0 + k))), .int (nI cf)])) :: wr) := hD
                refine lv_goto (tgt := 134) hx hb d_S_judge_112 (by decide) ?_
                exact j134 1 (wf ||| 1 <<< (b * n0 + k)) cf _ _ _ (by rw [jS_step hjs]; unfold stS; rw [if_neg c49, hb9]; show (if b < wid M n0 k then _ else _) = _; rw [if_pos c87]) (lv_sub hl [5, 6, 7, 1, 8, 9, 4] rfl) hP hD hS
            · skip
              exact absurd c64 (nI_nm1 (by omega))
  refine lv_iconst (v := nI 0) hx hb d_S_judge_4 (by decide) ?_
  refine lv_istore_n (lv' := [(3, .int (nI 0)), (0, .ref o), (1, .int (nI y)), (2, .ref t)]) hx hb d_S_judge_5 rfl hl (by decide) rfl (fun ls hl => ?_)
  refine lv_iconst (v := nI 0) hx hb d_S_judge_6 (by decide) ?_
  refine lv_istore (lv' := [(4, .int (nI 0)), (3, .int (nI 0)), (0, .ref o), (1, .int (nI y)), (2, .ref t)]) hx hb d_S_judge_7 hl (by decide) rfl (fun ls hl => ?_)
  refine lv_iconst (v := nI 0) hx hb d_S_judge_9 (by decide) ?_
  refine lv_istore (lv' := [(5, .int (nI 0)), (4, .int (nI 0)), (3, .int (nI 0)), (0, .ref o), (1, .int (nI y)), (2, .ref t)]) hx hb d_S_judge_10 hl (by decide) rfl (fun ls hl => ?_)
  exact lp12 (n0 + 1) 0 0 0 0 _ _ _ (by omega) (by omega) (rfl) (lv_sub hl [3, 4, 5, 2, 1, 0] rfl) hP hD hS
end
section
/-- the word's bits and the kind, as a new object is told of them -/
def mOf (b : Int32) : Nat := 1 + ((b.toInt - 1) % 57).toNat
def kdOf (k : Int32) : Nat := (k.toInt % 4).toNat
theorem mOf_in (b : Int32) : 0 < mOf b ∧ mOf b ≤ 57 := by
  unfold mOf
  omega
theorem kdOf_in (k : Int32) : kdOf k = 0 ∨ kdOf k = 1 ∨ kdOf k = 2 ∨ kdOf k = 3 := by
  unfold kdOf
  omega
theorem fm_zero {a n : Int} (h : a.tmod n = 0) : a % n = 0 := Int.emod_eq_zero_of_dvd (Int.dvd_of_tmod_eq_zero h)
theorem fm_neg {a n : Int} (hn : 0 < n) (h : a < 0) (h0 : a.tmod n ≠ 0) : a.tmod n + n = a % n := by
  rw [Int.tmod_eq_emod, if_neg]
  · omega
  · rintro (q | q)
    · omega
    · exact h0 (Int.tmod_eq_zero_of_dvd q)
theorem rem57 {x : Int64} (h1 : -2 ^ 40 ≤ x.toInt) (h2 : x.toInt < 2 ^ 40) : (x - x / lN 57 * lN 57).toInt = x.toInt.tmod 57 := by
  have e57 : (lN 57).toInt = 57 := by decide
  have hq := Int.mul_tdiv_add_tmod x.toInt 57
  have hb1 : x.toInt.tmod 57 < 57 := Int.tmod_lt_of_pos _ (by decide)
  have hb2 : -57 < x.toInt.tmod 57 := Int.lt_tmod_of_pos _ (by decide)
  have hd : (x / lN 57).toInt = x.toInt.tdiv 57 := by
    rw [Int64.toInt_div, e57]
    exact Int.bmod_eq_of_le_mul_two (by omega) (by omega)
  have hm : (x / lN 57 * lN 57).toInt = x.toInt.tdiv 57 * 57 := by
    rw [Int64.toInt_mul, hd, e57]
    exact Int.bmod_eq_of_le_mul_two (by omega) (by omega)
  rw [Int64.toInt_sub, hm]
  rw [Int.bmod_eq_of_le_mul_two (by omega) (by omega)]
  omega
theorem rem4 (x : Int32) : (x - x / nI 4 * nI 4).toInt = x.toInt.tmod 4 := by
  have h1 := x.le_toInt
  have h2 := x.toInt_lt
  have e57 : (nI 4).toInt = 4 := by decide
  have hq := Int.mul_tdiv_add_tmod x.toInt 4
  have hb1 : x.toInt.tmod 4 < 4 := Int.tmod_lt_of_pos _ (by decide)
  have hb2 : -4 < x.toInt.tmod 4 := Int.lt_tmod_of_pos _ (by decide)
  have hs : 0 ≤ x.toInt → 0 ≤ x.toInt.tmod 4 := fun h => Int.tmod_nonneg 4 h
  have hs2 : x.toInt ≤ 0 → x.toInt.tmod 4 ≤ 0 := fun h => by have h9 := Int.tmod_nonneg 4 (show 0 ≤ -x.toInt by omega); rw [Int.neg_tmod] at h9; omega
  have hd : (x / nI 4).toInt = x.toInt.tdiv 4 := by
    rw [Int32.toInt_div, e57]
    exact Int.bmod_eq_of_le_mul_two (by omega) (by omega)
  have hm : (x / nI 4 * nI 4).toInt = x.toInt.tdiv 4 * 4 := by
    rw [Int32.toInt_mul, hd, e57]
    exact Int.bmod_eq_of_le_mul_two (by omega) (by omega)
  rw [Int32.toInt_sub, hm]
  rw [Int.bmod_eq_of_le_mul_two (by omega) (by omega)]
  omega
theorem sg57 (x : Int64) : (lN 0 ≤ x ^^^ lN 57) ↔ 0 ≤ x.toInt := by
  have h : (x ^^^ lN 57).toBitVec.msb = x.toBitVec.msb := by
    rw [Int64.toBitVec_xor, BitVec.msb_xor, show (lN 57).toBitVec.msb = false from by decide, Bool.xor_false]
  rw [BitVec.msb_eq_toInt, BitVec.msb_eq_toInt] at h
  have h1 : (x ^^^ lN 57).toBitVec.toInt = (x ^^^ lN 57).toInt := rfl
  have h2 : x.toBitVec.toInt = x.toInt := rfl
  rw [h1, h2] at h
  have h3 := decide_eq_decide.mp h
  have e0 : (lN 0).toInt = 0 := by decide
  rw [Int64.le_iff_toInt_le, e0]
  omega
theorem sg4 (x : Int32) : (0 ≤ x ^^^ nI 4) ↔ 0 ≤ x.toInt := by
  have h : (x ^^^ nI 4).toBitVec.msb = x.toBitVec.msb := by
    rw [Int32.toBitVec_xor, BitVec.msb_xor, show (nI 4).toBitVec.msb = false from by decide, Bool.xor_false]
  rw [BitVec.msb_eq_toInt, BitVec.msb_eq_toInt] at h
  have h1 : (x ^^^ nI 4).toBitVec.toInt = (x ^^^ nI 4).toInt := rfl
  have h2 : x.toBitVec.toInt = x.toInt := rfl
  rw [h1, h2] at h
  have h3 := decide_eq_decide.mp h
  have e0 : (0 : Int32).toInt = 0 := by decide
  rw [Int32.le_iff_toInt_le, e0]
  omega
theorem lN_of {x : Int64} {n : Nat} (h : x.toInt = (n : Int)) (hn : n < 2 ^ 40) : x = lN n := Int64.toInt_inj.mp (by rw [h, pk_lT (by omega)])
theorem nI_of9 {x : Int32} {n : Nat} (h : x.toInt = (n : Int)) (hn : n < 2 ^ 31) : x = nI n := Int32.toInt_inj.mp (by rw [h, nI_toInt hn])
theorem i2l_1 (b : Int32) : (b.toInt64 - lN 1).toInt = b.toInt - 1 := by
  have h1 := b.le_toInt
  have h2 := b.toInt_lt
  rw [Int64.toInt_sub, Int32.toInt_toInt64, show (lN 1).toInt = 1 from by decide]
  exact Int.bmod_eq_of_le_mul_two (by omega) (by omega)
end
section
theorem m_65 : Cond.classLink R_C 173 R_S ∈ wA := in_wA (List.mem_of_getElem? (i := 65) rfl) rfl
theorem m_66 : Cond.instantiable R_S 4 ∈ wA := in_wA (List.mem_of_getElem? (i := 66) rfl) rfl
theorem m_69 : Cond.code y_C_lanesOf b_C_lanesOf 4 (some (.array (.object "CheckCodes$Lane"))) ∈ wA := in_wA (List.mem_of_getElem? (i := 69) rfl) rfl
theorem m_67 : Cond.methodLink R_C 175 y_C_lanesOf ∈ wA := in_wA (List.mem_of_getElem? (i := 67) rfl) rfl
theorem m_68 : Cond.static y_C_lanesOf ∈ wA := in_wA (List.mem_of_getElem? (i := 68) rfl) rfl
theorem m_29 : Cond.initialized R_C ∈ wA := in_wA (List.mem_of_getElem? (i := 29) rfl) rfl
theorem m_120 : Cond.code y_S_init b_S_init 3 none ∈ wA := in_wA (List.mem_of_getElem? (i := 120) rfl) rfl
theorem m_118 : Cond.methodLink R_C 179 y_S_init ∈ wA := in_wA (List.mem_of_getElem? (i := 118) rfl) rfl
theorem m_119 : Cond.instanceMethod y_S_init ∈ wA := in_wA (List.mem_of_getElem? (i := 119) rfl) rfl
theorem m_149 : Cond.classLink R_C 182 R_P ∈ wA := in_wA (List.mem_of_getElem? (i := 149) rfl) rfl
theorem m_150 : Cond.instantiable R_P 3 ∈ wA := in_wA (List.mem_of_getElem? (i := 150) rfl) rfl
theorem m_153 : Cond.code y_JM_min b_JM_min 2 (some .int) ∈ wA := in_wA (List.mem_of_getElem? (i := 153) rfl) rfl
theorem m_151 : Cond.methodLink R_C 184 y_JM_min ∈ wA := in_wA (List.mem_of_getElem? (i := 151) rfl) rfl
theorem m_152 : Cond.static y_JM_min ∈ wA := in_wA (List.mem_of_getElem? (i := 152) rfl) rfl
theorem m_156 : Cond.code y_P_init b_P_init 3 none ∈ wA := in_wA (List.mem_of_getElem? (i := 156) rfl) rfl
theorem m_154 : Cond.methodLink R_C 187 y_P_init ∈ wA := in_wA (List.mem_of_getElem? (i := 154) rfl) rfl
theorem m_155 : Cond.instanceMethod y_P_init ∈ wA := in_wA (List.mem_of_getElem? (i := 155) rfl) rfl
theorem m_165 : Cond.classLink R_C 190 R_N ∈ wA := in_wA (List.mem_of_getElem? (i := 165) rfl) rfl
theorem m_166 : Cond.instantiable R_N 3 ∈ wA := in_wA (List.mem_of_getElem? (i := 166) rfl) rfl
theorem m_169 : Cond.code y_N_init b_N_init 2 none ∈ wA := in_wA (List.mem_of_getElem? (i := 169) rfl) rfl
theorem m_167 : Cond.methodLink R_C 192 y_N_init ∈ wA := in_wA (List.mem_of_getElem? (i := 167) rfl) rfl
theorem m_168 : Cond.instanceMethod y_N_init ∈ wA := in_wA (List.mem_of_getElem? (i := 168) rfl) rfl
theorem m_189 : Cond.methodLink R_T 1 objectInit ∈ wA := in_wA (List.mem_of_getElem? (i := 189) rfl) rfl
abbrev w_JM_floorMod : List Cond := .code y_JM_floorMod b_JM_floorMod 6 (some .long) :: wA
abbrev rm_JM_floorMod : Room := { frames := 0, cells := 0, slots := 0, locals := 0 }
theorem d_JM_floorMod_0 : decode b_JM_floorMod 0 = .ok (.lload_n 0, 1) := by decide +kernel
theorem d_JM_floorMod_1 : decode b_JM_floorMod 1 = .ok (.lload_n 2, 1) := by decide +kernel
theorem d_JM_floorMod_2 : decode b_JM_floorMod 2 = .ok (.lrem, 1) := by decide +kernel
theorem d_JM_floorMod_3 : decode b_JM_floorMod 3 = .ok (.lstore 4, 2) := by decide +kernel
theorem d_JM_floorMod_5 : decode b_JM_floorMod 5 = .ok (.lload_n 0, 1) := by decide +kernel
theorem d_JM_floorMod_6 : decode b_JM_floorMod 6 = .ok (.lload_n 2, 1) := by decide +kernel
theorem d_JM_floorMod_7 : decode b_JM_floorMod 7 = .ok (.lxor, 1) := by decide +kernel
theorem d_JM_floorMod_8 : decode b_JM_floorMod 8 = .ok (.lconst 0, 1) := by decide +kernel
theorem d_JM_floorMod_9 : decode b_JM_floorMod 9 = .ok (.lcmp, 1) := by decide +kernel
theorem d_JM_floorMod_10 : decode b_JM_floorMod 10 = .ok (.ifCond .ge 15, 3) := by decide +kernel
theorem d_JM_floorMod_13 : decode b_JM_floorMod 13 = .ok (.lload 4, 2) := by decide +kernel
theorem d_JM_floorMod_15 : decode b_JM_floorMod 15 = .ok (.lconst 0, 1) := by decide +kernel
theorem d_JM_floorMod_16 : decode b_JM_floorMod 16 = .ok (.lcmp, 1) := by decide +kernel
theorem d_JM_floorMod_17 : decode b_JM_floorMod 17 = .ok (.ifCond .eq 8, 3) := by decide +kernel
theorem d_JM_floorMod_20 : decode b_JM_floorMod 20 = .ok (.lload 4, 2) := by decide +kernel
theorem d_JM_floorMod_22 : decode b_JM_floorMod 22 = .ok (.lload_n 2, 1) := by decide +kernel
theorem d_JM_floorMod_23 : decode b_JM_floorMod 23 = .ok (.ladd, 1) := by decide +kernel
theorem d_JM_floorMod_24 : decode b_JM_floorMod 24 = .ok (.lreturn, 1) := by decide +kernel
theorem d_JM_floorMod_25 : decode b_JM_floorMod 25 = .ok (.lload 4, 2) := by decide +kernel
theorem d_JM_floorMod_27 : decode b_JM_floorMod 27 = .ok (.lreturn, 1) := by decide +kernel
abbrev w_JM_floorMod2 : List Cond := .code y_JM_floorMod2 b_JM_floorMod2 3 (some .int) :: wA
abbrev rm_JM_floorMod2 : Room := { frames := 0, cells := 0, slots := 0, locals := 0 }
theorem d_JM_floorMod2_0 : decode b_JM_floorMod2 0 = .ok (.iload_n 0, 1) := by decide +kernel
theorem d_JM_floorMod2_1 : decode b_JM_floorMod2 1 = .ok (.iload_n 1, 1) := by decide +kernel
theorem d_JM_floorMod2_2 : decode b_JM_floorMod2 2 = .ok (.irem, 1) := by decide +kernel
theorem d_JM_floorMod2_3 : decode b_JM_floorMod2 3 = .ok (.istore_n 2, 1) := by decide +kernel
theorem d_JM_floorMod2_4 : decode b_JM_floorMod2 4 = .ok (.iload_n 0, 1) := by decide +kernel
theorem d_JM_floorMod2_5 : decode b_JM_floorMod2 5 = .ok (.iload_n 1, 1) := by decide +kernel
theorem d_JM_floorMod2_6 : decode b_JM_floorMod2 6 = .ok (.ixor, 1) := by decide +kernel
theorem d_JM_floorMod2_7 : decode b_JM_floorMod2 7 = .ok (.ifCond .ge 11, 3) := by decide +kernel
theorem d_JM_floorMod2_10 : decode b_JM_floorMod2 10 = .ok (.iload_n 2, 1) := by decide +kernel
theorem d_JM_floorMod2_11 : decode b_JM_floorMod2 11 = .ok (.ifCond .eq 7, 3) := by decide +kernel
theorem d_JM_floorMod2_14 : decode b_JM_floorMod2 14 = .ok (.iload_n 2, 1) := by decide +kernel
theorem d_JM_floorMod2_15 : decode b_JM_floorMod2 15 = .ok (.iload_n 1, 1) := by decide +kernel
theorem d_JM_floorMod2_16 : decode b_JM_floorMod2 16 = .ok (.iadd, 1) := by decide +kernel
theorem d_JM_floorMod2_17 : decode b_JM_floorMod2 17 = .ok (.ireturn, 1) := by decide +kernel
theorem d_JM_floorMod2_18 : decode b_JM_floorMod2 18 = .ok (.iload_n 2, 1) := by decide +kernel
theorem d_JM_floorMod2_19 : decode b_JM_floorMod2 19 = .ok (.ireturn, 1) := by decide +kernel
abbrev w_C_codeOf : List Cond := .code y_C_codeOf b_C_codeOf 2 (some (.object "CheckCodes$Code")) :: wA
abbrev rm_C_codeOf : Room := { frames := 5, cells := 19, slots := 849, locals := 119 }
theorem d_C_codeOf_0 : decode b_C_codeOf 0 = .ok (.iload_n 0, 1) := by decide +kernel
theorem d_C_codeOf_1 : decode b_C_codeOf 1 = .ok (.tableswitch 64 0 2 #[27, 41, 55], 27) := by decide +kernel
theorem d_C_codeOf_28 : decode b_C_codeOf 28 = .ok (.new 173, 3) := by decide +kernel
theorem d_C_codeOf_31 : decode b_C_codeOf 31 = .ok (.dup, 1) := by decide +kernel
theorem d_C_codeOf_32 : decode b_C_codeOf 32 = .ok (.iload_n 1, 1) := by decide +kernel
theorem d_C_codeOf_33 : decode b_C_codeOf 33 = .ok (.iload_n 1, 1) := by decide +kernel
theorem d_C_codeOf_34 : decode b_C_codeOf 34 = .ok (.iconst 1, 1) := by decide +kernel
theorem d_C_codeOf_35 : decode b_C_codeOf 35 = .ok (.invokestatic 175, 3) := by decide +kernel
theorem d_C_codeOf_38 : decode b_C_codeOf 38 = .ok (.invokespecial 179, 3) := by decide +kernel
theorem d_C_codeOf_41 : decode b_C_codeOf 41 = .ok (.areturn, 1) := by decide +kernel
theorem d_C_codeOf_42 : decode b_C_codeOf 42 = .ok (.new 182, 3) := by decide +kernel
theorem d_C_codeOf_45 : decode b_C_codeOf 45 = .ok (.dup, 1) := by decide +kernel
theorem d_C_codeOf_46 : decode b_C_codeOf 46 = .ok (.iload_n 1, 1) := by decide +kernel
theorem d_C_codeOf_47 : decode b_C_codeOf 47 = .ok (.iload_n 1, 1) := by decide +kernel
theorem d_C_codeOf_48 : decode b_C_codeOf 48 = .ok (.iconst 4, 1) := by decide +kernel
theorem d_C_codeOf_49 : decode b_C_codeOf 49 = .ok (.invokestatic 184, 3) := by decide +kernel
theorem d_C_codeOf_52 : decode b_C_codeOf 52 = .ok (.invokespecial 187, 3) := by decide +kernel
theorem d_C_codeOf_55 : decode b_C_codeOf 55 = .ok (.areturn, 1) := by decide +kernel
theorem d_C_codeOf_56 : decode b_C_codeOf 56 = .ok (.new 190, 3) := by decide +kernel
theorem d_C_codeOf_59 : decode b_C_codeOf 59 = .ok (.dup, 1) := by decide +kernel
theorem d_C_codeOf_60 : decode b_C_codeOf 60 = .ok (.iload_n 1, 1) := by decide +kernel
theorem d_C_codeOf_61 : decode b_C_codeOf 61 = .ok (.invokespecial 192, 3) := by decide +kernel
theorem d_C_codeOf_64 : decode b_C_codeOf 64 = .ok (.areturn, 1) := by decide +kernel
theorem d_C_codeOf_65 : decode b_C_codeOf 65 = .ok (.new 173, 3) := by decide +kernel
theorem d_C_codeOf_68 : decode b_C_codeOf 68 = .ok (.dup, 1) := by decide +kernel
theorem d_C_codeOf_69 : decode b_C_codeOf 69 = .ok (.iload_n 1, 1) := by decide +kernel
theorem d_C_codeOf_70 : decode b_C_codeOf 70 = .ok (.iload_n 1, 1) := by decide +kernel
theorem d_C_codeOf_71 : decode b_C_codeOf 71 = .ok (.iconst 4, 1) := by decide +kernel
theorem d_C_codeOf_72 : decode b_C_codeOf 72 = .ok (.invokestatic 175, 3) := by decide +kernel
theorem d_C_codeOf_75 : decode b_C_codeOf 75 = .ok (.invokespecial 179, 3) := by decide +kernel
theorem d_C_codeOf_78 : decode b_C_codeOf 78 = .ok (.areturn, 1) := by decide +kernel
abbrev w_T_init : List Cond := .code y_T_init b_T_init 1 none :: wA
abbrev rm_T_init : Room := { frames := 1, cells := 0, slots := 0, locals := 12 }
theorem d_T_init_0 : decode b_T_init 0 = .ok (.aload_n 0, 1) := by decide +kernel
theorem d_T_init_1 : decode b_T_init 1 = .ok (.invokespecial 1, 3) := by decide +kernel
theorem d_T_init_4 : decode b_T_init 4 = .ok (.return_, 1) := by decide +kernel
set_option maxHeartbeats 4000000 in
set_option maxRecDepth 100000 in
theorem c_JM_floorMod (l : Launch) (D : va_G) (g : Nat → ClassId) (sz : Nat) (ws : va_W) (x : Int64) (q1 : -2 ^ 40 ≤ x.toInt) (q2 : x.toInt < 2 ^ 40) : Met l y_JM_floorMod w_JM_floorMod rm_JM_floorMod (va_Pc [.long (x), .long (lN 57)] (pP D (tyl g) (ws) sz)) (va_Ql (fun (r : Int64) (u : Unit) => r = lN (x.toInt % 57).toNat) (fun u => qB D (va_A (ws) sz) (ws)) (va_A (ws) sz)) 0 0 (va_A (ws) sz) := by
  refine va_MetF (cc := b_JM_floorMod) (maxL := 6) (ret := (some .long)) (by decide +kernel) rfl ?_
  intro p e s m args below meth c s₁ Bq hml hv
  have hx := Bq.exec
  have hb := Bq.bytes
  have hr := Bq.returns
  have hts : ∀ w ∈ wA, w.before args s = true := fun w h => atoms_spec (ws := w_JM_floorMod) Bq.pre w (List.mem_cons_of_mem _ h)
  have hown : s.vm.findClass R_JM = some m.cls := findClass_of_methodNamed Bq.named
  have hlocks := Bq.notSynchronized
  obtain ⟨rfl, hsz, hP, hKK, hD0⟩ := hv
  have hK := hKK.1
  subst hsz
  have hD := hD0.self (sz := s.heap.size)
  generalize hAe : va_A (ws) s.heap.size = A at hD ⊢
  have hA : ∀ q : Nat, s.heap.size ≤ q → A q := fun q h => by rw [← hAe]; exact Or.inr h
  have hS : va_S A s.heap s.heap [] := va_S.rf
  have hl := lv_entry ([.long (x), .long (lN 57)]) (n := 6) (Nat.le_of_ble_eq_true rfl)
  rw [lg_entry_eq]
  generalize (lg_sl ([.long (x), .long (lN 57)]) ++ List.replicate (6 - (lg_sl ([.long (x), .long (lN 57)])).length) Slot.unset).toArray = ls at hl ⊢
  have hl : lv_has ls 6 [(0, .long (x)), (2, .long (lN 57))] := hl
  generalize hQ : MQ below (va_Ql (fun (r : Int64) (u : Unit) => r = lN (x.toInt % 57).toNat) (fun u => qB D (A) (ws)) (A)) [.long (x), .long (lN 57)].toArray s 0 0 A = Q
  have hrm := rem57 q1 q2
  generalize hmm : x - x / lN 57 * lN 57 = mm at hrm
  have hb1 : x.toInt.tmod 57 < 57 := Int.tmod_lt_of_pos _ (by decide)
  have hb2 : -57 < x.toInt.tmod 57 := Int.lt_tmod_of_pos _ (by decide)
  have e57 : (lN 57).toInt = 57 := by decide
  have e00 : (lN 0).toInt = 0 := by decide
  refine lv_lload_n hx hb d_JM_floorMod_0 rfl (lv_at hl 0 rfl) ?_
  refine lv_lload_n hx hb d_JM_floorMod_1 rfl (lv_at hl 1 rfl) ?_
  refine lx_lrem (z := mm) hx hb d_JM_floorMod_2 (by decide) (hmm) ?_
  refine lv_lstore (lv' := [(4, .long (mm)), (0, .long (x)), (2, .long (lN 57))]) hx hb d_JM_floorMod_3 hl (by decide) rfl (fun ls hl => ?_)
  refine lv_lload_n hx hb d_JM_floorMod_5 rfl (lv_at hl 1 rfl) ?_
  refine lv_lload_n hx hb d_JM_floorMod_6 rfl (lv_at hl 2 rfl) ?_
  refine lx_lxor (z := x ^^^ lN 57) hx hb d_JM_floorMod_7 (rfl) ?_
  refine lv_lconst (v := lN 0) hx hb d_JM_floorMod_8 (by decide) ?_
  refine lx_lcmp_ge (tgt := 25) hx hb d_JM_floorMod_9 d_JM_floorMod_10 (by decide) (fun c10 => ?_) (fun c10 => ?_)
  · skip
    refine lv_lload hx hb d_JM_floorMod_25 (lv_at hl 0 rfl) ?_
    rw [← hQ]
    refine W.lret (v := mm) hx hb hr ?_ hS.2.2 d_JM_floorMod_27
    exact fun t ht hW => ⟨⟨mm, (), rfl, (lN_of (by rw [hrm, Int.tmod_eq_emod_of_nonneg ((sg57 x).mp c10)]; omega) (by omega)), by rw [ht]; exact hP, hD⟩, hS.F ht⟩
  · skip
    refine lv_lload hx hb d_JM_floorMod_13 (lv_at hl 0 rfl) ?_
    refine lv_lconst (v := lN 0) hx hb d_JM_floorMod_15 (by decide) ?_
    refine lx_lcmp_eq (tgt := 25) hx hb d_JM_floorMod_16 d_JM_floorMod_17 (by decide) (fun c17 => ?_) (fun c17 => ?_)
    · skip
      refine lv_lload hx hb d_JM_floorMod_25 (lv_at hl 0 rfl) ?_
      have h9 : x.toInt.tmod 57 = 0 := by rw [← hrm, c17, e00]
      rw [← hQ]
      refine W.lret (v := mm) hx hb hr ?_ hS.2.2 d_JM_floorMod_27
      exact fun t ht hW => ⟨⟨mm, (), rfl, (lN_of (by rw [hrm, h9, fm_zero h9]; rfl) (by omega)), by rw [ht]; exact hP, hD⟩, hS.F ht⟩
    · skip
      refine lv_lload hx hb d_JM_floorMod_20 (lv_at hl 0 rfl) ?_
      refine lv_lload_n hx hb d_JM_floorMod_22 rfl (lv_at hl 2 rfl) ?_
      refine lx_ladd (z := mm + lN 57) hx hb d_JM_floorMod_23 (rfl) ?_
      rw [← hQ]
      refine W.lret (v := mm + lN 57) hx hb hr ?_ hS.2.2 d_JM_floorMod_24
      exact fun t ht hW => ⟨⟨mm + lN 57, (), rfl, (lN_of (by rw [Int64.toInt_add, hrm, e57, Int.bmod_eq_of_le_mul_two (by omega) (by omega), fm_neg (by decide) (Int.not_le.mp (fun q => c10 ((sg57 x).mpr q))) (fun q => c17 (Int64.toInt_inj.mp (by rw [hrm, q, e00])))]; omega) (by omega)), by rw [ht]; exact hP, hD⟩, hS.F ht⟩
set_option maxHeartbeats 4000000 in
set_option maxRecDepth 100000 in
theorem c_JM_floorMod2 (l : Launch) (D : va_G) (g : Nat → ClassId) (sz : Nat) (ws : va_W) (x : Int32) : Met l y_JM_floorMod2 w_JM_floorMod2 rm_JM_floorMod2 (va_Pc [.int (x), .int (nI 4)] (pP D (tyl g) (ws) sz)) (va_Qi (fun (r : Int32) (u : Unit) => r = nI (kdOf x)) (fun u => qB D (va_A (ws) sz) (ws)) (va_A (ws) sz)) 0 0 (va_A (ws) sz) := by
  refine va_MetF (cc := b_JM_floorMod2) (maxL := 3) (ret := (some .int)) (by decide +kernel) rfl ?_
  intro p e s m args below meth c s₁ Bq hml hv
  have hx := Bq.exec
  have hb := Bq.bytes
  have hr := Bq.returns
  have hts : ∀ w ∈ wA, w.before args s = true := fun w h => atoms_spec (ws := w_JM_floorMod2) Bq.pre w (List.mem_cons_of_mem _ h)
  have hown : s.vm.findClass R_JM = some m.cls := findClass_of_methodNamed Bq.named
  have hlocks := Bq.notSynchronized
  obtain ⟨rfl, hsz, hP, hKK, hD0⟩ := hv
  have hK := hKK.1
  subst hsz
  have hD := hD0.self (sz := s.heap.size)
  generalize hAe : va_A (ws) s.heap.size = A at hD ⊢
  have hA : ∀ q : Nat, s.heap.size ≤ q → A q := fun q h => by rw [← hAe]; exact Or.inr h
  have hS : va_S A s.heap s.heap [] := va_S.rf
  have hl := lv_entry ([.int (x), .int (nI 4)]) (n := 3) (Nat.le_of_ble_eq_true rfl)
  rw [lg_entry_eq]
  generalize (lg_sl ([.int (x), .int (nI 4)]) ++ List.replicate (3 - (lg_sl ([.int (x), .int (nI 4)])).length) Slot.unset).toArray = ls at hl ⊢
  have hl : lv_has ls 3 [(0, .int (x)), (1, .int (nI 4))] := hl
  generalize hQ : MQ below (va_Qi (fun (r : Int32) (u : Unit) => r = nI (kdOf x)) (fun u => qB D (A) (ws)) (A)) [.int (x), .int (nI 4)].toArray s 0 0 A = Q
  have hrm := rem4 x
  generalize hmm : x - x / nI 4 * nI 4 = mm at hrm
  have hb1 : x.toInt.tmod 4 < 4 := Int.tmod_lt_of_pos _ (by decide)
  have hb2 : -4 < x.toInt.tmod 4 := Int.lt_tmod_of_pos _ (by decide)
  have e4 : (nI 4).toInt = 4 := by decide
  have e00 : (0 : Int32).toInt = 0 := by decide
  refine lv_iload_n hx hb d_JM_floorMod2_0 rfl (lv_at hl 0 rfl) ?_
  refine lv_iload_n hx hb d_JM_floorMod2_1 rfl (lv_at hl 1 rfl) ?_
  refine lx_irem (z := mm) hx hb d_JM_floorMod2_2 (by decide) (hmm) ?_
  refine lv_istore_n (lv' := [(2, .int (mm)), (0, .int (x)), (1, .int (nI 4))]) hx hb d_JM_floorMod2_3 rfl hl (by decide) rfl (fun ls hl => ?_)
  refine lv_iload_n hx hb d_JM_floorMod2_4 rfl (lv_at hl 1 rfl) ?_
  refine lv_iload_n hx hb d_JM_floorMod2_5 rfl (lv_at hl 2 rfl) ?_
  refine lx_ixor (z := x ^^^ nI 4) hx hb d_JM_floorMod2_6 (rfl) ?_
  refine lv_if_ge (tgt := 18) hx hb d_JM_floorMod2_7 (by decide) (fun c7 => ?_) (fun c7 => ?_)
  · skip
    refine lv_iload_n hx hb d_JM_floorMod2_18 rfl (lv_at hl 0 rfl) ?_
    rw [← hQ]
    refine W.iret (v := mm) hx hb hr ?_ hS.2.2 d_JM_floorMod2_19
    exact fun t ht hW => ⟨⟨mm, (), rfl, (nI_of9 (by rw [hrm, Int.tmod_eq_emod_of_nonneg ((sg4 x).mp c7)]; unfold kdOf; omega) (by unfold kdOf; omega)), by rw [ht]; exact hP, hD⟩, hS.F ht⟩
  · skip
    refine lv_iload_n hx hb d_JM_floorMod2_10 rfl (lv_at hl 0 rfl) ?_
    refine lv_if_eq (tgt := 18) hx hb d_JM_floorMod2_11 (by decide) (fun c11 => ?_) (fun c11 => ?_)
    · skip
      refine lv_iload_n hx hb d_JM_floorMod2_18 rfl (lv_at hl 0 rfl) ?_
      have h9 : x.toInt.tmod 4 = 0 := by rw [← hrm, c11, e00]
      rw [← hQ]
      refine W.iret (v := mm) hx hb hr ?_ hS.2.2 d_JM_floorMod2_19
      exact fun t ht hW => ⟨⟨mm, (), rfl, (nI_of9 (by unfold kdOf; rw [hrm, h9, fm_zero h9]; rfl) (by unfold kdOf; omega)), by rw [ht]; exact hP, hD⟩, hS.F ht⟩
    · skip
      refine lv_iload_n hx hb d_JM_floorMod2_14 rfl (lv_at hl 0 rfl) ?_
      refine lv_iload_n hx hb d_JM_floorMod2_15 rfl (lv_at hl 2 rfl) ?_
      refine lx_iadd (z := mm + nI 4) hx hb d_JM_floorMod2_16 (rfl) ?_
      rw [← hQ]
      refine W.iret (v := mm + nI 4) hx hb hr ?_ hS.2.2 d_JM_floorMod2_17
      exact fun t ht hW => ⟨⟨mm + nI 4, (), rfl, (nI_of9 (by rw [Int32.toInt_add, hrm, e4, Int.bmod_eq_of_le_mul_two (by omega) (by omega), fm_neg (by decide) (Int.not_le.mp (fun q => c7 ((sg4 x).mpr q))) (fun q => c11 (Int32.toInt_inj.mp (by rw [hrm, q, e00])))]; unfold kdOf; omega) (by unfold kdOf; omega)), by rw [ht]; exact hP, hD⟩, hS.F ht⟩
set_option maxHeartbeats 4000000 in
set_option maxRecDepth 100000 in
theorem c_C_codeOf_0 (l : Launch) (D : va_G) (g : Nat → ClassId) (sz : Nat) (wr : va_W) (M : Nat) (hM : 0 < M) (hM57 : M ≤ 57) : Met l y_C_codeOf w_C_codeOf rm_C_codeOf (va_Pc [.int (nI 0), .int (nI M)] (pP D (tyl g) (wr) sz)) (va_Qr (fun (u : ((Nat → Nat) × Nat × Nat)) => True) (fun u (a : Nat) => qB D (va_A (wr) sz) ((a, .inr (1, [.int (nI M), .int (nI (frm M 1 1)), .ref u.2.2, .ref u.2.1])) :: (u.2.2, .inl (g 0, M, .inl (fun k => nI (mkS M 1 k)))) :: (u.1 3, .inl (g 0, 2 ^ lr (wid M 1 0), .inl (fun s => oI (ba (lr (wid M 1 0)) (wid M 1 0) (wid M 1 0) s)))) :: (u.1 2, .inl (g 0, lr (wid M 1 0), .inl (fun r => nI (rsf (lr (wid M 1 0)) (wid M 1 0) r)))) :: (u.1 1, .inl (g 0, (wid M 1 0), .inl (fun j => nI (if j < wid M 1 0 then cc_ (lr (wid M 1 0)) j else 0)))) :: (u.1 0, .inr (4, [.int (nI (lr (wid M 1 0))), .ref (u.1 1), .ref (u.1 2), .ref (u.1 3)])) :: (u.2.1, .inl (g 3, 1, .inr (.inr (.inr (.inr (fun i => some (u.1 (4 * i)))))))) :: wr)) (va_A (wr) sz)) 19 849 (va_A (wr) sz) := by
  refine Met.ofW (cc := b_C_codeOf) (maxL := 2) (ret := (some (.object "CheckCodes$Code"))) (by decide +kernel) rfl ?_
  intro p e s m args below meth c s₁ Bq hml hv
  have hx := Bq.exec
  have hb := Bq.bytes
  have hr := Bq.returns
  have hts : ∀ w ∈ wA, w.before args s = true := fun w h => atoms_spec (ws := w_C_codeOf) Bq.pre w (List.mem_cons_of_mem _ h)
  have hown : s.vm.findClass R_C = some m.cls := findClass_of_methodNamed Bq.named
  have hlocks := Bq.notSynchronized
  obtain ⟨rfl, hsz, hP, hKK, hD0⟩ := hv
  have hK := hKK.1
  subst hsz
  have hD := hD0.self (sz := s.heap.size)
  generalize hAe : va_A (wr) s.heap.size = A at hD ⊢
  have hA : ∀ q : Nat, s.heap.size ≤ q → A q := fun q h => by rw [← hAe]; exact Or.inr h
  have hS : va_S A s.heap s.heap [] := va_S.rf
  have hl := lv_entry ([.int (nI 0), .int (nI M)]) (n := 2) (Nat.le_of_ble_eq_true rfl)
  rw [lg_entry_eq]
  generalize (lg_sl ([.int (nI 0), .int (nI M)]) ++ List.replicate (2 - (lg_sl ([.int (nI 0), .int (nI M)])).length) Slot.unset).toArray = ls at hl ⊢
  have hl : lv_has ls 2 [(0, .int (nI 0)), (1, .int (nI M))] := hl
  generalize hQ : MQ below (va_Qr (fun (u : ((Nat → Nat) × Nat × Nat)) => True) (fun u (a : Nat) => qB D (A) ((a, .inr (1, [.int (nI M), .int (nI (frm M 1 1)), .ref u.2.2, .ref u.2.1])) :: (u.2.2, .inl (g 0, M, .inl (fun k => nI (mkS M 1 k)))) :: (u.1 3, .inl (g 0, 2 ^ lr (wid M 1 0), .inl (fun s => oI (ba (lr (wid M 1 0)) (wid M 1 0) (wid M 1 0) s)))) :: (u.1 2, .inl (g 0, lr (wid M 1 0), .inl (fun r => nI (rsf (lr (wid M 1 0)) (wid M 1 0) r)))) :: (u.1 1, .inl (g 0, (wid M 1 0), .inl (fun j => nI (if j < wid M 1 0 then cc_ (lr (wid M 1 0)) j else 0)))) :: (u.1 0, .inr (4, [.int (nI (lr (wid M 1 0))), .ref (u.1 1), .ref (u.1 2), .ref (u.1 3)])) :: (u.2.1, .inl (g 3, 1, .inr (.inr (.inr (.inr (fun i => some (u.1 (4 * i)))))))) :: wr)) (A)) [.int (nI 0), .int (nI M)].toArray s 19 849 A = Q
  have hRc : (headSpec w_C_codeOf rm_C_codeOf).room.cells = 19 := rfl
  have hRs : (headSpec w_C_codeOf rm_C_codeOf).room.slots = 849 := rfl
  refine lv_iload_n hx hb d_C_codeOf_0 rfl (lv_at hl 0 rfl) ?_
  refine lv_tableIn (off := 27) (tgt := 28) hx hb d_C_codeOf_1 (by decide) (by decide) (by decide) (by decide) ?_
  refine lx_new (ci := 1) (fs := [.int (nI 0), .int (nI 0), .null, .null]) (C := R_S) (T := F_S) (N := 4) hx hb hts i_S tf_S tf_S_ok hown (hts _ m_65) (hts _ m_66) (hts _ m_32) hK hP hD hS hA rfl (by decide +kernel) (Nat.le_of_ble_eq_true rfl) (Nat.le_of_ble_eq_true rfl) d_C_codeOf_28 (fun o H hP hD hS => ?_)
  refine W.widen (k := 1) (n := 4) (by omega) (by omega) ?_
  have hP : va_P D vwCl ((o, .inr (1, [.int (nI 0), .int (nI 0), .null, .null])) :: wr) H := hP
  have hD : va_D A ((o, .inr (1, [.int (nI 0), .int (nI 0), .null, .null])) :: wr) := hD
  refine lv_dup hx hb d_C_codeOf_31 rfl ?_
  refine lv_iload_n hx hb d_C_codeOf_32 rfl (lv_at hl 1 rfl) ?_
  refine lv_iload_n hx hb d_C_codeOf_33 rfl (lv_at hl 1 rfl) ?_
  refine lv_iconst (v := nI 1) hx hb d_C_codeOf_34 (by decide) ?_
  refine lc_Sr (As := [.int (nI M), .int (nI 1)]) (rest := [.int (nI M), .ref o, .ref o]) ⟨hx, hb, hml, hown, hts⟩ (c_C_lanesOf_1 l D g _ _ M hM hM57) (kS 2 hts m_69 m_67 m_68 m_29 (by decide +kernel) ⟨Nat.le_of_ble_eq_true rfl, Nat.le_of_ble_eq_true rfl⟩) hKK hP hD hS hA hl.1 rfl rfl (Nat.le_of_ble_eq_true rfl) d_C_codeOf_35 ⟨Nat.le_of_ble_eq_true rfl, Nat.le_of_ble_eq_true rfl⟩ (fun u1 al H locs _ hP hD hS => ?_)
  refine W.widen (k := 1 + 17) (n := 4 + 788) (by omega) (by omega) ?_
  have hP : va_P D vwCl ((u1 3, .inl (g 0, 2 ^ lr (wid M 1 0), .inl (fun s => oI (ba (lr (wid M 1 0)) (wid M 1 0) (wid M 1 0) s)))) :: (u1 2, .inl (g 0, lr (wid M 1 0), .inl (fun r => nI (rsf (lr (wid M 1 0)) (wid M 1 0) r)))) :: (u1 1, .inl (g 0, (wid M 1 0), .inl (fun j => nI (if j < wid M 1 0 then cc_ (lr (wid M 1 0)) j else 0)))) :: (u1 0, .inr (4, [.int (nI (lr (wid M 1 0))), .ref (u1 1), .ref (u1 2), .ref (u1 3)])) :: (al, .inl (g 3, 1, .inr (.inr (.inr (.inr (fun i => some (u1 (4 * i)))))))) :: (o, .inr (1, [.int (nI 0), .int (nI 0), .null, .null])) :: wr) H := hP
  have hD : va_D A ((u1 3, .inl (g 0, 2 ^ lr (wid M 1 0), .inl (fun s => oI (ba (lr (wid M 1 0)) (wid M 1 0) (wid M 1 0) s)))) :: (u1 2, .inl (g 0, lr (wid M 1 0), .inl (fun r => nI (rsf (lr (wid M 1 0)) (wid M 1 0) r)))) :: (u1 1, .inl (g 0, (wid M 1 0), .inl (fun j => nI (if j < wid M 1 0 then cc_ (lr (wid M 1 0)) j else 0)))) :: (u1 0, .inr (4, [.int (nI (lr (wid M 1 0))), .ref (u1 1), .ref (u1 2), .ref (u1 3)])) :: (al, .inl (g 3, 1, .inr (.inr (.inr (.inr (fun i => some (u1 (4 * i)))))))) :: (o, .inr (1, [.int (nI 0), .int (nI 0), .null, .null])) :: wr) := hD
  have hP : va_P D vwCl ((o, .inr (1, [.int (nI 0), .int (nI 0), .null, .null])) :: (u1 3, .inl (g 0, 2 ^ lr (wid M 1 0), .inl (fun s => oI (ba (lr (wid M 1 0)) (wid M 1 0) (wid M 1 0) s)))) :: (u1 2, .inl (g 0, lr (wid M 1 0), .inl (fun r => nI (rsf (lr (wid M 1 0)) (wid M 1 0) r)))) :: (u1 1, .inl (g 0, (wid M 1 0), .inl (fun j => nI (if j < wid M 1 0 then cc_ (lr (wid M 1 0)) j else 0)))) :: (u1 0, .inr (4, [.int (nI (lr (wid M 1 0))), .ref (u1 1), .ref (u1 2), .ref (u1 3)])) :: (al, .inl (g 3, 1, .inr (.inr (.inr (.inr (fun i => some (u1 (4 * i)))))))) :: wr) H := wp_pull [(u1 3, .inl (g 0, 2 ^ lr (wid M 1 0), .inl (fun s => oI (ba (lr (wid M 1 0)) (wid M 1 0) (wid M 1 0) s)))), (u1 2, .inl (g 0, lr (wid M 1 0), .inl (fun r => nI (rsf (lr (wid M 1 0)) (wid M 1 0) r)))), (u1 1, .inl (g 0, (wid M 1 0), .inl (fun j => nI (if j < wid M 1 0 then cc_ (lr (wid M 1 0)) j else 0)))), (u1 0, .inr (4, [.int (nI (lr (wid M 1 0))), .ref (u1 1), .ref (u1 2), .ref (u1 3)])), (al, .inl (g 3, 1, .inr (.inr (.inr (.inr (fun i => some (u1 (4 * i))))))))] hP
  have hD : va_D A ((o, .inr (1, [.int (nI 0), .int (nI 0), .null, .null])) :: (u1 3, .inl (g 0, 2 ^ lr (wid M 1 0), .inl (fun s => oI (ba (lr (wid M 1 0)) (wid M 1 0) (wid M 1 0) s)))) :: (u1 2, .inl (g 0, lr (wid M 1 0), .inl (fun r => nI (rsf (lr (wid M 1 0)) (wid M 1 0) r)))) :: (u1 1, .inl (g 0, (wid M 1 0), .inl (fun j => nI (if j < wid M 1 0 then cc_ (lr (wid M 1 0)) j else 0)))) :: (u1 0, .inr (4, [.int (nI (lr (wid M 1 0))), .ref (u1 1), .ref (u1 2), .ref (u1 3)])) :: (al, .inl (g 3, 1, .inr (.inr (.inr (.inr (fun i => some (u1 (4 * i)))))))) :: wr) := wd_pull [(u1 3, .inl (g 0, 2 ^ lr (wid M 1 0), .inl (fun s => oI (ba (lr (wid M 1 0)) (wid M 1 0) (wid M 1 0) s)))), (u1 2, .inl (g 0, lr (wid M 1 0), .inl (fun r => nI (rsf (lr (wid M 1 0)) (wid M 1 0) r)))), (u1 1, .inl (g 0, (wid M 1 0), .inl (fun j => nI (if j < wid M 1 0 then cc_ (lr (wid M 1 0)) j else 0)))), (u1 0, .inr (4, [.int (nI (lr (wid M 1 0))), .ref (u1 1), .ref (u1 2), .ref (u1 3)])), (al, .inl (g 3, 1, .inr (.inr (.inr (.inr (fun i => some (u1 (4 * i))))))))] hD
  refine lc_Iv (b := o) (As := [.int (nI M), .ref al]) (rest := [.ref o]) ⟨hx, hb, hml, hown, hts⟩ (c_S_init l D g _ _ M 1 o hM57 (by decide) 4 al (fun i => some (u1 (4 * i))) (fun _ => 3) (fun _ => 2) (fun _ => 1) (fun _ => 0) (fun i => u1 (4 * i)) (fun i => u1 (4 * i + 1)) (fun i => u1 (4 * i + 2)) (fun i => u1 (4 * i + 3)) rfl (fun i _ => rfl) (fun i hi => by obtain rfl : i = 0 := (by omega); rfl) (fun i hi => by obtain rfl : i = 0 := (by omega); rfl)) (kI 2 hts m_120 m_118 m_119 m_32 rfl (by decide +kernel) ⟨Nat.le_of_ble_eq_true rfl, Nat.le_of_ble_eq_true rfl⟩) hKK hP hD hS hA hl.1 rfl rfl (Nat.le_of_ble_eq_true rfl) d_C_codeOf_38 ⟨by first | omega | exact Nat.le_of_ble_eq_true rfl, by first | omega | exact Nat.le_of_ble_eq_true rfl⟩ (fun am H locs _ hP hD hS => ?_)
  refine W.widen (k := 1 + 17 + 1) (n := 4 + 788 + 57) (by omega) (by omega) ?_
  have hP : va_P D vwCl ((o, .inr (1, [.int (nI M), .int (nI (frm M 1 1)), .ref am, .ref al])) :: (am, .inl (g 0, M, .inl (fun k => nI (mkS M 1 k)))) :: (u1 3, .inl (g 0, 2 ^ lr (wid M 1 0), .inl (fun s => oI (ba (lr (wid M 1 0)) (wid M 1 0) (wid M 1 0) s)))) :: (u1 2, .inl (g 0, lr (wid M 1 0), .inl (fun r => nI (rsf (lr (wid M 1 0)) (wid M 1 0) r)))) :: (u1 1, .inl (g 0, (wid M 1 0), .inl (fun j => nI (if j < wid M 1 0 then cc_ (lr (wid M 1 0)) j else 0)))) :: (u1 0, .inr (4, [.int (nI (lr (wid M 1 0))), .ref (u1 1), .ref (u1 2), .ref (u1 3)])) :: (al, .inl (g 3, 1, .inr (.inr (.inr (.inr (fun i => some (u1 (4 * i)))))))) :: wr) H := hP
  have hD : va_D A ((o, .inr (1, [.int (nI M), .int (nI (frm M 1 1)), .ref am, .ref al])) :: (am, .inl (g 0, M, .inl (fun k => nI (mkS M 1 k)))) :: (u1 3, .inl (g 0, 2 ^ lr (wid M 1 0), .inl (fun s => oI (ba (lr (wid M 1 0)) (wid M 1 0) (wid M 1 0) s)))) :: (u1 2, .inl (g 0, lr (wid M 1 0), .inl (fun r => nI (rsf (lr (wid M 1 0)) (wid M 1 0) r)))) :: (u1 1, .inl (g 0, (wid M 1 0), .inl (fun j => nI (if j < wid M 1 0 then cc_ (lr (wid M 1 0)) j else 0)))) :: (u1 0, .inr (4, [.int (nI (lr (wid M 1 0))), .ref (u1 1), .ref (u1 2), .ref (u1 3)])) :: (al, .inl (g 3, 1, .inr (.inr (.inr (.inr (fun i => some (u1 (4 * i)))))))) :: wr) := hD
  refine W.widen (k := 19) (n := 849) (by omega) (by omega) ?_
  rw [← hQ]
  refine W.aret (v := .ref o) hx hb hr (by first | exact Or.inl ⟨_, rfl⟩ | exact Or.inr ⟨_, rfl⟩) (Or.inr ⟨_, rfl⟩) ?_ hS.2.2 d_C_codeOf_41
  exact fun t ht hW => ⟨⟨(u1, al, am), o, rfl, trivial, by rw [ht]; exact hP, hD⟩, hS.F ht⟩
set_option maxHeartbeats 4000000 in
set_option maxRecDepth 100000 in
theorem c_C_codeOf_1 (l : Launch) (D : va_G) (g : Nat → ClassId) (sz : Nat) (wr : va_W) (M : Nat) (hM : 0 < M) (hM57 : M ≤ 57) : Met l y_C_codeOf w_C_codeOf rm_C_codeOf (va_Pc [.int (nI 1), .int (nI M)] (pP D (tyl g) (wr) sz)) (va_Qr (fun (u : Nat) => True) (fun u (a : Nat) => qB D (va_A (wr) sz) ((a, .inr (2, [.int (nI M), .int (nI (min M 4)), .ref u])) :: (u, .inl (g 0, M, .inl (fun j => nI (if j < M then mkP (min M 4) j else 0)))) :: wr)) (va_A (wr) sz)) 19 849 (va_A (wr) sz) := by
  refine Met.ofW (cc := b_C_codeOf) (maxL := 2) (ret := (some (.object "CheckCodes$Code"))) (by decide +kernel) rfl ?_
  intro p e s m args below meth c s₁ Bq hml hv
  have hx := Bq.exec
  have hb := Bq.bytes
  have hr := Bq.returns
  have hts : ∀ w ∈ wA, w.before args s = true := fun w h => atoms_spec (ws := w_C_codeOf) Bq.pre w (List.mem_cons_of_mem _ h)
  have hown : s.vm.findClass R_C = some m.cls := findClass_of_methodNamed Bq.named
  have hlocks := Bq.notSynchronized
  obtain ⟨rfl, hsz, hP, hKK, hD0⟩ := hv
  have hK := hKK.1
  subst hsz
  have hD := hD0.self (sz := s.heap.size)
  generalize hAe : va_A (wr) s.heap.size = A at hD ⊢
  have hA : ∀ q : Nat, s.heap.size ≤ q → A q := fun q h => by rw [← hAe]; exact Or.inr h
  have hS : va_S A s.heap s.heap [] := va_S.rf
  have hl := lv_entry ([.int (nI 1), .int (nI M)]) (n := 2) (Nat.le_of_ble_eq_true rfl)
  rw [lg_entry_eq]
  generalize (lg_sl ([.int (nI 1), .int (nI M)]) ++ List.replicate (2 - (lg_sl ([.int (nI 1), .int (nI M)])).length) Slot.unset).toArray = ls at hl ⊢
  have hl : lv_has ls 2 [(0, .int (nI 1)), (1, .int (nI M))] := hl
  generalize hQ : MQ below (va_Qr (fun (u : Nat) => True) (fun u (a : Nat) => qB D (A) ((a, .inr (2, [.int (nI M), .int (nI (min M 4)), .ref u])) :: (u, .inl (g 0, M, .inl (fun j => nI (if j < M then mkP (min M 4) j else 0)))) :: wr)) (A)) [.int (nI 1), .int (nI M)].toArray s 19 849 A = Q
  have hRc : (headSpec w_C_codeOf rm_C_codeOf).room.cells = 19 := rfl
  have hRs : (headSpec w_C_codeOf rm_C_codeOf).room.slots = 849 := rfl
  refine lv_iload_n hx hb d_C_codeOf_0 rfl (lv_at hl 0 rfl) ?_
  refine lv_tableIn (off := 41) (tgt := 42) hx hb d_C_codeOf_1 (by decide) (by decide) (by decide) (by decide) ?_
  refine lx_new (ci := 2) (fs := [.int (nI 0), .int (nI 0), .null]) (C := R_P) (T := F_P) (N := 3) hx hb hts i_P tf_P tf_P_ok hown (hts _ m_149) (hts _ m_150) (hts _ m_36) hK hP hD hS hA rfl (by decide +kernel) (Nat.le_of_ble_eq_true rfl) (Nat.le_of_ble_eq_true rfl) d_C_codeOf_42 (fun o H hP hD hS => ?_)
  refine W.widen (k := 1) (n := 3) (by omega) (by omega) ?_
  have hP : va_P D vwCl ((o, .inr (2, [.int (nI 0), .int (nI 0), .null])) :: wr) H := hP
  have hD : va_D A ((o, .inr (2, [.int (nI 0), .int (nI 0), .null])) :: wr) := hD
  refine lv_dup hx hb d_C_codeOf_45 rfl ?_
  refine lv_iload_n hx hb d_C_codeOf_46 rfl (lv_at hl 1 rfl) ?_
  refine lv_iload_n hx hb d_C_codeOf_47 rfl (lv_at hl 1 rfl) ?_
  refine lv_iconst (v := nI 4) hx hb d_C_codeOf_48 (by decide) ?_
  refine lc_Si (As := [.int (nI M), .int (nI 4)]) (rest := [.int (nI M), .ref o, .ref o]) ⟨hx, hb, hml, hown, hts⟩ (c_JM_min l D g _ _ M 4 (by omega) (by decide)) (kS 2 hts m_153 m_151 m_152 m_30 (by decide +kernel) ⟨Nat.le_of_ble_eq_true rfl, Nat.le_of_ble_eq_true rfl⟩) hKK hP hD hS hA hl.1 rfl rfl (Nat.le_of_ble_eq_true rfl) d_C_codeOf_49 ⟨Nat.le_of_ble_eq_true rfl, Nat.le_of_ble_eq_true rfl⟩ (fun r1 u H locs e1 hP hD hS => ?_)
  obtain rfl : r1 = nI (min M 4) := e1
  refine lc_Iv (b := o) (As := [.int (nI M), .int (nI (min M 4))]) (rest := [.ref o]) ⟨hx, hb, hml, hown, hts⟩ (c_P_init l D g _ _ M (min M 4) o hM57 (by omega)) (kI 2 hts m_156 m_154 m_155 m_36 rfl (by decide +kernel) ⟨Nat.le_of_ble_eq_true rfl, Nat.le_of_ble_eq_true rfl⟩) hKK hP hD hS hA hl.1 rfl rfl (Nat.le_of_ble_eq_true rfl) d_C_codeOf_52 ⟨Nat.le_of_ble_eq_true rfl, Nat.le_of_ble_eq_true rfl⟩ (fun am H locs _ hP hD hS => ?_)
  refine W.widen (k := 1 + 1) (n := 3 + 57) (by omega) (by omega) ?_
  have hP : va_P D vwCl ((o, .inr (2, [.int (nI M), .int (nI (min M 4)), .ref am])) :: (am, .inl (g 0, M, .inl (fun j => nI (if j < M then mkP (min M 4) j else 0)))) :: wr) H := hP
  have hD : va_D A ((o, .inr (2, [.int (nI M), .int (nI (min M 4)), .ref am])) :: (am, .inl (g 0, M, .inl (fun j => nI (if j < M then mkP (min M 4) j else 0)))) :: wr) := hD
  refine W.widen (k := 19) (n := 849) (by omega) (by omega) ?_
  rw [← hQ]
  refine W.aret (v := .ref o) hx hb hr (by first | exact Or.inl ⟨_, rfl⟩ | exact Or.inr ⟨_, rfl⟩) (Or.inr ⟨_, rfl⟩) ?_ hS.2.2 d_C_codeOf_55
  exact fun t ht hW => ⟨⟨am, o, rfl, trivial, by rw [ht]; exact hP, hD⟩, hS.F ht⟩
set_option maxHeartbeats 4000000 in
set_option maxRecDepth 100000 in
theorem c_C_codeOf_2 (l : Launch) (D : va_G) (g : Nat → ClassId) (sz : Nat) (wr : va_W) (M : Nat) (hM : 0 < M) (hM57 : M ≤ 57) : Met l y_C_codeOf w_C_codeOf rm_C_codeOf (va_Pc [.int (nI 2), .int (nI M)] (pP D (tyl g) (wr) sz)) (va_Qr (fun (u : Nat) => True) (fun u (a : Nat) => qB D (va_A (wr) sz) ((a, .inr (3, [.int (nI M), .int (nI 12), .ref u])) :: (u, .inl (g 0, M, .inl (fun j => nI (if j < M then mkN j else 0)))) :: wr)) (va_A (wr) sz)) 19 849 (va_A (wr) sz) := by
  refine Met.ofW (cc := b_C_codeOf) (maxL := 2) (ret := (some (.object "CheckCodes$Code"))) (by decide +kernel) rfl ?_
  intro p e s m args below meth c s₁ Bq hml hv
  have hx := Bq.exec
  have hb := Bq.bytes
  have hr := Bq.returns
  have hts : ∀ w ∈ wA, w.before args s = true := fun w h => atoms_spec (ws := w_C_codeOf) Bq.pre w (List.mem_cons_of_mem _ h)
  have hown : s.vm.findClass R_C = some m.cls := findClass_of_methodNamed Bq.named
  have hlocks := Bq.notSynchronized
  obtain ⟨rfl, hsz, hP, hKK, hD0⟩ := hv
  have hK := hKK.1
  subst hsz
  have hD := hD0.self (sz := s.heap.size)
  generalize hAe : va_A (wr) s.heap.size = A at hD ⊢
  have hA : ∀ q : Nat, s.heap.size ≤ q → A q := fun q h => by rw [← hAe]; exact Or.inr h
  have hS : va_S A s.heap s.heap [] := va_S.rf
  have hl := lv_entry ([.int (nI 2), .int (nI M)]) (n := 2) (Nat.le_of_ble_eq_true rfl)
  rw [lg_entry_eq]
  generalize (lg_sl ([.int (nI 2), .int (nI M)]) ++ List.replicate (2 - (lg_sl ([.int (nI 2), .int (nI M)])).length) Slot.unset).toArray = ls at hl ⊢
  have hl : lv_has ls 2 [(0, .int (nI 2)), (1, .int (nI M))] := hl
  generalize hQ : MQ below (va_Qr (fun (u : Nat) => True) (fun u (a : Nat) => qB D (A) ((a, .inr (3, [.int (nI M), .int (nI 12), .ref u])) :: (u, .inl (g 0, M, .inl (fun j => nI (if j < M then mkN j else 0)))) :: wr)) (A)) [.int (nI 2), .int (nI M)].toArray s 19 849 A = Q
  have hRc : (headSpec w_C_codeOf rm_C_codeOf).room.cells = 19 := rfl
  have hRs : (headSpec w_C_codeOf rm_C_codeOf).room.slots = 849 := rfl
  refine lv_iload_n hx hb d_C_codeOf_0 rfl (lv_at hl 0 rfl) ?_
  refine lv_tableIn (off := 55) (tgt := 56) hx hb d_C_codeOf_1 (by decide) (by decide) (by decide) (by decide) ?_
  refine lx_new (ci := 3) (fs := [.int (nI 0), .int (nI 0), .null]) (C := R_N) (T := F_N) (N := 3) hx hb hts i_N tf_N tf_N_ok hown (hts _ m_165) (hts _ m_166) (hts _ m_37) hK hP hD hS hA rfl (by decide +kernel) (Nat.le_of_ble_eq_true rfl) (Nat.le_of_ble_eq_true rfl) d_C_codeOf_56 (fun o H hP hD hS => ?_)
  refine W.widen (k := 1) (n := 3) (by omega) (by omega) ?_
  have hP : va_P D vwCl ((o, .inr (3, [.int (nI 0), .int (nI 0), .null])) :: wr) H := hP
  have hD : va_D A ((o, .inr (3, [.int (nI 0), .int (nI 0), .null])) :: wr) := hD
  refine lv_dup hx hb d_C_codeOf_59 rfl ?_
  refine lv_iload_n hx hb d_C_codeOf_60 rfl (lv_at hl 1 rfl) ?_
  refine lc_Iv (b := o) (As := [.int (nI M)]) (rest := [.ref o]) ⟨hx, hb, hml, hown, hts⟩ (c_N_init l D g _ _ M o hM57) (kI 1 hts m_169 m_167 m_168 m_37 rfl (by decide +kernel) ⟨Nat.le_of_ble_eq_true rfl, Nat.le_of_ble_eq_true rfl⟩) hKK hP hD hS hA hl.1 rfl rfl (Nat.le_of_ble_eq_true rfl) d_C_codeOf_61 ⟨Nat.le_of_ble_eq_true rfl, Nat.le_of_ble_eq_true rfl⟩ (fun am H locs _ hP hD hS => ?_)
  refine W.widen (k := 1 + 1) (n := 3 + 57) (by omega) (by omega) ?_
  have hP : va_P D vwCl ((o, .inr (3, [.int (nI M), .int (nI 12), .ref am])) :: (am, .inl (g 0, M, .inl (fun j => nI (if j < M then mkN j else 0)))) :: wr) H := hP
  have hD : va_D A ((o, .inr (3, [.int (nI M), .int (nI 12), .ref am])) :: (am, .inl (g 0, M, .inl (fun j => nI (if j < M then mkN j else 0)))) :: wr) := hD
  refine W.widen (k := 19) (n := 849) (by omega) (by omega) ?_
  rw [← hQ]
  refine W.aret (v := .ref o) hx hb hr (by first | exact Or.inl ⟨_, rfl⟩ | exact Or.inr ⟨_, rfl⟩) (Or.inr ⟨_, rfl⟩) ?_ hS.2.2 d_C_codeOf_64
  exact fun t ht hW => ⟨⟨am, o, rfl, trivial, by rw [ht]; exact hP, hD⟩, hS.F ht⟩
set_option maxHeartbeats 4000000 in
set_option maxRecDepth 100000 in
theorem c_C_codeOf_3 (l : Launch) (D : va_G) (g : Nat → ClassId) (sz : Nat) (wr : va_W) (M : Nat) (hM : 0 < M) (hM57 : M ≤ 57) : Met l y_C_codeOf w_C_codeOf rm_C_codeOf (va_Pc [.int (nI 3), .int (nI M)] (pP D (tyl g) (wr) sz)) (va_Qr (fun (u : ((Nat → Nat) × Nat × Nat)) => True) (fun u (a : Nat) => qB D (va_A (wr) sz) ((a, .inr (1, [.int (nI M), .int (nI (frm M 4 4)), .ref u.2.2, .ref u.2.1])) :: (u.2.2, .inl (g 0, M, .inl (fun k => nI (mkS M 4 k)))) :: (u.1 15, .inl (g 0, 2 ^ lr (wid M 4 3), .inl (fun s => oI (ba (lr (wid M 4 3)) (wid M 4 3) (wid M 4 3) s)))) :: (u.1 14, .inl (g 0, lr (wid M 4 3), .inl (fun r => nI (rsf (lr (wid M 4 3)) (wid M 4 3) r)))) :: (u.1 13, .inl (g 0, (wid M 4 3), .inl (fun j => nI (if j < wid M 4 3 then cc_ (lr (wid M 4 3)) j else 0)))) :: (u.1 12, .inr (4, [.int (nI (lr (wid M 4 3))), .ref (u.1 13), .ref (u.1 14), .ref (u.1 15)])) :: (u.1 11, .inl (g 0, 2 ^ lr (wid M 4 2), .inl (fun s => oI (ba (lr (wid M 4 2)) (wid M 4 2) (wid M 4 2) s)))) :: (u.1 10, .inl (g 0, lr (wid M 4 2), .inl (fun r => nI (rsf (lr (wid M 4 2)) (wid M 4 2) r)))) :: (u.1 9, .inl (g 0, (wid M 4 2), .inl (fun j => nI (if j < wid M 4 2 then cc_ (lr (wid M 4 2)) j else 0)))) :: (u.1 8, .inr (4, [.int (nI (lr (wid M 4 2))), .ref (u.1 9), .ref (u.1 10), .ref (u.1 11)])) :: (u.1 7, .inl (g 0, 2 ^ lr (wid M 4 1), .inl (fun s => oI (ba (lr (wid M 4 1)) (wid M 4 1) (wid M 4 1) s)))) :: (u.1 6, .inl (g 0, lr (wid M 4 1), .inl (fun r => nI (rsf (lr (wid M 4 1)) (wid M 4 1) r)))) :: (u.1 5, .inl (g 0, (wid M 4 1), .inl (fun j => nI (if j < wid M 4 1 then cc_ (lr (wid M 4 1)) j else 0)))) :: (u.1 4, .inr (4, [.int (nI (lr (wid M 4 1))), .ref (u.1 5), .ref (u.1 6), .ref (u.1 7)])) :: (u.1 3, .inl (g 0, 2 ^ lr (wid M 4 0), .inl (fun s => oI (ba (lr (wid M 4 0)) (wid M 4 0) (wid M 4 0) s)))) :: (u.1 2, .inl (g 0, lr (wid M 4 0), .inl (fun r => nI (rsf (lr (wid M 4 0)) (wid M 4 0) r)))) :: (u.1 1, .inl (g 0, (wid M 4 0), .inl (fun j => nI (if j < wid M 4 0 then cc_ (lr (wid M 4 0)) j else 0)))) :: (u.1 0, .inr (4, [.int (nI (lr (wid M 4 0))), .ref (u.1 1), .ref (u.1 2), .ref (u.1 3)])) :: (u.2.1, .inl (g 3, 4, .inr (.inr (.inr (.inr (fun i => some (u.1 (4 * i)))))))) :: wr)) (va_A (wr) sz)) 19 849 (va_A (wr) sz) := by
  refine Met.ofW (cc := b_C_codeOf) (maxL := 2) (ret := (some (.object "CheckCodes$Code"))) (by decide +kernel) rfl ?_
  intro p e s m args below meth c s₁ Bq hml hv
  have hx := Bq.exec
  have hb := Bq.bytes
  have hr := Bq.returns
  have hts : ∀ w ∈ wA, w.before args s = true := fun w h => atoms_spec (ws := w_C_codeOf) Bq.pre w (List.mem_cons_of_mem _ h)
  have hown : s.vm.findClass R_C = some m.cls := findClass_of_methodNamed Bq.named
  have hlocks := Bq.notSynchronized
  obtain ⟨rfl, hsz, hP, hKK, hD0⟩ := hv
  have hK := hKK.1
  subst hsz
  have hD := hD0.self (sz := s.heap.size)
  generalize hAe : va_A (wr) s.heap.size = A at hD ⊢
  have hA : ∀ q : Nat, s.heap.size ≤ q → A q := fun q h => by rw [← hAe]; exact Or.inr h
  have hS : va_S A s.heap s.heap [] := va_S.rf
  have hl := lv_entry ([.int (nI 3), .int (nI M)]) (n := 2) (Nat.le_of_ble_eq_true rfl)
  rw [lg_entry_eq]
  generalize (lg_sl ([.int (nI 3), .int (nI M)]) ++ List.replicate (2 - (lg_sl ([.int (nI 3), .int (nI M)])).length) Slot.unset).toArray = ls at hl ⊢
  have hl : lv_has ls 2 [(0, .int (nI 3)), (1, .int (nI M))] := hl
  generalize hQ : MQ below (va_Qr (fun (u : ((Nat → Nat) × Nat × Nat)) => True) (fun u (a : Nat) => qB D (A) ((a, .inr (1, [.int (nI M), .int (nI (frm M 4 4)), .ref u.2.2, .ref u.2.1])) :: (u.2.2, .inl (g 0, M, .inl (fun k => nI (mkS M 4 k)))) :: (u.1 15, .inl (g 0, 2 ^ lr (wid M 4 3), .inl (fun s => oI (ba (lr (wid M 4 3)) (wid M 4 3) (wid M 4 3) s)))) :: (u.1 14, .inl (g 0, lr (wid M 4 3), .inl (fun r => nI (rsf (lr (wid M 4 3)) (wid M 4 3) r)))) :: (u.1 13, .inl (g 0, (wid M 4 3), .inl (fun j => nI (if j < wid M 4 3 then cc_ (lr (wid M 4 3)) j else 0)))) :: (u.1 12, .inr (4, [.int (nI (lr (wid M 4 3))), .ref (u.1 13), .ref (u.1 14), .ref (u.1 15)])) :: (u.1 11, .inl (g 0, 2 ^ lr (wid M 4 2), .inl (fun s => oI (ba (lr (wid M 4 2)) (wid M 4 2) (wid M 4 2) s)))) :: (u.1 10, .inl (g 0, lr (wid M 4 2), .inl (fun r => nI (rsf (lr (wid M 4 2)) (wid M 4 2) r)))) :: (u.1 9, .inl (g 0, (wid M 4 2), .inl (fun j => nI (if j < wid M 4 2 then cc_ (lr (wid M 4 2)) j else 0)))) :: (u.1 8, .inr (4, [.int (nI (lr (wid M 4 2))), .ref (u.1 9), .ref (u.1 10), .ref (u.1 11)])) :: (u.1 7, .inl (g 0, 2 ^ lr (wid M 4 1), .inl (fun s => oI (ba (lr (wid M 4 1)) (wid M 4 1) (wid M 4 1) s)))) :: (u.1 6, .inl (g 0, lr (wid M 4 1), .inl (fun r => nI (rsf (lr (wid M 4 1)) (wid M 4 1) r)))) :: (u.1 5, .inl (g 0, (wid M 4 1), .inl (fun j => nI (if j < wid M 4 1 then cc_ (lr (wid M 4 1)) j else 0)))) :: (u.1 4, .inr (4, [.int (nI (lr (wid M 4 1))), .ref (u.1 5), .ref (u.1 6), .ref (u.1 7)])) :: (u.1 3, .inl (g 0, 2 ^ lr (wid M 4 0), .inl (fun s => oI (ba (lr (wid M 4 0)) (wid M 4 0) (wid M 4 0) s)))) :: (u.1 2, .inl (g 0, lr (wid M 4 0), .inl (fun r => nI (rsf (lr (wid M 4 0)) (wid M 4 0) r)))) :: (u.1 1, .inl (g 0, (wid M 4 0), .inl (fun j => nI (if j < wid M 4 0 then cc_ (lr (wid M 4 0)) j else 0)))) :: (u.1 0, .inr (4, [.int (nI (lr (wid M 4 0))), .ref (u.1 1), .ref (u.1 2), .ref (u.1 3)])) :: (u.2.1, .inl (g 3, 4, .inr (.inr (.inr (.inr (fun i => some (u.1 (4 * i)))))))) :: wr)) (A)) [.int (nI 3), .int (nI M)].toArray s 19 849 A = Q
  have hRc : (headSpec w_C_codeOf rm_C_codeOf).room.cells = 19 := rfl
  have hRs : (headSpec w_C_codeOf rm_C_codeOf).room.slots = 849 := rfl
  refine lv_iload_n hx hb d_C_codeOf_0 rfl (lv_at hl 0 rfl) ?_
  refine lv_tableOut (tgt := 65) hx hb d_C_codeOf_1 (by decide) (by decide) ?_
  refine lx_new (ci := 1) (fs := [.int (nI 0), .int (nI 0), .null, .null]) (C := R_S) (T := F_S) (N := 4) hx hb hts i_S tf_S tf_S_ok hown (hts _ m_65) (hts _ m_66) (hts _ m_32) hK hP hD hS hA rfl (by decide +kernel) (Nat.le_of_ble_eq_true rfl) (Nat.le_of_ble_eq_true rfl) d_C_codeOf_65 (fun o H hP hD hS => ?_)
  refine W.widen (k := 1) (n := 4) (by omega) (by omega) ?_
  have hP : va_P D vwCl ((o, .inr (1, [.int (nI 0), .int (nI 0), .null, .null])) :: wr) H := hP
  have hD : va_D A ((o, .inr (1, [.int (nI 0), .int (nI 0), .null, .null])) :: wr) := hD
  refine lv_dup hx hb d_C_codeOf_68 rfl ?_
  refine lv_iload_n hx hb d_C_codeOf_69 rfl (lv_at hl 1 rfl) ?_
  refine lv_iload_n hx hb d_C_codeOf_70 rfl (lv_at hl 1 rfl) ?_
  refine lv_iconst (v := nI 4) hx hb d_C_codeOf_71 (by decide) ?_
  refine lc_Sr (As := [.int (nI M), .int (nI 4)]) (rest := [.int (nI M), .ref o, .ref o]) ⟨hx, hb, hml, hown, hts⟩ (c_C_lanesOf_4 l D g _ _ M hM hM57) (kS 2 hts m_69 m_67 m_68 m_29 (by decide +kernel) ⟨Nat.le_of_ble_eq_true rfl, Nat.le_of_ble_eq_true rfl⟩) hKK hP hD hS hA hl.1 rfl rfl (Nat.le_of_ble_eq_true rfl) d_C_codeOf_72 ⟨Nat.le_of_ble_eq_true rfl, Nat.le_of_ble_eq_true rfl⟩ (fun u1 al H locs _ hP hD hS => ?_)
  refine W.widen (k := 1 + 17) (n := 4 + 788) (by omega) (by omega) ?_
  have hP : va_P D vwCl ((u1 15, .inl (g 0, 2 ^ lr (wid M 4 3), .inl (fun s => oI (ba (lr (wid M 4 3)) (wid M 4 3) (wid M 4 3) s)))) :: (u1 14, .inl (g 0, lr (wid M 4 3), .inl (fun r => nI (rsf (lr (wid M 4 3)) (wid M 4 3) r)))) :: (u1 13, .inl (g 0, (wid M 4 3), .inl (fun j => nI (if j < wid M 4 3 then cc_ (lr (wid M 4 3)) j else 0)))) :: (u1 12, .inr (4, [.int (nI (lr (wid M 4 3))), .ref (u1 13), .ref (u1 14), .ref (u1 15)])) :: (u1 11, .inl (g 0, 2 ^ lr (wid M 4 2), .inl (fun s => oI (ba (lr (wid M 4 2)) (wid M 4 2) (wid M 4 2) s)))) :: (u1 10, .inl (g 0, lr (wid M 4 2), .inl (fun r => nI (rsf (lr (wid M 4 2)) (wid M 4 2) r)))) :: (u1 9, .inl (g 0, (wid M 4 2), .inl (fun j => nI (if j < wid M 4 2 then cc_ (lr (wid M 4 2)) j else 0)))) :: (u1 8, .inr (4, [.int (nI (lr (wid M 4 2))), .ref (u1 9), .ref (u1 10), .ref (u1 11)])) :: (u1 7, .inl (g 0, 2 ^ lr (wid M 4 1), .inl (fun s => oI (ba (lr (wid M 4 1)) (wid M 4 1) (wid M 4 1) s)))) :: (u1 6, .inl (g 0, lr (wid M 4 1), .inl (fun r => nI (rsf (lr (wid M 4 1)) (wid M 4 1) r)))) :: (u1 5, .inl (g 0, (wid M 4 1), .inl (fun j => nI (if j < wid M 4 1 then cc_ (lr (wid M 4 1)) j else 0)))) :: (u1 4, .inr (4, [.int (nI (lr (wid M 4 1))), .ref (u1 5), .ref (u1 6), .ref (u1 7)])) :: (u1 3, .inl (g 0, 2 ^ lr (wid M 4 0), .inl (fun s => oI (ba (lr (wid M 4 0)) (wid M 4 0) (wid M 4 0) s)))) :: (u1 2, .inl (g 0, lr (wid M 4 0), .inl (fun r => nI (rsf (lr (wid M 4 0)) (wid M 4 0) r)))) :: (u1 1, .inl (g 0, (wid M 4 0), .inl (fun j => nI (if j < wid M 4 0 then cc_ (lr (wid M 4 0)) j else 0)))) :: (u1 0, .inr (4, [.int (nI (lr (wid M 4 0))), .ref (u1 1), .ref (u1 2), .ref (u1 3)])) :: (al, .inl (g 3, 4, .inr (.inr (.inr (.inr (fun i => some (u1 (4 * i)))))))) :: (o, .inr (1, [.int (nI 0), .int (nI 0), .null, .null])) :: wr) H := hP
  have hD : va_D A ((u1 15, .inl (g 0, 2 ^ lr (wid M 4 3), .inl (fun s => oI (ba (lr (wid M 4 3)) (wid M 4 3) (wid M 4 3) s)))) :: (u1 14, .inl (g 0, lr (wid M 4 3), .inl (fun r => nI (rsf (lr (wid M 4 3)) (wid M 4 3) r)))) :: (u1 13, .inl (g 0, (wid M 4 3), .inl (fun j => nI (if j < wid M 4 3 then cc_ (lr (wid M 4 3)) j else 0)))) :: (u1 12, .inr (4, [.int (nI (lr (wid M 4 3))), .ref (u1 13), .ref (u1 14), .ref (u1 15)])) :: (u1 11, .inl (g 0, 2 ^ lr (wid M 4 2), .inl (fun s => oI (ba (lr (wid M 4 2)) (wid M 4 2) (wid M 4 2) s)))) :: (u1 10, .inl (g 0, lr (wid M 4 2), .inl (fun r => nI (rsf (lr (wid M 4 2)) (wid M 4 2) r)))) :: (u1 9, .inl (g 0, (wid M 4 2), .inl (fun j => nI (if j < wid M 4 2 then cc_ (lr (wid M 4 2)) j else 0)))) :: (u1 8, .inr (4, [.int (nI (lr (wid M 4 2))), .ref (u1 9), .ref (u1 10), .ref (u1 11)])) :: (u1 7, .inl (g 0, 2 ^ lr (wid M 4 1), .inl (fun s => oI (ba (lr (wid M 4 1)) (wid M 4 1) (wid M 4 1) s)))) :: (u1 6, .inl (g 0, lr (wid M 4 1), .inl (fun r => nI (rsf (lr (wid M 4 1)) (wid M 4 1) r)))) :: (u1 5, .inl (g 0, (wid M 4 1), .inl (fun j => nI (if j < wid M 4 1 then cc_ (lr (wid M 4 1)) j else 0)))) :: (u1 4, .inr (4, [.int (nI (lr (wid M 4 1))), .ref (u1 5), .ref (u1 6), .ref (u1 7)])) :: (u1 3, .inl (g 0, 2 ^ lr (wid M 4 0), .inl (fun s => oI (ba (lr (wid M 4 0)) (wid M 4 0) (wid M 4 0) s)))) :: (u1 2, .inl (g 0, lr (wid M 4 0), .inl (fun r => nI (rsf (lr (wid M 4 0)) (wid M 4 0) r)))) :: (u1 1, .inl (g 0, (wid M 4 0), .inl (fun j => nI (if j < wid M 4 0 then cc_ (lr (wid M 4 0)) j else 0)))) :: (u1 0, .inr (4, [.int (nI (lr (wid M 4 0))), .ref (u1 1), .ref (u1 2), .ref (u1 3)])) :: (al, .inl (g 3, 4, .inr (.inr (.inr (.inr (fun i => some (u1 (4 * i)))))))) :: (o, .inr (1, [.int (nI 0), .int (nI 0), .null, .null])) :: wr) := hD
  have hP : va_P D vwCl ((o, .inr (1, [.int (nI 0), .int (nI 0), .null, .null])) :: (u1 15, .inl (g 0, 2 ^ lr (wid M 4 3), .inl (fun s => oI (ba (lr (wid M 4 3)) (wid M 4 3) (wid M 4 3) s)))) :: (u1 14, .inl (g 0, lr (wid M 4 3), .inl (fun r => nI (rsf (lr (wid M 4 3)) (wid M 4 3) r)))) :: (u1 13, .inl (g 0, (wid M 4 3), .inl (fun j => nI (if j < wid M 4 3 then cc_ (lr (wid M 4 3)) j else 0)))) :: (u1 12, .inr (4, [.int (nI (lr (wid M 4 3))), .ref (u1 13), .ref (u1 14), .ref (u1 15)])) :: (u1 11, .inl (g 0, 2 ^ lr (wid M 4 2), .inl (fun s => oI (ba (lr (wid M 4 2)) (wid M 4 2) (wid M 4 2) s)))) :: (u1 10, .inl (g 0, lr (wid M 4 2), .inl (fun r => nI (rsf (lr (wid M 4 2)) (wid M 4 2) r)))) :: (u1 9, .inl (g 0, (wid M 4 2), .inl (fun j => nI (if j < wid M 4 2 then cc_ (lr (wid M 4 2)) j else 0)))) :: (u1 8, .inr (4, [.int (nI (lr (wid M 4 2))), .ref (u1 9), .ref (u1 10), .ref (u1 11)])) :: (u1 7, .inl (g 0, 2 ^ lr (wid M 4 1), .inl (fun s => oI (ba (lr (wid M 4 1)) (wid M 4 1) (wid M 4 1) s)))) :: (u1 6, .inl (g 0, lr (wid M 4 1), .inl (fun r => nI (rsf (lr (wid M 4 1)) (wid M 4 1) r)))) :: (u1 5, .inl (g 0, (wid M 4 1), .inl (fun j => nI (if j < wid M 4 1 then cc_ (lr (wid M 4 1)) j else 0)))) :: (u1 4, .inr (4, [.int (nI (lr (wid M 4 1))), .ref (u1 5), .ref (u1 6), .ref (u1 7)])) :: (u1 3, .inl (g 0, 2 ^ lr (wid M 4 0), .inl (fun s => oI (ba (lr (wid M 4 0)) (wid M 4 0) (wid M 4 0) s)))) :: (u1 2, .inl (g 0, lr (wid M 4 0), .inl (fun r => nI (rsf (lr (wid M 4 0)) (wid M 4 0) r)))) :: (u1 1, .inl (g 0, (wid M 4 0), .inl (fun j => nI (if j < wid M 4 0 then cc_ (lr (wid M 4 0)) j else 0)))) :: (u1 0, .inr (4, [.int (nI (lr (wid M 4 0))), .ref (u1 1), .ref (u1 2), .ref (u1 3)])) :: (al, .inl (g 3, 4, .inr (.inr (.inr (.inr (fun i => some (u1 (4 * i)))))))) :: wr) H := wp_pull [(u1 15, .inl (g 0, 2 ^ lr (wid M 4 3), .inl (fun s => oI (ba (lr (wid M 4 3)) (wid M 4 3) (wid M 4 3) s)))), (u1 14, .inl (g 0, lr (wid M 4 3), .inl (fun r => nI (rsf (lr (wid M 4 3)) (wid M 4 3) r)))), (u1 13, .inl (g 0, (wid M 4 3), .inl (fun j => nI (if j < wid M 4 3 then cc_ (lr (wid M 4 3)) j else 0)))), (u1 12, .inr (4, [.int (nI (lr (wid M 4 3))), .ref (u1 13), .ref (u1 14), .ref (u1 15)])), (u1 11, .inl (g 0, 2 ^ lr (wid M 4 2), .inl (fun s => oI (ba (lr (wid M 4 2)) (wid M 4 2) (wid M 4 2) s)))), (u1 10, .inl (g 0, lr (wid M 4 2), .inl (fun r => nI (rsf (lr (wid M 4 2)) (wid M 4 2) r)))), (u1 9, .inl (g 0, (wid M 4 2), .inl (fun j => nI (if j < wid M 4 2 then cc_ (lr (wid M 4 2)) j else 0)))), (u1 8, .inr (4, [.int (nI (lr (wid M 4 2))), .ref (u1 9), .ref (u1 10), .ref (u1 11)])), (u1 7, .inl (g 0, 2 ^ lr (wid M 4 1), .inl (fun s => oI (ba (lr (wid M 4 1)) (wid M 4 1) (wid M 4 1) s)))), (u1 6, .inl (g 0, lr (wid M 4 1), .inl (fun r => nI (rsf (lr (wid M 4 1)) (wid M 4 1) r)))), (u1 5, .inl (g 0, (wid M 4 1), .inl (fun j => nI (if j < wid M 4 1 then cc_ (lr (wid M 4 1)) j else 0)))), (u1 4, .inr (4, [.int (nI (lr (wid M 4 1))), .ref (u1 5), .ref (u1 6), .ref (u1 7)])), (u1 3, .inl (g 0, 2 ^ lr (wid M 4 0), .inl (fun s => oI (ba (lr (wid M 4 0)) (wid M 4 0) (wid M 4 0) s)))), (u1 2, .inl (g 0, lr (wid M 4 0), .inl (fun r => nI (rsf (lr (wid M 4 0)) (wid M 4 0) r)))), (u1 1, .inl (g 0, (wid M 4 0), .inl (fun j => nI (if j < wid M 4 0 then cc_ (lr (wid M 4 0)) j else 0)))), (u1 0, .inr (4, [.int (nI (lr (wid M 4 0))), .ref (u1 1), .ref (u1 2), .ref (u1 3)])), (al, .inl (g 3, 4, .inr (.inr (.inr (.inr (fun i => some (u1 (4 * i))))))))] hP
  have hD : va_D A ((o, .inr (1, [.int (nI 0), .int (nI 0), .null, .null])) :: (u1 15, .inl (g 0, 2 ^ lr (wid M 4 3), .inl (fun s => oI (ba (lr (wid M 4 3)) (wid M 4 3) (wid M 4 3) s)))) :: (u1 14, .inl (g 0, lr (wid M 4 3), .inl (fun r => nI (rsf (lr (wid M 4 3)) (wid M 4 3) r)))) :: (u1 13, .inl (g 0, (wid M 4 3), .inl (fun j => nI (if j < wid M 4 3 then cc_ (lr (wid M 4 3)) j else 0)))) :: (u1 12, .inr (4, [.int (nI (lr (wid M 4 3))), .ref (u1 13), .ref (u1 14), .ref (u1 15)])) :: (u1 11, .inl (g 0, 2 ^ lr (wid M 4 2), .inl (fun s => oI (ba (lr (wid M 4 2)) (wid M 4 2) (wid M 4 2) s)))) :: (u1 10, .inl (g 0, lr (wid M 4 2), .inl (fun r => nI (rsf (lr (wid M 4 2)) (wid M 4 2) r)))) :: (u1 9, .inl (g 0, (wid M 4 2), .inl (fun j => nI (if j < wid M 4 2 then cc_ (lr (wid M 4 2)) j else 0)))) :: (u1 8, .inr (4, [.int (nI (lr (wid M 4 2))), .ref (u1 9), .ref (u1 10), .ref (u1 11)])) :: (u1 7, .inl (g 0, 2 ^ lr (wid M 4 1), .inl (fun s => oI (ba (lr (wid M 4 1)) (wid M 4 1) (wid M 4 1) s)))) :: (u1 6, .inl (g 0, lr (wid M 4 1), .inl (fun r => nI (rsf (lr (wid M 4 1)) (wid M 4 1) r)))) :: (u1 5, .inl (g 0, (wid M 4 1), .inl (fun j => nI (if j < wid M 4 1 then cc_ (lr (wid M 4 1)) j else 0)))) :: (u1 4, .inr (4, [.int (nI (lr (wid M 4 1))), .ref (u1 5), .ref (u1 6), .ref (u1 7)])) :: (u1 3, .inl (g 0, 2 ^ lr (wid M 4 0), .inl (fun s => oI (ba (lr (wid M 4 0)) (wid M 4 0) (wid M 4 0) s)))) :: (u1 2, .inl (g 0, lr (wid M 4 0), .inl (fun r => nI (rsf (lr (wid M 4 0)) (wid M 4 0) r)))) :: (u1 1, .inl (g 0, (wid M 4 0), .inl (fun j => nI (if j < wid M 4 0 then cc_ (lr (wid M 4 0)) j else 0)))) :: (u1 0, .inr (4, [.int (nI (lr (wid M 4 0))), .ref (u1 1), .ref (u1 2), .ref (u1 3)])) :: (al, .inl (g 3, 4, .inr (.inr (.inr (.inr (fun i => some (u1 (4 * i)))))))) :: wr) := wd_pull [(u1 15, .inl (g 0, 2 ^ lr (wid M 4 3), .inl (fun s => oI (ba (lr (wid M 4 3)) (wid M 4 3) (wid M 4 3) s)))), (u1 14, .inl (g 0, lr (wid M 4 3), .inl (fun r => nI (rsf (lr (wid M 4 3)) (wid M 4 3) r)))), (u1 13, .inl (g 0, (wid M 4 3), .inl (fun j => nI (if j < wid M 4 3 then cc_ (lr (wid M 4 3)) j else 0)))), (u1 12, .inr (4, [.int (nI (lr (wid M 4 3))), .ref (u1 13), .ref (u1 14), .ref (u1 15)])), (u1 11, .inl (g 0, 2 ^ lr (wid M 4 2), .inl (fun s => oI (ba (lr (wid M 4 2)) (wid M 4 2) (wid M 4 2) s)))), (u1 10, .inl (g 0, lr (wid M 4 2), .inl (fun r => nI (rsf (lr (wid M 4 2)) (wid M 4 2) r)))), (u1 9, .inl (g 0, (wid M 4 2), .inl (fun j => nI (if j < wid M 4 2 then cc_ (lr (wid M 4 2)) j else 0)))), (u1 8, .inr (4, [.int (nI (lr (wid M 4 2))), .ref (u1 9), .ref (u1 10), .ref (u1 11)])), (u1 7, .inl (g 0, 2 ^ lr (wid M 4 1), .inl (fun s => oI (ba (lr (wid M 4 1)) (wid M 4 1) (wid M 4 1) s)))), (u1 6, .inl (g 0, lr (wid M 4 1), .inl (fun r => nI (rsf (lr (wid M 4 1)) (wid M 4 1) r)))), (u1 5, .inl (g 0, (wid M 4 1), .inl (fun j => nI (if j < wid M 4 1 then cc_ (lr (wid M 4 1)) j else 0)))), (u1 4, .inr (4, [.int (nI (lr (wid M 4 1))), .ref (u1 5), .ref (u1 6), .ref (u1 7)])), (u1 3, .inl (g 0, 2 ^ lr (wid M 4 0), .inl (fun s => oI (ba (lr (wid M 4 0)) (wid M 4 0) (wid M 4 0) s)))), (u1 2, .inl (g 0, lr (wid M 4 0), .inl (fun r => nI (rsf (lr (wid M 4 0)) (wid M 4 0) r)))), (u1 1, .inl (g 0, (wid M 4 0), .inl (fun j => nI (if j < wid M 4 0 then cc_ (lr (wid M 4 0)) j else 0)))), (u1 0, .inr (4, [.int (nI (lr (wid M 4 0))), .ref (u1 1), .ref (u1 2), .ref (u1 3)])), (al, .inl (g 3, 4, .inr (.inr (.inr (.inr (fun i => some (u1 (4 * i))))))))] hD
  refine lc_Iv (b := o) (As := [.int (nI M), .ref al]) (rest := [.ref o]) ⟨hx, hb, hml, hown, hts⟩ (c_S_init l D g _ _ M 4 o hM57 (by decide) 16 al (fun i => some (u1 (4 * i))) (fun i => 12 - 4 * i + 3) (fun i => 12 - 4 * i + 2) (fun i => 12 - 4 * i + 1) (fun i => 12 - 4 * i + 0) (fun i => u1 (4 * i)) (fun i => u1 (4 * i + 1)) (fun i => u1 (4 * i + 2)) (fun i => u1 (4 * i + 3)) rfl (fun i _ => rfl) (fun i hi => by rcases (show i = 0 ∨ i = 1 ∨ i = 2 ∨ i = 3 by omega) with rfl | rfl | rfl | rfl <;> rfl) (fun i hi => by rcases (show i = 0 ∨ i = 1 ∨ i = 2 ∨ i = 3 by omega) with rfl | rfl | rfl | rfl <;> rfl)) (kI 2 hts m_120 m_118 m_119 m_32 rfl (by decide +kernel) ⟨Nat.le_of_ble_eq_true rfl, Nat.le_of_ble_eq_true rfl⟩) hKK hP hD hS hA hl.1 rfl rfl (Nat.le_of_ble_eq_true rfl) d_C_codeOf_75 ⟨by first | omega | exact Nat.le_of_ble_eq_true rfl, by first | omega | exact Nat.le_of_ble_eq_true rfl⟩ (fun am H locs _ hP hD hS => ?_)
  refine W.widen (k := 1 + 17 + 1) (n := 4 + 788 + 57) (by omega) (by omega) ?_
  have hP : va_P D vwCl ((o, .inr (1, [.int (nI M), .int (nI (frm M 4 4)), .ref am, .ref al])) :: (am, .inl (g 0, M, .inl (fun k => nI (mkS M 4 k)))) :: (u1 15, .inl (g 0, 2 ^ lr (wid M 4 3), .inl (fun s => oI (ba (lr (wid M 4 3)) (wid M 4 3) (wid M 4 3) s)))) :: (u1 14, .inl (g 0, lr (wid M 4 3), .inl (fun r => nI (rsf (lr (wid M 4 3)) (wid M 4 3) r)))) :: (u1 13, .inl (g 0, (wid M 4 3), .inl (fun j => nI (if j < wid M 4 3 then cc_ (lr (wid M 4 3)) j else 0)))) :: (u1 12, .inr (4, [.int (nI (lr (wid M 4 3))), .ref (u1 13), .ref (u1 14), .ref (u1 15)])) :: (u1 11, .inl (g 0, 2 ^ lr (wid M 4 2), .inl (fun s => oI (ba (lr (wid M 4 2)) (wid M 4 2) (wid M 4 2) s)))) :: (u1 10, .inl (g 0, lr (wid M 4 2), .inl (fun r => nI (rsf (lr (wid M 4 2)) (wid M 4 2) r)))) :: (u1 9, .inl (g 0, (wid M 4 2), .inl (fun j => nI (if j < wid M 4 2 then cc_ (lr (wid M 4 2)) j else 0)))) :: (u1 8, .inr (4, [.int (nI (lr (wid M 4 2))), .ref (u1 9), .ref (u1 10), .ref (u1 11)])) :: (u1 7, .inl (g 0, 2 ^ lr (wid M 4 1), .inl (fun s => oI (ba (lr (wid M 4 1)) (wid M 4 1) (wid M 4 1) s)))) :: (u1 6, .inl (g 0, lr (wid M 4 1), .inl (fun r => nI (rsf (lr (wid M 4 1)) (wid M 4 1) r)))) :: (u1 5, .inl (g 0, (wid M 4 1), .inl (fun j => nI (if j < wid M 4 1 then cc_ (lr (wid M 4 1)) j else 0)))) :: (u1 4, .inr (4, [.int (nI (lr (wid M 4 1))), .ref (u1 5), .ref (u1 6), .ref (u1 7)])) :: (u1 3, .inl (g 0, 2 ^ lr (wid M 4 0), .inl (fun s => oI (ba (lr (wid M 4 0)) (wid M 4 0) (wid M 4 0) s)))) :: (u1 2, .inl (g 0, lr (wid M 4 0), .inl (fun r => nI (rsf (lr (wid M 4 0)) (wid M 4 0) r)))) :: (u1 1, .inl (g 0, (wid M 4 0), .inl (fun j => nI (if j < wid M 4 0 then cc_ (lr (wid M 4 0)) j else 0)))) :: (u1 0, .inr (4, [.int (nI (lr (wid M 4 0))), .ref (u1 1), .ref (u1 2), .ref (u1 3)])) :: (al, .inl (g 3, 4, .inr (.inr (.inr (.inr (fun i => some (u1 (4 * i)))))))) :: wr) H := hP
  have hD : va_D A ((o, .inr (1, [.int (nI M), .int (nI (frm M 4 4)), .ref am, .ref al])) :: (am, .inl (g 0, M, .inl (fun k => nI (mkS M 4 k)))) :: (u1 15, .inl (g 0, 2 ^ lr (wid M 4 3), .inl (fun s => oI (ba (lr (wid M 4 3)) (wid M 4 3) (wid M 4 3) s)))) :: (u1 14, .inl (g 0, lr (wid M 4 3), .inl (fun r => nI (rsf (lr (wid M 4 3)) (wid M 4 3) r)))) :: (u1 13, .inl (g 0, (wid M 4 3), .inl (fun j => nI (if j < wid M 4 3 then cc_ (lr (wid M 4 3)) j else 0)))) :: (u1 12, .inr (4, [.int (nI (lr (wid M 4 3))), .ref (u1 13), .ref (u1 14), .ref (u1 15)])) :: (u1 11, .inl (g 0, 2 ^ lr (wid M 4 2), .inl (fun s => oI (ba (lr (wid M 4 2)) (wid M 4 2) (wid M 4 2) s)))) :: (u1 10, .inl (g 0, lr (wid M 4 2), .inl (fun r => nI (rsf (lr (wid M 4 2)) (wid M 4 2) r)))) :: (u1 9, .inl (g 0, (wid M 4 2), .inl (fun j => nI (if j < wid M 4 2 then cc_ (lr (wid M 4 2)) j else 0)))) :: (u1 8, .inr (4, [.int (nI (lr (wid M 4 2))), .ref (u1 9), .ref (u1 10), .ref (u1 11)])) :: (u1 7, .inl (g 0, 2 ^ lr (wid M 4 1), .inl (fun s => oI (ba (lr (wid M 4 1)) (wid M 4 1) (wid M 4 1) s)))) :: (u1 6, .inl (g 0, lr (wid M 4 1), .inl (fun r => nI (rsf (lr (wid M 4 1)) (wid M 4 1) r)))) :: (u1 5, .inl (g 0, (wid M 4 1), .inl (fun j => nI (if j < wid M 4 1 then cc_ (lr (wid M 4 1)) j else 0)))) :: (u1 4, .inr (4, [.int (nI (lr (wid M 4 1))), .ref (u1 5), .ref (u1 6), .ref (u1 7)])) :: (u1 3, .inl (g 0, 2 ^ lr (wid M 4 0), .inl (fun s => oI (ba (lr (wid M 4 0)) (wid M 4 0) (wid M 4 0) s)))) :: (u1 2, .inl (g 0, lr (wid M 4 0), .inl (fun r => nI (rsf (lr (wid M 4 0)) (wid M 4 0) r)))) :: (u1 1, .inl (g 0, (wid M 4 0), .inl (fun j => nI (if j < wid M 4 0 then cc_ (lr (wid M 4 0)) j else 0)))) :: (u1 0, .inr (4, [.int (nI (lr (wid M 4 0))), .ref (u1 1), .ref (u1 2), .ref (u1 3)])) :: (al, .inl (g 3, 4, .inr (.inr (.inr (.inr (fun i => some (u1 (4 * i)))))))) :: wr) := hD
  refine W.widen (k := 19) (n := 849) (by omega) (by omega) ?_
  rw [← hQ]
  refine W.aret (v := .ref o) hx hb hr (by first | exact Or.inl ⟨_, rfl⟩ | exact Or.inr ⟨_, rfl⟩) (Or.inr ⟨_, rfl⟩) ?_ hS.2.2 d_C_codeOf_78
  exact fun t ht hW => ⟨⟨(u1, al, am), o, rfl, trivial, by rw [ht]; exact hP, hD⟩, hS.F ht⟩
set_option maxHeartbeats 4000000 in
set_option maxRecDepth 100000 in
theorem c_T_init (l : Launch) (D : va_G) (g : Nat → ClassId) (sz : Nat) (wr : va_W) (o : Nat) : Met l y_T_init w_T_init rm_T_init (va_Pc [.ref o] (pP D (tyl g) ((o, .inr (5, [.long (lN 0), .int (nI 0)])) :: wr) sz)) (va_Qv (fun (u : Unit) => True) (fun u => qB D (va_A ((o, .inr (5, [.long (lN 0), .int (nI 0)])) :: wr) sz) ((o, .inr (5, [.long (lN 0), .int (nI 0)])) :: wr)) (va_A ((o, .inr (5, [.long (lN 0), .int (nI 0)])) :: wr) sz)) 0 0 (va_A ((o, .inr (5, [.long (lN 0), .int (nI 0)])) :: wr) sz) := by
  refine Met.ofW (cc := b_T_init) (maxL := 1) (ret := none) (by decide +kernel) rfl ?_
  intro p e s m args below meth c s₁ Bq hml hv
  have hx := Bq.exec
  have hb := Bq.bytes
  have hr := Bq.returns
  have hts : ∀ w ∈ wA, w.before args s = true := fun w h => atoms_spec (ws := w_T_init) Bq.pre w (List.mem_cons_of_mem _ h)
  have hown : s.vm.findClass R_T = some m.cls := findClass_of_methodNamed Bq.named
  have hlocks := Bq.notSynchronized
  have hin : meth.name = "<init>" := (name_of_methodNamed Bq.named Bq.method).1
  obtain ⟨rfl, hsz, hP, hKK, hD0⟩ := hv
  have hK := hKK.1
  subst hsz
  have hD := hD0.self (sz := s.heap.size)
  generalize hAe : va_A ((o, .inr (5, [.long (lN 0), .int (nI 0)])) :: wr) s.heap.size = A at hD ⊢
  have hA : ∀ q : Nat, s.heap.size ≤ q → A q := fun q h => by rw [← hAe]; exact Or.inr h
  have hS : va_S A s.heap s.heap [] := va_S.rf
  have hl := lv_entry ([.ref o]) (n := 1) (Nat.le_of_ble_eq_true rfl)
  rw [lg_entry_eq]
  generalize (lg_sl ([.ref o]) ++ List.replicate (1 - (lg_sl ([.ref o])).length) Slot.unset).toArray = ls at hl ⊢
  have hl : lv_has ls 1 [(0, .ref o)] := hl
  generalize hQ : MQ below (va_Qv (fun (u : Unit) => True) (fun u => qB D (A) ((o, .inr (5, [.long (lN 0), .int (nI 0)])) :: wr)) (A)) [.ref o].toArray s 0 0 A = Q
  refine lv_aload_n hx hb d_T_init_0 rfl (lv_at hl 0 rfl) ?_
  refine W.objInit hx hb hown (hts _ m_189) (hts _ m_53) (hts _ m_54) rfl (by rw [hml]; exact hl.1) rfl d_T_init_1 (Nat.le_of_ble_eq_true rfl) (Nat.le_of_ble_eq_true rfl) ?_
  refine W.eq (g2 := F0 m 4 ls []) rfl ?_
  rw [← hQ]
  refine W.vret hx hb hr ?_ hS.2.2 d_T_init_4
  exact fun t ht hW => ⟨⟨(), rfl, trivial, by rw [ht]; exact hP, hD⟩, hS.F ht⟩
end
section
/-- a code of sums with n lanes, one of parities, one of nibbles: its object o and all that belongs to it, somewhere in ws -/
def SumW (g : Nat → ClassId) (M n0 o : Nat) (ws : va_W) : Prop := ∃ (k0 k1 am kl al : Nat) (lf : Nat → Option Nat) (kL kc kr kb la ca ra ba9 : Nat → Nat),
  ws[k0]? = some (o, .inr (1, [.int (nI M), .int (nI (frm M n0 n0)), .ref am, .ref al])) ∧ ws[k1]? = some (am, .inl (g 0, M, .inl (fun k => nI (mkS M n0 k)))) ∧ ws[kl]? = some (al, .inl (g 3, n0, .inr (.inr (.inr (.inr lf))))) ∧ (∀ i, i < n0 → lf i = some (la i)) ∧
  (∀ i, i < n0 → ws[kL i]? = some (la i, .inr (4, [.int (nI (lr (wid M n0 i))), .ref (ca i), .ref (ra i), .ref (ba9 i)]))) ∧
  (∀ i, i < n0 → ws[kc i]? = some (ca i, .inl (g 0, wid M n0 i, .inl (fun j => nI (if j < wid M n0 i then cc_ (lr (wid M n0 i)) j else 0))))) ∧
  (∀ i, i < n0 → ws[kr i]? = some (ra i, .inl (g 0, lr (wid M n0 i), .inl (fun r => nI (rsf (lr (wid M n0 i)) (wid M n0 i) r))))) ∧
  (∀ i, i < n0 → ws[kb i]? = some (ba9 i, .inl (g 0, 2 ^ lr (wid M n0 i), .inl (fun s => oI (ba (lr (wid M n0 i)) (wid M n0 i) (wid M n0 i) s)))))
def ParW (g : Nat → ClassId) (M o : Nat) (ws : va_W) : Prop := ∃ (k0 k1 am : Nat), ws[k0]? = some (o, .inr (2, [.int (nI M), .int (nI (min M 4)), .ref am])) ∧ ws[k1]? = some (am, .inl (g 0, M, .inl (fun j => nI (if j < M then mkP (min M 4) j else 0))))
def NibW (g : Nat → ClassId) (M o : Nat) (ws : va_W) : Prop := ∃ (k0 k1 am : Nat), ws[k0]? = some (o, .inr (3, [.int (nI M), .int (nI 12), .ref am])) ∧ ws[k1]? = some (am, .inl (g 0, M, .inl (fun j => nI (if j < M then mkN j else 0))))
def CodeW (g : Nat → ClassId) (kd M o : Nat) (ws : va_W) : Prop := (kd = 0 ∧ SumW g M 1 o ws) ∨ (kd = 1 ∧ ParW g M o ws) ∨ (kd = 2 ∧ NibW g M o ws) ∨ (kd = 3 ∧ SumW g M 4 o ws)
/-- how many bits a check has -/
def ckb (kd M : Nat) : Nat := if kd = 0 then frm M 1 1 else if kd = 1 then min M 4 else if kd = 2 then 12 else frm M 4 4
def mrk (kd M k : Nat) : Nat := if kd = 0 then mkS M 1 k else if kd = 1 then (if k < M then mkP (min M 4) k else 0) else if kd = 2 then (if k < M then mkN k else 0) else mkS M 4 k
theorem ckb_le (kd M : Nat) : ckb kd M ≤ 28 := by
  unfold ckb
  have h1 := frm_le (M := M) (n := 1) 1
  have h4 := frm_le (M := M) (n := 4) 4
  (repeat' split) <;> omega
theorem CodeW.by {g : Nat → ClassId} {kd M o : Nat} {ws ws' : va_W} (h : CodeW g kd M o ws) (f : Nat → Nat) (hf : ∀ (k : Nat) (q : Nat × va_E), ws[k]? = some q → ws'[f k]? = some q) : CodeW g kd M o ws' := by
  have hs : ∀ n, SumW g M n o ws → SumW g M n o ws' := by
    rintro n ⟨k0, k1, am, kl, al, lf, kL, kc, kr, kb, la, ca, ra, ba9, h1, h2, h3, h4, h5, h6, h7, h8⟩
    exact ⟨f k0, f k1, am, f kl, al, lf, fun i => f (kL i), fun i => f (kc i), fun i => f (kr i), fun i => f (kb i), la, ca, ra, ba9, hf _ _ h1, hf _ _ h2, hf _ _ h3, h4, fun i hi => hf _ _ (h5 i hi), fun i hi => hf _ _ (h6 i hi), fun i hi => hf _ _ (h7 i hi), fun i hi => hf _ _ (h8 i hi)⟩
  rcases h with ⟨e, h⟩ | ⟨e, h⟩ | ⟨e, h⟩ | ⟨e, h⟩
  · exact Or.inl ⟨e, hs 1 h⟩
  · obtain ⟨k0, k1, am, h1, h2⟩ := h
    exact Or.inr (Or.inl ⟨e, f k0, f k1, am, hf _ _ h1, hf _ _ h2⟩)
  · obtain ⟨k0, k1, am, h1, h2⟩ := h
    exact Or.inr (Or.inr (Or.inl ⟨e, f k0, f k1, am, hf _ _ h1, hf _ _ h2⟩))
  · exact Or.inr (Or.inr (Or.inr ⟨e, hs 4 h⟩))
theorem CodeW.cons {g : Nat → ClassId} {kd M o : Nat} {ws : va_W} (x : Nat × va_E) (h : CodeW g kd M o ws) : CodeW g kd M o (x :: ws) := h.by (fun k => k + 1) (fun _ _ h => h)
theorem CodeW.app {g : Nat → ClassId} {kd M o : Nat} {ws : va_W} (wr : va_W) (h : CodeW g kd M o ws) : CodeW g kd M o (ws ++ wr) := h.by (fun k => k) (fun k q hk => by rw [List.getElem?_append_left (List.getElem?_eq_some_iff.mp hk).1]; exact hk)
end
section
theorem m_52 : Cond.methodLink R_C 1 objectInit ∈ wA := in_wA (List.mem_of_getElem? (i := 52) rfl) rfl
theorem m_55 : Cond.constantLong R_C 9 57 ∈ wA := in_wA (List.mem_of_getElem? (i := 55) rfl) rfl
theorem m_58 : Cond.code y_JM_floorMod b_JM_floorMod 6 (some .long) ∈ wA := in_wA (List.mem_of_getElem? (i := 58) rfl) rfl
theorem m_56 : Cond.methodLink R_C 11 y_JM_floorMod ∈ wA := in_wA (List.mem_of_getElem? (i := 56) rfl) rfl
theorem m_57 : Cond.static y_JM_floorMod ∈ wA := in_wA (List.mem_of_getElem? (i := 57) rfl) rfl
theorem m_204 : Cond.fieldLink R_C 17 R_C "wordBits" "I" ∈ wA := in_wA (List.mem_of_getElem? (i := 204) rfl) rfl
theorem m_61 : Cond.code y_JM_floorMod2 b_JM_floorMod2 3 (some .int) ∈ wA := in_wA (List.mem_of_getElem? (i := 61) rfl) rfl
theorem m_59 : Cond.methodLink R_C 21 y_JM_floorMod2 ∈ wA := in_wA (List.mem_of_getElem? (i := 59) rfl) rfl
theorem m_60 : Cond.static y_JM_floorMod2 ∈ wA := in_wA (List.mem_of_getElem? (i := 60) rfl) rfl
theorem m_203 : Cond.fieldLink R_C 24 R_C "kind" "I" ∈ wA := in_wA (List.mem_of_getElem? (i := 203) rfl) rfl
theorem m_64 : Cond.code y_C_codeOf b_C_codeOf 2 (some (.object "CheckCodes$Code")) ∈ wA := in_wA (List.mem_of_getElem? (i := 64) rfl) rfl
theorem m_62 : Cond.methodLink R_C 27 y_C_codeOf ∈ wA := in_wA (List.mem_of_getElem? (i := 62) rfl) rfl
theorem m_63 : Cond.static y_C_codeOf ∈ wA := in_wA (List.mem_of_getElem? (i := 63) rfl) rfl
theorem m_208 : Cond.fieldLink R_C 31 R_C "code" "LCheckCodes$Code;" ∈ wA := in_wA (List.mem_of_getElem? (i := 208) rfl) rfl
theorem m_138 : Cond.fieldLink R_C 35 R_K "checkBits" "I" ∈ wA := in_wA (List.mem_of_getElem? (i := 138) rfl) rfl
theorem m_205 : Cond.fieldLink R_C 40 R_C "storedBits" "I" ∈ wA := in_wA (List.mem_of_getElem? (i := 205) rfl) rfl
theorem m_206 : Cond.fieldLink R_C 43 R_C "wordMask" "J" ∈ wA := in_wA (List.mem_of_getElem? (i := 206) rfl) rfl
theorem m_207 : Cond.fieldLink R_C 47 R_C "checkMask" "I" ∈ wA := in_wA (List.mem_of_getElem? (i := 207) rfl) rfl
theorem m_184 : Cond.classLink R_C 50 R_T ∈ wA := in_wA (List.mem_of_getElem? (i := 184) rfl) rfl
theorem m_185 : Cond.instantiable R_T 2 ∈ wA := in_wA (List.mem_of_getElem? (i := 185) rfl) rfl
theorem m_188 : Cond.code y_T_init b_T_init 1 none ∈ wA := in_wA (List.mem_of_getElem? (i := 188) rfl) rfl
theorem m_187 : Cond.instanceMethod y_T_init ∈ wA := in_wA (List.mem_of_getElem? (i := 187) rfl) rfl
theorem m_209 : Cond.fieldLink R_C 53 R_C "turn" "LCheckCodes$Turn;" ∈ wA := in_wA (List.mem_of_getElem? (i := 209) rfl) rfl
theorem m_215 : Cond.fieldLink R_C 57 R_C "answerCounts" "[I" ∈ wA := in_wA (List.mem_of_getElem? (i := 215) rfl) rfl
theorem m_217 : Cond.fieldLink R_C 61 R_C "longestMendedBurst" "I" ∈ wA := in_wA (List.mem_of_getElem? (i := 217) rfl) rfl
theorem m_218 : Cond.fieldLink R_C 64 R_C "sparedRows" "[I" ∈ wA := in_wA (List.mem_of_getElem? (i := 218) rfl) rfl
abbrev w_C_init : List Cond := .code y_C_init b_C_init 3 none :: wA
abbrev rm_C_init : Room := { frames := 6, cells := 23, slots := 884, locals := 140 }
theorem d_C_init_0 : decode b_C_init 0 = .ok (.aload_n 0, 1) := by decide +kernel
theorem d_C_init_1 : decode b_C_init 1 = .ok (.invokespecial 1, 3) := by decide +kernel
theorem d_C_init_4 : decode b_C_init 4 = .ok (.aload_n 0, 1) := by decide +kernel
theorem d_C_init_5 : decode b_C_init 5 = .ok (.iconst 1, 1) := by decide +kernel
theorem d_C_init_6 : decode b_C_init 6 = .ok (.iload_n 1, 1) := by decide +kernel
theorem d_C_init_7 : decode b_C_init 7 = .ok (.i2l, 1) := by decide +kernel
theorem d_C_init_8 : decode b_C_init 8 = .ok (.lconst 1, 1) := by decide +kernel
theorem d_C_init_9 : decode b_C_init 9 = .ok (.lsub, 1) := by decide +kernel
theorem d_C_init_10 : decode b_C_init 10 = .ok (.ldc2_w 9, 3) := by decide +kernel
theorem d_C_init_13 : decode b_C_init 13 = .ok (.invokestatic 11, 3) := by decide +kernel
theorem d_C_init_16 : decode b_C_init 16 = .ok (.l2i, 1) := by decide +kernel
theorem d_C_init_17 : decode b_C_init 17 = .ok (.iadd, 1) := by decide +kernel
theorem d_C_init_18 : decode b_C_init 18 = .ok (.putfield 17, 3) := by decide +kernel
theorem d_C_init_21 : decode b_C_init 21 = .ok (.aload_n 0, 1) := by decide +kernel
theorem d_C_init_22 : decode b_C_init 22 = .ok (.iload_n 2, 1) := by decide +kernel
theorem d_C_init_23 : decode b_C_init 23 = .ok (.iconst 4, 1) := by decide +kernel
theorem d_C_init_24 : decode b_C_init 24 = .ok (.invokestatic 21, 3) := by decide +kernel
theorem d_C_init_27 : decode b_C_init 27 = .ok (.putfield 24, 3) := by decide +kernel
theorem d_C_init_30 : decode b_C_init 30 = .ok (.aload_n 0, 1) := by decide +kernel
theorem d_C_init_31 : decode b_C_init 31 = .ok (.aload_n 0, 1) := by decide +kernel
theorem d_C_init_32 : decode b_C_init 32 = .ok (.getfield 24, 3) := by decide +kernel
theorem d_C_init_35 : decode b_C_init 35 = .ok (.aload_n 0, 1) := by decide +kernel
theorem d_C_init_36 : decode b_C_init 36 = .ok (.getfield 17, 3) := by decide +kernel
theorem d_C_init_39 : decode b_C_init 39 = .ok (.invokestatic 27, 3) := by decide +kernel
theorem d_C_init_42 : decode b_C_init 42 = .ok (.putfield 31, 3) := by decide +kernel
theorem d_C_init_45 : decode b_C_init 45 = .ok (.aload_n 0, 1) := by decide +kernel
theorem d_C_init_46 : decode b_C_init 46 = .ok (.aload_n 0, 1) := by decide +kernel
theorem d_C_init_47 : decode b_C_init 47 = .ok (.getfield 17, 3) := by decide +kernel
theorem d_C_init_50 : decode b_C_init 50 = .ok (.aload_n 0, 1) := by decide +kernel
theorem d_C_init_51 : decode b_C_init 51 = .ok (.getfield 31, 3) := by decide +kernel
theorem d_C_init_54 : decode b_C_init 54 = .ok (.getfield 35, 3) := by decide +kernel
theorem d_C_init_57 : decode b_C_init 57 = .ok (.iadd, 1) := by decide +kernel
theorem d_C_init_58 : decode b_C_init 58 = .ok (.putfield 40, 3) := by decide +kernel
theorem d_C_init_61 : decode b_C_init 61 = .ok (.aload_n 0, 1) := by decide +kernel
theorem d_C_init_62 : decode b_C_init 62 = .ok (.lconst 1, 1) := by decide +kernel
theorem d_C_init_63 : decode b_C_init 63 = .ok (.aload_n 0, 1) := by decide +kernel
theorem d_C_init_64 : decode b_C_init 64 = .ok (.getfield 17, 3) := by decide +kernel
theorem d_C_init_67 : decode b_C_init 67 = .ok (.lshl, 1) := by decide +kernel
theorem d_C_init_68 : decode b_C_init 68 = .ok (.lconst 1, 1) := by decide +kernel
theorem d_C_init_69 : decode b_C_init 69 = .ok (.lsub, 1) := by decide +kernel
theorem d_C_init_70 : decode b_C_init 70 = .ok (.putfield 43, 3) := by decide +kernel
theorem d_C_init_73 : decode b_C_init 73 = .ok (.aload_n 0, 1) := by decide +kernel
theorem d_C_init_74 : decode b_C_init 74 = .ok (.iconst 1, 1) := by decide +kernel
theorem d_C_init_75 : decode b_C_init 75 = .ok (.aload_n 0, 1) := by decide +kernel
theorem d_C_init_76 : decode b_C_init 76 = .ok (.getfield 31, 3) := by decide +kernel
theorem d_C_init_79 : decode b_C_init 79 = .ok (.getfield 35, 3) := by decide +kernel
theorem d_C_init_82 : decode b_C_init 82 = .ok (.ishl, 1) := by decide +kernel
theorem d_C_init_83 : decode b_C_init 83 = .ok (.iconst 1, 1) := by decide +kernel
theorem d_C_init_84 : decode b_C_init 84 = .ok (.isub, 1) := by decide +kernel
theorem d_C_init_85 : decode b_C_init 85 = .ok (.putfield 47, 3) := by decide +kernel
theorem d_C_init_88 : decode b_C_init 88 = .ok (.aload_n 0, 1) := by decide +kernel
theorem d_C_init_89 : decode b_C_init 89 = .ok (.new 50, 3) := by decide +kernel
theorem d_C_init_92 : decode b_C_init 92 = .ok (.dup, 1) := by decide +kernel
theorem d_C_init_93 : decode b_C_init 93 = .ok (.invokespecial 52, 3) := by decide +kernel
theorem d_C_init_96 : decode b_C_init 96 = .ok (.putfield 53, 3) := by decide +kernel
theorem d_C_init_99 : decode b_C_init 99 = .ok (.aload_n 0, 1) := by decide +kernel
theorem d_C_init_100 : decode b_C_init 100 = .ok (.bipush 8, 2) := by decide +kernel
theorem d_C_init_102 : decode b_C_init 102 = .ok (.newarray .int, 2) := by decide +kernel
theorem d_C_init_104 : decode b_C_init 104 = .ok (.putfield 57, 3) := by decide +kernel
theorem d_C_init_107 : decode b_C_init 107 = .ok (.aload_n 0, 1) := by decide +kernel
theorem d_C_init_108 : decode b_C_init 108 = .ok (.iconst (-1), 1) := by decide +kernel
theorem d_C_init_109 : decode b_C_init 109 = .ok (.putfield 61, 3) := by decide +kernel
theorem d_C_init_112 : decode b_C_init 112 = .ok (.aload_n 0, 1) := by decide +kernel
theorem d_C_init_113 : decode b_C_init 113 = .ok (.bipush 8, 2) := by decide +kernel
theorem d_C_init_115 : decode b_C_init 115 = .ok (.newarray .int, 2) := by decide +kernel
theorem d_C_init_117 : decode b_C_init 117 = .ok (.putfield 64, 3) := by decide +kernel
theorem d_C_init_120 : decode b_C_init 120 = .ok (.return_, 1) := by decide +kernel
set_option maxHeartbeats 4000000 in
set_option maxRecDepth 100000 in
theorem c_C_init_0 (l : Launch) (D : va_G) (g : Nat → ClassId) (sz : Nat) (wr : va_W) (o : Nat) (b0 k0 : Int32) (M : Nat) (hMd : M = mOf b0) (hkd : kdOf k0 = 0) : Met l y_C_init w_C_init rm_C_init (va_Pc [.ref o, .int (b0), .int (k0)] (pP D (tyl g) ((o, .inr (0, [.int (nI 0), .int (nI 0), .int (nI 0), .long (lN 0), .int (nI 0), .null, .null, .int (nI 0), .int (nI 0), .long (lN 0), .int (nI 0), .int (nI 0), .null, .int (nI 0), .int (nI 0), .null, .int (nI 0)])) :: wr) sz)) (va_Qv (fun (u : (Nat × Nat × Nat × Nat × va_W)) => CodeW g 0 M u.2.2.2.1 u.2.2.2.2) (fun u => qB D (va_A ((o, .inr (0, [.int (nI 0), .int (nI 0), .int (nI 0), .long (lN 0), .int (nI 0), .null, .null, .int (nI 0), .int (nI 0), .long (lN 0), .int (nI 0), .int (nI 0), .null, .int (nI 0), .int (nI 0), .null, .int (nI 0)])) :: wr) sz) ((u.1, .inr (5, [.long (lN 0), .int (nI 0)])) :: (o, .inr (0, [.int (nI 0), .int (nI M), .int (nI (M + (frm M 1 1))), .long (lN (2 ^ M - 1)), .int (nI (2 ^ (frm M 1 1) - 1)), .ref u.2.2.2.1, .ref u.1, .int (nI 0), .int (nI 0), .long (lN 0), .int (nI 0), .int (nI 0), .ref u.2.1, .int (nI 0), .int ((-1)), .ref u.2.2.1, .int (nI 0)])) :: (u.2.1, .inl (g 0, 8, .inl (fun _ => nI 0))) :: (u.2.2.1, .inl (g 0, 8, .inl (fun _ => nI 0))) :: (u.2.2.2.2 ++ wr))) (va_A ((o, .inr (0, [.int (nI 0), .int (nI 0), .int (nI 0), .long (lN 0), .int (nI 0), .null, .null, .int (nI 0), .int (nI 0), .long (lN 0), .int (nI 0), .int (nI 0), .null, .int (nI 0), .int (nI 0), .null, .int (nI 0)])) :: wr) sz)) 23 884 (va_A ((o, .inr (0, [.int (nI 0), .int (nI 0), .int (nI 0), .long (lN 0), .int (nI 0), .null, .null, .int (nI 0), .int (nI 0), .long (lN 0), .int (nI 0), .int (nI 0), .null, .int (nI 0), .int (nI 0), .null, .int (nI 0)])) :: wr) sz) := by
  refine Met.ofW (cc := b_C_init) (maxL := 3) (ret := none) (by decide +kernel) rfl ?_
  intro p e s m args below meth c s₁ Bq hml hv
  have hx := Bq.exec
  have hb := Bq.bytes
  have hr := Bq.returns
  have hts : ∀ w ∈ wA, w.before args s = true := fun w h => atoms_spec (ws := w_C_init) Bq.pre w (List.mem_cons_of_mem _ h)
  have hown : s.vm.findClass R_C = some m.cls := findClass_of_methodNamed Bq.named
  have hlocks := Bq.notSynchronized
  have hin : meth.name = "<init>" := (name_of_methodNamed Bq.named Bq.method).1
  obtain ⟨rfl, hsz, hP, hKK, hD0⟩ := hv
  have hK := hKK.1
  subst hsz
  have hD := hD0.self (sz := s.heap.size)
  generalize hAe : va_A ((o, .inr (0, [.int (nI 0), .int (nI 0), .int (nI 0), .long (lN 0), .int (nI 0), .null, .null, .int (nI 0), .int (nI 0), .long (lN 0), .int (nI 0), .int (nI 0), .null, .int (nI 0), .int (nI 0), .null, .int (nI 0)])) :: wr) s.heap.size = A at hD ⊢
  have hA : ∀ q : Nat, s.heap.size ≤ q → A q := fun q h => by rw [← hAe]; exact Or.inr h
  have hS : va_S A s.heap s.heap [] := va_S.rf
  have hl := lv_entry ([.ref o, .int (b0), .int (k0)]) (n := 3) (Nat.le_of_ble_eq_true rfl)
  rw [lg_entry_eq]
  generalize (lg_sl ([.ref o, .int (b0), .int (k0)]) ++ List.replicate (3 - (lg_sl ([.ref o, .int (b0), .int (k0)])).length) Slot.unset).toArray = ls at hl ⊢
  have hl : lv_has ls 3 [(0, .ref o), (1, .int (b0)), (2, .int (k0))] := hl
  generalize hQ : MQ below (va_Qv (fun (u : (Nat × Nat × Nat × Nat × va_W)) => CodeW g 0 M u.2.2.2.1 u.2.2.2.2) (fun u => qB D (A) ((u.1, .inr (5, [.long (lN 0), .int (nI 0)])) :: (o, .inr (0, [.int (nI 0), .int (nI M), .int (nI (M + (frm M 1 1))), .long (lN (2 ^ M - 1)), .int (nI (2 ^ (frm M 1 1) - 1)), .ref u.2.2.2.1, .ref u.1, .int (nI 0), .int (nI 0), .long (lN 0), .int (nI 0), .int (nI 0), .ref u.2.1, .int (nI 0), .int ((-1)), .ref u.2.2.1, .int (nI 0)])) :: (u.2.1, .inl (g 0, 8, .inl (fun _ => nI 0))) :: (u.2.2.1, .inl (g 0, 8, .inl (fun _ => nI 0))) :: (u.2.2.2.2 ++ wr))) (A)) [.ref o, .int (b0), .int (k0)].toArray s 23 884 A = Q
  have hRc : (headSpec w_C_init rm_C_init).room.cells = 23 := rfl
  have hRs : (headSpec w_C_init rm_C_init).room.slots = 884 := rfl
  have hMi : 0 < M ∧ M ≤ 57 := by rw [hMd]; exact mOf_in b0
  have hck : frm M 1 1 ≤ 28 := ckb_le 0 M
  have bl := b0.le_toInt
  have bu := b0.toInt_lt
  have hi1 := i2l_1 b0
  refine lv_aload_n hx hb d_C_init_0 rfl (lv_at hl 0 rfl) ?_
  refine W.objInit hx hb hown (hts _ m_52) (hts _ m_53) (hts _ m_54) rfl (by rw [hml]; exact hl.1) rfl d_C_init_1 (Nat.le_of_ble_eq_true rfl) (Nat.le_of_ble_eq_true rfl) ?_
  refine W.eq (g2 := F0 m 4 ls []) rfl ?_
  refine lv_aload_n hx hb d_C_init_4 rfl (lv_at hl 0 rfl) ?_
  refine lv_iconst (v := nI 1) hx hb d_C_init_5 (by decide) ?_
  refine lv_iload_n hx hb d_C_init_6 rfl (lv_at hl 1 rfl) ?_
  refine lv_i2l (v := b0.toInt64) hx hb d_C_init_7 (rfl) ?_
  refine lv_lconst (v := lN 1) hx hb d_C_init_8 (by decide) ?_
  refine lx_lsub (z := b0.toInt64 - lN 1) hx hb d_C_init_9 (rfl) ?_
  refine lv_ldc2 (v := 57) hx hb hown (hts _ m_55) d_C_init_10 ?_
  refine lv_topl (fun y1 ey1 => ?_)
  obtain rfl : y1 = lN 57 := ey1.trans (by decide)
  refine lc_Sl (As := [.long (b0.toInt64 - lN 1), .long (lN 57)]) (rest := [.int (nI 1), .ref o]) ⟨hx, hb, hml, hown, hts⟩ (c_JM_floorMod l D g _ _ (b0.toInt64 - lN 1) (by omega) (by omega)) (kS 2 hts m_58 m_56 m_57 m_30 (by decide +kernel) ⟨Nat.le_of_ble_eq_true rfl, Nat.le_of_ble_eq_true rfl⟩) hKK hP hD hS hA hl.1 rfl rfl (Nat.le_of_ble_eq_true rfl) d_C_init_13 ⟨Nat.le_of_ble_eq_true rfl, Nat.le_of_ble_eq_true rfl⟩ (fun r1 u H locs e1 hP hD hS => ?_)
  obtain rfl : r1 = lN (((b0.toInt - 1) % 57).toNat) := by rw [e1, hi1]
  refine lv_l2i (v := nI (((b0.toInt - 1) % 57).toNat)) hx hb d_C_init_16 (lN_i (((b0.toInt - 1) % 57).toNat)) ?_
  refine lx_iadd (z := nI M) hx hb d_C_init_17 ((nI_add 1 ((b0.toInt - 1) % 57).toNat).trans (by rw [hMd]; rfl)) ?_
  refine va_putF (D := D) (ci := 0) (v := .int (nI M)) (ty := .int) (C := R_C) (T := F_C) (N := 17) hx hb hts i_C tf_C tf_C_ok nf_C hown hK hP hD hS 0 rfl rfl 1 (by decide) (hts _ m_204) (fun _ h9 => h9) rfl hin rfl (by decide +kernel) rfl rfl (Nat.le_of_ble_eq_true rfl) d_C_init_18 (fun H locs hP hD hS => ?_)
  have hP : va_P D vwCl ((o, .inr (0, [.int (nI 0), .int (nI M), .int (nI 0), .long (lN 0), .int (nI 0), .null, .null, .int (nI 0), .int (nI 0), .long (lN 0), .int (nI 0), .int (nI 0), .null, .int (nI 0), .int (nI 0), .null, .int (nI 0)])) :: wr) H := hP
  have hD : va_D A ((o, .inr (0, [.int (nI 0), .int (nI M), .int (nI 0), .long (lN 0), .int (nI 0), .null, .null, .int (nI 0), .int (nI 0), .long (lN 0), .int (nI 0), .int (nI 0), .null, .int (nI 0), .int (nI 0), .null, .int (nI 0)])) :: wr) := hD
  refine lv_aload_n hx hb d_C_init_21 rfl (lv_at hl 0 rfl) ?_
  refine lv_iload_n hx hb d_C_init_22 rfl (lv_at hl 2 rfl) ?_
  refine lv_iconst (v := nI 4) hx hb d_C_init_23 (by decide) ?_
  refine lc_Si (As := [.int (k0), .int (nI 4)]) (rest := [.ref o]) ⟨hx, hb, hml, hown, hts⟩ (c_JM_floorMod2 l D g _ _ k0) (kS 2 hts m_61 m_59 m_60 m_30 (by decide +kernel) ⟨Nat.le_of_ble_eq_true rfl, Nat.le_of_ble_eq_true rfl⟩) hKK hP hD hS hA hl.1 rfl rfl (Nat.le_of_ble_eq_true rfl) d_C_init_24 ⟨Nat.le_of_ble_eq_true rfl, Nat.le_of_ble_eq_true rfl⟩ (fun r2 u H locs e2 hP hD hS => ?_)
  obtain rfl : r2 = nI 0 := by rw [e2, hkd]
  refine va_putF (D := D) (ci := 0) (v := .int (nI 0)) (ty := .int) (C := R_C) (T := F_C) (N := 17) hx hb hts i_C tf_C tf_C_ok nf_C hown hK hP hD hS 0 rfl rfl 0 (by decide) (hts _ m_203) (fun _ h9 => h9) rfl hin rfl (by decide +kernel) rfl rfl (Nat.le_of_ble_eq_true rfl) d_C_init_27 (fun H locs hP hD hS => ?_)
  have hP : va_P D vwCl ((o, .inr (0, [.int (nI 0), .int (nI M), .int (nI 0), .long (lN 0), .int (nI 0), .null, .null, .int (nI 0), .int (nI 0), .long (lN 0), .int (nI 0), .int (nI 0), .null, .int (nI 0), .int (nI 0), .null, .int (nI 0)])) :: wr) H := hP
  have hD : va_D A ((o, .inr (0, [.int (nI 0), .int (nI M), .int (nI 0), .long (lN 0), .int (nI 0), .null, .null, .int (nI 0), .int (nI 0), .long (lN 0), .int (nI 0), .int (nI 0), .null, .int (nI 0), .int (nI 0), .null, .int (nI 0)])) :: wr) := hD
  refine lv_aload_n hx hb d_C_init_30 rfl (lv_at hl 0 rfl) ?_
  refine lv_aload_n hx hb d_C_init_31 rfl (lv_at hl 0 rfl) ?_
  refine va_get (D := D) (ci := 0) (v := .int (nI 0)) (C := R_C) (T := F_C) (N := 17) hx hb hts i_C hown hK hP 0 rfl rfl 0 (by decide) (hts _ m_203) (fun _ h9 => h9) rfl d_C_init_32 ?_
  refine lv_aload_n hx hb d_C_init_35 rfl (lv_at hl 0 rfl) ?_
  refine va_get (D := D) (ci := 0) (v := .int (nI M)) (C := R_C) (T := F_C) (N := 17) hx hb hts i_C hown hK hP 0 rfl rfl 1 (by decide) (hts _ m_204) (fun _ h9 => h9) rfl d_C_init_36 ?_
  refine lc_Sr (As := [.int (nI 0), .int (nI M)]) (rest := [.ref o]) ⟨hx, hb, hml, hown, hts⟩ (c_C_codeOf_0 l D g _ _ M hMi.1 hMi.2) (kS 2 hts m_64 m_62 m_63 m_29 (by decide +kernel) ⟨Nat.le_of_ble_eq_true rfl, Nat.le_of_ble_eq_true rfl⟩) hKK hP hD hS hA hl.1 rfl rfl (Nat.le_of_ble_eq_true rfl) d_C_init_39 ⟨Nat.le_of_ble_eq_true rfl, Nat.le_of_ble_eq_true rfl⟩ (fun uc oc H locs _ hP hD hS => ?_)
  refine W.widen (k := 19) (n := 849) (by omega) (by omega) ?_
  have hP : va_P D vwCl ((oc, .inr (1, [.int (nI M), .int (nI (frm M 1 1)), .ref uc.2.2, .ref uc.2.1])) :: (uc.2.2, .inl (g 0, M, .inl (fun k => nI (mkS M 1 k)))) :: (uc.1 3, .inl (g 0, 2 ^ lr (wid M 1 0), .inl (fun s => oI (ba (lr (wid M 1 0)) (wid M 1 0) (wid M 1 0) s)))) :: (uc.1 2, .inl (g 0, lr (wid M 1 0), .inl (fun r => nI (rsf (lr (wid M 1 0)) (wid M 1 0) r)))) :: (uc.1 1, .inl (g 0, (wid M 1 0), .inl (fun j => nI (if j < wid M 1 0 then cc_ (lr (wid M 1 0)) j else 0)))) :: (uc.1 0, .inr (4, [.int (nI (lr (wid M 1 0))), .ref (uc.1 1), .ref (uc.1 2), .ref (uc.1 3)])) :: (uc.2.1, .inl (g 3, 1, .inr (.inr (.inr (.inr (fun i => some (uc.1 (4 * i)))))))) :: (o, .inr (0, [.int (nI 0), .int (nI M), .int (nI 0), .long (lN 0), .int (nI 0), .null, .null, .int (nI 0), .int (nI 0), .long (lN 0), .int (nI 0), .int (nI 0), .null, .int (nI 0), .int (nI 0), .null, .int (nI 0)])) :: wr) H := hP
  have hD : va_D A ((oc, .inr (1, [.int (nI M), .int (nI (frm M 1 1)), .ref uc.2.2, .ref uc.2.1])) :: (uc.2.2, .inl (g 0, M, .inl (fun k => nI (mkS M 1 k)))) :: (uc.1 3, .inl (g 0, 2 ^ lr (wid M 1 0), .inl (fun s => oI (ba (lr (wid M 1 0)) (wid M 1 0) (wid M 1 0) s)))) :: (uc.1 2, .inl (g 0, lr (wid M 1 0), .inl (fun r => nI (rsf (lr (wid M 1 0)) (wid M 1 0) r)))) :: (uc.1 1, .inl (g 0, (wid M 1 0), .inl (fun j => nI (if j < wid M 1 0 then cc_ (lr (wid M 1 0)) j else 0)))) :: (uc.1 0, .inr (4, [.int (nI (lr (wid M 1 0))), .ref (uc.1 1), .ref (uc.1 2), .ref (uc.1 3)])) :: (uc.2.1, .inl (g 3, 1, .inr (.inr (.inr (.inr (fun i => some (uc.1 (4 * i)))))))) :: (o, .inr (0, [.int (nI 0), .int (nI M), .int (nI 0), .long (lN 0), .int (nI 0), .null, .null, .int (nI 0), .int (nI 0), .long (lN 0), .int (nI 0), .int (nI 0), .null, .int (nI 0), .int (nI 0), .null, .int (nI 0)])) :: wr) := hD
  have hP : va_P D vwCl ((o, .inr (0, [.int (nI 0), .int (nI M), .int (nI 0), .long (lN 0), .int (nI 0), .null, .null, .int (nI 0), .int (nI 0), .long (lN 0), .int (nI 0), .int (nI 0), .null, .int (nI 0), .int (nI 0), .null, .int (nI 0)])) :: (oc, .inr (1, [.int (nI M), .int (nI (frm M 1 1)), .ref uc.2.2, .ref uc.2.1])) :: (uc.2.2, .inl (g 0, M, .inl (fun k => nI (mkS M 1 k)))) :: (uc.1 3, .inl (g 0, 2 ^ lr (wid M 1 0), .inl (fun s => oI (ba (lr (wid M 1 0)) (wid M 1 0) (wid M 1 0) s)))) :: (uc.1 2, .inl (g 0, lr (wid M 1 0), .inl (fun r => nI (rsf (lr (wid M 1 0)) (wid M 1 0) r)))) :: (uc.1 1, .inl (g 0, (wid M 1 0), .inl (fun j => nI (if j < wid M 1 0 then cc_ (lr (wid M 1 0)) j else 0)))) :: (uc.1 0, .inr (4, [.int (nI (lr (wid M 1 0))), .ref (uc.1 1), .ref (uc.1 2), .ref (uc.1 3)])) :: (uc.2.1, .inl (g 3, 1, .inr (.inr (.inr (.inr (fun i => some (uc.1 (4 * i)))))))) :: wr) H := wp_pull [(oc, .inr (1, [.int (nI M), .int (nI (frm M 1 1)), .ref uc.2.2, .ref uc.2.1])), (uc.2.2, .inl (g 0, M, .inl (fun k => nI (mkS M 1 k)))), (uc.1 3, .inl (g 0, 2 ^ lr (wid M 1 0), .inl (fun s => oI (ba (lr (wid M 1 0)) (wid M 1 0) (wid M 1 0) s)))), (uc.1 2, .inl (g 0, lr (wid M 1 0), .inl (fun r => nI (rsf (lr (wid M 1 0)) (wid M 1 0) r)))), (uc.1 1, .inl (g 0, (wid M 1 0), .inl (fun j => nI (if j < wid M 1 0 then cc_ (lr (wid M 1 0)) j else 0)))), (uc.1 0, .inr (4, [.int (nI (lr (wid M 1 0))), .ref (uc.1 1), .ref (uc.1 2), .ref (uc.1 3)])), (uc.2.1, .inl (g 3, 1, .inr (.inr (.inr (.inr (fun i => some (uc.1 (4 * i))))))))] hP
  have hD : va_D A ((o, .inr (0, [.int (nI 0), .int (nI M), .int (nI 0), .long (lN 0), .int (nI 0), .null, .null, .int (nI 0), .int (nI 0), .long (lN 0), .int (nI 0), .int (nI 0), .null, .int (nI 0), .int (nI 0), .null, .int (nI 0)])) :: (oc, .inr (1, [.int (nI M), .int (nI (frm M 1 1)), .ref uc.2.2, .ref uc.2.1])) :: (uc.2.2, .inl (g 0, M, .inl (fun k => nI (mkS M 1 k)))) :: (uc.1 3, .inl (g 0, 2 ^ lr (wid M 1 0), .inl (fun s => oI (ba (lr (wid M 1 0)) (wid M 1 0) (wid M 1 0) s)))) :: (uc.1 2, .inl (g 0, lr (wid M 1 0), .inl (fun r => nI (rsf (lr (wid M 1 0)) (wid M 1 0) r)))) :: (uc.1 1, .inl (g 0, (wid M 1 0), .inl (fun j => nI (if j < wid M 1 0 then cc_ (lr (wid M 1 0)) j else 0)))) :: (uc.1 0, .inr (4, [.int (nI (lr (wid M 1 0))), .ref (uc.1 1), .ref (uc.1 2), .ref (uc.1 3)])) :: (uc.2.1, .inl (g 3, 1, .inr (.inr (.inr (.inr (fun i => some (uc.1 (4 * i)))))))) :: wr) := wd_pull [(oc, .inr (1, [.int (nI M), .int (nI (frm M 1 1)), .ref uc.2.2, .ref uc.2.1])), (uc.2.2, .inl (g 0, M, .inl (fun k => nI (mkS M 1 k)))), (uc.1 3, .inl (g 0, 2 ^ lr (wid M 1 0), .inl (fun s => oI (ba (lr (wid M 1 0)) (wid M 1 0) (wid M 1 0) s)))), (uc.1 2, .inl (g 0, lr (wid M 1 0), .inl (fun r => nI (rsf (lr (wid M 1 0)) (wid M 1 0) r)))), (uc.1 1, .inl (g 0, (wid M 1 0), .inl (fun j => nI (if j < wid M 1 0 then cc_ (lr (wid M 1 0)) j else 0)))), (uc.1 0, .inr (4, [.int (nI (lr (wid M 1 0))), .ref (uc.1 1), .ref (uc.1 2), .ref (uc.1 3)])), (uc.2.1, .inl (g 3, 1, .inr (.inr (.inr (.inr (fun i => some (uc.1 (4 * i))))))))] hD
  refine va_putF (D := D) (ci := 0) (v := .ref oc) (ty := .object "CheckCodes$Code") (C := R_C) (T := F_C) (N := 17) hx hb hts i_C tf_C tf_C_ok nf_C hown hK hP hD hS 0 rfl rfl 5 (by decide) (hts _ m_208) (fun _ h9 => h9) rfl hin rfl (by decide +kernel) rfl rfl (Nat.le_of_ble_eq_true rfl) d_C_init_42 (fun H locs hP hD hS => ?_)
  have hP : va_P D vwCl ((o, .inr (0, [.int (nI 0), .int (nI M), .int (nI 0), .long (lN 0), .int (nI 0), .ref oc, .null, .int (nI 0), .int (nI 0), .long (lN 0), .int (nI 0), .int (nI 0), .null, .int (nI 0), .int (nI 0), .null, .int (nI 0)])) :: (oc, .inr (1, [.int (nI M), .int (nI (frm M 1 1)), .ref uc.2.2, .ref uc.2.1])) :: (uc.2.2, .inl (g 0, M, .inl (fun k => nI (mkS M 1 k)))) :: (uc.1 3, .inl (g 0, 2 ^ lr (wid M 1 0), .inl (fun s => oI (ba (lr (wid M 1 0)) (wid M 1 0) (wid M 1 0) s)))) :: (uc.1 2, .inl (g 0, lr (wid M 1 0), .inl (fun r => nI (rsf (lr (wid M 1 0)) (wid M 1 0) r)))) :: (uc.1 1, .inl (g 0, (wid M 1 0), .inl (fun j => nI (if j < wid M 1 0 then cc_ (lr (wid M 1 0)) j else 0)))) :: (uc.1 0, .inr (4, [.int (nI (lr (wid M 1 0))), .ref (uc.1 1), .ref (uc.1 2), .ref (uc.1 3)])) :: (uc.2.1, .inl (g 3, 1, .inr (.inr (.inr (.inr (fun i => some (uc.1 (4 * i)))))))) :: wr) H := hP
  have hD : va_D A ((o, .inr (0, [.int (nI 0), .int (nI M), .int (nI 0), .long (lN 0), .int (nI 0), .ref oc, .null, .int (nI 0), .int (nI 0), .long (lN 0), .int (nI 0), .int (nI 0), .null, .int (nI 0), .int (nI 0), .null, .int (nI 0)])) :: (oc, .inr (1, [.int (nI M), .int (nI (frm M 1 1)), .ref uc.2.2, .ref uc.2.1])) :: (uc.2.2, .inl (g 0, M, .inl (fun k => nI (mkS M 1 k)))) :: (uc.1 3, .inl (g 0, 2 ^ lr (wid M 1 0), .inl (fun s => oI (ba (lr (wid M 1 0)) (wid M 1 0) (wid M 1 0) s)))) :: (uc.1 2, .inl (g 0, lr (wid M 1 0), .inl (fun r => nI (rsf (lr (wid M 1 0)) (wid M 1 0) r)))) :: (uc.1 1, .inl (g 0, (wid M 1 0), .inl (fun j => nI (if j < wid M 1 0 then cc_ (lr (wid M 1 0)) j else 0)))) :: (uc.1 0, .inr (4, [.int (nI (lr (wid M 1 0))), .ref (uc.1 1), .ref (uc.1 2), .ref (uc.1 3)])) :: (uc.2.1, .inl (g 3, 1, .inr (.inr (.inr (.inr (fun i => some (uc.1 (4 * i)))))))) :: wr) := hD
  refine lv_aload_n hx hb d_C_init_45 rfl (lv_at hl 0 rfl) ?_
  refine lv_aload_n hx hb d_C_init_46 rfl (lv_at hl 0 rfl) ?_
  refine va_get (D := D) (ci := 0) (v := .int (nI M)) (C := R_C) (T := F_C) (N := 17) hx hb hts i_C hown hK hP 0 rfl rfl 1 (by decide) (hts _ m_204) (fun _ h9 => h9) rfl d_C_init_47 ?_
  refine lv_aload_n hx hb d_C_init_50 rfl (lv_at hl 0 rfl) ?_
  refine va_get (D := D) (ci := 0) (v := .ref oc) (C := R_C) (T := F_C) (N := 17) hx hb hts i_C hown hK hP 0 rfl rfl 5 (by decide) (hts _ m_208) (fun _ h9 => h9) rfl d_C_init_51 ?_
  refine va_get (D := D) (ci := 1) (v := .int (nI (frm M 1 1))) (C := R_S) (T := F_S) (N := 4) hx hb hts i_S hown hK hP 1 rfl rfl 1 (by decide) (hts _ m_138) (fun _ h9 => h9) rfl d_C_init_54 ?_
  refine lx_iadd (z := nI (M + (frm M 1 1))) hx hb d_C_init_57 (nI_add _ _) ?_
  refine va_putF (D := D) (ci := 0) (v := .int (nI (M + (frm M 1 1)))) (ty := .int) (C := R_C) (T := F_C) (N := 17) hx hb hts i_C tf_C tf_C_ok nf_C hown hK hP hD hS 0 rfl rfl 2 (by decide) (hts _ m_205) (fun _ h9 => h9) rfl hin rfl (by decide +kernel) rfl rfl (Nat.le_of_ble_eq_true rfl) d_C_init_58 (fun H locs hP hD hS => ?_)
  have hP : va_P D vwCl ((o, .inr (0, [.int (nI 0), .int (nI M), .int (nI (M + (frm M 1 1))), .long (lN 0), .int (nI 0), .ref oc, .null, .int (nI 0), .int (nI 0), .long (lN 0), .int (nI 0), .int (nI 0), .null, .int (nI 0), .int (nI 0), .null, .int (nI 0)])) :: (oc, .inr (1, [.int (nI M), .int (nI (frm M 1 1)), .ref uc.2.2, .ref uc.2.1])) :: (uc.2.2, .inl (g 0, M, .inl (fun k => nI (mkS M 1 k)))) :: (uc.1 3, .inl (g 0, 2 ^ lr (wid M 1 0), .inl (fun s => oI (ba (lr (wid M 1 0)) (wid M 1 0) (wid M 1 0) s)))) :: (uc.1 2, .inl (g 0, lr (wid M 1 0), .inl (fun r => nI (rsf (lr (wid M 1 0)) (wid M 1 0) r)))) :: (uc.1 1, .inl (g 0, (wid M 1 0), .inl (fun j => nI (if j < wid M 1 0 then cc_ (lr (wid M 1 0)) j else 0)))) :: (uc.1 0, .inr (4, [.int (nI (lr (wid M 1 0))), .ref (uc.1 1), .ref (uc.1 2), .ref (uc.1 3)])) :: (uc.2.1, .inl (g 3, 1, .inr (.inr (.inr (.inr (fun i => some (uc.1 (4 * i)))))))) :: wr) H := hP
  have hD : va_D A ((o, .inr (0, [.int (nI 0), .int (nI M), .int (nI (M + (frm M 1 1))), .long (lN 0), .int (nI 0), .ref oc, .null, .int (nI 0), .int (nI 0), .long (lN 0), .int (nI 0), .int (nI 0), .null, .int (nI 0), .int (nI 0), .null, .int (nI 0)])) :: (oc, .inr (1, [.int (nI M), .int (nI (frm M 1 1)), .ref uc.2.2, .ref uc.2.1])) :: (uc.2.2, .inl (g 0, M, .inl (fun k => nI (mkS M 1 k)))) :: (uc.1 3, .inl (g 0, 2 ^ lr (wid M 1 0), .inl (fun s => oI (ba (lr (wid M 1 0)) (wid M 1 0) (wid M 1 0) s)))) :: (uc.1 2, .inl (g 0, lr (wid M 1 0), .inl (fun r => nI (rsf (lr (wid M 1 0)) (wid M 1 0) r)))) :: (uc.1 1, .inl (g 0, (wid M 1 0), .inl (fun j => nI (if j < wid M 1 0 then cc_ (lr (wid M 1 0)) j else 0)))) :: (uc.1 0, .inr (4, [.int (nI (lr (wid M 1 0))), .ref (uc.1 1), .ref (uc.1 2), .ref (uc.1 3)])) :: (uc.2.1, .inl (g 3, 1, .inr (.inr (.inr (.inr (fun i => some (uc.1 (4 * i)))))))) :: wr) := hD
  refine lv_aload_n hx hb d_C_init_61 rfl (lv_at hl 0 rfl) ?_
  refine lv_lconst (v := lN 1) hx hb d_C_init_62 (by decide) ?_
  refine lv_aload_n hx hb d_C_init_63 rfl (lv_at hl 0 rfl) ?_
  refine va_get (D := D) (ci := 0) (v := .int (nI M)) (C := R_C) (T := F_C) (N := 17) hx hb hts i_C hown hK hP 0 rfl rfl 1 (by decide) (hts _ m_204) (fun _ h9 => h9) rfl d_C_init_64 ?_
  refine lv_lshl (v := lN (2 ^ M)) hx hb d_C_init_67 ((xl_shl 1 (by omega)).trans (by rw [Nat.one_shiftLeft])) ?_
  refine lv_lconst (v := lN 1) hx hb d_C_init_68 (by decide) ?_
  refine lx_lsub (z := lN (2 ^ M - 1)) hx hb d_C_init_69 (lN_sub Nat.one_le_two_pow) ?_
  refine va_putF (D := D) (ci := 0) (v := .long (lN (2 ^ M - 1))) (ty := .long) (C := R_C) (T := F_C) (N := 17) hx hb hts i_C tf_C tf_C_ok nf_C hown hK hP hD hS 0 rfl rfl 3 (by decide) (hts _ m_206) (fun _ h9 => h9) rfl hin rfl (by decide +kernel) rfl rfl (Nat.le_of_ble_eq_true rfl) d_C_init_70 (fun H locs hP hD hS => ?_)
  have hP : va_P D vwCl ((o, .inr (0, [.int (nI 0), .int (nI M), .int (nI (M + (frm M 1 1))), .long (lN (2 ^ M - 1)), .int (nI 0), .ref oc, .null, .int (nI 0), .int (nI 0), .long (lN 0), .int (nI 0), .int (nI 0), .null, .int (nI 0), .int (nI 0), .null, .int (nI 0)])) :: (oc, .inr (1, [.int (nI M), .int (nI (frm M 1 1)), .ref uc.2.2, .ref uc.2.1])) :: (uc.2.2, .inl (g 0, M, .inl (fun k => nI (mkS M 1 k)))) :: (uc.1 3, .inl (g 0, 2 ^ lr (wid M 1 0), .inl (fun s => oI (ba (lr (wid M 1 0)) (wid M 1 0) (wid M 1 0) s)))) :: (uc.1 2, .inl (g 0, lr (wid M 1 0), .inl (fun r => nI (rsf (lr (wid M 1 0)) (wid M 1 0) r)))) :: (uc.1 1, .inl (g 0, (wid M 1 0), .inl (fun j => nI (if j < wid M 1 0 then cc_ (lr (wid M 1 0)) j else 0)))) :: (uc.1 0, .inr (4, [.int (nI (lr (wid M 1 0))), .ref (uc.1 1), .ref (uc.1 2), .ref (uc.1 3)])) :: (uc.2.1, .inl (g 3, 1, .inr (.inr (.inr (.inr (fun i => some (uc.1 (4 * i)))))))) :: wr) H := hP
  have hD : va_D A ((o, .inr (0, [.int (nI 0), .int (nI M), .int (nI (M + (frm M 1 1))), .long (lN (2 ^ M - 1)), .int (nI 0), .ref oc, .null, .int (nI 0), .int (nI 0), .long (lN 0), .int (nI 0), .int (nI 0), .null, .int (nI 0), .int (nI 0), .null, .int (nI 0)])) :: (oc, .inr (1, [.int (nI M), .int (nI (frm M 1 1)), .ref uc.2.2, .ref uc.2.1])) :: (uc.2.2, .inl (g 0, M, .inl (fun k => nI (mkS M 1 k)))) :: (uc.1 3, .inl (g 0, 2 ^ lr (wid M 1 0), .inl (fun s => oI (ba (lr (wid M 1 0)) (wid M 1 0) (wid M 1 0) s)))) :: (uc.1 2, .inl (g 0, lr (wid M 1 0), .inl (fun r => nI (rsf (lr (wid M 1 0)) (wid M 1 0) r)))) :: (uc.1 1, .inl (g 0, (wid M 1 0), .inl (fun j => nI (if j < wid M 1 0 then cc_ (lr (wid M 1 0)) j else 0)))) :: (uc.1 0, .inr (4, [.int (nI (lr (wid M 1 0))), .ref (uc.1 1), .ref (uc.1 2), .ref (uc.1 3)])) :: (uc.2.1, .inl (g 3, 1, .inr (.inr (.inr (.inr (fun i => some (uc.1 (4 * i)))))))) :: wr) := hD
  refine lv_aload_n hx hb d_C_init_73 rfl (lv_at hl 0 rfl) ?_
  refine lv_iconst (v := nI 1) hx hb d_C_init_74 (by decide) ?_
  refine lv_aload_n hx hb d_C_init_75 rfl (lv_at hl 0 rfl) ?_
  refine va_get (D := D) (ci := 0) (v := .ref oc) (C := R_C) (T := F_C) (N := 17) hx hb hts i_C hown hK hP 0 rfl rfl 5 (by decide) (hts _ m_208) (fun _ h9 => h9) rfl d_C_init_76 ?_
  refine va_get (D := D) (ci := 1) (v := .int (nI (frm M 1 1))) (C := R_S) (T := F_S) (N := 4) hx hb hts i_S hown hK hP 1 rfl rfl 1 (by decide) (hts _ m_138) (fun _ h9 => h9) rfl d_C_init_79 ?_
  refine lx_ishl (z := nI (2 ^ (frm M 1 1))) hx hb d_C_init_82 ((xn_shl 1 (by omega)).trans (by rw [Nat.one_shiftLeft])) ?_
  refine lv_iconst (v := nI 1) hx hb d_C_init_83 (by decide) ?_
  refine lx_isub (z := nI (2 ^ (frm M 1 1) - 1)) hx hb d_C_init_84 (pk_sub Nat.one_le_two_pow) ?_
  refine va_putF (D := D) (ci := 0) (v := .int (nI (2 ^ (frm M 1 1) - 1))) (ty := .int) (C := R_C) (T := F_C) (N := 17) hx hb hts i_C tf_C tf_C_ok nf_C hown hK hP hD hS 0 rfl rfl 4 (by decide) (hts _ m_207) (fun _ h9 => h9) rfl hin rfl (by decide +kernel) rfl rfl (Nat.le_of_ble_eq_true rfl) d_C_init_85 (fun H locs hP hD hS => ?_)
  have hP : va_P D vwCl ((o, .inr (0, [.int (nI 0), .int (nI M), .int (nI (M + (frm M 1 1))), .long (lN (2 ^ M - 1)), .int (nI (2 ^ (frm M 1 1) - 1)), .ref oc, .null, .int (nI 0), .int (nI 0), .long (lN 0), .int (nI 0), .int (nI 0), .null, .int (nI 0), .int (nI 0), .null, .int (nI 0)])) :: (oc, .inr (1, [.int (nI M), .int (nI (frm M 1 1)), .ref uc.2.2, .ref uc.2.1])) :: (uc.2.2, .inl (g 0, M, .inl (fun k => nI (mkS M 1 k)))) :: (uc.1 3, .inl (g 0, 2 ^ lr (wid M 1 0), .inl (fun s => oI (ba (lr (wid M 1 0)) (wid M 1 0) (wid M 1 0) s)))) :: (uc.1 2, .inl (g 0, lr (wid M 1 0), .inl (fun r => nI (rsf (lr (wid M 1 0)) (wid M 1 0) r)))) :: (uc.1 1, .inl (g 0, (wid M 1 0), .inl (fun j => nI (if j < wid M 1 0 then cc_ (lr (wid M 1 0)) j else 0)))) :: (uc.1 0, .inr (4, [.int (nI (lr (wid M 1 0))), .ref (uc.1 1), .ref (uc.1 2), .ref (uc.1 3)])) :: (uc.2.1, .inl (g 3, 1, .inr (.inr (.inr (.inr (fun i => some (uc.1 (4 * i)))))))) :: wr) H := hP
  have hD : va_D A ((o, .inr (0, [.int (nI 0), .int (nI M), .int (nI (M + (frm M 1 1))), .long (lN (2 ^ M - 1)), .int (nI (2 ^ (frm M 1 1) - 1)), .ref oc, .null, .int (nI 0), .int (nI 0), .long (lN 0), .int (nI 0), .int (nI 0), .null, .int (nI 0), .int (nI 0), .null, .int (nI 0)])) :: (oc, .inr (1, [.int (nI M), .int (nI (frm M 1 1)), .ref uc.2.2, .ref uc.2.1])) :: (uc.2.2, .inl (g 0, M, .inl (fun k => nI (mkS M 1 k)))) :: (uc.1 3, .inl (g 0, 2 ^ lr (wid M 1 0), .inl (fun s => oI (ba (lr (wid M 1 0)) (wid M 1 0) (wid M 1 0) s)))) :: (uc.1 2, .inl (g 0, lr (wid M 1 0), .inl (fun r => nI (rsf (lr (wid M 1 0)) (wid M 1 0) r)))) :: (uc.1 1, .inl (g 0, (wid M 1 0), .inl (fun j => nI (if j < wid M 1 0 then cc_ (lr (wid M 1 0)) j else 0)))) :: (uc.1 0, .inr (4, [.int (nI (lr (wid M 1 0))), .ref (uc.1 1), .ref (uc.1 2), .ref (uc.1 3)])) :: (uc.2.1, .inl (g 3, 1, .inr (.inr (.inr (.inr (fun i => some (uc.1 (4 * i)))))))) :: wr) := hD
  refine lv_aload_n hx hb d_C_init_88 rfl (lv_at hl 0 rfl) ?_
  refine lx_new (ci := 5) (fs := [.long (lN 0), .int (nI 0)]) (C := R_T) (T := F_T) (N := 2) hx hb hts i_T tf_T tf_T_ok hown (hts _ m_184) (hts _ m_185) (hts _ m_38) hK hP hD hS hA rfl (by decide +kernel) (Nat.le_of_ble_eq_true rfl) (Nat.le_of_ble_eq_true rfl) d_C_init_89 (fun tn H hP hD hS => ?_)
  refine W.widen (k := 19 + 1) (n := 849 + 2) (by omega) (by omega) ?_
  have hP : va_P D vwCl ((tn, .inr (5, [.long (lN 0), .int (nI 0)])) :: (o, .inr (0, [.int (nI 0), .int (nI M), .int (nI (M + (frm M 1 1))), .long (lN (2 ^ M - 1)), .int (nI (2 ^ (frm M 1 1) - 1)), .ref oc, .null, .int (nI 0), .int (nI 0), .long (lN 0), .int (nI 0), .int (nI 0), .null, .int (nI 0), .int (nI 0), .null, .int (nI 0)])) :: (oc, .inr (1, [.int (nI M), .int (nI (frm M 1 1)), .ref uc.2.2, .ref uc.2.1])) :: (uc.2.2, .inl (g 0, M, .inl (fun k => nI (mkS M 1 k)))) :: (uc.1 3, .inl (g 0, 2 ^ lr (wid M 1 0), .inl (fun s => oI (ba (lr (wid M 1 0)) (wid M 1 0) (wid M 1 0) s)))) :: (uc.1 2, .inl (g 0, lr (wid M 1 0), .inl (fun r => nI (rsf (lr (wid M 1 0)) (wid M 1 0) r)))) :: (uc.1 1, .inl (g 0, (wid M 1 0), .inl (fun j => nI (if j < wid M 1 0 then cc_ (lr (wid M 1 0)) j else 0)))) :: (uc.1 0, .inr (4, [.int (nI (lr (wid M 1 0))), .ref (uc.1 1), .ref (uc.1 2), .ref (uc.1 3)])) :: (uc.2.1, .inl (g 3, 1, .inr (.inr (.inr (.inr (fun i => some (uc.1 (4 * i)))))))) :: wr) H := hP
  have hD : va_D A ((tn, .inr (5, [.long (lN 0), .int (nI 0)])) :: (o, .inr (0, [.int (nI 0), .int (nI M), .int (nI (M + (frm M 1 1))), .long (lN (2 ^ M - 1)), .int (nI (2 ^ (frm M 1 1) - 1)), .ref oc, .null, .int (nI 0), .int (nI 0), .long (lN 0), .int (nI 0), .int (nI 0), .null, .int (nI 0), .int (nI 0), .null, .int (nI 0)])) :: (oc, .inr (1, [.int (nI M), .int (nI (frm M 1 1)), .ref uc.2.2, .ref uc.2.1])) :: (uc.2.2, .inl (g 0, M, .inl (fun k => nI (mkS M 1 k)))) :: (uc.1 3, .inl (g 0, 2 ^ lr (wid M 1 0), .inl (fun s => oI (ba (lr (wid M 1 0)) (wid M 1 0) (wid M 1 0) s)))) :: (uc.1 2, .inl (g 0, lr (wid M 1 0), .inl (fun r => nI (rsf (lr (wid M 1 0)) (wid M 1 0) r)))) :: (uc.1 1, .inl (g 0, (wid M 1 0), .inl (fun j => nI (if j < wid M 1 0 then cc_ (lr (wid M 1 0)) j else 0)))) :: (uc.1 0, .inr (4, [.int (nI (lr (wid M 1 0))), .ref (uc.1 1), .ref (uc.1 2), .ref (uc.1 3)])) :: (uc.2.1, .inl (g 3, 1, .inr (.inr (.inr (.inr (fun i => some (uc.1 (4 * i)))))))) :: wr) := hD
  refine lv_dup hx hb d_C_init_92 rfl ?_
  refine lc_INv (b := tn) (As := []) (rest := [.ref tn, .ref o]) ⟨hx, hb, hml, hown, hts⟩ (c_T_init l D g _ _ tn) (kIN 0 hts m_188 hKK.2.2.1 m_187 m_38 rfl (by decide +kernel) ⟨Nat.le_of_ble_eq_true rfl, Nat.le_of_ble_eq_true rfl⟩) hKK hP hD hS hA hl.1 rfl rfl (Nat.le_of_ble_eq_true rfl) d_C_init_93 ⟨by first | omega | exact Nat.le_of_ble_eq_true rfl, by first | omega | exact Nat.le_of_ble_eq_true rfl⟩ (fun u H locs _ hP hD hS => ?_)
  have hP : va_P D vwCl ((tn, .inr (5, [.long (lN 0), .int (nI 0)])) :: (o, .inr (0, [.int (nI 0), .int (nI M), .int (nI (M + (frm M 1 1))), .long (lN (2 ^ M - 1)), .int (nI (2 ^ (frm M 1 1) - 1)), .ref oc, .null, .int (nI 0), .int (nI 0), .long (lN 0), .int (nI 0), .int (nI 0), .null, .int (nI 0), .int (nI 0), .null, .int (nI 0)])) :: (oc, .inr (1, [.int (nI M), .int (nI (frm M 1 1)), .ref uc.2.2, .ref uc.2.1])) :: (uc.2.2, .inl (g 0, M, .inl (fun k => nI (mkS M 1 k)))) :: (uc.1 3, .inl (g 0, 2 ^ lr (wid M 1 0), .inl (fun s => oI (ba (lr (wid M 1 0)) (wid M 1 0) (wid M 1 0) s)))) :: (uc.1 2, .inl (g 0, lr (wid M 1 0), .inl (fun r => nI (rsf (lr (wid M 1 0)) (wid M 1 0) r)))) :: (uc.1 1, .inl (g 0, (wid M 1 0), .inl (fun j => nI (if j < wid M 1 0 then cc_ (lr (wid M 1 0)) j else 0)))) :: (uc.1 0, .inr (4, [.int (nI (lr (wid M 1 0))), .ref (uc.1 1), .ref (uc.1 2), .ref (uc.1 3)])) :: (uc.2.1, .inl (g 3, 1, .inr (.inr (.inr (.inr (fun i => some (uc.1 (4 * i)))))))) :: wr) H := hP
  have hD : va_D A ((tn, .inr (5, [.long (lN 0), .int (nI 0)])) :: (o, .inr (0, [.int (nI 0), .int (nI M), .int (nI (M + (frm M 1 1))), .long (lN (2 ^ M - 1)), .int (nI (2 ^ (frm M 1 1) - 1)), .ref oc, .null, .int (nI 0), .int (nI 0), .long (lN 0), .int (nI 0), .int (nI 0), .null, .int (nI 0), .int (nI 0), .null, .int (nI 0)])) :: (oc, .inr (1, [.int (nI M), .int (nI (frm M 1 1)), .ref uc.2.2, .ref uc.2.1])) :: (uc.2.2, .inl (g 0, M, .inl (fun k => nI (mkS M 1 k)))) :: (uc.1 3, .inl (g 0, 2 ^ lr (wid M 1 0), .inl (fun s => oI (ba (lr (wid M 1 0)) (wid M 1 0) (wid M 1 0) s)))) :: (uc.1 2, .inl (g 0, lr (wid M 1 0), .inl (fun r => nI (rsf (lr (wid M 1 0)) (wid M 1 0) r)))) :: (uc.1 1, .inl (g 0, (wid M 1 0), .inl (fun j => nI (if j < wid M 1 0 then cc_ (lr (wid M 1 0)) j else 0)))) :: (uc.1 0, .inr (4, [.int (nI (lr (wid M 1 0))), .ref (uc.1 1), .ref (uc.1 2), .ref (uc.1 3)])) :: (uc.2.1, .inl (g 3, 1, .inr (.inr (.inr (.inr (fun i => some (uc.1 (4 * i)))))))) :: wr) := hD
  have hP : va_P D vwCl ((o, .inr (0, [.int (nI 0), .int (nI M), .int (nI (M + (frm M 1 1))), .long (lN (2 ^ M - 1)), .int (nI (2 ^ (frm M 1 1) - 1)), .ref oc, .null, .int (nI 0), .int (nI 0), .long (lN 0), .int (nI 0), .int (nI 0), .null, .int (nI 0), .int (nI 0), .null, .int (nI 0)])) :: (tn, .inr (5, [.long (lN 0), .int (nI 0)])) :: (oc, .inr (1, [.int (nI M), .int (nI (frm M 1 1)), .ref uc.2.2, .ref uc.2.1])) :: (uc.2.2, .inl (g 0, M, .inl (fun k => nI (mkS M 1 k)))) :: (uc.1 3, .inl (g 0, 2 ^ lr (wid M 1 0), .inl (fun s => oI (ba (lr (wid M 1 0)) (wid M 1 0) (wid M 1 0) s)))) :: (uc.1 2, .inl (g 0, lr (wid M 1 0), .inl (fun r => nI (rsf (lr (wid M 1 0)) (wid M 1 0) r)))) :: (uc.1 1, .inl (g 0, (wid M 1 0), .inl (fun j => nI (if j < wid M 1 0 then cc_ (lr (wid M 1 0)) j else 0)))) :: (uc.1 0, .inr (4, [.int (nI (lr (wid M 1 0))), .ref (uc.1 1), .ref (uc.1 2), .ref (uc.1 3)])) :: (uc.2.1, .inl (g 3, 1, .inr (.inr (.inr (.inr (fun i => some (uc.1 (4 * i)))))))) :: wr) H := wp_pull [(tn, .inr (5, [.long (lN 0), .int (nI 0)]))] hP
  have hD : va_D A ((o, .inr (0, [.int (nI 0), .int (nI M), .int (nI (M + (frm M 1 1))), .long (lN (2 ^ M - 1)), .int (nI (2 ^ (frm M 1 1) - 1)), .ref oc, .null, .int (nI 0), .int (nI 0), .long (lN 0), .int (nI 0), .int (nI 0), .null, .int (nI 0), .int (nI 0), .null, .int (nI 0)])) :: (tn, .inr (5, [.long (lN 0), .int (nI 0)])) :: (oc, .inr (1, [.int (nI M), .int (nI (frm M 1 1)), .ref uc.2.2, .ref uc.2.1])) :: (uc.2.2, .inl (g 0, M, .inl (fun k => nI (mkS M 1 k)))) :: (uc.1 3, .inl (g 0, 2 ^ lr (wid M 1 0), .inl (fun s => oI (ba (lr (wid M 1 0)) (wid M 1 0) (wid M 1 0) s)))) :: (uc.1 2, .inl (g 0, lr (wid M 1 0), .inl (fun r => nI (rsf (lr (wid M 1 0)) (wid M 1 0) r)))) :: (uc.1 1, .inl (g 0, (wid M 1 0), .inl (fun j => nI (if j < wid M 1 0 then cc_ (lr (wid M 1 0)) j else 0)))) :: (uc.1 0, .inr (4, [.int (nI (lr (wid M 1 0))), .ref (uc.1 1), .ref (uc.1 2), .ref (uc.1 3)])) :: (uc.2.1, .inl (g 3, 1, .inr (.inr (.inr (.inr (fun i => some (uc.1 (4 * i)))))))) :: wr) := wd_pull [(tn, .inr (5, [.long (lN 0), .int (nI 0)]))] hD
  refine va_putF (D := D) (ci := 0) (v := .ref tn) (ty := .object "CheckCodes$Turn") (C := R_C) (T := F_C) (N := 17) hx hb hts i_C tf_C tf_C_ok nf_C hown hK hP hD hS 0 rfl rfl 6 (by decide) (hts _ m_209) (fun _ h9 => h9) rfl hin rfl (by decide +kernel) rfl rfl (Nat.le_of_ble_eq_true rfl) d_C_init_96 (fun H locs hP hD hS => ?_)
  have hP : va_P D vwCl ((o, .inr (0, [.int (nI 0), .int (nI M), .int (nI (M + (frm M 1 1))), .long (lN (2 ^ M - 1)), .int (nI (2 ^ (frm M 1 1) - 1)), .ref oc, .ref tn, .int (nI 0), .int (nI 0), .long (lN 0), .int (nI 0), .int (nI 0), .null, .int (nI 0), .int (nI 0), .null, .int (nI 0)])) :: (tn, .inr (5, [.long (lN 0), .int (nI 0)])) :: (oc, .inr (1, [.int (nI M), .int (nI (frm M 1 1)), .ref uc.2.2, .ref uc.2.1])) :: (uc.2.2, .inl (g 0, M, .inl (fun k => nI (mkS M 1 k)))) :: (uc.1 3, .inl (g 0, 2 ^ lr (wid M 1 0), .inl (fun s => oI (ba (lr (wid M 1 0)) (wid M 1 0) (wid M 1 0) s)))) :: (uc.1 2, .inl (g 0, lr (wid M 1 0), .inl (fun r => nI (rsf (lr (wid M 1 0)) (wid M 1 0) r)))) :: (uc.1 1, .inl (g 0, (wid M 1 0), .inl (fun j => nI (if j < wid M 1 0 then cc_ (lr (wid M 1 0)) j else 0)))) :: (uc.1 0, .inr (4, [.int (nI (lr (wid M 1 0))), .ref (uc.1 1), .ref (uc.1 2), .ref (uc.1 3)])) :: (uc.2.1, .inl (g 3, 1, .inr (.inr (.inr (.inr (fun i => some (uc.1 (4 * i)))))))) :: wr) H := hP
  have hD : va_D A ((o, .inr (0, [.int (nI 0), .int (nI M), .int (nI (M + (frm M 1 1))), .long (lN (2 ^ M - 1)), .int (nI (2 ^ (frm M 1 1) - 1)), .ref oc, .ref tn, .int (nI 0), .int (nI 0), .long (lN 0), .int (nI 0), .int (nI 0), .null, .int (nI 0), .int (nI 0), .null, .int (nI 0)])) :: (tn, .inr (5, [.long (lN 0), .int (nI 0)])) :: (oc, .inr (1, [.int (nI M), .int (nI (frm M 1 1)), .ref uc.2.2, .ref uc.2.1])) :: (uc.2.2, .inl (g 0, M, .inl (fun k => nI (mkS M 1 k)))) :: (uc.1 3, .inl (g 0, 2 ^ lr (wid M 1 0), .inl (fun s => oI (ba (lr (wid M 1 0)) (wid M 1 0) (wid M 1 0) s)))) :: (uc.1 2, .inl (g 0, lr (wid M 1 0), .inl (fun r => nI (rsf (lr (wid M 1 0)) (wid M 1 0) r)))) :: (uc.1 1, .inl (g 0, (wid M 1 0), .inl (fun j => nI (if j < wid M 1 0 then cc_ (lr (wid M 1 0)) j else 0)))) :: (uc.1 0, .inr (4, [.int (nI (lr (wid M 1 0))), .ref (uc.1 1), .ref (uc.1 2), .ref (uc.1 3)])) :: (uc.2.1, .inl (g 3, 1, .inr (.inr (.inr (.inr (fun i => some (uc.1 (4 * i)))))))) :: wr) := hD
  refine lv_aload_n hx hb d_C_init_99 rfl (lv_at hl 0 rfl) ?_
  refine lv_bipush (v := nI 8) hx hb d_C_init_100 (by decide) ?_
  refine lx_newi (N := 8) hx hb (hts _ m_117) hK hP hD hS hA (by omega) (by first | omega | exact Nat.le_of_ble_eq_true rfl) (by first | omega | exact Nat.le_of_ble_eq_true rfl) d_C_init_102 (fun ac H hP hD hS => ?_)
  refine W.widen (k := 19 + 1 + 1) (n := 849 + 2 + 8) (by omega) (by omega) ?_
  have hP : va_P D vwCl ((ac, .inl (g 0, 8, .inl (fun _ => nI 0))) :: (o, .inr (0, [.int (nI 0), .int (nI M), .int (nI (M + (frm M 1 1))), .long (lN (2 ^ M - 1)), .int (nI (2 ^ (frm M 1 1) - 1)), .ref oc, .ref tn, .int (nI 0), .int (nI 0), .long (lN 0), .int (nI 0), .int (nI 0), .null, .int (nI 0), .int (nI 0), .null, .int (nI 0)])) :: (tn, .inr (5, [.long (lN 0), .int (nI 0)])) :: (oc, .inr (1, [.int (nI M), .int (nI (frm M 1 1)), .ref uc.2.2, .ref uc.2.1])) :: (uc.2.2, .inl (g 0, M, .inl (fun k => nI (mkS M 1 k)))) :: (uc.1 3, .inl (g 0, 2 ^ lr (wid M 1 0), .inl (fun s => oI (ba (lr (wid M 1 0)) (wid M 1 0) (wid M 1 0) s)))) :: (uc.1 2, .inl (g 0, lr (wid M 1 0), .inl (fun r => nI (rsf (lr (wid M 1 0)) (wid M 1 0) r)))) :: (uc.1 1, .inl (g 0, (wid M 1 0), .inl (fun j => nI (if j < wid M 1 0 then cc_ (lr (wid M 1 0)) j else 0)))) :: (uc.1 0, .inr (4, [.int (nI (lr (wid M 1 0))), .ref (uc.1 1), .ref (uc.1 2), .ref (uc.1 3)])) :: (uc.2.1, .inl (g 3, 1, .inr (.inr (.inr (.inr (fun i => some (uc.1 (4 * i)))))))) :: wr) H := hP
  have hD : va_D A ((ac, .inl (g 0, 8, .inl (fun _ => nI 0))) :: (o, .inr (0, [.int (nI 0), .int (nI M), .int (nI (M + (frm M 1 1))), .long (lN (2 ^ M - 1)), .int (nI (2 ^ (frm M 1 1) - 1)), .ref oc, .ref tn, .int (nI 0), .int (nI 0), .long (lN 0), .int (nI 0), .int (nI 0), .null, .int (nI 0), .int (nI 0), .null, .int (nI 0)])) :: (tn, .inr (5, [.long (lN 0), .int (nI 0)])) :: (oc, .inr (1, [.int (nI M), .int (nI (frm M 1 1)), .ref uc.2.2, .ref uc.2.1])) :: (uc.2.2, .inl (g 0, M, .inl (fun k => nI (mkS M 1 k)))) :: (uc.1 3, .inl (g 0, 2 ^ lr (wid M 1 0), .inl (fun s => oI (ba (lr (wid M 1 0)) (wid M 1 0) (wid M 1 0) s)))) :: (uc.1 2, .inl (g 0, lr (wid M 1 0), .inl (fun r => nI (rsf (lr (wid M 1 0)) (wid M 1 0) r)))) :: (uc.1 1, .inl (g 0, (wid M 1 0), .inl (fun j => nI (if j < wid M 1 0 then cc_ (lr (wid M 1 0)) j else 0)))) :: (uc.1 0, .inr (4, [.int (nI (lr (wid M 1 0))), .ref (uc.1 1), .ref (uc.1 2), .ref (uc.1 3)])) :: (uc.2.1, .inl (g 3, 1, .inr (.inr (.inr (.inr (fun i => some (uc.1 (4 * i)))))))) :: wr) := hD
  refine va_putF (D := D) (ci := 0) (v := .ref ac) (ty := .array .int) (C := R_C) (T := F_C) (N := 17) hx hb hts i_C tf_C tf_C_ok nf_C hown hK hP hD hS 1 rfl rfl 12 (by decide) (hts _ m_215) (fun _ h9 => h9) rfl hin rfl (by decide +kernel) rfl rfl (Nat.le_of_ble_eq_true rfl) d_C_init_104 (fun H locs hP hD hS => ?_)
  have hP : va_P D vwCl ((ac, .inl (g 0, 8, .inl (fun _ => nI 0))) :: (o, .inr (0, [.int (nI 0), .int (nI M), .int (nI (M + (frm M 1 1))), .long (lN (2 ^ M - 1)), .int (nI (2 ^ (frm M 1 1) - 1)), .ref oc, .ref tn, .int (nI 0), .int (nI 0), .long (lN 0), .int (nI 0), .int (nI 0), .ref ac, .int (nI 0), .int (nI 0), .null, .int (nI 0)])) :: (tn, .inr (5, [.long (lN 0), .int (nI 0)])) :: (oc, .inr (1, [.int (nI M), .int (nI (frm M 1 1)), .ref uc.2.2, .ref uc.2.1])) :: (uc.2.2, .inl (g 0, M, .inl (fun k => nI (mkS M 1 k)))) :: (uc.1 3, .inl (g 0, 2 ^ lr (wid M 1 0), .inl (fun s => oI (ba (lr (wid M 1 0)) (wid M 1 0) (wid M 1 0) s)))) :: (uc.1 2, .inl (g 0, lr (wid M 1 0), .inl (fun r => nI (rsf (lr (wid M 1 0)) (wid M 1 0) r)))) :: (uc.1 1, .inl (g 0, (wid M 1 0), .inl (fun j => nI (if j < wid M 1 0 then cc_ (lr (wid M 1 0)) j else 0)))) :: (uc.1 0, .inr (4, [.int (nI (lr (wid M 1 0))), .ref (uc.1 1), .ref (uc.1 2), .ref (uc.1 3)])) :: (uc.2.1, .inl (g 3, 1, .inr (.inr (.inr (.inr (fun i => some (uc.1 (4 * i)))))))) :: wr) H := hP
  have hD : va_D A ((ac, .inl (g 0, 8, .inl (fun _ => nI 0))) :: (o, .inr (0, [.int (nI 0), .int (nI M), .int (nI (M + (frm M 1 1))), .long (lN (2 ^ M - 1)), .int (nI (2 ^ (frm M 1 1) - 1)), .ref oc, .ref tn, .int (nI 0), .int (nI 0), .long (lN 0), .int (nI 0), .int (nI 0), .ref ac, .int (nI 0), .int (nI 0), .null, .int (nI 0)])) :: (tn, .inr (5, [.long (lN 0), .int (nI 0)])) :: (oc, .inr (1, [.int (nI M), .int (nI (frm M 1 1)), .ref uc.2.2, .ref uc.2.1])) :: (uc.2.2, .inl (g 0, M, .inl (fun k => nI (mkS M 1 k)))) :: (uc.1 3, .inl (g 0, 2 ^ lr (wid M 1 0), .inl (fun s => oI (ba (lr (wid M 1 0)) (wid M 1 0) (wid M 1 0) s)))) :: (uc.1 2, .inl (g 0, lr (wid M 1 0), .inl (fun r => nI (rsf (lr (wid M 1 0)) (wid M 1 0) r)))) :: (uc.1 1, .inl (g 0, (wid M 1 0), .inl (fun j => nI (if j < wid M 1 0 then cc_ (lr (wid M 1 0)) j else 0)))) :: (uc.1 0, .inr (4, [.int (nI (lr (wid M 1 0))), .ref (uc.1 1), .ref (uc.1 2), .ref (uc.1 3)])) :: (uc.2.1, .inl (g 3, 1, .inr (.inr (.inr (.inr (fun i => some (uc.1 (4 * i)))))))) :: wr) := hD
  refine lv_aload_n hx hb d_C_init_107 rfl (lv_at hl 0 rfl) ?_
  refine lv_iconst (v := (-1)) hx hb d_C_init_108 (by decide) ?_
  refine va_put (D := D) (ci := 0) (v := .int ((-1))) (ty := .int) (C := R_C) (T := F_C) (N := 17) hx hb hts i_C tf_C tf_C_ok nf_C hown hK hP hD hS 1 rfl rfl 14 (by decide) (hts _ m_217) (fun _ h9 => h9) rfl (by decide +kernel) rfl rfl (Nat.le_of_ble_eq_true rfl) d_C_init_109 (fun H locs hP hD hS => ?_)
  have hP : va_P D vwCl ((ac, .inl (g 0, 8, .inl (fun _ => nI 0))) :: (o, .inr (0, [.int (nI 0), .int (nI M), .int (nI (M + (frm M 1 1))), .long (lN (2 ^ M - 1)), .int (nI (2 ^ (frm M 1 1) - 1)), .ref oc, .ref tn, .int (nI 0), .int (nI 0), .long (lN 0), .int (nI 0), .int (nI 0), .ref ac, .int (nI 0), .int ((-1)), .null, .int (nI 0)])) :: (tn, .inr (5, [.long (lN 0), .int (nI 0)])) :: (oc, .inr (1, [.int (nI M), .int (nI (frm M 1 1)), .ref uc.2.2, .ref uc.2.1])) :: (uc.2.2, .inl (g 0, M, .inl (fun k => nI (mkS M 1 k)))) :: (uc.1 3, .inl (g 0, 2 ^ lr (wid M 1 0), .inl (fun s => oI (ba (lr (wid M 1 0)) (wid M 1 0) (wid M 1 0) s)))) :: (uc.1 2, .inl (g 0, lr (wid M 1 0), .inl (fun r => nI (rsf (lr (wid M 1 0)) (wid M 1 0) r)))) :: (uc.1 1, .inl (g 0, (wid M 1 0), .inl (fun j => nI (if j < wid M 1 0 then cc_ (lr (wid M 1 0)) j else 0)))) :: (uc.1 0, .inr (4, [.int (nI (lr (wid M 1 0))), .ref (uc.1 1), .ref (uc.1 2), .ref (uc.1 3)])) :: (uc.2.1, .inl (g 3, 1, .inr (.inr (.inr (.inr (fun i => some (uc.1 (4 * i)))))))) :: wr) H := hP
  have hD : va_D A ((ac, .inl (g 0, 8, .inl (fun _ => nI 0))) :: (o, .inr (0, [.int (nI 0), .int (nI M), .int (nI (M + (frm M 1 1))), .long (lN (2 ^ M - 1)), .int (nI (2 ^ (frm M 1 1) - 1)), .ref oc, .ref tn, .int (nI 0), .int (nI 0), .long (lN 0), .int (nI 0), .int (nI 0), .ref ac, .int (nI 0), .int ((-1)), .null, .int (nI 0)])) :: (tn, .inr (5, [.long (lN 0), .int (nI 0)])) :: (oc, .inr (1, [.int (nI M), .int (nI (frm M 1 1)), .ref uc.2.2, .ref uc.2.1])) :: (uc.2.2, .inl (g 0, M, .inl (fun k => nI (mkS M 1 k)))) :: (uc.1 3, .inl (g 0, 2 ^ lr (wid M 1 0), .inl (fun s => oI (ba (lr (wid M 1 0)) (wid M 1 0) (wid M 1 0) s)))) :: (uc.1 2, .inl (g 0, lr (wid M 1 0), .inl (fun r => nI (rsf (lr (wid M 1 0)) (wid M 1 0) r)))) :: (uc.1 1, .inl (g 0, (wid M 1 0), .inl (fun j => nI (if j < wid M 1 0 then cc_ (lr (wid M 1 0)) j else 0)))) :: (uc.1 0, .inr (4, [.int (nI (lr (wid M 1 0))), .ref (uc.1 1), .ref (uc.1 2), .ref (uc.1 3)])) :: (uc.2.1, .inl (g 3, 1, .inr (.inr (.inr (.inr (fun i => some (uc.1 (4 * i)))))))) :: wr) := hD
  refine lv_aload_n hx hb d_C_init_112 rfl (lv_at hl 0 rfl) ?_
  refine lv_bipush (v := nI 8) hx hb d_C_init_113 (by decide) ?_
  refine lx_newi (N := 8) hx hb (hts _ m_117) hK hP hD hS hA (by omega) (by first | omega | exact Nat.le_of_ble_eq_true rfl) (by first | omega | exact Nat.le_of_ble_eq_true rfl) d_C_init_115 (fun sp H hP hD hS => ?_)
  refine W.widen (k := 19 + 1 + 1 + 1) (n := 849 + 2 + 8 + 8) (by omega) (by omega) ?_
  have hP : va_P D vwCl ((sp, .inl (g 0, 8, .inl (fun _ => nI 0))) :: (ac, .inl (g 0, 8, .inl (fun _ => nI 0))) :: (o, .inr (0, [.int (nI 0), .int (nI M), .int (nI (M + (frm M 1 1))), .long (lN (2 ^ M - 1)), .int (nI (2 ^ (frm M 1 1) - 1)), .ref oc, .ref tn, .int (nI 0), .int (nI 0), .long (lN 0), .int (nI 0), .int (nI 0), .ref ac, .int (nI 0), .int ((-1)), .null, .int (nI 0)])) :: (tn, .inr (5, [.long (lN 0), .int (nI 0)])) :: (oc, .inr (1, [.int (nI M), .int (nI (frm M 1 1)), .ref uc.2.2, .ref uc.2.1])) :: (uc.2.2, .inl (g 0, M, .inl (fun k => nI (mkS M 1 k)))) :: (uc.1 3, .inl (g 0, 2 ^ lr (wid M 1 0), .inl (fun s => oI (ba (lr (wid M 1 0)) (wid M 1 0) (wid M 1 0) s)))) :: (uc.1 2, .inl (g 0, lr (wid M 1 0), .inl (fun r => nI (rsf (lr (wid M 1 0)) (wid M 1 0) r)))) :: (uc.1 1, .inl (g 0, (wid M 1 0), .inl (fun j => nI (if j < wid M 1 0 then cc_ (lr (wid M 1 0)) j else 0)))) :: (uc.1 0, .inr (4, [.int (nI (lr (wid M 1 0))), .ref (uc.1 1), .ref (uc.1 2), .ref (uc.1 3)])) :: (uc.2.1, .inl (g 3, 1, .inr (.inr (.inr (.inr (fun i => some (uc.1 (4 * i)))))))) :: wr) H := hP
  have hD : va_D A ((sp, .inl (g 0, 8, .inl (fun _ => nI 0))) :: (ac, .inl (g 0, 8, .inl (fun _ => nI 0))) :: (o, .inr (0, [.int (nI 0), .int (nI M), .int (nI (M + (frm M 1 1))), .long (lN (2 ^ M - 1)), .int (nI (2 ^ (frm M 1 1) - 1)), .ref oc, .ref tn, .int (nI 0), .int (nI 0), .long (lN 0), .int (nI 0), .int (nI 0), .ref ac, .int (nI 0), .int ((-1)), .null, .int (nI 0)])) :: (tn, .inr (5, [.long (lN 0), .int (nI 0)])) :: (oc, .inr (1, [.int (nI M), .int (nI (frm M 1 1)), .ref uc.2.2, .ref uc.2.1])) :: (uc.2.2, .inl (g 0, M, .inl (fun k => nI (mkS M 1 k)))) :: (uc.1 3, .inl (g 0, 2 ^ lr (wid M 1 0), .inl (fun s => oI (ba (lr (wid M 1 0)) (wid M 1 0) (wid M 1 0) s)))) :: (uc.1 2, .inl (g 0, lr (wid M 1 0), .inl (fun r => nI (rsf (lr (wid M 1 0)) (wid M 1 0) r)))) :: (uc.1 1, .inl (g 0, (wid M 1 0), .inl (fun j => nI (if j < wid M 1 0 then cc_ (lr (wid M 1 0)) j else 0)))) :: (uc.1 0, .inr (4, [.int (nI (lr (wid M 1 0))), .ref (uc.1 1), .ref (uc.1 2), .ref (uc.1 3)])) :: (uc.2.1, .inl (g 3, 1, .inr (.inr (.inr (.inr (fun i => some (uc.1 (4 * i)))))))) :: wr) := hD
  refine va_putF (D := D) (ci := 0) (v := .ref sp) (ty := .array .int) (C := R_C) (T := F_C) (N := 17) hx hb hts i_C tf_C tf_C_ok nf_C hown hK hP hD hS 2 rfl rfl 15 (by decide) (hts _ m_218) (fun _ h9 => h9) rfl hin rfl (by decide +kernel) rfl rfl (Nat.le_of_ble_eq_true rfl) d_C_init_117 (fun H locs hP hD hS => ?_)
  have hP : va_P D vwCl ((sp, .inl (g 0, 8, .inl (fun _ => nI 0))) :: (ac, .inl (g 0, 8, .inl (fun _ => nI 0))) :: (o, .inr (0, [.int (nI 0), .int (nI M), .int (nI (M + (frm M 1 1))), .long (lN (2 ^ M - 1)), .int (nI (2 ^ (frm M 1 1) - 1)), .ref oc, .ref tn, .int (nI 0), .int (nI 0), .long (lN 0), .int (nI 0), .int (nI 0), .ref ac, .int (nI 0), .int ((-1)), .ref sp, .int (nI 0)])) :: (tn, .inr (5, [.long (lN 0), .int (nI 0)])) :: (oc, .inr (1, [.int (nI M), .int (nI (frm M 1 1)), .ref uc.2.2, .ref uc.2.1])) :: (uc.2.2, .inl (g 0, M, .inl (fun k => nI (mkS M 1 k)))) :: (uc.1 3, .inl (g 0, 2 ^ lr (wid M 1 0), .inl (fun s => oI (ba (lr (wid M 1 0)) (wid M 1 0) (wid M 1 0) s)))) :: (uc.1 2, .inl (g 0, lr (wid M 1 0), .inl (fun r => nI (rsf (lr (wid M 1 0)) (wid M 1 0) r)))) :: (uc.1 1, .inl (g 0, (wid M 1 0), .inl (fun j => nI (if j < wid M 1 0 then cc_ (lr (wid M 1 0)) j else 0)))) :: (uc.1 0, .inr (4, [.int (nI (lr (wid M 1 0))), .ref (uc.1 1), .ref (uc.1 2), .ref (uc.1 3)])) :: (uc.2.1, .inl (g 3, 1, .inr (.inr (.inr (.inr (fun i => some (uc.1 (4 * i)))))))) :: wr) H := hP
  have hD : va_D A ((sp, .inl (g 0, 8, .inl (fun _ => nI 0))) :: (ac, .inl (g 0, 8, .inl (fun _ => nI 0))) :: (o, .inr (0, [.int (nI 0), .int (nI M), .int (nI (M + (frm M 1 1))), .long (lN (2 ^ M - 1)), .int (nI (2 ^ (frm M 1 1) - 1)), .ref oc, .ref tn, .int (nI 0), .int (nI 0), .long (lN 0), .int (nI 0), .int (nI 0), .ref ac, .int (nI 0), .int ((-1)), .ref sp, .int (nI 0)])) :: (tn, .inr (5, [.long (lN 0), .int (nI 0)])) :: (oc, .inr (1, [.int (nI M), .int (nI (frm M 1 1)), .ref uc.2.2, .ref uc.2.1])) :: (uc.2.2, .inl (g 0, M, .inl (fun k => nI (mkS M 1 k)))) :: (uc.1 3, .inl (g 0, 2 ^ lr (wid M 1 0), .inl (fun s => oI (ba (lr (wid M 1 0)) (wid M 1 0) (wid M 1 0) s)))) :: (uc.1 2, .inl (g 0, lr (wid M 1 0), .inl (fun r => nI (rsf (lr (wid M 1 0)) (wid M 1 0) r)))) :: (uc.1 1, .inl (g 0, (wid M 1 0), .inl (fun j => nI (if j < wid M 1 0 then cc_ (lr (wid M 1 0)) j else 0)))) :: (uc.1 0, .inr (4, [.int (nI (lr (wid M 1 0))), .ref (uc.1 1), .ref (uc.1 2), .ref (uc.1 3)])) :: (uc.2.1, .inl (g 3, 1, .inr (.inr (.inr (.inr (fun i => some (uc.1 (4 * i)))))))) :: wr) := hD
  have hP : va_P D vwCl ((ac, .inl (g 0, 8, .inl (fun _ => nI 0))) :: (sp, .inl (g 0, 8, .inl (fun _ => nI 0))) :: (o, .inr (0, [.int (nI 0), .int (nI M), .int (nI (M + (frm M 1 1))), .long (lN (2 ^ M - 1)), .int (nI (2 ^ (frm M 1 1) - 1)), .ref oc, .ref tn, .int (nI 0), .int (nI 0), .long (lN 0), .int (nI 0), .int (nI 0), .ref ac, .int (nI 0), .int ((-1)), .ref sp, .int (nI 0)])) :: (tn, .inr (5, [.long (lN 0), .int (nI 0)])) :: (oc, .inr (1, [.int (nI M), .int (nI (frm M 1 1)), .ref uc.2.2, .ref uc.2.1])) :: (uc.2.2, .inl (g 0, M, .inl (fun k => nI (mkS M 1 k)))) :: (uc.1 3, .inl (g 0, 2 ^ lr (wid M 1 0), .inl (fun s => oI (ba (lr (wid M 1 0)) (wid M 1 0) (wid M 1 0) s)))) :: (uc.1 2, .inl (g 0, lr (wid M 1 0), .inl (fun r => nI (rsf (lr (wid M 1 0)) (wid M 1 0) r)))) :: (uc.1 1, .inl (g 0, (wid M 1 0), .inl (fun j => nI (if j < wid M 1 0 then cc_ (lr (wid M 1 0)) j else 0)))) :: (uc.1 0, .inr (4, [.int (nI (lr (wid M 1 0))), .ref (uc.1 1), .ref (uc.1 2), .ref (uc.1 3)])) :: (uc.2.1, .inl (g 3, 1, .inr (.inr (.inr (.inr (fun i => some (uc.1 (4 * i)))))))) :: wr) H := wp_pull [(sp, .inl (g 0, 8, .inl (fun _ => nI 0)))] hP
  have hD : va_D A ((ac, .inl (g 0, 8, .inl (fun _ => nI 0))) :: (sp, .inl (g 0, 8, .inl (fun _ => nI 0))) :: (o, .inr (0, [.int (nI 0), .int (nI M), .int (nI (M + (frm M 1 1))), .long (lN (2 ^ M - 1)), .int (nI (2 ^ (frm M 1 1) - 1)), .ref oc, .ref tn, .int (nI 0), .int (nI 0), .long (lN 0), .int (nI 0), .int (nI 0), .ref ac, .int (nI 0), .int ((-1)), .ref sp, .int (nI 0)])) :: (tn, .inr (5, [.long (lN 0), .int (nI 0)])) :: (oc, .inr (1, [.int (nI M), .int (nI (frm M 1 1)), .ref uc.2.2, .ref uc.2.1])) :: (uc.2.2, .inl (g 0, M, .inl (fun k => nI (mkS M 1 k)))) :: (uc.1 3, .inl (g 0, 2 ^ lr (wid M 1 0), .inl (fun s => oI (ba (lr (wid M 1 0)) (wid M 1 0) (wid M 1 0) s)))) :: (uc.1 2, .inl (g 0, lr (wid M 1 0), .inl (fun r => nI (rsf (lr (wid M 1 0)) (wid M 1 0) r)))) :: (uc.1 1, .inl (g 0, (wid M 1 0), .inl (fun j => nI (if j < wid M 1 0 then cc_ (lr (wid M 1 0)) j else 0)))) :: (uc.1 0, .inr (4, [.int (nI (lr (wid M 1 0))), .ref (uc.1 1), .ref (uc.1 2), .ref (uc.1 3)])) :: (uc.2.1, .inl (g 3, 1, .inr (.inr (.inr (.inr (fun i => some (uc.1 (4 * i)))))))) :: wr) := wd_pull [(sp, .inl (g 0, 8, .inl (fun _ => nI 0)))] hD
  have hP : va_P D vwCl ((o, .inr (0, [.int (nI 0), .int (nI M), .int (nI (M + (frm M 1 1))), .long (lN (2 ^ M - 1)), .int (nI (2 ^ (frm M 1 1) - 1)), .ref oc, .ref tn, .int (nI 0), .int (nI 0), .long (lN 0), .int (nI 0), .int (nI 0), .ref ac, .int (nI 0), .int ((-1)), .ref sp, .int (nI 0)])) :: (ac, .inl (g 0, 8, .inl (fun _ => nI 0))) :: (sp, .inl (g 0, 8, .inl (fun _ => nI 0))) :: (tn, .inr (5, [.long (lN 0), .int (nI 0)])) :: (oc, .inr (1, [.int (nI M), .int (nI (frm M 1 1)), .ref uc.2.2, .ref uc.2.1])) :: (uc.2.2, .inl (g 0, M, .inl (fun k => nI (mkS M 1 k)))) :: (uc.1 3, .inl (g 0, 2 ^ lr (wid M 1 0), .inl (fun s => oI (ba (lr (wid M 1 0)) (wid M 1 0) (wid M 1 0) s)))) :: (uc.1 2, .inl (g 0, lr (wid M 1 0), .inl (fun r => nI (rsf (lr (wid M 1 0)) (wid M 1 0) r)))) :: (uc.1 1, .inl (g 0, (wid M 1 0), .inl (fun j => nI (if j < wid M 1 0 then cc_ (lr (wid M 1 0)) j else 0)))) :: (uc.1 0, .inr (4, [.int (nI (lr (wid M 1 0))), .ref (uc.1 1), .ref (uc.1 2), .ref (uc.1 3)])) :: (uc.2.1, .inl (g 3, 1, .inr (.inr (.inr (.inr (fun i => some (uc.1 (4 * i)))))))) :: wr) H := wp_pull [(ac, .inl (g 0, 8, .inl (fun _ => nI 0))), (sp, .inl (g 0, 8, .inl (fun _ => nI 0)))] hP
  have hD : va_D A ((o, .inr (0, [.int (nI 0), .int (nI M), .int (nI (M + (frm M 1 1))), .long (lN (2 ^ M - 1)), .int (nI (2 ^ (frm M 1 1) - 1)), .ref oc, .ref tn, .int (nI 0), .int (nI 0), .long (lN 0), .int (nI 0), .int (nI 0), .ref ac, .int (nI 0), .int ((-1)), .ref sp, .int (nI 0)])) :: (ac, .inl (g 0, 8, .inl (fun _ => nI 0))) :: (sp, .inl (g 0, 8, .inl (fun _ => nI 0))) :: (tn, .inr (5, [.long (lN 0), .int (nI 0)])) :: (oc, .inr (1, [.int (nI M), .int (nI (frm M 1 1)), .ref uc.2.2, .ref uc.2.1])) :: (uc.2.2, .inl (g 0, M, .inl (fun k => nI (mkS M 1 k)))) :: (uc.1 3, .inl (g 0, 2 ^ lr (wid M 1 0), .inl (fun s => oI (ba (lr (wid M 1 0)) (wid M 1 0) (wid M 1 0) s)))) :: (uc.1 2, .inl (g 0, lr (wid M 1 0), .inl (fun r => nI (rsf (lr (wid M 1 0)) (wid M 1 0) r)))) :: (uc.1 1, .inl (g 0, (wid M 1 0), .inl (fun j => nI (if j < wid M 1 0 then cc_ (lr (wid M 1 0)) j else 0)))) :: (uc.1 0, .inr (4, [.int (nI (lr (wid M 1 0))), .ref (uc.1 1), .ref (uc.1 2), .ref (uc.1 3)])) :: (uc.2.1, .inl (g 3, 1, .inr (.inr (.inr (.inr (fun i => some (uc.1 (4 * i)))))))) :: wr) := wd_pull [(ac, .inl (g 0, 8, .inl (fun _ => nI 0))), (sp, .inl (g 0, 8, .inl (fun _ => nI 0)))] hD
  have hP : va_P D vwCl ((tn, .inr (5, [.long (lN 0), .int (nI 0)])) :: (o, .inr (0, [.int (nI 0), .int (nI M), .int (nI (M + (frm M 1 1))), .long (lN (2 ^ M - 1)), .int (nI (2 ^ (frm M 1 1) - 1)), .ref oc, .ref tn, .int (nI 0), .int (nI 0), .long (lN 0), .int (nI 0), .int (nI 0), .ref ac, .int (nI 0), .int ((-1)), .ref sp, .int (nI 0)])) :: (ac, .inl (g 0, 8, .inl (fun _ => nI 0))) :: (sp, .inl (g 0, 8, .inl (fun _ => nI 0))) :: (oc, .inr (1, [.int (nI M), .int (nI (frm M 1 1)), .ref uc.2.2, .ref uc.2.1])) :: (uc.2.2, .inl (g 0, M, .inl (fun k => nI (mkS M 1 k)))) :: (uc.1 3, .inl (g 0, 2 ^ lr (wid M 1 0), .inl (fun s => oI (ba (lr (wid M 1 0)) (wid M 1 0) (wid M 1 0) s)))) :: (uc.1 2, .inl (g 0, lr (wid M 1 0), .inl (fun r => nI (rsf (lr (wid M 1 0)) (wid M 1 0) r)))) :: (uc.1 1, .inl (g 0, (wid M 1 0), .inl (fun j => nI (if j < wid M 1 0 then cc_ (lr (wid M 1 0)) j else 0)))) :: (uc.1 0, .inr (4, [.int (nI (lr (wid M 1 0))), .ref (uc.1 1), .ref (uc.1 2), .ref (uc.1 3)])) :: (uc.2.1, .inl (g 3, 1, .inr (.inr (.inr (.inr (fun i => some (uc.1 (4 * i)))))))) :: wr) H := wp_pull [(o, .inr (0, [.int (nI 0), .int (nI M), .int (nI (M + (frm M 1 1))), .long (lN (2 ^ M - 1)), .int (nI (2 ^ (frm M 1 1) - 1)), .ref oc, .ref tn, .int (nI 0), .int (nI 0), .long (lN 0), .int (nI 0), .int (nI 0), .ref ac, .int (nI 0), .int ((-1)), .ref sp, .int (nI 0)])), (ac, .inl (g 0, 8, .inl (fun _ => nI 0))), (sp, .inl (g 0, 8, .inl (fun _ => nI 0)))] hP
  have hD : va_D A ((tn, .inr (5, [.long (lN 0), .int (nI 0)])) :: (o, .inr (0, [.int (nI 0), .int (nI M), .int (nI (M + (frm M 1 1))), .long (lN (2 ^ M - 1)), .int (nI (2 ^ (frm M 1 1) - 1)), .ref oc, .ref tn, .int (nI 0), .int (nI 0), .long (lN 0), .int (nI 0), .int (nI 0), .ref ac, .int (nI 0), .int ((-1)), .ref sp, .int (nI 0)])) :: (ac, .inl (g 0, 8, .inl (fun _ => nI 0))) :: (sp, .inl (g 0, 8, .inl (fun _ => nI 0))) :: (oc, .inr (1, [.int (nI M), .int (nI (frm M 1 1)), .ref uc.2.2, .ref uc.2.1])) :: (uc.2.2, .inl (g 0, M, .inl (fun k => nI (mkS M 1 k)))) :: (uc.1 3, .inl (g 0, 2 ^ lr (wid M 1 0), .inl (fun s => oI (ba (lr (wid M 1 0)) (wid M 1 0) (wid M 1 0) s)))) :: (uc.1 2, .inl (g 0, lr (wid M 1 0), .inl (fun r => nI (rsf (lr (wid M 1 0)) (wid M 1 0) r)))) :: (uc.1 1, .inl (g 0, (wid M 1 0), .inl (fun j => nI (if j < wid M 1 0 then cc_ (lr (wid M 1 0)) j else 0)))) :: (uc.1 0, .inr (4, [.int (nI (lr (wid M 1 0))), .ref (uc.1 1), .ref (uc.1 2), .ref (uc.1 3)])) :: (uc.2.1, .inl (g 3, 1, .inr (.inr (.inr (.inr (fun i => some (uc.1 (4 * i)))))))) :: wr) := wd_pull [(o, .inr (0, [.int (nI 0), .int (nI M), .int (nI (M + (frm M 1 1))), .long (lN (2 ^ M - 1)), .int (nI (2 ^ (frm M 1 1) - 1)), .ref oc, .ref tn, .int (nI 0), .int (nI 0), .long (lN 0), .int (nI 0), .int (nI 0), .ref ac, .int (nI 0), .int ((-1)), .ref sp, .int (nI 0)])), (ac, .inl (g 0, 8, .inl (fun _ => nI 0))), (sp, .inl (g 0, 8, .inl (fun _ => nI 0)))] hD
  have hcw : CodeW g 0 M oc [(oc, .inr (1, [.int (nI M), .int (nI (frm M 1 1)), .ref uc.2.2, .ref uc.2.1])), (uc.2.2, .inl (g 0, M, .inl (fun k => nI (mkS M 1 k)))), (uc.1 3, .inl (g 0, 2 ^ lr (wid M 1 0), .inl (fun s => oI (ba (lr (wid M 1 0)) (wid M 1 0) (wid M 1 0) s)))), (uc.1 2, .inl (g 0, lr (wid M 1 0), .inl (fun r => nI (rsf (lr (wid M 1 0)) (wid M 1 0) r)))), (uc.1 1, .inl (g 0, (wid M 1 0), .inl (fun j => nI (if j < wid M 1 0 then cc_ (lr (wid M 1 0)) j else 0)))), (uc.1 0, .inr (4, [.int (nI (lr (wid M 1 0))), .ref (uc.1 1), .ref (uc.1 2), .ref (uc.1 3)])), (uc.2.1, .inl (g 3, 1, .inr (.inr (.inr (.inr (fun i => some (uc.1 (4 * i))))))))] := Or.inl ⟨rfl, ⟨0, 1, uc.2.2, 6, uc.2.1, fun i => some (uc.1 (4 * i)), (fun _ => 5), (fun _ => 4), (fun _ => 3), (fun _ => 2), fun i => uc.1 (4 * i), fun i => uc.1 (4 * i + 1), fun i => uc.1 (4 * i + 2), fun i => uc.1 (4 * i + 3), rfl, rfl, rfl, fun i _ => rfl, fun i hi => by obtain rfl : i = 0 := (by omega); rfl, fun i hi => by obtain rfl : i = 0 := (by omega); rfl, fun i hi => by obtain rfl : i = 0 := (by omega); rfl, fun i hi => by obtain rfl : i = 0 := (by omega); rfl⟩⟩
  refine W.widen (k := 23) (n := 884) (by omega) (by omega) ?_
  rw [← hQ]
  refine W.vret hx hb hr ?_ hS.2.2 d_C_init_120
  exact fun t ht hW => ⟨⟨(tn, ac, sp, oc, [(oc, .inr (1, [.int (nI M), .int (nI (frm M 1 1)), .ref uc.2.2, .ref uc.2.1])), (uc.2.2, .inl (g 0, M, .inl (fun k => nI (mkS M 1 k)))), (uc.1 3, .inl (g 0, 2 ^ lr (wid M 1 0), .inl (fun s => oI (ba (lr (wid M 1 0)) (wid M 1 0) (wid M 1 0) s)))), (uc.1 2, .inl (g 0, lr (wid M 1 0), .inl (fun r => nI (rsf (lr (wid M 1 0)) (wid M 1 0) r)))), (uc.1 1, .inl (g 0, (wid M 1 0), .inl (fun j => nI (if j < wid M 1 0 then cc_ (lr (wid M 1 0)) j else 0)))), (uc.1 0, .inr (4, [.int (nI (lr (wid M 1 0))), .ref (uc.1 1), .ref (uc.1 2), .ref (uc.1 3)])), (uc.2.1, .inl (g 3, 1, .inr (.inr (.inr (.inr (fun i => some (uc.1 (4 * i))))))))]), rfl, hcw, by rw [ht]; exact hP, hD⟩, hS.F ht⟩
set_option maxHeartbeats 4000000 in
set_option maxRecDepth 100000 in
theorem c_C_init_1 (l : Launch) (D : va_G) (g : Nat → ClassId) (sz : Nat) (wr : va_W) (o : Nat) (b0 k0 : Int32) (M : Nat) (hMd : M = mOf b0) (hkd : kdOf k0 = 1) : Met l y_C_init w_C_init rm_C_init (va_Pc [.ref o, .int (b0), .int (k0)] (pP D (tyl g) ((o, .inr (0, [.int (nI 0), .int (nI 0), .int (nI 0), .long (lN 0), .int (nI 0), .null, .null, .int (nI 0), .int (nI 0), .long (lN 0), .int (nI 0), .int (nI 0), .null, .int (nI 0), .int (nI 0), .null, .int (nI 0)])) :: wr) sz)) (va_Qv (fun (u : (Nat × Nat × Nat × Nat × va_W)) => CodeW g 1 M u.2.2.2.1 u.2.2.2.2) (fun u => qB D (va_A ((o, .inr (0, [.int (nI 0), .int (nI 0), .int (nI 0), .long (lN 0), .int (nI 0), .null, .null, .int (nI 0), .int (nI 0), .long (lN 0), .int (nI 0), .int (nI 0), .null, .int (nI 0), .int (nI 0), .null, .int (nI 0)])) :: wr) sz) ((u.1, .inr (5, [.long (lN 0), .int (nI 0)])) :: (o, .inr (0, [.int (nI 1), .int (nI M), .int (nI (M + (min M 4))), .long (lN (2 ^ M - 1)), .int (nI (2 ^ (min M 4) - 1)), .ref u.2.2.2.1, .ref u.1, .int (nI 0), .int (nI 0), .long (lN 0), .int (nI 0), .int (nI 0), .ref u.2.1, .int (nI 0), .int ((-1)), .ref u.2.2.1, .int (nI 0)])) :: (u.2.1, .inl (g 0, 8, .inl (fun _ => nI 0))) :: (u.2.2.1, .inl (g 0, 8, .inl (fun _ => nI 0))) :: (u.2.2.2.2 ++ wr))) (va_A ((o, .inr (0, [.int (nI 0), .int (nI 0), .int (nI 0), .long (lN 0), .int (nI 0), .null, .null, .int (nI 0), .int (nI 0), .long (lN 0), .int (nI 0), .int (nI 0), .null, .int (nI 0), .int (nI 0), .null, .int (nI 0)])) :: wr) sz)) 23 884 (va_A ((o, .inr (0, [.int (nI 0), .int (nI 0), .int (nI 0), .long (lN 0), .int (nI 0), .null, .null, .int (nI 0), .int (nI 0), .long (lN 0), .int (nI 0), .int (nI 0), .null, .int (nI 0), .int (nI 0), .null, .int (nI 0)])) :: wr) sz) := by
  refine Met.ofW (cc := b_C_init) (maxL := 3) (ret := none) (by decide +kernel) rfl ?_
  intro p e s m args below meth c s₁ Bq hml hv
  have hx := Bq.exec
  have hb := Bq.bytes
  have hr := Bq.returns
  have hts : ∀ w ∈ wA, w.before args s = true := fun w h => atoms_spec (ws := w_C_init) Bq.pre w (List.mem_cons_of_mem _ h)
  have hown : s.vm.findClass R_C = some m.cls := findClass_of_methodNamed Bq.named
  have hlocks := Bq.notSynchronized
  have hin : meth.name = "<init>" := (name_of_methodNamed Bq.named Bq.method).1
  obtain ⟨rfl, hsz, hP, hKK, hD0⟩ := hv
  have hK := hKK.1
  subst hsz
  have hD := hD0.self (sz := s.heap.size)
  generalize hAe : va_A ((o, .inr (0, [.int (nI 0), .int (nI 0), .int (nI 0), .long (lN 0), .int (nI 0), .null, .null, .int (nI 0), .int (nI 0), .long (lN 0), .int (nI 0), .int (nI 0), .null, .int (nI 0), .int (nI 0), .null, .int (nI 0)])) :: wr) s.heap.size = A at hD ⊢
  have hA : ∀ q : Nat, s.heap.size ≤ q → A q := fun q h => by rw [← hAe]; exact Or.inr h
  have hS : va_S A s.heap s.heap [] := va_S.rf
  have hl := lv_entry ([.ref o, .int (b0), .int (k0)]) (n := 3) (Nat.le_of_ble_eq_true rfl)
  rw [lg_entry_eq]
  generalize (lg_sl ([.ref o, .int (b0), .int (k0)]) ++ List.replicate (3 - (lg_sl ([.ref o, .int (b0), .int (k0)])).length) Slot.unset).toArray = ls at hl ⊢
  have hl : lv_has ls 3 [(0, .ref o), (1, .int (b0)), (2, .int (k0))] := hl
  generalize hQ : MQ below (va_Qv (fun (u : (Nat × Nat × Nat × Nat × va_W)) => CodeW g 1 M u.2.2.2.1 u.2.2.2.2) (fun u => qB D (A) ((u.1, .inr (5, [.long (lN 0), .int (nI 0)])) :: (o, .inr (0, [.int (nI 1), .int (nI M), .int (nI (M + (min M 4))), .long (lN (2 ^ M - 1)), .int (nI (2 ^ (min M 4) - 1)), .ref u.2.2.2.1, .ref u.1, .int (nI 0), .int (nI 0), .long (lN 0), .int (nI 0), .int (nI 0), .ref u.2.1, .int (nI 0), .int ((-1)), .ref u.2.2.1, .int (nI 0)])) :: (u.2.1, .inl (g 0, 8, .inl (fun _ => nI 0))) :: (u.2.2.1, .inl (g 0, 8, .inl (fun _ => nI 0))) :: (u.2.2.2.2 ++ wr))) (A)) [.ref o, .int (b0), .int (k0)].toArray s 23 884 A = Q
  have hRc : (headSpec w_C_init rm_C_init).room.cells = 23 := rfl
  have hRs : (headSpec w_C_init rm_C_init).room.slots = 884 := rfl
  have hMi : 0 < M ∧ M ≤ 57 := by rw [hMd]; exact mOf_in b0
  have hck : min M 4 ≤ 28 := ckb_le 1 M
  have bl := b0.le_toInt
  have bu := b0.toInt_lt
  have hi1 := i2l_1 b0
  refine lv_aload_n hx hb d_C_init_0 rfl (lv_at hl 0 rfl) ?_
  refine W.objInit hx hb hown (hts _ m_52) (hts _ m_53) (hts _ m_54) rfl (by rw [hml]; exact hl.1) rfl d_C_init_1 (Nat.le_of_ble_eq_true rfl) (Nat.le_of_ble_eq_true rfl) ?_
  refine W.eq (g2 := F0 m 4 ls []) rfl ?_
  refine lv_aload_n hx hb d_C_init_4 rfl (lv_at hl 0 rfl) ?_
  refine lv_iconst (v := nI 1) hx hb d_C_init_5 (by decide) ?_
  refine lv_iload_n hx hb d_C_init_6 rfl (lv_at hl 1 rfl) ?_
  refine lv_i2l (v := b0.toInt64) hx hb d_C_init_7 (rfl) ?_
  refine lv_lconst (v := lN 1) hx hb d_C_init_8 (by decide) ?_
  refine lx_lsub (z := b0.toInt64 - lN 1) hx hb d_C_init_9 (rfl) ?_
  refine lv_ldc2 (v := 57) hx hb hown (hts _ m_55) d_C_init_10 ?_
  refine lv_topl (fun y1 ey1 => ?_)
  obtain rfl : y1 = lN 57 := ey1.trans (by decide)
  refine lc_Sl (As := [.long (b0.toInt64 - lN 1), .long (lN 57)]) (rest := [.int (nI 1), .ref o]) ⟨hx, hb, hml, hown, hts⟩ (c_JM_floorMod l D g _ _ (b0.toInt64 - lN 1) (by omega) (by omega)) (kS 2 hts m_58 m_56 m_57 m_30 (by decide +kernel) ⟨Nat.le_of_ble_eq_true rfl, Nat.le_of_ble_eq_true rfl⟩) hKK hP hD hS hA hl.1 rfl rfl (Nat.le_of_ble_eq_true rfl) d_C_init_13 ⟨Nat.le_of_ble_eq_true rfl, Nat.le_of_ble_eq_true rfl⟩ (fun r1 u H locs e1 hP hD hS => ?_)
  obtain rfl : r1 = lN (((b0.toInt - 1) % 57).toNat) := by rw [e1, hi1]
  refine lv_l2i (v := nI (((b0.toInt - 1) % 57).toNat)) hx hb d_C_init_16 (lN_i (((b0.toInt - 1) % 57).toNat)) ?_
  refine lx_iadd (z := nI M) hx hb d_C_init_17 ((nI_add 1 ((b0.toInt - 1) % 57).toNat).trans (by rw [hMd]; rfl)) ?_
  refine va_putF (D := D) (ci := 0) (v := .int (nI M)) (ty := .int) (C := R_C) (T := F_C) (N := 17) hx hb hts i_C tf_C tf_C_ok nf_C hown hK hP hD hS 0 rfl rfl 1 (by decide) (hts _ m_204) (fun _ h9 => h9) rfl hin rfl (by decide +kernel) rfl rfl (Nat.le_of_ble_eq_true rfl) d_C_init_18 (fun H locs hP hD hS => ?_)
  have hP : va_P D vwCl ((o, .inr (0, [.int (nI 0), .int (nI M), .int (nI 0), .long (lN 0), .int (nI 0), .null, .null, .int (nI 0), .int (nI 0), .long (lN 0), .int (nI 0), .int (nI 0), .null, .int (nI 0), .int (nI 0), .null, .int (nI 0)])) :: wr) H := hP
  have hD : va_D A ((o, .inr (0, [.int (nI 0), .int (nI M), .int (nI 0), .long (lN 0), .int (nI 0), .null, .null, .int (nI 0), .int (nI 0), .long (lN 0), .int (nI 0), .int (nI 0), .null, .int (nI 0), .int (nI 0), .null, .int (nI 0)])) :: wr) := hD
  refine lv_aload_n hx hb d_C_init_21 rfl (lv_at hl 0 rfl) ?_
  refine lv_iload_n hx hb d_C_init_22 rfl (lv_at hl 2 rfl) ?_
  refine lv_iconst (v := nI 4) hx hb d_C_init_23 (by decide) ?_
  refine lc_Si (As := [.int (k0), .int (nI 4)]) (rest := [.ref o]) ⟨hx, hb, hml, hown, hts⟩ (c_JM_floorMod2 l D g _ _ k0) (kS 2 hts m_61 m_59 m_60 m_30 (by decide +kernel) ⟨Nat.le_of_ble_eq_true rfl, Nat.le_of_ble_eq_true rfl⟩) hKK hP hD hS hA hl.1 rfl rfl (Nat.le_of_ble_eq_true rfl) d_C_init_24 ⟨Nat.le_of_ble_eq_true rfl, Nat.le_of_ble_eq_true rfl⟩ (fun r2 u H locs e2 hP hD hS => ?_)
  obtain rfl : r2 = nI 1 := by rw [e2, hkd]
  refine va_putF (D := D) (ci := 0) (v := .int (nI 1)) (ty := .int) (C := R_C) (T := F_C) (N := 17) hx hb hts i_C tf_C tf_C_ok nf_C hown hK hP hD hS 0 rfl rfl 0 (by decide) (hts _ m_203) (fun _ h9 => h9) rfl hin rfl (by decide +kernel) rfl rfl (Nat.le_of_ble_eq_true rfl) d_C_init_27 (fun H locs hP hD hS => ?_)
  have hP : va_P D vwCl ((o, .inr (0, [.int (nI 1), .int (nI M), .int (nI 0), .long (lN 0), .int (nI 0), .null, .null, .int (nI 0), .int (nI 0), .long (lN 0), .int (nI 0), .int (nI 0), .null, .int (nI 0), .int (nI 0), .null, .int (nI 0)])) :: wr) H := hP
  have hD : va_D A ((o, .inr (0, [.int (nI 1), .int (nI M), .int (nI 0), .long (lN 0), .int (nI 0), .null, .null, .int (nI 0), .int (nI 0), .long (lN 0), .int (nI 0), .int (nI 0), .null, .int (nI 0), .int (nI 0), .null, .int (nI 0)])) :: wr) := hD
  refine lv_aload_n hx hb d_C_init_30 rfl (lv_at hl 0 rfl) ?_
  refine lv_aload_n hx hb d_C_init_31 rfl (lv_at hl 0 rfl) ?_
  refine va_get (D := D) (ci := 0) (v := .int (nI 1)) (C := R_C) (T := F_C) (N := 17) hx hb hts i_C hown hK hP 0 rfl rfl 0 (by decide) (hts _ m_203) (fun _ h9 => h9) rfl d_C_init_32 ?_
  refine lv_aload_n hx hb d_C_init_35 rfl (lv_at hl 0 rfl) ?_
  refine va_get (D := D) (ci := 0) (v := .int (nI M)) (C := R_C) (T := F_C) (N := 17) hx hb hts i_C hown hK hP 0 rfl rfl 1 (by decide) (hts _ m_204) (fun _ h9 => h9) rfl d_C_init_36 ?_
  refine lc_Sr (As := [.int (nI 1), .int (nI M)]) (rest := [.ref o]) ⟨hx, hb, hml, hown, hts⟩ (c_C_codeOf_1 l D g _ _ M hMi.1 hMi.2) (kS 2 hts m_64 m_62 m_63 m_29 (by decide +kernel) ⟨Nat.le_of_ble_eq_true rfl, Nat.le_of_ble_eq_true rfl⟩) hKK hP hD hS hA hl.1 rfl rfl (Nat.le_of_ble_eq_true rfl) d_C_init_39 ⟨Nat.le_of_ble_eq_true rfl, Nat.le_of_ble_eq_true rfl⟩ (fun uc oc H locs _ hP hD hS => ?_)
  refine W.widen (k := 19) (n := 849) (by omega) (by omega) ?_
  have hP : va_P D vwCl ((oc, .inr (2, [.int (nI M), .int (nI (min M 4)), .ref uc])) :: (uc, .inl (g 0, M, .inl (fun j => nI (if j < M then mkP (min M 4) j else 0)))) :: (o, .inr (0, [.int (nI 1), .int (nI M), .int (nI 0), .long (lN 0), .int (nI 0), .null, .null, .int (nI 0), .int (nI 0), .long (lN 0), .int (nI 0), .int (nI 0), .null, .int (nI 0), .int (nI 0), .null, .int (nI 0)])) :: wr) H := hP
  have hD : va_D A ((oc, .inr (2, [.int (nI M), .int (nI (min M 4)), .ref uc])) :: (uc, .inl (g 0, M, .inl (fun j => nI (if j < M then mkP (min M 4) j else 0)))) :: (o, .inr (0, [.int (nI 1), .int (nI M), .int (nI 0), .long (lN 0), .int (nI 0), .null, .null, .int (nI 0), .int (nI 0), .long (lN 0), .int (nI 0), .int (nI 0), .null, .int (nI 0), .int (nI 0), .null, .int (nI 0)])) :: wr) := hD
  have hP : va_P D vwCl ((o, .inr (0, [.int (nI 1), .int (nI M), .int (nI 0), .long (lN 0), .int (nI 0), .null, .null, .int (nI 0), .int (nI 0), .long (lN 0), .int (nI 0), .int (nI 0), .null, .int (nI 0), .int (nI 0), .null, .int (nI 0)])) :: (oc, .inr (2, [.int (nI M), .int (nI (min M 4)), .ref uc])) :: (uc, .inl (g 0, M, .inl (fun j => nI (if j < M then mkP (min M 4) j else 0)))) :: wr) H := wp_pull [(oc, .inr (2, [.int (nI M), .int (nI (min M 4)), .ref uc])), (uc, .inl (g 0, M, .inl (fun j => nI (if j < M then mkP (min M 4) j else 0))))] hP
  have hD : va_D A ((o, .inr (0, [.int (nI 1), .int (nI M), .int (nI 0), .long (lN 0), .int (nI 0), .null, .null, .int (nI 0), .int (nI 0), .long (lN 0), .int (nI 0), .int (nI 0), .null, .int (nI 0), .int (nI 0), .null, .int (nI 0)])) :: (oc, .inr (2, [.int (nI M), .int (nI (min M 4)), .ref uc])) :: (uc, .inl (g 0, M, .inl (fun j => nI (if j < M then mkP (min M 4) j else 0)))) :: wr) := wd_pull [(oc, .inr (2, [.int (nI M), .int (nI (min M 4)), .ref uc])), (uc, .inl (g 0, M, .inl (fun j => nI (if j < M then mkP (min M 4) j else 0))))] hD
  refine va_putF (D := D) (ci := 0) (v := .ref oc) (ty := .object "CheckCodes$Code") (C := R_C) (T := F_C) (N := 17) hx hb hts i_C tf_C tf_C_ok nf_C hown hK hP hD hS 0 rfl rfl 5 (by decide) (hts _ m_208) (fun _ h9 => h9) rfl hin rfl (by decide +kernel) rfl rfl (Nat.le_of_ble_eq_true rfl) d_C_init_42 (fun H locs hP hD hS => ?_)
  have hP : va_P D vwCl ((o, .inr (0, [.int (nI 1), .int (nI M), .int (nI 0), .long (lN 0), .int (nI 0), .ref oc, .null, .int (nI 0), .int (nI 0), .long (lN 0), .int (nI 0), .int (nI 0), .null, .int (nI 0), .int (nI 0), .null, .int (nI 0)])) :: (oc, .inr (2, [.int (nI M), .int (nI (min M 4)), .ref uc])) :: (uc, .inl (g 0, M, .inl (fun j => nI (if j < M then mkP (min M 4) j else 0)))) :: wr) H := hP
  have hD : va_D A ((o, .inr (0, [.int (nI 1), .int (nI M), .int (nI 0), .long (lN 0), .int (nI 0), .ref oc, .null, .int (nI 0), .int (nI 0), .long (lN 0), .int (nI 0), .int (nI 0), .null, .int (nI 0), .int (nI 0), .null, .int (nI 0)])) :: (oc, .inr (2, [.int (nI M), .int (nI (min M 4)), .ref uc])) :: (uc, .inl (g 0, M, .inl (fun j => nI (if j < M then mkP (min M 4) j else 0)))) :: wr) := hD
  refine lv_aload_n hx hb d_C_init_45 rfl (lv_at hl 0 rfl) ?_
  refine lv_aload_n hx hb d_C_init_46 rfl (lv_at hl 0 rfl) ?_
  refine va_get (D := D) (ci := 0) (v := .int (nI M)) (C := R_C) (T := F_C) (N := 17) hx hb hts i_C hown hK hP 0 rfl rfl 1 (by decide) (hts _ m_204) (fun _ h9 => h9) rfl d_C_init_47 ?_
  refine lv_aload_n hx hb d_C_init_50 rfl (lv_at hl 0 rfl) ?_
  refine va_get (D := D) (ci := 0) (v := .ref oc) (C := R_C) (T := F_C) (N := 17) hx hb hts i_C hown hK hP 0 rfl rfl 5 (by decide) (hts _ m_208) (fun _ h9 => h9) rfl d_C_init_51 ?_
  refine va_get (D := D) (ci := 2) (v := .int (nI (min M 4))) (C := R_P) (T := F_P) (N := 3) hx hb hts i_P hown hK hP 1 rfl rfl 1 (by decide) (hts _ m_138) (fun _ h9 => h9) rfl d_C_init_54 ?_
  refine lx_iadd (z := nI (M + (min M 4))) hx hb d_C_init_57 (nI_add _ _) ?_
  refine va_putF (D := D) (ci := 0) (v := .int (nI (M + (min M 4)))) (ty := .int) (C := R_C) (T := F_C) (N := 17) hx hb hts i_C tf_C tf_C_ok nf_C hown hK hP hD hS 0 rfl rfl 2 (by decide) (hts _ m_205) (fun _ h9 => h9) rfl hin rfl (by decide +kernel) rfl rfl (Nat.le_of_ble_eq_true rfl) d_C_init_58 (fun H locs hP hD hS => ?_)
  have hP : va_P D vwCl ((o, .inr (0, [.int (nI 1), .int (nI M), .int (nI (M + (min M 4))), .long (lN 0), .int (nI 0), .ref oc, .null, .int (nI 0), .int (nI 0), .long (lN 0), .int (nI 0), .int (nI 0), .null, .int (nI 0), .int (nI 0), .null, .int (nI 0)])) :: (oc, .inr (2, [.int (nI M), .int (nI (min M 4)), .ref uc])) :: (uc, .inl (g 0, M, .inl (fun j => nI (if j < M then mkP (min M 4) j else 0)))) :: wr) H := hP
  have hD : va_D A ((o, .inr (0, [.int (nI 1), .int (nI M), .int (nI (M + (min M 4))), .long (lN 0), .int (nI 0), .ref oc, .null, .int (nI 0), .int (nI 0), .long (lN 0), .int (nI 0), .int (nI 0), .null, .int (nI 0), .int (nI 0), .null, .int (nI 0)])) :: (oc, .inr (2, [.int (nI M), .int (nI (min M 4)), .ref uc])) :: (uc, .inl (g 0, M, .inl (fun j => nI (if j < M then mkP (min M 4) j else 0)))) :: wr) := hD
  refine lv_aload_n hx hb d_C_init_61 rfl (lv_at hl 0 rfl) ?_
  refine lv_lconst (v := lN 1) hx hb d_C_init_62 (by decide) ?_
  refine lv_aload_n hx hb d_C_init_63 rfl (lv_at hl 0 rfl) ?_
  refine va_get (D := D) (ci := 0) (v := .int (nI M)) (C := R_C) (T := F_C) (N := 17) hx hb hts i_C hown hK hP 0 rfl rfl 1 (by decide) (hts _ m_204) (fun _ h9 => h9) rfl d_C_init_64 ?_
  refine lv_lshl (v := lN (2 ^ M)) hx hb d_C_init_67 ((xl_shl 1 (by omega)).trans (by rw [Nat.one_shiftLeft])) ?_
  refine lv_lconst (v := lN 1) hx hb d_C_init_68 (by decide) ?_
  refine lx_lsub (z := lN (2 ^ M - 1)) hx hb d_C_init_69 (lN_sub Nat.one_le_two_pow) ?_
  refine va_putF (D := D) (ci := 0) (v := .long (lN (2 ^ M - 1))) (ty := .long) (C := R_C) (T := F_C) (N := 17) hx hb hts i_C tf_C tf_C_ok nf_C hown hK hP hD hS 0 rfl rfl 3 (by decide) (hts _ m_206) (fun _ h9 => h9) rfl hin rfl (by decide +kernel) rfl rfl (Nat.le_of_ble_eq_true rfl) d_C_init_70 (fun H locs hP hD hS => ?_)
  have hP : va_P D vwCl ((o, .inr (0, [.int (nI 1), .int (nI M), .int (nI (M + (min M 4))), .long (lN (2 ^ M - 1)), .int (nI 0), .ref oc, .null, .int (nI 0), .int (nI 0), .long (lN 0), .int (nI 0), .int (nI 0), .null, .int (nI 0), .int (nI 0), .null, .int (nI 0)])) :: (oc, .inr (2, [.int (nI M), .int (nI (min M 4)), .ref uc])) :: (uc, .inl (g 0, M, .inl (fun j => nI (if j < M then mkP (min M 4) j else 0)))) :: wr) H := hP
  have hD : va_D A ((o, .inr (0, [.int (nI 1), .int (nI M), .int (nI (M + (min M 4))), .long (lN (2 ^ M - 1)), .int (nI 0), .ref oc, .null, .int (nI 0), .int (nI 0), .long (lN 0), .int (nI 0), .int (nI 0), .null, .int (nI 0), .int (nI 0), .null, .int (nI 0)])) :: (oc, .inr (2, [.int (nI M), .int (nI (min M 4)), .ref uc])) :: (uc, .inl (g 0, M, .inl (fun j => nI (if j < M then mkP (min M 4) j else 0)))) :: wr) := hD
  refine lv_aload_n hx hb d_C_init_73 rfl (lv_at hl 0 rfl) ?_
  refine lv_iconst (v := nI 1) hx hb d_C_init_74 (by decide) ?_
  refine lv_aload_n hx hb d_C_init_75 rfl (lv_at hl 0 rfl) ?_
  refine va_get (D := D) (ci := 0) (v := .ref oc) (C := R_C) (T := F_C) (N := 17) hx hb hts i_C hown hK hP 0 rfl rfl 5 (by decide) (hts _ m_208) (fun _ h9 => h9) rfl d_C_init_76 ?_
  refine va_get (D := D) (ci := 2) (v := .int (nI (min M 4))) (C := R_P) (T := F_P) (N := 3) hx hb hts i_P hown hK hP 1 rfl rfl 1 (by decide) (hts _ m_138) (fun _ h9 => h9) rfl d_C_init_79 ?_
  refine lx_ishl (z := nI (2 ^ (min M 4))) hx hb d_C_init_82 ((xn_shl 1 (by omega)).trans (by rw [Nat.one_shiftLeft])) ?_
  refine lv_iconst (v := nI 1) hx hb d_C_init_83 (by decide) ?_
  refine lx_isub (z := nI (2 ^ (min M 4) - 1)) hx hb d_C_init_84 (pk_sub Nat.one_le_two_pow) ?_
  refine va_putF (D := D) (ci := 0) (v := .int (nI (2 ^ (min M 4) - 1))) (ty := .int) (C := R_C) (T := F_C) (N := 17) hx hb hts i_C tf_C tf_C_ok nf_C hown hK hP hD hS 0 rfl rfl 4 (by decide) (hts _ m_207) (fun _ h9 => h9) rfl hin rfl (by decide +kernel) rfl rfl (Nat.le_of_ble_eq_true rfl) d_C_init_85 (fun H locs hP hD hS => ?_)
  have hP : va_P D vwCl ((o, .inr (0, [.int (nI 1), .int (nI M), .int (nI (M + (min M 4))), .long (lN (2 ^ M - 1)), .int (nI (2 ^ (min M 4) - 1)), .ref oc, .null, .int (nI 0), .int (nI 0), .long (lN 0), .int (nI 0), .int (nI 0), .null, .int (nI 0), .int (nI 0), .null, .int (nI 0)])) :: (oc, .inr (2, [.int (nI M), .int (nI (min M 4)), .ref uc])) :: (uc, .inl (g 0, M, .inl (fun j => nI (if j < M then mkP (min M 4) j else 0)))) :: wr) H := hP
  have hD : va_D A ((o, .inr (0, [.int (nI 1), .int (nI M), .int (nI (M + (min M 4))), .long (lN (2 ^ M - 1)), .int (nI (2 ^ (min M 4) - 1)), .ref oc, .null, .int (nI 0), .int (nI 0), .long (lN 0), .int (nI 0), .int (nI 0), .null, .int (nI 0), .int (nI 0), .null, .int (nI 0)])) :: (oc, .inr (2, [.int (nI M), .int (nI (min M 4)), .ref uc])) :: (uc, .inl (g 0, M, .inl (fun j => nI (if j < M then mkP (min M 4) j else 0)))) :: wr) := hD
  refine lv_aload_n hx hb d_C_init_88 rfl (lv_at hl 0 rfl) ?_
  refine lx_new (ci := 5) (fs := [.long (lN 0), .int (nI 0)]) (C := R_T) (T := F_T) (N := 2) hx hb hts i_T tf_T tf_T_ok hown (hts _ m_184) (hts _ m_185) (hts _ m_38) hK hP hD hS hA rfl (by decide +kernel) (Nat.le_of_ble_eq_true rfl) (Nat.le_of_ble_eq_true rfl) d_C_init_89 (fun tn H hP hD hS => ?_)
  refine W.widen (k := 19 + 1) (n := 849 + 2) (by omega) (by omega) ?_
  have hP : va_P D vwCl ((tn, .inr (5, [.long (lN 0), .int (nI 0)])) :: (o, .inr (0, [.int (nI 1), .int (nI M), .int (nI (M + (min M 4))), .long (lN (2 ^ M - 1)), .int (nI (2 ^ (min M 4) - 1)), .ref oc, .null, .int (nI 0), .int (nI 0), .long (lN 0), .int (nI 0), .int (nI 0), .null, .int (nI 0), .int (nI 0), .null, .int (nI 0)])) :: (oc, .inr (2, [.int (nI M), .int (nI (min M 4)), .ref uc])) :: (uc, .inl (g 0, M, .inl (fun j => nI (if j < M then mkP (min M 4) j else 0)))) :: wr) H := hP
  have hD : va_D A ((tn, .inr (5, [.long (lN 0), .int (nI 0)])) :: (o, .inr (0, [.int (nI 1), .int (nI M), .int (nI (M + (min M 4))), .long (lN (2 ^ M - 1)), .int (nI (2 ^ (min M 4) - 1)), .ref oc, .null, .int (nI 0), .int (nI 0), .long (lN 0), .int (nI 0), .int (nI 0), .null, .int (nI 0), .int (nI 0), .null, .int (nI 0)])) :: (oc, .inr (2, [.int (nI M), .int (nI (min M 4)), .ref uc])) :: (uc, .inl (g 0, M, .inl (fun j => nI (if j < M then mkP (min M 4) j else 0)))) :: wr) := hD
  refine lv_dup hx hb d_C_init_92 rfl ?_
  refine lc_INv (b := tn) (As := []) (rest := [.ref tn, .ref o]) ⟨hx, hb, hml, hown, hts⟩ (c_T_init l D g _ _ tn) (kIN 0 hts m_188 hKK.2.2.1 m_187 m_38 rfl (by decide +kernel) ⟨Nat.le_of_ble_eq_true rfl, Nat.le_of_ble_eq_true rfl⟩) hKK hP hD hS hA hl.1 rfl rfl (Nat.le_of_ble_eq_true rfl) d_C_init_93 ⟨by first | omega | exact Nat.le_of_ble_eq_true rfl, by first | omega | exact Nat.le_of_ble_eq_true rfl⟩ (fun u H locs _ hP hD hS => ?_)
  have hP : va_P D vwCl ((tn, .inr (5, [.long (lN 0), .int (nI 0)])) :: (o, .inr (0, [.int (nI 1), .int (nI M), .int (nI (M + (min M 4))), .long (lN (2 ^ M - 1)), .int (nI (2 ^ (min M 4) - 1)), .ref oc, .null, .int (nI 0), .int (nI 0), .long (lN 0), .int (nI 0), .int (nI 0), .null, .int (nI 0), .int (nI 0), .null, .int (nI 0)])) :: (oc, .inr (2, [.int (nI M), .int (nI (min M 4)), .ref uc])) :: (uc, .inl (g 0, M, .inl (fun j => nI (if j < M then mkP (min M 4) j else 0)))) :: wr) H := hP
  have hD : va_D A ((tn, .inr (5, [.long (lN 0), .int (nI 0)])) :: (o, .inr (0, [.int (nI 1), .int (nI M), .int (nI (M + (min M 4))), .long (lN (2 ^ M - 1)), .int (nI (2 ^ (min M 4) - 1)), .ref oc, .null, .int (nI 0), .int (nI 0), .long (lN 0), .int (nI 0), .int (nI 0), .null, .int (nI 0), .int (nI 0), .null, .int (nI 0)])) :: (oc, .inr (2, [.int (nI M), .int (nI (min M 4)), .ref uc])) :: (uc, .inl (g 0, M, .inl (fun j => nI (if j < M then mkP (min M 4) j else 0)))) :: wr) := hD
  have hP : va_P D vwCl ((o, .inr (0, [.int (nI 1), .int (nI M), .int (nI (M + (min M 4))), .long (lN (2 ^ M - 1)), .int (nI (2 ^ (min M 4) - 1)), .ref oc, .null, .int (nI 0), .int (nI 0), .long (lN 0), .int (nI 0), .int (nI 0), .null, .int (nI 0), .int (nI 0), .null, .int (nI 0)])) :: (tn, .inr (5, [.long (lN 0), .int (nI 0)])) :: (oc, .inr (2, [.int (nI M), .int (nI (min M 4)), .ref uc])) :: (uc, .inl (g 0, M, .inl (fun j => nI (if j < M then mkP (min M 4) j else 0)))) :: wr) H := wp_pull [(tn, .inr (5, [.long (lN 0), .int (nI 0)]))] hP
  have hD : va_D A ((o, .inr (0, [.int (nI 1), .int (nI M), .int (nI (M + (min M 4))), .long (lN (2 ^ M - 1)), .int (nI (2 ^ (min M 4) - 1)), .ref oc, .null, .int (nI 0), .int (nI 0), .long (lN 0), .int (nI 0), .int (nI 0), .null, .int (nI 0), .int (nI 0), .null, .int (nI 0)])) :: (tn, .inr (5, [.long (lN 0), .int (nI 0)])) :: (oc, .inr (2, [.int (nI M), .int (nI (min M 4)), .ref uc])) :: (uc, .inl (g 0, M, .inl (fun j => nI (if j < M then mkP (min M 4) j else 0)))) :: wr) := wd_pull [(tn, .inr (5, [.long (lN 0), .int (nI 0)]))] hD
  refine va_putF (D := D) (ci := 0) (v := .ref tn) (ty := .object "CheckCodes$Turn") (C := R_C) (T := F_C) (N := 17) hx hb hts i_C tf_C tf_C_ok nf_C hown hK hP hD hS 0 rfl rfl 6 (by decide) (hts _ m_209) (fun _ h9 => h9) rfl hin rfl (by decide +kernel) rfl rfl (Nat.le_of_ble_eq_true rfl) d_C_init_96 (fun H locs hP hD hS => ?_)
  have hP : va_P D vwCl ((o, .inr (0, [.int (nI 1), .int (nI M), .int (nI (M + (min M 4))), .long (lN (2 ^ M - 1)), .int (nI (2 ^ (min M 4) - 1)), .ref oc, .ref tn, .int (nI 0), .int (nI 0), .long (lN 0), .int (nI 0), .int (nI 0), .null, .int (nI 0), .int (nI 0), .null, .int (nI 0)])) :: (tn, .inr (5, [.long (lN 0), .int (nI 0)])) :: (oc, .inr (2, [.int (nI M), .int (nI (min M 4)), .ref uc])) :: (uc, .inl (g 0, M, .inl (fun j => nI (if j < M then mkP (min M 4) j else 0)))) :: wr) H := hP
  have hD : va_D A ((o, .inr (0, [.int (nI 1), .int (nI M), .int (nI (M + (min M 4))), .long (lN (2 ^ M - 1)), .int (nI (2 ^ (min M 4) - 1)), .ref oc, .ref tn, .int (nI 0), .int (nI 0), .long (lN 0), .int (nI 0), .int (nI 0), .null, .int (nI 0), .int (nI 0), .null, .int (nI 0)])) :: (tn, .inr (5, [.long (lN 0), .int (nI 0)])) :: (oc, .inr (2, [.int (nI M), .int (nI (min M 4)), .ref uc])) :: (uc, .inl (g 0, M, .inl (fun j => nI (if j < M then mkP (min M 4) j else 0)))) :: wr) := hD
  refine lv_aload_n hx hb d_C_init_99 rfl (lv_at hl 0 rfl) ?_
  refine lv_bipush (v := nI 8) hx hb d_C_init_100 (by decide) ?_
  refine lx_newi (N := 8) hx hb (hts _ m_117) hK hP hD hS hA (by omega) (by first | omega | exact Nat.le_of_ble_eq_true rfl) (by first | omega | exact Nat.le_of_ble_eq_true rfl) d_C_init_102 (fun ac H hP hD hS => ?_)
  refine W.widen (k := 19 + 1 + 1) (n := 849 + 2 + 8) (by omega) (by omega) ?_
  have hP : va_P D vwCl ((ac, .inl (g 0, 8, .inl (fun _ => nI 0))) :: (o, .inr (0, [.int (nI 1), .int (nI M), .int (nI (M + (min M 4))), .long (lN (2 ^ M - 1)), .int (nI (2 ^ (min M 4) - 1)), .ref oc, .ref tn, .int (nI 0), .int (nI 0), .long (lN 0), .int (nI 0), .int (nI 0), .null, .int (nI 0), .int (nI 0), .null, .int (nI 0)])) :: (tn, .inr (5, [.long (lN 0), .int (nI 0)])) :: (oc, .inr (2, [.int (nI M), .int (nI (min M 4)), .ref uc])) :: (uc, .inl (g 0, M, .inl (fun j => nI (if j < M then mkP (min M 4) j else 0)))) :: wr) H := hP
  have hD : va_D A ((ac, .inl (g 0, 8, .inl (fun _ => nI 0))) :: (o, .inr (0, [.int (nI 1), .int (nI M), .int (nI (M + (min M 4))), .long (lN (2 ^ M - 1)), .int (nI (2 ^ (min M 4) - 1)), .ref oc, .ref tn, .int (nI 0), .int (nI 0), .long (lN 0), .int (nI 0), .int (nI 0), .null, .int (nI 0), .int (nI 0), .null, .int (nI 0)])) :: (tn, .inr (5, [.long (lN 0), .int (nI 0)])) :: (oc, .inr (2, [.int (nI M), .int (nI (min M 4)), .ref uc])) :: (uc, .inl (g 0, M, .inl (fun j => nI (if j < M then mkP (min M 4) j else 0)))) :: wr) := hD
  refine va_putF (D := D) (ci := 0) (v := .ref ac) (ty := .array .int) (C := R_C) (T := F_C) (N := 17) hx hb hts i_C tf_C tf_C_ok nf_C hown hK hP hD hS 1 rfl rfl 12 (by decide) (hts _ m_215) (fun _ h9 => h9) rfl hin rfl (by decide +kernel) rfl rfl (Nat.le_of_ble_eq_true rfl) d_C_init_104 (fun H locs hP hD hS => ?_)
  have hP : va_P D vwCl ((ac, .inl (g 0, 8, .inl (fun _ => nI 0))) :: (o, .inr (0, [.int (nI 1), .int (nI M), .int (nI (M + (min M 4))), .long (lN (2 ^ M - 1)), .int (nI (2 ^ (min M 4) - 1)), .ref oc, .ref tn, .int (nI 0), .int (nI 0), .long (lN 0), .int (nI 0), .int (nI 0), .ref ac, .int (nI 0), .int (nI 0), .null, .int (nI 0)])) :: (tn, .inr (5, [.long (lN 0), .int (nI 0)])) :: (oc, .inr (2, [.int (nI M), .int (nI (min M 4)), .ref uc])) :: (uc, .inl (g 0, M, .inl (fun j => nI (if j < M then mkP (min M 4) j else 0)))) :: wr) H := hP
  have hD : va_D A ((ac, .inl (g 0, 8, .inl (fun _ => nI 0))) :: (o, .inr (0, [.int (nI 1), .int (nI M), .int (nI (M + (min M 4))), .long (lN (2 ^ M - 1)), .int (nI (2 ^ (min M 4) - 1)), .ref oc, .ref tn, .int (nI 0), .int (nI 0), .long (lN 0), .int (nI 0), .int (nI 0), .ref ac, .int (nI 0), .int (nI 0), .null, .int (nI 0)])) :: (tn, .inr (5, [.long (lN 0), .int (nI 0)])) :: (oc, .inr (2, [.int (nI M), .int (nI (min M 4)), .ref uc])) :: (uc, .inl (g 0, M, .inl (fun j => nI (if j < M then mkP (min M 4) j else 0)))) :: wr) := hD
  refine lv_aload_n hx hb d_C_init_107 rfl (lv_at hl 0 rfl) ?_
  refine lv_iconst (v := (-1)) hx hb d_C_init_108 (by decide) ?_
  refine va_put (D := D) (ci := 0) (v := .int ((-1))) (ty := .int) (C := R_C) (T := F_C) (N := 17) hx hb hts i_C tf_C tf_C_ok nf_C hown hK hP hD hS 1 rfl rfl 14 (by decide) (hts _ m_217) (fun _ h9 => h9) rfl (by decide +kernel) rfl rfl (Nat.le_of_ble_eq_true rfl) d_C_init_109 (fun H locs hP hD hS => ?_)
  have hP : va_P D vwCl ((ac, .inl (g 0, 8, .inl (fun _ => nI 0))) :: (o, .inr (0, [.int (nI 1), .int (nI M), .int (nI (M + (min M 4))), .long (lN (2 ^ M - 1)), .int (nI (2 ^ (min M 4) - 1)), .ref oc, .ref tn, .int (nI 0), .int (nI 0), .long (lN 0), .int (nI 0), .int (nI 0), .ref ac, .int (nI 0), .int ((-1)), .null, .int (nI 0)])) :: (tn, .inr (5, [.long (lN 0), .int (nI 0)])) :: (oc, .inr (2, [.int (nI M), .int (nI (min M 4)), .ref uc])) :: (uc, .inl (g 0, M, .inl (fun j => nI (if j < M then mkP (min M 4) j else 0)))) :: wr) H := hP
  have hD : va_D A ((ac, .inl (g 0, 8, .inl (fun _ => nI 0))) :: (o, .inr (0, [.int (nI 1), .int (nI M), .int (nI (M + (min M 4))), .long (lN (2 ^ M - 1)), .int (nI (2 ^ (min M 4) - 1)), .ref oc, .ref tn, .int (nI 0), .int (nI 0), .long (lN 0), .int (nI 0), .int (nI 0), .ref ac, .int (nI 0), .int ((-1)), .null, .int (nI 0)])) :: (tn, .inr (5, [.long (lN 0), .int (nI 0)])) :: (oc, .inr (2, [.int (nI M), .int (nI (min M 4)), .ref uc])) :: (uc, .inl (g 0, M, .inl (fun j => nI (if j < M then mkP (min M 4) j else 0)))) :: wr) := hD
  refine lv_aload_n hx hb d_C_init_112 rfl (lv_at hl 0 rfl) ?_
  refine lv_bipush (v := nI 8) hx hb d_C_init_113 (by decide) ?_
  refine lx_newi (N := 8) hx hb (hts _ m_117) hK hP hD hS hA (by omega) (by first | omega | exact Nat.le_of_ble_eq_true rfl) (by first | omega | exact Nat.le_of_ble_eq_true rfl) d_C_init_115 (fun sp H hP hD hS => ?_)
  refine W.widen (k := 19 + 1 + 1 + 1) (n := 849 + 2 + 8 + 8) (by omega) (by omega) ?_
  have hP : va_P D vwCl ((sp, .inl (g 0, 8, .inl (fun _ => nI 0))) :: (ac, .inl (g 0, 8, .inl (fun _ => nI 0))) :: (o, .inr (0, [.int (nI 1), .int (nI M), .int (nI (M + (min M 4))), .long (lN (2 ^ M - 1)), .int (nI (2 ^ (min M 4) - 1)), .ref oc, .ref tn, .int (nI 0), .int (nI 0), .long (lN 0), .int (nI 0), .int (nI 0), .ref ac, .int (nI 0), .int ((-1)), .null, .int (nI 0)])) :: (tn, .inr (5, [.long (lN 0), .int (nI 0)])) :: (oc, .inr (2, [.int (nI M), .int (nI (min M 4)), .ref uc])) :: (uc, .inl (g 0, M, .inl (fun j => nI (if j < M then mkP (min M 4) j else 0)))) :: wr) H := hP
  have hD : va_D A ((sp, .inl (g 0, 8, .inl (fun _ => nI 0))) :: (ac, .inl (g 0, 8, .inl (fun _ => nI 0))) :: (o, .inr (0, [.int (nI 1), .int (nI M), .int (nI (M + (min M 4))), .long (lN (2 ^ M - 1)), .int (nI (2 ^ (min M 4) - 1)), .ref oc, .ref tn, .int (nI 0), .int (nI 0), .long (lN 0), .int (nI 0), .int (nI 0), .ref ac, .int (nI 0), .int ((-1)), .null, .int (nI 0)])) :: (tn, .inr (5, [.long (lN 0), .int (nI 0)])) :: (oc, .inr (2, [.int (nI M), .int (nI (min M 4)), .ref uc])) :: (uc, .inl (g 0, M, .inl (fun j => nI (if j < M then mkP (min M 4) j else 0)))) :: wr) := hD
  refine va_putF (D := D) (ci := 0) (v := .ref sp) (ty := .array .int) (C := R_C) (T := F_C) (N := 17) hx hb hts i_C tf_C tf_C_ok nf_C hown hK hP hD hS 2 rfl rfl 15 (by decide) (hts _ m_218) (fun _ h9 => h9) rfl hin rfl (by decide +kernel) rfl rfl (Nat.le_of_ble_eq_true rfl) d_C_init_117 (fun H locs hP hD hS => ?_)
  have hP : va_P D vwCl ((sp, .inl (g 0, 8, .inl (fun _ => nI 0))) :: (ac, .inl (g 0, 8, .inl (fun _ => nI 0))) :: (o, .inr (0, [.int (nI 1), .int (nI M), .int (nI (M + (min M 4))), .long (lN (2 ^ M - 1)), .int (nI (2 ^ (min M 4) - 1)), .ref oc, .ref tn, .int (nI 0), .int (nI 0), .long (lN 0), .int (nI 0), .int (nI 0), .ref ac, .int (nI 0), .int ((-1)), .ref sp, .int (nI 0)])) :: (tn, .inr (5, [.long (lN 0), .int (nI 0)])) :: (oc, .inr (2, [.int (nI M), .int (nI (min M 4)), .ref uc])) :: (uc, .inl (g 0, M, .inl (fun j => nI (if j < M then mkP (min M 4) j else 0)))) :: wr) H := hP
  have hD : va_D A ((sp, .inl (g 0, 8, .inl (fun _ => nI 0))) :: (ac, .inl (g 0, 8, .inl (fun _ => nI 0))) :: (o, .inr (0, [.int (nI 1), .int (nI M), .int (nI (M + (min M 4))), .long (lN (2 ^ M - 1)), .int (nI (2 ^ (min M 4) - 1)), .ref oc, .ref tn, .int (nI 0), .int (nI 0), .long (lN 0), .int (nI 0), .int (nI 0), .ref ac, .int (nI 0), .int ((-1)), .ref sp, .int (nI 0)])) :: (tn, .inr (5, [.long (lN 0), .int (nI 0)])) :: (oc, .inr (2, [.int (nI M), .int (nI (min M 4)), .ref uc])) :: (uc, .inl (g 0, M, .inl (fun j => nI (if j < M then mkP (min M 4) j else 0)))) :: wr) := hD
  have hP : va_P D vwCl ((ac, .inl (g 0, 8, .inl (fun _ => nI 0))) :: (sp, .inl (g 0, 8, .inl (fun _ => nI 0))) :: (o, .inr (0, [.int (nI 1), .int (nI M), .int (nI (M + (min M 4))), .long (lN (2 ^ M - 1)), .int (nI (2 ^ (min M 4) - 1)), .ref oc, .ref tn, .int (nI 0), .int (nI 0), .long (lN 0), .int (nI 0), .int (nI 0), .ref ac, .int (nI 0), .int ((-1)), .ref sp, .int (nI 0)])) :: (tn, .inr (5, [.long (lN 0), .int (nI 0)])) :: (oc, .inr (2, [.int (nI M), .int (nI (min M 4)), .ref uc])) :: (uc, .inl (g 0, M, .inl (fun j => nI (if j < M then mkP (min M 4) j else 0)))) :: wr) H := wp_pull [(sp, .inl (g 0, 8, .inl (fun _ => nI 0)))] hP
  have hD : va_D A ((ac, .inl (g 0, 8, .inl (fun _ => nI 0))) :: (sp, .inl (g 0, 8, .inl (fun _ => nI 0))) :: (o, .inr (0, [.int (nI 1), .int (nI M), .int (nI (M + (min M 4))), .long (lN (2 ^ M - 1)), .int (nI (2 ^ (min M 4) - 1)), .ref oc, .ref tn, .int (nI 0), .int (nI 0), .long (lN 0), .int (nI 0), .int (nI 0), .ref ac, .int (nI 0), .int ((-1)), .ref sp, .int (nI 0)])) :: (tn, .inr (5, [.long (lN 0), .int (nI 0)])) :: (oc, .inr (2, [.int (nI M), .int (nI (min M 4)), .ref uc])) :: (uc, .inl (g 0, M, .inl (fun j => nI (if j < M then mkP (min M 4) j else 0)))) :: wr) := wd_pull [(sp, .inl (g 0, 8, .inl (fun _ => nI 0)))] hD
  have hP : va_P D vwCl ((o, .inr (0, [.int (nI 1), .int (nI M), .int (nI (M + (min M 4))), .long (lN (2 ^ M - 1)), .int (nI (2 ^ (min M 4) - 1)), .ref oc, .ref tn, .int (nI 0), .int (nI 0), .long (lN 0), .int (nI 0), .int (nI 0), .ref ac, .int (nI 0), .int ((-1)), .ref sp, .int (nI 0)])) :: (ac, .inl (g 0, 8, .inl (fun _ => nI 0))) :: (sp, .inl (g 0, 8, .inl (fun _ => nI 0))) :: (tn, .inr (5, [.long (lN 0), .int (nI 0)])) :: (oc, .inr (2, [.int (nI M), .int (nI (min M 4)), .ref uc])) :: (uc, .inl (g 0, M, .inl (fun j => nI (if j < M then mkP (min M 4) j else 0)))) :: wr) H := wp_pull [(ac, .inl (g 0, 8, .inl (fun _ => nI 0))), (sp, .inl (g 0, 8, .inl (fun _ => nI 0)))] hP
  have hD : va_D A ((o, .inr (0, [.int (nI 1), .int (nI M), .int (nI (M + (min M 4))), .long (lN (2 ^ M - 1)), .int (nI (2 ^ (min M 4) - 1)), .ref oc, .ref tn, .int (nI 0), .int (nI 0), .long (lN 0), .int (nI 0), .int (nI 0), .ref ac, .int (nI 0), .int ((-1)), .ref sp, .int (nI 0)])) :: (ac, .inl (g 0, 8, .inl (fun _ => nI 0))) :: (sp, .inl (g 0, 8, .inl (fun _ => nI 0))) :: (tn, .inr (5, [.long (lN 0), .int (nI 0)])) :: (oc, .inr (2, [.int (nI M), .int (nI (min M 4)), .ref uc])) :: (uc, .inl (g 0, M, .inl (fun j => nI (if j < M then mkP (min M 4) j else 0)))) :: wr) := wd_pull [(ac, .inl (g 0, 8, .inl (fun _ => nI 0))), (sp, .inl (g 0, 8, .inl (fun _ => nI 0)))] hD
  have hP : va_P D vwCl ((tn, .inr (5, [.long (lN 0), .int (nI 0)])) :: (o, .inr (0, [.int (nI 1), .int (nI M), .int (nI (M + (min M 4))), .long (lN (2 ^ M - 1)), .int (nI (2 ^ (min M 4) - 1)), .ref oc, .ref tn, .int (nI 0), .int (nI 0), .long (lN 0), .int (nI 0), .int (nI 0), .ref ac, .int (nI 0), .int ((-1)), .ref sp, .int (nI 0)])) :: (ac, .inl (g 0, 8, .inl (fun _ => nI 0))) :: (sp, .inl (g 0, 8, .inl (fun _ => nI 0))) :: (oc, .inr (2, [.int (nI M), .int (nI (min M 4)), .ref uc])) :: (uc, .inl (g 0, M, .inl (fun j => nI (if j < M then mkP (min M 4) j else 0)))) :: wr) H := wp_pull [(o, .inr (0, [.int (nI 1), .int (nI M), .int (nI (M + (min M 4))), .long (lN (2 ^ M - 1)), .int (nI (2 ^ (min M 4) - 1)), .ref oc, .ref tn, .int (nI 0), .int (nI 0), .long (lN 0), .int (nI 0), .int (nI 0), .ref ac, .int (nI 0), .int ((-1)), .ref sp, .int (nI 0)])), (ac, .inl (g 0, 8, .inl (fun _ => nI 0))), (sp, .inl (g 0, 8, .inl (fun _ => nI 0)))] hP
  have hD : va_D A ((tn, .inr (5, [.long (lN 0), .int (nI 0)])) :: (o, .inr (0, [.int (nI 1), .int (nI M), .int (nI (M + (min M 4))), .long (lN (2 ^ M - 1)), .int (nI (2 ^ (min M 4) - 1)), .ref oc, .ref tn, .int (nI 0), .int (nI 0), .long (lN 0), .int (nI 0), .int (nI 0), .ref ac, .int (nI 0), .int ((-1)), .ref sp, .int (nI 0)])) :: (ac, .inl (g 0, 8, .inl (fun _ => nI 0))) :: (sp, .inl (g 0, 8, .inl (fun _ => nI 0))) :: (oc, .inr (2, [.int (nI M), .int (nI (min M 4)), .ref uc])) :: (uc, .inl (g 0, M, .inl (fun j => nI (if j < M then mkP (min M 4) j else 0)))) :: wr) := wd_pull [(o, .inr (0, [.int (nI 1), .int (nI M), .int (nI (M + (min M 4))), .long (lN (2 ^ M - 1)), .int (nI (2 ^ (min M 4) - 1)), .ref oc, .ref tn, .int (nI 0), .int (nI 0), .long (lN 0), .int (nI 0), .int (nI 0), .ref ac, .int (nI 0), .int ((-1)), .ref sp, .int (nI 0)])), (ac, .inl (g 0, 8, .inl (fun _ => nI 0))), (sp, .inl (g 0, 8, .inl (fun _ => nI 0)))] hD
  have hcw : CodeW g 1 M oc [(oc, .inr (2, [.int (nI M), .int (nI (min M 4)), .ref uc])), (uc, .inl (g 0, M, .inl (fun j => nI (if j < M then mkP (min M 4) j else 0))))] := Or.inr (Or.inl ⟨rfl, 0, 1, uc, rfl, rfl⟩)
  refine W.widen (k := 23) (n := 884) (by omega) (by omega) ?_
  rw [← hQ]
  refine W.vret hx hb hr ?_ hS.2.2 d_C_init_120
  exact fun t ht hW => ⟨⟨(tn, ac, sp, oc, [(oc, .inr (2, [.int (nI M), .int (nI (min M 4)), .ref uc])), (uc, .inl (g 0, M, .inl (fun j => nI (if j < M then mkP (min M 4) j else 0))))]), rfl, hcw, by rw [ht]; exact hP, hD⟩, hS.F ht⟩
set_option maxHeartbeats 4000000 in
set_option maxRecDepth 100000 in
theorem c_C_init_2 (l : Launch) (D : va_G) (g : Nat → ClassId) (sz : Nat) (wr : va_W) (o : Nat) (b0 k0 : Int32) (M : Nat) (hMd : M = mOf b0) (hkd : kdOf k0 = 2) : Met l y_C_init w_C_init rm_C_init (va_Pc [.ref o, .int (b0), .int (k0)] (pP D (tyl g) ((o, .inr (0, [.int (nI 0), .int (nI 0), .int (nI 0), .long (lN 0), .int (nI 0), .null, .null, .int (nI 0), .int (nI 0), .long (lN 0), .int (nI 0), .int (nI 0), .null, .int (nI 0), .int (nI 0), .null, .int (nI 0)])) :: wr) sz)) (va_Qv (fun (u : (Nat × Nat × Nat × Nat × va_W)) => CodeW g 2 M u.2.2.2.1 u.2.2.2.2) (fun u => qB D (va_A ((o, .inr (0, [.int (nI 0), .int (nI 0), .int (nI 0), .long (lN 0), .int (nI 0), .null, .null, .int (nI 0), .int (nI 0), .long (lN 0), .int (nI 0), .int (nI 0), .null, .int (nI 0), .int (nI 0), .null, .int (nI 0)])) :: wr) sz) ((u.1, .inr (5, [.long (lN 0), .int (nI 0)])) :: (o, .inr (0, [.int (nI 2), .int (nI M), .int (nI (M + 12)), .long (lN (2 ^ M - 1)), .int (nI (2 ^ 12 - 1)), .ref u.2.2.2.1, .ref u.1, .int (nI 0), .int (nI 0), .long (lN 0), .int (nI 0), .int (nI 0), .ref u.2.1, .int (nI 0), .int ((-1)), .ref u.2.2.1, .int (nI 0)])) :: (u.2.1, .inl (g 0, 8, .inl (fun _ => nI 0))) :: (u.2.2.1, .inl (g 0, 8, .inl (fun _ => nI 0))) :: (u.2.2.2.2 ++ wr))) (va_A ((o, .inr (0, [.int (nI 0), .int (nI 0), .int (nI 0), .long (lN 0), .int (nI 0), .null, .null, .int (nI 0), .int (nI 0), .long (lN 0), .int (nI 0), .int (nI 0), .null, .int (nI 0), .int (nI 0), .null, .int (nI 0)])) :: wr) sz)) 23 884 (va_A ((o, .inr (0, [.int (nI 0), .int (nI 0), .int (nI 0), .long (lN 0), .int (nI 0), .null, .null, .int (nI 0), .int (nI 0), .long (lN 0), .int (nI 0), .int (nI 0), .null, .int (nI 0), .int (nI 0), .null, .int (nI 0)])) :: wr) sz) := by
  refine Met.ofW (cc := b_C_init) (maxL := 3) (ret := none) (by decide +kernel) rfl ?_
  intro p e s m args below meth c s₁ Bq hml hv
  have hx := Bq.exec
  have hb := Bq.bytes
  have hr := Bq.returns
  have hts : ∀ w ∈ wA, w.before args s = true := fun w h => atoms_spec (ws := w_C_init) Bq.pre w (List.mem_cons_of_mem _ h)
  have hown : s.vm.findClass R_C = some m.cls := findClass_of_methodNamed Bq.named
  have hlocks := Bq.notSynchronized
  have hin : meth.name = "<init>" := (name_of_methodNamed Bq.named Bq.method).1
  obtain ⟨rfl, hsz, hP, hKK, hD0⟩ := hv
  have hK := hKK.1
  subst hsz
  have hD := hD0.self (sz := s.heap.size)
  generalize hAe : va_A ((o, .inr (0, [.int (nI 0), .int (nI 0), .int (nI 0), .long (lN 0), .int (nI 0), .null, .null, .int (nI 0), .int (nI 0), .long (lN 0), .int (nI 0), .int (nI 0), .null, .int (nI 0), .int (nI 0), .null, .int (nI 0)])) :: wr) s.heap.size = A at hD ⊢
  have hA : ∀ q : Nat, s.heap.size ≤ q → A q := fun q h => by rw [← hAe]; exact Or.inr h
  have hS : va_S A s.heap s.heap [] := va_S.rf
  have hl := lv_entry ([.ref o, .int (b0), .int (k0)]) (n := 3) (Nat.le_of_ble_eq_true rfl)
  rw [lg_entry_eq]
  generalize (lg_sl ([.ref o, .int (b0), .int (k0)]) ++ List.replicate (3 - (lg_sl ([.ref o, .int (b0), .int (k0)])).length) Slot.unset).toArray = ls at hl ⊢
  have hl : lv_has ls 3 [(0, .ref o), (1, .int (b0)), (2, .int (k0))] := hl
  generalize hQ : MQ below (va_Qv (fun (u : (Nat × Nat × Nat × Nat × va_W)) => CodeW g 2 M u.2.2.2.1 u.2.2.2.2) (fun u => qB D (A) ((u.1, .inr (5, [.long (lN 0), .int (nI 0)])) :: (o, .inr (0, [.int (nI 2), .int (nI M), .int (nI (M + 12)), .long (lN (2 ^ M - 1)), .int (nI (2 ^ 12 - 1)), .ref u.2.2.2.1, .ref u.1, .int (nI 0), .int (nI 0), .long (lN 0), .int (nI 0), .int (nI 0), .ref u.2.1, .int (nI 0), .int ((-1)), .ref u.2.2.1, .int (nI 0)])) :: (u.2.1, .inl (g 0, 8, .inl (fun _ => nI 0))) :: (u.2.2.1, .inl (g 0, 8, .inl (fun _ => nI 0))) :: (u.2.2.2.2 ++ wr))) (A)) [.ref o, .int (b0), .int (k0)].toArray s 23 884 A = Q
  have hRc : (headSpec w_C_init rm_C_init).room.cells = 23 := rfl
  have hRs : (headSpec w_C_init rm_C_init).room.slots = 884 := rfl
  have hMi : 0 < M ∧ M ≤ 57 := by rw [hMd]; exact mOf_in b0
  have hck : 12 ≤ 28 := ckb_le 2 M
  have bl := b0.le_toInt
  have bu := b0.toInt_lt
  have hi1 := i2l_1 b0
  refine lv_aload_n hx hb d_C_init_0 rfl (lv_at hl 0 rfl) ?_
  refine W.objInit hx hb hown (hts _ m_52) (hts _ m_53) (hts _ m_54) rfl (by rw [hml]; exact hl.1) rfl d_C_init_1 (Nat.le_of_ble_eq_true rfl) (Nat.le_of_ble_eq_true rfl) ?_
  refine W.eq (g2 := F0 m 4 ls []) rfl ?_
  refine lv_aload_n hx hb d_C_init_4 rfl (lv_at hl 0 rfl) ?_
  refine lv_iconst (v := nI 1) hx hb d_C_init_5 (by decide) ?_
  refine lv_iload_n hx hb d_C_init_6 rfl (lv_at hl 1 rfl) ?_
  refine lv_i2l (v := b0.toInt64) hx hb d_C_init_7 (rfl) ?_
  refine lv_lconst (v := lN 1) hx hb d_C_init_8 (by decide) ?_
  refine lx_lsub (z := b0.toInt64 - lN 1) hx hb d_C_init_9 (rfl) ?_
  refine lv_ldc2 (v := 57) hx hb hown (hts _ m_55) d_C_init_10 ?_
  refine lv_topl (fun y1 ey1 => ?_)
  obtain rfl : y1 = lN 57 := ey1.trans (by decide)
  refine lc_Sl (As := [.long (b0.toInt64 - lN 1), .long (lN 57)]) (rest := [.int (nI 1), .ref o]) ⟨hx, hb, hml, hown, hts⟩ (c_JM_floorMod l D g _ _ (b0.toInt64 - lN 1) (by omega) (by omega)) (kS 2 hts m_58 m_56 m_57 m_30 (by decide +kernel) ⟨Nat.le_of_ble_eq_true rfl, Nat.le_of_ble_eq_true rfl⟩) hKK hP hD hS hA hl.1 rfl rfl (Nat.le_of_ble_eq_true rfl) d_C_init_13 ⟨Nat.le_of_ble_eq_true rfl, Nat.le_of_ble_eq_true rfl⟩ (fun r1 u H locs e1 hP hD hS => ?_)
  obtain rfl : r1 = lN (((b0.toInt - 1) % 57).toNat) := by rw [e1, hi1]
  refine lv_l2i (v := nI (((b0.toInt - 1) % 57).toNat)) hx hb d_C_init_16 (lN_i (((b0.toInt - 1) % 57).toNat)) ?_
  refine lx_iadd (z := nI M) hx hb d_C_init_17 ((nI_add 1 ((b0.toInt - 1) % 57).toNat).trans (by rw [hMd]; rfl)) ?_
  refine va_putF (D := D) (ci := 0) (v := .int (nI M)) (ty := .int) (C := R_C) (T := F_C) (N := 17) hx hb hts i_C tf_C tf_C_ok nf_C hown hK hP hD hS 0 rfl rfl 1 (by decide) (hts _ m_204) (fun _ h9 => h9) rfl hin rfl (by decide +kernel) rfl rfl (Nat.le_of_ble_eq_true rfl) d_C_init_18 (fun H locs hP hD hS => ?_)
  have hP : va_P D vwCl ((o, .inr (0, [.int (nI 0), .int (nI M), .int (nI 0), .long (lN 0), .int (nI 0), .null, .null, .int (nI 0), .int (nI 0), .long (lN 0), .int (nI 0), .int (nI 0), .null, .int (nI 0), .int (nI 0), .null, .int (nI 0)])) :: wr) H := hP
  have hD : va_D A ((o, .inr (0, [.int (nI 0), .int (nI M), .int (nI 0), .long (lN 0), .int (nI 0), .null, .null, .int (nI 0), .int (nI 0), .long (lN 0), .int (nI 0), .int (nI 0), .null, .int (nI 0), .int (nI 0), .null, .int (nI 0)])) :: wr) := hD
  refine lv_aload_n hx hb d_C_init_21 rfl (lv_at hl 0 rfl) ?_
  refine lv_iload_n hx hb d_C_init_22 rfl (lv_at hl 2 rfl) ?_
  refine lv_iconst (v := nI 4) hx hb d_C_init_23 (by decide) ?_
  refine lc_Si (As := [.int (k0), .int (nI 4)]) (rest := [.ref o]) ⟨hx, hb, hml, hown, hts⟩ (c_JM_floorMod2 l D g _ _ k0) (kS 2 hts m_61 m_59 m_60 m_30 (by decide +kernel) ⟨Nat.le_of_ble_eq_true rfl, Nat.le_of_ble_eq_true rfl⟩) hKK hP hD hS hA hl.1 rfl rfl (Nat.le_of_ble_eq_true rfl) d_C_init_24 ⟨Nat.le_of_ble_eq_true rfl, Nat.le_of_ble_eq_true rfl⟩ (fun r2 u H locs e2 hP hD hS => ?_)
  obtain rfl : r2 = nI 2 := by rw [e2, hkd]
  refine va_putF (D := D) (ci := 0) (v := .int (nI 2)) (ty := .int) (C := R_C) (T := F_C) (N := 17) hx hb hts i_C tf_C tf_C_ok nf_C hown hK hP hD hS 0 rfl rfl 0 (by decide) (hts _ m_203) (fun _ h9 => h9) rfl hin rfl (by decide +kernel) rfl rfl (Nat.le_of_ble_eq_true rfl) d_C_init_27 (fun H locs hP hD hS => ?_)
  have hP : va_P D vwCl ((o, .inr (0, [.int (nI 2), .int (nI M), .int (nI 0), .long (lN 0), .int (nI 0), .null, .null, .int (nI 0), .int (nI 0), .long (lN 0), .int (nI 0), .int (nI 0), .null, .int (nI 0), .int (nI 0), .null, .int (nI 0)])) :: wr) H := hP
  have hD : va_D A ((o, .inr (0, [.int (nI 2), .int (nI M), .int (nI 0), .long (lN 0), .int (nI 0), .null, .null, .int (nI 0), .int (nI 0), .long (lN 0), .int (nI 0), .int (nI 0), .null, .int (nI 0), .int (nI 0), .null, .int (nI 0)])) :: wr) := hD
  refine lv_aload_n hx hb d_C_init_30 rfl (lv_at hl 0 rfl) ?_
  refine lv_aload_n hx hb d_C_init_31 rfl (lv_at hl 0 rfl) ?_
  refine va_get (D := D) (ci := 0) (v := .int (nI 2)) (C := R_C) (T := F_C) (N := 17) hx hb hts i_C hown hK hP 0 rfl rfl 0 (by decide) (hts _ m_203) (fun _ h9 => h9) rfl d_C_init_32 ?_
  refine lv_aload_n hx hb d_C_init_35 rfl (lv_at hl 0 rfl) ?_
  refine va_get (D := D) (ci := 0) (v := .int (nI M)) (C := R_C) (T := F_C) (N := 17) hx hb hts i_C hown hK hP 0 rfl rfl 1 (by decide) (hts _ m_204) (fun _ h9 => h9) rfl d_C_init_36 ?_
  refine lc_Sr (As := [.int (nI 2), .int (nI M)]) (rest := [.ref o]) ⟨hx, hb, hml, hown, hts⟩ (c_C_codeOf_2 l D g _ _ M hMi.1 hMi.2) (kS 2 hts m_64 m_62 m_63 m_29 (by decide +kernel) ⟨Nat.le_of_ble_eq_true rfl, Nat.le_of_ble_eq_true rfl⟩) hKK hP hD hS hA hl.1 rfl rfl (Nat.le_of_ble_eq_true rfl) d_C_init_39 ⟨Nat.le_of_ble_eq_true rfl, Nat.le_of_ble_eq_true rfl⟩ (fun uc oc H locs _ hP hD hS => ?_)
  refine W.widen (k := 19) (n := 849) (by omega) (by omega) ?_
  have hP : va_P D vwCl ((oc, .inr (3, [.int (nI M), .int (nI 12), .ref uc])) :: (uc, .inl (g 0, M, .inl (fun j => nI (if j < M then mkN j else 0)))) :: (o, .inr (0, [.int (nI 2), .int (nI M), .int (nI 0), .long (lN 0), .int (nI 0), .null, .null, .int (nI 0), .int (nI 0), .long (lN 0), .int (nI 0), .int (nI 0), .null, .int (nI 0), .int (nI 0), .null, .int (nI 0)])) :: wr) H := hP
  have hD : va_D A ((oc, .inr (3, [.int (nI M), .int (nI 12), .ref uc])) :: (uc, .inl (g 0, M, .inl (fun j => nI (if j < M then mkN j else 0)))) :: (o, .inr (0, [.int (nI 2), .int (nI M), .int (nI 0), .long (lN 0), .int (nI 0), .null, .null, .int (nI 0), .int (nI 0), .long (lN 0), .int (nI 0), .int (nI 0), .null, .int (nI 0), .int (nI 0), .null, .int (nI 0)])) :: wr) := hD
  have hP : va_P D vwCl ((o, .inr (0, [.int (nI 2), .int (nI M), .int (nI 0), .long (lN 0), .int (nI 0), .null, .null, .int (nI 0), .int (nI 0), .long (lN 0), .int (nI 0), .int (nI 0), .null, .int (nI 0), .int (nI 0), .null, .int (nI 0)])) :: (oc, .inr (3, [.int (nI M), .int (nI 12), .ref uc])) :: (uc, .inl (g 0, M, .inl (fun j => nI (if j < M then mkN j else 0)))) :: wr) H := wp_pull [(oc, .inr (3, [.int (nI M), .int (nI 12), .ref uc])), (uc, .inl (g 0, M, .inl (fun j => nI (if j < M then mkN j else 0))))] hP
  have hD : va_D A ((o, .inr (0, [.int (nI 2), .int (nI M), .int (nI 0), .long (lN 0), .int (nI 0), .null, .null, .int (nI 0), .int (nI 0), .long (lN 0), .int (nI 0), .int (nI 0), .null, .int (nI 0), .int (nI 0), .null, .int (nI 0)])) :: (oc, .inr (3, [.int (nI M), .int (nI 12), .ref uc])) :: (uc, .inl (g 0, M, .inl (fun j => nI (if j < M then mkN j else 0)))) :: wr) := wd_pull [(oc, .inr (3, [.int (nI M), .int (nI 12), .ref uc])), (uc, .inl (g 0, M, .inl (fun j => nI (if j < M then mkN j else 0))))] hD
  refine va_putF (D := D) (ci := 0) (v := .ref oc) (ty := .object "CheckCodes$Code") (C := R_C) (T := F_C) (N := 17) hx hb hts i_C tf_C tf_C_ok nf_C hown hK hP hD hS 0 rfl rfl 5 (by decide) (hts _ m_208) (fun _ h9 => h9) rfl hin rfl (by decide +kernel) rfl rfl (Nat.le_of_ble_eq_true rfl) d_C_init_42 (fun H locs hP hD hS => ?_)
  have hP : va_P D vwCl ((o, .inr (0, [.int (nI 2), .int (nI M), .int (nI 0), .long (lN 0), .int (nI 0), .ref oc, .null, .int (nI 0), .int (nI 0), .long (lN 0), .int (nI 0), .int (nI 0), .null, .int (nI 0), .int (nI 0), .null, .int (nI 0)])) :: (oc, .inr (3, [.int (nI M), .int (nI 12), .ref uc])) :: (uc, .inl (g 0, M, .inl (fun j => nI (if j < M then mkN j else 0)))) :: wr) H := hP
  have hD : va_D A ((o, .inr (0, [.int (nI 2), .int (nI M), .int (nI 0), .long (lN 0), .int (nI 0), .ref oc, .null, .int (nI 0), .int (nI 0), .long (lN 0), .int (nI 0), .int (nI 0), .null, .int (nI 0), .int (nI 0), .null, .int (nI 0)])) :: (oc, .inr (3, [.int (nI M), .int (nI 12), .ref uc])) :: (uc, .inl (g 0, M, .inl (fun j => nI (if j < M then mkN j else 0)))) :: wr) := hD
  refine lv_aload_n hx hb d_C_init_45 rfl (lv_at hl 0 rfl) ?_
  refine lv_aload_n hx hb d_C_init_46 rfl (lv_at hl 0 rfl) ?_
  refine va_get (D := D) (ci := 0) (v := .int (nI M)) (C := R_C) (T := F_C) (N := 17) hx hb hts i_C hown hK hP 0 rfl rfl 1 (by decide) (hts _ m_204) (fun _ h9 => h9) rfl d_C_init_47 ?_
  refine lv_aload_n hx hb d_C_init_50 rfl (lv_at hl 0 rfl) ?_
  refine va_get (D := D) (ci := 0) (v := .ref oc) (C := R_C) (T := F_C) (N := 17) hx hb hts i_C hown hK hP 0 rfl rfl 5 (by decide) (hts _ m_208) (fun _ h9 => h9) rfl d_C_init_51 ?_
  refine va_get (D := D) (ci := 3) (v := .int (nI 12)) (C := R_N) (T := F_N) (N := 3) hx hb hts i_N hown hK hP 1 rfl rfl 1 (by decide) (hts _ m_138) (fun _ h9 => h9) rfl d_C_init_54 ?_
  refine lx_iadd (z := nI (M + 12)) hx hb d_C_init_57 (nI_add _ _) ?_
  refine va_putF (D := D) (ci := 0) (v := .int (nI (M + 12))) (ty := .int) (C := R_C) (T := F_C) (N := 17) hx hb hts i_C tf_C tf_C_ok nf_C hown hK hP hD hS 0 rfl rfl 2 (by decide) (hts _ m_205) (fun _ h9 => h9) rfl hin rfl (by decide +kernel) rfl rfl (Nat.le_of_ble_eq_true rfl) d_C_init_58 (fun H locs hP hD hS => ?_)
  have hP : va_P D vwCl ((o, .inr (0, [.int (nI 2), .int (nI M), .int (nI (M + 12)), .long (lN 0), .int (nI 0), .ref oc, .null, .int (nI 0), .int (nI 0), .long (lN 0), .int (nI 0), .int (nI 0), .null, .int (nI 0), .int (nI 0), .null, .int (nI 0)])) :: (oc, .inr (3, [.int (nI M), .int (nI 12), .ref uc])) :: (uc, .inl (g 0, M, .inl (fun j => nI (if j < M then mkN j else 0)))) :: wr) H := hP
  have hD : va_D A ((o, .inr (0, [.int (nI 2), .int (nI M), .int (nI (M + 12)), .long (lN 0), .int (nI 0), .ref oc, .null, .int (nI 0), .int (nI 0), .long (lN 0), .int (nI 0), .int (nI 0), .null, .int (nI 0), .int (nI 0), .null, .int (nI 0)])) :: (oc, .inr (3, [.int (nI M), .int (nI 12), .ref uc])) :: (uc, .inl (g 0, M, .inl (fun j => nI (if j < M then mkN j else 0)))) :: wr) := hD
  refine lv_aload_n hx hb d_C_init_61 rfl (lv_at hl 0 rfl) ?_
  refine lv_lconst (v := lN 1) hx hb d_C_init_62 (by decide) ?_
  refine lv_aload_n hx hb d_C_init_63 rfl (lv_at hl 0 rfl) ?_
  refine va_get (D := D) (ci := 0) (v := .int (nI M)) (C := R_C) (T := F_C) (N := 17) hx hb hts i_C hown hK hP 0 rfl rfl 1 (by decide) (hts _ m_204) (fun _ h9 => h9) rfl d_C_init_64 ?_
  refine lv_lshl (v := lN (2 ^ M)) hx hb d_C_init_67 ((xl_shl 1 (by omega)).trans (by rw [Nat.one_shiftLeft])) ?_
  refine lv_lconst (v := lN 1) hx hb d_C_init_68 (by decide) ?_
  refine lx_lsub (z := lN (2 ^ M - 1)) hx hb d_C_init_69 (lN_sub Nat.one_le_two_pow) ?_
  refine va_putF (D := D) (ci := 0) (v := .long (lN (2 ^ M - 1))) (ty := .long) (C := R_C) (T := F_C) (N := 17) hx hb hts i_C tf_C tf_C_ok nf_C hown hK hP hD hS 0 rfl rfl 3 (by decide) (hts _ m_206) (fun _ h9 => h9) rfl hin rfl (by decide +kernel) rfl rfl (Nat.le_of_ble_eq_true rfl) d_C_init_70 (fun H locs hP hD hS => ?_)
  have hP : va_P D vwCl ((o, .inr (0, [.int (nI 2), .int (nI M), .int (nI (M + 12)), .long (lN (2 ^ M - 1)), .int (nI 0), .ref oc, .null, .int (nI 0), .int (nI 0), .long (lN 0), .int (nI 0), .int (nI 0), .null, .int (nI 0), .int (nI 0), .null, .int (nI 0)])) :: (oc, .inr (3, [.int (nI M), .int (nI 12), .ref uc])) :: (uc, .inl (g 0, M, .inl (fun j => nI (if j < M then mkN j else 0)))) :: wr) H := hP
  have hD : va_D A ((o, .inr (0, [.int (nI 2), .int (nI M), .int (nI (M + 12)), .long (lN (2 ^ M - 1)), .int (nI 0), .ref oc, .null, .int (nI 0), .int (nI 0), .long (lN 0), .int (nI 0), .int (nI 0), .null, .int (nI 0), .int (nI 0), .null, .int (nI 0)])) :: (oc, .inr (3, [.int (nI M), .int (nI 12), .ref uc])) :: (uc, .inl (g 0, M, .inl (fun j => nI (if j < M then mkN j else 0)))) :: wr) := hD
  refine lv_aload_n hx hb d_C_init_73 rfl (lv_at hl 0 rfl) ?_
  refine lv_iconst (v := nI 1) hx hb d_C_init_74 (by decide) ?_
  refine lv_aload_n hx hb d_C_init_75 rfl (lv_at hl 0 rfl) ?_
  refine va_get (D := D) (ci := 0) (v := .ref oc) (C := R_C) (T := F_C) (N := 17) hx hb hts i_C hown hK hP 0 rfl rfl 5 (by decide) (hts _ m_208) (fun _ h9 => h9) rfl d_C_init_76 ?_
  refine va_get (D := D) (ci := 3) (v := .int (nI 12)) (C := R_N) (T := F_N) (N := 3) hx hb hts i_N hown hK hP 1 rfl rfl 1 (by decide) (hts _ m_138) (fun _ h9 => h9) rfl d_C_init_79 ?_
  refine lx_ishl (z := nI (2 ^ 12)) hx hb d_C_init_82 ((xn_shl 1 (by omega)).trans (by rw [Nat.one_shiftLeft])) ?_
  refine lv_iconst (v := nI 1) hx hb d_C_init_83 (by decide) ?_
  refine lx_isub (z := nI (2 ^ 12 - 1)) hx hb d_C_init_84 (pk_sub Nat.one_le_two_pow) ?_
  refine va_putF (D := D) (ci := 0) (v := .int (nI (2 ^ 12 - 1))) (ty := .int) (C := R_C) (T := F_C) (N := 17) hx hb hts i_C tf_C tf_C_ok nf_C hown hK hP hD hS 0 rfl rfl 4 (by decide) (hts _ m_207) (fun _ h9 => h9) rfl hin rfl (by decide +kernel) rfl rfl (Nat.le_of_ble_eq_true rfl) d_C_init_85 (fun H locs hP hD hS => ?_)
  have hP : va_P D vwCl ((o, .inr (0, [.int (nI 2), .int (nI M), .int (nI (M + 12)), .long (lN (2 ^ M - 1)), .int (nI (2 ^ 12 - 1)), .ref oc, .null, .int (nI 0), .int (nI 0), .long (lN 0), .int (nI 0), .int (nI 0), .null, .int (nI 0), .int (nI 0), .null, .int (nI 0)])) :: (oc, .inr (3, [.int (nI M), .int (nI 12), .ref uc])) :: (uc, .inl (g 0, M, .inl (fun j => nI (if j < M then mkN j else 0)))) :: wr) H := hP
  have hD : va_D A ((o, .inr (0, [.int (nI 2), .int (nI M), .int (nI (M + 12)), .long (lN (2 ^ M - 1)), .int (nI (2 ^ 12 - 1)), .ref oc, .null, .int (nI 0), .int (nI 0), .long (lN 0), .int (nI 0), .int (nI 0), .null, .int (nI 0), .int (nI 0), .null, .int (nI 0)])) :: (oc, .inr (3, [.int (nI M), .int (nI 12), .ref uc])) :: (uc, .inl (g 0, M, .inl (fun j => nI (if j < M then mkN j else 0)))) :: wr) := hD
  refine lv_aload_n hx hb d_C_init_88 rfl (lv_at hl 0 rfl) ?_
  refine lx_new (ci := 5) (fs := [.long (lN 0), .int (nI 0)]) (C := R_T) (T := F_T) (N := 2) hx hb hts i_T tf_T tf_T_ok hown (hts _ m_184) (hts _ m_185) (hts _ m_38) hK hP hD hS hA rfl (by decide +kernel) (Nat.le_of_ble_eq_true rfl) (Nat.le_of_ble_eq_true rfl) d_C_init_89 (fun tn H hP hD hS => ?_)
  refine W.widen (k := 19 + 1) (n := 849 + 2) (by omega) (by omega) ?_
  have hP : va_P D vwCl ((tn, .inr (5, [.long (lN 0), .int (nI 0)])) :: (o, .inr (0, [.int (nI 2), .int (nI M), .int (nI (M + 12)), .long (lN (2 ^ M - 1)), .int (nI (2 ^ 12 - 1)), .ref oc, .null, .int (nI 0), .int (nI 0), .long (lN 0), .int (nI 0), .int (nI 0), .null, .int (nI 0), .int (nI 0), .null, .int (nI 0)])) :: (oc, .inr (3, [.int (nI M), .int (nI 12), .ref uc])) :: (uc, .inl (g 0, M, .inl (fun j => nI (if j < M then mkN j else 0)))) :: wr) H := hP
  have hD : va_D A ((tn, .inr (5, [.long (lN 0), .int (nI 0)])) :: (o, .inr (0, [.int (nI 2), .int (nI M), .int (nI (M + 12)), .long (lN (2 ^ M - 1)), .int (nI (2 ^ 12 - 1)), .ref oc, .null, .int (nI 0), .int (nI 0), .long (lN 0), .int (nI 0), .int (nI 0), .null, .int (nI 0), .int (nI 0), .null, .int (nI 0)])) :: (oc, .inr (3, [.int (nI M), .int (nI 12), .ref uc])) :: (uc, .inl (g 0, M, .inl (fun j => nI (if j < M then mkN j else 0)))) :: wr) := hD
  refine lv_dup hx hb d_C_init_92 rfl ?_
  refine lc_INv (b := tn) (As := []) (rest := [.ref tn, .ref o]) ⟨hx, hb, hml, hown, hts⟩ (c_T_init l D g _ _ tn) (kIN 0 hts m_188 hKK.2.2.1 m_187 m_38 rfl (by decide +kernel) ⟨Nat.le_of_ble_eq_true rfl, Nat.le_of_ble_eq_true rfl⟩) hKK hP hD hS hA hl.1 rfl rfl (Nat.le_of_ble_eq_true rfl) d_C_init_93 ⟨by first | omega | exact Nat.le_of_ble_eq_true rfl, by first | omega | exact Nat.le_of_ble_eq_true rfl⟩ (fun u H locs _ hP hD hS => ?_)
  have hP : va_P D vwCl ((tn, .inr (5, [.long (lN 0), .int (nI 0)])) :: (o, .inr (0, [.int (nI 2), .int (nI M), .int (nI (M + 12)), .long (lN (2 ^ M - 1)), .int (nI (2 ^ 12 - 1)), .ref oc, .null, .int (nI 0), .int (nI 0), .long (lN 0), .int (nI 0), .int (nI 0), .null, .int (nI 0), .int (nI 0), .null, .int (nI 0)])) :: (oc, .inr (3, [.int (nI M), .int (nI 12), .ref uc])) :: (uc, .inl (g 0, M, .inl (fun j => nI (if j < M then mkN j else 0)))) :: wr) H := hP
  have hD : va_D A ((tn, .inr (5, [.long (lN 0), .int (nI 0)])) :: (o, .inr (0, [.int (nI 2), .int (nI M), .int (nI (M + 12)), .long (lN (2 ^ M - 1)), .int (nI (2 ^ 12 - 1)), .ref oc, .null, .int (nI 0), .int (nI 0), .long (lN 0), .int (nI 0), .int (nI 0), .null, .int (nI 0), .int (nI 0), .null, .int (nI 0)])) :: (oc, .inr (3, [.int (nI M), .int (nI 12), .ref uc])) :: (uc, .inl (g 0, M, .inl (fun j => nI (if j < M then mkN j else 0)))) :: wr) := hD
  have hP : va_P D vwCl ((o, .inr (0, [.int (nI 2), .int (nI M), .int (nI (M + 12)), .long (lN (2 ^ M - 1)), .int (nI (2 ^ 12 - 1)), .ref oc, .null, .int (nI 0), .int (nI 0), .long (lN 0), .int (nI 0), .int (nI 0), .null, .int (nI 0), .int (nI 0), .null, .int (nI 0)])) :: (tn, .inr (5, [.long (lN 0), .int (nI 0)])) :: (oc, .inr (3, [.int (nI M), .int (nI 12), .ref uc])) :: (uc, .inl (g 0, M, .inl (fun j => nI (if j < M then mkN j else 0)))) :: wr) H := wp_pull [(tn, .inr (5, [.long (lN 0), .int (nI 0)]))] hP
  have hD : va_D A ((o, .inr (0, [.int (nI 2), .int (nI M), .int (nI (M + 12)), .long (lN (2 ^ M - 1)), .int (nI (2 ^ 12 - 1)), .ref oc, .null, .int (nI 0), .int (nI 0), .long (lN 0), .int (nI 0), .int (nI 0), .null, .int (nI 0), .int (nI 0), .null, .int (nI 0)])) :: (tn, .inr (5, [.long (lN 0), .int (nI 0)])) :: (oc, .inr (3, [.int (nI M), .int (nI 12), .ref uc])) :: (uc, .inl (g 0, M, .inl (fun j => nI (if j < M then mkN j else 0)))) :: wr) := wd_pull [(tn, .inr (5, [.long (lN 0), .int (nI 0)]))] hD
  refine va_putF (D := D) (ci := 0) (v := .ref tn) (ty := .object "CheckCodes$Turn") (C := R_C) (T := F_C) (N := 17) hx hb hts i_C tf_C tf_C_ok nf_C hown hK hP hD hS 0 rfl rfl 6 (by decide) (hts _ m_209) (fun _ h9 => h9) rfl hin rfl (by decide +kernel) rfl rfl (Nat.le_of_ble_eq_true rfl) d_C_init_96 (fun H locs hP hD hS => ?_)
  have hP : va_P D vwCl ((o, .inr (0, [.int (nI 2), .int (nI M), .int (nI (M + 12)), .long (lN (2 ^ M - 1)), .int (nI (2 ^ 12 - 1)), .ref oc, .ref tn, .int (nI 0), .int (nI 0), .long (lN 0), .int (nI 0), .int (nI 0), .null, .int (nI 0), .int (nI 0), .null, .int (nI 0)])) :: (tn, .inr (5, [.long (lN 0), .int (nI 0)])) :: (oc, .inr (3, [.int (nI M), .int (nI 12), .ref uc])) :: (uc, .inl (g 0, M, .inl (fun j => nI (if j < M then mkN j else 0)))) :: wr) H := hP
  have hD : va_D A ((o, .inr (0, [.int (nI 2), .int (nI M), .int (nI (M + 12)), .long (lN (2 ^ M - 1)), .int (nI (2 ^ 12 - 1)), .ref oc, .ref tn, .int (nI 0), .int (nI 0), .long (lN 0), .int (nI 0), .int (nI 0), .null, .int (nI 0), .int (nI 0), .null, .int (nI 0)])) :: (tn, .inr (5, [.long (lN 0), .int (nI 0)])) :: (oc, .inr (3, [.int (nI M), .int (nI 12), .ref uc])) :: (uc, .inl (g 0, M, .inl (fun j => nI (if j < M then mkN j else 0)))) :: wr) := hD
  refine lv_aload_n hx hb d_C_init_99 rfl (lv_at hl 0 rfl) ?_
  refine lv_bipush (v := nI 8) hx hb d_C_init_100 (by decide) ?_
  refine lx_newi (N := 8) hx hb (hts _ m_117) hK hP hD hS hA (by omega) (by first | omega | exact Nat.le_of_ble_eq_true rfl) (by first | omega | exact Nat.le_of_ble_eq_true rfl) d_C_init_102 (fun ac H hP hD hS => ?_)
  refine W.widen (k := 19 + 1 + 1) (n := 849 + 2 + 8) (by omega) (by omega) ?_
  have hP : va_P D vwCl ((ac, .inl (g 0, 8, .inl (fun _ => nI 0))) :: (o, .inr (0, [.int (nI 2), .int (nI M), .int (nI (M + 12)), .long (lN (2 ^ M - 1)), .int (nI (2 ^ 12 - 1)), .ref oc, .ref tn, .int (nI 0), .int (nI 0), .long (lN 0), .int (nI 0), .int (nI 0), .null, .int (nI 0), .int (nI 0), .null, .int (nI 0)])) :: (tn, .inr (5, [.long (lN 0), .int (nI 0)])) :: (oc, .inr (3, [.int (nI M), .int (nI 12), .ref uc])) :: (uc, .inl (g 0, M, .inl (fun j => nI (if j < M then mkN j else 0)))) :: wr) H := hP
  have hD : va_D A ((ac, .inl (g 0, 8, .inl (fun _ => nI 0))) :: (o, .inr (0, [.int (nI 2), .int (nI M), .int (nI (M + 12)), .long (lN (2 ^ M - 1)), .int (nI (2 ^ 12 - 1)), .ref oc, .ref tn, .int (nI 0), .int (nI 0), .long (lN 0), .int (nI 0), .int (nI 0), .null, .int (nI 0), .int (nI 0), .null, .int (nI 0)])) :: (tn, .inr (5, [.long (lN 0), .int (nI 0)])) :: (oc, .inr (3, [.int (nI M), .int (nI 12), .ref uc])) :: (uc, .inl (g 0, M, .inl (fun j => nI (if j < M then mkN j else 0)))) :: wr) := hD
  refine va_putF (D := D) (ci := 0) (v := .ref ac) (ty := .array .int) (C := R_C) (T := F_C) (N := 17) hx hb hts i_C tf_C tf_C_ok nf_C hown hK hP hD hS 1 rfl rfl 12 (by decide) (hts _ m_215) (fun _ h9 => h9) rfl hin rfl (by decide +kernel) rfl rfl (Nat.le_of_ble_eq_true rfl) d_C_init_104 (fun H locs hP hD hS => ?_)
  have hP : va_P D vwCl ((ac, .inl (g 0, 8, .inl (fun _ => nI 0))) :: (o, .inr (0, [.int (nI 2), .int (nI M), .int (nI (M + 12)), .long (lN (2 ^ M - 1)), .int (nI (2 ^ 12 - 1)), .ref oc, .ref tn, .int (nI 0), .int (nI 0), .long (lN 0), .int (nI 0), .int (nI 0), .ref ac, .int (nI 0), .int (nI 0), .null, .int (nI 0)])) :: (tn, .inr (5, [.long (lN 0), .int (nI 0)])) :: (oc, .inr (3, [.int (nI M), .int (nI 12), .ref uc])) :: (uc, .inl (g 0, M, .inl (fun j => nI (if j < M then mkN j else 0)))) :: wr) H := hP
  have hD : va_D A ((ac, .inl (g 0, 8, .inl (fun _ => nI 0))) :: (o, .inr (0, [.int (nI 2), .int (nI M), .int (nI (M + 12)), .long (lN (2 ^ M - 1)), .int (nI (2 ^ 12 - 1)), .ref oc, .ref tn, .int (nI 0), .int (nI 0), .long (lN 0), .int (nI 0), .int (nI 0), .ref ac, .int (nI 0), .int (nI 0), .null, .int (nI 0)])) :: (tn, .inr (5, [.long (lN 0), .int (nI 0)])) :: (oc, .inr (3, [.int (nI M), .int (nI 12), .ref uc])) :: (uc, .inl (g 0, M, .inl (fun j => nI (if j < M then mkN j else 0)))) :: wr) := hD
  refine lv_aload_n hx hb d_C_init_107 rfl (lv_at hl 0 rfl) ?_
  refine lv_iconst (v := (-1)) hx hb d_C_init_108 (by decide) ?_
  refine va_put (D := D) (ci := 0) (v := .int ((-1))) (ty := .int) (C := R_C) (T := F_C) (N := 17) hx hb hts i_C tf_C tf_C_ok nf_C hown hK hP hD hS 1 rfl rfl 14 (by decide) (hts _ m_217) (fun _ h9 => h9) rfl (by decide +kernel) rfl rfl (Nat.le_of_ble_eq_true rfl) d_C_init_109 (fun H locs hP hD hS => ?_)
  have hP : va_P D vwCl ((ac, .inl (g 0, 8, .inl (fun _ => nI 0))) :: (o, .inr (0, [.int (nI 2), .int (nI M), .int (nI (M + 12)), .long (lN (2 ^ M - 1)), .int (nI (2 ^ 12 - 1)), .ref oc, .ref tn, .int (nI 0), .int (nI 0), .long (lN 0), .int (nI 0), .int (nI 0), .ref ac, .int (nI 0), .int ((-1)), .null, .int (nI 0)])) :: (tn, .inr (5, [.long (lN 0), .int (nI 0)])) :: (oc, .inr (3, [.int (nI M), .int (nI 12), .ref uc])) :: (uc, .inl (g 0, M, .inl (fun j => nI (if j < M then mkN j else 0)))) :: wr) H := hP
  have hD : va_D A ((ac, .inl (g 0, 8, .inl (fun _ => nI 0))) :: (o, .inr (0, [.int (nI 2), .int (nI M), .int (nI (M + 12)), .long (lN (2 ^ M - 1)), .int (nI (2 ^ 12 - 1)), .ref oc, .ref tn, .int (nI 0), .int (nI 0), .long (lN 0), .int (nI 0), .int (nI 0), .ref ac, .int (nI 0), .int ((-1)), .null, .int (nI 0)])) :: (tn, .inr (5, [.long (lN 0), .int (nI 0)])) :: (oc, .inr (3, [.int (nI M), .int (nI 12), .ref uc])) :: (uc, .inl (g 0, M, .inl (fun j => nI (if j < M then mkN j else 0)))) :: wr) := hD
  refine lv_aload_n hx hb d_C_init_112 rfl (lv_at hl 0 rfl) ?_
  refine lv_bipush (v := nI 8) hx hb d_C_init_113 (by decide) ?_
  refine lx_newi (N := 8) hx hb (hts _ m_117) hK hP hD hS hA (by omega) (by first | omega | exact Nat.le_of_ble_eq_true rfl) (by first | omega | exact Nat.le_of_ble_eq_true rfl) d_C_init_115 (fun sp H hP hD hS => ?_)
  refine W.widen (k := 19 + 1 + 1 + 1) (n := 849 + 2 + 8 + 8) (by omega) (by omega) ?_
  have hP : va_P D vwCl ((sp, .inl (g 0, 8, .inl (fun _ => nI 0))) :: (ac, .inl (g 0, 8, .inl (fun _ => nI 0))) :: (o, .inr (0, [.int (nI 2), .int (nI M), .int (nI (M + 12)), .long (lN (2 ^ M - 1)), .int (nI (2 ^ 12 - 1)), .ref oc, .ref tn, .int (nI 0), .int (nI 0), .long (lN 0), .int (nI 0), .int (nI 0), .ref ac, .int (nI 0), .int ((-1)), .null, .int (nI 0)])) :: (tn, .inr (5, [.long (lN 0), .int (nI 0)])) :: (oc, .inr (3, [.int (nI M), .int (nI 12), .ref uc])) :: (uc, .inl (g 0, M, .inl (fun j => nI (if j < M then mkN j else 0)))) :: wr) H := hP
  have hD : va_D A ((sp, .inl (g 0, 8, .inl (fun _ => nI 0))) :: (ac, .inl (g 0, 8, .inl (fun _ => nI 0))) :: (o, .inr (0, [.int (nI 2), .int (nI M), .int (nI (M + 12)), .long (lN (2 ^ M - 1)), .int (nI (2 ^ 12 - 1)), .ref oc, .ref tn, .int (nI 0), .int (nI 0), .long (lN 0), .int (nI 0), .int (nI 0), .ref ac, .int (nI 0), .int ((-1)), .null, .int (nI 0)])) :: (tn, .inr (5, [.long (lN 0), .int (nI 0)])) :: (oc, .inr (3, [.int (nI M), .int (nI 12), .ref uc])) :: (uc, .inl (g 0, M, .inl (fun j => nI (if j < M then mkN j else 0)))) :: wr) := hD
  refine va_putF (D := D) (ci := 0) (v := .ref sp) (ty := .array .int) (C := R_C) (T := F_C) (N := 17) hx hb hts i_C tf_C tf_C_ok nf_C hown hK hP hD hS 2 rfl rfl 15 (by decide) (hts _ m_218) (fun _ h9 => h9) rfl hin rfl (by decide +kernel) rfl rfl (Nat.le_of_ble_eq_true rfl) d_C_init_117 (fun H locs hP hD hS => ?_)
  have hP : va_P D vwCl ((sp, .inl (g 0, 8, .inl (fun _ => nI 0))) :: (ac, .inl (g 0, 8, .inl (fun _ => nI 0))) :: (o, .inr (0, [.int (nI 2), .int (nI M), .int (nI (M + 12)), .long (lN (2 ^ M - 1)), .int (nI (2 ^ 12 - 1)), .ref oc, .ref tn, .int (nI 0), .int (nI 0), .long (lN 0), .int (nI 0), .int (nI 0), .ref ac, .int (nI 0), .int ((-1)), .ref sp, .int (nI 0)])) :: (tn, .inr (5, [.long (lN 0), .int (nI 0)])) :: (oc, .inr (3, [.int (nI M), .int (nI 12), .ref uc])) :: (uc, .inl (g 0, M, .inl (fun j => nI (if j < M then mkN j else 0)))) :: wr) H := hP
  have hD : va_D A ((sp, .inl (g 0, 8, .inl (fun _ => nI 0))) :: (ac, .inl (g 0, 8, .inl (fun _ => nI 0))) :: (o, .inr (0, [.int (nI 2), .int (nI M), .int (nI (M + 12)), .long (lN (2 ^ M - 1)), .int (nI (2 ^ 12 - 1)), .ref oc, .ref tn, .int (nI 0), .int (nI 0), .long (lN 0), .int (nI 0), .int (nI 0), .ref ac, .int (nI 0), .int ((-1)), .ref sp, .int (nI 0)])) :: (tn, .inr (5, [.long (lN 0), .int (nI 0)])) :: (oc, .inr (3, [.int (nI M), .int (nI 12), .ref uc])) :: (uc, .inl (g 0, M, .inl (fun j => nI (if j < M then mkN j else 0)))) :: wr) := hD
  have hP : va_P D vwCl ((ac, .inl (g 0, 8, .inl (fun _ => nI 0))) :: (sp, .inl (g 0, 8, .inl (fun _ => nI 0))) :: (o, .inr (0, [.int (nI 2), .int (nI M), .int (nI (M + 12)), .long (lN (2 ^ M - 1)), .int (nI (2 ^ 12 - 1)), .ref oc, .ref tn, .int (nI 0), .int (nI 0), .long (lN 0), .int (nI 0), .int (nI 0), .ref ac, .int (nI 0), .int ((-1)), .ref sp, .int (nI 0)])) :: (tn, .inr (5, [.long (lN 0), .int (nI 0)])) :: (oc, .inr (3, [.int (nI M), .int (nI 12), .ref uc])) :: (uc, .inl (g 0, M, .inl (fun j => nI (if j < M then mkN j else 0)))) :: wr) H := wp_pull [(sp, .inl (g 0, 8, .inl (fun _ => nI 0)))] hP
  have hD : va_D A ((ac, .inl (g 0, 8, .inl (fun _ => nI 0))) :: (sp, .inl (g 0, 8, .inl (fun _ => nI 0))) :: (o, .inr (0, [.int (nI 2), .int (nI M), .int (nI (M + 12)), .long (lN (2 ^ M - 1)), .int (nI (2 ^ 12 - 1)), .ref oc, .ref tn, .int (nI 0), .int (nI 0), .long (lN 0), .int (nI 0), .int (nI 0), .ref ac, .int (nI 0), .int ((-1)), .ref sp, .int (nI 0)])) :: (tn, .inr (5, [.long (lN 0), .int (nI 0)])) :: (oc, .inr (3, [.int (nI M), .int (nI 12), .ref uc])) :: (uc, .inl (g 0, M, .inl (fun j => nI (if j < M then mkN j else 0)))) :: wr) := wd_pull [(sp, .inl (g 0, 8, .inl (fun _ => nI 0)))] hD
  have hP : va_P D vwCl ((o, .inr (0, [.int (nI 2), .int (nI M), .int (nI (M + 12)), .long (lN (2 ^ M - 1)), .int (nI (2 ^ 12 - 1)), .ref oc, .ref tn, .int (nI 0), .int (nI 0), .long (lN 0), .int (nI 0), .int (nI 0), .ref ac, .int (nI 0), .int ((-1)), .ref sp, .int (nI 0)])) :: (ac, .inl (g 0, 8, .inl (fun _ => nI 0))) :: (sp, .inl (g 0, 8, .inl (fun _ => nI 0))) :: (tn, .inr (5, [.long (lN 0), .int (nI 0)])) :: (oc, .inr (3, [.int (nI M), .int (nI 12), .ref uc])) :: (uc, .inl (g 0, M, .inl (fun j => nI (if j < M then mkN j else 0)))) :: wr) H := wp_pull [(ac, .inl (g 0, 8, .inl (fun _ => nI 0))), (sp, .inl (g 0, 8, .inl (fun _ => nI 0)))] hP
  have hD : va_D A ((o, .inr (0, [.int (nI 2), .int (nI M), .int (nI (M + 12)), .long (lN (2 ^ M - 1)), .int (nI (2 ^ 12 - 1)), .ref oc, .ref tn, .int (nI 0), .int (nI 0), .long (lN 0), .int (nI 0), .int (nI 0), .ref ac, .int (nI 0), .int ((-1)), .ref sp, .int (nI 0)])) :: (ac, .inl (g 0, 8, .inl (fun _ => nI 0))) :: (sp, .inl (g 0, 8, .inl (fun _ => nI 0))) :: (tn, .inr (5, [.long (lN 0), .int (nI 0)])) :: (oc, .inr (3, [.int (nI M), .int (nI 12), .ref uc])) :: (uc, .inl (g 0, M, .inl (fun j => nI (if j < M then mkN j else 0)))) :: wr) := wd_pull [(ac, .inl (g 0, 8, .inl (fun _ => nI 0))), (sp, .inl (g 0, 8, .inl (fun _ => nI 0)))] hD
  have hP : va_P D vwCl ((tn, .inr (5, [.long (lN 0), .int (nI 0)])) :: (o, .inr (0, [.int (nI 2), .int (nI M), .int (nI (M + 12)), .long (lN (2 ^ M - 1)), .int (nI (2 ^ 12 - 1)), .ref oc, .ref tn, .int (nI 0), .int (nI 0), .long (lN 0), .int (nI 0), .int (nI 0), .ref ac, .int (nI 0), .int ((-1)), .ref sp, .int (nI 0)])) :: (ac, .inl (g 0, 8, .inl (fun _ => nI 0))) :: (sp, .inl (g 0, 8, .inl (fun _ => nI 0))) :: (oc, .inr (3, [.int (nI M), .int (nI 12), .ref uc])) :: (uc, .inl (g 0, M, .inl (fun j => nI (if j < M then mkN j else 0)))) :: wr) H := wp_pull [(o, .inr (0, [.int (nI 2), .int (nI M), .int (nI (M + 12)), .long (lN (2 ^ M - 1)), .int (nI (2 ^ 12 - 1)), .ref oc, .ref tn, .int (nI 0), .int (nI 0), .long (lN 0), .int (nI 0), .int (nI 0), .ref ac, .int (nI 0), .int ((-1)), .ref sp, .int (nI 0)])), (ac, .inl (g 0, 8, .inl (fun _ => nI 0))), (sp, .inl (g 0, 8, .inl (fun _ => nI 0)))] hP
  have hD : va_D A ((tn, .inr (5, [.long (lN 0), .int (nI 0)])) :: (o, .inr (0, [.int (nI 2), .int (nI M), .int (nI (M + 12)), .long (lN (2 ^ M - 1)), .int (nI (2 ^ 12 - 1)), .ref oc, .ref tn, .int (nI 0), .int (nI 0), .long (lN 0), .int (nI 0), .int (nI 0), .ref ac, .int (nI 0), .int ((-1)), .ref sp, .int (nI 0)])) :: (ac, .inl (g 0, 8, .inl (fun _ => nI 0))) :: (sp, .inl (g 0, 8, .inl (fun _ => nI 0))) :: (oc, .inr (3, [.int (nI M), .int (nI 12), .ref uc])) :: (uc, .inl (g 0, M, .inl (fun j => nI (if j < M then mkN j else 0)))) :: wr) := wd_pull [(o, .inr (0, [.int (nI 2), .int (nI M), .int (nI (M + 12)), .long (lN (2 ^ M - 1)), .int (nI (2 ^ 12 - 1)), .ref oc, .ref tn, .int (nI 0), .int (nI 0), .long (lN 0), .int (nI 0), .int (nI 0), .ref ac, .int (nI 0), .int ((-1)), .ref sp, .int (nI 0)])), (ac, .inl (g 0, 8, .inl (fun _ => nI 0))), (sp, .inl (g 0, 8, .inl (fun _ => nI 0)))] hD
  have hcw : CodeW g 2 M oc [(oc, .inr (3, [.int (nI M), .int (nI 12), .ref uc])), (uc, .inl (g 0, M, .inl (fun j => nI (if j < M then mkN j else 0))))] := Or.inr (Or.inr (Or.inl ⟨rfl, 0, 1, uc, rfl, rfl⟩))
  refine W.widen (k := 23) (n := 884) (by omega) (by omega) ?_
  rw [← hQ]
  refine W.vret hx hb hr ?_ hS.2.2 d_C_init_120
  exact fun t ht hW => ⟨⟨(tn, ac, sp, oc, [(oc, .inr (3, [.int (nI M), .int (nI 12), .ref uc])), (uc, .inl (g 0, M, .inl (fun j => nI (if j < M then mkN j else 0))))]), rfl, hcw, by rw [ht]; exact hP, hD⟩, hS.F ht⟩
set_option maxHeartbeats 4000000 in
set_option maxRecDepth 100000 in
theorem c_C_init_3 (l : Launch) (D : va_G) (g : Nat → ClassId) (sz : Nat) (wr : va_W) (o : Nat) (b0 k0 : Int32) (M : Nat) (hMd : M = mOf b0) (hkd : kdOf k0 = 3) : Met l y_C_init w_C_init rm_C_init (va_Pc [.ref o, .int (b0), .int (k0)] (pP D (tyl g) ((o, .inr (0, [.int (nI 0), .int (nI 0), .int (nI 0), .long (lN 0), .int (nI 0), .null, .null, .int (nI 0), .int (nI 0), .long (lN 0), .int (nI 0), .int (nI 0), .null, .int (nI 0), .int (nI 0), .null, .int (nI 0)])) :: wr) sz)) (va_Qv (fun (u : (Nat × Nat × Nat × Nat × va_W)) => CodeW g 3 M u.2.2.2.1 u.2.2.2.2) (fun u => qB D (va_A ((o, .inr (0, [.int (nI 0), .int (nI 0), .int (nI 0), .long (lN 0), .int (nI 0), .null, .null, .int (nI 0), .int (nI 0), .long (lN 0), .int (nI 0), .int (nI 0), .null, .int (nI 0), .int (nI 0), .null, .int (nI 0)])) :: wr) sz) ((u.1, .inr (5, [.long (lN 0), .int (nI 0)])) :: (o, .inr (0, [.int (nI 3), .int (nI M), .int (nI (M + (frm M 4 4))), .long (lN (2 ^ M - 1)), .int (nI (2 ^ (frm M 4 4) - 1)), .ref u.2.2.2.1, .ref u.1, .int (nI 0), .int (nI 0), .long (lN 0), .int (nI 0), .int (nI 0), .ref u.2.1, .int (nI 0), .int ((-1)), .ref u.2.2.1, .int (nI 0)])) :: (u.2.1, .inl (g 0, 8, .inl (fun _ => nI 0))) :: (u.2.2.1, .inl (g 0, 8, .inl (fun _ => nI 0))) :: (u.2.2.2.2 ++ wr))) (va_A ((o, .inr (0, [.int (nI 0), .int (nI 0), .int (nI 0), .long (lN 0), .int (nI 0), .null, .null, .int (nI 0), .int (nI 0), .long (lN 0), .int (nI 0), .int (nI 0), .null, .int (nI 0), .int (nI 0), .null, .int (nI 0)])) :: wr) sz)) 23 884 (va_A ((o, .inr (0, [.int (nI 0), .int (nI 0), .int (nI 0), .long (lN 0), .int (nI 0), .null, .null, .int (nI 0), .int (nI 0), .long (lN 0), .int (nI 0), .int (nI 0), .null, .int (nI 0), .int (nI 0), .null, .int (nI 0)])) :: wr) sz) := by
  refine Met.ofW (cc := b_C_init) (maxL := 3) (ret := none) (by decide +kernel) rfl ?_
  intro p e s m args below meth c s₁ Bq hml hv
  have hx := Bq.exec
  have hb := Bq.bytes
  have hr := Bq.returns
  have hts : ∀ w ∈ wA, w.before args s = true := fun w h => atoms_spec (ws := w_C_init) Bq.pre w (List.mem_cons_of_mem _ h)
  have hown : s.vm.findClass R_C = some m.cls := findClass_of_methodNamed Bq.named
  have hlocks := Bq.notSynchronized
  have hin : meth.name = "<init>" := (name_of_methodNamed Bq.named Bq.method).1
  obtain ⟨rfl, hsz, hP, hKK, hD0⟩ := hv
  have hK := hKK.1
  subst hsz
  have hD := hD0.self (sz := s.heap.size)
  generalize hAe : va_A ((o, .inr (0, [.int (nI 0), .int (nI 0), .int (nI 0), .long (lN 0), .int (nI 0), .null, .null, .int (nI 0), .int (nI 0), .long (lN 0), .int (nI 0), .int (nI 0), .null, .int (nI 0), .int (nI 0), .null, .int (nI 0)])) :: wr) s.heap.size = A at hD ⊢
  have hA : ∀ q : Nat, s.heap.size ≤ q → A q := fun q h => by rw [← hAe]; exact Or.inr h
  have hS : va_S A s.heap s.heap [] := va_S.rf
  have hl := lv_entry ([.ref o, .int (b0), .int (k0)]) (n := 3) (Nat.le_of_ble_eq_true rfl)
  rw [lg_entry_eq]
  generalize (lg_sl ([.ref o, .int (b0), .int (k0)]) ++ List.replicate (3 - (lg_sl ([.ref o, .int (b0), .int (k0)])).length) Slot.unset).toArray = ls at hl ⊢
  have hl : lv_has ls 3 [(0, .ref o), (1, .int (b0)), (2, .int (k0))] := hl
  generalize hQ : MQ below (va_Qv (fun (u : (Nat × Nat × Nat × Nat × va_W)) => CodeW g 3 M u.2.2.2.1 u.2.2.2.2) (fun u => qB D (A) ((u.1, .inr (5, [.long (lN 0), .int (nI 0)])) :: (o, .inr (0, [.int (nI 3), .int (nI M), .int (nI (M + (frm M 4 4))), .long (lN (2 ^ M - 1)), .int (nI (2 ^ (frm M 4 4) - 1)), .ref u.2.2.2.1, .ref u.1, .int (nI 0), .int (nI 0), .long (lN 0), .int (nI 0), .int (nI 0), .ref u.2.1, .int (nI 0), .int ((-1)), .ref u.2.2.1, .int (nI 0)])) :: (u.2.1, .inl (g 0, 8, .inl (fun _ => nI 0))) :: (u.2.2.1, .inl (g 0, 8, .inl (fun _ => nI 0))) :: (u.2.2.2.2 ++ wr))) (A)) [.ref o, .int (b0), .int (k0)].toArray s 23 884 A = Q
  have hRc : (headSpec w_C_init rm_C_init).room.cells = 23 := rfl
  have hRs : (headSpec w_C_init rm_C_init).room.slots = 884 := rfl
  have hMi : 0 < M ∧ M ≤ 57 := by rw [hMd]; exact mOf_in b0
  have hck : frm M 4 4 ≤ 28 := ckb_le 3 M
  have bl := b0.le_toInt
  have bu := b0.toInt_lt
  have hi1 := i2l_1 b0
  refine lv_aload_n hx hb d_C_init_0 rfl (lv_at hl 0 rfl) ?_
  refine W.objInit hx hb hown (hts _ m_52) (hts _ m_53) (hts _ m_54) rfl (by rw [hml]; exact hl.1) rfl d_C_init_1 (Nat.le_of_ble_eq_true rfl) (Nat.le_of_ble_eq_true rfl) ?_
  refine W.eq (g2 := F0 m 4 ls []) rfl ?_
  refine lv_aload_n hx hb d_C_init_4 rfl (lv_at hl 0 rfl) ?_
  refine lv_iconst (v := nI 1) hx hb d_C_init_5 (by decide) ?_
  refine lv_iload_n hx hb d_C_init_6 rfl (lv_at hl 1 rfl) ?_
  refine lv_i2l (v := b0.toInt64) hx hb d_C_init_7 (rfl) ?_
  refine lv_lconst (v := lN 1) hx hb d_C_init_8 (by decide) ?_
  refine lx_lsub (z := b0.toInt64 - lN 1) hx hb d_C_init_9 (rfl) ?_
  refine lv_ldc2 (v := 57) hx hb hown (hts _ m_55) d_C_init_10 ?_
  refine lv_topl (fun y1 ey1 => ?_)
  obtain rfl : y1 = lN 57 := ey1.trans (by decide)
  refine lc_Sl (As := [.long (b0.toInt64 - lN 1), .long (lN 57)]) (rest := [.int (nI 1), .ref o]) ⟨hx, hb, hml, hown, hts⟩ (c_JM_floorMod l D g _ _ (b0.toInt64 - lN 1) (by omega) (by omega)) (kS 2 hts m_58 m_56 m_57 m_30 (by decide +kernel) ⟨Nat.le_of_ble_eq_true rfl, Nat.le_of_ble_eq_true rfl⟩) hKK hP hD hS hA hl.1 rfl rfl (Nat.le_of_ble_eq_true rfl) d_C_init_13 ⟨Nat.le_of_ble_eq_true rfl, Nat.le_of_ble_eq_true rfl⟩ (fun r1 u H locs e1 hP hD hS => ?_)
  obtain rfl : r1 = lN (((b0.toInt - 1) % 57).toNat) := by rw [e1, hi1]
  refine lv_l2i (v := nI (((b0.toInt - 1) % 57).toNat)) hx hb d_C_init_16 (lN_i (((b0.toInt - 1) % 57).toNat)) ?_
  refine lx_iadd (z := nI M) hx hb d_C_init_17 ((nI_add 1 ((b0.toInt - 1) % 57).toNat).trans (by rw [hMd]; rfl)) ?_
  refine va_putF (D := D) (ci := 0) (v := .int (nI M)) (ty := .int) (C := R_C) (T := F_C) (N := 17) hx hb hts i_C tf_C tf_C_ok nf_C hown hK hP hD hS 0 rfl rfl 1 (by decide) (hts _ m_204) (fun _ h9 => h9) rfl hin rfl (by decide +kernel) rfl rfl (Nat.le_of_ble_eq_true rfl) d_C_init_18 (fun H locs hP hD hS => ?_)
  have hP : va_P D vwCl ((o, .inr (0, [.int (nI 0), .int (nI M), .int (nI 0), .long (lN 0), .int (nI 0), .null, .null, .int (nI 0), .int (nI 0), .long (lN 0), .int (nI 0), .int (nI 0), .null, .int (nI 0), .int (nI 0), .null, .int (nI 0)])) :: wr) H := hP
  have hD : va_D A ((o, .inr (0, [.int (nI 0), .int (nI M), .int (nI 0), .long (lN 0), .int (nI 0), .null, .null, .int (nI 0), .int (nI 0), .long (lN 0), .int (nI 0), .int (nI 0), .null, .int (nI 0), .int (nI 0), .null, .int (nI 0)])) :: wr) := hD
  refine lv_aload_n hx hb d_C_init_21 rfl (lv_at hl 0 rfl) ?_
  refine lv_iload_n hx hb d_C_init_22 rfl (lv_at hl 2 rfl) ?_
  refine lv_iconst (v := nI 4) hx hb d_C_init_23 (by decide) ?_
  refine lc_Si (As := [.int (k0), .int (nI 4)]) (rest := [.ref o]) ⟨hx, hb, hml, hown, hts⟩ (c_JM_floorMod2 l D g _ _ k0) (kS 2 hts m_61 m_59 m_60 m_30 (by decide +kernel) ⟨Nat.le_of_ble_eq_true rfl, Nat.le_of_ble_eq_true rfl⟩) hKK hP hD hS hA hl.1 rfl rfl (Nat.le_of_ble_eq_true rfl) d_C_init_24 ⟨Nat.le_of_ble_eq_true rfl, Nat.le_of_ble_eq_true rfl⟩ (fun r2 u H locs e2 hP hD hS => ?_)
  obtain rfl : r2 = nI 3 := by rw [e2, hkd]
  refine va_putF (D := D) (ci := 0) (v := .int (nI 3)) (ty := .int) (C := R_C) (T := F_C) (N := 17) hx hb hts i_C tf_C tf_C_ok nf_C hown hK hP hD hS 0 rfl rfl 0 (by decide) (hts _ m_203) (fun _ h9 => h9) rfl hin rfl (by decide +kernel) rfl rfl (Nat.le_of_ble_eq_true rfl) d_C_init_27 (fun H locs hP hD hS => ?_)
  have hP : va_P D vwCl ((o, .inr (0, [.int (nI 3), .int (nI M), .int (nI 0), .long (lN 0), .int (nI 0), .null, .null, .int (nI 0), .int (nI 0), .long (lN 0), .int (nI 0), .int (nI 0), .null, .int (nI 0), .int (nI 0), .null, .int (nI 0)])) :: wr) H := hP
  have hD : va_D A ((o, .inr (0, [.int (nI 3), .int (nI M), .int (nI 0), .long (lN 0), .int (nI 0), .null, .null, .int (nI 0), .int (nI 0), .long (lN 0), .int (nI 0), .int (nI 0), .null, .int (nI 0), .int (nI 0), .null, .int (nI 0)])) :: wr) := hD
  refine lv_aload_n hx hb d_C_init_30 rfl (lv_at hl 0 rfl) ?_
  refine lv_aload_n hx hb d_C_init_31 rfl (lv_at hl 0 rfl) ?_
  refine va_get (D := D) (ci := 0) (v := .int (nI 3)) (C := R_C) (T := F_C) (N := 17) hx hb hts i_C hown hK hP 0 rfl rfl 0 (by decide) (hts _ m_203) (fun _ h9 => h9) rfl d_C_init_32 ?_
  refine lv_aload_n hx hb d_C_init_35 rfl (lv_at hl 0 rfl) ?_
  refine va_get (D := D) (ci := 0) (v := .int (nI M)) (C := R_C) (T := F_C) (N := 17) hx hb hts i_C hown hK hP 0 rfl rfl 1 (by decide) (hts _ m_204) (fun _ h9 => h9) rfl d_C_init_36 ?_
  refine lc_Sr (As := [.int (nI 3), .int (nI M)]) (rest := [.ref o]) ⟨hx, hb, hml, hown, hts⟩ (c_C_codeOf_3 l D g _ _ M hMi.1 hMi.2) (kS 2 hts m_64 m_62 m_63 m_29 (by decide +kernel) ⟨Nat.le_of_ble_eq_true rfl, Nat.le_of_ble_eq_true rfl⟩) hKK hP hD hS hA hl.1 rfl rfl (Nat.le_of_ble_eq_true rfl) d_C_init_39 ⟨Nat.le_of_ble_eq_true rfl, Nat.le_of_ble_eq_true rfl⟩ (fun uc oc H locs _ hP hD hS => ?_)
  refine W.widen (k := 19) (n := 849) (by omega) (by omega) ?_
  have hP : va_P D vwCl ((oc, .inr (1, [.int (nI M), .int (nI (frm M 4 4)), .ref uc.2.2, .ref uc.2.1])) :: (uc.2.2, .inl (g 0, M, .inl (fun k => nI (mkS M 4 k)))) :: (uc.1 15, .inl (g 0, 2 ^ lr (wid M 4 3), .inl (fun s => oI (ba (lr (wid M 4 3)) (wid M 4 3) (wid M 4 3) s)))) :: (uc.1 14, .inl (g 0, lr (wid M 4 3), .inl (fun r => nI (rsf (lr (wid M 4 3)) (wid M 4 3) r)))) :: (uc.1 13, .inl (g 0, (wid M 4 3), .inl (fun j => nI (if j < wid M 4 3 then cc_ (lr (wid M 4 3)) j else 0)))) :: (uc.1 12, .inr (4, [.int (nI (lr (wid M 4 3))), .ref (uc.1 13), .ref (uc.1 14), .ref (uc.1 15)])) :: (uc.1 11, .inl (g 0, 2 ^ lr (wid M 4 2), .inl (fun s => oI (ba (lr (wid M 4 2)) (wid M 4 2) (wid M 4 2) s)))) :: (uc.1 10, .inl (g 0, lr (wid M 4 2), .inl (fun r => nI (rsf (lr (wid M 4 2)) (wid M 4 2) r)))) :: (uc.1 9, .inl (g 0, (wid M 4 2), .inl (fun j => nI (if j < wid M 4 2 then cc_ (lr (wid M 4 2)) j else 0)))) :: (uc.1 8, .inr (4, [.int (nI (lr (wid M 4 2))), .ref (uc.1 9), .ref (uc.1 10), .ref (uc.1 11)])) :: (uc.1 7, .inl (g 0, 2 ^ lr (wid M 4 1), .inl (fun s => oI (ba (lr (wid M 4 1)) (wid M 4 1) (wid M 4 1) s)))) :: (uc.1 6, .inl (g 0, lr (wid M 4 1), .inl (fun r => nI (rsf (lr (wid M 4 1)) (wid M 4 1) r)))) :: (uc.1 5, .inl (g 0, (wid M 4 1), .inl (fun j => nI (if j < wid M 4 1 then cc_ (lr (wid M 4 1)) j else 0)))) :: (uc.1 4, .inr (4, [.int (nI (lr (wid M 4 1))), .ref (uc.1 5), .ref (uc.1 6), .ref (uc.1 7)])) :: (uc.1 3, .inl (g 0, 2 ^ lr (wid M 4 0), .inl (fun s => oI (ba (lr (wid M 4 0)) (wid M 4 0) (wid M 4 0) s)))) :: (uc.1 2, .inl (g 0, lr (wid M 4 0), .inl (fun r => nI (rsf (lr (wid M 4 0)) (wid M 4 0) r)))) :: (uc.1 1, .inl (g 0, (wid M 4 0), .inl (fun j => nI (if j < wid M 4 0 then cc_ (lr (wid M 4 0)) j else 0)))) :: (uc.1 0, .inr (4, [.int (nI (lr (wid M 4 0))), .ref (uc.1 1), .ref (uc.1 2), .ref (uc.1 3)])) :: (uc.2.1, .inl (g 3, 4, .inr (.inr (.inr (.inr (fun i => some (uc.1 (4 * i)))))))) :: (o, .inr (0, [.int (nI 3), .int (nI M), .int (nI 0), .long (lN 0), .int (nI 0), .null, .null, .int (nI 0), .int (nI 0), .long (lN 0), .int (nI 0), .int (nI 0), .null, .int (nI 0), .int (nI 0), .null, .int (nI 0)])) :: wr) H := hP
  have hD : va_D A ((oc, .inr (1, [.int (nI M), .int (nI (frm M 4 4)), .ref uc.2.2, .ref uc.2.1])) :: (uc.2.2, .inl (g 0, M, .inl (fun k => nI (mkS M 4 k)))) :: (uc.1 15, .inl (g 0, 2 ^ lr (wid M 4 3), .inl (fun s => oI (ba (lr (wid M 4 3)) (wid M 4 3) (wid M 4 3) s)))) :: (uc.1 14, .inl (g 0, lr (wid M 4 3), .inl (fun r => nI (rsf (lr (wid M 4 3)) (wid M 4 3) r)))) :: (uc.1 13, .inl (g 0, (wid M 4 3), .inl (fun j => nI (if j < wid M 4 3 then cc_ (lr (wid M 4 3)) j else 0)))) :: (uc.1 12, .inr (4, [.int (nI (lr (wid M 4 3))), .ref (uc.1 13), .ref (uc.1 14), .ref (uc.1 15)])) :: (uc.1 11, .inl (g 0, 2 ^ lr (wid M 4 2), .inl (fun s => oI (ba (lr (wid M 4 2)) (wid M 4 2) (wid M 4 2) s)))) :: (uc.1 10, .inl (g 0, lr (wid M 4 2), .inl (fun r => nI (rsf (lr (wid M 4 2)) (wid M 4 2) r)))) :: (uc.1 9, .inl (g 0, (wid M 4 2), .inl (fun j => nI (if j < wid M 4 2 then cc_ (lr (wid M 4 2)) j else 0)))) :: (uc.1 8, .inr (4, [.int (nI (lr (wid M 4 2))), .ref (uc.1 9), .ref (uc.1 10), .ref (uc.1 11)])) :: (uc.1 7, .inl (g 0, 2 ^ lr (wid M 4 1), .inl (fun s => oI (ba (lr (wid M 4 1)) (wid M 4 1) (wid M 4 1) s)))) :: (uc.1 6, .inl (g 0, lr (wid M 4 1), .inl (fun r => nI (rsf (lr (wid M 4 1)) (wid M 4 1) r)))) :: (uc.1 5, .inl (g 0, (wid M 4 1), .inl (fun j => nI (if j < wid M 4 1 then cc_ (lr (wid M 4 1)) j else 0)))) :: (uc.1 4, .inr (4, [.int (nI (lr (wid M 4 1))), .ref (uc.1 5), .ref (uc.1 6), .ref (uc.1 7)])) :: (uc.1 3, .inl (g 0, 2 ^ lr (wid M 4 0), .inl (fun s => oI (ba (lr (wid M 4 0)) (wid M 4 0) (wid M 4 0) s)))) :: (uc.1 2, .inl (g 0, lr (wid M 4 0), .inl (fun r => nI (rsf (lr (wid M 4 0)) (wid M 4 0) r)))) :: (uc.1 1, .inl (g 0, (wid M 4 0), .inl (fun j => nI (if j < wid M 4 0 then cc_ (lr (wid M 4 0)) j else 0)))) :: (uc.1 0, .inr (4, [.int (nI (lr (wid M 4 0))), .ref (uc.1 1), .ref (uc.1 2), .ref (uc.1 3)])) :: (uc.2.1, .inl (g 3, 4, .inr (.inr (.inr (.inr (fun i => some (uc.1 (4 * i)))))))) :: (o, .inr (0, [.int (nI 3), .int (nI M), .int (nI 0), .long (lN 0), .int (nI 0), .null, .null, .int (nI 0), .int (nI 0), .long (lN 0), .int (nI 0), .int (nI 0), .null, .int (nI 0), .int (nI 0), .null, .int (nI 0)])) :: wr) := hD
  have hP : va_P D vwCl ((o, .inr (0, [.int (nI 3), .int (nI M), .int (nI 0), .long (lN 0), .int (nI 0), .null, .null, .int (nI 0), .int (nI 0), .long (lN 0), .int (nI 0), .int (nI 0), .null, .int (nI 0), .int (nI 0), .null, .int (nI 0)])) :: (oc, .inr (1, [.int (nI M), .int (nI (frm M 4 4)), .ref uc.2.2, .ref uc.2.1])) :: (uc.2.2, .inl (g 0, M, .inl (fun k => nI (mkS M 4 k)))) :: (uc.1 15, .inl (g 0, 2 ^ lr (wid M 4 3), .inl (fun s => oI (ba (lr (wid M 4 3)) (wid M 4 3) (wid M 4 3) s)))) :: (uc.1 14, .inl (g 0, lr (wid M 4 3), .inl (fun r => nI (rsf (lr (wid M 4 3)) (wid M 4 3) r)))) :: (uc.1 13, .inl (g 0, (wid M 4 3), .inl (fun j => nI (if j < wid M 4 3 then cc_ (lr (wid M 4 3)) j else 0)))) :: (uc.1 12, .inr (4, [.int (nI (lr (wid M 4 3))), .ref (uc.1 13), .ref (uc.1 14), .ref (uc.1 15)])) :: (uc.1 11, .inl (g 0, 2 ^ lr (wid M 4 2), .inl (fun s => oI (ba (lr (wid M 4 2)) (wid M 4 2) (wid M 4 2) s)))) :: (uc.1 10, .inl (g 0, lr (wid M 4 2), .inl (fun r => nI (rsf (lr (wid M 4 2)) (wid M 4 2) r)))) :: (uc.1 9, .inl (g 0, (wid M 4 2), .inl (fun j => nI (if j < wid M 4 2 then cc_ (lr (wid M 4 2)) j else 0)))) :: (uc.1 8, .inr (4, [.int (nI (lr (wid M 4 2))), .ref (uc.1 9), .ref (uc.1 10), .ref (uc.1 11)])) :: (uc.1 7, .inl (g 0, 2 ^ lr (wid M 4 1), .inl (fun s => oI (ba (lr (wid M 4 1)) (wid M 4 1) (wid M 4 1) s)))) :: (uc.1 6, .inl (g 0, lr (wid M 4 1), .inl (fun r => nI (rsf (lr (wid M 4 1)) (wid M 4 1) r)))) :: (uc.1 5, .inl (g 0, (wid M 4 1), .inl (fun j => nI (if j < wid M 4 1 then cc_ (lr (wid M 4 1)) j else 0)))) :: (uc.1 4, .inr (4, [.int (nI (lr (wid M 4 1))), .ref (uc.1 5), .ref (uc.1 6), .ref (uc.1 7)])) :: (uc.1 3, .inl (g 0, 2 ^ lr (wid M 4 0), .inl (fun s => oI (ba (lr (wid M 4 0)) (wid M 4 0) (wid M 4 0) s)))) :: (uc.1 2, .inl (g 0, lr (wid M 4 0), .inl (fun r => nI (rsf (lr (wid M 4 0)) (wid M 4 0) r)))) :: (uc.1 1, .inl (g 0, (wid M 4 0), .inl (fun j => nI (if j < wid M 4 0 then cc_ (lr (wid M 4 0)) j else 0)))) :: (uc.1 0, .inr (4, [.int (nI (lr (wid M 4 0))), .ref (uc.1 1), .ref (uc.1 2), .ref (uc.1 3)])) :: (uc.2.1, .inl (g 3, 4, .inr (.inr (.inr (.inr (fun i => some (uc.1 (4 * i)))))))) :: wr) H := wp_pull [(oc, .inr (1, [.int (nI M), .int (nI (frm M 4 4)), .ref uc.2.2, .ref uc.2.1])), (uc.2.2, .inl (g 0, M, .inl (fun k => nI (mkS M 4 k)))), (uc.1 15, .inl (g 0, 2 ^ lr (wid M 4 3), .inl (fun s => oI (ba (lr (wid M 4 3)) (wid M 4 3) (wid M 4 3) s)))), (uc.1 14, .inl (g 0, lr (wid M 4 3), .inl (fun r => nI (rsf (lr (wid M 4 3)) (wid M 4 3) r)))), (uc.1 13, .inl (g 0, (wid M 4 3), .inl (fun j => nI (if j < wid M 4 3 then cc_ (lr (wid M 4 3)) j else 0)))), (uc.1 12, .inr (4, [.int (nI (lr (wid M 4 3))), .ref (uc.1 13), .ref (uc.1 14), .ref (uc.1 15)])), (uc.1 11, .inl (g 0, 2 ^ lr (wid M 4 2), .inl (fun s => oI (ba (lr (wid M 4 2)) (wid M 4 2) (wid M 4 2) s)))), (uc.1 10, .inl (g 0, lr (wid M 4 2), .inl (fun r => nI (rsf (lr (wid M 4 2)) (wid M 4 2) r)))), (uc.1 9, .inl (g 0, (wid M 4 2), .inl (fun j => nI (if j < wid M 4 2 then cc_ (lr (wid M 4 2)) j else 0)))), (uc.1 8, .inr (4, [.int (nI (lr (wid M 4 2))), .ref (uc.1 9), .ref (uc.1 10), .ref (uc.1 11)])), (uc.1 7, .inl (g 0, 2 ^ lr (wid M 4 1), .inl (fun s => oI (ba (lr (wid M 4 1)) (wid M 4 1) (wid M 4 1) s)))), (uc.1 6, .inl (g 0, lr (wid M 4 1), .inl (fun r => nI (rsf (lr (wid M 4 1)) (wid M 4 1) r)))), (uc.1 5, .inl (g 0, (wid M 4 1), .inl (fun j => nI (if j < wid M 4 1 then cc_ (lr (wid M 4 1)) j else 0)))), (uc.1 4, .inr (4, [.int (nI (lr (wid M 4 1))), .ref (uc.1 5), .ref (uc.1 6), .ref (uc.1 7)])), (uc.1 3, .inl (g 0, 2 ^ lr (wid M 4 0), .inl (fun s => oI (ba (lr (wid M 4 0)) (wid M 4 0) (wid M 4 0) s)))), (uc.1 2, .inl (g 0, lr (wid M 4 0), .inl (fun r => nI (rsf (lr (wid M 4 0)) (wid M 4 0) r)))), (uc.1 1, .inl (g 0, (wid M 4 0), .inl (fun j => nI (if j < wid M 4 0 then cc_ (lr (wid M 4 0)) j else 0)))), (uc.1 0, .inr (4, [.int (nI (lr (wid M 4 0))), .ref (uc.1 1), .ref (uc.1 2), .ref (uc.1 3)])), (uc.2.1, .inl (g 3, 4, .inr (.inr (.inr (.inr (fun i => some (uc.1 (4 * i))))))))] hP
  have hD : va_D A ((o, .inr (0, [.int (nI 3), .int (nI M), .int (nI 0), .long (lN 0), .int (nI 0), .null, .null, .int (nI 0), .int (nI 0), .long (lN 0), .int (nI 0), .int (nI 0), .null, .int (nI 0), .int (nI 0), .null, .int (nI 0)])) :: (oc, .inr (1, [.int (nI M), .int (nI (frm M 4 4)), .ref uc.2.2, .ref uc.2.1])) :: (uc.2.2, .inl (g 0, M, .inl (fun k => nI (mkS M 4 k)))) :: (uc.1 15, .inl (g 0, 2 ^ lr (wid M 4 3), .inl (fun s => oI (ba (lr (wid M 4 3)) (wid M 4 3) (wid M 4 3) s)))) :: (uc.1 14, .inl (g 0, lr (wid M 4 3), .inl (fun r => nI (rsf (lr (wid M 4 3)) (wid M 4 3) r)))) :: (uc.1 13, .inl (g 0, (wid M 4 3), .inl (fun j => nI (if j < wid M 4 3 then cc_ (lr (wid M 4 3)) j else 0)))) :: (uc.1 12, .inr (4, [.int (nI (lr (wid M 4 3))), .ref (uc.1 13), .ref (uc.1 14), .ref (uc.1 15)])) :: (uc.1 11, .inl (g 0, 2 ^ lr (wid M 4 2), .inl (fun s => oI (ba (lr (wid M 4 2)) (wid M 4 2) (wid M 4 2) s)))) :: (uc.1 10, .inl (g 0, lr (wid M 4 2), .inl (fun r => nI (rsf (lr (wid M 4 2)) (wid M 4 2) r)))) :: (uc.1 9, .inl (g 0, (wid M 4 2), .inl (fun j => nI (if j < wid M 4 2 then cc_ (lr (wid M 4 2)) j else 0)))) :: (uc.1 8, .inr (4, [.int (nI (lr (wid M 4 2))), .ref (uc.1 9), .ref (uc.1 10), .ref (uc.1 11)])) :: (uc.1 7, .inl (g 0, 2 ^ lr (wid M 4 1), .inl (fun s => oI (ba (lr (wid M 4 1)) (wid M 4 1) (wid M 4 1) s)))) :: (uc.1 6, .inl (g 0, lr (wid M 4 1), .inl (fun r => nI (rsf (lr (wid M 4 1)) (wid M 4 1) r)))) :: (uc.1 5, .inl (g 0, (wid M 4 1), .inl (fun j => nI (if j < wid M 4 1 then cc_ (lr (wid M 4 1)) j else 0)))) :: (uc.1 4, .inr (4, [.int (nI (lr (wid M 4 1))), .ref (uc.1 5), .ref (uc.1 6), .ref (uc.1 7)])) :: (uc.1 3, .inl (g 0, 2 ^ lr (wid M 4 0), .inl (fun s => oI (ba (lr (wid M 4 0)) (wid M 4 0) (wid M 4 0) s)))) :: (uc.1 2, .inl (g 0, lr (wid M 4 0), .inl (fun r => nI (rsf (lr (wid M 4 0)) (wid M 4 0) r)))) :: (uc.1 1, .inl (g 0, (wid M 4 0), .inl (fun j => nI (if j < wid M 4 0 then cc_ (lr (wid M 4 0)) j else 0)))) :: (uc.1 0, .inr (4, [.int (nI (lr (wid M 4 0))), .ref (uc.1 1), .ref (uc.1 2), .ref (uc.1 3)])) :: (uc.2.1, .inl (g 3, 4, .inr (.inr (.inr (.inr (fun i => some (uc.1 (4 * i)))))))) :: wr) := wd_pull [(oc, .inr (1, [.int (nI M), .int (nI (frm M 4 4)), .ref uc.2.2, .ref uc.2.1])), (uc.2.2, .inl (g 0, M, .inl (fun k => nI (mkS M 4 k)))), (uc.1 15, .inl (g 0, 2 ^ lr (wid M 4 3), .inl (fun s => oI (ba (lr (wid M 4 3)) (wid M 4 3) (wid M 4 3) s)))), (uc.1 14, .inl (g 0, lr (wid M 4 3), .inl (fun r => nI (rsf (lr (wid M 4 3)) (wid M 4 3) r)))), (uc.1 13, .inl (g 0, (wid M 4 3), .inl (fun j => nI (if j < wid M 4 3 then cc_ (lr (wid M 4 3)) j else 0)))), (uc.1 12, .inr (4, [.int (nI (lr (wid M 4 3))), .ref (uc.1 13), .ref (uc.1 14), .ref (uc.1 15)])), (uc.1 11, .inl (g 0, 2 ^ lr (wid M 4 2), .inl (fun s => oI (ba (lr (wid M 4 2)) (wid M 4 2) (wid M 4 2) s)))), (uc.1 10, .inl (g 0, lr (wid M 4 2), .inl (fun r => nI (rsf (lr (wid M 4 2)) (wid M 4 2) r)))), (uc.1 9, .inl (g 0, (wid M 4 2), .inl (fun j => nI (if j < wid M 4 2 then cc_ (lr (wid M 4 2)) j else 0)))), (uc.1 8, .inr (4, [.int (nI (lr (wid M 4 2))), .ref (uc.1 9), .ref (uc.1 10), .ref (uc.1 11)])), (uc.1 7, .inl (g 0, 2 ^ lr (wid M 4 1), .inl (fun s => oI (ba (lr (wid M 4 1)) (wid M 4 1) (wid M 4 1) s)))), (uc.1 6, .inl (g 0, lr (wid M 4 1), .inl (fun r => nI (rsf (lr (wid M 4 1)) (wid M 4 1) r)))), (uc.1 5, .inl (g 0, (wid M 4 1), .inl (fun j => nI (if j < wid M 4 1 then cc_ (lr (wid M 4 1)) j else 0)))), (uc.1 4, .inr (4, [.int (nI (lr (wid M 4 1))), .ref (uc.1 5), .ref (uc.1 6), .ref (uc.1 7)])), (uc.1 3, .inl (g 0, 2 ^ lr (wid M 4 0), .inl (fun s => oI (ba (lr (wid M 4 0)) (wid M 4 0) (wid M 4 0) s)))), (uc.1 2, .inl (g 0, lr (wid M 4 0), .inl (fun r => nI (rsf (lr (wid M 4 0)) (wid M 4 0) r)))), (uc.1 1, .inl (g 0, (wid M 4 0), .inl (fun j => nI (if j < wid M 4 0 then cc_ (lr (wid M 4 0)) j else 0)))), (uc.1 0, .inr (4, [.int (nI (lr (wid M 4 0))), .ref (uc.1 1), .ref (uc.1 2), .ref (uc.1 3)])), (uc.2.1, .inl (g 3, 4, .inr (.inr (.inr (.inr (fun i => some (uc.1 (4 * i))))))))] hD
  refine va_putF (D := D) (ci := 0) (v := .ref oc) (ty := .object "CheckCodes$Code") (C := R_C) (T := F_C) (N := 17) hx hb hts i_C tf_C tf_C_ok nf_C hown hK hP hD hS 0 rfl rfl 5 (by decide) (hts _ m_208) (fun _ h9 => h9) rfl hin rfl (by decide +kernel) rfl rfl (Nat.le_of_ble_eq_true rfl) d_C_init_42 (fun H locs hP hD hS => ?_)
  have hP : va_P D vwCl ((o, .inr (0, [.int (nI 3), .int (nI M), .int (nI 0), .long (lN 0), .int (nI 0), .ref oc, .null, .int (nI 0), .int (nI 0), .long (lN 0), .int (nI 0), .int (nI 0), .null, .int (nI 0), .int (nI 0), .null, .int (nI 0)])) :: (oc, .inr (1, [.int (nI M), .int (nI (frm M 4 4)), .ref uc.2.2, .ref uc.2.1])) :: (uc.2.2, .inl (g 0, M, .inl (fun k => nI (mkS M 4 k)))) :: (uc.1 15, .inl (g 0, 2 ^ lr (wid M 4 3), .inl (fun s => oI (ba (lr (wid M 4 3)) (wid M 4 3) (wid M 4 3) s)))) :: (uc.1 14, .inl (g 0, lr (wid M 4 3), .inl (fun r => nI (rsf (lr (wid M 4 3)) (wid M 4 3) r)))) :: (uc.1 13, .inl (g 0, (wid M 4 3), .inl (fun j => nI (if j < wid M 4 3 then cc_ (lr (wid M 4 3)) j else 0)))) :: (uc.1 12, .inr (4, [.int (nI (lr (wid M 4 3))), .ref (uc.1 13), .ref (uc.1 14), .ref (uc.1 15)])) :: (uc.1 11, .inl (g 0, 2 ^ lr (wid M 4 2), .inl (fun s => oI (ba (lr (wid M 4 2)) (wid M 4 2) (wid M 4 2) s)))) :: (uc.1 10, .inl (g 0, lr (wid M 4 2), .inl (fun r => nI (rsf (lr (wid M 4 2)) (wid M 4 2) r)))) :: (uc.1 9, .inl (g 0, (wid M 4 2), .inl (fun j => nI (if j < wid M 4 2 then cc_ (lr (wid M 4 2)) j else 0)))) :: (uc.1 8, .inr (4, [.int (nI (lr (wid M 4 2))), .ref (uc.1 9), .ref (uc.1 10), .ref (uc.1 11)])) :: (uc.1 7, .inl (g 0, 2 ^ lr (wid M 4 1), .inl (fun s => oI (ba (lr (wid M 4 1)) (wid M 4 1) (wid M 4 1) s)))) :: (uc.1 6, .inl (g 0, lr (wid M 4 1), .inl (fun r => nI (rsf (lr (wid M 4 1)) (wid M 4 1) r)))) :: (uc.1 5, .inl (g 0, (wid M 4 1), .inl (fun j => nI (if j < wid M 4 1 then cc_ (lr (wid M 4 1)) j else 0)))) :: (uc.1 4, .inr (4, [.int (nI (lr (wid M 4 1))), .ref (uc.1 5), .ref (uc.1 6), .ref (uc.1 7)])) :: (uc.1 3, .inl (g 0, 2 ^ lr (wid M 4 0), .inl (fun s => oI (ba (lr (wid M 4 0)) (wid M 4 0) (wid M 4 0) s)))) :: (uc.1 2, .inl (g 0, lr (wid M 4 0), .inl (fun r => nI (rsf (lr (wid M 4 0)) (wid M 4 0) r)))) :: (uc.1 1, .inl (g 0, (wid M 4 0), .inl (fun j => nI (if j < wid M 4 0 then cc_ (lr (wid M 4 0)) j else 0)))) :: (uc.1 0, .inr (4, [.int (nI (lr (wid M 4 0))), .ref (uc.1 1), .ref (uc.1 2), .ref (uc.1 3)])) :: (uc.2.1, .inl (g 3, 4, .inr (.inr (.inr (.inr (fun i => some (uc.1 (4 * i)))))))) :: wr) H := hP
  have hD : va_D A ((o, .inr (0, [.int (nI 3), .int (nI M), .int (nI 0), .long (lN 0), .int (nI 0), .ref oc, .null, .int (nI 0), .int (nI 0), .long (lN 0), .int (nI 0), .int (nI 0), .null, .int (nI 0), .int (nI 0), .null, .int (nI 0)])) :: (oc, .inr (1, [.int (nI M), .int (nI (frm M 4 4)), .ref uc.2.2, .ref uc.2.1])) :: (uc.2.2, .inl (g 0, M, .inl (fun k => nI (mkS M 4 k)))) :: (uc.1 15, .inl (g 0, 2 ^ lr (wid M 4 3), .inl (fun s => oI (ba (lr (wid M 4 3)) (wid M 4 3) (wid M 4 3) s)))) :: (uc.1 14, .inl (g 0, lr (wid M 4 3), .inl (fun r => nI (rsf (lr (wid M 4 3)) (wid M 4 3) r)))) :: (uc.1 13, .inl (g 0, (wid M 4 3), .inl (fun j => nI (if j < wid M 4 3 then cc_ (lr (wid M 4 3)) j else 0)))) :: (uc.1 12, .inr (4, [.int (nI (lr (wid M 4 3))), .ref (uc.1 13), .ref (uc.1 14), .ref (uc.1 15)])) :: (uc.1 11, .inl (g 0, 2 ^ lr (wid M 4 2), .inl (fun s => oI (ba (lr (wid M 4 2)) (wid M 4 2) (wid M 4 2) s)))) :: (uc.1 10, .inl (g 0, lr (wid M 4 2), .inl (fun r => nI (rsf (lr (wid M 4 2)) (wid M 4 2) r)))) :: (uc.1 9, .inl (g 0, (wid M 4 2), .inl (fun j => nI (if j < wid M 4 2 then cc_ (lr (wid M 4 2)) j else 0)))) :: (uc.1 8, .inr (4, [.int (nI (lr (wid M 4 2))), .ref (uc.1 9), .ref (uc.1 10), .ref (uc.1 11)])) :: (uc.1 7, .inl (g 0, 2 ^ lr (wid M 4 1), .inl (fun s => oI (ba (lr (wid M 4 1)) (wid M 4 1) (wid M 4 1) s)))) :: (uc.1 6, .inl (g 0, lr (wid M 4 1), .inl (fun r => nI (rsf (lr (wid M 4 1)) (wid M 4 1) r)))) :: (uc.1 5, .inl (g 0, (wid M 4 1), .inl (fun j => nI (if j < wid M 4 1 then cc_ (lr (wid M 4 1)) j else 0)))) :: (uc.1 4, .inr (4, [.int (nI (lr (wid M 4 1))), .ref (uc.1 5), .ref (uc.1 6), .ref (uc.1 7)])) :: (uc.1 3, .inl (g 0, 2 ^ lr (wid M 4 0), .inl (fun s => oI (ba (lr (wid M 4 0)) (wid M 4 0) (wid M 4 0) s)))) :: (uc.1 2, .inl (g 0, lr (wid M 4 0), .inl (fun r => nI (rsf (lr (wid M 4 0)) (wid M 4 0) r)))) :: (uc.1 1, .inl (g 0, (wid M 4 0), .inl (fun j => nI (if j < wid M 4 0 then cc_ (lr (wid M 4 0)) j else 0)))) :: (uc.1 0, .inr (4, [.int (nI (lr (wid M 4 0))), .ref (uc.1 1), .ref (uc.1 2), .ref (uc.1 3)])) :: (uc.2.1, .inl (g 3, 4, .inr (.inr (.inr (.inr (fun i => some (uc.1 (4 * i)))))))) :: wr) := hD
  refine lv_aload_n hx hb d_C_init_45 rfl (lv_at hl 0 rfl) ?_
  refine lv_aload_n hx hb d_C_init_46 rfl (lv_at hl 0 rfl) ?_
  refine va_get (D := D) (ci := 0) (v := .int (nI M)) (C := R_C) (T := F_C) (N := 17) hx hb hts i_C hown hK hP 0 rfl rfl 1 (by decide) (hts _ m_204) (fun _ h9 => h9) rfl d_C_init_47 ?_
  refine lv_aload_n hx hb d_C_init_50 rfl (lv_at hl 0 rfl) ?_
  refine va_get (D := D) (ci := 0) (v := .ref oc) (C := R_C) (T := F_C) (N := 17) hx hb hts i_C hown hK hP 0 rfl rfl 5 (by decide) (hts _ m_208) (fun _ h9 => h9) rfl d_C_init_51 ?_
  refine va_get (D := D) (ci := 1) (v := .int (nI (frm M 4 4))) (C := R_S) (T := F_S) (N := 4) hx hb hts i_S hown hK hP 1 rfl rfl 1 (by decide) (hts _ m_138) (fun _ h9 => h9) rfl d_C_init_54 ?_
  refine lx_iadd (z := nI (M + (frm M 4 4))) hx hb d_C_init_57 (nI_add _ _) ?_
  refine va_putF (D := D) (ci := 0) (v := .int (nI (M + (frm M 4 4)))) (ty := .int) (C := R_C) (T := F_C) (N := 17) hx hb hts i_C tf_C tf_C_ok nf_C hown hK hP hD hS 0 rfl rfl 2 (by decide) (hts _ m_205) (fun _ h9 => h9) rfl hin rfl (by decide +kernel) rfl rfl (Nat.le_of_ble_eq_true rfl) d_C_init_58 (fun H locs hP hD hS => ?_)
  have hP : va_P D vwCl ((o, .inr (0, [.int (nI 3), .int (nI M), .int (nI (M + (frm M 4 4))), .long (lN 0), .int (nI 0), .ref oc, .null, .int (nI 0), .int (nI 0), .long (lN 0), .int (nI 0), .int (nI 0), .null, .int (nI 0), .int (nI 0), .null, .int (nI 0)])) :: (oc, .inr (1, [.int (nI M), .int (nI (frm M 4 4)), .ref uc.2.2, .ref uc.2.1])) :: (uc.2.2, .inl (g 0, M, .inl (fun k => nI (mkS M 4 k)))) :: (uc.1 15, .inl (g 0, 2 ^ lr (wid M 4 3), .inl (fun s => oI (ba (lr (wid M 4 3)) (wid M 4 3) (wid M 4 3) s)))) :: (uc.1 14, .inl (g 0, lr (wid M 4 3), .inl (fun r => nI (rsf (lr (wid M 4 3)) (wid M 4 3) r)))) :: (uc.1 13, .inl (g 0, (wid M 4 3), .inl (fun j => nI (if j < wid M 4 3 then cc_ (lr (wid M 4 3)) j else 0)))) :: (uc.1 12, .inr (4, [.int (nI (lr (wid M 4 3))), .ref (uc.1 13), .ref (uc.1 14), .ref (uc.1 15)])) :: (uc.1 11, .inl (g 0, 2 ^ lr (wid M 4 2), .inl (fun s => oI (ba (lr (wid M 4 2)) (wid M 4 2) (wid M 4 2) s)))) :: (uc.1 10, .inl (g 0, lr (wid M 4 2), .inl (fun r => nI (rsf (lr (wid M 4 2)) (wid M 4 2) r)))) :: (uc.1 9, .inl (g 0, (wid M 4 2), .inl (fun j => nI (if j < wid M 4 2 then cc_ (lr (wid M 4 2)) j else 0)))) :: (uc.1 8, .inr (4, [.int (nI (lr (wid M 4 2))), .ref (uc.1 9), .ref (uc.1 10), .ref (uc.1 11)])) :: (uc.1 7, .inl (g 0, 2 ^ lr (wid M 4 1), .inl (fun s => oI (ba (lr (wid M 4 1)) (wid M 4 1) (wid M 4 1) s)))) :: (uc.1 6, .inl (g 0, lr (wid M 4 1), .inl (fun r => nI (rsf (lr (wid M 4 1)) (wid M 4 1) r)))) :: (uc.1 5, .inl (g 0, (wid M 4 1), .inl (fun j => nI (if j < wid M 4 1 then cc_ (lr (wid M 4 1)) j else 0)))) :: (uc.1 4, .inr (4, [.int (nI (lr (wid M 4 1))), .ref (uc.1 5), .ref (uc.1 6), .ref (uc.1 7)])) :: (uc.1 3, .inl (g 0, 2 ^ lr (wid M 4 0), .inl (fun s => oI (ba (lr (wid M 4 0)) (wid M 4 0) (wid M 4 0) s)))) :: (uc.1 2, .inl (g 0, lr (wid M 4 0), .inl (fun r => nI (rsf (lr (wid M 4 0)) (wid M 4 0) r)))) :: (uc.1 1, .inl (g 0, (wid M 4 0), .inl (fun j => nI (if j < wid M 4 0 then cc_ (lr (wid M 4 0)) j else 0)))) :: (uc.1 0, .inr (4, [.int (nI (lr (wid M 4 0))), .ref (uc.1 1), .ref (uc.1 2), .ref (uc.1 3)])) :: (uc.2.1, .inl (g 3, 4, .inr (.inr (.inr (.inr (fun i => some (uc.1 (4 * i)))))))) :: wr) H := hP
  have hD : va_D A ((o, .inr (0, [.int (nI 3), .int (nI M), .int (nI (M + (frm M 4 4))), .long (lN 0), .int (nI 0), .ref oc, .null, .int (nI 0), .int (nI 0), .long (lN 0), .int (nI 0), .int (nI 0), .null, .int (nI 0), .int (nI 0), .null, .int (nI 0)])) :: (oc, .inr (1, [.int (nI M), .int (nI (frm M 4 4)), .ref uc.2.2, .ref uc.2.1])) :: (uc.2.2, .inl (g 0, M, .inl (fun k => nI (mkS M 4 k)))) :: (uc.1 15, .inl (g 0, 2 ^ lr (wid M 4 3), .inl (fun s => oI (ba (lr (wid M 4 3)) (wid M 4 3) (wid M 4 3) s)))) :: (uc.1 14, .inl (g 0, lr (wid M 4 3), .inl (fun r => nI (rsf (lr (wid M 4 3)) (wid M 4 3) r)))) :: (uc.1 13, .inl (g 0, (wid M 4 3), .inl (fun j => nI (if j < wid M 4 3 then cc_ (lr (wid M 4 3)) j else 0)))) :: (uc.1 12, .inr (4, [.int (nI (lr (wid M 4 3))), .ref (uc.1 13), .ref (uc.1 14), .ref (uc.1 15)])) :: (uc.1 11, .inl (g 0, 2 ^ lr (wid M 4 2), .inl (fun s => oI (ba (lr (wid M 4 2)) (wid M 4 2) (wid M 4 2) s)))) :: (uc.1 10, .inl (g 0, lr (wid M 4 2), .inl (fun r => nI (rsf (lr (wid M 4 2)) (wid M 4 2) r)))) :: (uc.1 9, .inl (g 0, (wid M 4 2), .inl (fun j => nI (if j < wid M 4 2 then cc_ (lr (wid M 4 2)) j else 0)))) :: (uc.1 8, .inr (4, [.int (nI (lr (wid M 4 2))), .ref (uc.1 9), .ref (uc.1 10), .ref (uc.1 11)])) :: (uc.1 7, .inl (g 0, 2 ^ lr (wid M 4 1), .inl (fun s => oI (ba (lr (wid M 4 1)) (wid M 4 1) (wid M 4 1) s)))) :: (uc.1 6, .inl (g 0, lr (wid M 4 1), .inl (fun r => nI (rsf (lr (wid M 4 1)) (wid M 4 1) r)))) :: (uc.1 5, .inl (g 0, (wid M 4 1), .inl (fun j => nI (if j < wid M 4 1 then cc_ (lr (wid M 4 1)) j else 0)))) :: (uc.1 4, .inr (4, [.int (nI (lr (wid M 4 1))), .ref (uc.1 5), .ref (uc.1 6), .ref (uc.1 7)])) :: (uc.1 3, .inl (g 0, 2 ^ lr (wid M 4 0), .inl (fun s => oI (ba (lr (wid M 4 0)) (wid M 4 0) (wid M 4 0) s)))) :: (uc.1 2, .inl (g 0, lr (wid M 4 0), .inl (fun r => nI (rsf (lr (wid M 4 0)) (wid M 4 0) r)))) :: (uc.1 1, .inl (g 0, (wid M 4 0), .inl (fun j => nI (if j < wid M 4 0 then cc_ (lr (wid M 4 0)) j else 0)))) :: (uc.1 0, .inr (4, [.int (nI (lr (wid M 4 0))), .ref (uc.1 1), .ref (uc.1 2), .ref (uc.1 3)])) :: (uc.2.1, .inl (g 3, 4, .inr (.inr (.inr (.inr (fun i => some (uc.1 (4 * i)))))))) :: wr) := hD
  refine lv_aload_n hx hb d_C_init_61 rfl (lv_at hl 0 rfl) ?_
  refine lv_lconst (v := lN 1) hx hb d_C_init_62 (by decide) ?_
  refine lv_aload_n hx hb d_C_init_63 rfl (lv_at hl 0 rfl) ?_
  refine va_get (D := D) (ci := 0) (v := .int (nI M)) (C := R_C) (T := F_C) (N := 17) hx hb hts i_C hown hK hP 0 rfl rfl 1 (by decide) (hts _ m_204) (fun _ h9 => h9) rfl d_C_init_64 ?_
  refine lv_lshl (v := lN (2 ^ M)) hx hb d_C_init_67 ((xl_shl 1 (by omega)).trans (by rw [Nat.one_shiftLeft])) ?_
  refine lv_lconst (v := lN 1) hx hb d_C_init_68 (by decide) ?_
  refine lx_lsub (z := lN (2 ^ M - 1)) hx hb d_C_init_69 (lN_sub Nat.one_le_two_pow) ?_
  refine va_putF (D := D) (ci := 0) (v := .long (lN (2 ^ M - 1))) (ty := .long) (C := R_C) (T := F_C) (N := 17) hx hb hts i_C tf_C tf_C_ok nf_C hown hK hP hD hS 0 rfl rfl 3 (by decide) (hts _ m_206) (fun _ h9 => h9) rfl hin rfl (by decide +kernel) rfl rfl (Nat.le_of_ble_eq_true rfl) d_C_init_70 (fun H locs hP hD hS => ?_)
  have hP : va_P D vwCl ((o, .inr (0, [.int (nI 3), .int (nI M), .int (nI (M + (frm M 4 4))), .long (lN (2 ^ M - 1)), .int (nI 0), .ref oc, .null, .int (nI 0), .int (nI 0), .long (lN 0), .int (nI 0), .int (nI 0), .null, .int (nI 0), .int (nI 0), .null, .int (nI 0)])) :: (oc, .inr (1, [.int (nI M), .int (nI (frm M 4 4)), .ref uc.2.2, .ref uc.2.1])) :: (uc.2.2, .inl (g 0, M, .inl (fun k => nI (mkS M 4 k)))) :: (uc.1 15, .inl (g 0, 2 ^ lr (wid M 4 3), .inl (fun s => oI (ba (lr (wid M 4 3)) (wid M 4 3) (wid M 4 3) s)))) :: (uc.1 14, .inl (g 0, lr (wid M 4 3), .inl (fun r => nI (rsf (lr (wid M 4 3)) (wid M 4 3) r)))) :: (uc.1 13, .inl (g 0, (wid M 4 3), .inl (fun j => nI (if j < wid M 4 3 then cc_ (lr (wid M 4 3)) j else 0)))) :: (uc.1 12, .inr (4, [.int (nI (lr (wid M 4 3))), .ref (uc.1 13), .ref (uc.1 14), .ref (uc.1 15)])) :: (uc.1 11, .inl (g 0, 2 ^ lr (wid M 4 2), .inl (fun s => oI (ba (lr (wid M 4 2)) (wid M 4 2) (wid M 4 2) s)))) :: (uc.1 10, .inl (g 0, lr (wid M 4 2), .inl (fun r => nI (rsf (lr (wid M 4 2)) (wid M 4 2) r)))) :: (uc.1 9, .inl (g 0, (wid M 4 2), .inl (fun j => nI (if j < wid M 4 2 then cc_ (lr (wid M 4 2)) j else 0)))) :: (uc.1 8, .inr (4, [.int (nI (lr (wid M 4 2))), .ref (uc.1 9), .ref (uc.1 10), .ref (uc.1 11)])) :: (uc.1 7, .inl (g 0, 2 ^ lr (wid M 4 1), .inl (fun s => oI (ba (lr (wid M 4 1)) (wid M 4 1) (wid M 4 1) s)))) :: (uc.1 6, .inl (g 0, lr (wid M 4 1), .inl (fun r => nI (rsf (lr (wid M 4 1)) (wid M 4 1) r)))) :: (uc.1 5, .inl (g 0, (wid M 4 1), .inl (fun j => nI (if j < wid M 4 1 then cc_ (lr (wid M 4 1)) j else 0)))) :: (uc.1 4, .inr (4, [.int (nI (lr (wid M 4 1))), .ref (uc.1 5), .ref (uc.1 6), .ref (uc.1 7)])) :: (uc.1 3, .inl (g 0, 2 ^ lr (wid M 4 0), .inl (fun s => oI (ba (lr (wid M 4 0)) (wid M 4 0) (wid M 4 0) s)))) :: (uc.1 2, .inl (g 0, lr (wid M 4 0), .inl (fun r => nI (rsf (lr (wid M 4 0)) (wid M 4 0) r)))) :: (uc.1 1, .inl (g 0, (wid M 4 0), .inl (fun j => nI (if j < wid M 4 0 then cc_ (lr (wid M 4 0)) j else 0)))) :: (uc.1 0, .inr (4, [.int (nI (lr (wid M 4 0))), .ref (uc.1 1), .ref (uc.1 2), .ref (uc.1 3)])) :: (uc.2.1, .inl (g 3, 4, .inr (.inr (.inr (.inr (fun i => some (uc.1 (4 * i)))))))) :: wr) H := hP
  have hD : va_D A ((o, .inr (0, [.int (nI 3), .int (nI M), .int (nI (M + (frm M 4 4))), .long (lN (2 ^ M - 1)), .int (nI 0), .ref oc, .null, .int (nI 0), .int (nI 0), .long (lN 0), .int (nI 0), .int (nI 0), .null, .int (nI 0), .int (nI 0), .null, .int (nI 0)])) :: (oc, .inr (1, [.int (nI M), .int (nI (frm M 4 4)), .ref uc.2.2, .ref uc.2.1])) :: (uc.2.2, .inl (g 0, M, .inl (fun k => nI (mkS M 4 k)))) :: (uc.1 15, .inl (g 0, 2 ^ lr (wid M 4 3), .inl (fun s => oI (ba (lr (wid M 4 3)) (wid M 4 3) (wid M 4 3) s)))) :: (uc.1 14, .inl (g 0, lr (wid M 4 3), .inl (fun r => nI (rsf (lr (wid M 4 3)) (wid M 4 3) r)))) :: (uc.1 13, .inl (g 0, (wid M 4 3), .inl (fun j => nI (if j < wid M 4 3 then cc_ (lr (wid M 4 3)) j else 0)))) :: (uc.1 12, .inr (4, [.int (nI (lr (wid M 4 3))), .ref (uc.1 13), .ref (uc.1 14), .ref (uc.1 15)])) :: (uc.1 11, .inl (g 0, 2 ^ lr (wid M 4 2), .inl (fun s => oI (ba (lr (wid M 4 2)) (wid M 4 2) (wid M 4 2) s)))) :: (uc.1 10, .inl (g 0, lr (wid M 4 2), .inl (fun r => nI (rsf (lr (wid M 4 2)) (wid M 4 2) r)))) :: (uc.1 9, .inl (g 0, (wid M 4 2), .inl (fun j => nI (if j < wid M 4 2 then cc_ (lr (wid M 4 2)) j else 0)))) :: (uc.1 8, .inr (4, [.int (nI (lr (wid M 4 2))), .ref (uc.1 9), .ref (uc.1 10), .ref (uc.1 11)])) :: (uc.1 7, .inl (g 0, 2 ^ lr (wid M 4 1), .inl (fun s => oI (ba (lr (wid M 4 1)) (wid M 4 1) (wid M 4 1) s)))) :: (uc.1 6, .inl (g 0, lr (wid M 4 1), .inl (fun r => nI (rsf (lr (wid M 4 1)) (wid M 4 1) r)))) :: (uc.1 5, .inl (g 0, (wid M 4 1), .inl (fun j => nI (if j < wid M 4 1 then cc_ (lr (wid M 4 1)) j else 0)))) :: (uc.1 4, .inr (4, [.int (nI (lr (wid M 4 1))), .ref (uc.1 5), .ref (uc.1 6), .ref (uc.1 7)])) :: (uc.1 3, .inl (g 0, 2 ^ lr (wid M 4 0), .inl (fun s => oI (ba (lr (wid M 4 0)) (wid M 4 0) (wid M 4 0) s)))) :: (uc.1 2, .inl (g 0, lr (wid M 4 0), .inl (fun r => nI (rsf (lr (wid M 4 0)) (wid M 4 0) r)))) :: (uc.1 1, .inl (g 0, (wid M 4 0), .inl (fun j => nI (if j < wid M 4 0 then cc_ (lr (wid M 4 0)) j else 0)))) :: (uc.1 0, .inr (4, [.int (nI (lr (wid M 4 0))), .ref (uc.1 1), .ref (uc.1 2), .ref (uc.1 3)])) :: (uc.2.1, .inl (g 3, 4, .inr (.inr (.inr (.inr (fun i => some (uc.1 (4 * i)))))))) :: wr) := hD
  refine lv_aload_n hx hb d_C_init_73 rfl (lv_at hl 0 rfl) ?_
  refine lv_iconst (v := nI 1) hx hb d_C_init_74 (by decide) ?_
  refine lv_aload_n hx hb d_C_init_75 rfl (lv_at hl 0 rfl) ?_
  refine va_get (D := D) (ci := 0) (v := .ref oc) (C := R_C) (T := F_C) (N := 17) hx hb hts i_C hown hK hP 0 rfl rfl 5 (by decide) (hts _ m_208) (fun _ h9 => h9) rfl d_C_init_76 ?_
  refine va_get (D := D) (ci := 1) (v := .int (nI (frm M 4 4))) (C := R_S) (T := F_S) (N := 4) hx hb hts i_S hown hK hP 1 rfl rfl 1 (by decide) (hts _ m_138) (fun _ h9 => h9) rfl d_C_init_79 ?_
  refine lx_ishl (z := nI (2 ^ (frm M 4 4))) hx hb d_C_init_82 ((xn_shl 1 (by omega)).trans (by rw [Nat.one_shiftLeft])) ?_
  refine lv_iconst (v := nI 1) hx hb d_C_init_83 (by decide) ?_
  refine lx_isub (z := nI (2 ^ (frm M 4 4) - 1)) hx hb d_C_init_84 (pk_sub Nat.one_le_two_pow) ?_
  refine va_putF (D := D) (ci := 0) (v := .int (nI (2 ^ (frm M 4 4) - 1))) (ty := .int) (C := R_C) (T := F_C) (N := 17) hx hb hts i_C tf_C tf_C_ok nf_C hown hK hP hD hS 0 rfl rfl 4 (by decide) (hts _ m_207) (fun _ h9 => h9) rfl hin rfl (by decide +kernel) rfl rfl (Nat.le_of_ble_eq_true rfl) d_C_init_85 (fun H locs hP hD hS => ?_)
  have hP : va_P D vwCl ((o, .inr (0, [.int (nI 3), .int (nI M), .int (nI (M + (frm M 4 4))), .long (lN (2 ^ M - 1)), .int (nI (2 ^ (frm M 4 4) - 1)), .ref oc, .null, .int (nI 0), .int (nI 0), .long (lN 0), .int (nI 0), .int (nI 0), .null, .int (nI 0), .int (nI 0), .null, .int (nI 0)])) :: (oc, .inr (1, [.int (nI M), .int (nI (frm M 4 4)), .ref uc.2.2, .ref uc.2.1])) :: (uc.2.2, .inl (g 0, M, .inl (fun k => nI (mkS M 4 k)))) :: (uc.1 15, .inl (g 0, 2 ^ lr (wid M 4 3), .inl (fun s => oI (ba (lr (wid M 4 3)) (wid M 4 3) (wid M 4 3) s)))) :: (uc.1 14, .inl (g 0, lr (wid M 4 3), .inl (fun r => nI (rsf (lr (wid M 4 3)) (wid M 4 3) r)))) :: (uc.1 13, .inl (g 0, (wid M 4 3), .inl (fun j => nI (if j < wid M 4 3 then cc_ (lr (wid M 4 3)) j else 0)))) :: (uc.1 12, .inr (4, [.int (nI (lr (wid M 4 3))), .ref (uc.1 13), .ref (uc.1 14), .ref (uc.1 15)])) :: (uc.1 11, .inl (g 0, 2 ^ lr (wid M 4 2), .inl (fun s => oI (ba (lr (wid M 4 2)) (wid M 4 2) (wid M 4 2) s)))) :: (uc.1 10, .inl (g 0, lr (wid M 4 2), .inl (fun r => nI (rsf (lr (wid M 4 2)) (wid M 4 2) r)))) :: (uc.1 9, .inl (g 0, (wid M 4 2), .inl (fun j => nI (if j < wid M 4 2 then cc_ (lr (wid M 4 2)) j else 0)))) :: (uc.1 8, .inr (4, [.int (nI (lr (wid M 4 2))), .ref (uc.1 9), .ref (uc.1 10), .ref (uc.1 11)])) :: (uc.1 7, .inl (g 0, 2 ^ lr (wid M 4 1), .inl (fun s => oI (ba (lr (wid M 4 1)) (wid M 4 1) (wid M 4 1) s)))) :: (uc.1 6, .inl (g 0, lr (wid M 4 1), .inl (fun r => nI (rsf (lr (wid M 4 1)) (wid M 4 1) r)))) :: (uc.1 5, .inl (g 0, (wid M 4 1), .inl (fun j => nI (if j < wid M 4 1 then cc_ (lr (wid M 4 1)) j else 0)))) :: (uc.1 4, .inr (4, [.int (nI (lr (wid M 4 1))), .ref (uc.1 5), .ref (uc.1 6), .ref (uc.1 7)])) :: (uc.1 3, .inl (g 0, 2 ^ lr (wid M 4 0), .inl (fun s => oI (ba (lr (wid M 4 0)) (wid M 4 0) (wid M 4 0) s)))) :: (uc.1 2, .inl (g 0, lr (wid M 4 0), .inl (fun r => nI (rsf (lr (wid M 4 0)) (wid M 4 0) r)))) :: (uc.1 1, .inl (g 0, (wid M 4 0), .inl (fun j => nI (if j < wid M 4 0 then cc_ (lr (wid M 4 0)) j else 0)))) :: (uc.1 0, .inr (4, [.int (nI (lr (wid M 4 0))), .ref (uc.1 1), .ref (uc.1 2), .ref (uc.1 3)])) :: (uc.2.1, .inl (g 3, 4, .inr (.inr (.inr (.inr (fun i => some (uc.1 (4 * i)))))))) :: wr) H := hP
  have hD : va_D A ((o, .inr (0, [.int (nI 3), .int (nI M), .int (nI (M + (frm M 4 4))), .long (lN (2 ^ M - 1)), .int (nI (2 ^ (frm M 4 4) - 1)), .ref oc, .null, .int (nI 0), .int (nI 0), .long (lN 0), .int (nI 0), .int (nI 0), .null, .int (nI 0), .int (nI 0), .null, .int (nI 0)])) :: (oc, .inr (1, [.int (nI M), .int (nI (frm M 4 4)), .ref uc.2.2, .ref uc.2.1])) :: (uc.2.2, .inl (g 0, M, .inl (fun k => nI (mkS M 4 k)))) :: (uc.1 15, .inl (g 0, 2 ^ lr (wid M 4 3), .inl (fun s => oI (ba (lr (wid M 4 3)) (wid M 4 3) (wid M 4 3) s)))) :: (uc.1 14, .inl (g 0, lr (wid M 4 3), .inl (fun r => nI (rsf (lr (wid M 4 3)) (wid M 4 3) r)))) :: (uc.1 13, .inl (g 0, (wid M 4 3), .inl (fun j => nI (if j < wid M 4 3 then cc_ (lr (wid M 4 3)) j else 0)))) :: (uc.1 12, .inr (4, [.int (nI (lr (wid M 4 3))), .ref (uc.1 13), .ref (uc.1 14), .ref (uc.1 15)])) :: (uc.1 11, .inl (g 0, 2 ^ lr (wid M 4 2), .inl (fun s => oI (ba (lr (wid M 4 2)) (wid M 4 2) (wid M 4 2) s)))) :: (uc.1 10, .inl (g 0, lr (wid M 4 2), .inl (fun r => nI (rsf (lr (wid M 4 2)) (wid M 4 2) r)))) :: (uc.1 9, .inl (g 0, (wid M 4 2), .inl (fun j => nI (if j < wid M 4 2 then cc_ (lr (wid M 4 2)) j else 0)))) :: (uc.1 8, .inr (4, [.int (nI (lr (wid M 4 2))), .ref (uc.1 9), .ref (uc.1 10), .ref (uc.1 11)])) :: (uc.1 7, .inl (g 0, 2 ^ lr (wid M 4 1), .inl (fun s => oI (ba (lr (wid M 4 1)) (wid M 4 1) (wid M 4 1) s)))) :: (uc.1 6, .inl (g 0, lr (wid M 4 1), .inl (fun r => nI (rsf (lr (wid M 4 1)) (wid M 4 1) r)))) :: (uc.1 5, .inl (g 0, (wid M 4 1), .inl (fun j => nI (if j < wid M 4 1 then cc_ (lr (wid M 4 1)) j else 0)))) :: (uc.1 4, .inr (4, [.int (nI (lr (wid M 4 1))), .ref (uc.1 5), .ref (uc.1 6), .ref (uc.1 7)])) :: (uc.1 3, .inl (g 0, 2 ^ lr (wid M 4 0), .inl (fun s => oI (ba (lr (wid M 4 0)) (wid M 4 0) (wid M 4 0) s)))) :: (uc.1 2, .inl (g 0, lr (wid M 4 0), .inl (fun r => nI (rsf (lr (wid M 4 0)) (wid M 4 0) r)))) :: (uc.1 1, .inl (g 0, (wid M 4 0), .inl (fun j => nI (if j < wid M 4 0 then cc_ (lr (wid M 4 0)) j else 0)))) :: (uc.1 0, .inr (4, [.int (nI (lr (wid M 4 0))), .ref (uc.1 1), .ref (uc.1 2), .ref (uc.1 3)])) :: (uc.2.1, .inl (g 3, 4, .inr (.inr (.inr (.inr (fun i => some (uc.1 (4 * i)))))))) :: wr) := hD
  refine lv_aload_n hx hb d_C_init_88 rfl (lv_at hl 0 rfl) ?_
  refine lx_new (ci := 5) (fs := [.long (lN 0), .int (nI 0)]) (C := R_T) (T := F_T) (N := 2) hx hb hts i_T tf_T tf_T_ok hown (hts _ m_184) (hts _ m_185) (hts _ m_38) hK hP hD hS hA rfl (by decide +kernel) (Nat.le_of_ble_eq_true rfl) (Nat.le_of_ble_eq_true rfl) d_C_init_89 (fun tn H hP hD hS => ?_)
  refine W.widen (k := 19 + 1) (n := 849 + 2) (by omega) (by omega) ?_
  have hP : va_P D vwCl ((tn, .inr (5, [.long (lN 0), .int (nI 0)])) :: (o, .inr (0, [.int (nI 3), .int (nI M), .int (nI (M + (frm M 4 4))), .long (lN (2 ^ M - 1)), .int (nI (2 ^ (frm M 4 4) - 1)), .ref oc, .null, .int (nI 0), .int (nI 0), .long (lN 0), .int (nI 0), .int (nI 0), .null, .int (nI 0), .int (nI 0), .null, .int (nI 0)])) :: (oc, .inr (1, [.int (nI M), .int (nI (frm M 4 4)), .ref uc.2.2, .ref uc.2.1])) :: (uc.2.2, .inl (g 0, M, .inl (fun k => nI (mkS M 4 k)))) :: (uc.1 15, .inl (g 0, 2 ^ lr (wid M 4 3), .inl (fun s => oI (ba (lr (wid M 4 3)) (wid M 4 3) (wid M 4 3) s)))) :: (uc.1 14, .inl (g 0, lr (wid M 4 3), .inl (fun r => nI (rsf (lr (wid M 4 3)) (wid M 4 3) r)))) :: (uc.1 13, .inl (g 0, (wid M 4 3), .inl (fun j => nI (if j < wid M 4 3 then cc_ (lr (wid M 4 3)) j else 0)))) :: (uc.1 12, .inr (4, [.int (nI (lr (wid M 4 3))), .ref (uc.1 13), .ref (uc.1 14), .ref (uc.1 15)])) :: (uc.1 11, .inl (g 0, 2 ^ lr (wid M 4 2), .inl (fun s => oI (ba (lr (wid M 4 2)) (wid M 4 2) (wid M 4 2) s)))) :: (uc.1 10, .inl (g 0, lr (wid M 4 2), .inl (fun r => nI (rsf (lr (wid M 4 2)) (wid M 4 2) r)))) :: (uc.1 9, .inl (g 0, (wid M 4 2), .inl (fun j => nI (if j < wid M 4 2 then cc_ (lr (wid M 4 2)) j else 0)))) :: (uc.1 8, .inr (4, [.int (nI (lr (wid M 4 2))), .ref (uc.1 9), .ref (uc.1 10), .ref (uc.1 11)])) :: (uc.1 7, .inl (g 0, 2 ^ lr (wid M 4 1), .inl (fun s => oI (ba (lr (wid M 4 1)) (wid M 4 1) (wid M 4 1) s)))) :: (uc.1 6, .inl (g 0, lr (wid M 4 1), .inl (fun r => nI (rsf (lr (wid M 4 1)) (wid M 4 1) r)))) :: (uc.1 5, .inl (g 0, (wid M 4 1), .inl (fun j => nI (if j < wid M 4 1 then cc_ (lr (wid M 4 1)) j else 0)))) :: (uc.1 4, .inr (4, [.int (nI (lr (wid M 4 1))), .ref (uc.1 5), .ref (uc.1 6), .ref (uc.1 7)])) :: (uc.1 3, .inl (g 0, 2 ^ lr (wid M 4 0), .inl (fun s => oI (ba (lr (wid M 4 0)) (wid M 4 0) (wid M 4 0) s)))) :: (uc.1 2, .inl (g 0, lr (wid M 4 0), .inl (fun r => nI (rsf (lr (wid M 4 0)) (wid M 4 0) r)))) :: (uc.1 1, .inl (g 0, (wid M 4 0), .inl (fun j => nI (if j < wid M 4 0 then cc_ (lr (wid M 4 0)) j else 0)))) :: (uc.1 0, .inr (4, [.int (nI (lr (wid M 4 0))), .ref (uc.1 1), .ref (uc.1 2), .ref (uc.1 3)])) :: (uc.2.1, .inl (g 3, 4, .inr (.inr (.inr (.inr (fun i => some (uc.1 (4 * i)))))))) :: wr) H := hP
  have hD : va_D A ((tn, .inr (5, [.long (lN 0), .int (nI 0)])) :: (o, .inr (0, [.int (nI 3), .int (nI M), .int (nI (M + (frm M 4 4))), .long (lN (2 ^ M - 1)), .int (nI (2 ^ (frm M 4 4) - 1)), .ref oc, .null, .int (nI 0), .int (nI 0), .long (lN 0), .int (nI 0), .int (nI 0), .null, .int (nI 0), .int (nI 0), .null, .int (nI 0)])) :: (oc, .inr (1, [.int (nI M), .int (nI (frm M 4 4)), .ref uc.2.2, .ref uc.2.1])) :: (uc.2.2, .inl (g 0, M, .inl (fun k => nI (mkS M 4 k)))) :: (uc.1 15, .inl (g 0, 2 ^ lr (wid M 4 3), .inl (fun s => oI (ba (lr (wid M 4 3)) (wid M 4 3) (wid M 4 3) s)))) :: (uc.1 14, .inl (g 0, lr (wid M 4 3), .inl (fun r => nI (rsf (lr (wid M 4 3)) (wid M 4 3) r)))) :: (uc.1 13, .inl (g 0, (wid M 4 3), .inl (fun j => nI (if j < wid M 4 3 then cc_ (lr (wid M 4 3)) j else 0)))) :: (uc.1 12, .inr (4, [.int (nI (lr (wid M 4 3))), .ref (uc.1 13), .ref (uc.1 14), .ref (uc.1 15)])) :: (uc.1 11, .inl (g 0, 2 ^ lr (wid M 4 2), .inl (fun s => oI (ba (lr (wid M 4 2)) (wid M 4 2) (wid M 4 2) s)))) :: (uc.1 10, .inl (g 0, lr (wid M 4 2), .inl (fun r => nI (rsf (lr (wid M 4 2)) (wid M 4 2) r)))) :: (uc.1 9, .inl (g 0, (wid M 4 2), .inl (fun j => nI (if j < wid M 4 2 then cc_ (lr (wid M 4 2)) j else 0)))) :: (uc.1 8, .inr (4, [.int (nI (lr (wid M 4 2))), .ref (uc.1 9), .ref (uc.1 10), .ref (uc.1 11)])) :: (uc.1 7, .inl (g 0, 2 ^ lr (wid M 4 1), .inl (fun s => oI (ba (lr (wid M 4 1)) (wid M 4 1) (wid M 4 1) s)))) :: (uc.1 6, .inl (g 0, lr (wid M 4 1), .inl (fun r => nI (rsf (lr (wid M 4 1)) (wid M 4 1) r)))) :: (uc.1 5, .inl (g 0, (wid M 4 1), .inl (fun j => nI (if j < wid M 4 1 then cc_ (lr (wid M 4 1)) j else 0)))) :: (uc.1 4, .inr (4, [.int (nI (lr (wid M 4 1))), .ref (uc.1 5), .ref (uc.1 6), .ref (uc.1 7)])) :: (uc.1 3, .inl (g 0, 2 ^ lr (wid M 4 0), .inl (fun s => oI (ba (lr (wid M 4 0)) (wid M 4 0) (wid M 4 0) s)))) :: (uc.1 2, .inl (g 0, lr (wid M 4 0), .inl (fun r => nI (rsf (lr (wid M 4 0)) (wid M 4 0) r)))) :: (uc.1 1, .inl (g 0, (wid M 4 0), .inl (fun j => nI (if j < wid M 4 0 then cc_ (lr (wid M 4 0)) j else 0)))) :: (uc.1 0, .inr (4, [.int (nI (lr (wid M 4 0))), .ref (uc.1 1), .ref (uc.1 2), .ref (uc.1 3)])) :: (uc.2.1, .inl (g 3, 4, .inr (.inr (.inr (.inr (fun i => some (uc.1 (4 * i)))))))) :: wr) := hD
  refine lv_dup hx hb d_C_init_92 rfl ?_
  refine lc_INv (b := tn) (As := []) (rest := [.ref tn, .ref o]) ⟨hx, hb, hml, hown, hts⟩ (c_T_init l D g _ _ tn) (kIN 0 hts m_188 hKK.2.2.1 m_187 m_38 rfl (by decide +kernel) ⟨Nat.le_of_ble_eq_true rfl, Nat.le_of_ble_eq_true rfl⟩) hKK hP hD hS hA hl.1 rfl rfl (Nat.le_of_ble_eq_true rfl) d_C_init_93 ⟨by first | omega | exact Nat.le_of_ble_eq_true rfl, by first | omega | exact Nat.le_of_ble_eq_true rfl⟩ (fun u H locs _ hP hD hS => ?_)
  have hP : va_P D vwCl ((tn, .inr (5, [.long (lN 0), .int (nI 0)])) :: (o, .inr (0, [.int (nI 3), .int (nI M), .int (nI (M + (frm M 4 4))), .long (lN (2 ^ M - 1)), .int (nI (2 ^ (frm M 4 4) - 1)), .ref oc, .null, .int (nI 0), .int (nI 0), .long (lN 0), .int (nI 0), .int (nI 0), .null, .int (nI 0), .int (nI 0), .null, .int (nI 0)])) :: (oc, .inr (1, [.int (nI M), .int (nI (frm M 4 4)), .ref uc.2.2, .ref uc.2.1])) :: (uc.2.2, .inl (g 0, M, .inl (fun k => nI (mkS M 4 k)))) :: (uc.1 15, .inl (g 0, 2 ^ lr (wid M 4 3), .inl (fun s => oI (ba (lr (wid M 4 3)) (wid M 4 3) (wid M 4 3) s)))) :: (uc.1 14, .inl (g 0, lr (wid M 4 3), .inl (fun r => nI (rsf (lr (wid M 4 3)) (wid M 4 3) r)))) :: (uc.1 13, .inl (g 0, (wid M 4 3), .inl (fun j => nI (if j < wid M 4 3 then cc_ (lr (wid M 4 3)) j else 0)))) :: (uc.1 12, .inr (4, [.int (nI (lr (wid M 4 3))), .ref (uc.1 13), .ref (uc.1 14), .ref (uc.1 15)])) :: (uc.1 11, .inl (g 0, 2 ^ lr (wid M 4 2), .inl (fun s => oI (ba (lr (wid M 4 2)) (wid M 4 2) (wid M 4 2) s)))) :: (uc.1 10, .inl (g 0, lr (wid M 4 2), .inl (fun r => nI (rsf (lr (wid M 4 2)) (wid M 4 2) r)))) :: (uc.1 9, .inl (g 0, (wid M 4 2), .inl (fun j => nI (if j < wid M 4 2 then cc_ (lr (wid M 4 2)) j else 0)))) :: (uc.1 8, .inr (4, [.int (nI (lr (wid M 4 2))), .ref (uc.1 9), .ref (uc.1 10), .ref (uc.1 11)])) :: (uc.1 7, .inl (g 0, 2 ^ lr (wid M 4 1), .inl (fun s => oI (ba (lr (wid M 4 1)) (wid M 4 1) (wid M 4 1) s)))) :: (uc.1 6, .inl (g 0, lr (wid M 4 1), .inl (fun r => nI (rsf (lr (wid M 4 1)) (wid M 4 1) r)))) :: (uc.1 5, .inl (g 0, (wid M 4 1), .inl (fun j => nI (if j < wid M 4 1 then cc_ (lr (wid M 4 1)) j else 0)))) :: (uc.1 4, .inr (4, [.int (nI (lr (wid M 4 1))), .ref (uc.1 5), .ref (uc.1 6), .ref (uc.1 7)])) :: (uc.1 3, .inl (g 0, 2 ^ lr (wid M 4 0), .inl (fun s => oI (ba (lr (wid M 4 0)) (wid M 4 0) (wid M 4 0) s)))) :: (uc.1 2, .inl (g 0, lr (wid M 4 0), .inl (fun r => nI (rsf (lr (wid M 4 0)) (wid M 4 0) r)))) :: (uc.1 1, .inl (g 0, (wid M 4 0), .inl (fun j => nI (if j < wid M 4 0 then cc_ (lr (wid M 4 0)) j else 0)))) :: (uc.1 0, .inr (4, [.int (nI (lr (wid M 4 0))), .ref (uc.1 1), .ref (uc.1 2), .ref (uc.1 3)])) :: (uc.2.1, .inl (g 3, 4, .inr (.inr (.inr (.inr (fun i => some (uc.1 (4 * i)))))))) :: wr) H := hP
  have hD : va_D A ((tn, .inr (5, [.long (lN 0), .int (nI 0)])) :: (o, .inr (0, [.int (nI 3), .int (nI M), .int (nI (M + (frm M 4 4))), .long (lN (2 ^ M - 1)), .int (nI (2 ^ (frm M 4 4) - 1)), .ref oc, .null, .int (nI 0), .int (nI 0), .long (lN 0), .int (nI 0), .int (nI 0), .null, .int (nI 0), .int (nI 0), .null, .int (nI 0)])) :: (oc, .inr (1, [.int (nI M), .int (nI (frm M 4 4)), .ref uc.2.2, .ref uc.2.1])) :: (uc.2.2, .inl (g 0, M, .inl (fun k => nI (mkS M 4 k)))) :: (uc.1 15, .inl (g 0, 2 ^ lr (wid M 4 3), .inl (fun s => oI (ba (lr (wid M 4 3)) (wid M 4 3) (wid M 4 3) s)))) :: (uc.1 14, .inl (g 0, lr (wid M 4 3), .inl (fun r => nI (rsf (lr (wid M 4 3)) (wid M 4 3) r)))) :: (uc.1 13, .inl (g 0, (wid M 4 3), .inl (fun j => nI (if j < wid M 4 3 then cc_ (lr (wid M 4 3)) j else 0)))) :: (uc.1 12, .inr (4, [.int (nI (lr (wid M 4 3))), .ref (uc.1 13), .ref (uc.1 14), .ref (uc.1 15)])) :: (uc.1 11, .inl (g 0, 2 ^ lr (wid M 4 2), .inl (fun s => oI (ba (lr (wid M 4 2)) (wid M 4 2) (wid M 4 2) s)))) :: (uc.1 10, .inl (g 0, lr (wid M 4 2), .inl (fun r => nI (rsf (lr (wid M 4 2)) (wid M 4 2) r)))) :: (uc.1 9, .inl (g 0, (wid M 4 2), .inl (fun j => nI (if j < wid M 4 2 then cc_ (lr (wid M 4 2)) j else 0)))) :: (uc.1 8, .inr (4, [.int (nI (lr (wid M 4 2))), .ref (uc.1 9), .ref (uc.1 10), .ref (uc.1 11)])) :: (uc.1 7, .inl (g 0, 2 ^ lr (wid M 4 1), .inl (fun s => oI (ba (lr (wid M 4 1)) (wid M 4 1) (wid M 4 1) s)))) :: (uc.1 6, .inl (g 0, lr (wid M 4 1), .inl (fun r => nI (rsf (lr (wid M 4 1)) (wid M 4 1) r)))) :: (uc.1 5, .inl (g 0, (wid M 4 1), .inl (fun j => nI (if j < wid M 4 1 then cc_ (lr (wid M 4 1)) j else 0)))) :: (uc.1 4, .inr (4, [.int (nI (lr (wid M 4 1))), .ref (uc.1 5), .ref (uc.1 6), .ref (uc.1 7)])) :: (uc.1 3, .inl (g 0, 2 ^ lr (wid M 4 0), .inl (fun s => oI (ba (lr (wid M 4 0)) (wid M 4 0) (wid M 4 0) s)))) :: (uc.1 2, .inl (g 0, lr (wid M 4 0), .inl (fun r => nI (rsf (lr (wid M 4 0)) (wid M 4 0) r)))) :: (uc.1 1, .inl (g 0, (wid M 4 0), .inl (fun j => nI (if j < wid M 4 0 then cc_ (lr (wid M 4 0)) j else 0)))) :: (uc.1 0, .inr (4, [.int (nI (lr (wid M 4 0))), .ref (uc.1 1), .ref (uc.1 2), .ref (uc.1 3)])) :: (uc.2.1, .inl (g 3, 4, .inr (.inr (.inr (.inr (fun i => some (uc.1 (4 * i)))))))) :: wr) := hD
  have hP : va_P D vwCl ((o, .inr (0, [.int (nI 3), .int (nI M), .int (nI (M + (frm M 4 4))), .long (lN (2 ^ M - 1)), .int (nI (2 ^ (frm M 4 4) - 1)), .ref oc, .null, .int (nI 0), .int (nI 0), .long (lN 0), .int (nI 0), .int (nI 0), .null, .int (nI 0), .int (nI 0), .null, .int (nI 0)])) :: (tn, .inr (5, [.long (lN 0), .int (nI 0)])) :: (oc, .inr (1, [.int (nI M), .int (nI (frm M 4 4)), .ref uc.2.2, .ref uc.2.1])) :: (uc.2.2, .inl (g 0, M, .inl (fun k => nI (mkS M 4 k)))) :: (uc.1 15, .inl (g 0, 2 ^ lr (wid M 4 3), .inl (fun s => oI (ba (lr (wid M 4 3)) (wid M 4 3) (wid M 4 3) s)))) :: (uc.1 14, .inl (g 0, lr (wid M 4 3), .inl (fun r => nI (rsf (lr (wid M 4 3)) (wid M 4 3) r)))) :: (uc.1 13, .inl (g 0, (wid M 4 3), .inl (fun j => nI (if j < wid M 4 3 then cc_ (lr (wid M 4 3)) j else 0)))) :: (uc.1 12, .inr (4, [.int (nI (lr (wid M 4 3))), .ref (uc.1 13), .ref (uc.1 14), .ref (uc.1 15)])) :: (uc.1 11, .inl (g 0, 2 ^ lr (wid M 4 2), .inl (fun s => oI (ba (lr (wid M 4 2)) (wid M 4 2) (wid M 4 2) s)))) :: (uc.1 10, .inl (g 0, lr (wid M 4 2), .inl (fun r => nI (rsf (lr (wid M 4 2)) (wid M 4 2) r)))) :: (uc.1 9, .inl (g 0, (wid M 4 2), .inl (fun j => nI (if j < wid M 4 2 then cc_ (lr (wid M 4 2)) j else 0)))) :: (uc.1 8, .inr (4, [.int (nI (lr (wid M 4 2))), .ref (uc.1 9), .ref (uc.1 10), .ref (uc.1 11)])) :: (uc.1 7, .inl (g 0, 2 ^ lr (wid M 4 1), .inl (fun s => oI (ba (lr (wid M 4 1)) (wid M 4 1) (wid M 4 1) s)))) :: (uc.1 6, .inl (g 0, lr (wid M 4 1), .inl (fun r => nI (rsf (lr (wid M 4 1)) (wid M 4 1) r)))) :: (uc.1 5, .inl (g 0, (wid M 4 1), .inl (fun j => nI (if j < wid M 4 1 then cc_ (lr (wid M 4 1)) j else 0)))) :: (uc.1 4, .inr (4, [.int (nI (lr (wid M 4 1))), .ref (uc.1 5), .ref (uc.1 6), .ref (uc.1 7)])) :: (uc.1 3, .inl (g 0, 2 ^ lr (wid M 4 0), .inl (fun s => oI (ba (lr (wid M 4 0)) (wid M 4 0) (wid M 4 0) s)))) :: (uc.1 2, .inl (g 0, lr (wid M 4 0), .inl (fun r => nI (rsf (lr (wid M 4 0)) (wid M 4 0) r)))) :: (uc.1 1, .inl (g 0, (wid M 4 0), .inl (fun j => nI (if j < wid M 4 0 then cc_ (lr (wid M 4 0)) j else 0)))) :: (uc.1 0, .inr (4, [.int (nI (lr (wid M 4 0))), .ref (uc.1 1), .ref (uc.1 2), .ref (uc.1 3)])) :: (uc.2.1, .inl (g 3, 4, .inr (.inr (.inr (.inr (fun i => some (uc.1 (4 * i)))))))) :: wr) H := wp_pull [(tn, .inr (5, [.long (lN 0), .int (nI 0)]))] hP
  have hD : va_D A ((o, .inr (0, [.int (nI 3), .int (nI M), .int (nI (M + (frm M 4 4))), .long (lN (2 ^ M - 1)), .int (nI (2 ^ (frm M 4 4) - 1)), .ref oc, .null, .int (nI 0), .int (nI 0), .long (lN 0), .int (nI 0), .int (nI 0), .null, .int (nI 0), .int (nI 0), .null, .int (nI 0)])) :: (tn, .inr (5, [.long (lN 0), .int (nI 0)])) :: (oc, .inr (1, [.int (nI M), .int (nI (frm M 4 4)), .ref uc.2.2, .ref uc.2.1])) :: (uc.2.2, .inl (g 0, M, .inl (fun k => nI (mkS M 4 k)))) :: (uc.1 15, .inl (g 0, 2 ^ lr (wid M 4 3), .inl (fun s => oI (ba (lr (wid M 4 3)) (wid M 4 3) (wid M 4 3) s)))) :: (uc.1 14, .inl (g 0, lr (wid M 4 3), .inl (fun r => nI (rsf (lr (wid M 4 3)) (wid M 4 3) r)))) :: (uc.1 13, .inl (g 0, (wid M 4 3), .inl (fun j => nI (if j < wid M 4 3 then cc_ (lr (wid M 4 3)) j else 0)))) :: (uc.1 12, .inr (4, [.int (nI (lr (wid M 4 3))), .ref (uc.1 13), .ref (uc.1 14), .ref (uc.1 15)])) :: (uc.1 11, .inl (g 0, 2 ^ lr (wid M 4 2), .inl (fun s => oI (ba (lr (wid M 4 2)) (wid M 4 2) (wid M 4 2) s)))) :: (uc.1 10, .inl (g 0, lr (wid M 4 2), .inl (fun r => nI (rsf (lr (wid M 4 2)) (wid M 4 2) r)))) :: (uc.1 9, .inl (g 0, (wid M 4 2), .inl (fun j => nI (if j < wid M 4 2 then cc_ (lr (wid M 4 2)) j else 0)))) :: (uc.1 8, .inr (4, [.int (nI (lr (wid M 4 2))), .ref (uc.1 9), .ref (uc.1 10), .ref (uc.1 11)])) :: (uc.1 7, .inl (g 0, 2 ^ lr (wid M 4 1), .inl (fun s => oI (ba (lr (wid M 4 1)) (wid M 4 1) (wid M 4 1) s)))) :: (uc.1 6, .inl (g 0, lr (wid M 4 1), .inl (fun r => nI (rsf (lr (wid M 4 1)) (wid M 4 1) r)))) :: (uc.1 5, .inl (g 0, (wid M 4 1), .inl (fun j => nI (if j < wid M 4 1 then cc_ (lr (wid M 4 1)) j else 0)))) :: (uc.1 4, .inr (4, [.int (nI (lr (wid M 4 1))), .ref (uc.1 5), .ref (uc.1 6), .ref (uc.1 7)])) :: (uc.1 3, .inl (g 0, 2 ^ lr (wid M 4 0), .inl (fun s => oI (ba (lr (wid M 4 0)) (wid M 4 0) (wid M 4 0) s)))) :: (uc.1 2, .inl (g 0, lr (wid M 4 0), .inl (fun r => nI (rsf (lr (wid M 4 0)) (wid M 4 0) r)))) :: (uc.1 1, .inl (g 0, (wid M 4 0), .inl (fun j => nI (if j < wid M 4 0 then cc_ (lr (wid M 4 0)) j else 0)))) :: (uc.1 0, .inr (4, [.int (nI (lr (wid M 4 0))), .ref (uc.1 1), .ref (uc.1 2), .ref (uc.1 3)])) :: (uc.2.1, .inl (g 3, 4, .inr (.inr (.inr (.inr (fun i => some (uc.1 (4 * i)))))))) :: wr) := wd_pull [(tn, .inr (5, [.long (lN 0), .int (nI 0)]))] hD
  refine va_putF (D := D) (ci := 0) (v := .ref tn) (ty := .object "CheckCodes$Turn") (C := R_C) (T := F_C) (N := 17) hx hb hts i_C tf_C tf_C_ok nf_C hown hK hP hD hS 0 rfl rfl 6 (by decide) (hts _ m_209) (fun _ h9 => h9) rfl hin rfl (by decide +kernel) rfl rfl (Nat.le_of_ble_eq_true rfl) d_C_init_96 (fun H locs hP hD hS => ?_)
  have hP : va_P D vwCl ((o, .inr (0, [.int (nI 3), .int (nI M), .int (nI (M + (frm M 4 4))), .long (lN (2 ^ M - 1)), .int (nI (2 ^ (frm M 4 4) - 1)), .ref oc, .ref tn, .int (nI 0), .int (nI 0), .long (lN 0), .int (nI 0), .int (nI 0), .null, .int (nI 0), .int (nI 0), .null, .int (nI 0)])) :: (tn, .inr (5, [.long (lN 0), .int (nI 0)])) :: (oc, .inr (1, [.int (nI M), .int (nI (frm M 4 4)), .ref uc.2.2, .ref uc.2.1])) :: (uc.2.2, .inl (g 0, M, .inl (fun k => nI (mkS M 4 k)))) :: (uc.1 15, .inl (g 0, 2 ^ lr (wid M 4 3), .inl (fun s => oI (ba (lr (wid M 4 3)) (wid M 4 3) (wid M 4 3) s)))) :: (uc.1 14, .inl (g 0, lr (wid M 4 3), .inl (fun r => nI (rsf (lr (wid M 4 3)) (wid M 4 3) r)))) :: (uc.1 13, .inl (g 0, (wid M 4 3), .inl (fun j => nI (if j < wid M 4 3 then cc_ (lr (wid M 4 3)) j else 0)))) :: (uc.1 12, .inr (4, [.int (nI (lr (wid M 4 3))), .ref (uc.1 13), .ref (uc.1 14), .ref (uc.1 15)])) :: (uc.1 11, .inl (g 0, 2 ^ lr (wid M 4 2), .inl (fun s => oI (ba (lr (wid M 4 2)) (wid M 4 2) (wid M 4 2) s)))) :: (uc.1 10, .inl (g 0, lr (wid M 4 2), .inl (fun r => nI (rsf (lr (wid M 4 2)) (wid M 4 2) r)))) :: (uc.1 9, .inl (g 0, (wid M 4 2), .inl (fun j => nI (if j < wid M 4 2 then cc_ (lr (wid M 4 2)) j else 0)))) :: (uc.1 8, .inr (4, [.int (nI (lr (wid M 4 2))), .ref (uc.1 9), .ref (uc.1 10), .ref (uc.1 11)])) :: (uc.1 7, .inl (g 0, 2 ^ lr (wid M 4 1), .inl (fun s => oI (ba (lr (wid M 4 1)) (wid M 4 1) (wid M 4 1) s)))) :: (uc.1 6, .inl (g 0, lr (wid M 4 1), .inl (fun r => nI (rsf (lr (wid M 4 1)) (wid M 4 1) r)))) :: (uc.1 5, .inl (g 0, (wid M 4 1), .inl (fun j => nI (if j < wid M 4 1 then cc_ (lr (wid M 4 1)) j else 0)))) :: (uc.1 4, .inr (4, [.int (nI (lr (wid M 4 1))), .ref (uc.1 5), .ref (uc.1 6), .ref (uc.1 7)])) :: (uc.1 3, .inl (g 0, 2 ^ lr (wid M 4 0), .inl (fun s => oI (ba (lr (wid M 4 0)) (wid M 4 0) (wid M 4 0) s)))) :: (uc.1 2, .inl (g 0, lr (wid M 4 0), .inl (fun r => nI (rsf (lr (wid M 4 0)) (wid M 4 0) r)))) :: (uc.1 1, .inl (g 0, (wid M 4 0), .inl (fun j => nI (if j < wid M 4 0 then cc_ (lr (wid M 4 0)) j else 0)))) :: (uc.1 0, .inr (4, [.int (nI (lr (wid M 4 0))), .ref (uc.1 1), .ref (uc.1 2), .ref (uc.1 3)])) :: (uc.2.1, .inl (g 3, 4, .inr (.inr (.inr (.inr (fun i => some (uc.1 (4 * i)))))))) :: wr) H := hP
  have hD : va_D A ((o, .inr (0, [.int (nI 3), .int (nI M), .int (nI (M + (frm M 4 4))), .long (lN (2 ^ M - 1)), .int (nI (2 ^ (frm M 4 4) - 1)), .ref oc, .ref tn, .int (nI 0), .int (nI 0), .long (lN 0), .int (nI 0), .int (nI 0), .null, .int (nI 0), .int (nI 0), .null, .int (nI 0)])) :: (tn, .inr (5, [.long (lN 0), .int (nI 0)])) :: (oc, .inr (1, [.int (nI M), .int (nI (frm M 4 4)), .ref uc.2.2, .ref uc.2.1])) :: (uc.2.2, .inl (g 0, M, .inl (fun k => nI (mkS M 4 k)))) :: (uc.1 15, .inl (g 0, 2 ^ lr (wid M 4 3), .inl (fun s => oI (ba (lr (wid M 4 3)) (wid M 4 3) (wid M 4 3) s)))) :: (uc.1 14, .inl (g 0, lr (wid M 4 3), .inl (fun r => nI (rsf (lr (wid M 4 3)) (wid M 4 3) r)))) :: (uc.1 13, .inl (g 0, (wid M 4 3), .inl (fun j => nI (if j < wid M 4 3 then cc_ (lr (wid M 4 3)) j else 0)))) :: (uc.1 12, .inr (4, [.int (nI (lr (wid M 4 3))), .ref (uc.1 13), .ref (uc.1 14), .ref (uc.1 15)])) :: (uc.1 11, .inl (g 0, 2 ^ lr (wid M 4 2), .inl (fun s => oI (ba (lr (wid M 4 2)) (wid M 4 2) (wid M 4 2) s)))) :: (uc.1 10, .inl (g 0, lr (wid M 4 2), .inl (fun r => nI (rsf (lr (wid M 4 2)) (wid M 4 2) r)))) :: (uc.1 9, .inl (g 0, (wid M 4 2), .inl (fun j => nI (if j < wid M 4 2 then cc_ (lr (wid M 4 2)) j else 0)))) :: (uc.1 8, .inr (4, [.int (nI (lr (wid M 4 2))), .ref (uc.1 9), .ref (uc.1 10), .ref (uc.1 11)])) :: (uc.1 7, .inl (g 0, 2 ^ lr (wid M 4 1), .inl (fun s => oI (ba (lr (wid M 4 1)) (wid M 4 1) (wid M 4 1) s)))) :: (uc.1 6, .inl (g 0, lr (wid M 4 1), .inl (fun r => nI (rsf (lr (wid M 4 1)) (wid M 4 1) r)))) :: (uc.1 5, .inl (g 0, (wid M 4 1), .inl (fun j => nI (if j < wid M 4 1 then cc_ (lr (wid M 4 1)) j else 0)))) :: (uc.1 4, .inr (4, [.int (nI (lr (wid M 4 1))), .ref (uc.1 5), .ref (uc.1 6), .ref (uc.1 7)])) :: (uc.1 3, .inl (g 0, 2 ^ lr (wid M 4 0), .inl (fun s => oI (ba (lr (wid M 4 0)) (wid M 4 0) (wid M 4 0) s)))) :: (uc.1 2, .inl (g 0, lr (wid M 4 0), .inl (fun r => nI (rsf (lr (wid M 4 0)) (wid M 4 0) r)))) :: (uc.1 1, .inl (g 0, (wid M 4 0), .inl (fun j => nI (if j < wid M 4 0 then cc_ (lr (wid M 4 0)) j else 0)))) :: (uc.1 0, .inr (4, [.int (nI (lr (wid M 4 0))), .ref (uc.1 1), .ref (uc.1 2), .ref (uc.1 3)])) :: (uc.2.1, .inl (g 3, 4, .inr (.inr (.inr (.inr (fun i => some (uc.1 (4 * i)))))))) :: wr) := hD
  refine lv_aload_n hx hb d_C_init_99 rfl (lv_at hl 0 rfl) ?_
  refine lv_bipush (v := nI 8) hx hb d_C_init_100 (by decide) ?_
  refine lx_newi (N := 8) hx hb (hts _ m_117) hK hP hD hS hA (by omega) (by first | omega | exact Nat.le_of_ble_eq_true rfl) (by first | omega | exact Nat.le_of_ble_eq_true rfl) d_C_init_102 (fun ac H hP hD hS => ?_)
  refine W.widen (k := 19 + 1 + 1) (n := 849 + 2 + 8) (by omega) (by omega) ?_
  have hP : va_P D vwCl ((ac, .inl (g 0, 8, .inl (fun _ => nI 0))) :: (o, .inr (0, [.int (nI 3), .int (nI M), .int (nI (M + (frm M 4 4))), .long (lN (2 ^ M - 1)), .int (nI (2 ^ (frm M 4 4) - 1)), .ref oc, .ref tn, .int (nI 0), .int (nI 0), .long (lN 0), .int (nI 0), .int (nI 0), .null, .int (nI 0), .int (nI 0), .null, .int (nI 0)])) :: (tn, .inr (5, [.long (lN 0), .int (nI 0)])) :: (oc, .inr (1, [.int (nI M), .int (nI (frm M 4 4)), .ref uc.2.2, .ref uc.2.1])) :: (uc.2.2, .inl (g 0, M, .inl (fun k => nI (mkS M 4 k)))) :: (uc.1 15, .inl (g 0, 2 ^ lr (wid M 4 3), .inl (fun s => oI (ba (lr (wid M 4 3)) (wid M 4 3) (wid M 4 3) s)))) :: (uc.1 14, .inl (g 0, lr (wid M 4 3), .inl (fun r => nI (rsf (lr (wid M 4 3)) (wid M 4 3) r)))) :: (uc.1 13, .inl (g 0, (wid M 4 3), .inl (fun j => nI (if j < wid M 4 3 then cc_ (lr (wid M 4 3)) j else 0)))) :: (uc.1 12, .inr (4, [.int (nI (lr (wid M 4 3))), .ref (uc.1 13), .ref (uc.1 14), .ref (uc.1 15)])) :: (uc.1 11, .inl (g 0, 2 ^ lr (wid M 4 2), .inl (fun s => oI (ba (lr (wid M 4 2)) (wid M 4 2) (wid M 4 2) s)))) :: (uc.1 10, .inl (g 0, lr (wid M 4 2), .inl (fun r => nI (rsf (lr (wid M 4 2)) (wid M 4 2) r)))) :: (uc.1 9, .inl (g 0, (wid M 4 2), .inl (fun j => nI (if j < wid M 4 2 then cc_ (lr (wid M 4 2)) j else 0)))) :: (uc.1 8, .inr (4, [.int (nI (lr (wid M 4 2))), .ref (uc.1 9), .ref (uc.1 10), .ref (uc.1 11)])) :: (uc.1 7, .inl (g 0, 2 ^ lr (wid M 4 1), .inl (fun s => oI (ba (lr (wid M 4 1)) (wid M 4 1) (wid M 4 1) s)))) :: (uc.1 6, .inl (g 0, lr (wid M 4 1), .inl (fun r => nI (rsf (lr (wid M 4 1)) (wid M 4 1) r)))) :: (uc.1 5, .inl (g 0, (wid M 4 1), .inl (fun j => nI (if j < wid M 4 1 then cc_ (lr (wid M 4 1)) j else 0)))) :: (uc.1 4, .inr (4, [.int (nI (lr (wid M 4 1))), .ref (uc.1 5), .ref (uc.1 6), .ref (uc.1 7)])) :: (uc.1 3, .inl (g 0, 2 ^ lr (wid M 4 0), .inl (fun s => oI (ba (lr (wid M 4 0)) (wid M 4 0) (wid M 4 0) s)))) :: (uc.1 2, .inl (g 0, lr (wid M 4 0), .inl (fun r => nI (rsf (lr (wid M 4 0)) (wid M 4 0) r)))) :: (uc.1 1, .inl (g 0, (wid M 4 0), .inl (fun j => nI (if j < wid M 4 0 then cc_ (lr (wid M 4 0)) j else 0)))) :: (uc.1 0, .inr (4, [.int (nI (lr (wid M 4 0))), .ref (uc.1 1), .ref (uc.1 2), .ref (uc.1 3)])) :: (uc.2.1, .inl (g 3, 4, .inr (.inr (.inr (.inr (fun i => some (uc.1 (4 * i)))))))) :: wr) H := hP
  have hD : va_D A ((ac, .inl (g 0, 8, .inl (fun _ => nI 0))) :: (o, .inr (0, [.int (nI 3), .int (nI M), .int (nI (M + (frm M 4 4))), .long (lN (2 ^ M - 1)), .int (nI (2 ^ (frm M 4 4) - 1)), .ref oc, .ref tn, .int (nI 0), .int (nI 0), .long (lN 0), .int (nI 0), .int (nI 0), .null, .int (nI 0), .int (nI 0), .null, .int (nI 0)])) :: (tn, .inr (5, [.long (lN 0), .int (nI 0)])) :: (oc, .inr (1, [.int (nI M), .int (nI (frm M 4 4)), .ref uc.2.2, .ref uc.2.1])) :: (uc.2.2, .inl (g 0, M, .inl (fun k => nI (mkS M 4 k)))) :: (uc.1 15, .inl (g 0, 2 ^ lr (wid M 4 3), .inl (fun s => oI (ba (lr (wid M 4 3)) (wid M 4 3) (wid M 4 3) s)))) :: (uc.1 14, .inl (g 0, lr (wid M 4 3), .inl (fun r => nI (rsf (lr (wid M 4 3)) (wid M 4 3) r)))) :: (uc.1 13, .inl (g 0, (wid M 4 3), .inl (fun j => nI (if j < wid M 4 3 then cc_ (lr (wid M 4 3)) j else 0)))) :: (uc.1 12, .inr (4, [.int (nI (lr (wid M 4 3))), .ref (uc.1 13), .ref (uc.1 14), .ref (uc.1 15)])) :: (uc.1 11, .inl (g 0, 2 ^ lr (wid M 4 2), .inl (fun s => oI (ba (lr (wid M 4 2)) (wid M 4 2) (wid M 4 2) s)))) :: (uc.1 10, .inl (g 0, lr (wid M 4 2), .inl (fun r => nI (rsf (lr (wid M 4 2)) (wid M 4 2) r)))) :: (uc.1 9, .inl (g 0, (wid M 4 2), .inl (fun j => nI (if j < wid M 4 2 then cc_ (lr (wid M 4 2)) j else 0)))) :: (uc.1 8, .inr (4, [.int (nI (lr (wid M 4 2))), .ref (uc.1 9), .ref (uc.1 10), .ref (uc.1 11)])) :: (uc.1 7, .inl (g 0, 2 ^ lr (wid M 4 1), .inl (fun s => oI (ba (lr (wid M 4 1)) (wid M 4 1) (wid M 4 1) s)))) :: (uc.1 6, .inl (g 0, lr (wid M 4 1), .inl (fun r => nI (rsf (lr (wid M 4 1)) (wid M 4 1) r)))) :: (uc.1 5, .inl (g 0, (wid M 4 1), .inl (fun j => nI (if j < wid M 4 1 then cc_ (lr (wid M 4 1)) j else 0)))) :: (uc.1 4, .inr (4, [.int (nI (lr (wid M 4 1))), .ref (uc.1 5), .ref (uc.1 6), .ref (uc.1 7)])) :: (uc.1 3, .inl (g 0, 2 ^ lr (wid M 4 0), .inl (fun s => oI (ba (lr (wid M 4 0)) (wid M 4 0) (wid M 4 0) s)))) :: (uc.1 2, .inl (g 0, lr (wid M 4 0), .inl (fun r => nI (rsf (lr (wid M 4 0)) (wid M 4 0) r)))) :: (uc.1 1, .inl (g 0, (wid M 4 0), .inl (fun j => nI (if j < wid M 4 0 then cc_ (lr (wid M 4 0)) j else 0)))) :: (uc.1 0, .inr (4, [.int (nI (lr (wid M 4 0))), .ref (uc.1 1), .ref (uc.1 2), .ref (uc.1 3)])) :: (uc.2.1, .inl (g 3, 4, .inr (.inr (.inr (.inr (fun i => some (uc.1 (4 * i)))))))) :: wr) := hD
  refine va_putF (D := D) (ci := 0) (v := .ref ac) (ty := .array .int) (C := R_C) (T := F_C) (N := 17) hx hb hts i_C tf_C tf_C_ok nf_C hown hK hP hD hS 1 rfl rfl 12 (by decide) (hts _ m_215) (fun _ h9 => h9) rfl hin rfl (by decide +kernel) rfl rfl (Nat.le_of_ble_eq_true rfl) d_C_init_104 (fun H locs hP hD hS => ?_)
  have hP : va_P D vwCl ((ac, .inl (g 0, 8, .inl (fun _ => nI 0))) :: (o, .inr (0, [.int (nI 3), .int (nI M), .int (nI (M + (frm M 4 4))), .long (lN (2 ^ M - 1)), .int (nI (2 ^ (frm M 4 4) - 1)), .ref oc, .ref tn, .int (nI 0), .int (nI 0), .long (lN 0), .int (nI 0), .int (nI 0), .ref ac, .int (nI 0), .int (nI 0), .null, .int (nI 0)])) :: (tn, .inr (5, [.long (lN 0), .int (nI 0)])) :: (oc, .inr (1, [.int (nI M), .int (nI (frm M 4 4)), .ref uc.2.2, .ref uc.2.1])) :: (uc.2.2, .inl (g 0, M, .inl (fun k => nI (mkS M 4 k)))) :: (uc.1 15, .inl (g 0, 2 ^ lr (wid M 4 3), .inl (fun s => oI (ba (lr (wid M 4 3)) (wid M 4 3) (wid M 4 3) s)))) :: (uc.1 14, .inl (g 0, lr (wid M 4 3), .inl (fun r => nI (rsf (lr (wid M 4 3)) (wid M 4 3) r)))) :: (uc.1 13, .inl (g 0, (wid M 4 3), .inl (fun j => nI (if j < wid M 4 3 then cc_ (lr (wid M 4 3)) j else 0)))) :: (uc.1 12, .inr (4, [.int (nI (lr (wid M 4 3))), .ref (uc.1 13), .ref (uc.1 14), .ref (uc.1 15)])) :: (uc.1 11, .inl (g 0, 2 ^ lr (wid M 4 2), .inl (fun s => oI (ba (lr (wid M 4 2)) (wid M 4 2) (wid M 4 2) s)))) :: (uc.1 10, .inl (g 0, lr (wid M 4 2), .inl (fun r => nI (rsf (lr (wid M 4 2)) (wid M 4 2) r)))) :: (uc.1 9, .inl (g 0, (wid M 4 2), .inl (fun j => nI (if j < wid M 4 2 then cc_ (lr (wid M 4 2)) j else 0)))) :: (uc.1 8, .inr (4, [.int (nI (lr (wid M 4 2))), .ref (uc.1 9), .ref (uc.1 10), .ref (uc.1 11)])) :: (uc.1 7, .inl (g 0, 2 ^ lr (wid M 4 1), .inl (fun s => oI (ba (lr (wid M 4 1)) (wid M 4 1) (wid M 4 1) s)))) :: (uc.1 6, .inl (g 0, lr (wid M 4 1), .inl (fun r => nI (rsf (lr (wid M 4 1)) (wid M 4 1) r)))) :: (uc.1 5, .inl (g 0, (wid M 4 1), .inl (fun j => nI (if j < wid M 4 1 then cc_ (lr (wid M 4 1)) j else 0)))) :: (uc.1 4, .inr (4, [.int (nI (lr (wid M 4 1))), .ref (uc.1 5), .ref (uc.1 6), .ref (uc.1 7)])) :: (uc.1 3, .inl (g 0, 2 ^ lr (wid M 4 0), .inl (fun s => oI (ba (lr (wid M 4 0)) (wid M 4 0) (wid M 4 0) s)))) :: (uc.1 2, .inl (g 0, lr (wid M 4 0), .inl (fun r => nI (rsf (lr (wid M 4 0)) (wid M 4 0) r)))) :: (uc.1 1, .inl (g 0, (wid M 4 0), .inl (fun j => nI (if j < wid M 4 0 then cc_ (lr (wid M 4 0)) j else 0)))) :: (uc.1 0, .inr (4, [.int (nI (lr (wid M 4 0))), .ref (uc.1 1), .ref (uc.1 2), .ref (uc.1 3)])) :: (uc.2.1, .inl (g 3, 4, .inr (.inr (.inr (.inr (fun i => some (uc.1 (4 * i)))))))) :: wr) H := hP
  have hD : va_D A ((ac, .inl (g 0, 8, .inl (fun _ => nI 0))) :: (o, .inr (0, [.int (nI 3), .int (nI M), .int (nI (M + (frm M 4 4))), .long (lN (2 ^ M - 1)), .int (nI (2 ^ (frm M 4 4) - 1)), .ref oc, .ref tn, .int (nI 0), .int (nI 0), .long (lN 0), .int (nI 0), .int (nI 0), .ref ac, .int (nI 0), .int (nI 0), .null, .int (nI 0)])) :: (tn, .inr (5, [.long (lN 0), .int (nI 0)])) :: (oc, .inr (1, [.int (nI M), .int (nI (frm M 4 4)), .ref uc.2.2, .ref uc.2.1])) :: (uc.2.2, .inl (g 0, M, .inl (fun k => nI (mkS M 4 k)))) :: (uc.1 15, .inl (g 0, 2 ^ lr (wid M 4 3), .inl (fun s => oI (ba (lr (wid M 4 3)) (wid M 4 3) (wid M 4 3) s)))) :: (uc.1 14, .inl (g 0, lr (wid M 4 3), .inl (fun r => nI (rsf (lr (wid M 4 3)) (wid M 4 3) r)))) :: (uc.1 13, .inl (g 0, (wid M 4 3), .inl (fun j => nI (if j < wid M 4 3 then cc_ (lr (wid M 4 3)) j else 0)))) :: (uc.1 12, .inr (4, [.int (nI (lr (wid M 4 3))), .ref (uc.1 13), .ref (uc.1 14), .ref (uc.1 15)])) :: (uc.1 11, .inl (g 0, 2 ^ lr (wid M 4 2), .inl (fun s => oI (ba (lr (wid M 4 2)) (wid M 4 2) (wid M 4 2) s)))) :: (uc.1 10, .inl (g 0, lr (wid M 4 2), .inl (fun r => nI (rsf (lr (wid M 4 2)) (wid M 4 2) r)))) :: (uc.1 9, .inl (g 0, (wid M 4 2), .inl (fun j => nI (if j < wid M 4 2 then cc_ (lr (wid M 4 2)) j else 0)))) :: (uc.1 8, .inr (4, [.int (nI (lr (wid M 4 2))), .ref (uc.1 9), .ref (uc.1 10), .ref (uc.1 11)])) :: (uc.1 7, .inl (g 0, 2 ^ lr (wid M 4 1), .inl (fun s => oI (ba (lr (wid M 4 1)) (wid M 4 1) (wid M 4 1) s)))) :: (uc.1 6, .inl (g 0, lr (wid M 4 1), .inl (fun r => nI (rsf (lr (wid M 4 1)) (wid M 4 1) r)))) :: (uc.1 5, .inl (g 0, (wid M 4 1), .inl (fun j => nI (if j < wid M 4 1 then cc_ (lr (wid M 4 1)) j else 0)))) :: (uc.1 4, .inr (4, [.int (nI (lr (wid M 4 1))), .ref (uc.1 5), .ref (uc.1 6), .ref (uc.1 7)])) :: (uc.1 3, .inl (g 0, 2 ^ lr (wid M 4 0), .inl (fun s => oI (ba (lr (wid M 4 0)) (wid M 4 0) (wid M 4 0) s)))) :: (uc.1 2, .inl (g 0, lr (wid M 4 0), .inl (fun r => nI (rsf (lr (wid M 4 0)) (wid M 4 0) r)))) :: (uc.1 1, .inl (g 0, (wid M 4 0), .inl (fun j => nI (if j < wid M 4 0 then cc_ (lr (wid M 4 0)) j else 0)))) :: (uc.1 0, .inr (4, [.int (nI (lr (wid M 4 0))), .ref (uc.1 1), .ref (uc.1 2), .ref (uc.1 3)])) :: (uc.2.1, .inl (g 3, 4, .inr (.inr (.inr (.inr (fun i => some (uc.1 (4 * i)))))))) :: wr) := hD
  refine lv_aload_n hx hb d_C_init_107 rfl (lv_at hl 0 rfl) ?_
  refine lv_iconst (v := (-1)) hx hb d_C_init_108 (by decide) ?_
  refine va_put (D := D) (ci := 0) (v := .int ((-1))) (ty := .int) (C := R_C) (T := F_C) (N := 17) hx hb hts i_C tf_C tf_C_ok nf_C hown hK hP hD hS 1 rfl rfl 14 (by decide) (hts _ m_217) (fun _ h9 => h9) rfl (by decide +kernel) rfl rfl (Nat.le_of_ble_eq_true rfl) d_C_init_109 (fun H locs hP hD hS => ?_)
  have hP : va_P D vwCl ((ac, .inl (g 0, 8, .inl (fun _ => nI 0))) :: (o, .inr (0, [.int (nI 3), .int (nI M), .int (nI (M + (frm M 4 4))), .long (lN (2 ^ M - 1)), .int (nI (2 ^ (frm M 4 4) - 1)), .ref oc, .ref tn, .int (nI 0), .int (nI 0), .long (lN 0), .int (nI 0), .int (nI 0), .ref ac, .int (nI 0), .int ((-1)), .null, .int (nI 0)])) :: (tn, .inr (5, [.long (lN 0), .int (nI 0)])) :: (oc, .inr (1, [.int (nI M), .int (nI (frm M 4 4)), .ref uc.2.2, .ref uc.2.1])) :: (uc.2.2, .inl (g 0, M, .inl (fun k => nI (mkS M 4 k)))) :: (uc.1 15, .inl (g 0, 2 ^ lr (wid M 4 3), .inl (fun s => oI (ba (lr (wid M 4 3)) (wid M 4 3) (wid M 4 3) s)))) :: (uc.1 14, .inl (g 0, lr (wid M 4 3), .inl (fun r => nI (rsf (lr (wid M 4 3)) (wid M 4 3) r)))) :: (uc.1 13, .inl (g 0, (wid M 4 3), .inl (fun j => nI (if j < wid M 4 3 then cc_ (lr (wid M 4 3)) j else 0)))) :: (uc.1 12, .inr (4, [.int (nI (lr (wid M 4 3))), .ref (uc.1 13), .ref (uc.1 14), .ref (uc.1 15)])) :: (uc.1 11, .inl (g 0, 2 ^ lr (wid M 4 2), .inl (fun s => oI (ba (lr (wid M 4 2)) (wid M 4 2) (wid M 4 2) s)))) :: (uc.1 10, .inl (g 0, lr (wid M 4 2), .inl (fun r => nI (rsf (lr (wid M 4 2)) (wid M 4 2) r)))) :: (uc.1 9, .inl (g 0, (wid M 4 2), .inl (fun j => nI (if j < wid M 4 2 then cc_ (lr (wid M 4 2)) j else 0)))) :: (uc.1 8, .inr (4, [.int (nI (lr (wid M 4 2))), .ref (uc.1 9), .ref (uc.1 10), .ref (uc.1 11)])) :: (uc.1 7, .inl (g 0, 2 ^ lr (wid M 4 1), .inl (fun s => oI (ba (lr (wid M 4 1)) (wid M 4 1) (wid M 4 1) s)))) :: (uc.1 6, .inl (g 0, lr (wid M 4 1), .inl (fun r => nI (rsf (lr (wid M 4 1)) (wid M 4 1) r)))) :: (uc.1 5, .inl (g 0, (wid M 4 1), .inl (fun j => nI (if j < wid M 4 1 then cc_ (lr (wid M 4 1)) j else 0)))) :: (uc.1 4, .inr (4, [.int (nI (lr (wid M 4 1))), .ref (uc.1 5), .ref (uc.1 6), .ref (uc.1 7)])) :: (uc.1 3, .inl (g 0, 2 ^ lr (wid M 4 0), .inl (fun s => oI (ba (lr (wid M 4 0)) (wid M 4 0) (wid M 4 0) s)))) :: (uc.1 2, .inl (g 0, lr (wid M 4 0), .inl (fun r => nI (rsf (lr (wid M 4 0)) (wid M 4 0) r)))) :: (uc.1 1, .inl (g 0, (wid M 4 0), .inl (fun j => nI (if j < wid M 4 0 then cc_ (lr (wid M 4 0)) j else 0)))) :: (uc.1 0, .inr (4, [.int (nI (lr (wid M 4 0))), .ref (uc.1 1), .ref (uc.1 2), .ref (uc.1 3)])) :: (uc.2.1, .inl (g 3, 4, .inr (.inr (.inr (.inr (fun i => some (uc.1 (4 * i)))))))) :: wr) H := hP
  have hD : va_D A ((ac, .inl (g 0, 8, .inl (fun _ => nI 0))) :: (o, .inr (0, [.int (nI 3), .int (nI M), .int (nI (M + (frm M 4 4))), .long (lN (2 ^ M - 1)), .int (nI (2 ^ (frm M 4 4) - 1)), .ref oc, .ref tn, .int (nI 0), .int (nI 0), .long (lN 0), .int (nI 0), .int (nI 0), .ref ac, .int (nI 0), .int ((-1)), .null, .int (nI 0)])) :: (tn, .inr (5, [.long (lN 0), .int (nI 0)])) :: (oc, .inr (1, [.int (nI M), .int (nI (frm M 4 4)), .ref uc.2.2, .ref uc.2.1])) :: (uc.2.2, .inl (g 0, M, .inl (fun k => nI (mkS M 4 k)))) :: (uc.1 15, .inl (g 0, 2 ^ lr (wid M 4 3), .inl (fun s => oI (ba (lr (wid M 4 3)) (wid M 4 3) (wid M 4 3) s)))) :: (uc.1 14, .inl (g 0, lr (wid M 4 3), .inl (fun r => nI (rsf (lr (wid M 4 3)) (wid M 4 3) r)))) :: (uc.1 13, .inl (g 0, (wid M 4 3), .inl (fun j => nI (if j < wid M 4 3 then cc_ (lr (wid M 4 3)) j else 0)))) :: (uc.1 12, .inr (4, [.int (nI (lr (wid M 4 3))), .ref (uc.1 13), .ref (uc.1 14), .ref (uc.1 15)])) :: (uc.1 11, .inl (g 0, 2 ^ lr (wid M 4 2), .inl (fun s => oI (ba (lr (wid M 4 2)) (wid M 4 2) (wid M 4 2) s)))) :: (uc.1 10, .inl (g 0, lr (wid M 4 2), .inl (fun r => nI (rsf (lr (wid M 4 2)) (wid M 4 2) r)))) :: (uc.1 9, .inl (g 0, (wid M 4 2), .inl (fun j => nI (if j < wid M 4 2 then cc_ (lr (wid M 4 2)) j else 0)))) :: (uc.1 8, .inr (4, [.int (nI (lr (wid M 4 2))), .ref (uc.1 9), .ref (uc.1 10), .ref (uc.1 11)])) :: (uc.1 7, .inl (g 0, 2 ^ lr (wid M 4 1), .inl (fun s => oI (ba (lr (wid M 4 1)) (wid M 4 1) (wid M 4 1) s)))) :: (uc.1 6, .inl (g 0, lr (wid M 4 1), .inl (fun r => nI (rsf (lr (wid M 4 1)) (wid M 4 1) r)))) :: (uc.1 5, .inl (g 0, (wid M 4 1), .inl (fun j => nI (if j < wid M 4 1 then cc_ (lr (wid M 4 1)) j else 0)))) :: (uc.1 4, .inr (4, [.int (nI (lr (wid M 4 1))), .ref (uc.1 5), .ref (uc.1 6), .ref (uc.1 7)])) :: (uc.1 3, .inl (g 0, 2 ^ lr (wid M 4 0), .inl (fun s => oI (ba (lr (wid M 4 0)) (wid M 4 0) (wid M 4 0) s)))) :: (uc.1 2, .inl (g 0, lr (wid M 4 0), .inl (fun r => nI (rsf (lr (wid M 4 0)) (wid M 4 0) r)))) :: (uc.1 1, .inl (g 0, (wid M 4 0), .inl (fun j => nI (if j < wid M 4 0 then cc_ (lr (wid M 4 0)) j else 0)))) :: (uc.1 0, .inr (4, [.int (nI (lr (wid M 4 0))), .ref (uc.1 1), .ref (uc.1 2), .ref (uc.1 3)])) :: (uc.2.1, .inl (g 3, 4, .inr (.inr (.inr (.inr (fun i => some (uc.1 (4 * i)))))))) :: wr) := hD
  refine lv_aload_n hx hb d_C_init_112 rfl (lv_at hl 0 rfl) ?_
  refine lv_bipush (v := nI 8) hx hb d_C_init_113 (by decide) ?_
  refine lx_newi (N := 8) hx hb (hts _ m_117) hK hP hD hS hA (by omega) (by first | omega | exact Nat.le_of_ble_eq_true rfl) (by first | omega | exact Nat.le_of_ble_eq_true rfl) d_C_init_115 (fun sp H hP hD hS => ?_)
  refine W.widen (k := 19 + 1 + 1 + 1) (n := 849 + 2 + 8 + 8) (by omega) (by omega) ?_
  have hP : va_P D vwCl ((sp, .inl (g 0, 8, .inl (fun _ => nI 0))) :: (ac, .inl (g 0, 8, .inl (fun _ => nI 0))) :: (o, .inr (0, [.int (nI 3), .int (nI M), .int (nI (M + (frm M 4 4))), .long (lN (2 ^ M - 1)), .int (nI (2 ^ (frm M 4 4) - 1)), .ref oc, .ref tn, .int (nI 0), .int (nI 0), .long (lN 0), .int (nI 0), .int (nI 0), .ref ac, .int (nI 0), .int ((-1)), .null, .int (nI 0)])) :: (tn, .inr (5, [.long (lN 0), .int (nI 0)])) :: (oc, .inr (1, [.int (nI M), .int (nI (frm M 4 4)), .ref uc.2.2, .ref uc.2.1])) :: (uc.2.2, .inl (g 0, M, .inl (fun k => nI (mkS M 4 k)))) :: (uc.1 15, .inl (g 0, 2 ^ lr (wid M 4 3), .inl (fun s => oI (ba (lr (wid M 4 3)) (wid M 4 3) (wid M 4 3) s)))) :: (uc.1 14, .inl (g 0, lr (wid M 4 3), .inl (fun r => nI (rsf (lr (wid M 4 3)) (wid M 4 3) r)))) :: (uc.1 13, .inl (g 0, (wid M 4 3), .inl (fun j => nI (if j < wid M 4 3 then cc_ (lr (wid M 4 3)) j else 0)))) :: (uc.1 12, .inr (4, [.int (nI (lr (wid M 4 3))), .ref (uc.1 13), .ref (uc.1 14), .ref (uc.1 15)])) :: (uc.1 11, .inl (g 0, 2 ^ lr (wid M 4 2), .inl (fun s => oI (ba (lr (wid M 4 2)) (wid M 4 2) (wid M 4 2) s)))) :: (uc.1 10, .inl (g 0, lr (wid M 4 2), .inl (fun r => nI (rsf (lr (wid M 4 2)) (wid M 4 2) r)))) :: (uc.1 9, .inl (g 0, (wid M 4 2), .inl (fun j => nI (if j < wid M 4 2 then cc_ (lr (wid M 4 2)) j else 0)))) :: (uc.1 8, .inr (4, [.int (nI (lr (wid M 4 2))), .ref (uc.1 9), .ref (uc.1 10), .ref (uc.1 11)])) :: (uc.1 7, .inl (g 0, 2 ^ lr (wid M 4 1), .inl (fun s => oI (ba (lr (wid M 4 1)) (wid M 4 1) (wid M 4 1) s)))) :: (uc.1 6, .inl (g 0, lr (wid M 4 1), .inl (fun r => nI (rsf (lr (wid M 4 1)) (wid M 4 1) r)))) :: (uc.1 5, .inl (g 0, (wid M 4 1), .inl (fun j => nI (if j < wid M 4 1 then cc_ (lr (wid M 4 1)) j else 0)))) :: (uc.1 4, .inr (4, [.int (nI (lr (wid M 4 1))), .ref (uc.1 5), .ref (uc.1 6), .ref (uc.1 7)])) :: (uc.1 3, .inl (g 0, 2 ^ lr (wid M 4 0), .inl (fun s => oI (ba (lr (wid M 4 0)) (wid M 4 0) (wid M 4 0) s)))) :: (uc.1 2, .inl (g 0, lr (wid M 4 0), .inl (fun r => nI (rsf (lr (wid M 4 0)) (wid M 4 0) r)))) :: (uc.1 1, .inl (g 0, (wid M 4 0), .inl (fun j => nI (if j < wid M 4 0 then cc_ (lr (wid M 4 0)) j else 0)))) :: (uc.1 0, .inr (4, [.int (nI (lr (wid M 4 0))), .ref (uc.1 1), .ref (uc.1 2), .ref (uc.1 3)])) :: (uc.2.1, .inl (g 3, 4, .inr (.inr (.inr (.inr (fun i => some (uc.1 (4 * i)))))))) :: wr) H := hP
  have hD : va_D A ((sp, .inl (g 0, 8, .inl (fun _ => nI 0))) :: (ac, .inl (g 0, 8, .inl (fun _ => nI 0))) :: (o, .inr (0, [.int (nI 3), .int (nI M), .int (nI (M + (frm M 4 4))), .long (lN (2 ^ M - 1)), .int (nI (2 ^ (frm M 4 4) - 1)), .ref oc, .ref tn, .int (nI 0), .int (nI 0), .long (lN 0), .int (nI 0), .int (nI 0), .ref ac, .int (nI 0), .int ((-1)), .null, .int (nI 0)])) :: (tn, .inr (5, [.long (lN 0), .int (nI 0)])) :: (oc, .inr (1, [.int (nI M), .int (nI (frm M 4 4)), .ref uc.2.2, .ref uc.2.1])) :: (uc.2.2, .inl (g 0, M, .inl (fun k => nI (mkS M 4 k)))) :: (uc.1 15, .inl (g 0, 2 ^ lr (wid M 4 3), .inl (fun s => oI (ba (lr (wid M 4 3)) (wid M 4 3) (wid M 4 3) s)))) :: (uc.1 14, .inl (g 0, lr (wid M 4 3), .inl (fun r => nI (rsf (lr (wid M 4 3)) (wid M 4 3) r)))) :: (uc.1 13, .inl (g 0, (wid M 4 3), .inl (fun j => nI (if j < wid M 4 3 then cc_ (lr (wid M 4 3)) j else 0)))) :: (uc.1 12, .inr (4, [.int (nI (lr (wid M 4 3))), .ref (uc.1 13), .ref (uc.1 14), .ref (uc.1 15)])) :: (uc.1 11, .inl (g 0, 2 ^ lr (wid M 4 2), .inl (fun s => oI (ba (lr (wid M 4 2)) (wid M 4 2) (wid M 4 2) s)))) :: (uc.1 10, .inl (g 0, lr (wid M 4 2), .inl (fun r => nI (rsf (lr (wid M 4 2)) (wid M 4 2) r)))) :: (uc.1 9, .inl (g 0, (wid M 4 2), .inl (fun j => nI (if j < wid M 4 2 then cc_ (lr (wid M 4 2)) j else 0)))) :: (uc.1 8, .inr (4, [.int (nI (lr (wid M 4 2))), .ref (uc.1 9), .ref (uc.1 10), .ref (uc.1 11)])) :: (uc.1 7, .inl (g 0, 2 ^ lr (wid M 4 1), .inl (fun s => oI (ba (lr (wid M 4 1)) (wid M 4 1) (wid M 4 1) s)))) :: (uc.1 6, .inl (g 0, lr (wid M 4 1), .inl (fun r => nI (rsf (lr (wid M 4 1)) (wid M 4 1) r)))) :: (uc.1 5, .inl (g 0, (wid M 4 1), .inl (fun j => nI (if j < wid M 4 1 then cc_ (lr (wid M 4 1)) j else 0)))) :: (uc.1 4, .inr (4, [.int (nI (lr (wid M 4 1))), .ref (uc.1 5), .ref (uc.1 6), .ref (uc.1 7)])) :: (uc.1 3, .inl (g 0, 2 ^ lr (wid M 4 0), .inl (fun s => oI (ba (lr (wid M 4 0)) (wid M 4 0) (wid M 4 0) s)))) :: (uc.1 2, .inl (g 0, lr (wid M 4 0), .inl (fun r => nI (rsf (lr (wid M 4 0)) (wid M 4 0) r)))) :: (uc.1 1, .inl (g 0, (wid M 4 0), .inl (fun j => nI (if j < wid M 4 0 then cc_ (lr (wid M 4 0)) j else 0)))) :: (uc.1 0, .inr (4, [.int (nI (lr (wid M 4 0))), .ref (uc.1 1), .ref (uc.1 2), .ref (uc.1 3)])) :: (uc.2.1, .inl (g 3, 4, .inr (.inr (.inr (.inr (fun i => some (uc.1 (4 * i)))))))) :: wr) := hD
  refine va_putF (D := D) (ci := 0) (v := .ref sp) (ty := .array .int) (C := R_C) (T := F_C) (N := 17) hx hb hts i_C tf_C tf_C_ok nf_C hown hK hP hD hS 2 rfl rfl 15 (by decide) (hts _ m_218) (fun _ h9 => h9) rfl hin rfl (by decide +kernel) rfl rfl (Nat.le_of_ble_eq_true rfl) d_C_init_117 (fun H locs hP hD hS => ?_)
  have hP : va_P D vwCl ((sp, .inl (g 0, 8, .inl (fun _ => nI 0))) :: (ac, .inl (g 0, 8, .inl (fun _ => nI 0))) :: (o, .inr (0, [.int (nI 3), .int (nI M), .int (nI (M + (frm M 4 4))), .long (lN (2 ^ M - 1)), .int (nI (2 ^ (frm M 4 4) - 1)), .ref oc, .ref tn, .int (nI 0), .int (nI 0), .long (lN 0), .int (nI 0), .int (nI 0), .ref ac, .int (nI 0), .int ((-1)), .ref sp, .int (nI 0)])) :: (tn, .inr (5, [.long (lN 0), .int (nI 0)])) :: (oc, .inr (1, [.int (nI M), .int (nI (frm M 4 4)), .ref uc.2.2, .ref uc.2.1])) :: (uc.2.2, .inl (g 0, M, .inl (fun k => nI (mkS M 4 k)))) :: (uc.1 15, .inl (g 0, 2 ^ lr (wid M 4 3), .inl (fun s => oI (ba (lr (wid M 4 3)) (wid M 4 3) (wid M 4 3) s)))) :: (uc.1 14, .inl (g 0, lr (wid M 4 3), .inl (fun r => nI (rsf (lr (wid M 4 3)) (wid M 4 3) r)))) :: (uc.1 13, .inl (g 0, (wid M 4 3), .inl (fun j => nI (if j < wid M 4 3 then cc_ (lr (wid M 4 3)) j else 0)))) :: (uc.1 12, .inr (4, [.int (nI (lr (wid M 4 3))), .ref (uc.1 13), .ref (uc.1 14), .ref (uc.1 15)])) :: (uc.1 11, .inl (g 0, 2 ^ lr (wid M 4 2), .inl (fun s => oI (ba (lr (wid M 4 2)) (wid M 4 2) (wid M 4 2) s)))) :: (uc.1 10, .inl (g 0, lr (wid M 4 2), .inl (fun r => nI (rsf (lr (wid M 4 2)) (wid M 4 2) r)))) :: (uc.1 9, .inl (g 0, (wid M 4 2), .inl (fun j => nI (if j < wid M 4 2 then cc_ (lr (wid M 4 2)) j else 0)))) :: (uc.1 8, .inr (4, [.int (nI (lr (wid M 4 2))), .ref (uc.1 9), .ref (uc.1 10), .ref (uc.1 11)])) :: (uc.1 7, .inl (g 0, 2 ^ lr (wid M 4 1), .inl (fun s => oI (ba (lr (wid M 4 1)) (wid M 4 1) (wid M 4 1) s)))) :: (uc.1 6, .inl (g 0, lr (wid M 4 1), .inl (fun r => nI (rsf (lr (wid M 4 1)) (wid M 4 1) r)))) :: (uc.1 5, .inl (g 0, (wid M 4 1), .inl (fun j => nI (if j < wid M 4 1 then cc_ (lr (wid M 4 1)) j else 0)))) :: (uc.1 4, .inr (4, [.int (nI (lr (wid M 4 1))), .ref (uc.1 5), .ref (uc.1 6), .ref (uc.1 7)])) :: (uc.1 3, .inl (g 0, 2 ^ lr (wid M 4 0), .inl (fun s => oI (ba (lr (wid M 4 0)) (wid M 4 0) (wid M 4 0) s)))) :: (uc.1 2, .inl (g 0, lr (wid M 4 0), .inl (fun r => nI (rsf (lr (wid M 4 0)) (wid M 4 0) r)))) :: (uc.1 1, .inl (g 0, (wid M 4 0), .inl (fun j => nI (if j < wid M 4 0 then cc_ (lr (wid M 4 0)) j else 0)))) :: (uc.1 0, .inr (4, [.int (nI (lr (wid M 4 0))), .ref (uc.1 1), .ref (uc.1 2), .ref (uc.1 3)])) :: (uc.2.1, .inl (g 3, 4, .inr (.inr (.inr (.inr (fun i => some (uc.1 (4 * i)))))))) :: wr) H := hP
  have hD : va_D A ((sp, .inl (g 0, 8, .inl (fun _ => nI 0))) :: (ac, .inl (g 0, 8, .inl (fun _ => nI 0))) :: (o, .inr (0, [.int (nI 3), .int (nI M), .int (nI (M + (frm M 4 4))), .long (lN (2 ^ M - 1)), .int (nI (2 ^ (frm M 4 4) - 1)), .ref oc, .ref tn, .int (nI 0), .int (nI 0), .long (lN 0), .int (nI 0), .int (nI 0), .ref ac, .int (nI 0), .int ((-1)), .ref sp, .int (nI 0)])) :: (tn, .inr (5, [.long (lN 0), .int (nI 0)])) :: (oc, .inr (1, [.int (nI M), .int (nI (frm M 4 4)), .ref uc.2.2, .ref uc.2.1])) :: (uc.2.2, .inl (g 0, M, .inl (fun k => nI (mkS M 4 k)))) :: (uc.1 15, .inl (g 0, 2 ^ lr (wid M 4 3), .inl (fun s => oI (ba (lr (wid M 4 3)) (wid M 4 3) (wid M 4 3) s)))) :: (uc.1 14, .inl (g 0, lr (wid M 4 3), .inl (fun r => nI (rsf (lr (wid M 4 3)) (wid M 4 3) r)))) :: (uc.1 13, .inl (g 0, (wid M 4 3), .inl (fun j => nI (if j < wid M 4 3 then cc_ (lr (wid M 4 3)) j else 0)))) :: (uc.1 12, .inr (4, [.int (nI (lr (wid M 4 3))), .ref (uc.1 13), .ref (uc.1 14), .ref (uc.1 15)])) :: (uc.1 11, .inl (g 0, 2 ^ lr (wid M 4 2), .inl (fun s => oI (ba (lr (wid M 4 2)) (wid M 4 2) (wid M 4 2) s)))) :: (uc.1 10, .inl (g 0, lr (wid M 4 2), .inl (fun r => nI (rsf (lr (wid M 4 2)) (wid M 4 2) r)))) :: (uc.1 9, .inl (g 0, (wid M 4 2), .inl (fun j => nI (if j < wid M 4 2 then cc_ (lr (wid M 4 2)) j else 0)))) :: (uc.1 8, .inr (4, [.int (nI (lr (wid M 4 2))), .ref (uc.1 9), .ref (uc.1 10), .ref (uc.1 11)])) :: (uc.1 7, .inl (g 0, 2 ^ lr (wid M 4 1), .inl (fun s => oI (ba (lr (wid M 4 1)) (wid M 4 1) (wid M 4 1) s)))) :: (uc.1 6, .inl (g 0, lr (wid M 4 1), .inl (fun r => nI (rsf (lr (wid M 4 1)) (wid M 4 1) r)))) :: (uc.1 5, .inl (g 0, (wid M 4 1), .inl (fun j => nI (if j < wid M 4 1 then cc_ (lr (wid M 4 1)) j else 0)))) :: (uc.1 4, .inr (4, [.int (nI (lr (wid M 4 1))), .ref (uc.1 5), .ref (uc.1 6), .ref (uc.1 7)])) :: (uc.1 3, .inl (g 0, 2 ^ lr (wid M 4 0), .inl (fun s => oI (ba (lr (wid M 4 0)) (wid M 4 0) (wid M 4 0) s)))) :: (uc.1 2, .inl (g 0, lr (wid M 4 0), .inl (fun r => nI (rsf (lr (wid M 4 0)) (wid M 4 0) r)))) :: (uc.1 1, .inl (g 0, (wid M 4 0), .inl (fun j => nI (if j < wid M 4 0 then cc_ (lr (wid M 4 0)) j else 0)))) :: (uc.1 0, .inr (4, [.int (nI (lr (wid M 4 0))), .ref (uc.1 1), .ref (uc.1 2), .ref (uc.1 3)])) :: (uc.2.1, .inl (g 3, 4, .inr (.inr (.inr (.inr (fun i => some (uc.1 (4 * i)))))))) :: wr) := hD
  have hP : va_P D vwCl ((ac, .inl (g 0, 8, .inl (fun _ => nI 0))) :: (sp, .inl (g 0, 8, .inl (fun _ => nI 0))) :: (o, .inr (0, [.int (nI 3), .int (nI M), .int (nI (M + (frm M 4 4))), .long (lN (2 ^ M - 1)), .int (nI (2 ^ (frm M 4 4) - 1)), .ref oc, .ref tn, .int (nI 0), .int (nI 0), .long (lN 0), .int (nI 0), .int (nI 0), .ref ac, .int (nI 0), .int ((-1)), .ref sp, .int (nI 0)])) :: (tn, .inr (5, [.long (lN 0), .int (nI 0)])) :: (oc, .inr (1, [.int (nI M), .int (nI (frm M 4 4)), .ref uc.2.2, .ref uc.2.1])) :: (uc.2.2, .inl (g 0, M, .inl (fun k => nI (mkS M 4 k)))) :: (uc.1 15, .inl (g 0, 2 ^ lr (wid M 4 3), .inl (fun s => oI (ba (lr (wid M 4 3)) (wid M 4 3) (wid M 4 3) s)))) :: (uc.1 14, .inl (g 0, lr (wid M 4 3), .inl (fun r => nI (rsf (lr (wid M 4 3)) (wid M 4 3) r)))) :: (uc.1 13, .inl (g 0, (wid M 4 3), .inl (fun j => nI (if j < wid M 4 3 then cc_ (lr (wid M 4 3)) j else 0)))) :: (uc.1 12, .inr (4, [.int (nI (lr (wid M 4 3))), .ref (uc.1 13), .ref (uc.1 14), .ref (uc.1 15)])) :: (uc.1 11, .inl (g 0, 2 ^ lr (wid M 4 2), .inl (fun s => oI (ba (lr (wid M 4 2)) (wid M 4 2) (wid M 4 2) s)))) :: (uc.1 10, .inl (g 0, lr (wid M 4 2), .inl (fun r => nI (rsf (lr (wid M 4 2)) (wid M 4 2) r)))) :: (uc.1 9, .inl (g 0, (wid M 4 2), .inl (fun j => nI (if j < wid M 4 2 then cc_ (lr (wid M 4 2)) j else 0)))) :: (uc.1 8, .inr (4, [.int (nI (lr (wid M 4 2))), .ref (uc.1 9), .ref (uc.1 10), .ref (uc.1 11)])) :: (uc.1 7, .inl (g 0, 2 ^ lr (wid M 4 1), .inl (fun s => oI (ba (lr (wid M 4 1)) (wid M 4 1) (wid M 4 1) s)))) :: (uc.1 6, .inl (g 0, lr (wid M 4 1), .inl (fun r => nI (rsf (lr (wid M 4 1)) (wid M 4 1) r)))) :: (uc.1 5, .inl (g 0, (wid M 4 1), .inl (fun j => nI (if j < wid M 4 1 then cc_ (lr (wid M 4 1)) j else 0)))) :: (uc.1 4, .inr (4, [.int (nI (lr (wid M 4 1))), .ref (uc.1 5), .ref (uc.1 6), .ref (uc.1 7)])) :: (uc.1 3, .inl (g 0, 2 ^ lr (wid M 4 0), .inl (fun s => oI (ba (lr (wid M 4 0)) (wid M 4 0) (wid M 4 0) s)))) :: (uc.1 2, .inl (g 0, lr (wid M 4 0), .inl (fun r => nI (rsf (lr (wid M 4 0)) (wid M 4 0) r)))) :: (uc.1 1, .inl (g 0, (wid M 4 0), .inl (fun j => nI (if j < wid M 4 0 then cc_ (lr (wid M 4 0)) j else 0)))) :: (uc.1 0, .inr (4, [.int (nI (lr (wid M 4 0))), .ref (uc.1 1), .ref (uc.1 2), .ref (uc.1 3)])) :: (uc.2.1, .inl (g 3, 4, .inr (.inr (.inr (.inr (fun i => some (uc.1 (4 * i)))))))) :: wr) H := wp_pull [(sp, .inl (g 0, 8, .inl (fun _ => nI 0)))] hP
  have hD : va_D A ((ac, .inl (g 0, 8, .inl (fun _ => nI 0))) :: (sp, .inl (g 0, 8, .inl (fun _ => nI 0))) :: (o, .inr (0, [.int (nI 3), .int (nI M), .int (nI (M + (frm M 4 4))), .long (lN (2 ^ M - 1)), .int (nI (2 ^ (frm M 4 4) - 1)), .ref oc, .ref tn, .int (nI 0), .int (nI 0), .long (lN 0), .int (nI 0), .int (nI 0), .ref ac, .int (nI 0), .int ((-1)), .ref sp, .int (nI 0)])) :: (tn, .inr (5, [.long (lN 0), .int (nI 0)])) :: (oc, .inr (1, [.int (nI M), .int (nI (frm M 4 4)), .ref uc.2.2, .ref uc.2.1])) :: (uc.2.2, .inl (g 0, M, .inl (fun k => nI (mkS M 4 k)))) :: (uc.1 15, .inl (g 0, 2 ^ lr (wid M 4 3), .inl (fun s => oI (ba (lr (wid M 4 3)) (wid M 4 3) (wid M 4 3) s)))) :: (uc.1 14, .inl (g 0, lr (wid M 4 3), .inl (fun r => nI (rsf (lr (wid M 4 3)) (wid M 4 3) r)))) :: (uc.1 13, .inl (g 0, (wid M 4 3), .inl (fun j => nI (if j < wid M 4 3 then cc_ (lr (wid M 4 3)) j else 0)))) :: (uc.1 12, .inr (4, [.int (nI (lr (wid M 4 3))), .ref (uc.1 13), .ref (uc.1 14), .ref (uc.1 15)])) :: (uc.1 11, .inl (g 0, 2 ^ lr (wid M 4 2), .inl (fun s => oI (ba (lr (wid M 4 2)) (wid M 4 2) (wid M 4 2) s)))) :: (uc.1 10, .inl (g 0, lr (wid M 4 2), .inl (fun r => nI (rsf (lr (wid M 4 2)) (wid M 4 2) r)))) :: (uc.1 9, .inl (g 0, (wid M 4 2), .inl (fun j => nI (if j < wid M 4 2 then cc_ (lr (wid M 4 2)) j else 0)))) :: (uc.1 8, .inr (4, [.int (nI (lr (wid M 4 2))), .ref (uc.1 9), .ref (uc.1 10), .ref (uc.1 11)])) :: (uc.1 7, .inl (g 0, 2 ^ lr (wid M 4 1), .inl (fun s => oI (ba (lr (wid M 4 1)) (wid M 4 1) (wid M 4 1) s)))) :: (uc.1 6, .inl (g 0, lr (wid M 4 1), .inl (fun r => nI (rsf (lr (wid M 4 1)) (wid M 4 1) r)))) :: (uc.1 5, .inl (g 0, (wid M 4 1), .inl (fun j => nI (if j < wid M 4 1 then cc_ (lr (wid M 4 1)) j else 0)))) :: (uc.1 4, .inr (4, [.int (nI (lr (wid M 4 1))), .ref (uc.1 5), .ref (uc.1 6), .ref (uc.1 7)])) :: (uc.1 3, .inl (g 0, 2 ^ lr (wid M 4 0), .inl (fun s => oI (ba (lr (wid M 4 0)) (wid M 4 0) (wid M 4 0) s)))) :: (uc.1 2, .inl (g 0, lr (wid M 4 0), .inl (fun r => nI (rsf (lr (wid M 4 0)) (wid M 4 0) r)))) :: (uc.1 1, .inl (g 0, (wid M 4 0), .inl (fun j => nI (if j < wid M 4 0 then cc_ (lr (wid M 4 0)) j else 0)))) :: (uc.1 0, .inr (4, [.int (nI (lr (wid M 4 0))), .ref (uc.1 1), .ref (uc.1 2), .ref (uc.1 3)])) :: (uc.2.1, .inl (g 3, 4, .inr (.inr (.inr (.inr (fun i => some (uc.1 (4 * i)))))))) :: wr) := wd_pull [(sp, .inl (g 0, 8, .inl (fun _ => nI 0)))] hD
  have hP : va_P D vwCl ((o, .inr (0, [.int (nI 3), .int (nI M), .int (nI (M + (frm M 4 4))), .long (lN (2 ^ M - 1)), .int (nI (2 ^ (frm M 4 4) - 1)), .ref oc, .ref tn, .int (nI 0), .int (nI 0), .long (lN 0), .int (nI 0), .int (nI 0), .ref ac, .int (nI 0), .int ((-1)), .ref sp, .int (nI 0)])) :: (ac, .inl (g 0, 8, .inl (fun _ => nI 0))) :: (sp, .inl (g 0, 8, .inl (fun _ => nI 0))) :: (tn, .inr (5, [.long (lN 0), .int (nI 0)])) :: (oc, .inr (1, [.int (nI M), .int (nI (frm M 4 4)), .ref uc.2.2, .ref uc.2.1])) :: (uc.2.2, .inl (g 0, M, .inl (fun k => nI (mkS M 4 k)))) :: (uc.1 15, .inl (g 0, 2 ^ lr (wid M 4 3), .inl (fun s => oI (ba (lr (wid M 4 3)) (wid M 4 3) (wid M 4 3) s)))) :: (uc.1 14, .inl (g 0, lr (wid M 4 3), .inl (fun r => nI (rsf (lr (wid M 4 3)) (wid M 4 3) r)))) :: (uc.1 13, .inl (g 0, (wid M 4 3), .inl (fun j => nI (if j < wid M 4 3 then cc_ (lr (wid M 4 3)) j else 0)))) :: (uc.1 12, .inr (4, [.int (nI (lr (wid M 4 3))), .ref (uc.1 13), .ref (uc.1 14), .ref (uc.1 15)])) :: (uc.1 11, .inl (g 0, 2 ^ lr (wid M 4 2), .inl (fun s => oI (ba (lr (wid M 4 2)) (wid M 4 2) (wid M 4 2) s)))) :: (uc.1 10, .inl (g 0, lr (wid M 4 2), .inl (fun r => nI (rsf (lr (wid M 4 2)) (wid M 4 2) r)))) :: (uc.1 9, .inl (g 0, (wid M 4 2), .inl (fun j => nI (if j < wid M 4 2 then cc_ (lr (wid M 4 2)) j else 0)))) :: (uc.1 8, .inr (4, [.int (nI (lr (wid M 4 2))), .ref (uc.1 9), .ref (uc.1 10), .ref (uc.1 11)])) :: (uc.1 7, .inl (g 0, 2 ^ lr (wid M 4 1), .inl (fun s => oI (ba (lr (wid M 4 1)) (wid M 4 1) (wid M 4 1) s)))) :: (uc.1 6, .inl (g 0, lr (wid M 4 1), .inl (fun r => nI (rsf (lr (wid M 4 1)) (wid M 4 1) r)))) :: (uc.1 5, .inl (g 0, (wid M 4 1), .inl (fun j => nI (if j < wid M 4 1 then cc_ (lr (wid M 4 1)) j else 0)))) :: (uc.1 4, .inr (4, [.int (nI (lr (wid M 4 1))), .ref (uc.1 5), .ref (uc.1 6), .ref (uc.1 7)])) :: (uc.1 3, .inl (g 0, 2 ^ lr (wid M 4 0), .inl (fun s => oI (ba (lr (wid M 4 0)) (wid M 4 0) (wid M 4 0) s)))) :: (uc.1 2, .inl (g 0, lr (wid M 4 0), .inl (fun r => nI (rsf (lr (wid M 4 0)) (wid M 4 0) r)))) :: (uc.1 1, .inl (g 0, (wid M 4 0), .inl (fun j => nI (if j < wid M 4 0 then cc_ (lr (wid M 4 0)) j else 0)))) :: (uc.1 0, .inr (4, [.int (nI (lr (wid M 4 0))), .ref (uc.1 1), .ref (uc.1 2), .ref (uc.1 3)])) :: (uc.2.1, .inl (g 3, 4, .inr (.inr (.inr (.inr (fun i => some (uc.1 (4 * i)))))))) :: wr) H := wp_pull [(ac, .inl (g 0, 8, .inl (fun _ => nI 0))), (sp, .inl (g 0, 8, .inl (fun _ => nI 0)))] hP
  have hD : va_D A ((o, .inr (0, [.int (nI 3), .int (nI M), .int (nI (M + (frm M 4 4))), .long (lN (2 ^ M - 1)), .int (nI (2 ^ (frm M 4 4) - 1)), .ref oc, .ref tn, .int (nI 0), .int (nI 0), .long (lN 0), .int (nI 0), .int (nI 0), .ref ac, .int (nI 0), .int ((-1)), .ref sp, .int (nI 0)])) :: (ac, .inl (g 0, 8, .inl (fun _ => nI 0))) :: (sp, .inl (g 0, 8, .inl (fun _ => nI 0))) :: (tn, .inr (5, [.long (lN 0), .int (nI 0)])) :: (oc, .inr (1, [.int (nI M), .int (nI (frm M 4 4)), .ref uc.2.2, .ref uc.2.1])) :: (uc.2.2, .inl (g 0, M, .inl (fun k => nI (mkS M 4 k)))) :: (uc.1 15, .inl (g 0, 2 ^ lr (wid M 4 3), .inl (fun s => oI (ba (lr (wid M 4 3)) (wid M 4 3) (wid M 4 3) s)))) :: (uc.1 14, .inl (g 0, lr (wid M 4 3), .inl (fun r => nI (rsf (lr (wid M 4 3)) (wid M 4 3) r)))) :: (uc.1 13, .inl (g 0, (wid M 4 3), .inl (fun j => nI (if j < wid M 4 3 then cc_ (lr (wid M 4 3)) j else 0)))) :: (uc.1 12, .inr (4, [.int (nI (lr (wid M 4 3))), .ref (uc.1 13), .ref (uc.1 14), .ref (uc.1 15)])) :: (uc.1 11, .inl (g 0, 2 ^ lr (wid M 4 2), .inl (fun s => oI (ba (lr (wid M 4 2)) (wid M 4 2) (wid M 4 2) s)))) :: (uc.1 10, .inl (g 0, lr (wid M 4 2), .inl (fun r => nI (rsf (lr (wid M 4 2)) (wid M 4 2) r)))) :: (uc.1 9, .inl (g 0, (wid M 4 2), .inl (fun j => nI (if j < wid M 4 2 then cc_ (lr (wid M 4 2)) j else 0)))) :: (uc.1 8, .inr (4, [.int (nI (lr (wid M 4 2))), .ref (uc.1 9), .ref (uc.1 10), .ref (uc.1 11)])) :: (uc.1 7, .inl (g 0, 2 ^ lr (wid M 4 1), .inl (fun s => oI (ba (lr (wid M 4 1)) (wid M 4 1) (wid M 4 1) s)))) :: (uc.1 6, .inl (g 0, lr (wid M 4 1), .inl (fun r => nI (rsf (lr (wid M 4 1)) (wid M 4 1) r)))) :: (uc.1 5, .inl (g 0, (wid M 4 1), .inl (fun j => nI (if j < wid M 4 1 then cc_ (lr (wid M 4 1)) j else 0)))) :: (uc.1 4, .inr (4, [.int (nI (lr (wid M 4 1))), .ref (uc.1 5), .ref (uc.1 6), .ref (uc.1 7)])) :: (uc.1 3, .inl (g 0, 2 ^ lr (wid M 4 0), .inl (fun s => oI (ba (lr (wid M 4 0)) (wid M 4 0) (wid M 4 0) s)))) :: (uc.1 2, .inl (g 0, lr (wid M 4 0), .inl (fun r => nI (rsf (lr (wid M 4 0)) (wid M 4 0) r)))) :: (uc.1 1, .inl (g 0, (wid M 4 0), .inl (fun j => nI (if j < wid M 4 0 then cc_ (lr (wid M 4 0)) j else 0)))) :: (uc.1 0, .inr (4, [.int (nI (lr (wid M 4 0))), .ref (uc.1 1), .ref (uc.1 2), .ref (uc.1 3)])) :: (uc.2.1, .inl (g 3, 4, .inr (.inr (.inr (.inr (fun i => some (uc.1 (4 * i)))))))) :: wr) := wd_pull [(ac, .inl (g 0, 8, .inl (fun _ => nI 0))), (sp, .inl (g 0, 8, .inl (fun _ => nI 0)))] hD
  have hP : va_P D vwCl ((tn, .inr (5, [.long (lN 0), .int (nI 0)])) :: (o, .inr (0, [.int (nI 3), .int (nI M), .int (nI (M + (frm M 4 4))), .long (lN (2 ^ M - 1)), .int (nI (2 ^ (frm M 4 4) - 1)), .ref oc, .ref tn, .int (nI 0), .int (nI 0), .long (lN 0), .int (nI 0), .int (nI 0), .ref ac, .int (nI 0), .int ((-1)), .ref sp, .int (nI 0)])) :: (ac, .inl (g 0, 8, .inl (fun _ => nI 0))) :: (sp, .inl (g 0, 8, .inl (fun _ => nI 0))) :: (oc, .inr (1, [.int (nI M), .int (nI (frm M 4 4)), .ref uc.2.2, .ref uc.2.1])) :: (uc.2.2, .inl (g 0, M, .inl (fun k => nI (mkS M 4 k)))) :: (uc.1 15, .inl (g 0, 2 ^ lr (wid M 4 3), .inl (fun s => oI (ba (lr (wid M 4 3)) (wid M 4 3) (wid M 4 3) s)))) :: (uc.1 14, .inl (g 0, lr (wid M 4 3), .inl (fun r => nI (rsf (lr (wid M 4 3)) (wid M 4 3) r)))) :: (uc.1 13, .inl (g 0, (wid M 4 3), .inl (fun j => nI (if j < wid M 4 3 then cc_ (lr (wid M 4 3)) j else 0)))) :: (uc.1 12, .inr (4, [.int (nI (lr (wid M 4 3))), .ref (uc.1 13), .ref (uc.1 14), .ref (uc.1 15)])) :: (uc.1 11, .inl (g 0, 2 ^ lr (wid M 4 2), .inl (fun s => oI (ba (lr (wid M 4 2)) (wid M 4 2) (wid M 4 2) s)))) :: (uc.1 10, .inl (g 0, lr (wid M 4 2), .inl (fun r => nI (rsf (lr (wid M 4 2)) (wid M 4 2) r)))) :: (uc.1 9, .inl (g 0, (wid M 4 2), .inl (fun j => nI (if j < wid M 4 2 then cc_ (lr (wid M 4 2)) j else 0)))) :: (uc.1 8, .inr (4, [.int (nI (lr (wid M 4 2))), .ref (uc.1 9), .ref (uc.1 10), .ref (uc.1 11)])) :: (uc.1 7, .inl (g 0, 2 ^ lr (wid M 4 1), .inl (fun s => oI (ba (lr (wid M 4 1)) (wid M 4 1) (wid M 4 1) s)))) :: (uc.1 6, .inl (g 0, lr (wid M 4 1), .inl (fun r => nI (rsf (lr (wid M 4 1)) (wid M 4 1) r)))) :: (uc.1 5, .inl (g 0, (wid M 4 1), .inl (fun j => nI (if j < wid M 4 1 then cc_ (lr (wid M 4 1)) j else 0)))) :: (uc.1 4, .inr (4, [.int (nI (lr (wid M 4 1))), .ref (uc.1 5), .ref (uc.1 6), .ref (uc.1 7)])) :: (uc.1 3, .inl (g 0, 2 ^ lr (wid M 4 0), .inl (fun s => oI (ba (lr (wid M 4 0)) (wid M 4 0) (wid M 4 0) s)))) :: (uc.1 2, .inl (g 0, lr (wid M 4 0), .inl (fun r => nI (rsf (lr (wid M 4 0)) (wid M 4 0) r)))) :: (uc.1 1, .inl (g 0, (wid M 4 0), .inl (fun j => nI (if j < wid M 4 0 then cc_ (lr (wid M 4 0)) j else 0)))) :: (uc.1 0, .inr (4, [.int (nI (lr (wid M 4 0))), .ref (uc.1 1), .ref (uc.1 2), .ref (uc.1 3)])) :: (uc.2.1, .inl (g 3, 4, .inr (.inr (.inr (.inr (fun i => some (uc.1 (4 * i)))))))) :: wr) H := wp_pull [(o, .inr (0, [.int (nI 3), .int (nI M), .int (nI (M + (frm M 4 4))), .long (lN (2 ^ M - 1)), .int (nI (2 ^ (frm M 4 4) - 1)), .ref oc, .ref tn, .int (nI 0), .int (nI 0), .long (lN 0), .int (nI 0), .int (nI 0), .ref ac, .int (nI 0), .int ((-1)), .ref sp, .int (nI 0)])), (ac, .inl (g 0, 8, .inl (fun _ => nI 0))), (sp, .inl (g 0, 8, .inl (fun _ => nI 0)))] hP
  have hD : va_D A ((tn, .inr (5, [.long (lN 0), .int (nI 0)])) :: (o, .inr (0, [.int (nI 3), .int (nI M), .int (nI (M + (frm M 4 4))), .long (lN (2 ^ M - 1)), .int (nI (2 ^ (frm M 4 4) - 1)), .ref oc, .ref tn, .int (nI 0), .int (nI 0), .long (lN 0), .int (nI 0), .int (nI 0), .ref ac, .int (nI 0), .int ((-1)), .ref sp, .int (nI 0)])) :: (ac, .inl (g 0, 8, .inl (fun _ => nI 0))) :: (sp, .inl (g 0, 8, .inl (fun _ => nI 0))) :: (oc, .inr (1, [.int (nI M), .int (nI (frm M 4 4)), .ref uc.2.2, .ref uc.2.1])) :: (uc.2.2, .inl (g 0, M, .inl (fun k => nI (mkS M 4 k)))) :: (uc.1 15, .inl (g 0, 2 ^ lr (wid M 4 3), .inl (fun s => oI (ba (lr (wid M 4 3)) (wid M 4 3) (wid M 4 3) s)))) :: (uc.1 14, .inl (g 0, lr (wid M 4 3), .inl (fun r => nI (rsf (lr (wid M 4 3)) (wid M 4 3) r)))) :: (uc.1 13, .inl (g 0, (wid M 4 3), .inl (fun j => nI (if j < wid M 4 3 then cc_ (lr (wid M 4 3)) j else 0)))) :: (uc.1 12, .inr (4, [.int (nI (lr (wid M 4 3))), .ref (uc.1 13), .ref (uc.1 14), .ref (uc.1 15)])) :: (uc.1 11, .inl (g 0, 2 ^ lr (wid M 4 2), .inl (fun s => oI (ba (lr (wid M 4 2)) (wid M 4 2) (wid M 4 2) s)))) :: (uc.1 10, .inl (g 0, lr (wid M 4 2), .inl (fun r => nI (rsf (lr (wid M 4 2)) (wid M 4 2) r)))) :: (uc.1 9, .inl (g 0, (wid M 4 2), .inl (fun j => nI (if j < wid M 4 2 then cc_ (lr (wid M 4 2)) j else 0)))) :: (uc.1 8, .inr (4, [.int (nI (lr (wid M 4 2))), .ref (uc.1 9), .ref (uc.1 10), .ref (uc.1 11)])) :: (uc.1 7, .inl (g 0, 2 ^ lr (wid M 4 1), .inl (fun s => oI (ba (lr (wid M 4 1)) (wid M 4 1) (wid M 4 1) s)))) :: (uc.1 6, .inl (g 0, lr (wid M 4 1), .inl (fun r => nI (rsf (lr (wid M 4 1)) (wid M 4 1) r)))) :: (uc.1 5, .inl (g 0, (wid M 4 1), .inl (fun j => nI (if j < wid M 4 1 then cc_ (lr (wid M 4 1)) j else 0)))) :: (uc.1 4, .inr (4, [.int (nI (lr (wid M 4 1))), .ref (uc.1 5), .ref (uc.1 6), .ref (uc.1 7)])) :: (uc.1 3, .inl (g 0, 2 ^ lr (wid M 4 0), .inl (fun s => oI (ba (lr (wid M 4 0)) (wid M 4 0) (wid M 4 0) s)))) :: (uc.1 2, .inl (g 0, lr (wid M 4 0), .inl (fun r => nI (rsf (lr (wid M 4 0)) (wid M 4 0) r)))) :: (uc.1 1, .inl (g 0, (wid M 4 0), .inl (fun j => nI (if j < wid M 4 0 then cc_ (lr (wid M 4 0)) j else 0)))) :: (uc.1 0, .inr (4, [.int (nI (lr (wid M 4 0))), .ref (uc.1 1), .ref (uc.1 2), .ref (uc.1 3)])) :: (uc.2.1, .inl (g 3, 4, .inr (.inr (.inr (.inr (fun i => some (uc.1 (4 * i)))))))) :: wr) := wd_pull [(o, .inr (0, [.int (nI 3), .int (nI M), .int (nI (M + (frm M 4 4))), .long (lN (2 ^ M - 1)), .int (nI (2 ^ (frm M 4 4) - 1)), .ref oc, .ref tn, .int (nI 0), .int (nI 0), .long (lN 0), .int (nI 0), .int (nI 0), .ref ac, .int (nI 0), .int ((-1)), .ref sp, .int (nI 0)])), (ac, .inl (g 0, 8, .inl (fun _ => nI 0))), (sp, .inl (g 0, 8, .inl (fun _ => nI 0)))] hD
  have hcw : CodeW g 3 M oc [(oc, .inr (1, [.int (nI M), .int (nI (frm M 4 4)), .ref uc.2.2, .ref uc.2.1])), (uc.2.2, .inl (g 0, M, .inl (fun k => nI (mkS M 4 k)))), (uc.1 15, .inl (g 0, 2 ^ lr (wid M 4 3), .inl (fun s => oI (ba (lr (wid M 4 3)) (wid M 4 3) (wid M 4 3) s)))), (uc.1 14, .inl (g 0, lr (wid M 4 3), .inl (fun r => nI (rsf (lr (wid M 4 3)) (wid M 4 3) r)))), (uc.1 13, .inl (g 0, (wid M 4 3), .inl (fun j => nI (if j < wid M 4 3 then cc_ (lr (wid M 4 3)) j else 0)))), (uc.1 12, .inr (4, [.int (nI (lr (wid M 4 3))), .ref (uc.1 13), .ref (uc.1 14), .ref (uc.1 15)])), (uc.1 11, .inl (g 0, 2 ^ lr (wid M 4 2), .inl (fun s => oI (ba (lr (wid M 4 2)) (wid M 4 2) (wid M 4 2) s)))), (uc.1 10, .inl (g 0, lr (wid M 4 2), .inl (fun r => nI (rsf (lr (wid M 4 2)) (wid M 4 2) r)))), (uc.1 9, .inl (g 0, (wid M 4 2), .inl (fun j => nI (if j < wid M 4 2 then cc_ (lr (wid M 4 2)) j else 0)))), (uc.1 8, .inr (4, [.int (nI (lr (wid M 4 2))), .ref (uc.1 9), .ref (uc.1 10), .ref (uc.1 11)])), (uc.1 7, .inl (g 0, 2 ^ lr (wid M 4 1), .inl (fun s => oI (ba (lr (wid M 4 1)) (wid M 4 1) (wid M 4 1) s)))), (uc.1 6, .inl (g 0, lr (wid M 4 1), .inl (fun r => nI (rsf (lr (wid M 4 1)) (wid M 4 1) r)))), (uc.1 5, .inl (g 0, (wid M 4 1), .inl (fun j => nI (if j < wid M 4 1 then cc_ (lr (wid M 4 1)) j else 0)))), (uc.1 4, .inr (4, [.int (nI (lr (wid M 4 1))), .ref (uc.1 5), .ref (uc.1 6), .ref (uc.1 7)])), (uc.1 3, .inl (g 0, 2 ^ lr (wid M 4 0), .inl (fun s => oI (ba (lr (wid M 4 0)) (wid M 4 0) (wid M 4 0) s)))), (uc.1 2, .inl (g 0, lr (wid M 4 0), .inl (fun r => nI (rsf (lr (wid M 4 0)) (wid M 4 0) r)))), (uc.1 1, .inl (g 0, (wid M 4 0), .inl (fun j => nI (if j < wid M 4 0 then cc_ (lr (wid M 4 0)) j else 0)))), (uc.1 0, .inr (4, [.int (nI (lr (wid M 4 0))), .ref (uc.1 1), .ref (uc.1 2), .ref (uc.1 3)])), (uc.2.1, .inl (g 3, 4, .inr (.inr (.inr (.inr (fun i => some (uc.1 (4 * i))))))))] := Or.inr (Or.inr (Or.inr ⟨rfl, ⟨0, 1, uc.2.2, 18, uc.2.1, fun i => some (uc.1 (4 * i)), (fun i => 14 - 4 * i + 3), (fun i => 14 - 4 * i + 2), (fun i => 14 - 4 * i + 1), (fun i => 14 - 4 * i + 0), fun i => uc.1 (4 * i), fun i => uc.1 (4 * i + 1), fun i => uc.1 (4 * i + 2), fun i => uc.1 (4 * i + 3), rfl, rfl, rfl, fun i _ => rfl, fun i hi => by rcases (show i = 0 ∨ i = 1 ∨ i = 2 ∨ i = 3 by omega) with rfl | rfl | rfl | rfl <;> rfl, fun i hi => by rcases (show i = 0 ∨ i = 1 ∨ i = 2 ∨ i = 3 by omega) with rfl | rfl | rfl | rfl <;> rfl, fun i hi => by rcases (show i = 0 ∨ i = 1 ∨ i = 2 ∨ i = 3 by omega) with rfl | rfl | rfl | rfl <;> rfl, fun i hi => by rcases (show i = 0 ∨ i = 1 ∨ i = 2 ∨ i = 3 by omega) with rfl | rfl | rfl | rfl <;> rfl⟩⟩))
  refine W.widen (k := 23) (n := 884) (by omega) (by omega) ?_
  rw [← hQ]
  refine W.vret hx hb hr ?_ hS.2.2 d_C_init_120
  exact fun t ht hW => ⟨⟨(tn, ac, sp, oc, [(oc, .inr (1, [.int (nI M), .int (nI (frm M 4 4)), .ref uc.2.2, .ref uc.2.1])), (uc.2.2, .inl (g 0, M, .inl (fun k => nI (mkS M 4 k)))), (uc.1 15, .inl (g 0, 2 ^ lr (wid M 4 3), .inl (fun s => oI (ba (lr (wid M 4 3)) (wid M 4 3) (wid M 4 3) s)))), (uc.1 14, .inl (g 0, lr (wid M 4 3), .inl (fun r => nI (rsf (lr (wid M 4 3)) (wid M 4 3) r)))), (uc.1 13, .inl (g 0, (wid M 4 3), .inl (fun j => nI (if j < wid M 4 3 then cc_ (lr (wid M 4 3)) j else 0)))), (uc.1 12, .inr (4, [.int (nI (lr (wid M 4 3))), .ref (uc.1 13), .ref (uc.1 14), .ref (uc.1 15)])), (uc.1 11, .inl (g 0, 2 ^ lr (wid M 4 2), .inl (fun s => oI (ba (lr (wid M 4 2)) (wid M 4 2) (wid M 4 2) s)))), (uc.1 10, .inl (g 0, lr (wid M 4 2), .inl (fun r => nI (rsf (lr (wid M 4 2)) (wid M 4 2) r)))), (uc.1 9, .inl (g 0, (wid M 4 2), .inl (fun j => nI (if j < wid M 4 2 then cc_ (lr (wid M 4 2)) j else 0)))), (uc.1 8, .inr (4, [.int (nI (lr (wid M 4 2))), .ref (uc.1 9), .ref (uc.1 10), .ref (uc.1 11)])), (uc.1 7, .inl (g 0, 2 ^ lr (wid M 4 1), .inl (fun s => oI (ba (lr (wid M 4 1)) (wid M 4 1) (wid M 4 1) s)))), (uc.1 6, .inl (g 0, lr (wid M 4 1), .inl (fun r => nI (rsf (lr (wid M 4 1)) (wid M 4 1) r)))), (uc.1 5, .inl (g 0, (wid M 4 1), .inl (fun j => nI (if j < wid M 4 1 then cc_ (lr (wid M 4 1)) j else 0)))), (uc.1 4, .inr (4, [.int (nI (lr (wid M 4 1))), .ref (uc.1 5), .ref (uc.1 6), .ref (uc.1 7)])), (uc.1 3, .inl (g 0, 2 ^ lr (wid M 4 0), .inl (fun s => oI (ba (lr (wid M 4 0)) (wid M 4 0) (wid M 4 0) s)))), (uc.1 2, .inl (g 0, lr (wid M 4 0), .inl (fun r => nI (rsf (lr (wid M 4 0)) (wid M 4 0) r)))), (uc.1 1, .inl (g 0, (wid M 4 0), .inl (fun j => nI (if j < wid M 4 0 then cc_ (lr (wid M 4 0)) j else 0)))), (uc.1 0, .inr (4, [.int (nI (lr (wid M 4 0))), .ref (uc.1 1), .ref (uc.1 2), .ref (uc.1 3)])), (uc.2.1, .inl (g 3, 4, .inr (.inr (.inr (.inr (fun i => some (uc.1 (4 * i))))))))]), rfl, hcw, by rw [ht]; exact hP, hD⟩, hS.F ht⟩
end
section
/-! exceptions: a method that always throws under its start, its caller that catches (the launch keeps no traces) -/
abbrev exN : List String := ["java/lang/RuntimeException", "java/lang/Exception"]
abbrev exI : String := "java/lang/IndexOutOfBoundsException"
abbrev exU : String := "java/lang/UnsupportedOperationException"
abbrev exA : String := "java/lang/IllegalArgumentException"
def thD : List String := ["java/lang/RuntimeException", "java/lang/Exception", "java/lang/Throwable"]
def thS : List (Nat × String) := [(73, "the word has no such bit"), (80, "codes of nibbles have no columns"), (87, "this kind folds no address in"), (105, "the check has bits that no check of this code has"), (140, "the stored one has no such bit"), (145, "the table has no such place"), (150, "bursts have 1 to 6 bits"), (158, "there is no such row"), (166, "no spare row is free"), (168, "a fraction has two parts")]
/-- what a throw asks of the tables beside the good words -/
def tK (U : State) : Prop := (∀ n ∈ thD, va_Nw (.declares ⟨n, "<init>", "(Ljava/lang/String;)V"⟩) U) ∧ (∀ n ∈ [exI, exU, exA], va_Nw (.castable n n) U) ∧ ∀ q ∈ thS, ∃ a, vk_R "CheckCodes" q.1 q.2 a U
theorem tK.warm {s U : State} (hW : s.WarmedH U.vm) (h : tK s) : tK U := ⟨fun n hn => va_Nw.warmD hW (h.1 n hn), fun n hn => va_Nw.warmC hW (h.2.1 n hn), fun q hq => by obtain ⟨a, ha⟩ := h.2.2 q hq; exact ⟨a, ha.warm hW⟩⟩
theorem tK.same {s U : State} (hv : s.vm = U.vm) (h : tK s) : tK U := ⟨fun n hn => va_Nw.same rfl hv (h.1 n hn), fun n hn => va_Nw.same rfl hv (h.2.1 n hn), fun q hq => by obtain ⟨a, ha⟩ := h.2.2 q hq; exact ⟨a, ha.same hv.symm⟩⟩
abbrev tnN : String := "java/lang/Throwable"
abbrev steT : String := "[Ljava/lang/StackTraceElement;"
abbrev lisT : String := "Ljava/util/List;"
/-- a static's place, in a statics cell that nobody may change -/
def lS (C n d : String) (A : Nat → Prop) (U : State) (H : Heap) : Prop := ∃ (c : ClassId) (k : Class) (i : Nat) (f : Field) (a : Nat) (cell : Cell), (U.vm.findClass C = some c ∧ U.fieldFound? C n d = some (c, k, i, f) ∧ f.isStatic = true ∧ k.statics = some a ∧ k.staticTypes[f.slot]? = some f.type) ∧ (H[a]? = some cell ∧ cell.vm.isStatics = true ∧ cell.cls = c ∧ f.slot < cell.slots.size) ∧ ¬ A a
theorem lS.moved {C n d : String} {A : Nat → Prop} {u U : State} {H : Heap} (hvm : u.vm.Alike U.vm) (h : lS C n d A u H) : lS C n d A U H := by
  obtain ⟨c, k, i, f, a, cell, ⟨h1, h2, h3, h4, h5⟩, h6, h7⟩ := h
  obtain ⟨k', hi', he⟩ := State.fieldFound?_setVm hvm h2
  exact ⟨c, k', i, f, a, cell, ⟨by rw [hvm.findClass]; exact h1, hi', h3, by rw [he]; exact h4, by rw [he]; exact h5⟩, h6, h7⟩
theorem lS.kept {C n d : String} {A : Nat → Prop} {U : State} {H H1 : Heap} (h : lS C n d A U H) (hq : ∀ a : Nat, a < H.size → ¬ A a → H1[a]? = H[a]?) : lS C n d A U H1 := by
  obtain ⟨c, k, i, f, a, cell, h1, ⟨h2, h3⟩, h7⟩ := h
  exact ⟨c, k, i, f, a, cell, h1, ⟨by rw [hq a (Array.getElem?_eq_some_iff.mp h2).1 h7]; exact h2, h3⟩, h7⟩
theorem lS.narrow {C n d : String} {A B : Nat → Prop} {U : State} {H : Heap} (h : lS C n d A U H) (hAB : ∀ q, B q → A q) : lS C n d B U H := by
  obtain ⟨c, k, i, f, a, cell, h1, h2, h7⟩ := h
  exact ⟨c, k, i, f, a, cell, h1, h2, fun z => h7 (hAB _ z)⟩
theorem lS.of {args : Array Value} {s : State} {C n d : String} {A : Nat → Prop} (h : (Cond.laysStatic C n d).before args s = true) (hA : ∀ a : Nat, a < s.heap.size → ¬ A a) : lS C n d A s s.heap := by
  obtain ⟨c, k, i, f, a, cell, h1, h2, h3, h4, h5, h6, h7, h8, h9⟩ := Cond.laysStatic_spec h
  exact ⟨c, k, i, f, a, cell, ⟨h1, h2, h3, h4, h9⟩, ⟨h5, h6, h7, h8⟩, hA a (Array.getElem?_eq_some_iff.mp h5).1⟩
theorem lS.word {args : Array Value} {s : State} {C n d : String} {A : Nat → Prop} (h : lS C n d A s s.heap) : (Cond.laysStatic C n d).before args s = true := by
  obtain ⟨c, k, i, f, a, cell, ⟨h1, h2, h3, h4, h5⟩, ⟨h6, h7, h8, h9⟩, -⟩ := h
  exact Cond.laysStatic_of h1 h2 h3 h4 h6 h7 h8 h9 h5
theorem zq_word {args : Array Value} {s : State} {C n d : String} {A : Nat → Prop} (h : va_Zq C n d A s s.heap) : (Cond.isRef (.static C n d)).before args s = true := by
  have key : ∀ v : Value, va_Z C n d v A s s.heap → v.isRef = true → (Cond.isRef (.static C n d)).before args s = true := by
    rintro v ⟨cf, kf, fi, f, a, cell, h1, h2, -, h4, h5, h6, h7, -⟩ hv
    have he : (Term.static C n d).eval args s none [] s = some v := by simp [Term.eval, State.fieldNamed?, h1, h2, h4, h5, h6, h7]
    simp only [Cond.before, Cond.holds, Cond.value, he]
    cases v <;> simp_all [Value.isRef]
  rcases h with h | ⟨t, h⟩
  · exact key _ h rfl
  · exact key _ h rfl
/-- what a throw asks of the heap: two statics of Throwable's -/
def tS (A : Nat → Prop) (U : State) (H : Heap) : Prop := (va_Zq tnN "UNASSIGNED_STACK" steT A U H ∧ va_Zq tnN "SUPPRESSED_SENTINEL" lisT A U H) ∧ lS tnN "UNASSIGNED_STACK" steT A U H ∧ lS tnN "SUPPRESSED_SENTINEL" lisT A U H
theorem tS.moved {A : Nat → Prop} {u U : State} {H : Heap} (hvm : u.vm.Alike U.vm) (h : tS A u H) : tS A U H := ⟨⟨h.1.1.moved hvm, h.1.2.moved hvm⟩, h.2.1.moved hvm, h.2.2.moved hvm⟩
theorem tS.kept {A : Nat → Prop} {U : State} {H H1 : Heap} (h : tS A U H) (hq : ∀ a : Nat, a < H.size → ¬ A a → H1[a]? = H[a]?) : tS A U H1 := ⟨⟨h.1.1.kept hq, h.1.2.kept hq⟩, h.2.1.kept hq, h.2.2.kept hq⟩
theorem tS.narrow {A B : Nat → Prop} {U : State} {H : Heap} (h : tS A U H) (hAB : ∀ q, B q → A q) : tS B U H := ⟨⟨h.1.1.narrow hAB, h.1.2.narrow hAB⟩, h.2.1.narrow hAB, h.2.2.narrow hAB⟩
/-- the words of a throw that are no good words -/
def thB (cls : String) : List Cond := [.declares ⟨"java/lang/RuntimeException", "<init>", "(Ljava/lang/String;)V"⟩, .declares ⟨"java/lang/Exception", "<init>", "(Ljava/lang/String;)V"⟩, .declares ⟨"java/lang/Throwable", "<init>", "(Ljava/lang/String;)V"⟩, .castable cls cls, .laysStatic tnN "UNASSIGNED_STACK" steT, .laysStatic tnN "SUPPRESSED_SENTINEL" lisT, .isRef (.static tnN "UNASSIGNED_STACK" steT), .isRef (.static tnN "SUPPRESSED_SENTINEL" lisT)]
theorem th_words {args : Array Value} {s : State} {A : Nat → Prop} {cls : String} {L : List Cond} (hc : cls ∈ [exI, exU, exA]) (h1 : ∀ w ∈ L, w ∈ lw_tbl ∨ w ∈ thB cls) (h2 : ∀ w ∈ L, goodWord w = true ∨ w ∈ thB cls) (hts : ∀ w ∈ wA, w.before args s = true) (hK : tK s) (hS : tS A s s.heap) : ∀ w ∈ L, w.before args s = true := by
  have hB : ∀ w ∈ thB cls, w.before args s = true := by
    intro w hw
    simp only [thB, List.mem_cons, List.mem_nil_iff, or_false] at hw
    rcases hw with rfl | rfl | rfl | rfl | rfl | rfl | rfl | rfl
    · exact va_Nw.use rfl (hK.1 _ (by simp [thD]))
    · exact va_Nw.use rfl (hK.1 _ (by simp [thD]))
    · exact va_Nw.use rfl (hK.1 _ (by simp [thD]))
    · exact va_Nw.use rfl (hK.2.1 _ hc)
    · exact hS.2.1.word
    · exact hS.2.2.word
    · exact zq_word hS.1.1
    · exact zq_word hS.1.2
  intro w hw
  rcases h1 w hw with q | q
  · rcases h2 w hw with q2 | q2
    · exact hts w (in_wA q q2)
    · exact hB w q2
  · exact hB w q
/-- where a method has thrown: the object's class; nothing that was there has changed -/
def tQ (E : String) (mc ms : Nat) (st : State) (o : Outcome) (t : State) : Prop := ∃ (q : Addr) (ce : Cell) (L : List Loc), o = .threw q ∧ (t.heap[q]? = some ce ∧ ce.vm = .none ∧ st.vm.findClass E = some ce.cls) ∧ FrameEndT st o t L mc ms ∧ (∀ z ∈ L, st.heap.size ≤ z.base) ∧ st.heap.size ≤ t.heap.size ∧ ∀ z : Nat, z < st.heap.size → t.heap[z]? = st.heap[z]?
def tMQ (below : List Frame) (E : String) (mc ms : Nat) (s : State) : State → Prop := fun t => ∃ o, t.status = .running ∧ Ended t below o ∧ tQ E mc ms s o t
/-- a method that throws an E from every state with Pc -/
def tMet (l : Launch) (y : MethodName) (ws : List Cond) (rm : Room) (Pc : Array Value → State → Prop) (E : String) (mc ms : Nat) : Prop := MetFree l y (headSpec ws rm) Pc (fun _ _ _ _ _ => True) (fun _ st o t => tQ E mc ms st o t)
theorem tMet.ofW {l : Launch} {y : MethodName} {ws ws' : List Cond} {rm : Room} {Pc : Array Value → State → Prop} {E : String} {mc ms : Nat} {cc : ByteArray} {maxL : Nat} {ret : Option FieldType}
    (hy : plainName y.cls = true) (hw : ws = Cond.code y cc maxL ret :: ws')
    (body : ∀ p e s m args below meth c s₁, BodyLoose p l y (headSpec ws rm) cc maxL ret e s m args below meth c s₁ → c.maxLocals = maxL → Pc args s →
      W p l e (headSpec ws rm).room s m args below meth c s.heap [] 0 0 (tMQ below E mc ms s) (entryFrame m args maxL)) : tMet l y ws rm Pc E mc ms := by
  refine MetFree.of_bodyS (code := cc) (maxLocals := maxL) (ret := ret) hy ?_ ?_
  · intro args s m h hn
    obtain ⟨meth, c, h1, h2, h3, h4, h5, h6, -, -⟩ := Cond.code_spec hn (atoms_spec (ws := ws) h _ (by rw [hw]; exact List.mem_cons_self))
    exact ⟨meth, c, h1, h2, h3, h4, h5, h6⟩
  · intro p e s m args below meth c s₁ B hml hP _
    have hh0 : s₁.heap = s.heap := by rw [B.state]; rfl
    obtain ⟨t, a1, o, b1, b2, b3⟩ := body p e s m args below meth c s₁ B hml hP s₁ hh0 (Stand.of_body B)
    exact ⟨t, o, a1, b1, b2, b3⟩
theorem same_old {s U : State} {locs : List Loc} {k n : Nat} (h : s.sameButNew ({ U with vm := s.vm } : State) locs k n) (hl : ∀ z ∈ locs, s.heap.size ≤ z.base) : s.heap.size ≤ U.heap.size ∧ ∀ q : Nat, q < s.heap.size → U.heap[q]? = s.heap[q]? := by
  obtain ⟨-, h2, -, -, -, h6⟩ := h
  refine ⟨h2, fun q hq => ?_⟩
  obtain ⟨c9, e1, e2, e3, e4⟩ := h6 q _ (Array.getElem?_eq_getElem hq)
  have hs : c9.slots = (s.heap[q]).slots := Array.ext_getElem? fun i => e4 i fun hm => by
    have := hl _ hm
    simp only at this
    omega
  rw [hs] at e2
  have e5 : U.heap[q]? = some c9 := e1
  rw [e5, Array.getElem?_eq_getElem hq]
  exact congrArg some e2
end
section
section LT
variable {p : Program} {l : Launch} {e : Env} {R : Room} {s : State} {m : MethodId} {args : Array Value} {below : List Frame} {meth : Method} {c : Code} {H : Heap} {locs : List Loc} {cells slots : Nat} {Q : State → Prop}
variable {cc : ByteArray} {pc : Nat} {ls : Array Slot} {rest : List Value}
/-- 'throw new E("text")' in a method without a table -/
theorem lt_throw (hx : p.tables.exec = Jvm.exec) (hb : c.code = cc) (hl : l.stackTraces = false) {own cls tx : String} {ik is ic mc ms : Nat} {A : Nat → Prop} (hown : s.vm.findClass own = some m.cls) (hcls : Bundle.fit cls = true)
    (hk : (Cond.classLink own ik cls).before args s = true) (hini : (Cond.initialized cls).before args s = true) (hst : ∃ a, vk_R own is tx a s)
    (hw : ∀ w ∈ Bundle.ownAtoms own ic cls exN, w.before args s = true) (hS : va_S (fun q => s.heap.size ≤ q) s.heap H locs) (hsize : ls.size = c.maxLocals) (htab : c.exceptionTable.isEmpty = true)
    (d0 : decode cc pc = .ok (.new ik, 3)) (d3 : decode cc (pc + 3) = .ok (.dup, 1)) (d4 : decode cc (pc + 3 + 1) = .ok (.ldc is, 2)) (d6 : decode cc (pc + 3 + 1 + 2) = .ok (.invokespecial ic, 3)) (d9 : decode cc (pc + 3 + 1 + 2 + 3) = .ok (.athrow, 1))
    (hf : 5 < R.frames) (hlo : (rest.map fun v => v.category).sum + 90 ≤ R.locals) (hc : cells + 1 ≤ R.cells) (hs : slots + 6 ≤ R.slots) (hlocks : meth.locks = false) (hmc : cells + 1 ≤ mc) (hms : slots + 6 ≤ ms) :
    W p l e R s m args below meth c H locs cells slots (tMQ below cls mc ms s) (F0 m pc ls rest) := by
  have hins : (Cond.instantiable cls 6).before args s = true := hw _ (by simp [Bundle.ownAtoms])
  obtain ⟨cX, kX, hfX, hkX, -⟩ := Cond.instantiable_spec hins
  obtain ⟨q, hst⟩ := hst
  refine W.newcK hx hb hown hk hins hini rfl d0 hc hs hfX rfl (fun H1 kC hkC e1 z1 o1 => ?_)
  refine W.eq (g2 := F0 m (pc + 3) ls (.ref H.size :: rest)) rfl ?_
  refine lv_dup hx hb d3 rfl ?_
  refine va_ldcS hx hb hown hst d4 ?_
  intro T hT X
  have htr : e.platform.stackTraces = false := (show e.platform.stackTraces = l.stackTraces by rw [X.admits.platform]).trans hl
  have hlocs : ∀ x ∈ locs, ∀ cell, s.heap[x.base]? = some cell → cell.vm.isStatics = false := fun x hx9 cell h9 => by
    have h1 : s.heap.size ≤ x.base := hS.2.2 x hx9
    have h2 := (Array.getElem?_eq_some_iff.mp h9).1
    omega
  obtain ⟨U, st, hrun, hend, hW, hsame, ce, hce, hO⟩ := X.ctorThrowS hx htr (own := own) (cls := cls) (names := exN) (ic := ic) hown hcls (by decide +kernel) hw hlocs (a := H.size) hfX hkC (by rw [hT]; exact e1) hS.1 (msg := .ref q) rfl
    (g := F0 m (pc + 3 + 1 + 2) ls (.ref q :: .ref H.size :: .ref H.size :: rest)) rfl hsize rfl rfl (rest := rest) rfl (by rw [hb]; exact d6) (by rw [hb]; exact d9)
    (fun x hx9 => by rw [Array.isEmpty_iff.mp htab] at hx9; cases hx9) (by show 2 + 3 < _; omega) (by show 2 * 0 + ((1 : Nat) + (rest.map fun v => v.category).sum) + (13 * (2 + 1) + 42) ≤ _; omega) hlocks
  obtain ⟨f1, f2⟩ := same_old hsame hS.2.2
  exact ⟨U, st, .threw H.size, hrun, hend, H.size, ce, locs, rfl, ⟨hce, hO.vm, hO.cls⟩, ⟨⟨_, rfl⟩, hW, hsame.mono hmc hms⟩, hS.2.2, f1, f2⟩
/-- a call of a method that throws: it comes back throwing -/
theorem tcallV {T : State} (X : Stand p l e R s m args below meth c T locs cells slots) (hexec : p.tables.exec = Jvm.exec) {own C : String} {index : Nat} {y : MethodName} {bytes : ByteArray} {maxL : Nat} {ret : Option FieldType}
    (hown : s.vm.findClass own = some m.cls) (hlink : (Cond.methodLink own index y).before args s = true) (hinst : (Cond.instanceMethod y).before args s = true) (hsel : (Cond.selects C y y).before args s = true)
    (hcode : (Cond.code y bytes maxL ret).before args s = true) (hy : y.cls ≠ "java/lang/invoke/MethodHandle" ∧ y.cls ≠ "java/lang/invoke/VarHandle")
    {W9 : Nat} {Pre : Pt → Array Value → Prop} {Post : Pt → Array Value → Addr → Pt → Prop} (hK : BackT l R p e below s args y 3 W9 Pre Post)
    {b : Addr} {cellB : Cell} (hcell : T.heap[b]? = some cellB) (hobj : cellB.vm.isStatics = false) (hcls : s.vm.findClass C = some cellB.cls)
    {g : JFrame} (hg : g.method = m) (hsize : g.locals.size = c.maxLocals) {argsL rest : List Value} (hlen : ∀ sig, parseMethodDescriptor y.desc = some sig → argsL.length = sig.parameters.length)
    (hstack : g.stack = argsL.reverse ++ .ref b :: rest) (hW : 2 * g.monitorRoom + (rest.map fun v => v.category).sum ≤ W9) (hdg : decode c.code g.pc = .ok (.invokevirtual index, 3))
    (hpre : ∀ vm₁, s.WarmedH vm₁ → Pre ⟨T.setVm vm₁, locs, cells, slots⟩ (Value.ref b :: argsL).toArray) :
    ∃ (q : Addr) (vm₁ : Vm) (B : Pt), s.WarmedH vm₁ ∧ Stand p l e R s m args below meth c B.U B.locs B.cells B.slots ∧ Post ⟨T.setVm vm₁, locs, cells, slots⟩ (Value.ref b :: argsL).toArray q B ∧
      Steps p.tables e below (T.setTop g) ((B.U.setTop { g with stack := rest }).pushFrame (.throwing q)) := by
  obtain ⟨mk, methM, hnamed, hmethM, hstM, habM⟩ := Cond.instanceMethod_spec hinst
  obtain ⟨methM', cM, hmethM', -, -, -, -, -, -, hsigM⟩ := Cond.code_spec hnamed hcode
  cases hmethM.symm.trans hmethM'
  obtain ⟨c2, r2, m2, q1, q2, q3, q4, kP, hkP, hkPi⟩ := Cond.selects_spec hsel
  cases hcls.symm.trans q1
  cases (State.methodFound?_of_named hnamed hy).symm.trans q2
  cases hnamed.symm.trans q3
  have hselP : selectMethod e.platform s.vm cellB.cls mk = .method mk := by rw [Launch.admits_selectMethod X.admits]; exact q4
  obtain ⟨vm₁, X₁, hstep₁⟩ := X.invokevirtual hexec hown hlink hnamed hmethM hstM hkP hkPi hy (a := b) (cell := cellB) hcell
    (fun z h => by rw [h] at hobj; cases hobj) hselP hmethM habM hkP hkPi (g := g) hg (argsL := argsL) (rest := rest) (hlen _ hsigM) hstack hdg
  obtain ⟨q, B, X', hpost, hsteps⟩ := hK m meth c ⟨T.setVm vm₁, locs, cells, slots⟩ { g with stack := rest } (.invokevirtual index) mk (Value.ref b :: argsL).toArray X₁ hg hsize hdg hW (X₁.named hnamed) (hpre vm₁ X₁.warmed)
  exact ⟨q, vm₁, B, X₁.warmed, X', hpost, hstep₁ _ fun acts => by rw [doInvoke_state]; exact hsteps⟩
/-- .. caught by a row of the caller's own table -/
theorem lt_callV {y : MethodName} {bytes : ByteArray} {maxL nL mc ms n index : Nat} {ret : Option FieldType} {wy : List Cond} {rm : Room} {Pc : Array Value → State → Prop} {E name own C : String} {Ts : List Cond} {b : Addr} {As st0 : List Value} {A0 : Nat → Prop} {H0 : Heap}
    (S0 : CallFix p m c cc nL s args Ts own) (hM : tMet l y wy rm Pc E mc ms) (cw : CallW R s args own C index y bytes maxL ret wy rm mc ms n) (hp : PreV s H C b Pc As) (hS : va_S A0 H0 H locs) (hA : ∀ q, H0.size ≤ q → A0 q)
    (hsz : ls.size = nL) (hn : As.length = n) (hst : st0 = As.reverse ++ .ref b :: rest) (hw : (rest.map fun v => v.category).sum ≤ 8) (hd : decode cc pc = .ok (.invokevirtual index, 3)) (hf : cells + mc ≤ R.cells ∧ slots + ms ≤ R.slots)
    (pre : List ExceptionTableEntry) (x : ExceptionTableEntry) (suf : List ExceptionTableEntry) (hsplit : c.exceptionTable.toList = pre ++ x :: suf)
    (hpass : ∀ z ∈ pre, z.catchType ≠ 0 ∧ ∃ nm : String, (Cond.classLink own z.catchType nm).before args s = true ∧ va_Nc E nm s) (hcov : covers x pc = true) (h0 : x.catchType ≠ 0)
    (hlink : (Cond.classLink own x.catchType name).before args s = true) (hcast : (Cond.castable E name).before args s = true)
    (kk : ∀ (q : Nat) (H1 : Heap) (locs1 : List Loc), H.size ≤ H1.size → (∀ z : Nat, z < H.size → H1[z]? = H[z]?) → va_S A0 H0 H1 locs1 → W p l e R s m args below meth c H1 locs1 (cells + mc) (slots + ms) Q (F0 m x.handlerPc ls [.ref q])) :
    W p l e R s m args below meth c H locs cells slots Q (F0 m pc ls st0) := by
  obtain ⟨⟨hrc, hrs, hfr, hlo, hws, hcw, hcode, hini, hy, hlen, hl⟩, hin, hse⟩ := cw
  obtain ⟨hx, hb, hml, ho, -⟩ := S0
  obtain ⟨hbl, ⟨cellB, hcB, hoB, hclB⟩, hPc⟩ := hp
  have hK : BackT l R p e below s args y 3 8 (PreOf R mc ms Pc) (fun A a q B => ∃ (g : JFrame) (mk : MethodId) (t : State) (L : List Loc) (ce : Cell), B.U.heap = t.heap ∧ (t.heap[q]? = some ce ∧ ce.vm = .none ∧ A.U.vm.findClass E = some ce.cls) ∧ B.locs = A.locs ++ L ∧ (∀ z ∈ L, A.U.heap.size ≤ z.base) ∧ (A.U.heap.size ≤ t.heap.size ∧ ∀ z : Nat, z < A.U.heap.size → t.heap[z]? = A.U.heap[z]?) ∧ B.cells = A.cells + mc ∧ B.slots = A.slots + ms) := by
    refine BackT.of_free (S := headSpec wy rm) (P := Pc) (K := fun _ _ _ _ _ => True) (Q := fun _ st o t => tQ E mc ms st o t) (bytes := bytes) (maxL := maxL) (ret := ret)
      (E := fun _ st o t L k n => k = mc ∧ n = ms ∧ ∃ (q : Addr) (ce : Cell), o = .threw q ∧ (t.heap[q]? = some ce ∧ ce.vm = .none ∧ st.vm.findClass E = some ce.cls) ∧ (∀ z ∈ L, st.heap.size ≤ z.base) ∧ st.heap.size ≤ t.heap.size ∧ ∀ z : Nat, z < st.heap.size → t.heap[z]? = st.heap[z]?) hM hfr hlo ?_ ?_ (fun _ _ _ _ _ _ _ _ _ => trivial) ?_ ?_
    · intro m meth c A a X hp
      exact ⟨atoms_intro fun w hw => hws w hw _ _ X.warmed, hws _ hcw _ _ X.warmed, word_at X.warmed (Or.inl (by first | rfl | simp [Cond.onTables, Cond.keeps, Cond.steady])) hini, by rw [show (headSpec wy rm).room.cells = mc from hrc]; exact hp.1, by rw [show (headSpec wy rm).room.slots = ms from hrs]; exact hp.2.1⟩
    · intro m meth c A a g mk X hp
      exact hbl _ _ _ _ hp.2.2
    · intro a st o t ⟨q, ce, L, h1, h2, h3, h4, h5, h6⟩
      exact ⟨L, mc, ms, h3, rfl, rfl, q, ce, h1, h2, h4, h5, h6⟩
    · intro m meth c A a g mk v t L k n X hp hq hF ⟨e1, e2, q, ce, h1, h2, h4, h5, h6⟩
      subst e1; subst e2
      cases h1
      exact ⟨g, mk, t, L, ce, rfl, h2, rfl, h4, ⟨h5, h6⟩, rfl, rfl⟩
  intro T hT X
  obtain ⟨q, vm₁, ⟨U', l2, c2, s2⟩, hW₁, X', ⟨g', mk, t, L, ce, e1, ⟨hce, hcv, hcl⟩, h1, hL, ⟨hz, hk⟩, h2, h3⟩, st⟩ := tcallV X hx (C := C) (bytes := bytes) (maxL := maxL) (ret := ret) ho hl hin hse hcode hy hK (by rw [hT]; exact hcB) hoB hclB (g := F0 m pc ls st0) rfl (hsz.trans hml.symm) (argsL := As) (rest := rest) (fun sig h => hn.trans (hlen sig h)) hst (lv_room hw) (by rw [hb]; exact hd)
    (fun vm₁ hW₁ => ⟨hf.1, hf.2, hPc (T.setVm vm₁) hT hW₁⟩)
  dsimp only [Pt.U, Pt.locs, Pt.cells, Pt.slots] at X' e1 h1 h2 h3 st hz hk hL hcl
  subst h1; subst h2; subst h3
  have hTh : (T.setVm vm₁).heap = H := hT
  rw [hTh] at hz hk hL
  have hcl' : s.vm.findClass E = some ce.cls := by
    have h9 : vm₁.findClass E = some ce.cls := hcl
    rw [hW₁.alike.findClass] at h9
    exact h9
  have hpl : e.platform.magicAccessors = ({} : Platform).magicAccessors := by rw [X.admits.platform]
  obtain ⟨c3, c4, hc3, hc4, hasg⟩ := Cond.castable_spec hcast
  cases Option.some.inj (hc3.symm.trans hcl')
  obtain ⟨c5, hc5, hcl5⟩ := Cond.classLink_spec ho hlink e.platform hpl
  cases Option.some.inj (hc4.symm.trans hc5)
  obtain ⟨vm', X2, st2⟩ := X'.thenCaughtThrough q (g := F0 m pc ls rest) rfl st (cell := ce) (by rw [e1]; exact hce) (by rw [hcv]; rfl) (by obtain ⟨k9, h9, -⟩ := Vm.findClass_spec hcl'; exact ⟨k9, h9⟩) pre x suf hsplit
    (fun z hz9 => by
      obtain ⟨hz0, nm, hl1, hn1⟩ := hpass z hz9
      obtain ⟨c6, hc6, hcl6⟩ := Cond.classLink_spec ho hl1 e.platform hpl
      obtain ⟨a8, b8, g1, g2, g3⟩ := hn1
      cases Option.some.inj (g1.symm.trans hcl')
      cases Option.some.inj (g2.symm.trans hc6)
      exact Or.inr ⟨hz0, _, hcl6, g3⟩) hcov (Or.inr ⟨h0, c4, hcl5, hasg⟩)
  obtain ⟨t2, a1, b1⟩ := kk q U'.heap (locs ++ L) (by rw [e1]; exact hz) (fun z h9 => by rw [e1]; exact hk z h9)
    ⟨Nat.le_trans hS.1 (by rw [e1]; exact hz), fun z h9 h8 => by rw [e1, hk z (Nat.lt_of_lt_of_le h9 hS.1)]; exact hS.2.1 z h9 h8, fun z hz9 => by
      rcases List.mem_append.mp hz9 with h9 | h9
      · exact hS.2.2 z h9
      · exact hA _ (Nat.le_trans hS.1 (hL z h9))⟩ (U'.setVm vm') rfl X2
  exact ⟨t2, st2.trans a1, b1⟩
end LT
end
section
/-- a reading's answer and what it turns, by kind -/
def jd (kd M y : Nat) : Nat × Nat × Nat := if kd = 0 then jdS M 1 y else if kd = 1 then jdP y else if kd = 2 then jdN M y else jdS M 4 y
/-- the column of a bit, the greatest row sum, by kind -/
def colK (kd M j : Nat) : Nat := if kd = 0 then cc_ (lr (wid M 1 (j % 1))) (j / 1) else if kd = 1 then mkP (min M 4) j else cc_ (lr (wid M 4 (j % 4))) (j / 4)
def grsK (kd M : Nat) : Nat := if kd = 0 then grs M 1 1 else if kd = 1 then 0 else if kd = 2 then 0 else grs M 4 4
theorem ckb_pow (kd M : Nat) : 2 ^ ckb kd M ≤ 2 ^ 28 := Nat.pow_le_pow_right (by decide) (ckb_le kd M)
end
section
theorem m_289 : Cond.code y_K_sumOf b_K_sumOf 7 (some .int) ∈ wA := in_wA (List.mem_of_getElem? (i := 289) rfl) rfl
theorem m_284 : Cond.instanceMethod y_K_sumOf ∈ wA := in_wA (List.mem_of_getElem? (i := 284) rfl) rfl
theorem m_283 : Cond.methodLink R_C 99 y_K_sumOf ∈ wA := in_wA (List.mem_of_getElem? (i := 283) rfl) rfl
theorem m_285 : Cond.sameMethod R_K R_K "sumOf" "(J)I" ∈ wA := in_wA (List.mem_of_getElem? (i := 285) rfl) rfl
theorem m_288 : Cond.selects R_S y_K_sumOf y_K_sumOf ∈ wA := in_wA (List.mem_of_getElem? (i := 288) rfl) rfl
theorem m_287 : Cond.selects R_P y_K_sumOf y_K_sumOf ∈ wA := in_wA (List.mem_of_getElem? (i := 287) rfl) rfl
theorem m_286 : Cond.selects R_N y_K_sumOf y_K_sumOf ∈ wA := in_wA (List.mem_of_getElem? (i := 286) rfl) rfl
theorem m_463 : Cond.code y_S_judge b_S_judge 10 (some .int) ∈ wA := in_wA (List.mem_of_getElem? (i := 463) rfl) rfl
theorem m_443 : Cond.methodLink R_C 108 y_K_judge ∈ wA := in_wA (List.mem_of_getElem? (i := 443) rfl) rfl
theorem m_445 : Cond.sameMethod R_K R_K "judge" "(ILCheckCodes$Turn;)I" ∈ wA := in_wA (List.mem_of_getElem? (i := 445) rfl) rfl
theorem m_461 : Cond.selects R_S y_K_judge y_S_judge ∈ wA := in_wA (List.mem_of_getElem? (i := 461) rfl) rfl
theorem m_462 : Cond.instanceMethod y_S_judge ∈ wA := in_wA (List.mem_of_getElem? (i := 462) rfl) rfl
theorem m_459 : Cond.code y_P_judge b_P_judge 3 (some .int) ∈ wA := in_wA (List.mem_of_getElem? (i := 459) rfl) rfl
theorem m_457 : Cond.selects R_P y_K_judge y_P_judge ∈ wA := in_wA (List.mem_of_getElem? (i := 457) rfl) rfl
theorem m_458 : Cond.instanceMethod y_P_judge ∈ wA := in_wA (List.mem_of_getElem? (i := 458) rfl) rfl
theorem m_448 : Cond.code y_N_judge b_N_judge 6 (some .int) ∈ wA := in_wA (List.mem_of_getElem? (i := 448) rfl) rfl
theorem m_446 : Cond.selects R_N y_K_judge y_N_judge ∈ wA := in_wA (List.mem_of_getElem? (i := 446) rfl) rfl
theorem m_447 : Cond.instanceMethod y_N_judge ∈ wA := in_wA (List.mem_of_getElem? (i := 447) rfl) rfl
theorem m_405 : Cond.code y_S_columnOf b_S_columnOf 2 (some .int) ∈ wA := in_wA (List.mem_of_getElem? (i := 405) rfl) rfl
theorem m_399 : Cond.instanceMethod y_K_columnOf ∈ wA := in_wA (List.mem_of_getElem? (i := 399) rfl) rfl
theorem m_406 : Cond.code y_K_columnOf b_K_columnOf 2 (some .int) ∈ wA := in_wA (List.mem_of_getElem? (i := 406) rfl) rfl
theorem m_398 : Cond.methodLink R_C 83 y_K_columnOf ∈ wA := in_wA (List.mem_of_getElem? (i := 398) rfl) rfl
theorem m_400 : Cond.sameMethod R_K R_K "columnOf" "(I)I" ∈ wA := in_wA (List.mem_of_getElem? (i := 400) rfl) rfl
theorem m_403 : Cond.selects R_S y_K_columnOf y_S_columnOf ∈ wA := in_wA (List.mem_of_getElem? (i := 403) rfl) rfl
theorem m_404 : Cond.instanceMethod y_S_columnOf ∈ wA := in_wA (List.mem_of_getElem? (i := 404) rfl) rfl
theorem m_402 : Cond.selects R_P y_K_columnOf y_K_columnOf ∈ wA := in_wA (List.mem_of_getElem? (i := 402) rfl) rfl
theorem m_266 : Cond.code y_S_greatestRowSum b_S_greatestRowSum 6 (some .int) ∈ wA := in_wA (List.mem_of_getElem? (i := 266) rfl) rfl
theorem m_260 : Cond.instanceMethod y_K_greatestRowSum ∈ wA := in_wA (List.mem_of_getElem? (i := 260) rfl) rfl
theorem m_274 : Cond.code y_K_greatestRowSum b_K_greatestRowSum 1 (some .int) ∈ wA := in_wA (List.mem_of_getElem? (i := 274) rfl) rfl
theorem m_259 : Cond.methodLink R_C 67 y_K_greatestRowSum ∈ wA := in_wA (List.mem_of_getElem? (i := 259) rfl) rfl
theorem m_261 : Cond.sameMethod R_K R_K "greatestRowSum" "()I" ∈ wA := in_wA (List.mem_of_getElem? (i := 261) rfl) rfl
theorem m_264 : Cond.selects R_S y_K_greatestRowSum y_S_greatestRowSum ∈ wA := in_wA (List.mem_of_getElem? (i := 264) rfl) rfl
theorem m_265 : Cond.instanceMethod y_S_greatestRowSum ∈ wA := in_wA (List.mem_of_getElem? (i := 265) rfl) rfl
theorem m_263 : Cond.selects R_P y_K_greatestRowSum y_K_greatestRowSum ∈ wA := in_wA (List.mem_of_getElem? (i := 263) rfl) rfl
theorem m_262 : Cond.selects R_N y_K_greatestRowSum y_K_greatestRowSum ∈ wA := in_wA (List.mem_of_getElem? (i := 262) rfl) rfl
section LU
variable {p : Program} {l : Launch} {e : Env} {R : Room} {s : State} {m : MethodId} {args : Array Value} {below : List Frame} {meth : Method} {c : Code} {H : Heap} {locs : List Loc} {cells slots : Nat} {Q : State → Prop}
variable {cc : ByteArray} {pc nL : Nat} {ls : Array Slot} {rest : List Value} {D : va_G} {g : Nat → ClassId} {A0 : Nat → Prop} {H0 : Heap}
theorem lu_sumOf {ws : va_W} {kd M oc x : Nat} (hcw : CodeW g kd M oc ws) (hM : M ≤ 57) (hx9 : x < 2 ^ 64) (hx : p.tables.exec = Jvm.exec) (hb : c.code = cc) (hml : c.maxLocals = nL) (hown : s.vm.findClass R_C = some m.cls) (hts : ∀ w ∈ wA, w.before args s = true) (hKK : pK D (tyl g) s) (hP : va_P D vwCl ws H) (hD : va_D A0 ws) (hS : va_S A0 H0 H locs) (hA : ∀ q, H0.size ≤ q → A0 q) (hsz : ls.size = nL) (hw : (rest.map fun v => v.category).sum ≤ 8) (hc : cells ≤ R.cells) (hs : slots ≤ R.slots) (hRf : 1 ≤ R.frames) (hRl : 26 ≤ R.locals) (hd : decode cc pc = .ok (.invokevirtual 99, 3))
    (kk : ∀ (H1 : Heap) (locs1 : List Loc), va_P D vwCl ws H1 → va_D A0 ws → va_S A0 H0 H1 locs1 → W p l e R s m args below meth c H1 locs1 cells slots Q (F0 m (pc + 3) ls (.int (nI (xs (mrk kd M) x M)) :: rest))) : W p l e R s m args below meth c H locs cells slots Q (F0 m pc ls (.long (lN x) :: .ref oc :: rest)) := by
  have hK := hKK.1
  rcases hcw with ⟨rfl, hcw⟩ | ⟨rfl, hcw⟩ | ⟨rfl, hcw⟩ | ⟨rfl, hcw⟩
  · obtain ⟨k0, k1, am, kl, al, lf, kL, kc, kr, kb, la, ca, ra, ba9, h0, h1, ql, qf, qL, qc, qr, qb⟩ := hcw
    refine lc_Ui (b := oc) (As := [.long (lN x)]) (rest := rest) ⟨hx, hb, hml, hown, hts⟩ (c_K_sumOf_S l D g _ ws k0 k1 oc am _ _ al M (mkS M 1) x h0 h1 (by omega) hx9) (kU (owner := "CheckCodes$Code") 1 hts m_289 m_283 m_285 (va_Decl.of (hts _ m_284) (hts _ m_289)) m_288 m_284 m_31 (by decide +kernel) ⟨Nat.le_trans (Nat.le_of_ble_eq_true rfl) hRf, Nat.le_trans (Nat.le_of_ble_eq_true rfl) hRl⟩) (va_recv hK hP (ci := 1) (q0 := k0) rfl h0) hKK hP hD hS hA hsz rfl rfl hw hd ⟨hc, hs⟩ (fun r1 u H locs hr hP hD hS => ?_)
    obtain rfl : r1 = nI (xs (mrk 0 M) x M) := hr
    exact kk _ _ hP hD hS
  · obtain ⟨k0, k1, am, h0, h1⟩ := hcw
    refine lc_Ui (b := oc) (As := [.long (lN x)]) (rest := rest) ⟨hx, hb, hml, hown, hts⟩ (c_K_sumOf_P l D g _ ws k0 k1 oc am _ _ M (fun j => if j < M then mkP (min M 4) j else 0) x h0 h1 (by omega) hx9) (kU (owner := "CheckCodes$Code") 1 hts m_289 m_283 m_285 (va_Decl.of (hts _ m_284) (hts _ m_289)) m_287 m_284 m_31 (by decide +kernel) ⟨Nat.le_trans (Nat.le_of_ble_eq_true rfl) hRf, Nat.le_trans (Nat.le_of_ble_eq_true rfl) hRl⟩) (va_recv hK hP (ci := 2) (q0 := k0) rfl h0) hKK hP hD hS hA hsz rfl rfl hw hd ⟨hc, hs⟩ (fun r1 u H locs hr hP hD hS => ?_)
    obtain rfl : r1 = nI (xs (mrk 1 M) x M) := hr
    exact kk _ _ hP hD hS
  · obtain ⟨k0, k1, am, h0, h1⟩ := hcw
    refine lc_Ui (b := oc) (As := [.long (lN x)]) (rest := rest) ⟨hx, hb, hml, hown, hts⟩ (c_K_sumOf_N l D g _ ws k0 k1 oc am _ _ M (fun j => if j < M then mkN j else 0) x h0 h1 (by omega) hx9) (kU (owner := "CheckCodes$Code") 1 hts m_289 m_283 m_285 (va_Decl.of (hts _ m_284) (hts _ m_289)) m_286 m_284 m_31 (by decide +kernel) ⟨Nat.le_trans (Nat.le_of_ble_eq_true rfl) hRf, Nat.le_trans (Nat.le_of_ble_eq_true rfl) hRl⟩) (va_recv hK hP (ci := 3) (q0 := k0) rfl h0) hKK hP hD hS hA hsz rfl rfl hw hd ⟨hc, hs⟩ (fun r1 u H locs hr hP hD hS => ?_)
    obtain rfl : r1 = nI (xs (mrk 2 M) x M) := hr
    exact kk _ _ hP hD hS
  · obtain ⟨k0, k1, am, kl, al, lf, kL, kc, kr, kb, la, ca, ra, ba9, h0, h1, ql, qf, qL, qc, qr, qb⟩ := hcw
    refine lc_Ui (b := oc) (As := [.long (lN x)]) (rest := rest) ⟨hx, hb, hml, hown, hts⟩ (c_K_sumOf_S l D g _ ws k0 k1 oc am _ _ al M (mkS M 4) x h0 h1 (by omega) hx9) (kU (owner := "CheckCodes$Code") 1 hts m_289 m_283 m_285 (va_Decl.of (hts _ m_284) (hts _ m_289)) m_288 m_284 m_31 (by decide +kernel) ⟨Nat.le_trans (Nat.le_of_ble_eq_true rfl) hRf, Nat.le_trans (Nat.le_of_ble_eq_true rfl) hRl⟩) (va_recv hK hP (ci := 1) (q0 := k0) rfl h0) hKK hP hD hS hA hsz rfl rfl hw hd ⟨hc, hs⟩ (fun r1 u H locs hr hP hD hS => ?_)
    obtain rfl : r1 = nI (xs (mrk 3 M) x M) := hr
    exact kk _ _ hP hD hS
theorem lu_judge {wr : va_W} {kd M oc tn y : Nat} {a0 : Int64} {b0 : Int32} (hcw : CodeW g kd M oc wr) (hM : M ≤ 57) (hy : y < 2 ^ ckb kd M) (hx : p.tables.exec = Jvm.exec) (hb : c.code = cc) (hml : c.maxLocals = nL) (hown : s.vm.findClass R_C = some m.cls) (hts : ∀ w ∈ wA, w.before args s = true) (hKK : pK D (tyl g) s) (hP : va_P D vwCl ((tn, .inr (5, [.long a0, .int b0])) :: wr) H) (hD : va_D A0 ((tn, .inr (5, [.long a0, .int b0])) :: wr)) (hS : va_S A0 H0 H locs) (hA : ∀ q, H0.size ≤ q → A0 q) (hsz : ls.size = nL) (hw : (rest.map fun v => v.category).sum ≤ 8) (hc : cells ≤ R.cells) (hs : slots ≤ R.slots) (hRf : 3 ≤ R.frames) (hRl : 74 ≤ R.locals) (hd : decode cc pc = .ok (.invokevirtual 108, 3))
    (kk : ∀ (H1 : Heap) (locs1 : List Loc), va_P D vwCl ((tn, .inr (5, [.long (lN (jd kd M y).2.1), .int (nI (jd kd M y).2.2)])) :: wr) H1 → va_D A0 ((tn, .inr (5, [.long (lN (jd kd M y).2.1), .int (nI (jd kd M y).2.2)])) :: wr) → va_S A0 H0 H1 locs1 → W p l e R s m args below meth c H1 locs1 cells slots Q (F0 m (pc + 3) ls (.int (nI (jd kd M y).1) :: rest))) : W p l e R s m args below meth c H locs cells slots Q (F0 m pc ls (.ref tn :: .int (nI y) :: .ref oc :: rest)) := by
  have hK := hKK.1
  have hpw := ckb_pow kd M
  rcases hcw with ⟨rfl, hcw⟩ | ⟨rfl, hcw⟩ | ⟨rfl, hcw⟩ | ⟨rfl, hcw⟩
  · obtain ⟨k0, k1, am, kl, al, lf, kL, kc, kr, kb, la, ca, ra, ba9, h0, h1, ql, qf, qL, qc, qr, qb⟩ := hcw
    refine lc_Ui (b := oc) (As := [.int (nI y), .ref tn]) (rest := rest) ⟨hx, hb, hml, hown, hts⟩ (c_S_judge l D g _ wr M 1 tn y a0 b0 hM (by decide) kl al lf kL kc kr kb la ca ra ba9 ql qf qL qc qb k0 oc am _ h0 (by omega)) (kU (owner := "CheckCodes$Code") 2 hts m_463 m_443 m_445 (va_Decl.abs hKK.2.2.2) m_461 m_462 m_32 (by decide +kernel) ⟨Nat.le_trans (Nat.le_of_ble_eq_true rfl) hRf, Nat.le_trans (Nat.le_of_ble_eq_true rfl) hRl⟩) (va_recv hK hP (ci := 1) (q0 := (k0 + 1)) rfl h0) hKK hP hD hS hA hsz rfl rfl hw hd ⟨hc, hs⟩ (fun r1 u H locs hr hP hD hS => ?_)
    obtain rfl : r1 = nI (jd 0 M y).1 := hr
    exact kk _ _ hP hD hS
  · obtain ⟨k0, k1, am, h0, h1⟩ := hcw
    refine lc_Ui (b := oc) (As := [.int (nI y), .ref tn]) (rest := rest) ⟨hx, hb, hml, hown, hts⟩ (c_P_judge l D g _ wr oc tn y a0 b0 (by omega)) (kU (owner := "CheckCodes$Code") 2 hts m_459 m_443 m_445 (va_Decl.abs hKK.2.2.2) m_457 m_458 m_36 (by decide +kernel) ⟨Nat.le_trans (Nat.le_of_ble_eq_true rfl) hRf, Nat.le_trans (Nat.le_of_ble_eq_true rfl) hRl⟩) (va_recv hK hP (ci := 2) (q0 := (k0 + 1)) rfl h0) hKK hP hD hS hA hsz rfl rfl hw hd ⟨hc, hs⟩ (fun r1 u H locs hr hP hD hS => ?_)
    obtain rfl : r1 = nI (jd 1 M y).1 := hr
    exact kk _ _ hP hD hS
  · obtain ⟨k0, k1, am, h0, h1⟩ := hcw
    have hy4 : y < 4096 := hy
    refine lc_Ui (b := oc) (As := [.int (nI y), .ref tn]) (rest := rest) ⟨hx, hb, hml, hown, hts⟩ (c_N_judge l D g _ wr k0 oc tn am M y _ a0 b0 h0 hM hy4) (kU (owner := "CheckCodes$Code") 2 hts m_448 m_443 m_445 (va_Decl.abs hKK.2.2.2) m_446 m_447 m_37 (by decide +kernel) ⟨Nat.le_trans (Nat.le_of_ble_eq_true rfl) hRf, Nat.le_trans (Nat.le_of_ble_eq_true rfl) hRl⟩) (va_recv hK hP (ci := 3) (q0 := (k0 + 1)) rfl h0) hKK hP hD hS hA hsz rfl rfl hw hd ⟨hc, hs⟩ (fun r1 u H locs hr hP hD hS => ?_)
    obtain rfl : r1 = nI (jd 2 M y).1 := hr
    exact kk _ _ hP hD hS
  · obtain ⟨k0, k1, am, kl, al, lf, kL, kc, kr, kb, la, ca, ra, ba9, h0, h1, ql, qf, qL, qc, qr, qb⟩ := hcw
    refine lc_Ui (b := oc) (As := [.int (nI y), .ref tn]) (rest := rest) ⟨hx, hb, hml, hown, hts⟩ (c_S_judge l D g _ wr M 4 tn y a0 b0 hM (by decide) kl al lf kL kc kr kb la ca ra ba9 ql qf qL qc qb k0 oc am _ h0 (by omega)) (kU (owner := "CheckCodes$Code") 2 hts m_463 m_443 m_445 (va_Decl.abs hKK.2.2.2) m_461 m_462 m_32 (by decide +kernel) ⟨Nat.le_trans (Nat.le_of_ble_eq_true rfl) hRf, Nat.le_trans (Nat.le_of_ble_eq_true rfl) hRl⟩) (va_recv hK hP (ci := 1) (q0 := (k0 + 1)) rfl h0) hKK hP hD hS hA hsz rfl rfl hw hd ⟨hc, hs⟩ (fun r1 u H locs hr hP hD hS => ?_)
    obtain rfl : r1 = nI (jd 3 M y).1 := hr
    exact kk _ _ hP hD hS
theorem lu_columnOf {ws : va_W} {kd M oc j : Nat} (hcw : CodeW g kd M oc ws) (hk2 : kd ≠ 2) (hM : M ≤ 57) (hj : j < M) (hx : p.tables.exec = Jvm.exec) (hb : c.code = cc) (hml : c.maxLocals = nL) (hown : s.vm.findClass R_C = some m.cls) (hts : ∀ w ∈ wA, w.before args s = true) (hKK : pK D (tyl g) s) (hP : va_P D vwCl ws H) (hD : va_D A0 ws) (hS : va_S A0 H0 H locs) (hA : ∀ q, H0.size ≤ q → A0 q) (hsz : ls.size = nL) (hw : (rest.map fun v => v.category).sum ≤ 8) (hc : cells ≤ R.cells) (hs : slots ≤ R.slots) (hRf : 1 ≤ R.frames) (hRl : 21 ≤ R.locals) (hd : decode cc pc = .ok (.invokevirtual 83, 3))
    (kk : ∀ (H1 : Heap) (locs1 : List Loc), va_P D vwCl ws H1 → va_D A0 ws → va_S A0 H0 H1 locs1 → W p l e R s m args below meth c H1 locs1 cells slots Q (F0 m (pc + 3) ls (.int (nI (colK kd M j)) :: rest))) : W p l e R s m args below meth c H locs cells slots Q (F0 m pc ls (.int (nI j) :: .ref oc :: rest)) := by
  have hK := hKK.1
  rcases hcw with ⟨rfl, hcw⟩ | ⟨rfl, hcw⟩ | ⟨rfl, hcw⟩ | ⟨rfl, hcw⟩
  · obtain ⟨k0, k1, am, kl, al, lf, kL, kc, kr, kb, la, ca, ra, ba9, h0, h1, ql, qf, qL, qc, qr, qb⟩ := hcw
    refine lc_Ui (b := oc) (As := [.int (nI j)]) (rest := rest) ⟨hx, hb, hml, hown, hts⟩ (c_S_columnOf l D g _ ws M 1 j hM (by decide) kl al lf kL kc kr kb la ca ra ba9 ql qf qL qc k0 oc am _ h0 hj) (kU (owner := "CheckCodes$Code") 1 hts m_405 m_398 m_400 (va_Decl.of (hts _ m_399) (hts _ m_406)) m_403 m_404 m_32 (by decide +kernel) ⟨Nat.le_trans (Nat.le_of_ble_eq_true rfl) hRf, Nat.le_trans (Nat.le_of_ble_eq_true rfl) hRl⟩) (va_recv hK hP (ci := 1) (q0 := k0) rfl h0) hKK hP hD hS hA hsz rfl rfl hw hd ⟨hc, hs⟩ (fun r1 u H locs hr hP hD hS => ?_)
    obtain rfl : r1 = nI (colK 0 M j) := hr
    exact kk _ _ hP hD hS
  · obtain ⟨k0, k1, am, h0, h1⟩ := hcw
    refine lc_Ui (b := oc) (As := [.int (nI j)]) (rest := rest) ⟨hx, hb, hml, hown, hts⟩ (c_K_columnOf_P l D g _ ws k0 k1 oc am M j _ _ (fun j => if j < M then mkP (min M 4) j else 0) h0 h1 hM hj) (kU (owner := "CheckCodes$Code") 1 hts m_406 m_398 m_400 (va_Decl.of (hts _ m_399) (hts _ m_406)) m_402 m_399 m_31 (by decide +kernel) ⟨Nat.le_trans (Nat.le_of_ble_eq_true rfl) hRf, Nat.le_trans (Nat.le_of_ble_eq_true rfl) hRl⟩) (va_recv hK hP (ci := 2) (q0 := k0) rfl h0) hKK hP hD hS hA hsz rfl rfl hw hd ⟨hc, hs⟩ (fun r1 u H locs hr hP hD hS => ?_)
    obtain rfl : r1 = nI (colK 1 M j) := hr.trans (by rw [if_pos hj]; rfl)
    exact kk _ _ hP hD hS
  · exact absurd rfl hk2
  · obtain ⟨k0, k1, am, kl, al, lf, kL, kc, kr, kb, la, ca, ra, ba9, h0, h1, ql, qf, qL, qc, qr, qb⟩ := hcw
    refine lc_Ui (b := oc) (As := [.int (nI j)]) (rest := rest) ⟨hx, hb, hml, hown, hts⟩ (c_S_columnOf l D g _ ws M 4 j hM (by decide) kl al lf kL kc kr kb la ca ra ba9 ql qf qL qc k0 oc am _ h0 hj) (kU (owner := "CheckCodes$Code") 1 hts m_405 m_398 m_400 (va_Decl.of (hts _ m_399) (hts _ m_406)) m_403 m_404 m_32 (by decide +kernel) ⟨Nat.le_trans (Nat.le_of_ble_eq_true rfl) hRf, Nat.le_trans (Nat.le_of_ble_eq_true rfl) hRl⟩) (va_recv hK hP (ci := 1) (q0 := k0) rfl h0) hKK hP hD hS hA hsz rfl rfl hw hd ⟨hc, hs⟩ (fun r1 u H locs hr hP hD hS => ?_)
    obtain rfl : r1 = nI (colK 3 M j) := hr
    exact kk _ _ hP hD hS
theorem lu_greatestRowSum {ws : va_W} {kd M oc : Nat} (hcw : CodeW g kd M oc ws) (hM : M ≤ 57) (hx : p.tables.exec = Jvm.exec) (hb : c.code = cc) (hml : c.maxLocals = nL) (hown : s.vm.findClass R_C = some m.cls) (hts : ∀ w ∈ wA, w.before args s = true) (hKK : pK D (tyl g) s) (hP : va_P D vwCl ws H) (hD : va_D A0 ws) (hS : va_S A0 H0 H locs) (hA : ∀ q, H0.size ≤ q → A0 q) (hsz : ls.size = nL) (hw : (rest.map fun v => v.category).sum ≤ 8) (hc : cells ≤ R.cells) (hs : slots ≤ R.slots) (hRf : 3 ≤ R.frames) (hRl : 69 ≤ R.locals) (hd : decode cc pc = .ok (.invokevirtual 67, 3))
    (kk : ∀ (H1 : Heap) (locs1 : List Loc), va_P D vwCl ws H1 → va_D A0 ws → va_S A0 H0 H1 locs1 → W p l e R s m args below meth c H1 locs1 cells slots Q (F0 m (pc + 3) ls (.int (nI (grsK kd M)) :: rest))) : W p l e R s m args below meth c H locs cells slots Q (F0 m pc ls (.ref oc :: rest)) := by
  have hK := hKK.1
  rcases hcw with ⟨rfl, hcw⟩ | ⟨rfl, hcw⟩ | ⟨rfl, hcw⟩ | ⟨rfl, hcw⟩
  · obtain ⟨k0, k1, am, kl, al, lf, kL, kc, kr, kb, la, ca, ra, ba9, h0, h1, ql, qf, qL, qc, qr, qb⟩ := hcw
    refine lc_Ui (b := oc) (As := []) (rest := rest) ⟨hx, hb, hml, hown, hts⟩ (c_S_greatestRowSum l D g _ ws M 1 hM (by decide) kl al lf kL kc kr kb la ca ra ba9 ql qf qL qr k0 oc am _ h0) (kU (owner := "CheckCodes$Code") 0 hts m_266 m_259 m_261 (va_Decl.of (hts _ m_260) (hts _ m_274)) m_264 m_265 m_32 (by decide +kernel) ⟨Nat.le_trans (Nat.le_of_ble_eq_true rfl) hRf, Nat.le_trans (Nat.le_of_ble_eq_true rfl) hRl⟩) (va_recv hK hP (ci := 1) (q0 := k0) rfl h0) hKK hP hD hS hA hsz rfl rfl hw hd ⟨hc, hs⟩ (fun r1 u H locs hr hP hD hS => ?_)
    obtain rfl : r1 = nI (grsK 0 M) := hr
    exact kk _ _ hP hD hS
  · obtain ⟨k0, k1, am, h0, h1⟩ := hcw
    refine lc_Ui (b := oc) (As := []) (rest := rest) ⟨hx, hb, hml, hown, hts⟩ (c_K_greatestRowSum l D g _ ws oc) (kU (owner := "CheckCodes$Code") 0 hts m_274 m_259 m_261 (va_Decl.of (hts _ m_260) (hts _ m_274)) m_263 m_260 m_31 (by decide +kernel) ⟨Nat.le_trans (Nat.le_of_ble_eq_true rfl) hRf, Nat.le_trans (Nat.le_of_ble_eq_true rfl) hRl⟩) (va_recv hK hP (ci := 2) (q0 := k0) rfl h0) hKK hP hD hS hA hsz rfl rfl hw hd ⟨hc, hs⟩ (fun r1 u H locs hr hP hD hS => ?_)
    obtain rfl : r1 = nI (grsK 1 M) := hr
    exact kk _ _ hP hD hS
  · obtain ⟨k0, k1, am, h0, h1⟩ := hcw
    refine lc_Ui (b := oc) (As := []) (rest := rest) ⟨hx, hb, hml, hown, hts⟩ (c_K_greatestRowSum l D g _ ws oc) (kU (owner := "CheckCodes$Code") 0 hts m_274 m_259 m_261 (va_Decl.of (hts _ m_260) (hts _ m_274)) m_262 m_260 m_31 (by decide +kernel) ⟨Nat.le_trans (Nat.le_of_ble_eq_true rfl) hRf, Nat.le_trans (Nat.le_of_ble_eq_true rfl) hRl⟩) (va_recv hK hP (ci := 3) (q0 := k0) rfl h0) hKK hP hD hS hA hsz rfl rfl hw hd ⟨hc, hs⟩ (fun r1 u H locs hr hP hD hS => ?_)
    obtain rfl : r1 = nI (grsK 2 M) := hr
    exact kk _ _ hP hD hS
  · obtain ⟨k0, k1, am, kl, al, lf, kL, kc, kr, kb, la, ca, ra, ba9, h0, h1, ql, qf, qL, qc, qr, qb⟩ := hcw
    refine lc_Ui (b := oc) (As := []) (rest := rest) ⟨hx, hb, hml, hown, hts⟩ (c_S_greatestRowSum l D g _ ws M 4 hM (by decide) kl al lf kL kc kr kb la ca ra ba9 ql qf qL qr k0 oc am _ h0) (kU (owner := "CheckCodes$Code") 0 hts m_266 m_259 m_261 (va_Decl.of (hts _ m_260) (hts _ m_274)) m_264 m_265 m_32 (by decide +kernel) ⟨Nat.le_trans (Nat.le_of_ble_eq_true rfl) hRf, Nat.le_trans (Nat.le_of_ble_eq_true rfl) hRl⟩) (va_recv hK hP (ci := 1) (q0 := k0) rfl h0) hKK hP hD hS hA hsz rfl rfl hw hd ⟨hc, hs⟩ (fun r1 u H locs hr hP hD hS => ?_)
    obtain rfl : r1 = nI (grsK 3 M) := hr
    exact kk _ _ hP hD hS
end LU
end
section
theorem shl_lt {x a b : Nat} (h : x < 2 ^ a) : x <<< b < 2 ^ (a + b) := by
  rw [Nat.shiftLeft_eq, Nat.pow_add]
  exact Nat.mul_lt_mul_of_pos_right h (Nat.two_pow_pos b)
theorem pow_mono {x a b : Nat} (h : x < 2 ^ a) (hab : a ≤ b) : x < 2 ^ b := Nat.lt_of_lt_of_le h (Nat.pow_le_pow_right (by decide) hab)
theorem xs_lt {f : Nat → Nat} {x b : Nat} : ∀ {n : Nat}, (∀ k, k < n → f k < 2 ^ b) → xs f x n < 2 ^ b := by
  intro n
  induction n with
  | zero => intro _; exact Nat.two_pow_pos b
  | succ n ih =>
    intro h
    have h1 := ih (fun k hk => h k (by omega))
    show xs f x n ^^^ (if x.testBit n then f n else 0) < 2 ^ b
    apply Nat.xor_lt_two_pow h1
    split
    · exact h n (by omega)
    · exact Nat.two_pow_pos b
theorem frm_mono {M n : Nat} : ∀ {i j : Nat}, i ≤ j → frm M n i ≤ frm M n j := by
  intro i j h
  induction j with
  | zero => rw [Nat.le_zero.mp h]; exact Nat.le_refl _
  | succ j ih =>
    rcases Nat.lt_or_ge i (j + 1) with q | q
    · exact Nat.le_trans (ih (by omega)) (Nat.le_add_right _ _)
    · rw [show i = j + 1 by omega]; exact Nat.le_refl _
theorem cc_lt {b j : Nat} (hb : b ≤ 57) (hj : j < b) : cc_ (lr b) j < 2 ^ lr b := (cc_in (lr_in (by omega)) (Nat.lt_of_lt_of_le hj (lr_len hb))).1
theorem mkS_lt {M n k : Nat} (hM : M ≤ 57) (hn : n = 1 ∨ n = 4) (hk : k < M) : mkS M n k < 2 ^ frm M n n := by
  unfold mkS
  have h1 := cc_lt (wid_le (i := k % n) hM hn) (wid_of hn hk)
  have h2 : k % n < n := Nat.mod_lt _ (by omega)
  have h3 : frm M n (k % n + 1) ≤ frm M n n := frm_mono h2
  have h4 : frm M n (k % n + 1) = frm M n (k % n) + lr (wid M n (k % n)) := rfl
  exact pow_mono (shl_lt h1) (by omega)
theorem mkN_lt (k : Nat) : mkN k < 2 ^ 12 := by
  unfold mkN
  have h1 : 1 <<< (k % 4) < 16 := by rcases (show k % 4 = 0 ∨ k % 4 = 1 ∨ k % 4 = 2 ∨ k % 4 = 3 by omega) with h | h | h | h <;> rw [h] <;> decide
  have h2 := rz_lt h1 (k / 4)
  have h3 := rz_lt h2 (k / 4)
  apply Nat.or_lt_two_pow
  · apply Nat.or_lt_two_pow
    · omega
    · exact pow_mono (shl_lt (a := 4) (b := 4) h2) (by decide)
  · exact shl_lt (a := 4) (b := 8) h3
theorem mkP_lt {M k : Nat} (hM : 0 < M) : mkP (min M 4) k < 2 ^ min M 4 := by
  unfold mkP
  have h : k % min M 4 < min M 4 := Nat.mod_lt _ (by omega)
  rw [Nat.one_shiftLeft]
  exact Nat.pow_lt_pow_right (by decide) h
theorem mrk_lt {kd M : Nat} (hM0 : 0 < M) (hM : M ≤ 57) : ∀ k, k < M → mrk kd M k < 2 ^ ckb kd M := by
  intro k hk
  unfold mrk ckb
  by_cases h0 : kd = 0
  · rw [if_pos h0, if_pos h0]; exact mkS_lt hM (Or.inl rfl) hk
  · rw [if_neg h0, if_neg h0]
    by_cases h1 : kd = 1
    · rw [if_pos h1, if_pos h1, if_pos hk]; exact mkP_lt hM0
    · rw [if_neg h1, if_neg h1]
      by_cases h2 : kd = 2
      · rw [if_pos h2, if_pos h2, if_pos hk]; exact mkN_lt k
      · rw [if_neg h2, if_neg h2]; exact mkS_lt hM (Or.inr rfl) hk
theorem jS_bd {M n y : Nat} (hM : M ≤ 57) (hn : n = 1 ∨ n = 4) : ∀ i, i ≤ n → ∀ q, jS M n y i = some q → q.1 ≤ 1 ∧ q.2.1 < 2 ^ 57 ∧ q.2.2 < 2 ^ 28 := by
  intro i
  induction i with
  | zero => intro _ q h; cases h; exact ⟨by decide, by decide, by decide⟩
  | succ i ih =>
    intro hi q h
    cases e : jS M n y i with
    | none => rw [jS_none e (i + 1) (by omega)] at h; cases h
    | some q0 =>
      have hb := ih (by omega) q0 e
      rw [jS_step e] at h
      unfold stS at h
      by_cases c : y >>> frm M n i % 2 ^ lr (wid M n i) = 0
      · rw [if_pos c] at h; cases h; exact hb
      · rw [if_neg c] at h
        cases e2 : ba (lr (wid M n i)) (wid M n i) (wid M n i) (y >>> frm M n i % 2 ^ lr (wid M n i)) with
        | none => rw [e2] at h; cases h
        | some b =>
          rw [e2] at h
          have hbi := ba_in e2
          have hfl := frm_le (M := M) (n := n) i
          have hl7 := lr_le (wid M n i)
          by_cases c3 : b < wid M n i
          · simp only [if_pos c3] at h
            cases h
            have hat := wid_at hn (by omega) c3
            refine ⟨Nat.le_refl 1, Nat.or_lt_two_pow hb.2.1 ?_, hb.2.2⟩
            rw [Nat.one_shiftLeft]
            exact Nat.pow_lt_pow_right (by decide) (by omega)
          · simp only [if_neg c3] at h
            cases h
            refine ⟨Nat.le_refl 1, hb.2.1, Nat.or_lt_two_pow hb.2.2 ?_⟩
            rw [Nat.one_shiftLeft]
            exact Nat.pow_lt_pow_right (by decide) (by omega)
theorem jdS_bd {M n y : Nat} (hM : M ≤ 57) (hn : n = 1 ∨ n = 4) : (jdS M n y).1 ≤ 2 ∧ (jdS M n y).2.1 < 2 ^ 62 ∧ (jdS M n y).2.2 < 2 ^ 28 := by
  unfold jdS
  cases e : jS M n y n with
  | none => exact ⟨by decide, by decide, by decide⟩
  | some q =>
    have h := jS_bd hM hn n (Nat.le_refl n) q e
    exact ⟨by show q.1 ≤ 2; omega, by show q.2.1 < _; omega, h.2.2⟩
theorem jd_bd {kd M y : Nat} (hM : M ≤ 57) (hy : y < 2 ^ ckb kd M) : (jd kd M y).1 ≤ 2 ∧ (jd kd M y).2.1 < 2 ^ 62 ∧ (jd kd M y).2.2 < 2 ^ 28 := by
  have hpw := ckb_pow kd M
  unfold jd
  by_cases h0 : kd = 0
  · rw [if_pos h0]; exact jdS_bd hM (Or.inl rfl)
  · rw [if_neg h0]
    by_cases h1 : kd = 1
    · rw [if_pos h1]; unfold jdP; split <;> exact ⟨by decide, by decide, by decide⟩
    · rw [if_neg h1]
      by_cases h2 : kd = 2
      · rw [if_pos h2]
        unfold jdN
        split
        · exact ⟨by decide, by decide, by decide⟩
        · split
          · exact ⟨by show 1 ≤ 2; decide, by show 0 < _; decide, by show y < _; omega⟩
          · split
            · exact ⟨by decide, by decide, by decide⟩
            · exact ⟨by show 1 ≤ 2; decide, wfN_lt (by omega) hM, by show 0 < _; decide⟩
      · rw [if_neg h2]; exact jdS_bd hM (Or.inr rfl)
/-- what flipping these bits of a word 0 and its check answers -/
def ans (kd M wf cf : Nat) : Nat := if (jd kd M (xs (mrk kd M) wf M ^^^ cf)).1 = 1 ∧ ¬ ((jd kd M (xs (mrk kd M) wf M ^^^ cf)).2.1 = wf ∧ (jd kd M (xs (mrk kd M) wf M ^^^ cf)).2.2 = cf) then 3 else (jd kd M (xs (mrk kd M) wf M ^^^ cf)).1
theorem syn_lt {kd M x cf : Nat} (hM0 : 0 < M) (hM : M ≤ 57) (hc : cf < 2 ^ ckb kd M) : xs (mrk kd M) x M ^^^ cf < 2 ^ ckb kd M := Nat.xor_lt_two_pow (xs_lt (mrk_lt hM0 hM)) hc
theorem ans_lt {kd M wf cf : Nat} (hM0 : 0 < M) (hM : M ≤ 57) (hc : cf < 2 ^ ckb kd M) : ans kd M wf cf < 4 := by
  have h := (jd_bd hM (syn_lt (x := wf) hM0 hM hc)).1
  unfold ans
  split <;> omega
/-- the parts of a stored one's bit -/
def wpt (M a : Nat) : Nat := if a < M then 1 <<< a else 0
def cpt (M a : Nat) : Nat := if a < M then 0 else 1 <<< (a - M)
def pairA (kd M a b : Nat) : Nat := ans kd M (wpt M a ||| wpt M b) (cpt M a ||| cpt M b)
theorem wpt_lt {M a : Nat} (hM : M ≤ 57) : wpt M a < 2 ^ 57 := by
  unfold wpt
  split
  · rw [Nat.one_shiftLeft]; exact Nat.pow_lt_pow_right (by decide) (by omega)
  · decide
theorem cpt_lt {kd M a : Nat} (ha : a < M + ckb kd M) : cpt M a < 2 ^ ckb kd M := by
  unfold cpt
  split
  · exact Nat.two_pow_pos _
  · rw [Nat.one_shiftLeft]; exact Nat.pow_lt_pow_right (by decide) (by omega)
end
