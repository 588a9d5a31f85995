set_option maxRecDepth 20000 in
theorem m_475 : Cond.constantLong R_JL 314 6148914691236517205 ∈ wA := in_wA (List.mem_of_getElem? (i := 475) rfl) rfl
set_option maxRecDepth 20000 in
theorem m_476 : Cond.constantLong R_JL 316 3689348814741910323 ∈ wA := in_wA (List.mem_of_getElem? (i := 476) rfl) rfl
set_option maxRecDepth 20000 in
theorem m_477 : Cond.constantLong R_JL 318 1085102592571150095 ∈ wA := in_wA (List.mem_of_getElem? (i := 477) rfl) rfl
set_option maxRecDepth 20000 in
theorem m_474 : Cond.code y_JL_bitCount b_JL_bitCount 2 (some .int) ∈ wA := in_wA (List.mem_of_getElem? (i := 474) rfl) rfl
set_option maxRecDepth 20000 in
theorem m_472 : Cond.methodLink R_C 124 y_JL_bitCount ∈ wA := in_wA (List.mem_of_getElem? (i := 472) rfl) rfl
set_option maxRecDepth 20000 in
theorem m_473 : Cond.static y_JL_bitCount ∈ wA := in_wA (List.mem_of_getElem? (i := 473) rfl) rfl
set_option maxRecDepth 20000 in
theorem m_47 : Cond.initialized R_JL ∈ wA := in_wA (List.mem_of_getElem? (i := 47) rfl) rfl
set_option maxRecDepth 20000 in
theorem m_478 : Cond.methodLink R_C 129 y_JI_bitCount ∈ wA := in_wA (List.mem_of_getElem? (i := 478) rfl) rfl
set_option maxRecDepth 20000 in
theorem m_494 : Cond.code y_C_answerToPair b_C_answerToPair 4 (some .int) ∈ wA := in_wA (List.mem_of_getElem? (i := 494) rfl) rfl
set_option maxRecDepth 20000 in
theorem m_491 : Cond.methodLink R_C 142 y_C_answerToPair ∈ wA := in_wA (List.mem_of_getElem? (i := 491) rfl) rfl
set_option maxRecDepth 20000 in
theorem m_493 : Cond.instanceMethod y_C_answerToPair ∈ wA := in_wA (List.mem_of_getElem? (i := 493) rfl) rfl
set_option maxRecDepth 20000 in
theorem m_3 : Cond.selects R_C y_C_answerToPair y_C_answerToPair ∈ wA := in_wA (List.mem_of_getElem? (i := 3) rfl) rfl
set_option maxRecDepth 20000 in
theorem m_529 : Cond.code y_C_addToCount b_C_addToCount 2 none ∈ wA := in_wA (List.mem_of_getElem? (i := 529) rfl) rfl
set_option maxRecDepth 20000 in
theorem m_526 : Cond.methodLink R_C 217 y_C_addToCount ∈ wA := in_wA (List.mem_of_getElem? (i := 526) rfl) rfl
set_option maxRecDepth 20000 in
theorem m_528 : Cond.instanceMethod y_C_addToCount ∈ wA := in_wA (List.mem_of_getElem? (i := 528) rfl) rfl
set_option maxRecDepth 20000 in
theorem m_8 : Cond.selects R_C y_C_addToCount y_C_addToCount ∈ wA := in_wA (List.mem_of_getElem? (i := 8) rfl) rfl
set_option maxRecDepth 20000 in
theorem m_219 : Cond.fieldLink R_C 214 R_C "answersCounted" "Z" ∈ wA := in_wA (List.mem_of_getElem? (i := 219) rfl) rfl
set_option maxRecDepth 20000 in
theorem m_525 : Cond.code y_C_countAnswers b_C_countAnswers 3 none ∈ wA := in_wA (List.mem_of_getElem? (i := 525) rfl) rfl
set_option maxRecDepth 20000 in
theorem m_522 : Cond.methodLink R_C 147 y_C_countAnswers ∈ wA := in_wA (List.mem_of_getElem? (i := 522) rfl) rfl
set_option maxRecDepth 20000 in
theorem m_524 : Cond.instanceMethod y_C_countAnswers ∈ wA := in_wA (List.mem_of_getElem? (i := 524) rfl) rfl
set_option maxRecDepth 20000 in
theorem m_7 : Cond.selects R_C y_C_countAnswers y_C_countAnswers ∈ wA := in_wA (List.mem_of_getElem? (i := 7) rfl) rfl
set_option maxRecDepth 20000 in
theorem m_584 : Cond.code y_C_greatestCommonDivisor b_C_greatestCommonDivisor 6 (some .int) ∈ wA := in_wA (List.mem_of_getElem? (i := 584) rfl) rfl
set_option maxRecDepth 20000 in
theorem m_582 : Cond.methodLink R_C 170 y_C_greatestCommonDivisor ∈ wA := in_wA (List.mem_of_getElem? (i := 582) rfl) rfl
set_option maxRecDepth 20000 in
theorem m_583 : Cond.static y_C_greatestCommonDivisor ∈ wA := in_wA (List.mem_of_getElem? (i := 583) rfl) rfl
set_option maxRecDepth 20000 in
theorem m_549 : Cond.code y_C_answerToPattern b_C_answerToPattern 6 (some .int) ∈ wA := in_wA (List.mem_of_getElem? (i := 549) rfl) rfl
set_option maxRecDepth 20000 in
theorem m_546 : Cond.methodLink R_C 223 y_C_answerToPattern ∈ wA := in_wA (List.mem_of_getElem? (i := 546) rfl) rfl
set_option maxRecDepth 20000 in
theorem m_548 : Cond.instanceMethod y_C_answerToPattern ∈ wA := in_wA (List.mem_of_getElem? (i := 548) rfl) rfl
set_option maxRecDepth 20000 in
theorem m_11 : Cond.selects R_C y_C_answerToPattern y_C_answerToPattern ∈ wA := in_wA (List.mem_of_getElem? (i := 11) rfl) rfl
set_option maxRecDepth 20000 in
theorem m_545 : Cond.code y_C_allMended b_C_allMended 5 (some .boolean) ∈ wA := in_wA (List.mem_of_getElem? (i := 545) rfl) rfl
set_option maxRecDepth 20000 in
theorem m_542 : Cond.methodLink R_C 220 y_C_allMended ∈ wA := in_wA (List.mem_of_getElem? (i := 542) rfl) rfl
set_option maxRecDepth 20000 in
theorem m_544 : Cond.instanceMethod y_C_allMended ∈ wA := in_wA (List.mem_of_getElem? (i := 544) rfl) rfl
set_option maxRecDepth 20000 in
theorem m_10 : Cond.selects R_C y_C_allMended y_C_allMended ∈ wA := in_wA (List.mem_of_getElem? (i := 10) rfl) rfl
set_option maxRecDepth 20000 in
theorem m_541 : Cond.code y_C_findLongestMendedBurst b_C_findLongestMendedBurst 2 (some .int) ∈ wA := in_wA (List.mem_of_getElem? (i := 541) rfl) rfl
set_option maxRecDepth 20000 in
theorem m_538 : Cond.methodLink R_C 152 y_C_findLongestMendedBurst ∈ wA := in_wA (List.mem_of_getElem? (i := 538) rfl) rfl
set_option maxRecDepth 20000 in
theorem m_540 : Cond.instanceMethod y_C_findLongestMendedBurst ∈ wA := in_wA (List.mem_of_getElem? (i := 540) rfl) rfl
set_option maxRecDepth 20000 in
theorem m_9 : Cond.selects R_C y_C_findLongestMendedBurst y_C_findLongestMendedBurst ∈ wA := in_wA (List.mem_of_getElem? (i := 9) rfl) rfl
abbrev w_JL_bitCount : List Cond := .code y_JL_bitCount b_JL_bitCount 2 (some .int) :: wA
abbrev rm_JL_bitCount : Room := { frames := 0, cells := 0, slots := 0, locals := 0 }
theorem d_JL_bitCount_0 : decode b_JL_bitCount 0 = .ok (.lload_n 0, 1) := by decide +kernel
theorem d_JL_bitCount_1 : decode b_JL_bitCount 1 = .ok (.lload_n 0, 1) := by decide +kernel
theorem d_JL_bitCount_2 : decode b_JL_bitCount 2 = .ok (.iconst 1, 1) := by decide +kernel
theorem d_JL_bitCount_3 : decode b_JL_bitCount 3 = .ok (.lushr, 1) := by decide +kernel
theorem d_JL_bitCount_4 : decode b_JL_bitCount 4 = .ok (.ldc2_w 314, 3) := by decide +kernel
theorem d_JL_bitCount_7 : decode b_JL_bitCount 7 = .ok (.land, 1) := by decide +kernel
theorem d_JL_bitCount_8 : decode b_JL_bitCount 8 = .ok (.lsub, 1) := by decide +kernel
theorem d_JL_bitCount_9 : decode b_JL_bitCount 9 = .ok (.lstore_n 0, 1) := by decide +kernel
theorem d_JL_bitCount_10 : decode b_JL_bitCount 10 = .ok (.lload_n 0, 1) := by decide +kernel
theorem d_JL_bitCount_11 : decode b_JL_bitCount 11 = .ok (.ldc2_w 316, 3) := by decide +kernel
theorem d_JL_bitCount_14 : decode b_JL_bitCount 14 = .ok (.land, 1) := by decide +kernel
theorem d_JL_bitCount_15 : decode b_JL_bitCount 15 = .ok (.lload_n 0, 1) := by decide +kernel
theorem d_JL_bitCount_16 : decode b_JL_bitCount 16 = .ok (.iconst 2, 1) := by decide +kernel
theorem d_JL_bitCount_17 : decode b_JL_bitCount 17 = .ok (.lushr, 1) := by decide +kernel
theorem d_JL_bitCount_18 : decode b_JL_bitCount 18 = .ok (.ldc2_w 316, 3) := by decide +kernel
theorem d_JL_bitCount_21 : decode b_JL_bitCount 21 = .ok (.land, 1) := by decide +kernel
theorem d_JL_bitCount_22 : decode b_JL_bitCount 22 = .ok (.ladd, 1) := by decide +kernel
theorem d_JL_bitCount_23 : decode b_JL_bitCount 23 = .ok (.lstore_n 0, 1) := by decide +kernel
theorem d_JL_bitCount_24 : decode b_JL_bitCount 24 = .ok (.lload_n 0, 1) := by decide +kernel
theorem d_JL_bitCount_25 : decode b_JL_bitCount 25 = .ok (.lload_n 0, 1) := by decide +kernel
theorem d_JL_bitCount_26 : decode b_JL_bitCount 26 = .ok (.iconst 4, 1) := by decide +kernel
theorem d_JL_bitCount_27 : decode b_JL_bitCount 27 = .ok (.lushr, 1) := by decide +kernel
theorem d_JL_bitCount_28 : decode b_JL_bitCount 28 = .ok (.ladd, 1) := by decide +kernel
theorem d_JL_bitCount_29 : decode b_JL_bitCount 29 = .ok (.ldc2_w 318, 3) := by decide +kernel
theorem d_JL_bitCount_32 : decode b_JL_bitCount 32 = .ok (.land, 1) := by decide +kernel
theorem d_JL_bitCount_33 : decode b_JL_bitCount 33 = .ok (.lstore_n 0, 1) := by decide +kernel
theorem d_JL_bitCount_34 : decode b_JL_bitCount 34 = .ok (.lload_n 0, 1) := by decide +kernel
theorem d_JL_bitCount_35 : decode b_JL_bitCount 35 = .ok (.lload_n 0, 1) := by decide +kernel
theorem d_JL_bitCount_36 : decode b_JL_bitCount 36 = .ok (.bipush 8, 2) := by decide +kernel
theorem d_JL_bitCount_38 : decode b_JL_bitCount 38 = .ok (.lushr, 1) := by decide +kernel
theorem d_JL_bitCount_39 : decode b_JL_bitCount 39 = .ok (.ladd, 1) := by decide +kernel
theorem d_JL_bitCount_40 : decode b_JL_bitCount 40 = .ok (.lstore_n 0, 1) := by decide +kernel
theorem d_JL_bitCount_41 : decode b_JL_bitCount 41 = .ok (.lload_n 0, 1) := by decide +kernel
theorem d_JL_bitCount_42 : decode b_JL_bitCount 42 = .ok (.lload_n 0, 1) := by decide +kernel
theorem d_JL_bitCount_43 : decode b_JL_bitCount 43 = .ok (.bipush 16, 2) := by decide +kernel
theorem d_JL_bitCount_45 : decode b_JL_bitCount 45 = .ok (.lushr, 1) := by decide +kernel
theorem d_JL_bitCount_46 : decode b_JL_bitCount 46 = .ok (.ladd, 1) := by decide +kernel
theorem d_JL_bitCount_47 : decode b_JL_bitCount 47 = .ok (.lstore_n 0, 1) := by decide +kernel
theorem d_JL_bitCount_48 : decode b_JL_bitCount 48 = .ok (.lload_n 0, 1) := by decide +kernel
theorem d_JL_bitCount_49 : decode b_JL_bitCount 49 = .ok (.lload_n 0, 1) := by decide +kernel
theorem d_JL_bitCount_50 : decode b_JL_bitCount 50 = .ok (.bipush 32, 2) := by decide +kernel
theorem d_JL_bitCount_52 : decode b_JL_bitCount 52 = .ok (.lushr, 1) := by decide +kernel
theorem d_JL_bitCount_53 : decode b_JL_bitCount 53 = .ok (.ladd, 1) := by decide +kernel
theorem d_JL_bitCount_54 : decode b_JL_bitCount 54 = .ok (.lstore_n 0, 1) := by decide +kernel
theorem d_JL_bitCount_55 : decode b_JL_bitCount 55 = .ok (.lload_n 0, 1) := by decide +kernel
theorem d_JL_bitCount_56 : decode b_JL_bitCount 56 = .ok (.l2i, 1) := by decide +kernel
theorem d_JL_bitCount_57 : decode b_JL_bitCount 57 = .ok (.bipush 127, 2) := by decide +kernel
theorem d_JL_bitCount_59 : decode b_JL_bitCount 59 = .ok (.iand, 1) := by decide +kernel
theorem d_JL_bitCount_60 : decode b_JL_bitCount 60 = .ok (.ireturn, 1) := by decide +kernel
abbrev w_C_answerToPattern : List Cond := .code y_C_answerToPattern b_C_answerToPattern 6 (some .int) :: wA
abbrev rm_C_answerToPattern : Room := { frames := 4, cells := 0, slots := 0, locals := 100 }
theorem d_C_answerToPattern_0 : decode b_C_answerToPattern 0 = .ok (.iload_n 2, 1) := by decide +kernel
theorem d_C_answerToPattern_1 : decode b_C_answerToPattern 1 = .ok (.aload_n 0, 1) := by decide +kernel
theorem d_C_answerToPattern_2 : decode b_C_answerToPattern 2 = .ok (.getfield 17, 3) := by decide +kernel
theorem d_C_answerToPattern_5 : decode b_C_answerToPattern 5 = .ok (.if_icmp .lt 20, 3) := by decide +kernel
theorem d_C_answerToPattern_8 : decode b_C_answerToPattern 8 = .ok (.iload_n 1, 1) := by decide +kernel
theorem d_C_answerToPattern_9 : decode b_C_answerToPattern 9 = .ok (.iload_n 2, 1) := by decide +kernel
theorem d_C_answerToPattern_10 : decode b_C_answerToPattern 10 = .ok (.aload_n 0, 1) := by decide +kernel
theorem d_C_answerToPattern_11 : decode b_C_answerToPattern 11 = .ok (.getfield 17, 3) := by decide +kernel
theorem d_C_answerToPattern_14 : decode b_C_answerToPattern 14 = .ok (.isub, 1) := by decide +kernel
theorem d_C_answerToPattern_15 : decode b_C_answerToPattern 15 = .ok (.ishl, 1) := by decide +kernel
theorem d_C_answerToPattern_16 : decode b_C_answerToPattern 16 = .ok (.istore_n 3, 1) := by decide +kernel
theorem d_C_answerToPattern_17 : decode b_C_answerToPattern 17 = .ok (.aload_n 0, 1) := by decide +kernel
theorem d_C_answerToPattern_18 : decode b_C_answerToPattern 18 = .ok (.iload_n 3, 1) := by decide +kernel
theorem d_C_answerToPattern_19 : decode b_C_answerToPattern 19 = .ok (.lconst 0, 1) := by decide +kernel
theorem d_C_answerToPattern_20 : decode b_C_answerToPattern 20 = .ok (.iload_n 3, 1) := by decide +kernel
theorem d_C_answerToPattern_21 : decode b_C_answerToPattern 21 = .ok (.invokevirtual 210, 3) := by decide +kernel
theorem d_C_answerToPattern_24 : decode b_C_answerToPattern 24 = .ok (.ireturn, 1) := by decide +kernel
theorem d_C_answerToPattern_25 : decode b_C_answerToPattern 25 = .ok (.iload_n 1, 1) := by decide +kernel
theorem d_C_answerToPattern_26 : decode b_C_answerToPattern 26 = .ok (.i2l, 1) := by decide +kernel
theorem d_C_answerToPattern_27 : decode b_C_answerToPattern 27 = .ok (.iload_n 2, 1) := by decide +kernel
theorem d_C_answerToPattern_28 : decode b_C_answerToPattern 28 = .ok (.lshl, 1) := by decide +kernel
theorem d_C_answerToPattern_29 : decode b_C_answerToPattern 29 = .ok (.lstore_n 3, 1) := by decide +kernel
theorem d_C_answerToPattern_30 : decode b_C_answerToPattern 30 = .ok (.lload_n 3, 1) := by decide +kernel
theorem d_C_answerToPattern_31 : decode b_C_answerToPattern 31 = .ok (.aload_n 0, 1) := by decide +kernel
theorem d_C_answerToPattern_32 : decode b_C_answerToPattern 32 = .ok (.getfield 17, 3) := by decide +kernel
theorem d_C_answerToPattern_35 : decode b_C_answerToPattern 35 = .ok (.lushr, 1) := by decide +kernel
theorem d_C_answerToPattern_36 : decode b_C_answerToPattern 36 = .ok (.l2i, 1) := by decide +kernel
theorem d_C_answerToPattern_37 : decode b_C_answerToPattern 37 = .ok (.istore 5, 2) := by decide +kernel
theorem d_C_answerToPattern_39 : decode b_C_answerToPattern 39 = .ok (.aload_n 0, 1) := by decide +kernel
theorem d_C_answerToPattern_40 : decode b_C_answerToPattern 40 = .ok (.aload_n 0, 1) := by decide +kernel
theorem d_C_answerToPattern_41 : decode b_C_answerToPattern 41 = .ok (.getfield 31, 3) := by decide +kernel
theorem d_C_answerToPattern_44 : decode b_C_answerToPattern 44 = .ok (.lload_n 3, 1) := by decide +kernel
theorem d_C_answerToPattern_45 : decode b_C_answerToPattern 45 = .ok (.invokevirtual 99, 3) := by decide +kernel
theorem d_C_answerToPattern_48 : decode b_C_answerToPattern 48 = .ok (.iload 5, 2) := by decide +kernel
theorem d_C_answerToPattern_50 : decode b_C_answerToPattern 50 = .ok (.ixor, 1) := by decide +kernel
theorem d_C_answerToPattern_51 : decode b_C_answerToPattern 51 = .ok (.lload_n 3, 1) := by decide +kernel
theorem d_C_answerToPattern_52 : decode b_C_answerToPattern 52 = .ok (.aload_n 0, 1) := by decide +kernel
theorem d_C_answerToPattern_53 : decode b_C_answerToPattern 53 = .ok (.getfield 43, 3) := by decide +kernel
theorem d_C_answerToPattern_56 : decode b_C_answerToPattern 56 = .ok (.land, 1) := by decide +kernel
theorem d_C_answerToPattern_57 : decode b_C_answerToPattern 57 = .ok (.iload 5, 2) := by decide +kernel
theorem d_C_answerToPattern_59 : decode b_C_answerToPattern 59 = .ok (.invokevirtual 210, 3) := by decide +kernel
theorem d_C_answerToPattern_62 : decode b_C_answerToPattern 62 = .ok (.ireturn, 1) := by decide +kernel
abbrev w_C_addToCount : List Cond := .code y_C_addToCount b_C_addToCount 2 none :: wA
abbrev rm_C_addToCount : Room := { frames := 0, cells := 0, slots := 0, locals := 0 }
theorem d_C_addToCount_0 : decode b_C_addToCount 0 = .ok (.iload_n 1, 1) := by decide +kernel
theorem d_C_addToCount_1 : decode b_C_addToCount 1 = .ok (.ifCond .lt 22, 3) := by decide +kernel
theorem d_C_addToCount_4 : decode b_C_addToCount 4 = .ok (.iload_n 1, 1) := by decide +kernel
theorem d_C_addToCount_5 : decode b_C_addToCount 5 = .ok (.aload_n 0, 1) := by decide +kernel
theorem d_C_addToCount_6 : decode b_C_addToCount 6 = .ok (.getfield 57, 3) := by decide +kernel
theorem d_C_addToCount_9 : decode b_C_addToCount 9 = .ok (.arraylength, 1) := by decide +kernel
theorem d_C_addToCount_10 : decode b_C_addToCount 10 = .ok (.if_icmp .ge 13, 3) := by decide +kernel
theorem d_C_addToCount_13 : decode b_C_addToCount 13 = .ok (.aload_n 0, 1) := by decide +kernel
theorem d_C_addToCount_14 : decode b_C_addToCount 14 = .ok (.getfield 57, 3) := by decide +kernel
theorem d_C_addToCount_17 : decode b_C_addToCount 17 = .ok (.iload_n 1, 1) := by decide +kernel
theorem d_C_addToCount_18 : decode b_C_addToCount 18 = .ok (.dup2, 1) := by decide +kernel
theorem d_C_addToCount_19 : decode b_C_addToCount 19 = .ok (.iaload, 1) := by decide +kernel
theorem d_C_addToCount_20 : decode b_C_addToCount 20 = .ok (.iconst 1, 1) := by decide +kernel
theorem d_C_addToCount_21 : decode b_C_addToCount 21 = .ok (.iadd, 1) := by decide +kernel
theorem d_C_addToCount_22 : decode b_C_addToCount 22 = .ok (.iastore, 1) := by decide +kernel
theorem d_C_addToCount_23 : decode b_C_addToCount 23 = .ok (.return_, 1) := by decide +kernel
abbrev w_C_countAnswers : List Cond := .code y_C_countAnswers b_C_countAnswers 3 none :: wA
abbrev rm_C_countAnswers : Room := { frames := 5, cells := 0, slots := 0, locals := 123 }
theorem d_C_countAnswers_0 : decode b_C_countAnswers 0 = .ok (.aload_n 0, 1) := by decide +kernel
theorem d_C_countAnswers_1 : decode b_C_countAnswers 1 = .ok (.getfield 214, 3) := by decide +kernel
theorem d_C_countAnswers_4 : decode b_C_countAnswers 4 = .ok (.ifCond .eq 4, 3) := by decide +kernel
theorem d_C_countAnswers_7 : decode b_C_countAnswers 7 = .ok (.return_, 1) := by decide +kernel
theorem d_C_countAnswers_8 : decode b_C_countAnswers 8 = .ok (.aload_n 0, 1) := by decide +kernel
theorem d_C_countAnswers_9 : decode b_C_countAnswers 9 = .ok (.iconst 1, 1) := by decide +kernel
theorem d_C_countAnswers_10 : decode b_C_countAnswers 10 = .ok (.putfield 214, 3) := by decide +kernel
theorem d_C_countAnswers_13 : decode b_C_countAnswers 13 = .ok (.iconst 0, 1) := by decide +kernel
theorem d_C_countAnswers_14 : decode b_C_countAnswers 14 = .ok (.istore_n 1, 1) := by decide +kernel
theorem d_C_countAnswers_15 : decode b_C_countAnswers 15 = .ok (.iload_n 1, 1) := by decide +kernel
theorem d_C_countAnswers_16 : decode b_C_countAnswers 16 = .ok (.aload_n 0, 1) := by decide +kernel
theorem d_C_countAnswers_17 : decode b_C_countAnswers 17 = .ok (.getfield 40, 3) := by decide +kernel
theorem d_C_countAnswers_20 : decode b_C_countAnswers 20 = .ok (.if_icmp .ge 49, 3) := by decide +kernel
theorem d_C_countAnswers_23 : decode b_C_countAnswers 23 = .ok (.aload_n 0, 1) := by decide +kernel
theorem d_C_countAnswers_24 : decode b_C_countAnswers 24 = .ok (.aload_n 0, 1) := by decide +kernel
theorem d_C_countAnswers_25 : decode b_C_countAnswers 25 = .ok (.iload_n 1, 1) := by decide +kernel
theorem d_C_countAnswers_26 : decode b_C_countAnswers 26 = .ok (.iload_n 1, 1) := by decide +kernel
theorem d_C_countAnswers_27 : decode b_C_countAnswers 27 = .ok (.invokevirtual 142, 3) := by decide +kernel
theorem d_C_countAnswers_30 : decode b_C_countAnswers 30 = .ok (.invokevirtual 217, 3) := by decide +kernel
theorem d_C_countAnswers_33 : decode b_C_countAnswers 33 = .ok (.iload_n 1, 1) := by decide +kernel
theorem d_C_countAnswers_34 : decode b_C_countAnswers 34 = .ok (.iconst 1, 1) := by decide +kernel
theorem d_C_countAnswers_35 : decode b_C_countAnswers 35 = .ok (.iadd, 1) := by decide +kernel
theorem d_C_countAnswers_36 : decode b_C_countAnswers 36 = .ok (.istore_n 2, 1) := by decide +kernel
theorem d_C_countAnswers_37 : decode b_C_countAnswers 37 = .ok (.iload_n 2, 1) := by decide +kernel
theorem d_C_countAnswers_38 : decode b_C_countAnswers 38 = .ok (.aload_n 0, 1) := by decide +kernel
theorem d_C_countAnswers_39 : decode b_C_countAnswers 39 = .ok (.getfield 40, 3) := by decide +kernel
theorem d_C_countAnswers_42 : decode b_C_countAnswers 42 = .ok (.if_icmp .ge 21, 3) := by decide +kernel
theorem d_C_countAnswers_45 : decode b_C_countAnswers 45 = .ok (.aload_n 0, 1) := by decide +kernel
theorem d_C_countAnswers_46 : decode b_C_countAnswers 46 = .ok (.iconst 4, 1) := by decide +kernel
theorem d_C_countAnswers_47 : decode b_C_countAnswers 47 = .ok (.aload_n 0, 1) := by decide +kernel
theorem d_C_countAnswers_48 : decode b_C_countAnswers 48 = .ok (.iload_n 1, 1) := by decide +kernel
theorem d_C_countAnswers_49 : decode b_C_countAnswers 49 = .ok (.iload_n 2, 1) := by decide +kernel
theorem d_C_countAnswers_50 : decode b_C_countAnswers 50 = .ok (.invokevirtual 142, 3) := by decide +kernel
theorem d_C_countAnswers_53 : decode b_C_countAnswers 53 = .ok (.iadd, 1) := by decide +kernel
theorem d_C_countAnswers_54 : decode b_C_countAnswers 54 = .ok (.invokevirtual 217, 3) := by decide +kernel
theorem d_C_countAnswers_57 : decode b_C_countAnswers 57 = .ok (.iinc 2 1, 3) := by decide +kernel
theorem d_C_countAnswers_60 : decode b_C_countAnswers 60 = .ok (.goto (-23), 3) := by decide +kernel
theorem d_C_countAnswers_63 : decode b_C_countAnswers 63 = .ok (.iinc 1 1, 3) := by decide +kernel
theorem d_C_countAnswers_66 : decode b_C_countAnswers 66 = .ok (.goto (-51), 3) := by decide +kernel
theorem d_C_countAnswers_69 : decode b_C_countAnswers 69 = .ok (.return_, 1) := by decide +kernel
abbrev w_C_greatestCommonDivisor : List Cond := .code y_C_greatestCommonDivisor b_C_greatestCommonDivisor 6 (some .int) :: wA
abbrev rm_C_greatestCommonDivisor : Room := { frames := 0, cells := 0, slots := 0, locals := 0 }
theorem d_C_greatestCommonDivisor_0 : decode b_C_greatestCommonDivisor 0 = .ok (.iload_n 0, 1) := by decide +kernel
theorem d_C_greatestCommonDivisor_1 : decode b_C_greatestCommonDivisor 1 = .ok (.istore_n 2, 1) := by decide +kernel
theorem d_C_greatestCommonDivisor_2 : decode b_C_greatestCommonDivisor 2 = .ok (.iload_n 1, 1) := by decide +kernel
theorem d_C_greatestCommonDivisor_3 : decode b_C_greatestCommonDivisor 3 = .ok (.istore_n 3, 1) := by decide +kernel
theorem d_C_greatestCommonDivisor_4 : decode b_C_greatestCommonDivisor 4 = .ok (.iconst 0, 1) := by decide +kernel
theorem d_C_greatestCommonDivisor_5 : decode b_C_greatestCommonDivisor 5 = .ok (.istore 4, 2) := by decide +kernel
theorem d_C_greatestCommonDivisor_7 : decode b_C_greatestCommonDivisor 7 = .ok (.iload 4, 2) := by decide +kernel
theorem d_C_greatestCommonDivisor_9 : decode b_C_greatestCommonDivisor 9 = .ok (.bipush 64, 2) := by decide +kernel
theorem d_C_greatestCommonDivisor_11 : decode b_C_greatestCommonDivisor 11 = .ok (.if_icmp .ge 23, 3) := by decide +kernel
theorem d_C_greatestCommonDivisor_14 : decode b_C_greatestCommonDivisor 14 = .ok (.iload_n 3, 1) := by decide +kernel
theorem d_C_greatestCommonDivisor_15 : decode b_C_greatestCommonDivisor 15 = .ok (.ifCond .eq 19, 3) := by decide +kernel
theorem d_C_greatestCommonDivisor_18 : decode b_C_greatestCommonDivisor 18 = .ok (.iload_n 2, 1) := by decide +kernel
theorem d_C_greatestCommonDivisor_19 : decode b_C_greatestCommonDivisor 19 = .ok (.iload_n 3, 1) := by decide +kernel
theorem d_C_greatestCommonDivisor_20 : decode b_C_greatestCommonDivisor 20 = .ok (.irem, 1) := by decide +kernel
theorem d_C_greatestCommonDivisor_21 : decode b_C_greatestCommonDivisor 21 = .ok (.istore 5, 2) := by decide +kernel
theorem d_C_greatestCommonDivisor_23 : decode b_C_greatestCommonDivisor 23 = .ok (.iload_n 3, 1) := by decide +kernel
theorem d_C_greatestCommonDivisor_24 : decode b_C_greatestCommonDivisor 24 = .ok (.istore_n 2, 1) := by decide +kernel
theorem d_C_greatestCommonDivisor_25 : decode b_C_greatestCommonDivisor 25 = .ok (.iload 5, 2) := by decide +kernel
theorem d_C_greatestCommonDivisor_27 : decode b_C_greatestCommonDivisor 27 = .ok (.istore_n 3, 1) := by decide +kernel
theorem d_C_greatestCommonDivisor_28 : decode b_C_greatestCommonDivisor 28 = .ok (.iinc 4 1, 3) := by decide +kernel
theorem d_C_greatestCommonDivisor_31 : decode b_C_greatestCommonDivisor 31 = .ok (.goto (-24), 3) := by decide +kernel
theorem d_C_greatestCommonDivisor_34 : decode b_C_greatestCommonDivisor 34 = .ok (.iload_n 2, 1) := by decide +kernel
theorem d_C_greatestCommonDivisor_35 : decode b_C_greatestCommonDivisor 35 = .ok (.ireturn, 1) := by decide +kernel
abbrev w_C_allMended : List Cond := .code y_C_allMended b_C_allMended 5 (some .boolean) :: wA
abbrev rm_C_allMended : Room := { frames := 5, cells := 0, slots := 0, locals := 125 }
theorem d_C_allMended_0 : decode b_C_allMended 0 = .ok (.iconst 1, 1) := by decide +kernel
theorem d_C_allMended_1 : decode b_C_allMended 1 = .ok (.iload_n 1, 1) := by decide +kernel
theorem d_C_allMended_2 : decode b_C_allMended 2 = .ok (.iconst 1, 1) := by decide +kernel
theorem d_C_allMended_3 : decode b_C_allMended 3 = .ok (.isub, 1) := by decide +kernel
theorem d_C_allMended_4 : decode b_C_allMended 4 = .ok (.ishl, 1) := by decide +kernel
theorem d_C_allMended_5 : decode b_C_allMended 5 = .ok (.istore_n 2, 1) := by decide +kernel
theorem d_C_allMended_6 : decode b_C_allMended 6 = .ok (.iconst 0, 1) := by decide +kernel
theorem d_C_allMended_7 : decode b_C_allMended 7 = .ok (.istore_n 3, 1) := by decide +kernel
theorem d_C_allMended_8 : decode b_C_allMended 8 = .ok (.iload_n 3, 1) := by decide +kernel
theorem d_C_allMended_9 : decode b_C_allMended 9 = .ok (.iload_n 1, 1) := by decide +kernel
theorem d_C_allMended_10 : decode b_C_allMended 10 = .ok (.iadd, 1) := by decide +kernel
theorem d_C_allMended_11 : decode b_C_allMended 11 = .ok (.aload_n 0, 1) := by decide +kernel
theorem d_C_allMended_12 : decode b_C_allMended 12 = .ok (.getfield 40, 3) := by decide +kernel
theorem d_C_allMended_15 : decode b_C_allMended 15 = .ok (.if_icmp .gt 41, 3) := by decide +kernel
theorem d_C_allMended_18 : decode b_C_allMended 18 = .ok (.iload_n 2, 1) := by decide +kernel
theorem d_C_allMended_19 : decode b_C_allMended 19 = .ok (.iconst 1, 1) := by decide +kernel
theorem d_C_allMended_20 : decode b_C_allMended 20 = .ok (.ior, 1) := by decide +kernel
theorem d_C_allMended_21 : decode b_C_allMended 21 = .ok (.istore 4, 2) := by decide +kernel
theorem d_C_allMended_23 : decode b_C_allMended 23 = .ok (.iload 4, 2) := by decide +kernel
theorem d_C_allMended_25 : decode b_C_allMended 25 = .ok (.iconst 2, 1) := by decide +kernel
theorem d_C_allMended_26 : decode b_C_allMended 26 = .ok (.iload_n 2, 1) := by decide +kernel
theorem d_C_allMended_27 : decode b_C_allMended 27 = .ok (.imul, 1) := by decide +kernel
theorem d_C_allMended_28 : decode b_C_allMended 28 = .ok (.if_icmp .ge 22, 3) := by decide +kernel
theorem d_C_allMended_31 : decode b_C_allMended 31 = .ok (.aload_n 0, 1) := by decide +kernel
theorem d_C_allMended_32 : decode b_C_allMended 32 = .ok (.iload 4, 2) := by decide +kernel
theorem d_C_allMended_34 : decode b_C_allMended 34 = .ok (.iload_n 3, 1) := by decide +kernel
theorem d_C_allMended_35 : decode b_C_allMended 35 = .ok (.invokevirtual 223, 3) := by decide +kernel
theorem d_C_allMended_38 : decode b_C_allMended 38 = .ok (.iconst 1, 1) := by decide +kernel
theorem d_C_allMended_39 : decode b_C_allMended 39 = .ok (.if_icmp .eq 5, 3) := by decide +kernel
theorem d_C_allMended_42 : decode b_C_allMended 42 = .ok (.iconst 0, 1) := by decide +kernel
theorem d_C_allMended_43 : decode b_C_allMended 43 = .ok (.ireturn, 1) := by decide +kernel
theorem d_C_allMended_44 : decode b_C_allMended 44 = .ok (.iinc 4 2, 3) := by decide +kernel
theorem d_C_allMended_47 : decode b_C_allMended 47 = .ok (.goto (-24), 3) := by decide +kernel
theorem d_C_allMended_50 : decode b_C_allMended 50 = .ok (.iinc 3 1, 3) := by decide +kernel
theorem d_C_allMended_53 : decode b_C_allMended 53 = .ok (.goto (-45), 3) := by decide +kernel
theorem d_C_allMended_56 : decode b_C_allMended 56 = .ok (.iconst 1, 1) := by decide +kernel
theorem d_C_allMended_57 : decode b_C_allMended 57 = .ok (.ireturn, 1) := by decide +kernel
abbrev w_C_findLongestMendedBurst : List Cond := .code y_C_findLongestMendedBurst b_C_findLongestMendedBurst 2 (some .int) :: wA
abbrev rm_C_findLongestMendedBurst : Room := { frames := 6, cells := 0, slots := 0, locals := 149 }
theorem d_C_findLongestMendedBurst_0 : decode b_C_findLongestMendedBurst 0 = .ok (.iconst 1, 1) := by decide +kernel
theorem d_C_findLongestMendedBurst_1 : decode b_C_findLongestMendedBurst 1 = .ok (.istore_n 1, 1) := by decide +kernel
theorem d_C_findLongestMendedBurst_2 : decode b_C_findLongestMendedBurst 2 = .ok (.iload_n 1, 1) := by decide +kernel
theorem d_C_findLongestMendedBurst_3 : decode b_C_findLongestMendedBurst 3 = .ok (.bipush 6, 2) := by decide +kernel
theorem d_C_findLongestMendedBurst_5 : decode b_C_findLongestMendedBurst 5 = .ok (.if_icmp .gt 21, 3) := by decide +kernel
theorem d_C_findLongestMendedBurst_8 : decode b_C_findLongestMendedBurst 8 = .ok (.aload_n 0, 1) := by decide +kernel
theorem d_C_findLongestMendedBurst_9 : decode b_C_findLongestMendedBurst 9 = .ok (.iload_n 1, 1) := by decide +kernel
theorem d_C_findLongestMendedBurst_10 : decode b_C_findLongestMendedBurst 10 = .ok (.invokevirtual 220, 3) := by decide +kernel
theorem d_C_findLongestMendedBurst_13 : decode b_C_findLongestMendedBurst 13 = .ok (.ifCond .ne 7, 3) := by decide +kernel
theorem d_C_findLongestMendedBurst_16 : decode b_C_findLongestMendedBurst 16 = .ok (.iload_n 1, 1) := by decide +kernel
theorem d_C_findLongestMendedBurst_17 : decode b_C_findLongestMendedBurst 17 = .ok (.iconst 1, 1) := by decide +kernel
theorem d_C_findLongestMendedBurst_18 : decode b_C_findLongestMendedBurst 18 = .ok (.isub, 1) := by decide +kernel
theorem d_C_findLongestMendedBurst_19 : decode b_C_findLongestMendedBurst 19 = .ok (.ireturn, 1) := by decide +kernel
theorem d_C_findLongestMendedBurst_20 : decode b_C_findLongestMendedBurst 20 = .ok (.iinc 1 1, 3) := by decide +kernel
theorem d_C_findLongestMendedBurst_23 : decode b_C_findLongestMendedBurst 23 = .ok (.goto (-21), 3) := by decide +kernel
theorem d_C_findLongestMendedBurst_26 : decode b_C_findLongestMendedBurst 26 = .ok (.bipush 6, 2) := by decide +kernel
theorem d_C_findLongestMendedBurst_28 : decode b_C_findLongestMendedBurst 28 = .ok (.ireturn, 1) := by decide +kernel
set_option maxHeartbeats 4000000 in
set_option maxRecDepth 100000 in
theorem c_JL_bitCount (l : Launch) (D : va_G) (g : Nat → ClassId) (sz : Nat) (ws : va_W) (a : Nat) (ha : a < 2 ^ 64) : Met l y_JL_bitCount w_JL_bitCount rm_JL_bitCount (va_Pc [.long (lN a)] (pP D (tyl g) (ws) sz)) (va_Qi (fun (r : Int32) (u : Unit) => r = nI (pcn 64 a)) (fun u => qB D (va_A (ws) sz) (ws)) (va_A (ws) sz)) 0 0 (va_A (ws) sz) := by
  refine va_MetF (cc := b_JL_bitCount) (maxL := 2) (ret := (some .int)) (by decide +kernel) rfl ?_
  intro p e s m args below meth c s₁ Bq hml hv
  have hx := Bq.exec
  have hb := Bq.bytes
  have hr := Bq.returns
  have hts : ∀ w ∈ wA, w.before args s = true := fun w h => atoms_spec (ws := w_JL_bitCount) Bq.pre w (List.mem_cons_of_mem _ h)
  have hown : s.vm.findClass R_JL = some m.cls := findClass_of_methodNamed Bq.named
  have hlocks := Bq.notSynchronized
  obtain ⟨rfl, hsz, hP, hKK, hD0⟩ := hv
  have hK := hKK.1
  subst hsz
  have hD := hD0.self (sz := s.heap.size)
  generalize hAe : va_A (ws) s.heap.size = A at hD ⊢
  have hA : ∀ q : Nat, s.heap.size ≤ q → A q := fun q h => by rw [← hAe]; exact Or.inr h
  have hS : va_S A s.heap s.heap [] := va_S.rf
  have hl := lv_entry ([.long (lN a)]) (n := 2) (Nat.le_of_ble_eq_true rfl)
  rw [lg_entry_eq]
  generalize (lg_sl ([.long (lN a)]) ++ List.replicate (2 - (lg_sl ([.long (lN a)])).length) Slot.unset).toArray = ls at hl ⊢
  have hl : lv_has ls 2 [(0, .long (lN a))] := hl
  generalize hQ : MQ below (va_Qi (fun (r : Int32) (u : Unit) => r = nI (pcn 64 a)) (fun u => qB D (A) (ws)) (A)) [.long (lN a)].toArray s 0 0 A = Q
  have b1 := bl1_lt ha
  have b2 := bl2_lt a
  have b3 := bl3_lt a
  have b4 := bl4_lt a
  have b5 := bl5_lt a
  refine lv_lload_n hx hb d_JL_bitCount_0 rfl (lv_at hl 0 rfl) ?_
  refine lv_lload_n hx hb d_JL_bitCount_1 rfl (lv_at hl 0 rfl) ?_
  refine lv_iconst (v := nI 1) hx hb d_JL_bitCount_2 (by decide) ?_
  refine lv_lushr (v := lN (a >>> 1)) hx hb d_JL_bitCount_3 (xl_ushr ha (by decide)) ?_
  refine lv_ldc2 (v := 6148914691236517205) hx hb hown (hts _ m_475) d_JL_bitCount_4 ?_
  refine lv_topl (fun y1 ey1 => ?_)
  obtain rfl : y1 = lN 6148914691236517205 := ey1.trans (by decide)
  refine lx_land (z := lN ((a >>> 1) &&& 6148914691236517205)) hx hb d_JL_bitCount_7 (xl_and (a >>> 1) 6148914691236517205) ?_
  refine lx_lsub (z := lN (bl1 a)) hx hb d_JL_bitCount_8 (lN_sub (bl1_le a)) ?_
  refine lv_lstore_n (lv' := [(0, .long (lN (bl1 a)))]) hx hb d_JL_bitCount_9 rfl hl (by decide) rfl (fun ls hl => ?_)
  refine lv_lload_n hx hb d_JL_bitCount_10 rfl (lv_at hl 0 rfl) ?_
  refine lv_ldc2 (v := 3689348814741910323) hx hb hown (hts _ m_476) d_JL_bitCount_11 ?_
  refine lv_topl (fun y2 ey2 => ?_)
  obtain rfl : y2 = lN 3689348814741910323 := ey2.trans (by decide)
  refine lx_land (z := lN ((bl1 a) &&& 3689348814741910323)) hx hb d_JL_bitCount_14 (xl_and (bl1 a) 3689348814741910323) ?_
  refine lv_lload_n hx hb d_JL_bitCount_15 rfl (lv_at hl 0 rfl) ?_
  refine lv_iconst (v := nI 2) hx hb d_JL_bitCount_16 (by decide) ?_
  refine lv_lushr (v := lN (bl1 a >>> 2)) hx hb d_JL_bitCount_17 (xl_ushr b1 (by decide)) ?_
  refine lv_ldc2 (v := 3689348814741910323) hx hb hown (hts _ m_476) d_JL_bitCount_18 ?_
  refine lv_topl (fun y3 ey3 => ?_)
  obtain rfl : y3 = lN 3689348814741910323 := ey3.trans (by decide)
  refine lx_land (z := lN ((bl1 a >>> 2) &&& 3689348814741910323)) hx hb d_JL_bitCount_21 (xl_and (bl1 a >>> 2) 3689348814741910323) ?_
  refine lx_ladd (z := lN (bl2 a)) hx hb d_JL_bitCount_22 (lN_add _ _) ?_
  refine lv_lstore_n (lv' := [(0, .long (lN (bl2 a)))]) hx hb d_JL_bitCount_23 rfl hl (by decide) rfl (fun ls hl => ?_)
  refine lv_lload_n hx hb d_JL_bitCount_24 rfl (lv_at hl 0 rfl) ?_
  refine lv_lload_n hx hb d_JL_bitCount_25 rfl (lv_at hl 0 rfl) ?_
  refine lv_iconst (v := nI 4) hx hb d_JL_bitCount_26 (by decide) ?_
  refine lv_lushr (v := lN (bl2 a >>> 4)) hx hb d_JL_bitCount_27 (xl_ushr (by omega) (by decide)) ?_
  refine lx_ladd (z := lN (bl2 a + (bl2 a >>> 4))) hx hb d_JL_bitCount_28 (lN_add (bl2 a) (bl2 a >>> 4)) ?_
  refine lv_ldc2 (v := 1085102592571150095) hx hb hown (hts _ m_477) d_JL_bitCount_29 ?_
  refine lv_topl (fun y4 ey4 => ?_)
  obtain rfl : y4 = lN 1085102592571150095 := ey4.trans (by decide)
  refine lx_land (z := lN (bl3 a)) hx hb d_JL_bitCount_32 (xl_and _ _) ?_
  refine lv_lstore_n (lv' := [(0, .long (lN (bl3 a)))]) hx hb d_JL_bitCount_33 rfl hl (by decide) rfl (fun ls hl => ?_)
  refine lv_lload_n hx hb d_JL_bitCount_34 rfl (lv_at hl 0 rfl) ?_
  refine lv_lload_n hx hb d_JL_bitCount_35 rfl (lv_at hl 0 rfl) ?_
  refine lv_bipush (v := nI 8) hx hb d_JL_bitCount_36 (by decide) ?_
  refine lv_lushr (v := lN (bl3 a >>> 8)) hx hb d_JL_bitCount_38 (xl_ushr (by omega) (by decide)) ?_
  refine lx_ladd (z := lN (bl4 a)) hx hb d_JL_bitCount_39 (lN_add _ _) ?_
  refine lv_lstore_n (lv' := [(0, .long (lN (bl4 a)))]) hx hb d_JL_bitCount_40 rfl hl (by decide) rfl (fun ls hl => ?_)
  refine lv_lload_n hx hb d_JL_bitCount_41 rfl (lv_at hl 0 rfl) ?_
  refine lv_lload_n hx hb d_JL_bitCount_42 rfl (lv_at hl 0 rfl) ?_
  refine lv_bipush (v := nI 16) hx hb d_JL_bitCount_43 (by decide) ?_
  refine lv_lushr (v := lN (bl4 a >>> 16)) hx hb d_JL_bitCount_45 (xl_ushr (by omega) (by decide)) ?_
  refine lx_ladd (z := lN (bl5 a)) hx hb d_JL_bitCount_46 (lN_add _ _) ?_
  refine lv_lstore_n (lv' := [(0, .long (lN (bl5 a)))]) hx hb d_JL_bitCount_47 rfl hl (by decide) rfl (fun ls hl => ?_)
  refine lv_lload_n hx hb d_JL_bitCount_48 rfl (lv_at hl 0 rfl) ?_
  refine lv_lload_n hx hb d_JL_bitCount_49 rfl (lv_at hl 0 rfl) ?_
  refine lv_bipush (v := nI 32) hx hb d_JL_bitCount_50 (by decide) ?_
  refine lv_lushr (v := lN (bl5 a >>> 32)) hx hb d_JL_bitCount_52 (xl_ushr (by omega) (by decide)) ?_
  refine lx_ladd (z := lN (bl6 a)) hx hb d_JL_bitCount_53 (lN_add _ _) ?_
  refine lv_lstore_n (lv' := [(0, .long (lN (bl6 a)))]) hx hb d_JL_bitCount_54 rfl hl (by decide) rfl (fun ls hl => ?_)
  refine lv_lload_n hx hb d_JL_bitCount_55 rfl (lv_at hl 0 rfl) ?_
  refine lv_l2i (v := nI (bl6 a)) hx hb d_JL_bitCount_56 (lN_i (bl6 a)) ?_
  refine lv_bipush (v := nI 127) hx hb d_JL_bitCount_57 (by decide) ?_
  refine lx_iand (z := nI (pcn 64 a)) hx hb d_JL_bitCount_59 ((xn_and _ _).trans (by rw [bc64_eq ha])) ?_
  rw [← hQ]
  refine W.iret (v := nI (pcn 64 a)) hx hb hr ?_ hS.2.2 d_JL_bitCount_60
  exact fun t ht hW => ⟨⟨nI (pcn 64 a), (), rfl, rfl, by rw [ht]; exact hP, hD⟩, hS.F ht⟩
set_option maxHeartbeats 4000000 in
set_option maxRecDepth 100000 in
theorem c_C_read (l : Launch) (D : va_G) (g : Nat → ClassId) (sz : Nat) (wr : va_W) (x tn ac sp oc kd M ha af w1 c1 t1 an su : Nat) (a0 : Int64) (b0 lb : Int32) (fa fs : Nat → Int32) (hcw : CodeW g kd M oc wr) (hM0 : 0 < M) (hM : M ≤ 57) (v y : Nat) (hv : v < 2 ^ 64) (hy : y < 2 ^ ckb kd M) (haf : af < 2 ^ ckb kd M) : Met l y_C_read w_C_read rm_C_read (va_Pc [.ref x, .long (lN v), .int (nI y)] (pP D (tyl g) ((tn, .inr (5, [.long (a0), .int (b0)])) :: (x, .inr (0, [.int (nI kd), .int (nI M), .int (nI (M + ckb kd M)), .long (lN (2 ^ M - 1)), .int (nI (2 ^ ckb kd M - 1)), .ref oc, .ref tn, .int (nI ha), .int (nI af), .long (lN w1), .int (nI c1), .int (nI t1), .ref ac, .int (nI an), .int (lb), .ref sp, .int (nI su)])) :: (ac, .inl (g 0, 8, .inl (fa))) :: (sp, .inl (g 0, 8, .inl (fs))) :: wr) sz)) (va_Qi (fun (r : Int32) (u : Unit) => r = nI (jd kd M ((y ^^^ xs (mrk kd M) v M) ^^^ af)).1) (fun u => qB D (va_A ((tn, .inr (5, [.long (a0), .int (b0)])) :: (x, .inr (0, [.int (nI kd), .int (nI M), .int (nI (M + ckb kd M)), .long (lN (2 ^ M - 1)), .int (nI (2 ^ ckb kd M - 1)), .ref oc, .ref tn, .int (nI ha), .int (nI af), .long (lN w1), .int (nI c1), .int (nI t1), .ref ac, .int (nI an), .int (lb), .ref sp, .int (nI su)])) :: (ac, .inl (g 0, 8, .inl (fa))) :: (sp, .inl (g 0, 8, .inl (fs))) :: wr) sz) ((tn, .inr (5, [.long (lN (jd kd M ((y ^^^ xs (mrk kd M) v M) ^^^ af)).2.1), .int (nI (jd kd M ((y ^^^ xs (mrk kd M) v M) ^^^ af)).2.2)])) :: (x, .inr (0, [.int (nI kd), .int (nI M), .int (nI (M + ckb kd M)), .long (lN (2 ^ M - 1)), .int (nI (2 ^ ckb kd M - 1)), .ref oc, .ref tn, .int (nI ha), .int (nI af), .long (lN (v % 2 ^ M ^^^ (jd kd M ((y ^^^ xs (mrk kd M) v M) ^^^ af)).2.1)), .int (nI (y ^^^ (jd kd M ((y ^^^ xs (mrk kd M) v M) ^^^ af)).2.2)), .int (nI (pcn 64 (jd kd M ((y ^^^ xs (mrk kd M) v M) ^^^ af)).2.1 + pcn 32 (jd kd M ((y ^^^ xs (mrk kd M) v M) ^^^ af)).2.2)), .ref ac, .int (nI an), .int (lb), .ref sp, .int (nI su)])) :: (ac, .inl (g 0, 8, .inl (fa))) :: (sp, .inl (g 0, 8, .inl (fs))) :: wr)) (va_A ((tn, .inr (5, [.long (a0), .int (b0)])) :: (x, .inr (0, [.int (nI kd), .int (nI M), .int (nI (M + ckb kd M)), .long (lN (2 ^ M - 1)), .int (nI (2 ^ ckb kd M - 1)), .ref oc, .ref tn, .int (nI ha), .int (nI af), .long (lN w1), .int (nI c1), .int (nI t1), .ref ac, .int (nI an), .int (lb), .ref sp, .int (nI su)])) :: (ac, .inl (g 0, 8, .inl (fa))) :: (sp, .inl (g 0, 8, .inl (fs))) :: wr) sz)) 0 0 (va_A ((tn, .inr (5, [.long (a0), .int (b0)])) :: (x, .inr (0, [.int (nI kd), .int (nI M), .int (nI (M + ckb kd M)), .long (lN (2 ^ M - 1)), .int (nI (2 ^ ckb kd M - 1)), .ref oc, .ref tn, .int (nI ha), .int (nI af), .long (lN w1), .int (nI c1), .int (nI t1), .ref ac, .int (nI an), .int (lb), .ref sp, .int (nI su)])) :: (ac, .inl (g 0, 8, .inl (fa))) :: (sp, .inl (g 0, 8, .inl (fs))) :: wr) sz) := by
  refine Met.ofW (cc := b_C_read) (maxL := 5) (ret := (some .int)) (by decide +kernel) rfl ?_
  intro p e s m args below meth c s₁ Bq hml hv
  have hx := Bq.exec
  have hb := Bq.bytes
  have hr := Bq.returns
  have hts : ∀ w ∈ wA, w.before args s = true := fun w h => atoms_spec (ws := w_C_read) Bq.pre w (List.mem_cons_of_mem _ h)
  have hown : s.vm.findClass R_C = some m.cls := findClass_of_methodNamed Bq.named
  have hlocks := Bq.notSynchronized
  obtain ⟨rfl, hsz, hP, hKK, hD0⟩ := hv
  have hK := hKK.1
  subst hsz
  have hD := hD0.self (sz := s.heap.size)
  generalize hAe : va_A ((tn, .inr (5, [.long (a0), .int (b0)])) :: (x, .inr (0, [.int (nI kd), .int (nI M), .int (nI (M + ckb kd M)), .long (lN (2 ^ M - 1)), .int (nI (2 ^ ckb kd M - 1)), .ref oc, .ref tn, .int (nI ha), .int (nI af), .long (lN w1), .int (nI c1), .int (nI t1), .ref ac, .int (nI an), .int (lb), .ref sp, .int (nI su)])) :: (ac, .inl (g 0, 8, .inl (fa))) :: (sp, .inl (g 0, 8, .inl (fs))) :: wr) s.heap.size = A at hD ⊢
  have hA : ∀ q : Nat, s.heap.size ≤ q → A q := fun q h => by rw [← hAe]; exact Or.inr h
  have hS : va_S A s.heap s.heap [] := va_S.rf
  have hl := lv_entry ([.ref x, .long (lN v), .int (nI y)]) (n := 5) (Nat.le_of_ble_eq_true rfl)
  rw [lg_entry_eq]
  generalize (lg_sl ([.ref x, .long (lN v), .int (nI y)]) ++ List.replicate (5 - (lg_sl ([.ref x, .long (lN v), .int (nI y)])).length) Slot.unset).toArray = ls at hl ⊢
  have hl : lv_has ls 5 [(0, .ref x), (1, .long (lN v)), (3, .int (nI y))] := hl
  generalize hQ : MQ below (va_Qi (fun (r : Int32) (u : Unit) => r = nI (jd kd M ((y ^^^ xs (mrk kd M) v M) ^^^ af)).1) (fun u => qB D (A) ((tn, .inr (5, [.long (lN (jd kd M ((y ^^^ xs (mrk kd M) v M) ^^^ af)).2.1), .int (nI (jd kd M ((y ^^^ xs (mrk kd M) v M) ^^^ af)).2.2)])) :: (x, .inr (0, [.int (nI kd), .int (nI M), .int (nI (M + ckb kd M)), .long (lN (2 ^ M - 1)), .int (nI (2 ^ ckb kd M - 1)), .ref oc, .ref tn, .int (nI ha), .int (nI af), .long (lN (v % 2 ^ M ^^^ (jd kd M ((y ^^^ xs (mrk kd M) v M) ^^^ af)).2.1)), .int (nI (y ^^^ (jd kd M ((y ^^^ xs (mrk kd M) v M) ^^^ af)).2.2)), .int (nI (pcn 64 (jd kd M ((y ^^^ xs (mrk kd M) v M) ^^^ af)).2.1 + pcn 32 (jd kd M ((y ^^^ xs (mrk kd M) v M) ^^^ af)).2.2)), .ref ac, .int (nI an), .int (lb), .ref sp, .int (nI su)])) :: (ac, .inl (g 0, 8, .inl (fa))) :: (sp, .inl (g 0, 8, .inl (fs))) :: wr)) (A)) [.ref x, .long (lN v), .int (nI y)].toArray s 0 0 A = Q
  have hck := ckb_le kd M
  have hpw := ckb_pow kd M
  have hsy : (y ^^^ xs (mrk kd M) v M) ^^^ af < 2 ^ ckb kd M := Nat.xor_lt_two_pow (Nat.xor_lt_two_pow hy (xs_lt (mrk_lt hM0 hM))) haf
  obtain ⟨hj1, hj2, hj3⟩ := jd_bd hM hsy
  refine lv_iload_n hx hb d_C_read_0 rfl (lv_at hl 2 rfl) ?_
  refine lv_aload_n hx hb d_C_read_1 rfl (lv_at hl 0 rfl) ?_
  refine va_get (D := D) (ci := 0) (v := .int (nI (2 ^ ckb kd M - 1))) (C := R_C) (T := F_C) (N := 17) hx hb hts i_C hown hK hP 1 rfl rfl 4 (by decide) (hts _ m_210) (fun _ h9 => h9) rfl d_C_read_2 ?_
  refine lv_iconst (v := (-1)) hx hb d_C_read_5 (by decide) ?_
  refine lx_ixor (z := (nI (2 ^ ckb kd M - 1)) ^^^ ((-1))) hx hb d_C_read_6 (rfl) ?_
  refine lx_iand (z := (nI y) &&& ((nI (2 ^ ckb kd M - 1)) ^^^ ((-1)))) hx hb d_C_read_7 (rfl) ?_
  refine lv_if_eq (tgt := 21) hx hb d_C_read_8 (by decide) (fun c8 => ?_) (fun c8 => ?_)
  · skip
    refine lv_aload_n hx hb d_C_read_21 rfl (lv_at hl 0 rfl) ?_
    refine va_get (D := D) (ci := 0) (v := .ref oc) (C := R_C) (T := F_C) (N := 17) hx hb hts i_C hown hK hP 1 rfl rfl 5 (by decide) (hts _ m_211) (fun _ h9 => h9) rfl d_C_read_22 ?_
    refine lv_iload_n hx hb d_C_read_25 rfl (lv_at hl 2 rfl) ?_
    refine lv_aload_n hx hb d_C_read_26 rfl (lv_at hl 0 rfl) ?_
    refine va_get (D := D) (ci := 0) (v := .ref oc) (C := R_C) (T := F_C) (N := 17) hx hb hts i_C hown hK hP 1 rfl rfl 5 (by decide) (hts _ m_211) (fun _ h9 => h9) rfl d_C_read_27 ?_
    refine lv_lload_n hx hb d_C_read_30 rfl (lv_at hl 1 rfl) ?_
    refine lu_sumOf (rest := [.int (nI y), .ref oc]) ((((hcw.cons _).cons _).cons _).cons _) hM hv hx hb hml hown hts hKK hP hD hS hA hl.1 (Nat.le_of_ble_eq_true rfl) (Nat.le_of_ble_eq_true rfl) (Nat.le_of_ble_eq_true rfl) (Nat.le_of_ble_eq_true rfl) (Nat.le_of_ble_eq_true rfl) d_C_read_31 (fun H locs hP hD hS => ?_)
    have hP : va_P D vwCl ((tn, .inr (5, [.long (a0), .int (b0)])) :: (x, .inr (0, [.int (nI kd), .int (nI M), .int (nI (M + ckb kd M)), .long (lN (2 ^ M - 1)), .int (nI (2 ^ ckb kd M - 1)), .ref oc, .ref tn, .int (nI ha), .int (nI af), .long (lN w1), .int (nI c1), .int (nI t1), .ref ac, .int (nI an), .int (lb), .ref sp, .int (nI su)])) :: (ac, .inl (g 0, 8, .inl (fa))) :: (sp, .inl (g 0, 8, .inl (fs))) :: wr) H := hP
    have hD : va_D A ((tn, .inr (5, [.long (a0), .int (b0)])) :: (x, .inr (0, [.int (nI kd), .int (nI M), .int (nI (M + ckb kd M)), .long (lN (2 ^ M - 1)), .int (nI (2 ^ ckb kd M - 1)), .ref oc, .ref tn, .int (nI ha), .int (nI af), .long (lN w1), .int (nI c1), .int (nI t1), .ref ac, .int (nI an), .int (lb), .ref sp, .int (nI su)])) :: (ac, .inl (g 0, 8, .inl (fa))) :: (sp, .inl (g 0, 8, .inl (fs))) :: wr) := hD
    refine lx_ixor (z := nI (y ^^^ (xs (mrk kd M) v M))) hx hb d_C_read_34 (xn_xor y (xs (mrk kd M) v M)) ?_
    refine lv_aload_n hx hb d_C_read_35 rfl (lv_at hl 0 rfl) ?_
    refine va_get (D := D) (ci := 0) (v := .int (nI af)) (C := R_C) (T := F_C) (N := 17) hx hb hts i_C hown hK hP 1 rfl rfl 8 (by decide) (hts _ m_214) (fun _ h9 => h9) rfl d_C_read_36 ?_
    refine lx_ixor (z := nI ((y ^^^ xs (mrk kd M) v M) ^^^ af)) hx hb d_C_read_39 (xn_xor _ _) ?_
    refine lv_aload_n hx hb d_C_read_40 rfl (lv_at hl 0 rfl) ?_
    refine va_get (D := D) (ci := 0) (v := .ref tn) (C := R_C) (T := F_C) (N := 17) hx hb hts i_C hown hK hP 1 rfl rfl 6 (by decide) (hts _ m_212) (fun _ h9 => h9) rfl d_C_read_41 ?_
    refine lu_judge (rest := []) (((hcw.cons _).cons _).cons _) hM hsy hx hb hml hown hts hKK hP hD hS hA hl.1 (Nat.le_of_ble_eq_true rfl) (Nat.le_of_ble_eq_true rfl) (Nat.le_of_ble_eq_true rfl) (Nat.le_of_ble_eq_true rfl) (Nat.le_of_ble_eq_true rfl) d_C_read_44 (fun H locs hP hD hS => ?_)
    have hP : va_P D vwCl ((tn, .inr (5, [.long (lN (jd kd M ((y ^^^ xs (mrk kd M) v M) ^^^ af)).2.1), .int (nI (jd kd M ((y ^^^ xs (mrk kd M) v M) ^^^ af)).2.2)])) :: (x, .inr (0, [.int (nI kd), .int (nI M), .int (nI (M + ckb kd M)), .long (lN (2 ^ M - 1)), .int (nI (2 ^ ckb kd M - 1)), .ref oc, .ref tn, .int (nI ha), .int (nI af), .long (lN w1), .int (nI c1), .int (nI t1), .ref ac, .int (nI an), .int (lb), .ref sp, .int (nI su)])) :: (ac, .inl (g 0, 8, .inl (fa))) :: (sp, .inl (g 0, 8, .inl (fs))) :: wr) H := hP
    have hD : va_D A ((tn, .inr (5, [.long (lN (jd kd M ((y ^^^ xs (mrk kd M) v M) ^^^ af)).2.1), .int (nI (jd kd M ((y ^^^ xs (mrk kd M) v M) ^^^ af)).2.2)])) :: (x, .inr (0, [.int (nI kd), .int (nI M), .int (nI (M + ckb kd M)), .long (lN (2 ^ M - 1)), .int (nI (2 ^ ckb kd M - 1)), .ref oc, .ref tn, .int (nI ha), .int (nI af), .long (lN w1), .int (nI c1), .int (nI t1), .ref ac, .int (nI an), .int (lb), .ref sp, .int (nI su)])) :: (ac, .inl (g 0, 8, .inl (fa))) :: (sp, .inl (g 0, 8, .inl (fs))) :: wr) := hD
    refine lv_istore (lv' := [(4, .int (nI ((jd kd M ((y ^^^ xs (mrk kd M) v M) ^^^ af)).1))), (0, .ref x), (1, .long (lN v)), (3, .int (nI y))]) hx hb d_C_read_47 hl (by decide) rfl (fun ls hl => ?_)
    refine lv_aload_n hx hb d_C_read_49 rfl (lv_at hl 1 rfl) ?_
    refine lv_lload_n hx hb d_C_read_50 rfl (lv_at hl 2 rfl) ?_
    refine lv_aload_n hx hb d_C_read_51 rfl (lv_at hl 1 rfl) ?_
    refine va_get (D := D) (ci := 0) (v := .long (lN (2 ^ M - 1))) (C := R_C) (T := F_C) (N := 17) hx hb hts i_C hown hK hP 1 rfl rfl 3 (by decide) (hts _ m_209) (fun _ h9 => h9) rfl d_C_read_52 ?_
    refine lx_land (z := lN (v % 2 ^ M)) hx hb d_C_read_55 ((xl_and _ _).trans (by rw [Nat.and_two_pow_sub_one_eq_mod])) ?_
    refine lv_aload_n hx hb d_C_read_56 rfl (lv_at hl 1 rfl) ?_
    refine va_get (D := D) (ci := 0) (v := .ref tn) (C := R_C) (T := F_C) (N := 17) hx hb hts i_C hown hK hP 1 rfl rfl 6 (by decide) (hts _ m_212) (fun _ h9 => h9) rfl d_C_read_57 ?_
    refine va_get (D := D) (ci := 5) (v := .long (lN (jd kd M ((y ^^^ xs (mrk kd M) v M) ^^^ af)).2.1)) (C := R_T) (T := F_T) (N := 2) hx hb hts i_T hown hK hP 0 rfl rfl 0 (by decide) (hts _ m_196) (fun _ h9 => h9) rfl d_C_read_60 ?_
    refine lx_lxor (z := lN (v % 2 ^ M ^^^ (jd kd M ((y ^^^ xs (mrk kd M) v M) ^^^ af)).2.1)) hx hb d_C_read_63 (xl_xor _ _) ?_
    refine va_put (D := D) (ci := 0) (v := .long (lN (v % 2 ^ M ^^^ (jd kd M ((y ^^^ xs (mrk kd M) v M) ^^^ af)).2.1))) (ty := .long) (C := R_C) (T := F_C) (N := 17) hx hb hts i_C tf_C tf_C_ok nf_C hown hK hP hD hS 1 rfl rfl 9 (by decide) (hts _ m_215) (fun _ h9 => h9) rfl (by decide +kernel) rfl rfl (Nat.le_of_ble_eq_true rfl) d_C_read_64 (fun H locs hP hD hS => ?_)
    have hP : va_P D vwCl ((tn, .inr (5, [.long (lN (jd kd M ((y ^^^ xs (mrk kd M) v M) ^^^ af)).2.1), .int (nI (jd kd M ((y ^^^ xs (mrk kd M) v M) ^^^ af)).2.2)])) :: (x, .inr (0, [.int (nI kd), .int (nI M), .int (nI (M + ckb kd M)), .long (lN (2 ^ M - 1)), .int (nI (2 ^ ckb kd M - 1)), .ref oc, .ref tn, .int (nI ha), .int (nI af), .long (lN (v % 2 ^ M ^^^ (jd kd M ((y ^^^ xs (mrk kd M) v M) ^^^ af)).2.1)), .int (nI c1), .int (nI t1), .ref ac, .int (nI an), .int (lb), .ref sp, .int (nI su)])) :: (ac, .inl (g 0, 8, .inl (fa))) :: (sp, .inl (g 0, 8, .inl (fs))) :: wr) H := hP
    have hD : va_D A ((tn, .inr (5, [.long (lN (jd kd M ((y ^^^ xs (mrk kd M) v M) ^^^ af)).2.1), .int (nI (jd kd M ((y ^^^ xs (mrk kd M) v M) ^^^ af)).2.2)])) :: (x, .inr (0, [.int (nI kd), .int (nI M), .int (nI (M + ckb kd M)), .long (lN (2 ^ M - 1)), .int (nI (2 ^ ckb kd M - 1)), .ref oc, .ref tn, .int (nI ha), .int (nI af), .long (lN (v % 2 ^ M ^^^ (jd kd M ((y ^^^ xs (mrk kd M) v M) ^^^ af)).2.1)), .int (nI c1), .int (nI t1), .ref ac, .int (nI an), .int (lb), .ref sp, .int (nI su)])) :: (ac, .inl (g 0, 8, .inl (fa))) :: (sp, .inl (g 0, 8, .inl (fs))) :: wr) := hD
    refine lv_aload_n hx hb d_C_read_67 rfl (lv_at hl 1 rfl) ?_
    refine lv_iload_n hx hb d_C_read_68 rfl (lv_at hl 3 rfl) ?_
    refine lv_aload_n hx hb d_C_read_69 rfl (lv_at hl 1 rfl) ?_
    refine va_get (D := D) (ci := 0) (v := .ref tn) (C := R_C) (T := F_C) (N := 17) hx hb hts i_C hown hK hP 1 rfl rfl 6 (by decide) (hts _ m_212) (fun _ h9 => h9) rfl d_C_read_70 ?_
    refine va_get (D := D) (ci := 5) (v := .int (nI (jd kd M ((y ^^^ xs (mrk kd M) v M) ^^^ af)).2.2)) (C := R_T) (T := F_T) (N := 2) hx hb hts i_T hown hK hP 0 rfl rfl 1 (by decide) (hts _ m_200) (fun _ h9 => h9) rfl d_C_read_73 ?_
    refine lx_ixor (z := nI (y ^^^ (jd kd M ((y ^^^ xs (mrk kd M) v M) ^^^ af)).2.2)) hx hb d_C_read_76 (xn_xor _ _) ?_
    refine va_put (D := D) (ci := 0) (v := .int (nI (y ^^^ (jd kd M ((y ^^^ xs (mrk kd M) v M) ^^^ af)).2.2))) (ty := .int) (C := R_C) (T := F_C) (N := 17) hx hb hts i_C tf_C tf_C_ok nf_C hown hK hP hD hS 1 rfl rfl 10 (by decide) (hts _ m_216) (fun _ h9 => h9) rfl (by decide +kernel) rfl rfl (Nat.le_of_ble_eq_true rfl) d_C_read_77 (fun H locs hP hD hS => ?_)
    have hP : va_P D vwCl ((tn, .inr (5, [.long (lN (jd kd M ((y ^^^ xs (mrk kd M) v M) ^^^ af)).2.1), .int (nI (jd kd M ((y ^^^ xs (mrk kd M) v M) ^^^ af)).2.2)])) :: (x, .inr (0, [.int (nI kd), .int (nI M), .int (nI (M + ckb kd M)), .long (lN (2 ^ M - 1)), .int (nI (2 ^ ckb kd M - 1)), .ref oc, .ref tn, .int (nI ha), .int (nI af), .long (lN (v % 2 ^ M ^^^ (jd kd M ((y ^^^ xs (mrk kd M) v M) ^^^ af)).2.1)), .int (nI (y ^^^ (jd kd M ((y ^^^ xs (mrk kd M) v M) ^^^ af)).2.2)), .int (nI t1), .ref ac, .int (nI an), .int (lb), .ref sp, .int (nI su)])) :: (ac, .inl (g 0, 8, .inl (fa))) :: (sp, .inl (g 0, 8, .inl (fs))) :: wr) H := hP
    have hD : va_D A ((tn, .inr (5, [.long (lN (jd kd M ((y ^^^ xs (mrk kd M) v M) ^^^ af)).2.1), .int (nI (jd kd M ((y ^^^ xs (mrk kd M) v M) ^^^ af)).2.2)])) :: (x, .inr (0, [.int (nI kd), .int (nI M), .int (nI (M + ckb kd M)), .long (lN (2 ^ M - 1)), .int (nI (2 ^ ckb kd M - 1)), .ref oc, .ref tn, .int (nI ha), .int (nI af), .long (lN (v % 2 ^ M ^^^ (jd kd M ((y ^^^ xs (mrk kd M) v M) ^^^ af)).2.1)), .int (nI (y ^^^ (jd kd M ((y ^^^ xs (mrk kd M) v M) ^^^ af)).2.2)), .int (nI t1), .ref ac, .int (nI an), .int (lb), .ref sp, .int (nI su)])) :: (ac, .inl (g 0, 8, .inl (fa))) :: (sp, .inl (g 0, 8, .inl (fs))) :: wr) := hD
    refine lv_aload_n hx hb d_C_read_80 rfl (lv_at hl 1 rfl) ?_
    refine lv_aload_n hx hb d_C_read_81 rfl (lv_at hl 1 rfl) ?_
    refine va_get (D := D) (ci := 0) (v := .ref tn) (C := R_C) (T := F_C) (N := 17) hx hb hts i_C hown hK hP 1 rfl rfl 6 (by decide) (hts _ m_212) (fun _ h9 => h9) rfl d_C_read_82 ?_
    refine va_get (D := D) (ci := 5) (v := .long (lN (jd kd M ((y ^^^ xs (mrk kd M) v M) ^^^ af)).2.1)) (C := R_T) (T := F_T) (N := 2) hx hb hts i_T hown hK hP 0 rfl rfl 0 (by decide) (hts _ m_196) (fun _ h9 => h9) rfl d_C_read_85 ?_
    refine lc_Si (As := [.long (lN (jd kd M ((y ^^^ xs (mrk kd M) v M) ^^^ af)).2.1)]) (rest := [.ref x]) ⟨hx, hb, hml, hown, hts⟩ (c_JL_bitCount l D g _ _ (jd kd M ((y ^^^ xs (mrk kd M) v M) ^^^ af)).2.1 (by omega)) (kS 1 hts m_474 m_472 m_473 m_47 (by decide +kernel) ⟨Nat.le_of_ble_eq_true rfl, Nat.le_of_ble_eq_true rfl⟩) hKK hP hD hS hA hl.1 rfl rfl (Nat.le_of_ble_eq_true rfl) d_C_read_88 ⟨Nat.le_of_ble_eq_true rfl, Nat.le_of_ble_eq_true rfl⟩ (fun r1 u H locs e1 hP hD hS => ?_)
    obtain rfl : r1 = nI (pcn 64 (jd kd M ((y ^^^ xs (mrk kd M) v M) ^^^ af)).2.1) := e1
    refine lv_aload_n hx hb d_C_read_91 rfl (lv_at hl 1 rfl) ?_
    refine va_get (D := D) (ci := 0) (v := .ref tn) (C := R_C) (T := F_C) (N := 17) hx hb hts i_C hown hK hP 1 rfl rfl 6 (by decide) (hts _ m_212) (fun _ h9 => h9) rfl d_C_read_92 ?_
    refine va_get (D := D) (ci := 5) (v := .int (nI (jd kd M ((y ^^^ xs (mrk kd M) v M) ^^^ af)).2.2)) (C := R_T) (T := F_T) (N := 2) hx hb hts i_T hown hK hP 0 rfl rfl 1 (by decide) (hts _ m_200) (fun _ h9 => h9) rfl d_C_read_95 ?_
    refine lc_Si (As := [.int (nI (jd kd M ((y ^^^ xs (mrk kd M) v M) ^^^ af)).2.2)]) (rest := [.int (nI (pcn 64 (jd kd M ((y ^^^ xs (mrk kd M) v M) ^^^ af)).2.1)), .ref x]) ⟨hx, hb, hml, hown, hts⟩ (c_JI_bitCount l D g _ _ (jd kd M ((y ^^^ xs (mrk kd M) v M) ^^^ af)).2.2 (by omega)) (kS 1 hts m_90 m_478 m_89 m_36 (by decide +kernel) ⟨Nat.le_of_ble_eq_true rfl, Nat.le_of_ble_eq_true rfl⟩) hKK hP hD hS hA hl.1 rfl rfl (Nat.le_of_ble_eq_true rfl) d_C_read_98 ⟨Nat.le_of_ble_eq_true rfl, Nat.le_of_ble_eq_true rfl⟩ (fun r2 u H locs e2 hP hD hS => ?_)
    obtain rfl : r2 = nI (pcn 32 (jd kd M ((y ^^^ xs (mrk kd M) v M) ^^^ af)).2.2) := e2.trans (by rw [bc32_eq (by omega)])
    refine lx_iadd (z := nI (pcn 64 (jd kd M ((y ^^^ xs (mrk kd M) v M) ^^^ af)).2.1 + pcn 32 (jd kd M ((y ^^^ xs (mrk kd M) v M) ^^^ af)).2.2)) hx hb d_C_read_101 (nI_add _ _) ?_
    refine va_put (D := D) (ci := 0) (v := .int (nI (pcn 64 (jd kd M ((y ^^^ xs (mrk kd M) v M) ^^^ af)).2.1 + pcn 32 (jd kd M ((y ^^^ xs (mrk kd M) v M) ^^^ af)).2.2))) (ty := .int) (C := R_C) (T := F_C) (N := 17) hx hb hts i_C tf_C tf_C_ok nf_C hown hK hP hD hS 1 rfl rfl 11 (by decide) (hts _ m_217) (fun _ h9 => h9) rfl (by decide +kernel) rfl rfl (Nat.le_of_ble_eq_true rfl) d_C_read_102 (fun H locs hP hD hS => ?_)
    have hP : va_P D vwCl ((tn, .inr (5, [.long (lN (jd kd M ((y ^^^ xs (mrk kd M) v M) ^^^ af)).2.1), .int (nI (jd kd M ((y ^^^ xs (mrk kd M) v M) ^^^ af)).2.2)])) :: (x, .inr (0, [.int (nI kd), .int (nI M), .int (nI (M + ckb kd M)), .long (lN (2 ^ M - 1)), .int (nI (2 ^ ckb kd M - 1)), .ref oc, .ref tn, .int (nI ha), .int (nI af), .long (lN (v % 2 ^ M ^^^ (jd kd M ((y ^^^ xs (mrk kd M) v M) ^^^ af)).2.1)), .int (nI (y ^^^ (jd kd M ((y ^^^ xs (mrk kd M) v M) ^^^ af)).2.2)), .int (nI (pcn 64 (jd kd M ((y ^^^ xs (mrk kd M) v M) ^^^ af)).2.1 + pcn 32 (jd kd M ((y ^^^ xs (mrk kd M) v M) ^^^ af)).2.2)), .ref ac, .int (nI an), .int (lb), .ref sp, .int (nI su)])) :: (ac, .inl (g 0, 8, .inl (fa))) :: (sp, .inl (g 0, 8, .inl (fs))) :: wr) H := hP
    have hD : va_D A ((tn, .inr (5, [.long (lN (jd kd M ((y ^^^ xs (mrk kd M) v M) ^^^ af)).2.1), .int (nI (jd kd M ((y ^^^ xs (mrk kd M) v M) ^^^ af)).2.2)])) :: (x, .inr (0, [.int (nI kd), .int (nI M), .int (nI (M + ckb kd M)), .long (lN (2 ^ M - 1)), .int (nI (2 ^ ckb kd M - 1)), .ref oc, .ref tn, .int (nI ha), .int (nI af), .long (lN (v % 2 ^ M ^^^ (jd kd M ((y ^^^ xs (mrk kd M) v M) ^^^ af)).2.1)), .int (nI (y ^^^ (jd kd M ((y ^^^ xs (mrk kd M) v M) ^^^ af)).2.2)), .int (nI (pcn 64 (jd kd M ((y ^^^ xs (mrk kd M) v M) ^^^ af)).2.1 + pcn 32 (jd kd M ((y ^^^ xs (mrk kd M) v M) ^^^ af)).2.2)), .ref ac, .int (nI an), .int (lb), .ref sp, .int (nI su)])) :: (ac, .inl (g 0, 8, .inl (fa))) :: (sp, .inl (g 0, 8, .inl (fs))) :: wr) := hD
    refine lv_iload hx hb d_C_read_105 (lv_at hl 0 rfl) ?_
    rw [← hQ]
    refine W.iret (v := nI ((jd kd M ((y ^^^ xs (mrk kd M) v M) ^^^ af)).1)) hx hb hr ?_ hS.2.2 d_C_read_107
    exact fun t ht hW => ⟨⟨nI ((jd kd M ((y ^^^ xs (mrk kd M) v M) ^^^ af)).1), (), rfl, rfl, by rw [ht]; exact hP, hD⟩, hS.F ht⟩
  · skip
    exact absurd ((out_mask (by omega) (by omega)).mpr hy) c8
set_option maxHeartbeats 4000000 in
set_option maxRecDepth 100000 in
theorem c_C_answerToPattern (l : Launch) (D : va_G) (g : Nat → ClassId) (sz : Nat) (wr : va_W) (x tn ac sp oc kd M ha af w1 c1 t1 an su : Nat) (a0 : Int64) (b0 lb : Int32) (fa fs : Nat → Int32) (hcw : CodeW g kd M oc wr) (hM0 : 0 < M) (hM : M ≤ 57) (q fr n9 : Nat) (hq9 : q < 2 ^ n9) (hn9 : n9 ≤ 6) (hf9 : fr + n9 ≤ M + ckb kd M) : Met l y_C_answerToPattern w_C_answerToPattern rm_C_answerToPattern (va_Pc [.ref x, .int (nI q), .int (nI fr)] (pP D (tyl g) ((tn, .inr (5, [.long (a0), .int (b0)])) :: (x, .inr (0, [.int (nI kd), .int (nI M), .int (nI (M + ckb kd M)), .long (lN (2 ^ M - 1)), .int (nI (2 ^ ckb kd M - 1)), .ref oc, .ref tn, .int (nI ha), .int (nI af), .long (lN w1), .int (nI c1), .int (nI t1), .ref ac, .int (nI an), .int (lb), .ref sp, .int (nI su)])) :: (ac, .inl (g 0, 8, .inl (fa))) :: (sp, .inl (g 0, 8, .inl (fs))) :: wr) sz)) (va_Qi (fun (r : Int32) (u : (Int64 × Int32)) => r = nI (patA kd M q fr)) (fun u => qB D (va_A ((tn, .inr (5, [.long (a0), .int (b0)])) :: (x, .inr (0, [.int (nI kd), .int (nI M), .int (nI (M + ckb kd M)), .long (lN (2 ^ M - 1)), .int (nI (2 ^ ckb kd M - 1)), .ref oc, .ref tn, .int (nI ha), .int (nI af), .long (lN w1), .int (nI c1), .int (nI t1), .ref ac, .int (nI an), .int (lb), .ref sp, .int (nI su)])) :: (ac, .inl (g 0, 8, .inl (fa))) :: (sp, .inl (g 0, 8, .inl (fs))) :: wr) sz) ((tn, .inr (5, [.long (u.1), .int (u.2)])) :: (x, .inr (0, [.int (nI kd), .int (nI M), .int (nI (M + ckb kd M)), .long (lN (2 ^ M - 1)), .int (nI (2 ^ ckb kd M - 1)), .ref oc, .ref tn, .int (nI ha), .int (nI af), .long (lN w1), .int (nI c1), .int (nI t1), .ref ac, .int (nI an), .int (lb), .ref sp, .int (nI su)])) :: (ac, .inl (g 0, 8, .inl (fa))) :: (sp, .inl (g 0, 8, .inl (fs))) :: wr)) (va_A ((tn, .inr (5, [.long (a0), .int (b0)])) :: (x, .inr (0, [.int (nI kd), .int (nI M), .int (nI (M + ckb kd M)), .long (lN (2 ^ M - 1)), .int (nI (2 ^ ckb kd M - 1)), .ref oc, .ref tn, .int (nI ha), .int (nI af), .long (lN w1), .int (nI c1), .int (nI t1), .ref ac, .int (nI an), .int (lb), .ref sp, .int (nI su)])) :: (ac, .inl (g 0, 8, .inl (fa))) :: (sp, .inl (g 0, 8, .inl (fs))) :: wr) sz)) 0 0 (va_A ((tn, .inr (5, [.long (a0), .int (b0)])) :: (x, .inr (0, [.int (nI kd), .int (nI M), .int (nI (M + ckb kd M)), .long (lN (2 ^ M - 1)), .int (nI (2 ^ ckb kd M - 1)), .ref oc, .ref tn, .int (nI ha), .int (nI af), .long (lN w1), .int (nI c1), .int (nI t1), .ref ac, .int (nI an), .int (lb), .ref sp, .int (nI su)])) :: (ac, .inl (g 0, 8, .inl (fa))) :: (sp, .inl (g 0, 8, .inl (fs))) :: wr) sz) := by
  refine Met.ofW (cc := b_C_answerToPattern) (maxL := 6) (ret := (some .int)) (by decide +kernel) rfl ?_
  intro p e s m args below meth c s₁ Bq hml hv
  have hx := Bq.exec
  have hb := Bq.bytes
  have hr := Bq.returns
  have hts : ∀ w ∈ wA, w.before args s = true := fun w h => atoms_spec (ws := w_C_answerToPattern) Bq.pre w (List.mem_cons_of_mem _ h)
  have hown : s.vm.findClass R_C = some m.cls := findClass_of_methodNamed Bq.named
  have hlocks := Bq.notSynchronized
  obtain ⟨rfl, hsz, hP, hKK, hD0⟩ := hv
  have hK := hKK.1
  subst hsz
  have hD := hD0.self (sz := s.heap.size)
  generalize hAe : va_A ((tn, .inr (5, [.long (a0), .int (b0)])) :: (x, .inr (0, [.int (nI kd), .int (nI M), .int (nI (M + ckb kd M)), .long (lN (2 ^ M - 1)), .int (nI (2 ^ ckb kd M - 1)), .ref oc, .ref tn, .int (nI ha), .int (nI af), .long (lN w1), .int (nI c1), .int (nI t1), .ref ac, .int (nI an), .int (lb), .ref sp, .int (nI su)])) :: (ac, .inl (g 0, 8, .inl (fa))) :: (sp, .inl (g 0, 8, .inl (fs))) :: wr) s.heap.size = A at hD ⊢
  have hA : ∀ q : Nat, s.heap.size ≤ q → A q := fun q h => by rw [← hAe]; exact Or.inr h
  have hS : va_S A s.heap s.heap [] := va_S.rf
  have hl := lv_entry ([.ref x, .int (nI q), .int (nI fr)]) (n := 6) (Nat.le_of_ble_eq_true rfl)
  rw [lg_entry_eq]
  generalize (lg_sl ([.ref x, .int (nI q), .int (nI fr)]) ++ List.replicate (6 - (lg_sl ([.ref x, .int (nI q), .int (nI fr)])).length) Slot.unset).toArray = ls at hl ⊢
  have hl : lv_has ls 6 [(0, .ref x), (1, .int (nI q)), (2, .int (nI fr))] := hl
  generalize hQ : MQ below (va_Qi (fun (r : Int32) (u : (Int64 × Int32)) => r = nI (patA kd M q fr)) (fun u => qB D (A) ((tn, .inr (5, [.long (u.1), .int (u.2)])) :: (x, .inr (0, [.int (nI kd), .int (nI M), .int (nI (M + ckb kd M)), .long (lN (2 ^ M - 1)), .int (nI (2 ^ ckb kd M - 1)), .ref oc, .ref tn, .int (nI ha), .int (nI af), .long (lN w1), .int (nI c1), .int (nI t1), .ref ac, .int (nI an), .int (lb), .ref sp, .int (nI su)])) :: (ac, .inl (g 0, 8, .inl (fa))) :: (sp, .inl (g 0, 8, .inl (fs))) :: wr)) (A)) [.ref x, .int (nI q), .int (nI fr)].toArray s 0 0 A = Q
  have hck := ckb_le kd M
  have hcf := pat_cf hq9 hf9
  have hq6 : q < 2 ^ 6 := pow_mono hq9 hn9
  refine lv_iload_n hx hb d_C_answerToPattern_0 rfl (lv_at hl 2 rfl) ?_
  refine lv_aload_n hx hb d_C_answerToPattern_1 rfl (lv_at hl 0 rfl) ?_
  refine va_get (D := D) (ci := 0) (v := .int (nI M)) (C := R_C) (T := F_C) (N := 17) hx hb hts i_C hown hK hP 1 rfl rfl 1 (by decide) (hts _ m_207) (fun _ h9 => h9) rfl d_C_answerToPattern_2 ?_
  refine lx_icmp_lt (tgt := 25) hx hb d_C_answerToPattern_5 (by decide) (by omega) (by omega) (fun c5 => ?_) (fun c5 => ?_)
  · skip
    have hql : q <<< fr < 2 ^ 63 := pow_mono (shl_lt hq6) (by omega)
    refine lv_iload_n hx hb d_C_answerToPattern_25 rfl (lv_at hl 1 rfl) ?_
    refine lv_i2l (v := lN q) hx hb d_C_answerToPattern_26 (nI_l (by omega)) ?_
    refine lv_iload_n hx hb d_C_answerToPattern_27 rfl (lv_at hl 2 rfl) ?_
    refine lv_lshl (v := lN (q <<< fr)) hx hb d_C_answerToPattern_28 (xl_shl _ (by omega)) ?_
    refine lv_lstore_n (lv' := [(3, .long (lN (q <<< fr))), (0, .ref x), (1, .int (nI q)), (2, .int (nI fr))]) hx hb d_C_answerToPattern_29 rfl hl (by decide) rfl (fun ls hl => ?_)
    refine lv_lload_n hx hb d_C_answerToPattern_30 rfl (lv_at hl 0 rfl) ?_
    refine lv_aload_n hx hb d_C_answerToPattern_31 rfl (lv_at hl 1 rfl) ?_
    refine va_get (D := D) (ci := 0) (v := .int (nI M)) (C := R_C) (T := F_C) (N := 17) hx hb hts i_C hown hK hP 1 rfl rfl 1 (by decide) (hts _ m_207) (fun _ h9 => h9) rfl d_C_answerToPattern_32 ?_
    refine lv_lushr (v := lN ((q <<< fr) >>> M)) hx hb d_C_answerToPattern_35 (xl_ushr (by omega) (by omega)) ?_
    refine lv_l2i (v := nI ((q <<< fr) >>> M)) hx hb d_C_answerToPattern_36 (lN_i ((q <<< fr) >>> M)) ?_
    refine lv_istore (lv' := [(5, .int (nI ((q <<< fr) >>> M))), (3, .long (lN (q <<< fr))), (0, .ref x), (1, .int (nI q)), (2, .int (nI fr))]) hx hb d_C_answerToPattern_37 hl (by decide) rfl (fun ls hl => ?_)
    refine lv_aload_n hx hb d_C_answerToPattern_39 rfl (lv_at hl 2 rfl) ?_
    refine lv_aload_n hx hb d_C_answerToPattern_40 rfl (lv_at hl 2 rfl) ?_
    refine va_get (D := D) (ci := 0) (v := .ref oc) (C := R_C) (T := F_C) (N := 17) hx hb hts i_C hown hK hP 1 rfl rfl 5 (by decide) (hts _ m_211) (fun _ h9 => h9) rfl d_C_answerToPattern_41 ?_
    refine lv_lload_n hx hb d_C_answerToPattern_44 rfl (lv_at hl 1 rfl) ?_
    refine lu_sumOf (rest := [.ref x]) ((((hcw.cons _).cons _).cons _).cons _) hM (by omega) hx hb hml hown hts hKK hP hD hS hA hl.1 (Nat.le_of_ble_eq_true rfl) (Nat.le_of_ble_eq_true rfl) (Nat.le_of_ble_eq_true rfl) (Nat.le_of_ble_eq_true rfl) (Nat.le_of_ble_eq_true rfl) d_C_answerToPattern_45 (fun H locs hP hD hS => ?_)
    have hP : va_P D vwCl ((tn, .inr (5, [.long (a0), .int (b0)])) :: (x, .inr (0, [.int (nI kd), .int (nI M), .int (nI (M + ckb kd M)), .long (lN (2 ^ M - 1)), .int (nI (2 ^ ckb kd M - 1)), .ref oc, .ref tn, .int (nI ha), .int (nI af), .long (lN w1), .int (nI c1), .int (nI t1), .ref ac, .int (nI an), .int (lb), .ref sp, .int (nI su)])) :: (ac, .inl (g 0, 8, .inl (fa))) :: (sp, .inl (g 0, 8, .inl (fs))) :: wr) H := hP
    have hD : va_D A ((tn, .inr (5, [.long (a0), .int (b0)])) :: (x, .inr (0, [.int (nI kd), .int (nI M), .int (nI (M + ckb kd M)), .long (lN (2 ^ M - 1)), .int (nI (2 ^ ckb kd M - 1)), .ref oc, .ref tn, .int (nI ha), .int (nI af), .long (lN w1), .int (nI c1), .int (nI t1), .ref ac, .int (nI an), .int (lb), .ref sp, .int (nI su)])) :: (ac, .inl (g 0, 8, .inl (fa))) :: (sp, .inl (g 0, 8, .inl (fs))) :: wr) := hD
    refine lv_iload hx hb d_C_answerToPattern_48 (lv_at hl 0 rfl) ?_
    refine lx_ixor (z := nI (xs (mrk kd M) ((q <<< fr) % 2 ^ M) M ^^^ ((q <<< fr) >>> M))) hx hb d_C_answerToPattern_50 ((xn_xor _ _).trans (by rw [xs_mod M (Nat.le_refl M)])) ?_
    refine lv_lload_n hx hb d_C_answerToPattern_51 rfl (lv_at hl 1 rfl) ?_
    refine lv_aload_n hx hb d_C_answerToPattern_52 rfl (lv_at hl 2 rfl) ?_
    refine va_get (D := D) (ci := 0) (v := .long (lN (2 ^ M - 1))) (C := R_C) (T := F_C) (N := 17) hx hb hts i_C hown hK hP 1 rfl rfl 3 (by decide) (hts _ m_209) (fun _ h9 => h9) rfl d_C_answerToPattern_53 ?_
    refine lx_land (z := lN ((q <<< fr) % 2 ^ M)) hx hb d_C_answerToPattern_56 ((xl_and _ _).trans (by rw [Nat.and_two_pow_sub_one_eq_mod])) ?_
    refine lv_iload hx hb d_C_answerToPattern_57 (lv_at hl 0 rfl) ?_
    refine lc_Vi (b := x) (As := [.int (nI (xs (mrk kd M) ((q <<< fr) % 2 ^ M) M ^^^ ((q <<< fr) >>> M))), .long (lN ((q <<< fr) % 2 ^ M)), .int (nI ((q <<< fr) >>> M))]) (rest := []) ⟨hx, hb, hml, hown, hts⟩ (c_C_answerTo l D g _ wr x tn ac sp oc kd M ha af w1 c1 t1 an su a0 b0 lb fa fs hcw hM0 hM ((q <<< fr) % 2 ^ M) ((q <<< fr) >>> M) (pow_mono (Nat.mod_lt _ (Nat.two_pow_pos M)) (by omega)) hcf) (kV 3 hts m_513 m_510 m_512 m_6 m_30 (by decide +kernel) ⟨Nat.le_of_ble_eq_true rfl, Nat.le_of_ble_eq_true rfl⟩) (va_recv hK hP (ci := 0) (q0 := 1) rfl rfl) hKK hP hD hS hA hl.1 rfl rfl (Nat.le_of_ble_eq_true rfl) d_C_answerToPattern_59 ⟨Nat.le_of_ble_eq_true rfl, Nat.le_of_ble_eq_true rfl⟩ (fun rr u H locs er hP hD hS => ?_)
    have hP : va_P D vwCl ((tn, .inr (5, [.long (u.1), .int (u.2)])) :: (x, .inr (0, [.int (nI kd), .int (nI M), .int (nI (M + ckb kd M)), .long (lN (2 ^ M - 1)), .int (nI (2 ^ ckb kd M - 1)), .ref oc, .ref tn, .int (nI ha), .int (nI af), .long (lN w1), .int (nI c1), .int (nI t1), .ref ac, .int (nI an), .int (lb), .ref sp, .int (nI su)])) :: (ac, .inl (g 0, 8, .inl (fa))) :: (sp, .inl (g 0, 8, .inl (fs))) :: wr) H := hP
    have hD : va_D A ((tn, .inr (5, [.long (u.1), .int (u.2)])) :: (x, .inr (0, [.int (nI kd), .int (nI M), .int (nI (M + ckb kd M)), .long (lN (2 ^ M - 1)), .int (nI (2 ^ ckb kd M - 1)), .ref oc, .ref tn, .int (nI ha), .int (nI af), .long (lN w1), .int (nI c1), .int (nI t1), .ref ac, .int (nI an), .int (lb), .ref sp, .int (nI su)])) :: (ac, .inl (g 0, 8, .inl (fa))) :: (sp, .inl (g 0, 8, .inl (fs))) :: wr) := hD
    rw [← hQ]
    refine W.iret (v := rr) hx hb hr ?_ hS.2.2 d_C_answerToPattern_62
    exact fun t ht hW => ⟨⟨rr, u, rfl, er, by rw [ht]; exact hP, hD⟩, hS.F ht⟩
  · skip
    obtain ⟨e1, e2⟩ := pat_hi (q := q) c5
    rw [e2] at hcf
    refine lv_iload_n hx hb d_C_answerToPattern_8 rfl (lv_at hl 1 rfl) ?_
    refine lv_iload_n hx hb d_C_answerToPattern_9 rfl (lv_at hl 2 rfl) ?_
    refine lv_aload_n hx hb d_C_answerToPattern_10 rfl (lv_at hl 0 rfl) ?_
    refine va_get (D := D) (ci := 0) (v := .int (nI M)) (C := R_C) (T := F_C) (N := 17) hx hb hts i_C hown hK hP 1 rfl rfl 1 (by decide) (hts _ m_207) (fun _ h9 => h9) rfl d_C_answerToPattern_11 ?_
    refine lx_isub (z := nI (fr - M)) hx hb d_C_answerToPattern_14 (pk_sub (by omega)) ?_
    refine lx_ishl (z := nI (q <<< (fr - M))) hx hb d_C_answerToPattern_15 (xn_shl _ (by omega)) ?_
    refine lv_istore_n (lv' := [(3, .int (nI (q <<< (fr - M)))), (0, .ref x), (1, .int (nI q)), (2, .int (nI fr))]) hx hb d_C_answerToPattern_16 rfl hl (by decide) rfl (fun ls hl => ?_)
    refine lv_aload_n hx hb d_C_answerToPattern_17 rfl (lv_at hl 1 rfl) ?_
    refine lv_iload_n hx hb d_C_answerToPattern_18 rfl (lv_at hl 0 rfl) ?_
    refine lv_topi (fun y1 ey1 => ?_)
    obtain rfl : y1 = nI (xs (mrk kd M) 0 M ^^^ (q <<< (fr - M))) := ey1.trans (by rw [xs_zero, Nat.zero_xor])
    refine lv_lconst (v := lN 0) hx hb d_C_answerToPattern_19 (by decide) ?_
    refine lv_iload_n hx hb d_C_answerToPattern_20 rfl (lv_at hl 0 rfl) ?_
    refine lc_Vi (b := x) (As := [.int (nI (xs (mrk kd M) 0 M ^^^ (q <<< (fr - M)))), .long (lN 0), .int (nI (q <<< (fr - M)))]) (rest := []) ⟨hx, hb, hml, hown, hts⟩ (c_C_answerTo l D g _ wr x tn ac sp oc kd M ha af w1 c1 t1 an su a0 b0 lb fa fs hcw hM0 hM 0 (q <<< (fr - M)) (by decide) hcf) (kV 3 hts m_513 m_510 m_512 m_6 m_30 (by decide +kernel) ⟨Nat.le_of_ble_eq_true rfl, Nat.le_of_ble_eq_true rfl⟩) (va_recv hK hP (ci := 0) (q0 := 1) rfl rfl) hKK hP hD hS hA hl.1 rfl rfl (Nat.le_of_ble_eq_true rfl) d_C_answerToPattern_21 ⟨Nat.le_of_ble_eq_true rfl, Nat.le_of_ble_eq_true rfl⟩ (fun rr u H locs er hP hD hS => ?_)
    have hP : va_P D vwCl ((tn, .inr (5, [.long (u.1), .int (u.2)])) :: (x, .inr (0, [.int (nI kd), .int (nI M), .int (nI (M + ckb kd M)), .long (lN (2 ^ M - 1)), .int (nI (2 ^ ckb kd M - 1)), .ref oc, .ref tn, .int (nI ha), .int (nI af), .long (lN w1), .int (nI c1), .int (nI t1), .ref ac, .int (nI an), .int (lb), .ref sp, .int (nI su)])) :: (ac, .inl (g 0, 8, .inl (fa))) :: (sp, .inl (g 0, 8, .inl (fs))) :: wr) H := hP
    have hD : va_D A ((tn, .inr (5, [.long (u.1), .int (u.2)])) :: (x, .inr (0, [.int (nI kd), .int (nI M), .int (nI (M + ckb kd M)), .long (lN (2 ^ M - 1)), .int (nI (2 ^ ckb kd M - 1)), .ref oc, .ref tn, .int (nI ha), .int (nI af), .long (lN w1), .int (nI c1), .int (nI t1), .ref ac, .int (nI an), .int (lb), .ref sp, .int (nI su)])) :: (ac, .inl (g 0, 8, .inl (fa))) :: (sp, .inl (g 0, 8, .inl (fs))) :: wr) := hD
    rw [← hQ]
    refine W.iret (v := rr) hx hb hr ?_ hS.2.2 d_C_answerToPattern_24
    exact fun t ht hW => ⟨⟨rr, u, rfl, (by unfold patA; rw [e1, e2]; exact er), by rw [ht]; exact hP, hD⟩, hS.F ht⟩
set_option maxHeartbeats 4000000 in
set_option maxRecDepth 100000 in
theorem c_C_addToCount (l : Launch) (D : va_G) (g : Nat → ClassId) (sz : Nat) (wr : va_W) (x tn ac sp oc kd M ha af w1 c1 t1 an su : Nat) (a0 : Int64) (b0 lb : Int32) (fa fs : Nat → Int32) (hcw : CodeW g kd M oc wr) (hM0 : 0 < M) (hM : M ≤ 57) (j : Nat) (hj8 : j < 8) (fb : Nat → Int32) (hfb : upd fa j (fa j + nI 1) = fb) : Met l y_C_addToCount w_C_addToCount rm_C_addToCount (va_Pc [.ref x, .int (nI j)] (pP D (tyl g) ((tn, .inr (5, [.long (a0), .int (b0)])) :: (x, .inr (0, [.int (nI kd), .int (nI M), .int (nI (M + ckb kd M)), .long (lN (2 ^ M - 1)), .int (nI (2 ^ ckb kd M - 1)), .ref oc, .ref tn, .int (nI ha), .int (nI af), .long (lN w1), .int (nI c1), .int (nI t1), .ref ac, .int (nI an), .int (lb), .ref sp, .int (nI su)])) :: (ac, .inl (g 0, 8, .inl (fa))) :: (sp, .inl (g 0, 8, .inl (fs))) :: wr) sz)) (va_Qv (fun (u : Unit) => True) (fun u => qB D (va_A ((tn, .inr (5, [.long (a0), .int (b0)])) :: (x, .inr (0, [.int (nI kd), .int (nI M), .int (nI (M + ckb kd M)), .long (lN (2 ^ M - 1)), .int (nI (2 ^ ckb kd M - 1)), .ref oc, .ref tn, .int (nI ha), .int (nI af), .long (lN w1), .int (nI c1), .int (nI t1), .ref ac, .int (nI an), .int (lb), .ref sp, .int (nI su)])) :: (ac, .inl (g 0, 8, .inl (fa))) :: (sp, .inl (g 0, 8, .inl (fs))) :: wr) sz) ((tn, .inr (5, [.long (a0), .int (b0)])) :: (x, .inr (0, [.int (nI kd), .int (nI M), .int (nI (M + ckb kd M)), .long (lN (2 ^ M - 1)), .int (nI (2 ^ ckb kd M - 1)), .ref oc, .ref tn, .int (nI ha), .int (nI af), .long (lN w1), .int (nI c1), .int (nI t1), .ref ac, .int (nI an), .int (lb), .ref sp, .int (nI su)])) :: (ac, .inl (g 0, 8, .inl (fb))) :: (sp, .inl (g 0, 8, .inl (fs))) :: wr)) (va_A ((tn, .inr (5, [.long (a0), .int (b0)])) :: (x, .inr (0, [.int (nI kd), .int (nI M), .int (nI (M + ckb kd M)), .long (lN (2 ^ M - 1)), .int (nI (2 ^ ckb kd M - 1)), .ref oc, .ref tn, .int (nI ha), .int (nI af), .long (lN w1), .int (nI c1), .int (nI t1), .ref ac, .int (nI an), .int (lb), .ref sp, .int (nI su)])) :: (ac, .inl (g 0, 8, .inl (fa))) :: (sp, .inl (g 0, 8, .inl (fs))) :: wr) sz)) 0 0 (va_A ((tn, .inr (5, [.long (a0), .int (b0)])) :: (x, .inr (0, [.int (nI kd), .int (nI M), .int (nI (M + ckb kd M)), .long (lN (2 ^ M - 1)), .int (nI (2 ^ ckb kd M - 1)), .ref oc, .ref tn, .int (nI ha), .int (nI af), .long (lN w1), .int (nI c1), .int (nI t1), .ref ac, .int (nI an), .int (lb), .ref sp, .int (nI su)])) :: (ac, .inl (g 0, 8, .inl (fa))) :: (sp, .inl (g 0, 8, .inl (fs))) :: wr) sz) := by
  refine Met.ofW (cc := b_C_addToCount) (maxL := 2) (ret := none) (by decide +kernel) rfl ?_
  intro p e s m args below meth c s₁ Bq hml hv
  have hx := Bq.exec
  have hb := Bq.bytes
  have hr := Bq.returns
  have hts : ∀ w ∈ wA, w.before args s = true := fun w h => atoms_spec (ws := w_C_addToCount) Bq.pre w (List.mem_cons_of_mem _ h)
  have hown : s.vm.findClass R_C = some m.cls := findClass_of_methodNamed Bq.named
  have hlocks := Bq.notSynchronized
  obtain ⟨rfl, hsz, hP, hKK, hD0⟩ := hv
  have hK := hKK.1
  subst hsz
  have hD := hD0.self (sz := s.heap.size)
  generalize hAe : va_A ((tn, .inr (5, [.long (a0), .int (b0)])) :: (x, .inr (0, [.int (nI kd), .int (nI M), .int (nI (M + ckb kd M)), .long (lN (2 ^ M - 1)), .int (nI (2 ^ ckb kd M - 1)), .ref oc, .ref tn, .int (nI ha), .int (nI af), .long (lN w1), .int (nI c1), .int (nI t1), .ref ac, .int (nI an), .int (lb), .ref sp, .int (nI su)])) :: (ac, .inl (g 0, 8, .inl (fa))) :: (sp, .inl (g 0, 8, .inl (fs))) :: wr) s.heap.size = A at hD ⊢
  have hA : ∀ q : Nat, s.heap.size ≤ q → A q := fun q h => by rw [← hAe]; exact Or.inr h
  have hS : va_S A s.heap s.heap [] := va_S.rf
  have hl := lv_entry ([.ref x, .int (nI j)]) (n := 2) (Nat.le_of_ble_eq_true rfl)
  rw [lg_entry_eq]
  generalize (lg_sl ([.ref x, .int (nI j)]) ++ List.replicate (2 - (lg_sl ([.ref x, .int (nI j)])).length) Slot.unset).toArray = ls at hl ⊢
  have hl : lv_has ls 2 [(0, .ref x), (1, .int (nI j))] := hl
  generalize hQ : MQ below (va_Qv (fun (u : Unit) => True) (fun u => qB D (A) ((tn, .inr (5, [.long (a0), .int (b0)])) :: (x, .inr (0, [.int (nI kd), .int (nI M), .int (nI (M + ckb kd M)), .long (lN (2 ^ M - 1)), .int (nI (2 ^ ckb kd M - 1)), .ref oc, .ref tn, .int (nI ha), .int (nI af), .long (lN w1), .int (nI c1), .int (nI t1), .ref ac, .int (nI an), .int (lb), .ref sp, .int (nI su)])) :: (ac, .inl (g 0, 8, .inl (fb))) :: (sp, .inl (g 0, 8, .inl (fs))) :: wr)) (A)) [.ref x, .int (nI j)].toArray s 0 0 A = Q
  refine lv_iload_n hx hb d_C_addToCount_0 rfl (lv_at hl 1 rfl) ?_
  refine lx_if_lt (tgt := 23) hx hb d_C_addToCount_1 (by decide) (by omega) ?_
  refine lv_iload_n hx hb d_C_addToCount_4 rfl (lv_at hl 1 rfl) ?_
  refine lv_aload_n hx hb d_C_addToCount_5 rfl (lv_at hl 0 rfl) ?_
  refine va_get (D := D) (ci := 0) (v := .ref ac) (C := R_C) (T := F_C) (N := 17) hx hb hts i_C hown hK hP 1 rfl rfl 12 (by decide) (hts _ m_218) (fun _ h9 => h9) rfl d_C_addToCount_6 ?_
  refine va_alen hx hb hK hP 2 0 rfl (v := nI 8) rfl (rfl) d_C_addToCount_9 ?_
  refine lx_icmp_ge (tgt := 23) hx hb d_C_addToCount_10 (by decide) (by omega) (by omega) (fun c10 => ?_) (fun c10 => ?_)
  · skip
    exact absurd c10 (by omega)
  · skip
    refine lv_aload_n hx hb d_C_addToCount_13 rfl (lv_at hl 0 rfl) ?_
    refine va_get (D := D) (ci := 0) (v := .ref ac) (C := R_C) (T := F_C) (N := 17) hx hb hts i_C hown hK hP 1 rfl rfl 12 (by decide) (hts _ m_218) (fun _ h9 => h9) rfl d_C_addToCount_14 ?_
    refine lv_iload_n hx hb d_C_addToCount_17 rfl (lv_at hl 1 rfl) ?_
    refine lv_dup2_11 hx hb d_C_addToCount_18 rfl rfl ?_
    refine lx_iald (v := fa j) hx hb hK hP 2 0 rfl rfl (j := j) (by omega) (by omega) (rfl) d_C_addToCount_19 ?_
    refine lv_iconst (v := nI 1) hx hb d_C_addToCount_20 (by decide) ?_
    refine lx_iadd (z := (fa j) + (nI 1)) hx hb d_C_addToCount_21 (rfl) ?_
    refine lx_iast (f' := fb) hx hb hK hP hD hS 2 0 rfl rfl (j := j) (by omega) (by omega) (hfb) d_C_addToCount_22 (fun H locs hP hD hS => ?_)
    have hP : va_P D vwCl ((tn, .inr (5, [.long (a0), .int (b0)])) :: (x, .inr (0, [.int (nI kd), .int (nI M), .int (nI (M + ckb kd M)), .long (lN (2 ^ M - 1)), .int (nI (2 ^ ckb kd M - 1)), .ref oc, .ref tn, .int (nI ha), .int (nI af), .long (lN w1), .int (nI c1), .int (nI t1), .ref ac, .int (nI an), .int (lb), .ref sp, .int (nI su)])) :: (ac, .inl (g 0, 8, .inl (fb))) :: (sp, .inl (g 0, 8, .inl (fs))) :: wr) H := hP
    have hD : va_D A ((tn, .inr (5, [.long (a0), .int (b0)])) :: (x, .inr (0, [.int (nI kd), .int (nI M), .int (nI (M + ckb kd M)), .long (lN (2 ^ M - 1)), .int (nI (2 ^ ckb kd M - 1)), .ref oc, .ref tn, .int (nI ha), .int (nI af), .long (lN w1), .int (nI c1), .int (nI t1), .ref ac, .int (nI an), .int (lb), .ref sp, .int (nI su)])) :: (ac, .inl (g 0, 8, .inl (fb))) :: (sp, .inl (g 0, 8, .inl (fs))) :: wr) := hD
    rw [← hQ]
    refine W.vret hx hb hr ?_ hS.2.2 d_C_addToCount_23
    exact fun t ht hW => ⟨⟨(), rfl, trivial, by rw [ht]; exact hP, hD⟩, hS.F ht⟩
set_option maxHeartbeats 4000000 in
set_option maxRecDepth 100000 in
theorem c_C_countAnswers (l : Launch) (D : va_G) (g : Nat → ClassId) (sz : Nat) (wr : va_W) (x tn ac sp oc kd M ha af w1 c1 t1 an su : Nat) (a0 : Int64) (b0 lb : Int32) (fa fs : Nat → Int32) (hcw : CodeW g kd M oc wr) (hM0 : 0 < M) (hM : M ≤ 57) (han : (an = 0 ∧ fa = fun _ => nI 0) ∨ (an = 1 ∧ fa = fun i => nI (tbl (pairA kd M) (M + ckb kd M) (M + ckb kd M) i))) : Met l y_C_countAnswers w_C_countAnswers rm_C_countAnswers (va_Pc [.ref x] (pP D (tyl g) ((tn, .inr (5, [.long (a0), .int (b0)])) :: (x, .inr (0, [.int (nI kd), .int (nI M), .int (nI (M + ckb kd M)), .long (lN (2 ^ M - 1)), .int (nI (2 ^ ckb kd M - 1)), .ref oc, .ref tn, .int (nI ha), .int (nI af), .long (lN w1), .int (nI c1), .int (nI t1), .ref ac, .int (nI an), .int (lb), .ref sp, .int (nI su)])) :: (ac, .inl (g 0, 8, .inl (fa))) :: (sp, .inl (g 0, 8, .inl (fs))) :: wr) sz)) (va_Qv (fun (u : (Int64 × Int32)) => True) (fun u => qB D (va_A ((tn, .inr (5, [.long (a0), .int (b0)])) :: (x, .inr (0, [.int (nI kd), .int (nI M), .int (nI (M + ckb kd M)), .long (lN (2 ^ M - 1)), .int (nI (2 ^ ckb kd M - 1)), .ref oc, .ref tn, .int (nI ha), .int (nI af), .long (lN w1), .int (nI c1), .int (nI t1), .ref ac, .int (nI an), .int (lb), .ref sp, .int (nI su)])) :: (ac, .inl (g 0, 8, .inl (fa))) :: (sp, .inl (g 0, 8, .inl (fs))) :: wr) sz) ((tn, .inr (5, [.long (u.1), .int (u.2)])) :: (x, .inr (0, [.int (nI kd), .int (nI M), .int (nI (M + ckb kd M)), .long (lN (2 ^ M - 1)), .int (nI (2 ^ ckb kd M - 1)), .ref oc, .ref tn, .int (nI ha), .int (nI af), .long (lN w1), .int (nI c1), .int (nI t1), .ref ac, .int (nI 1), .int (lb), .ref sp, .int (nI su)])) :: (ac, .inl (g 0, 8, .inl (fun i => nI (tbl (pairA kd M) (M + ckb kd M) (M + ckb kd M) i)))) :: (sp, .inl (g 0, 8, .inl (fs))) :: wr)) (va_A ((tn, .inr (5, [.long (a0), .int (b0)])) :: (x, .inr (0, [.int (nI kd), .int (nI M), .int (nI (M + ckb kd M)), .long (lN (2 ^ M - 1)), .int (nI (2 ^ ckb kd M - 1)), .ref oc, .ref tn, .int (nI ha), .int (nI af), .long (lN w1), .int (nI c1), .int (nI t1), .ref ac, .int (nI an), .int (lb), .ref sp, .int (nI su)])) :: (ac, .inl (g 0, 8, .inl (fa))) :: (sp, .inl (g 0, 8, .inl (fs))) :: wr) sz)) 0 0 (va_A ((tn, .inr (5, [.long (a0), .int (b0)])) :: (x, .inr (0, [.int (nI kd), .int (nI M), .int (nI (M + ckb kd M)), .long (lN (2 ^ M - 1)), .int (nI (2 ^ ckb kd M - 1)), .ref oc, .ref tn, .int (nI ha), .int (nI af), .long (lN w1), .int (nI c1), .int (nI t1), .ref ac, .int (nI an), .int (lb), .ref sp, .int (nI su)])) :: (ac, .inl (g 0, 8, .inl (fa))) :: (sp, .inl (g 0, 8, .inl (fs))) :: wr) sz) := by
  refine Met.ofW (cc := b_C_countAnswers) (maxL := 3) (ret := none) (by decide +kernel) rfl ?_
  intro p e s m args below meth c s₁ Bq hml hv
  have hx := Bq.exec
  have hb := Bq.bytes
  have hr := Bq.returns
  have hts : ∀ w ∈ wA, w.before args s = true := fun w h => atoms_spec (ws := w_C_countAnswers) Bq.pre w (List.mem_cons_of_mem _ h)
  have hown : s.vm.findClass R_C = some m.cls := findClass_of_methodNamed Bq.named
  have hlocks := Bq.notSynchronized
  obtain ⟨rfl, hsz, hP, hKK, hD0⟩ := hv
  have hK := hKK.1
  subst hsz
  have hD := hD0.self (sz := s.heap.size)
  generalize hAe : va_A ((tn, .inr (5, [.long (a0), .int (b0)])) :: (x, .inr (0, [.int (nI kd), .int (nI M), .int (nI (M + ckb kd M)), .long (lN (2 ^ M - 1)), .int (nI (2 ^ ckb kd M - 1)), .ref oc, .ref tn, .int (nI ha), .int (nI af), .long (lN w1), .int (nI c1), .int (nI t1), .ref ac, .int (nI an), .int (lb), .ref sp, .int (nI su)])) :: (ac, .inl (g 0, 8, .inl (fa))) :: (sp, .inl (g 0, 8, .inl (fs))) :: wr) s.heap.size = A at hD ⊢
  have hA : ∀ q : Nat, s.heap.size ≤ q → A q := fun q h => by rw [← hAe]; exact Or.inr h
  have hS : va_S A s.heap s.heap [] := va_S.rf
  have hl := lv_entry ([.ref x]) (n := 3) (Nat.le_of_ble_eq_true rfl)
  rw [lg_entry_eq]
  generalize (lg_sl ([.ref x]) ++ List.replicate (3 - (lg_sl ([.ref x])).length) Slot.unset).toArray = ls at hl ⊢
  have hl : lv_has ls 3 [(0, .ref x)] := hl
  generalize hQ : MQ below (va_Qv (fun (u : (Int64 × Int32)) => True) (fun u => qB D (A) ((tn, .inr (5, [.long (u.1), .int (u.2)])) :: (x, .inr (0, [.int (nI kd), .int (nI M), .int (nI (M + ckb kd M)), .long (lN (2 ^ M - 1)), .int (nI (2 ^ ckb kd M - 1)), .ref oc, .ref tn, .int (nI ha), .int (nI af), .long (lN w1), .int (nI c1), .int (nI t1), .ref ac, .int (nI 1), .int (lb), .ref sp, .int (nI su)])) :: (ac, .inl (g 0, 8, .inl (fun i => nI (tbl (pairA kd M) (M + ckb kd M) (M + ckb kd M) i)))) :: (sp, .inl (g 0, 8, .inl (fs))) :: wr)) (A)) [.ref x].toArray s 0 0 A = Q
  have hck := ckb_le kd M
  rcases han with ⟨rfl, rfl⟩ | ⟨rfl, rfl⟩
  · skip
    have lp15 : ∀ (n : Nat) (a : Nat) (z1 : Int64) (z2 : Int32) (ls : Array Slot) (H : Heap) (locs : List Loc), (M + ckb kd M + 1 ≤ a + n) → (a ≤ M + ckb kd M) → lv_has ls 3 [(0, .ref x), (1, .int (nI a))] → va_P D vwCl ((tn, .inr (5, [.long (z1), .int (z2)])) :: (x, .inr (0, [.int (nI kd), .int (nI M), .int (nI (M + ckb kd M)), .long (lN (2 ^ M - 1)), .int (nI (2 ^ ckb kd M - 1)), .ref oc, .ref tn, .int (nI ha), .int (nI af), .long (lN w1), .int (nI c1), .int (nI t1), .ref ac, .int (nI 1), .int (lb), .ref sp, .int (nI su)])) :: (ac, .inl (g 0, 8, .inl (fun i => nI (tbl (pairA kd M) (M + ckb kd M) a i)))) :: (sp, .inl (g 0, 8, .inl (fs))) :: wr) H → va_D A ((tn, .inr (5, [.long (z1), .int (z2)])) :: (x, .inr (0, [.int (nI kd), .int (nI M), .int (nI (M + ckb kd M)), .long (lN (2 ^ M - 1)), .int (nI (2 ^ ckb kd M - 1)), .ref oc, .ref tn, .int (nI ha), .int (nI af), .long (lN w1), .int (nI c1), .int (nI t1), .ref ac, .int (nI 1), .int (lb), .ref sp, .int (nI su)])) :: (ac, .inl (g 0, 8, .inl (fun i => nI (tbl (pairA kd M) (M + ckb kd M) a i)))) :: (sp, .inl (g 0, 8, .inl (fs))) :: wr) → va_S A s.heap H locs → W p l e (headSpec w_C_countAnswers rm_C_countAnswers).room s m [.ref x].toArray below meth c H locs 0 0 Q (F0 m 15 ls []) := by
      intro n
      induction n with
      | zero => intro a z1 z2 ls H locs hfu hk _ _ _ _; exact absurd hfu (by omega)
      | succ n ih =>
        intro a z1 z2 ls H locs hfu hk hl hP hD hS
        refine lv_iload_n hx hb d_C_countAnswers_15 rfl (lv_at hl 1 rfl) ?_
        refine lv_aload_n hx hb d_C_countAnswers_16 rfl (lv_at hl 0 rfl) ?_
        refine va_get (D := D) (ci := 0) (v := .int (nI (M + ckb kd M))) (C := R_C) (T := F_C) (N := 17) hx hb hts i_C hown hK hP 1 rfl rfl 2 (by decide) (hts _ m_208) (fun _ h9 => h9) rfl d_C_countAnswers_17 ?_
        refine lx_icmp_ge (tgt := 69) hx hb d_C_countAnswers_20 (by decide) (by omega) (by omega) (fun c20 => ?_) (fun c20 => ?_)
        · skip
          have ea : a = M + ckb kd M := by omega
          rw [ea] at hP hD
          rw [← hQ]
          refine W.vret hx hb hr ?_ hS.2.2 d_C_countAnswers_69
          exact fun t ht hW => ⟨⟨(z1, z2), rfl, trivial, by rw [ht]; exact hP, hD⟩, hS.F ht⟩
        · skip
          have hp9 : pairA kd M a a < 4 := ans_lt hM0 hM (Nat.or_lt_two_pow (cpt_lt c20) (cpt_lt c20))
          have iha := ih
          refine lv_aload_n hx hb d_C_countAnswers_23 rfl (lv_at hl 0 rfl) ?_
          refine lv_aload_n hx hb d_C_countAnswers_24 rfl (lv_at hl 0 rfl) ?_
          refine lv_iload_n hx hb d_C_countAnswers_25 rfl (lv_at hl 1 rfl) ?_
          refine lv_iload_n hx hb d_C_countAnswers_26 rfl (lv_at hl 1 rfl) ?_
          refine lc_Vi (b := x) (As := [.int (nI a), .int (nI a)]) (rest := [.ref x]) ⟨hx, hb, hml, hown, hts⟩ (c_C_answerToPair l D g _ wr x tn ac sp oc kd M ha af w1 c1 t1 1 su z1 z2 lb (fun i => nI (tbl (pairA kd M) (M + ckb kd M) a i)) fs hcw hM0 hM a a c20 c20) (kV 2 hts m_494 m_491 m_493 m_3 m_30 (by decide +kernel) ⟨Nat.le_of_ble_eq_true rfl, Nat.le_of_ble_eq_true rfl⟩) (va_recv hK hP (ci := 0) (q0 := 1) rfl rfl) hKK hP hD hS hA hl.1 rfl rfl (Nat.le_of_ble_eq_true rfl) d_C_countAnswers_27 ⟨Nat.le_of_ble_eq_true rfl, Nat.le_of_ble_eq_true rfl⟩ (fun rr u H locs er hP hD hS => ?_)
          have hP : va_P D vwCl ((tn, .inr (5, [.long (u.1), .int (u.2)])) :: (x, .inr (0, [.int (nI kd), .int (nI M), .int (nI (M + ckb kd M)), .long (lN (2 ^ M - 1)), .int (nI (2 ^ ckb kd M - 1)), .ref oc, .ref tn, .int (nI ha), .int (nI af), .long (lN w1), .int (nI c1), .int (nI t1), .ref ac, .int (nI 1), .int (lb), .ref sp, .int (nI su)])) :: (ac, .inl (g 0, 8, .inl (fun i => nI (tbl (pairA kd M) (M + ckb kd M) a i)))) :: (sp, .inl (g 0, 8, .inl (fs))) :: wr) H := hP
          have hD : va_D A ((tn, .inr (5, [.long (u.1), .int (u.2)])) :: (x, .inr (0, [.int (nI kd), .int (nI M), .int (nI (M + ckb kd M)), .long (lN (2 ^ M - 1)), .int (nI (2 ^ ckb kd M - 1)), .ref oc, .ref tn, .int (nI ha), .int (nI af), .long (lN w1), .int (nI c1), .int (nI t1), .ref ac, .int (nI 1), .int (lb), .ref sp, .int (nI su)])) :: (ac, .inl (g 0, 8, .inl (fun i => nI (tbl (pairA kd M) (M + ckb kd M) a i)))) :: (sp, .inl (g 0, 8, .inl (fs))) :: wr) := hD
          obtain rfl : rr = nI (pairA kd M a a) := er
          refine lc_Vv (b := x) (As := [.int (nI (pairA kd M a a))]) (rest := []) ⟨hx, hb, hml, hown, hts⟩ (c_C_addToCount l D g _ wr x tn ac sp oc kd M ha af w1 c1 t1 1 su u.1 u.2 lb (fun i => nI (tbl (pairA kd M) (M + ckb kd M) a i)) fs hcw hM0 hM (pairA kd M a a) (by omega) (fun i => nI (tbl (pairA kd M) (M + ckb kd M) a i + trow (pairA kd M) a 0 i)) (tb_0a (pairA kd M) (M + ckb kd M) a)) (kV 1 hts m_529 m_526 m_528 m_8 m_30 (by decide +kernel) ⟨Nat.le_of_ble_eq_true rfl, Nat.le_of_ble_eq_true rfl⟩) (va_recv hK hP (ci := 0) (q0 := 1) rfl rfl) hKK hP hD hS hA hl.1 rfl rfl (Nat.le_of_ble_eq_true rfl) d_C_countAnswers_30 ⟨Nat.le_of_ble_eq_true rfl, Nat.le_of_ble_eq_true rfl⟩ (fun u9 H locs _ hP hD hS => ?_)
          have hP : va_P D vwCl ((tn, .inr (5, [.long (u.1), .int (u.2)])) :: (x, .inr (0, [.int (nI kd), .int (nI M), .int (nI (M + ckb kd M)), .long (lN (2 ^ M - 1)), .int (nI (2 ^ ckb kd M - 1)), .ref oc, .ref tn, .int (nI ha), .int (nI af), .long (lN w1), .int (nI c1), .int (nI t1), .ref ac, .int (nI 1), .int (lb), .ref sp, .int (nI su)])) :: (ac, .inl (g 0, 8, .inl (fun i => nI (tbl (pairA kd M) (M + ckb kd M) a i + trow (pairA kd M) a 0 i)))) :: (sp, .inl (g 0, 8, .inl (fs))) :: wr) H := hP
          have hD : va_D A ((tn, .inr (5, [.long (u.1), .int (u.2)])) :: (x, .inr (0, [.int (nI kd), .int (nI M), .int (nI (M + ckb kd M)), .long (lN (2 ^ M - 1)), .int (nI (2 ^ ckb kd M - 1)), .ref oc, .ref tn, .int (nI ha), .int (nI af), .long (lN w1), .int (nI c1), .int (nI t1), .ref ac, .int (nI 1), .int (lb), .ref sp, .int (nI su)])) :: (ac, .inl (g 0, 8, .inl (fun i => nI (tbl (pairA kd M) (M + ckb kd M) a i + trow (pairA kd M) a 0 i)))) :: (sp, .inl (g 0, 8, .inl (fs))) :: wr) := hD
          have lp37 : ∀ (n : Nat) (k : Nat) (z1 : Int64) (z2 : Int32) (ls : Array Slot) (H : Heap) (locs : List Loc), (M + ckb kd M + 1 ≤ a + 1 + k + n) → (a + 1 + k ≤ M + ckb kd M) → lv_has ls 3 [(0, .ref x), (1, .int (nI a)), (2, .int (nI (a + 1 + k)))] → va_P D vwCl ((tn, .inr (5, [.long (z1), .int (z2)])) :: (x, .inr (0, [.int (nI kd), .int (nI M), .int (nI (M + ckb kd M)), .long (lN (2 ^ M - 1)), .int (nI (2 ^ ckb kd M - 1)), .ref oc, .ref tn, .int (nI ha), .int (nI af), .long (lN w1), .int (nI c1), .int (nI t1), .ref ac, .int (nI 1), .int (lb), .ref sp, .int (nI su)])) :: (ac, .inl (g 0, 8, .inl (fun i => nI (tbl (pairA kd M) (M + ckb kd M) a i + trow (pairA kd M) a k i)))) :: (sp, .inl (g 0, 8, .inl (fs))) :: wr) H → va_D A ((tn, .inr (5, [.long (z1), .int (z2)])) :: (x, .inr (0, [.int (nI kd), .int (nI M), .int (nI (M + ckb kd M)), .long (lN (2 ^ M - 1)), .int (nI (2 ^ ckb kd M - 1)), .ref oc, .ref tn, .int (nI ha), .int (nI af), .long (lN w1), .int (nI c1), .int (nI t1), .ref ac, .int (nI 1), .int (lb), .ref sp, .int (nI su)])) :: (ac, .inl (g 0, 8, .inl (fun i => nI (tbl (pairA kd M) (M + ckb kd M) a i + trow (pairA kd M) a k i)))) :: (sp, .inl (g 0, 8, .inl (fs))) :: wr) → va_S A s.heap H locs → W p l e (headSpec w_C_countAnswers rm_C_countAnswers).room s m [.ref x].toArray below meth c H locs 0 0 Q (F0 m 37 ls []) := by
            intro n
            induction n with
            | zero => intro k z1 z2 ls H locs hfu hk _ _ _ _; exact absurd hfu (by omega)
            | succ n ih =>
              intro k z1 z2 ls H locs hfu hk hl hP hD hS
              refine lv_iload_n hx hb d_C_countAnswers_37 rfl (lv_at hl 2 rfl) ?_
              refine lv_aload_n hx hb d_C_countAnswers_38 rfl (lv_at hl 0 rfl) ?_
              refine va_get (D := D) (ci := 0) (v := .int (nI (M + ckb kd M))) (C := R_C) (T := F_C) (N := 17) hx hb hts i_C hown hK hP 1 rfl rfl 2 (by decide) (hts _ m_208) (fun _ h9 => h9) rfl d_C_countAnswers_39 ?_
              refine lx_icmp_ge (tgt := 63) hx hb d_C_countAnswers_42 (by decide) (by omega) (by omega) (fun c42 => ?_) (fun c42 => ?_)
              · skip
                have ek : M + ckb kd M - (a + 1) = k := by omega
                have e9 : (fun i => nI (tbl (pairA kd M) (M + ckb kd M) a i + trow (pairA kd M) a k i)) = (fun i => nI (tbl (pairA kd M) (M + ckb kd M) (a + 1) i)) := by funext i; show _ = nI (tbl (pairA kd M) (M + ckb kd M) a i + trow (pairA kd M) a (M + ckb kd M - (a + 1)) i); rw [ek]
                rw [e9] at hP hD
                refine lv_iinc (v := nI (a + 1)) (lv' := [(1, .int (nI (a + 1))), (0, .ref x), (2, .int (nI (a + 1 + k)))]) hx hb d_C_countAnswers_63 hl (k := 1) rfl (nI_1 a) (by decide) rfl (fun ls hl => ?_)
                refine lv_goto (tgt := 15) hx hb d_C_countAnswers_66 (by decide) ?_
                exact iha (a + 1) z1 z2 _ _ _ (by omega) (by omega) (lv_sub hl [1, 0] rfl) hP hD hS
              · skip
                have hp9 : pairA kd M a (a + 1 + k) < 4 := ans_lt hM0 hM (Nat.or_lt_two_pow (cpt_lt (by omega)) (cpt_lt (by omega)))
                refine lv_aload_n hx hb d_C_countAnswers_45 rfl (lv_at hl 0 rfl) ?_
                refine lv_iconst (v := nI 4) hx hb d_C_countAnswers_46 (by decide) ?_
                refine lv_aload_n hx hb d_C_countAnswers_47 rfl (lv_at hl 0 rfl) ?_
                refine lv_iload_n hx hb d_C_countAnswers_48 rfl (lv_at hl 1 rfl) ?_
                refine lv_iload_n hx hb d_C_countAnswers_49 rfl (lv_at hl 2 rfl) ?_
                refine lc_Vi (b := x) (As := [.int (nI a), .int (nI (a + 1 + k))]) (rest := [.int (nI 4), .ref x]) ⟨hx, hb, hml, hown, hts⟩ (c_C_answerToPair l D g _ wr x tn ac sp oc kd M ha af w1 c1 t1 1 su z1 z2 lb (fun i => nI (tbl (pairA kd M) (M + ckb kd M) a i + trow (pairA kd M) a k i)) fs hcw hM0 hM a (a + 1 + k) (by omega) (by omega)) (kV 2 hts m_494 m_491 m_493 m_3 m_30 (by decide +kernel) ⟨Nat.le_of_ble_eq_true rfl, Nat.le_of_ble_eq_true rfl⟩) (va_recv hK hP (ci := 0) (q0 := 1) rfl rfl) hKK hP hD hS hA hl.1 rfl rfl (Nat.le_of_ble_eq_true rfl) d_C_countAnswers_50 ⟨Nat.le_of_ble_eq_true rfl, Nat.le_of_ble_eq_true rfl⟩ (fun rr u H locs er hP hD hS => ?_)
                have hP : va_P D vwCl ((tn, .inr (5, [.long (u.1), .int (u.2)])) :: (x, .inr (0, [.int (nI kd), .int (nI M), .int (nI (M + ckb kd M)), .long (lN (2 ^ M - 1)), .int (nI (2 ^ ckb kd M - 1)), .ref oc, .ref tn, .int (nI ha), .int (nI af), .long (lN w1), .int (nI c1), .int (nI t1), .ref ac, .int (nI 1), .int (lb), .ref sp, .int (nI su)])) :: (ac, .inl (g 0, 8, .inl (fun i => nI (tbl (pairA kd M) (M + ckb kd M) a i + trow (pairA kd M) a k i)))) :: (sp, .inl (g 0, 8, .inl (fs))) :: wr) H := hP
                have hD : va_D A ((tn, .inr (5, [.long (u.1), .int (u.2)])) :: (x, .inr (0, [.int (nI kd), .int (nI M), .int (nI (M + ckb kd M)), .long (lN (2 ^ M - 1)), .int (nI (2 ^ ckb kd M - 1)), .ref oc, .ref tn, .int (nI ha), .int (nI af), .long (lN w1), .int (nI c1), .int (nI t1), .ref ac, .int (nI 1), .int (lb), .ref sp, .int (nI su)])) :: (ac, .inl (g 0, 8, .inl (fun i => nI (tbl (pairA kd M) (M + ckb kd M) a i + trow (pairA kd M) a k i)))) :: (sp, .inl (g 0, 8, .inl (fs))) :: wr) := hD
                obtain rfl : rr = nI (pairA kd M a (a + 1 + k)) := er
                refine lx_iadd (z := nI (4 + (pairA kd M a (a + 1 + k)))) hx hb d_C_countAnswers_53 (nI_add 4 (pairA kd M a (a + 1 + k))) ?_
                refine lc_Vv (b := x) (As := [.int (nI (4 + (pairA kd M a (a + 1 + k))))]) (rest := []) ⟨hx, hb, hml, hown, hts⟩ (c_C_addToCount l D g _ wr x tn ac sp oc kd M ha af w1 c1 t1 1 su u.1 u.2 lb (fun i => nI (tbl (pairA kd M) (M + ckb kd M) a i + trow (pairA kd M) a k i)) fs hcw hM0 hM (4 + pairA kd M a (a + 1 + k)) (by omega) (fun i => nI (tbl (pairA kd M) (M + ckb kd M) a i + trow (pairA kd M) a (k + 1) i)) (tb_sa (pairA kd M) (M + ckb kd M) a k)) (kV 1 hts m_529 m_526 m_528 m_8 m_30 (by decide +kernel) ⟨Nat.le_of_ble_eq_true rfl, Nat.le_of_ble_eq_true rfl⟩) (va_recv hK hP (ci := 0) (q0 := 1) rfl rfl) hKK hP hD hS hA hl.1 rfl rfl (Nat.le_of_ble_eq_true rfl) d_C_countAnswers_54 ⟨Nat.le_of_ble_eq_true rfl, Nat.le_of_ble_eq_true rfl⟩ (fun u9 H locs _ hP hD hS => ?_)
                have hP : va_P D vwCl ((tn, .inr (5, [.long (u.1), .int (u.2)])) :: (x, .inr (0, [.int (nI kd), .int (nI M), .int (nI (M + ckb kd M)), .long (lN (2 ^ M - 1)), .int (nI (2 ^ ckb kd M - 1)), .ref oc, .ref tn, .int (nI ha), .int (nI af), .long (lN w1), .int (nI c1), .int (nI t1), .ref ac, .int (nI 1), .int (lb), .ref sp, .int (nI su)])) :: (ac, .inl (g 0, 8, .inl (fun i => nI (tbl (pairA kd M) (M + ckb kd M) a i + trow (pairA kd M) a (k + 1) i)))) :: (sp, .inl (g 0, 8, .inl (fs))) :: wr) H := hP
                have hD : va_D A ((tn, .inr (5, [.long (u.1), .int (u.2)])) :: (x, .inr (0, [.int (nI kd), .int (nI M), .int (nI (M + ckb kd M)), .long (lN (2 ^ M - 1)), .int (nI (2 ^ ckb kd M - 1)), .ref oc, .ref tn, .int (nI ha), .int (nI af), .long (lN w1), .int (nI c1), .int (nI t1), .ref ac, .int (nI 1), .int (lb), .ref sp, .int (nI su)])) :: (ac, .inl (g 0, 8, .inl (fun i => nI (tbl (pairA kd M) (M + ckb kd M) a i + trow (pairA kd M) a (k + 1) i)))) :: (sp, .inl (g 0, 8, .inl (fs))) :: wr) := hD
                refine lv_iinc (v := nI (a + 1 + k + 1)) (lv' := [(2, .int (nI (a + 1 + k + 1))), (0, .ref x), (1, .int (nI a))]) hx hb d_C_countAnswers_57 hl (k := 2) rfl (nI_1 (a + 1 + k)) (by decide) rfl (fun ls hl => ?_)
                refine lv_goto (tgt := 37) hx hb d_C_countAnswers_60 (by decide) ?_
                exact ih (k + 1) u.1 u.2 _ _ _ (by omega) (by omega) (lv_sub hl [1, 2, 0] rfl) hP hD hS
          refine lv_iload_n hx hb d_C_countAnswers_33 rfl (lv_at hl 1 rfl) ?_
          refine lv_iconst (v := nI 1) hx hb d_C_countAnswers_34 (by decide) ?_
          refine lx_iadd (z := nI (a + 1)) hx hb d_C_countAnswers_35 (nI_add a 1) ?_
          refine lv_istore_n (lv' := [(2, .int (nI (a + 1))), (0, .ref x), (1, .int (nI a))]) hx hb d_C_countAnswers_36 rfl hl (by decide) rfl (fun ls hl => ?_)
          have hl : lv_has ls 3 [(2, .int (nI (a + 1 + 0))), (0, .ref x), (1, .int (nI a))] := by rw [Nat.add_zero]; exact hl
          exact lp37 (M + ckb kd M + 1) 0 u.1 u.2 _ _ _ (by omega) (by omega) (lv_sub hl [1, 2, 0] rfl) hP hD hS
    refine lv_aload_n hx hb d_C_countAnswers_0 rfl (lv_at hl 0 rfl) ?_
    refine va_get (D := D) (ci := 0) (v := .int (nI 0)) (C := R_C) (T := F_C) (N := 17) hx hb hts i_C hown hK hP 1 rfl rfl 13 (by decide) (hts _ m_219) (fun _ h9 => h9) rfl d_C_countAnswers_1 ?_
    refine lx_if_eq (tgt := 8) hx hb d_C_countAnswers_4 (by decide) (by omega) (fun c4 => ?_) (fun c4 => ?_)
    · skip
      refine lv_aload_n hx hb d_C_countAnswers_8 rfl (lv_at hl 0 rfl) ?_
      refine lv_iconst (v := nI 1) hx hb d_C_countAnswers_9 (by decide) ?_
      refine va_put (D := D) (ci := 0) (v := .int (nI 1)) (ty := .boolean) (C := R_C) (T := F_C) (N := 17) hx hb hts i_C tf_C tf_C_ok nf_C hown hK hP hD hS 1 rfl rfl 13 (by decide) (hts _ m_219) (fun _ h9 => h9) rfl (by decide +kernel) rfl rfl (Nat.le_of_ble_eq_true rfl) d_C_countAnswers_10 (fun H locs hP hD hS => ?_)
      have hP : va_P D vwCl ((tn, .inr (5, [.long (a0), .int (b0)])) :: (x, .inr (0, [.int (nI kd), .int (nI M), .int (nI (M + ckb kd M)), .long (lN (2 ^ M - 1)), .int (nI (2 ^ ckb kd M - 1)), .ref oc, .ref tn, .int (nI ha), .int (nI af), .long (lN w1), .int (nI c1), .int (nI t1), .ref ac, .int (nI 1), .int (lb), .ref sp, .int (nI su)])) :: (ac, .inl (g 0, 8, .inl (fun _ => nI 0))) :: (sp, .inl (g 0, 8, .inl (fs))) :: wr) H := hP
      have hD : va_D A ((tn, .inr (5, [.long (a0), .int (b0)])) :: (x, .inr (0, [.int (nI kd), .int (nI M), .int (nI (M + ckb kd M)), .long (lN (2 ^ M - 1)), .int (nI (2 ^ ckb kd M - 1)), .ref oc, .ref tn, .int (nI ha), .int (nI af), .long (lN w1), .int (nI c1), .int (nI t1), .ref ac, .int (nI 1), .int (lb), .ref sp, .int (nI su)])) :: (ac, .inl (g 0, 8, .inl (fun _ => nI 0))) :: (sp, .inl (g 0, 8, .inl (fs))) :: wr) := hD
      refine lv_iconst (v := nI 0) hx hb d_C_countAnswers_13 (by decide) ?_
      refine lv_istore_n (lv' := [(1, .int (nI 0)), (0, .ref x)]) hx hb d_C_countAnswers_14 rfl hl (by decide) rfl (fun ls hl => ?_)
      exact lp15 (M + ckb kd M + 1) 0 a0 b0 _ _ _ (by omega) (by omega) (lv_sub hl [1, 0] rfl) hP hD hS
    · skip
      exact absurd rfl c4
  · skip
    refine lv_aload_n hx hb d_C_countAnswers_0 rfl (lv_at hl 0 rfl) ?_
    refine va_get (D := D) (ci := 0) (v := .int (nI 1)) (C := R_C) (T := F_C) (N := 17) hx hb hts i_C hown hK hP 1 rfl rfl 13 (by decide) (hts _ m_219) (fun _ h9 => h9) rfl d_C_countAnswers_1 ?_
    refine lx_if_eq (tgt := 8) hx hb d_C_countAnswers_4 (by decide) (by omega) (fun c4 => ?_) (fun c4 => ?_)
    · skip
      exact absurd c4 (by decide)
    · skip
      rw [← hQ]
      refine W.vret hx hb hr ?_ hS.2.2 d_C_countAnswers_7
      exact fun t ht hW => ⟨⟨(a0, b0), rfl, trivial, by rw [ht]; exact hP, hD⟩, hS.F ht⟩
set_option maxHeartbeats 4000000 in
set_option maxRecDepth 100000 in
theorem c_C_table (l : Launch) (D : va_G) (g : Nat → ClassId) (sz : Nat) (wr : va_W) (x tn ac sp oc kd M ha af w1 c1 t1 an su : Nat) (a0 : Int64) (b0 lb : Int32) (fa fs : Nat → Int32) (hcw : CodeW g kd M oc wr) (hM0 : 0 < M) (hM : M ≤ 57) (k : Nat) (hk9 : k < 8) (han : (an = 0 ∧ fa = fun _ => nI 0) ∨ (an = 1 ∧ fa = fun i => nI (tbl (pairA kd M) (M + ckb kd M) (M + ckb kd M) i))) : Met l y_C_table w_C_table rm_C_table (va_Pc [.ref x, .int (nI k)] (pP D (tyl g) ((tn, .inr (5, [.long (a0), .int (b0)])) :: (x, .inr (0, [.int (nI kd), .int (nI M), .int (nI (M + ckb kd M)), .long (lN (2 ^ M - 1)), .int (nI (2 ^ ckb kd M - 1)), .ref oc, .ref tn, .int (nI ha), .int (nI af), .long (lN w1), .int (nI c1), .int (nI t1), .ref ac, .int (nI an), .int (lb), .ref sp, .int (nI su)])) :: (ac, .inl (g 0, 8, .inl (fa))) :: (sp, .inl (g 0, 8, .inl (fs))) :: wr) sz)) (va_Qi (fun (r : Int32) (u : (Int64 × Int32)) => r = nI (tbl (pairA kd M) (M + ckb kd M) (M + ckb kd M) k)) (fun u => qB D (va_A ((tn, .inr (5, [.long (a0), .int (b0)])) :: (x, .inr (0, [.int (nI kd), .int (nI M), .int (nI (M + ckb kd M)), .long (lN (2 ^ M - 1)), .int (nI (2 ^ ckb kd M - 1)), .ref oc, .ref tn, .int (nI ha), .int (nI af), .long (lN w1), .int (nI c1), .int (nI t1), .ref ac, .int (nI an), .int (lb), .ref sp, .int (nI su)])) :: (ac, .inl (g 0, 8, .inl (fa))) :: (sp, .inl (g 0, 8, .inl (fs))) :: wr) sz) ((tn, .inr (5, [.long (u.1), .int (u.2)])) :: (x, .inr (0, [.int (nI kd), .int (nI M), .int (nI (M + ckb kd M)), .long (lN (2 ^ M - 1)), .int (nI (2 ^ ckb kd M - 1)), .ref oc, .ref tn, .int (nI ha), .int (nI af), .long (lN w1), .int (nI c1), .int (nI t1), .ref ac, .int (nI 1), .int (lb), .ref sp, .int (nI su)])) :: (ac, .inl (g 0, 8, .inl (fun i => nI (tbl (pairA kd M) (M + ckb kd M) (M + ckb kd M) i)))) :: (sp, .inl (g 0, 8, .inl (fs))) :: wr)) (va_A ((tn, .inr (5, [.long (a0), .int (b0)])) :: (x, .inr (0, [.int (nI kd), .int (nI M), .int (nI (M + ckb kd M)), .long (lN (2 ^ M - 1)), .int (nI (2 ^ ckb kd M - 1)), .ref oc, .ref tn, .int (nI ha), .int (nI af), .long (lN w1), .int (nI c1), .int (nI t1), .ref ac, .int (nI an), .int (lb), .ref sp, .int (nI su)])) :: (ac, .inl (g 0, 8, .inl (fa))) :: (sp, .inl (g 0, 8, .inl (fs))) :: wr) sz)) 0 0 (va_A ((tn, .inr (5, [.long (a0), .int (b0)])) :: (x, .inr (0, [.int (nI kd), .int (nI M), .int (nI (M + ckb kd M)), .long (lN (2 ^ M - 1)), .int (nI (2 ^ ckb kd M - 1)), .ref oc, .ref tn, .int (nI ha), .int (nI af), .long (lN w1), .int (nI c1), .int (nI t1), .ref ac, .int (nI an), .int (lb), .ref sp, .int (nI su)])) :: (ac, .inl (g 0, 8, .inl (fa))) :: (sp, .inl (g 0, 8, .inl (fs))) :: wr) sz) := by
  refine Met.ofW (cc := b_C_table) (maxL := 2) (ret := (some .int)) (by decide +kernel) rfl ?_
  intro p e s m args below meth c s₁ Bq hml hv
  have hx := Bq.exec
  have hb := Bq.bytes
  have hr := Bq.returns
  have hts : ∀ w ∈ wA, w.before args s = true := fun w h => atoms_spec (ws := w_C_table) Bq.pre w (List.mem_cons_of_mem _ h)
  have hown : s.vm.findClass R_C = some m.cls := findClass_of_methodNamed Bq.named
  have hlocks := Bq.notSynchronized
  obtain ⟨rfl, hsz, hP, hKK, hD0⟩ := hv
  have hK := hKK.1
  subst hsz
  have hD := hD0.self (sz := s.heap.size)
  generalize hAe : va_A ((tn, .inr (5, [.long (a0), .int (b0)])) :: (x, .inr (0, [.int (nI kd), .int (nI M), .int (nI (M + ckb kd M)), .long (lN (2 ^ M - 1)), .int (nI (2 ^ ckb kd M - 1)), .ref oc, .ref tn, .int (nI ha), .int (nI af), .long (lN w1), .int (nI c1), .int (nI t1), .ref ac, .int (nI an), .int (lb), .ref sp, .int (nI su)])) :: (ac, .inl (g 0, 8, .inl (fa))) :: (sp, .inl (g 0, 8, .inl (fs))) :: wr) s.heap.size = A at hD ⊢
  have hA : ∀ q : Nat, s.heap.size ≤ q → A q := fun q h => by rw [← hAe]; exact Or.inr h
  have hS : va_S A s.heap s.heap [] := va_S.rf
  have hl := lv_entry ([.ref x, .int (nI k)]) (n := 2) (Nat.le_of_ble_eq_true rfl)
  rw [lg_entry_eq]
  generalize (lg_sl ([.ref x, .int (nI k)]) ++ List.replicate (2 - (lg_sl ([.ref x, .int (nI k)])).length) Slot.unset).toArray = ls at hl ⊢
  have hl : lv_has ls 2 [(0, .ref x), (1, .int (nI k))] := hl
  generalize hQ : MQ below (va_Qi (fun (r : Int32) (u : (Int64 × Int32)) => r = nI (tbl (pairA kd M) (M + ckb kd M) (M + ckb kd M) k)) (fun u => qB D (A) ((tn, .inr (5, [.long (u.1), .int (u.2)])) :: (x, .inr (0, [.int (nI kd), .int (nI M), .int (nI (M + ckb kd M)), .long (lN (2 ^ M - 1)), .int (nI (2 ^ ckb kd M - 1)), .ref oc, .ref tn, .int (nI ha), .int (nI af), .long (lN w1), .int (nI c1), .int (nI t1), .ref ac, .int (nI 1), .int (lb), .ref sp, .int (nI su)])) :: (ac, .inl (g 0, 8, .inl (fun i => nI (tbl (pairA kd M) (M + ckb kd M) (M + ckb kd M) i)))) :: (sp, .inl (g 0, 8, .inl (fs))) :: wr)) (A)) [.ref x, .int (nI k)].toArray s 0 0 A = Q
  refine lv_iload_n hx hb d_C_table_0 rfl (lv_at hl 1 rfl) ?_
  refine lx_if_lt (tgt := 13) hx hb d_C_table_1 (by decide) (by omega) ?_
  refine lv_iload_n hx hb d_C_table_4 rfl (lv_at hl 1 rfl) ?_
  refine lv_aload_n hx hb d_C_table_5 rfl (lv_at hl 0 rfl) ?_
  refine va_get (D := D) (ci := 0) (v := .ref ac) (C := R_C) (T := F_C) (N := 17) hx hb hts i_C hown hK hP 1 rfl rfl 12 (by decide) (hts _ m_218) (fun _ h9 => h9) rfl d_C_table_6 ?_
  refine va_alen hx hb hK hP 2 0 rfl (v := nI 8) rfl (rfl) d_C_table_9 ?_
  refine lx_icmp_lt (tgt := 23) hx hb d_C_table_10 (by decide) (by omega) (by omega) (fun k10 => ?_) (fun k10 => ?_)
  · skip
    refine lv_aload_n hx hb d_C_table_23 rfl (lv_at hl 0 rfl) ?_
    refine lc_Vv (b := x) (As := []) (rest := []) ⟨hx, hb, hml, hown, hts⟩ (c_C_countAnswers l D g _ wr x tn ac sp oc kd M ha af w1 c1 t1 an su a0 b0 lb fa fs hcw hM0 hM han) (kV 0 hts m_525 m_522 m_524 m_7 m_30 (by decide +kernel) ⟨Nat.le_of_ble_eq_true rfl, Nat.le_of_ble_eq_true rfl⟩) (va_recv hK hP (ci := 0) (q0 := 1) rfl rfl) hKK hP hD hS hA hl.1 rfl rfl (Nat.le_of_ble_eq_true rfl) d_C_table_24 ⟨Nat.le_of_ble_eq_true rfl, Nat.le_of_ble_eq_true rfl⟩ (fun u H locs _ hP hD hS => ?_)
    have hP : va_P D vwCl ((tn, .inr (5, [.long (u.1), .int (u.2)])) :: (x, .inr (0, [.int (nI kd), .int (nI M), .int (nI (M + ckb kd M)), .long (lN (2 ^ M - 1)), .int (nI (2 ^ ckb kd M - 1)), .ref oc, .ref tn, .int (nI ha), .int (nI af), .long (lN w1), .int (nI c1), .int (nI t1), .ref ac, .int (nI 1), .int (lb), .ref sp, .int (nI su)])) :: (ac, .inl (g 0, 8, .inl (fun i => nI (tbl (pairA kd M) (M + ckb kd M) (M + ckb kd M) i)))) :: (sp, .inl (g 0, 8, .inl (fs))) :: wr) H := hP
    have hD : va_D A ((tn, .inr (5, [.long (u.1), .int (u.2)])) :: (x, .inr (0, [.int (nI kd), .int (nI M), .int (nI (M + ckb kd M)), .long (lN (2 ^ M - 1)), .int (nI (2 ^ ckb kd M - 1)), .ref oc, .ref tn, .int (nI ha), .int (nI af), .long (lN w1), .int (nI c1), .int (nI t1), .ref ac, .int (nI 1), .int (lb), .ref sp, .int (nI su)])) :: (ac, .inl (g 0, 8, .inl (fun i => nI (tbl (pairA kd M) (M + ckb kd M) (M + ckb kd M) i)))) :: (sp, .inl (g 0, 8, .inl (fs))) :: wr) := hD
    refine lv_aload_n hx hb d_C_table_27 rfl (lv_at hl 0 rfl) ?_
    refine va_get (D := D) (ci := 0) (v := .ref ac) (C := R_C) (T := F_C) (N := 17) hx hb hts i_C hown hK hP 1 rfl rfl 12 (by decide) (hts _ m_218) (fun _ h9 => h9) rfl d_C_table_28 ?_
    refine lv_iload_n hx hb d_C_table_31 rfl (lv_at hl 1 rfl) ?_
    refine lx_iald (v := nI (tbl (pairA kd M) (M + ckb kd M) (M + ckb kd M) k)) hx hb hK hP 2 0 rfl rfl (j := k) (by omega) (by omega) (rfl) d_C_table_32 ?_
    rw [← hQ]
    refine W.iret (v := nI (tbl (pairA kd M) (M + ckb kd M) (M + ckb kd M) k)) hx hb hr ?_ hS.2.2 d_C_table_33
    exact fun t ht hW => ⟨⟨nI (tbl (pairA kd M) (M + ckb kd M) (M + ckb kd M) k), u, rfl, rfl, by rw [ht]; exact hP, hD⟩, hS.F ht⟩
  · skip
    exact absurd hk9 (by omega)
set_option maxHeartbeats 4000000 in
set_option maxRecDepth 100000 in
theorem c_C_greatestCommonDivisor (l : Launch) (D : va_G) (g : Nat → ClassId) (sz : Nat) (ws : va_W) (a b : Nat) (ha : a < 2 ^ 20) (hb9 : b < 2 ^ 20) : Met l y_C_greatestCommonDivisor w_C_greatestCommonDivisor rm_C_greatestCommonDivisor (va_Pc [.int (nI a), .int (nI b)] (pP D (tyl g) (ws) sz)) (va_Qi (fun (r : Int32) (u : Unit) => r = nI (Nat.gcd a b)) (fun u => qB D (va_A (ws) sz) (ws)) (va_A (ws) sz)) 0 0 (va_A (ws) sz) := by
  refine Met.ofW (cc := b_C_greatestCommonDivisor) (maxL := 6) (ret := (some .int)) (by decide +kernel) rfl ?_
  intro p e s m args below meth c s₁ Bq hml hv
  have hx := Bq.exec
  have hb := Bq.bytes
  have hr := Bq.returns
  have hts : ∀ w ∈ wA, w.before args s = true := fun w h => atoms_spec (ws := w_C_greatestCommonDivisor) Bq.pre w (List.mem_cons_of_mem _ h)
  have hown : s.vm.findClass R_C = some m.cls := findClass_of_methodNamed Bq.named
  have hlocks := Bq.notSynchronized
  obtain ⟨rfl, hsz, hP, hKK, hD0⟩ := hv
  have hK := hKK.1
  subst hsz
  have hD := hD0.self (sz := s.heap.size)
  generalize hAe : va_A (ws) s.heap.size = A at hD ⊢
  have hA : ∀ q : Nat, s.heap.size ≤ q → A q := fun q h => by rw [← hAe]; exact Or.inr h
  have hS : va_S A s.heap s.heap [] := va_S.rf
  have hl := lv_entry ([.int (nI a), .int (nI b)]) (n := 6) (Nat.le_of_ble_eq_true rfl)
  rw [lg_entry_eq]
  generalize (lg_sl ([.int (nI a), .int (nI b)]) ++ List.replicate (6 - (lg_sl ([.int (nI a), .int (nI b)])).length) Slot.unset).toArray = ls at hl ⊢
  have hl : lv_has ls 6 [(0, .int (nI a)), (1, .int (nI b))] := hl
  generalize hQ : MQ below (va_Qi (fun (r : Int32) (u : Unit) => r = nI (Nat.gcd a b)) (fun u => qB D (A) (ws)) (A)) [.int (nI a), .int (nI b)].toArray s 0 0 A = Q
  have lp7 : ∀ (n : Nat) (k x y : Nat) (ls : Array Slot) (H : Heap) (locs : List Loc), (65 ≤ k + n) → (k ≤ 64) → (x < 2 ^ 20) → (y < 2 ^ 20) → (gcdI (64 - k) x y = Nat.gcd a b) → lv_has ls 6 [(2, .int (nI x)), (3, .int (nI y)), (4, .int (nI k))] → va_P D vwCl (ws) H → va_D A (ws) → va_S A s.heap H locs → W p l e (headSpec w_C_greatestCommonDivisor rm_C_greatestCommonDivisor).room s m [.int (nI a), .int (nI b)].toArray below meth c H locs 0 0 Q (F0 m 7 ls []) := by
    intro n
    induction n with
    | zero => intro k x y ls H locs hfu hk hx9 hy9 hR _ _ _ _; exact absurd hfu (by omega)
    | succ n ih =>
      intro k x y ls H locs hfu hk hx9 hy9 hR hl hP hD hS
      refine lv_iload hx hb d_C_greatestCommonDivisor_7 (lv_at hl 2 rfl) ?_
      refine lv_bipush (v := nI 64) hx hb d_C_greatestCommonDivisor_9 (by decide) ?_
      refine lx_icmp_ge (tgt := 34) hx hb d_C_greatestCommonDivisor_11 (by decide) (by omega) (by omega) (fun c11 => ?_) (fun c11 => ?_)
      · skip
        refine lv_iload_n hx hb d_C_greatestCommonDivisor_34 rfl (lv_at hl 0 rfl) ?_
        rw [← hQ]
        refine W.iret (v := nI x) hx hb hr ?_ hS.2.2 d_C_greatestCommonDivisor_35
        exact fun t ht hW => ⟨⟨nI x, (), rfl, (by rw [show 64 - k = 0 by omega] at hR; rw [← hR]; rfl), by rw [ht]; exact hP, hD⟩, hS.F ht⟩
      · skip
        refine lv_iload_n hx hb d_C_greatestCommonDivisor_14 rfl (lv_at hl 1 rfl) ?_
        refine lx_if_eq (tgt := 34) hx hb d_C_greatestCommonDivisor_15 (by decide) (by omega) (fun c15 => ?_) (fun c15 => ?_)
        · skip
          refine lv_iload_n hx hb d_C_greatestCommonDivisor_34 rfl (lv_at hl 0 rfl) ?_
          rw [← hQ]
          refine W.iret (v := nI x) hx hb hr ?_ hS.2.2 d_C_greatestCommonDivisor_35
          exact fun t ht hW => ⟨⟨nI x, (), rfl, (by rw [c15, gcdI_0] at hR; rw [hR]), by rw [ht]; exact hP, hD⟩, hS.F ht⟩
        · skip
          have hm9 := Nat.mod_lt x (show 0 < y by omega)
          refine lv_iload_n hx hb d_C_greatestCommonDivisor_18 rfl (lv_at hl 0 rfl) ?_
          refine lv_iload_n hx hb d_C_greatestCommonDivisor_19 rfl (lv_at hl 1 rfl) ?_
          refine lx_irem (z := nI (x % y)) hx hb d_C_greatestCommonDivisor_20 (nI_ne0 (by omega) (by omega)) (pk_rem (by omega) (by omega) (by omega)) ?_
          refine lv_istore (lv' := [(5, .int (nI (x % y))), (2, .int (nI x)), (3, .int (nI y)), (4, .int (nI k))]) hx hb d_C_greatestCommonDivisor_21 hl (by decide) rfl (fun ls hl => ?_)
          refine lv_iload_n hx hb d_C_greatestCommonDivisor_23 rfl (lv_at hl 2 rfl) ?_
          refine lv_istore_n (lv' := [(2, .int (nI y)), (5, .int (nI (x % y))), (3, .int (nI y)), (4, .int (nI k))]) hx hb d_C_greatestCommonDivisor_24 rfl hl (by decide) rfl (fun ls hl => ?_)
          refine lv_iload hx hb d_C_greatestCommonDivisor_25 (lv_at hl 1 rfl) ?_
          refine lv_istore_n (lv' := [(3, .int (nI (x % y))), (2, .int (nI y)), (5, .int (nI (x % y))), (4, .int (nI k))]) hx hb d_C_greatestCommonDivisor_27 rfl hl (by decide) rfl (fun ls hl => ?_)
          refine lv_iinc (v := nI (k + 1)) (lv' := [(4, .int (nI (k + 1))), (3, .int (nI (x % y))), (2, .int (nI y)), (5, .int (nI (x % y)))]) hx hb d_C_greatestCommonDivisor_28 hl (k := 3) rfl (nI_1 k) (by decide) rfl (fun ls hl => ?_)
          refine lv_goto (tgt := 7) hx hb d_C_greatestCommonDivisor_31 (by decide) ?_
          exact ih (k + 1) y (x % y) _ _ _ (by omega) (by omega) (by omega) (by omega) (by rw [← hR, show 64 - k = 63 - k + 1 by omega, gcdI_s c15, show 64 - (k + 1) = 63 - k by omega]) (lv_sub hl [2, 1, 0] rfl) hP hD hS
  refine lv_iload_n hx hb d_C_greatestCommonDivisor_0 rfl (lv_at hl 0 rfl) ?_
  refine lv_istore_n (lv' := [(2, .int (nI a)), (0, .int (nI a)), (1, .int (nI b))]) hx hb d_C_greatestCommonDivisor_1 rfl hl (by decide) rfl (fun ls hl => ?_)
  refine lv_iload_n hx hb d_C_greatestCommonDivisor_2 rfl (lv_at hl 2 rfl) ?_
  refine lv_istore_n (lv' := [(3, .int (nI b)), (2, .int (nI a)), (0, .int (nI a)), (1, .int (nI b))]) hx hb d_C_greatestCommonDivisor_3 rfl hl (by decide) rfl (fun ls hl => ?_)
  refine lv_iconst (v := nI 0) hx hb d_C_greatestCommonDivisor_4 (by decide) ?_
  refine lv_istore (lv' := [(4, .int (nI 0)), (3, .int (nI b)), (2, .int (nI a)), (0, .int (nI a)), (1, .int (nI b))]) hx hb d_C_greatestCommonDivisor_5 hl (by decide) rfl (fun ls hl => ?_)
  exact lp7 65 0 a b _ _ _ (by omega) (by omega) (by omega) (by omega) (gcdI_64 hb9) (lv_sub hl [2, 1, 0] rfl) hP hD hS
set_option maxHeartbeats 4000000 in
set_option maxRecDepth 100000 in
theorem c_C_share (l : Launch) (D : va_G) (g : Nat → ClassId) (sz : Nat) (wr : va_W) (x tn ac sp oc kd M ha af w1 c1 t1 an su : Nat) (a0 : Int64) (b0 lb : Int32) (fa fs : Nat → Int32) (hcw : CodeW g kd M oc wr) (hM0 : 0 < M) (hM : M ≤ 57) (k : Nat) (hk9 : k ≤ 1) (han : (an = 0 ∧ fa = fun _ => nI 0) ∨ (an = 1 ∧ fa = fun i => nI (tbl (pairA kd M) (M + ckb kd M) (M + ckb kd M) i))) : Met l y_C_share w_C_share rm_C_share (va_Pc [.ref x, .int (nI k)] (pP D (tyl g) ((tn, .inr (5, [.long (a0), .int (b0)])) :: (x, .inr (0, [.int (nI kd), .int (nI M), .int (nI (M + ckb kd M)), .long (lN (2 ^ M - 1)), .int (nI (2 ^ ckb kd M - 1)), .ref oc, .ref tn, .int (nI ha), .int (nI af), .long (lN w1), .int (nI c1), .int (nI t1), .ref ac, .int (nI an), .int (lb), .ref sp, .int (nI su)])) :: (ac, .inl (g 0, 8, .inl (fa))) :: (sp, .inl (g 0, 8, .inl (fs))) :: wr) sz)) (va_Qi (fun (r : Int32) (u : (Int64 × Int32)) => r = nI (shr kd M k)) (fun u => qB D (va_A ((tn, .inr (5, [.long (a0), .int (b0)])) :: (x, .inr (0, [.int (nI kd), .int (nI M), .int (nI (M + ckb kd M)), .long (lN (2 ^ M - 1)), .int (nI (2 ^ ckb kd M - 1)), .ref oc, .ref tn, .int (nI ha), .int (nI af), .long (lN w1), .int (nI c1), .int (nI t1), .ref ac, .int (nI an), .int (lb), .ref sp, .int (nI su)])) :: (ac, .inl (g 0, 8, .inl (fa))) :: (sp, .inl (g 0, 8, .inl (fs))) :: wr) sz) ((tn, .inr (5, [.long (u.1), .int (u.2)])) :: (x, .inr (0, [.int (nI kd), .int (nI M), .int (nI (M + ckb kd M)), .long (lN (2 ^ M - 1)), .int (nI (2 ^ ckb kd M - 1)), .ref oc, .ref tn, .int (nI ha), .int (nI af), .long (lN w1), .int (nI c1), .int (nI t1), .ref ac, .int (nI 1), .int (lb), .ref sp, .int (nI su)])) :: (ac, .inl (g 0, 8, .inl (fun i => nI (tbl (pairA kd M) (M + ckb kd M) (M + ckb kd M) i)))) :: (sp, .inl (g 0, 8, .inl (fs))) :: wr)) (va_A ((tn, .inr (5, [.long (a0), .int (b0)])) :: (x, .inr (0, [.int (nI kd), .int (nI M), .int (nI (M + ckb kd M)), .long (lN (2 ^ M - 1)), .int (nI (2 ^ ckb kd M - 1)), .ref oc, .ref tn, .int (nI ha), .int (nI af), .long (lN w1), .int (nI c1), .int (nI t1), .ref ac, .int (nI an), .int (lb), .ref sp, .int (nI su)])) :: (ac, .inl (g 0, 8, .inl (fa))) :: (sp, .inl (g 0, 8, .inl (fs))) :: wr) sz)) 0 0 (va_A ((tn, .inr (5, [.long (a0), .int (b0)])) :: (x, .inr (0, [.int (nI kd), .int (nI M), .int (nI (M + ckb kd M)), .long (lN (2 ^ M - 1)), .int (nI (2 ^ ckb kd M - 1)), .ref oc, .ref tn, .int (nI ha), .int (nI af), .long (lN w1), .int (nI c1), .int (nI t1), .ref ac, .int (nI an), .int (lb), .ref sp, .int (nI su)])) :: (ac, .inl (g 0, 8, .inl (fa))) :: (sp, .inl (g 0, 8, .inl (fs))) :: wr) sz) := by
  refine Met.ofW (cc := b_C_share) (maxL := 5) (ret := (some .int)) (by decide +kernel) rfl ?_
  intro p e s m args below meth c s₁ Bq hml hv
  have hx := Bq.exec
  have hb := Bq.bytes
  have hr := Bq.returns
  have hts : ∀ w ∈ wA, w.before args s = true := fun w h => atoms_spec (ws := w_C_share) Bq.pre w (List.mem_cons_of_mem _ h)
  have hown : s.vm.findClass R_C = some m.cls := findClass_of_methodNamed Bq.named
  have hlocks := Bq.notSynchronized
  obtain ⟨rfl, hsz, hP, hKK, hD0⟩ := hv
  have hK := hKK.1
  subst hsz
  have hD := hD0.self (sz := s.heap.size)
  generalize hAe : va_A ((tn, .inr (5, [.long (a0), .int (b0)])) :: (x, .inr (0, [.int (nI kd), .int (nI M), .int (nI (M + ckb kd M)), .long (lN (2 ^ M - 1)), .int (nI (2 ^ ckb kd M - 1)), .ref oc, .ref tn, .int (nI ha), .int (nI af), .long (lN w1), .int (nI c1), .int (nI t1), .ref ac, .int (nI an), .int (lb), .ref sp, .int (nI su)])) :: (ac, .inl (g 0, 8, .inl (fa))) :: (sp, .inl (g 0, 8, .inl (fs))) :: wr) s.heap.size = A at hD ⊢
  have hA : ∀ q : Nat, s.heap.size ≤ q → A q := fun q h => by rw [← hAe]; exact Or.inr h
  have hS : va_S A s.heap s.heap [] := va_S.rf
  have hl := lv_entry ([.ref x, .int (nI k)]) (n := 5) (Nat.le_of_ble_eq_true rfl)
  rw [lg_entry_eq]
  generalize (lg_sl ([.ref x, .int (nI k)]) ++ List.replicate (5 - (lg_sl ([.ref x, .int (nI k)])).length) Slot.unset).toArray = ls at hl ⊢
  have hl : lv_has ls 5 [(0, .ref x), (1, .int (nI k))] := hl
  generalize hQ : MQ below (va_Qi (fun (r : Int32) (u : (Int64 × Int32)) => r = nI (shr kd M k)) (fun u => qB D (A) ((tn, .inr (5, [.long (u.1), .int (u.2)])) :: (x, .inr (0, [.int (nI kd), .int (nI M), .int (nI (M + ckb kd M)), .long (lN (2 ^ M - 1)), .int (nI (2 ^ ckb kd M - 1)), .ref oc, .ref tn, .int (nI ha), .int (nI af), .long (lN w1), .int (nI c1), .int (nI t1), .ref ac, .int (nI 1), .int (lb), .ref sp, .int (nI su)])) :: (ac, .inl (g 0, 8, .inl (fun i => nI (tbl (pairA kd M) (M + ckb kd M) (M + ckb kd M) i)))) :: (sp, .inl (g 0, 8, .inl (fs))) :: wr)) (A)) [.ref x, .int (nI k)].toArray s 0 0 A = Q
  have hck := ckb_le kd M
  obtain ⟨hb1, hb2⟩ := shr_below (kd := kd) hM0 hM
  have ht7 := tbl7_le (kd := kd) hM
  have hg0 : 0 < Nat.gcd (tbl (pairA kd M) (M + ckb kd M) (M + ckb kd M) 7) ((M + ckb kd M) * (M + ckb kd M - 1) / 2) := Nat.gcd_pos_of_pos_right _ hb1
  have hgl : Nat.gcd (tbl (pairA kd M) (M + ckb kd M) (M + ckb kd M) 7) ((M + ckb kd M) * (M + ckb kd M - 1) / 2) ≤ (M + ckb kd M) * (M + ckb kd M - 1) / 2 := Nat.gcd_le_right _ hb1
  refine lv_iload_n hx hb d_C_share_0 rfl (lv_at hl 1 rfl) ?_
  refine lx_if_eq (tgt := 19) hx hb d_C_share_1 (by decide) (by omega) (fun k1 => ?_) (fun k1 => ?_)
  · skip
    refine lv_aload_n hx hb d_C_share_19 rfl (lv_at hl 0 rfl) ?_
    refine lc_Vv (b := x) (As := []) (rest := []) ⟨hx, hb, hml, hown, hts⟩ (c_C_countAnswers l D g _ wr x tn ac sp oc kd M ha af w1 c1 t1 an su a0 b0 lb fa fs hcw hM0 hM han) (kV 0 hts m_525 m_522 m_524 m_7 m_30 (by decide +kernel) ⟨Nat.le_of_ble_eq_true rfl, Nat.le_of_ble_eq_true rfl⟩) (va_recv hK hP (ci := 0) (q0 := 1) rfl rfl) hKK hP hD hS hA hl.1 rfl rfl (Nat.le_of_ble_eq_true rfl) d_C_share_20 ⟨Nat.le_of_ble_eq_true rfl, Nat.le_of_ble_eq_true rfl⟩ (fun u H locs _ hP hD hS => ?_)
    have hP : va_P D vwCl ((tn, .inr (5, [.long (u.1), .int (u.2)])) :: (x, .inr (0, [.int (nI kd), .int (nI M), .int (nI (M + ckb kd M)), .long (lN (2 ^ M - 1)), .int (nI (2 ^ ckb kd M - 1)), .ref oc, .ref tn, .int (nI ha), .int (nI af), .long (lN w1), .int (nI c1), .int (nI t1), .ref ac, .int (nI 1), .int (lb), .ref sp, .int (nI su)])) :: (ac, .inl (g 0, 8, .inl (fun i => nI (tbl (pairA kd M) (M + ckb kd M) (M + ckb kd M) i)))) :: (sp, .inl (g 0, 8, .inl (fs))) :: wr) H := hP
    have hD : va_D A ((tn, .inr (5, [.long (u.1), .int (u.2)])) :: (x, .inr (0, [.int (nI kd), .int (nI M), .int (nI (M + ckb kd M)), .long (lN (2 ^ M - 1)), .int (nI (2 ^ ckb kd M - 1)), .ref oc, .ref tn, .int (nI ha), .int (nI af), .long (lN w1), .int (nI c1), .int (nI t1), .ref ac, .int (nI 1), .int (lb), .ref sp, .int (nI su)])) :: (ac, .inl (g 0, 8, .inl (fun i => nI (tbl (pairA kd M) (M + ckb kd M) (M + ckb kd M) i)))) :: (sp, .inl (g 0, 8, .inl (fs))) :: wr) := hD
    refine lv_aload_n hx hb d_C_share_23 rfl (lv_at hl 0 rfl) ?_
    refine va_get (D := D) (ci := 0) (v := .ref ac) (C := R_C) (T := F_C) (N := 17) hx hb hts i_C hown hK hP 1 rfl rfl 12 (by decide) (hts _ m_218) (fun _ h9 => h9) rfl d_C_share_24 ?_
    refine lv_bipush (v := nI 7) hx hb d_C_share_27 (by decide) ?_
    refine lx_iald (v := nI (tbl (pairA kd M) (M + ckb kd M) (M + ckb kd M) 7)) hx hb hK hP 2 0 rfl rfl (j := 7) (by omega) (by omega) (rfl) d_C_share_29 ?_
    refine lv_istore_n (lv' := [(2, .int (nI (tbl (pairA kd M) (M + ckb kd M) (M + ckb kd M) 7))), (0, .ref x), (1, .int (nI k))]) hx hb d_C_share_30 rfl hl (by decide) rfl (fun ls hl => ?_)
    refine lv_aload_n hx hb d_C_share_31 rfl (lv_at hl 1 rfl) ?_
    refine va_get (D := D) (ci := 0) (v := .int (nI (M + ckb kd M))) (C := R_C) (T := F_C) (N := 17) hx hb hts i_C hown hK hP 1 rfl rfl 2 (by decide) (hts _ m_208) (fun _ h9 => h9) rfl d_C_share_32 ?_
    refine lv_aload_n hx hb d_C_share_35 rfl (lv_at hl 1 rfl) ?_
    refine va_get (D := D) (ci := 0) (v := .int (nI (M + ckb kd M))) (C := R_C) (T := F_C) (N := 17) hx hb hts i_C hown hK hP 1 rfl rfl 2 (by decide) (hts _ m_208) (fun _ h9 => h9) rfl d_C_share_36 ?_
    refine lv_iconst (v := nI 1) hx hb d_C_share_39 (by decide) ?_
    refine lx_isub (z := nI (M + ckb kd M - 1)) hx hb d_C_share_40 (pk_sub (by omega)) ?_
    refine lx_imul (z := nI ((M + ckb kd M) * (M + ckb kd M - 1))) hx hb d_C_share_41 (pk_mul _ _) ?_
    refine lv_iconst (v := nI 2) hx hb d_C_share_42 (by decide) ?_
    refine lx_idiv (z := nI ((M + ckb kd M) * (M + ckb kd M - 1) / 2)) hx hb d_C_share_43 (nI_ne0 (by omega) (by omega)) (pk_div (by omega) (by omega) (by omega)) ?_
    refine lv_istore_n (lv' := [(3, .int (nI ((M + ckb kd M) * (M + ckb kd M - 1) / 2))), (2, .int (nI (tbl (pairA kd M) (M + ckb kd M) (M + ckb kd M) 7))), (0, .ref x), (1, .int (nI k))]) hx hb d_C_share_44 rfl hl (by decide) rfl (fun ls hl => ?_)
    refine lv_iload_n hx hb d_C_share_45 rfl (lv_at hl 1 rfl) ?_
    refine lv_iload_n hx hb d_C_share_46 rfl (lv_at hl 0 rfl) ?_
    refine lc_Si (As := [.int (nI (tbl (pairA kd M) (M + ckb kd M) (M + ckb kd M) 7)), .int (nI ((M + ckb kd M) * (M + ckb kd M - 1) / 2))]) (rest := []) ⟨hx, hb, hml, hown, hts⟩ (c_C_greatestCommonDivisor l D g _ _ (tbl (pairA kd M) (M + ckb kd M) (M + ckb kd M) 7) ((M + ckb kd M) * (M + ckb kd M - 1) / 2) (by omega) (by omega)) (kS 2 hts m_584 m_582 m_583 m_30 (by decide +kernel) ⟨Nat.le_of_ble_eq_true rfl, Nat.le_of_ble_eq_true rfl⟩) hKK hP hD hS hA hl.1 rfl rfl (Nat.le_of_ble_eq_true rfl) d_C_share_47 ⟨Nat.le_of_ble_eq_true rfl, Nat.le_of_ble_eq_true rfl⟩ (fun r1 u2 H locs e1 hP hD hS => ?_)
    obtain rfl : r1 = nI (Nat.gcd (tbl (pairA kd M) (M + ckb kd M) (M + ckb kd M) 7) ((M + ckb kd M) * (M + ckb kd M - 1) / 2)) := e1
    refine lv_istore (lv' := [(4, .int (nI (Nat.gcd (tbl (pairA kd M) (M + ckb kd M) (M + ckb kd M) 7) ((M + ckb kd M) * (M + ckb kd M - 1) / 2)))), (3, .int (nI ((M + ckb kd M) * (M + ckb kd M - 1) / 2))), (2, .int (nI (tbl (pairA kd M) (M + ckb kd M) (M + ckb kd M) 7))), (0, .ref x), (1, .int (nI k))]) hx hb d_C_share_50 hl (by decide) rfl (fun ls hl => ?_)
    refine lv_iload_n hx hb d_C_share_52 rfl (lv_at hl 1 rfl) ?_
    refine lx_if_eq (tgt := 61) hx hb d_C_share_53 (by decide) (by omega) (fun c53 => ?_) (fun c53 => ?_)
    · skip
      exact absurd c53 (by omega)
    · skip
      refine lv_iload hx hb d_C_share_56 (lv_at hl 0 rfl) ?_
      refine lx_if_ne (tgt := 71) hx hb d_C_share_58 (by decide) (by omega) (fun c58 => ?_) (fun c58 => ?_)
      · skip
        refine lv_iload_n hx hb d_C_share_71 rfl (lv_at hl 4 rfl) ?_
        refine lx_if_ne (tgt := 79) hx hb d_C_share_72 (by decide) (by omega) (fun c72 => ?_) (fun c72 => ?_)
        · skip
          refine lv_iload_n hx hb d_C_share_79 rfl (lv_at hl 1 rfl) ?_
          refine lv_iload hx hb d_C_share_80 (lv_at hl 0 rfl) ?_
          refine lx_idiv (z := nI (((M + ckb kd M) * (M + ckb kd M - 1) / 2) / Nat.gcd (tbl (pairA kd M) (M + ckb kd M) (M + ckb kd M) 7) ((M + ckb kd M) * (M + ckb kd M - 1) / 2))) hx hb d_C_share_82 (nI_ne0 (by omega) (by omega)) (pk_div (by omega) (by omega) (by omega)) ?_
          rw [← hQ]
          refine W.iret (v := nI (((M + ckb kd M) * (M + ckb kd M - 1) / 2) / Nat.gcd (tbl (pairA kd M) (M + ckb kd M) (M + ckb kd M) 7) ((M + ckb kd M) * (M + ckb kd M - 1) / 2))) hx hb hr ?_ hS.2.2 d_C_share_83
          exact fun t ht hW => ⟨⟨nI (((M + ckb kd M) * (M + ckb kd M - 1) / 2) / Nat.gcd (tbl (pairA kd M) (M + ckb kd M) (M + ckb kd M) 7) ((M + ckb kd M) * (M + ckb kd M - 1) / 2)), u, rfl, (by unfold shr; rw [if_neg c72]), by rw [ht]; exact hP, hD⟩, hS.F ht⟩
        · skip
          refine lv_iload_n hx hb d_C_share_75 rfl (lv_at hl 2 rfl) ?_
          refine lv_goto (tgt := 80) hx hb d_C_share_76 (by decide) ?_
          refine lv_iload hx hb d_C_share_80 (lv_at hl 0 rfl) ?_
          refine lx_idiv (z := nI ((tbl (pairA kd M) (M + ckb kd M) (M + ckb kd M) 7) / Nat.gcd (tbl (pairA kd M) (M + ckb kd M) (M + ckb kd M) 7) ((M + ckb kd M) * (M + ckb kd M - 1) / 2))) hx hb d_C_share_82 (nI_ne0 (by omega) (by omega)) (pk_div (by omega) (by omega) (by omega)) ?_
          rw [← hQ]
          refine W.iret (v := nI ((tbl (pairA kd M) (M + ckb kd M) (M + ckb kd M) 7) / Nat.gcd (tbl (pairA kd M) (M + ckb kd M) (M + ckb kd M) 7) ((M + ckb kd M) * (M + ckb kd M - 1) / 2))) hx hb hr ?_ hS.2.2 d_C_share_83
          exact fun t ht hW => ⟨⟨nI ((tbl (pairA kd M) (M + ckb kd M) (M + ckb kd M) 7) / Nat.gcd (tbl (pairA kd M) (M + ckb kd M) (M + ckb kd M) 7) ((M + ckb kd M) * (M + ckb kd M - 1) / 2)), u, rfl, (by unfold shr; rw [if_pos c72]), by rw [ht]; exact hP, hD⟩, hS.F ht⟩
      · skip
        exact absurd c58 (by omega)
  · skip
    refine lv_iload_n hx hb d_C_share_4 rfl (lv_at hl 1 rfl) ?_
    refine lv_iconst (v := nI 1) hx hb d_C_share_5 (by decide) ?_
    refine lx_icmp_eq (tgt := 19) hx hb d_C_share_6 (by decide) (by omega) (by omega) (fun k6 => ?_) (fun k6 => ?_)
    · skip
      refine lv_aload_n hx hb d_C_share_19 rfl (lv_at hl 0 rfl) ?_
      refine lc_Vv (b := x) (As := []) (rest := []) ⟨hx, hb, hml, hown, hts⟩ (c_C_countAnswers l D g _ wr x tn ac sp oc kd M ha af w1 c1 t1 an su a0 b0 lb fa fs hcw hM0 hM han) (kV 0 hts m_525 m_522 m_524 m_7 m_30 (by decide +kernel) ⟨Nat.le_of_ble_eq_true rfl, Nat.le_of_ble_eq_true rfl⟩) (va_recv hK hP (ci := 0) (q0 := 1) rfl rfl) hKK hP hD hS hA hl.1 rfl rfl (Nat.le_of_ble_eq_true rfl) d_C_share_20 ⟨Nat.le_of_ble_eq_true rfl, Nat.le_of_ble_eq_true rfl⟩ (fun u H locs _ hP hD hS => ?_)
      have hP : va_P D vwCl ((tn, .inr (5, [.long (u.1), .int (u.2)])) :: (x, .inr (0, [.int (nI kd), .int (nI M), .int (nI (M + ckb kd M)), .long (lN (2 ^ M - 1)), .int (nI (2 ^ ckb kd M - 1)), .ref oc, .ref tn, .int (nI ha), .int (nI af), .long (lN w1), .int (nI c1), .int (nI t1), .ref ac, .int (nI 1), .int (lb), .ref sp, .int (nI su)])) :: (ac, .inl (g 0, 8, .inl (fun i => nI (tbl (pairA kd M) (M + ckb kd M) (M + ckb kd M) i)))) :: (sp, .inl (g 0, 8, .inl (fs))) :: wr) H := hP
      have hD : va_D A ((tn, .inr (5, [.long (u.1), .int (u.2)])) :: (x, .inr (0, [.int (nI kd), .int (nI M), .int (nI (M + ckb kd M)), .long (lN (2 ^ M - 1)), .int (nI (2 ^ ckb kd M - 1)), .ref oc, .ref tn, .int (nI ha), .int (nI af), .long (lN w1), .int (nI c1), .int (nI t1), .ref ac, .int (nI 1), .int (lb), .ref sp, .int (nI su)])) :: (ac, .inl (g 0, 8, .inl (fun i => nI (tbl (pairA kd M) (M + ckb kd M) (M + ckb kd M) i)))) :: (sp, .inl (g 0, 8, .inl (fs))) :: wr) := hD
      refine lv_aload_n hx hb d_C_share_23 rfl (lv_at hl 0 rfl) ?_
      refine va_get (D := D) (ci := 0) (v := .ref ac) (C := R_C) (T := F_C) (N := 17) hx hb hts i_C hown hK hP 1 rfl rfl 12 (by decide) (hts _ m_218) (fun _ h9 => h9) rfl d_C_share_24 ?_
      refine lv_bipush (v := nI 7) hx hb d_C_share_27 (by decide) ?_
      refine lx_iald (v := nI (tbl (pairA kd M) (M + ckb kd M) (M + ckb kd M) 7)) hx hb hK hP 2 0 rfl rfl (j := 7) (by omega) (by omega) (rfl) d_C_share_29 ?_
      refine lv_istore_n (lv' := [(2, .int (nI (tbl (pairA kd M) (M + ckb kd M) (M + ckb kd M) 7))), (0, .ref x), (1, .int (nI k))]) hx hb d_C_share_30 rfl hl (by decide) rfl (fun ls hl => ?_)
      refine lv_aload_n hx hb d_C_share_31 rfl (lv_at hl 1 rfl) ?_
      refine va_get (D := D) (ci := 0) (v := .int (nI (M + ckb kd M))) (C := R_C) (T := F_C) (N := 17) hx hb hts i_C hown hK hP 1 rfl rfl 2 (by decide) (hts _ m_208) (fun _ h9 => h9) rfl d_C_share_32 ?_
      refine lv_aload_n hx hb d_C_share_35 rfl (lv_at hl 1 rfl) ?_
      refine va_get (D := D) (ci := 0) (v := .int (nI (M + ckb kd M))) (C := R_C) (T := F_C) (N := 17) hx hb hts i_C hown hK hP 1 rfl rfl 2 (by decide) (hts _ m_208) (fun _ h9 => h9) rfl d_C_share_36 ?_
      refine lv_iconst (v := nI 1) hx hb d_C_share_39 (by decide) ?_
      refine lx_isub (z := nI (M + ckb kd M - 1)) hx hb d_C_share_40 (pk_sub (by omega)) ?_
      refine lx_imul (z := nI ((M + ckb kd M) * (M + ckb kd M - 1))) hx hb d_C_share_41 (pk_mul _ _) ?_
      refine lv_iconst (v := nI 2) hx hb d_C_share_42 (by decide) ?_
      refine lx_idiv (z := nI ((M + ckb kd M) * (M + ckb kd M - 1) / 2)) hx hb d_C_share_43 (nI_ne0 (by omega) (by omega)) (pk_div (by omega) (by omega) (by omega)) ?_
      refine lv_istore_n (lv' := [(3, .int (nI ((M + ckb kd M) * (M + ckb kd M - 1) / 2))), (2, .int (nI (tbl (pairA kd M) (M + ckb kd M) (M + ckb kd M) 7))), (0, .ref x), (1, .int (nI k))]) hx hb d_C_share_44 rfl hl (by decide) rfl (fun ls hl => ?_)
      refine lv_iload_n hx hb d_C_share_45 rfl (lv_at hl 1 rfl) ?_
      refine lv_iload_n hx hb d_C_share_46 rfl (lv_at hl 0 rfl) ?_
      refine lc_Si (As := [.int (nI (tbl (pairA kd M) (M + ckb kd M) (M + ckb kd M) 7)), .int (nI ((M + ckb kd M) * (M + ckb kd M - 1) / 2))]) (rest := []) ⟨hx, hb, hml, hown, hts⟩ (c_C_greatestCommonDivisor l D g _ _ (tbl (pairA kd M) (M + ckb kd M) (M + ckb kd M) 7) ((M + ckb kd M) * (M + ckb kd M - 1) / 2) (by omega) (by omega)) (kS 2 hts m_584 m_582 m_583 m_30 (by decide +kernel) ⟨Nat.le_of_ble_eq_true rfl, Nat.le_of_ble_eq_true rfl⟩) hKK hP hD hS hA hl.1 rfl rfl (Nat.le_of_ble_eq_true rfl) d_C_share_47 ⟨Nat.le_of_ble_eq_true rfl, Nat.le_of_ble_eq_true rfl⟩ (fun r1 u2 H locs e1 hP hD hS => ?_)
      obtain rfl : r1 = nI (Nat.gcd (tbl (pairA kd M) (M + ckb kd M) (M + ckb kd M) 7) ((M + ckb kd M) * (M + ckb kd M - 1) / 2)) := e1
      refine lv_istore (lv' := [(4, .int (nI (Nat.gcd (tbl (pairA kd M) (M + ckb kd M) (M + ckb kd M) 7) ((M + ckb kd M) * (M + ckb kd M - 1) / 2)))), (3, .int (nI ((M + ckb kd M) * (M + ckb kd M - 1) / 2))), (2, .int (nI (tbl (pairA kd M) (M + ckb kd M) (M + ckb kd M) 7))), (0, .ref x), (1, .int (nI k))]) hx hb d_C_share_50 hl (by decide) rfl (fun ls hl => ?_)
      refine lv_iload_n hx hb d_C_share_52 rfl (lv_at hl 1 rfl) ?_
      refine lx_if_eq (tgt := 61) hx hb d_C_share_53 (by decide) (by omega) (fun c53 => ?_) (fun c53 => ?_)
      · skip
        exact absurd c53 (by omega)
      · skip
        refine lv_iload hx hb d_C_share_56 (lv_at hl 0 rfl) ?_
        refine lx_if_ne (tgt := 71) hx hb d_C_share_58 (by decide) (by omega) (fun c58 => ?_) (fun c58 => ?_)
        · skip
          refine lv_iload_n hx hb d_C_share_71 rfl (lv_at hl 4 rfl) ?_
          refine lx_if_ne (tgt := 79) hx hb d_C_share_72 (by decide) (by omega) (fun c72 => ?_) (fun c72 => ?_)
          · skip
            refine lv_iload_n hx hb d_C_share_79 rfl (lv_at hl 1 rfl) ?_
            refine lv_iload hx hb d_C_share_80 (lv_at hl 0 rfl) ?_
            refine lx_idiv (z := nI (((M + ckb kd M) * (M + ckb kd M - 1) / 2) / Nat.gcd (tbl (pairA kd M) (M + ckb kd M) (M + ckb kd M) 7) ((M + ckb kd M) * (M + ckb kd M - 1) / 2))) hx hb d_C_share_82 (nI_ne0 (by omega) (by omega)) (pk_div (by omega) (by omega) (by omega)) ?_
            rw [← hQ]
            refine W.iret (v := nI (((M + ckb kd M) * (M + ckb kd M - 1) / 2) / Nat.gcd (tbl (pairA kd M) (M + ckb kd M) (M + ckb kd M) 7) ((M + ckb kd M) * (M + ckb kd M - 1) / 2))) hx hb hr ?_ hS.2.2 d_C_share_83
            exact fun t ht hW => ⟨⟨nI (((M + ckb kd M) * (M + ckb kd M - 1) / 2) / Nat.gcd (tbl (pairA kd M) (M + ckb kd M) (M + ckb kd M) 7) ((M + ckb kd M) * (M + ckb kd M - 1) / 2)), u, rfl, (by unfold shr; rw [if_neg c72]), by rw [ht]; exact hP, hD⟩, hS.F ht⟩
          · skip
            refine lv_iload_n hx hb d_C_share_75 rfl (lv_at hl 2 rfl) ?_
            refine lv_goto (tgt := 80) hx hb d_C_share_76 (by decide) ?_
            refine lv_iload hx hb d_C_share_80 (lv_at hl 0 rfl) ?_
            refine lx_idiv (z := nI ((tbl (pairA kd M) (M + ckb kd M) (M + ckb kd M) 7) / Nat.gcd (tbl (pairA kd M) (M + ckb kd M) (M + ckb kd M) 7) ((M + ckb kd M) * (M + ckb kd M - 1) / 2))) hx hb d_C_share_82 (nI_ne0 (by omega) (by omega)) (pk_div (by omega) (by omega) (by omega)) ?_
            rw [← hQ]
            refine W.iret (v := nI ((tbl (pairA kd M) (M + ckb kd M) (M + ckb kd M) 7) / Nat.gcd (tbl (pairA kd M) (M + ckb kd M) (M + ckb kd M) 7) ((M + ckb kd M) * (M + ckb kd M - 1) / 2))) hx hb hr ?_ hS.2.2 d_C_share_83
            exact fun t ht hW => ⟨⟨nI ((tbl (pairA kd M) (M + ckb kd M) (M + ckb kd M) 7) / Nat.gcd (tbl (pairA kd M) (M + ckb kd M) (M + ckb kd M) 7) ((M + ckb kd M) * (M + ckb kd M - 1) / 2)), u, rfl, (by unfold shr; rw [if_pos c72]), by rw [ht]; exact hP, hD⟩, hS.F ht⟩
        · skip
          exact absurd c58 (by omega)
    · skip
      exact absurd k6 (by omega)
set_option maxHeartbeats 4000000 in
set_option maxRecDepth 100000 in
theorem c_C_allMended (l : Launch) (D : va_G) (g : Nat → ClassId) (sz : Nat) (wr : va_W) (x tn ac sp oc kd M ha af w1 c1 t1 an su : Nat) (a0 : Int64) (b0 lb : Int32) (fa fs : Nat → Int32) (hcw : CodeW g kd M oc wr) (hM0 : 0 < M) (hM : M ≤ 57) (n0 : Nat) (h19 : 1 ≤ n0) (h69 : n0 ≤ 6) : Met l y_C_allMended w_C_allMended rm_C_allMended (va_Pc [.ref x, .int (nI n0)] (pP D (tyl g) ((tn, .inr (5, [.long (a0), .int (b0)])) :: (x, .inr (0, [.int (nI kd), .int (nI M), .int (nI (M + ckb kd M)), .long (lN (2 ^ M - 1)), .int (nI (2 ^ ckb kd M - 1)), .ref oc, .ref tn, .int (nI ha), .int (nI af), .long (lN w1), .int (nI c1), .int (nI t1), .ref ac, .int (nI an), .int (lb), .ref sp, .int (nI su)])) :: (ac, .inl (g 0, 8, .inl (fa))) :: (sp, .inl (g 0, 8, .inl (fs))) :: wr) sz)) (va_Qi (fun (r : Int32) (u : (Int64 × Int32)) => (r = nI 1 ∧ aM kd M n0) ∨ (r = nI 0 ∧ ¬ aM kd M n0)) (fun u => qB D (va_A ((tn, .inr (5, [.long (a0), .int (b0)])) :: (x, .inr (0, [.int (nI kd), .int (nI M), .int (nI (M + ckb kd M)), .long (lN (2 ^ M - 1)), .int (nI (2 ^ ckb kd M - 1)), .ref oc, .ref tn, .int (nI ha), .int (nI af), .long (lN w1), .int (nI c1), .int (nI t1), .ref ac, .int (nI an), .int (lb), .ref sp, .int (nI su)])) :: (ac, .inl (g 0, 8, .inl (fa))) :: (sp, .inl (g 0, 8, .inl (fs))) :: wr) sz) ((tn, .inr (5, [.long (u.1), .int (u.2)])) :: (x, .inr (0, [.int (nI kd), .int (nI M), .int (nI (M + ckb kd M)), .long (lN (2 ^ M - 1)), .int (nI (2 ^ ckb kd M - 1)), .ref oc, .ref tn, .int (nI ha), .int (nI af), .long (lN w1), .int (nI c1), .int (nI t1), .ref ac, .int (nI an), .int (lb), .ref sp, .int (nI su)])) :: (ac, .inl (g 0, 8, .inl (fa))) :: (sp, .inl (g 0, 8, .inl (fs))) :: wr)) (va_A ((tn, .inr (5, [.long (a0), .int (b0)])) :: (x, .inr (0, [.int (nI kd), .int (nI M), .int (nI (M + ckb kd M)), .long (lN (2 ^ M - 1)), .int (nI (2 ^ ckb kd M - 1)), .ref oc, .ref tn, .int (nI ha), .int (nI af), .long (lN w1), .int (nI c1), .int (nI t1), .ref ac, .int (nI an), .int (lb), .ref sp, .int (nI su)])) :: (ac, .inl (g 0, 8, .inl (fa))) :: (sp, .inl (g 0, 8, .inl (fs))) :: wr) sz)) 0 0 (va_A ((tn, .inr (5, [.long (a0), .int (b0)])) :: (x, .inr (0, [.int (nI kd), .int (nI M), .int (nI (M + ckb kd M)), .long (lN (2 ^ M - 1)), .int (nI (2 ^ ckb kd M - 1)), .ref oc, .ref tn, .int (nI ha), .int (nI af), .long (lN w1), .int (nI c1), .int (nI t1), .ref ac, .int (nI an), .int (lb), .ref sp, .int (nI su)])) :: (ac, .inl (g 0, 8, .inl (fa))) :: (sp, .inl (g 0, 8, .inl (fs))) :: wr) sz) := by
  refine Met.ofW (cc := b_C_allMended) (maxL := 5) (ret := (some .boolean)) (by decide +kernel) rfl ?_
  intro p e s m args below meth c s₁ Bq hml hv
  have hx := Bq.exec
  have hb := Bq.bytes
  have hr := Bq.returns
  have hts : ∀ w ∈ wA, w.before args s = true := fun w h => atoms_spec (ws := w_C_allMended) Bq.pre w (List.mem_cons_of_mem _ h)
  have hown : s.vm.findClass R_C = some m.cls := findClass_of_methodNamed Bq.named
  have hlocks := Bq.notSynchronized
  obtain ⟨rfl, hsz, hP, hKK, hD0⟩ := hv
  have hK := hKK.1
  subst hsz
  have hD := hD0.self (sz := s.heap.size)
  generalize hAe : va_A ((tn, .inr (5, [.long (a0), .int (b0)])) :: (x, .inr (0, [.int (nI kd), .int (nI M), .int (nI (M + ckb kd M)), .long (lN (2 ^ M - 1)), .int (nI (2 ^ ckb kd M - 1)), .ref oc, .ref tn, .int (nI ha), .int (nI af), .long (lN w1), .int (nI c1), .int (nI t1), .ref ac, .int (nI an), .int (lb), .ref sp, .int (nI su)])) :: (ac, .inl (g 0, 8, .inl (fa))) :: (sp, .inl (g 0, 8, .inl (fs))) :: wr) s.heap.size = A at hD ⊢
  have hA : ∀ q : Nat, s.heap.size ≤ q → A q := fun q h => by rw [← hAe]; exact Or.inr h
  have hS : va_S A s.heap s.heap [] := va_S.rf
  have hl := lv_entry ([.ref x, .int (nI n0)]) (n := 5) (Nat.le_of_ble_eq_true rfl)
  rw [lg_entry_eq]
  generalize (lg_sl ([.ref x, .int (nI n0)]) ++ List.replicate (5 - (lg_sl ([.ref x, .int (nI n0)])).length) Slot.unset).toArray = ls at hl ⊢
  have hl : lv_has ls 5 [(0, .ref x), (1, .int (nI n0))] := hl
  generalize hQ : MQ below (va_Qi (fun (r : Int32) (u : (Int64 × Int32)) => (r = nI 1 ∧ aM kd M n0) ∨ (r = nI 0 ∧ ¬ aM kd M n0)) (fun u => qB D (A) ((tn, .inr (5, [.long (u.1), .int (u.2)])) :: (x, .inr (0, [.int (nI kd), .int (nI M), .int (nI (M + ckb kd M)), .long (lN (2 ^ M - 1)), .int (nI (2 ^ ckb kd M - 1)), .ref oc, .ref tn, .int (nI ha), .int (nI af), .long (lN w1), .int (nI c1), .int (nI t1), .ref ac, .int (nI an), .int (lb), .ref sp, .int (nI su)])) :: (ac, .inl (g 0, 8, .inl (fa))) :: (sp, .inl (g 0, 8, .inl (fs))) :: wr)) (A)) [.ref x, .int (nI n0)].toArray s 0 0 A = Q
  have hck := ckb_le kd M
  obtain ⟨p1, p2, p3, p4, p5, p6, p7⟩ := pat0 n0 (by omega) h19
  have lp8 : ∀ (n : Nat) (k : Nat) (z1 : Int64) (z2 : Int32) (ls : Array Slot) (H : Heap) (locs : List Loc), (M + ckb kd M + 1 ≤ k + n) → (∀ fr q, fr < k → fr + n0 ≤ M + ckb kd M → 2 ^ (n0 - 1) ≤ q → q < 2 ^ n0 → q % 2 = 1 → patA kd M q fr = 1) → (k ≤ M + ckb kd M) → lv_has ls 5 [(0, .ref x), (1, .int (nI n0)), (2, .int (nI (2 ^ (n0 - 1)))), (3, .int (nI k))] → va_P D vwCl ((tn, .inr (5, [.long (z1), .int (z2)])) :: (x, .inr (0, [.int (nI kd), .int (nI M), .int (nI (M + ckb kd M)), .long (lN (2 ^ M - 1)), .int (nI (2 ^ ckb kd M - 1)), .ref oc, .ref tn, .int (nI ha), .int (nI af), .long (lN w1), .int (nI c1), .int (nI t1), .ref ac, .int (nI an), .int (lb), .ref sp, .int (nI su)])) :: (ac, .inl (g 0, 8, .inl (fa))) :: (sp, .inl (g 0, 8, .inl (fs))) :: wr) H → va_D A ((tn, .inr (5, [.long (z1), .int (z2)])) :: (x, .inr (0, [.int (nI kd), .int (nI M), .int (nI (M + ckb kd M)), .long (lN (2 ^ M - 1)), .int (nI (2 ^ ckb kd M - 1)), .ref oc, .ref tn, .int (nI ha), .int (nI af), .long (lN w1), .int (nI c1), .int (nI t1), .ref ac, .int (nI an), .int (lb), .ref sp, .int (nI su)])) :: (ac, .inl (g 0, 8, .inl (fa))) :: (sp, .inl (g 0, 8, .inl (fs))) :: wr) → va_S A s.heap H locs → W p l e (headSpec w_C_allMended rm_C_allMended).room s m [.ref x, .int (nI n0)].toArray below meth c H locs 0 0 Q (F0 m 8 ls []) := by
    intro n
    induction n with
    | zero => intro k z1 z2 ls H locs hfu hall hk _ _ _ _; exact absurd hfu (by omega)
    | succ n ih =>
      intro k z1 z2 ls H locs hfu hall hk hl hP hD hS
      refine lv_iload_n hx hb d_C_allMended_8 rfl (lv_at hl 3 rfl) ?_
      refine lv_iload_n hx hb d_C_allMended_9 rfl (lv_at hl 1 rfl) ?_
      refine lx_iadd (z := nI (k + n0)) hx hb d_C_allMended_10 (nI_add k n0) ?_
      refine lv_aload_n hx hb d_C_allMended_11 rfl (lv_at hl 0 rfl) ?_
      refine va_get (D := D) (ci := 0) (v := .int (nI (M + ckb kd M))) (C := R_C) (T := F_C) (N := 17) hx hb hts i_C hown hK hP 1 rfl rfl 2 (by decide) (hts _ m_208) (fun _ h9 => h9) rfl d_C_allMended_12 ?_
      refine lx_icmp_gt (tgt := 56) hx hb d_C_allMended_15 (by decide) (by omega) (by omega) (fun c15 => ?_) (fun c15 => ?_)
      · skip
        refine lv_iconst (v := nI 1) hx hb d_C_allMended_56 (by decide) ?_
        rw [← hQ]
        refine W.zret (v := nI 1) (ty := .boolean) hx hb hr (rfl) ?_ hS.2.2 d_C_allMended_57
        exact fun t ht hW => ⟨⟨nI 1, (z1, z2), rfl, Or.inl ⟨rfl, fun fr q h1 h2 h3 h4 => hall fr q (by omega) h1 h2 h3 h4⟩, by rw [ht]; exact hP, hD⟩, hS.F ht⟩
      · skip
        have iha := ih
        have lp23 : ∀ (n : Nat) (q : Nat) (z1 : Int64) (z2 : Int32) (ls : Array Slot) (H : Heap) (locs : List Loc), (2 ^ n0 + 3 ≤ q + n) → (2 ^ (n0 - 1) ≤ q) → (q % 2 = 1) → (q ≤ 2 ^ n0 + 1) → (∀ q2, q2 < q → 2 ^ (n0 - 1) ≤ q2 → q2 < 2 ^ n0 → q2 % 2 = 1 → patA kd M q2 k = 1) → lv_has ls 5 [(0, .ref x), (1, .int (nI n0)), (2, .int (nI (2 ^ (n0 - 1)))), (3, .int (nI k)), (4, .int (nI q))] → va_P D vwCl ((tn, .inr (5, [.long (z1), .int (z2)])) :: (x, .inr (0, [.int (nI kd), .int (nI M), .int (nI (M + ckb kd M)), .long (lN (2 ^ M - 1)), .int (nI (2 ^ ckb kd M - 1)), .ref oc, .ref tn, .int (nI ha), .int (nI af), .long (lN w1), .int (nI c1), .int (nI t1), .ref ac, .int (nI an), .int (lb), .ref sp, .int (nI su)])) :: (ac, .inl (g 0, 8, .inl (fa))) :: (sp, .inl (g 0, 8, .inl (fs))) :: wr) H → va_D A ((tn, .inr (5, [.long (z1), .int (z2)])) :: (x, .inr (0, [.int (nI kd), .int (nI M), .int (nI (M + ckb kd M)), .long (lN (2 ^ M - 1)), .int (nI (2 ^ ckb kd M - 1)), .ref oc, .ref tn, .int (nI ha), .int (nI af), .long (lN w1), .int (nI c1), .int (nI t1), .ref ac, .int (nI an), .int (lb), .ref sp, .int (nI su)])) :: (ac, .inl (g 0, 8, .inl (fa))) :: (sp, .inl (g 0, 8, .inl (fs))) :: wr) → va_S A s.heap H locs → W p l e (headSpec w_C_allMended rm_C_allMended).room s m [.ref x, .int (nI n0)].toArray below meth c H locs 0 0 Q (F0 m 23 ls []) := by
          intro n
          induction n with
          | zero => intro q z1 z2 ls H locs hfu hq1 hq2 hq3 hin9 _ _ _ _; exact absurd hfu (by omega)
          | succ n ih =>
            intro q z1 z2 ls H locs hfu hq1 hq2 hq3 hin9 hl hP hD hS
            refine lv_iload hx hb d_C_allMended_23 (lv_at hl 4 rfl) ?_
            refine lv_iconst (v := nI 2) hx hb d_C_allMended_25 (by decide) ?_
            refine lv_iload_n hx hb d_C_allMended_26 rfl (lv_at hl 2 rfl) ?_
            refine lx_imul (z := nI (2 ^ n0)) hx hb d_C_allMended_27 ((pk_mul _ _).trans (by rw [p5])) ?_
            refine lx_icmp_ge (tgt := 50) hx hb d_C_allMended_28 (by decide) (by omega) (by omega) (fun c28 => ?_) (fun c28 => ?_)
            · skip
              refine lv_iinc (v := nI (k + 1)) (lv' := [(3, .int (nI (k + 1))), (0, .ref x), (1, .int (nI n0)), (2, .int (nI (2 ^ (n0 - 1)))), (4, .int (nI q))]) hx hb d_C_allMended_50 hl (k := 3) rfl (nI_1 k) (by decide) rfl (fun ls hl => ?_)
              refine lv_goto (tgt := 8) hx hb d_C_allMended_53 (by decide) ?_
              exact iha (k + 1) z1 z2 _ _ _ (by omega) (by intro fr q2 h1 h2 h3 h4 h5; rcases Nat.lt_or_ge fr k with h6 | h6; exact hall fr q2 h6 h2 h3 h4 h5; rw [show fr = k by omega]; exact hin9 q2 (by omega) h3 h4 h5) (by omega) (lv_sub hl [1, 2, 3, 0] rfl) hP hD hS
            · skip
              have hpl := patA_lt (kd := kd) (fr := k) hM0 hM c28 (by omega)
              refine lv_aload_n hx hb d_C_allMended_31 rfl (lv_at hl 0 rfl) ?_
              refine lv_iload hx hb d_C_allMended_32 (lv_at hl 4 rfl) ?_
              refine lv_iload_n hx hb d_C_allMended_34 rfl (lv_at hl 3 rfl) ?_
              refine lc_Vi (b := x) (As := [.int (nI q), .int (nI k)]) (rest := []) ⟨hx, hb, hml, hown, hts⟩ (c_C_answerToPattern l D g _ wr x tn ac sp oc kd M ha af w1 c1 t1 an su z1 z2 lb fa fs hcw hM0 hM q k n0 c28 h69 (by omega)) (kV 2 hts m_549 m_546 m_548 m_11 m_30 (by decide +kernel) ⟨Nat.le_of_ble_eq_true rfl, Nat.le_of_ble_eq_true rfl⟩) (va_recv hK hP (ci := 0) (q0 := 1) rfl rfl) hKK hP hD hS hA hl.1 rfl rfl (Nat.le_of_ble_eq_true rfl) d_C_allMended_35 ⟨Nat.le_of_ble_eq_true rfl, Nat.le_of_ble_eq_true rfl⟩ (fun rr u H locs er hP hD hS => ?_)
              have hP : va_P D vwCl ((tn, .inr (5, [.long (u.1), .int (u.2)])) :: (x, .inr (0, [.int (nI kd), .int (nI M), .int (nI (M + ckb kd M)), .long (lN (2 ^ M - 1)), .int (nI (2 ^ ckb kd M - 1)), .ref oc, .ref tn, .int (nI ha), .int (nI af), .long (lN w1), .int (nI c1), .int (nI t1), .ref ac, .int (nI an), .int (lb), .ref sp, .int (nI su)])) :: (ac, .inl (g 0, 8, .inl (fa))) :: (sp, .inl (g 0, 8, .inl (fs))) :: wr) H := hP
              have hD : va_D A ((tn, .inr (5, [.long (u.1), .int (u.2)])) :: (x, .inr (0, [.int (nI kd), .int (nI M), .int (nI (M + ckb kd M)), .long (lN (2 ^ M - 1)), .int (nI (2 ^ ckb kd M - 1)), .ref oc, .ref tn, .int (nI ha), .int (nI af), .long (lN w1), .int (nI c1), .int (nI t1), .ref ac, .int (nI an), .int (lb), .ref sp, .int (nI su)])) :: (ac, .inl (g 0, 8, .inl (fa))) :: (sp, .inl (g 0, 8, .inl (fs))) :: wr) := hD
              obtain rfl : rr = nI (patA kd M q k) := er
              refine lv_iconst (v := nI 1) hx hb d_C_allMended_38 (by decide) ?_
              refine lx_icmp_eq (tgt := 44) hx hb d_C_allMended_39 (by decide) (by omega) (by omega) (fun c39 => ?_) (fun c39 => ?_)
              · skip
                refine lv_iinc (v := nI (q + 2)) (lv' := [(4, .int (nI (q + 2))), (0, .ref x), (1, .int (nI n0)), (2, .int (nI (2 ^ (n0 - 1)))), (3, .int (nI k))]) hx hb d_C_allMended_44 hl (k := 4) rfl (nI_add q 2) (by decide) rfl (fun ls hl => ?_)
                refine lv_goto (tgt := 23) hx hb d_C_allMended_47 (by decide) ?_
                exact ih (q + 2) u.1 u.2 _ _ _ (by omega) (by omega) (by omega) (by omega) (by intro q2 h1 h3 h4 h5; rcases Nat.lt_or_ge q2 q with h6 | h6; exact hin9 q2 h6 h3 h4 h5; rw [show q2 = q by omega]; exact c39) (lv_sub hl [1, 2, 3, 4, 0] rfl) hP hD hS
              · skip
                refine lv_iconst (v := nI 0) hx hb d_C_allMended_42 (by decide) ?_
                rw [← hQ]
                refine W.zret (v := nI 0) (ty := .boolean) hx hb hr (rfl) ?_ hS.2.2 d_C_allMended_43
                exact fun t ht hW => ⟨⟨nI 0, u, rfl, Or.inr ⟨rfl, fun z => c39 (z k q (by omega) hq1 c28 hq2)⟩, by rw [ht]; exact hP, hD⟩, hS.F ht⟩
        refine lv_iload_n hx hb d_C_allMended_18 rfl (lv_at hl 2 rfl) ?_
        refine lv_iconst (v := nI 1) hx hb d_C_allMended_19 (by decide) ?_
        refine lx_ior (z := nI (2 ^ (n0 - 1) ||| 1)) hx hb d_C_allMended_20 (xn_or _ _) ?_
        refine lv_istore (lv' := [(4, .int (nI (2 ^ (n0 - 1) ||| 1))), (0, .ref x), (1, .int (nI n0)), (2, .int (nI (2 ^ (n0 - 1)))), (3, .int (nI k))]) hx hb d_C_allMended_21 hl (by decide) rfl (fun ls hl => ?_)
        exact lp23 (2 ^ n0 + 3) (2 ^ (n0 - 1) ||| 1) z1 z2 _ _ _ (by omega) (by omega) (by omega) (by omega) (by intro q2 h1 h3 h4 h5; omega) (lv_sub hl [1, 2, 3, 4, 0] rfl) hP hD hS
  refine lv_iconst (v := nI 1) hx hb d_C_allMended_0 (by decide) ?_
  refine lv_iload_n hx hb d_C_allMended_1 rfl (lv_at hl 1 rfl) ?_
  refine lv_iconst (v := nI 1) hx hb d_C_allMended_2 (by decide) ?_
  refine lx_isub (z := nI (n0 - 1)) hx hb d_C_allMended_3 (pk_sub (by omega)) ?_
  refine lx_ishl (z := nI (2 ^ (n0 - 1))) hx hb d_C_allMended_4 ((xn_shl 1 (by omega)).trans (by rw [Nat.one_shiftLeft])) ?_
  refine lv_istore_n (lv' := [(2, .int (nI (2 ^ (n0 - 1)))), (0, .ref x), (1, .int (nI n0))]) hx hb d_C_allMended_5 rfl hl (by decide) rfl (fun ls hl => ?_)
  refine lv_iconst (v := nI 0) hx hb d_C_allMended_6 (by decide) ?_
  refine lv_istore_n (lv' := [(3, .int (nI 0)), (2, .int (nI (2 ^ (n0 - 1)))), (0, .ref x), (1, .int (nI n0))]) hx hb d_C_allMended_7 rfl hl (by decide) rfl (fun ls hl => ?_)
  exact lp8 (M + ckb kd M + 1) 0 a0 b0 _ _ _ (by omega) (by intro fr q h1; omega) (by omega) (lv_sub hl [2, 3, 1, 0] rfl) hP hD hS
set_option maxHeartbeats 4000000 in
set_option maxRecDepth 100000 in
theorem c_C_findLongestMendedBurst (l : Launch) (D : va_G) (g : Nat → ClassId) (sz : Nat) (wr : va_W) (x tn ac sp oc kd M ha af w1 c1 t1 an su : Nat) (a0 : Int64) (b0 lb : Int32) (fa fs : Nat → Int32) (hcw : CodeW g kd M oc wr) (hM0 : 0 < M) (hM : M ≤ 57)  : Met l y_C_findLongestMendedBurst w_C_findLongestMendedBurst rm_C_findLongestMendedBurst (va_Pc [.ref x] (pP D (tyl g) ((tn, .inr (5, [.long (a0), .int (b0)])) :: (x, .inr (0, [.int (nI kd), .int (nI M), .int (nI (M + ckb kd M)), .long (lN (2 ^ M - 1)), .int (nI (2 ^ ckb kd M - 1)), .ref oc, .ref tn, .int (nI ha), .int (nI af), .long (lN w1), .int (nI c1), .int (nI t1), .ref ac, .int (nI an), .int (lb), .ref sp, .int (nI su)])) :: (ac, .inl (g 0, 8, .inl (fa))) :: (sp, .inl (g 0, 8, .inl (fs))) :: wr) sz)) (va_Qi (fun (r : Int32) (u : ((Int64 × Int32) × Nat)) => r = nI u.2 ∧ LB kd M u.2) (fun u => qB D (va_A ((tn, .inr (5, [.long (a0), .int (b0)])) :: (x, .inr (0, [.int (nI kd), .int (nI M), .int (nI (M + ckb kd M)), .long (lN (2 ^ M - 1)), .int (nI (2 ^ ckb kd M - 1)), .ref oc, .ref tn, .int (nI ha), .int (nI af), .long (lN w1), .int (nI c1), .int (nI t1), .ref ac, .int (nI an), .int (lb), .ref sp, .int (nI su)])) :: (ac, .inl (g 0, 8, .inl (fa))) :: (sp, .inl (g 0, 8, .inl (fs))) :: wr) sz) ((tn, .inr (5, [.long (u.1.1), .int (u.1.2)])) :: (x, .inr (0, [.int (nI kd), .int (nI M), .int (nI (M + ckb kd M)), .long (lN (2 ^ M - 1)), .int (nI (2 ^ ckb kd M - 1)), .ref oc, .ref tn, .int (nI ha), .int (nI af), .long (lN w1), .int (nI c1), .int (nI t1), .ref ac, .int (nI an), .int (lb), .ref sp, .int (nI su)])) :: (ac, .inl (g 0, 8, .inl (fa))) :: (sp, .inl (g 0, 8, .inl (fs))) :: wr)) (va_A ((tn, .inr (5, [.long (a0), .int (b0)])) :: (x, .inr (0, [.int (nI kd), .int (nI M), .int (nI (M + ckb kd M)), .long (lN (2 ^ M - 1)), .int (nI (2 ^ ckb kd M - 1)), .ref oc, .ref tn, .int (nI ha), .int (nI af), .long (lN w1), .int (nI c1), .int (nI t1), .ref ac, .int (nI an), .int (lb), .ref sp, .int (nI su)])) :: (ac, .inl (g 0, 8, .inl (fa))) :: (sp, .inl (g 0, 8, .inl (fs))) :: wr) sz)) 0 0 (va_A ((tn, .inr (5, [.long (a0), .int (b0)])) :: (x, .inr (0, [.int (nI kd), .int (nI M), .int (nI (M + ckb kd M)), .long (lN (2 ^ M - 1)), .int (nI (2 ^ ckb kd M - 1)), .ref oc, .ref tn, .int (nI ha), .int (nI af), .long (lN w1), .int (nI c1), .int (nI t1), .ref ac, .int (nI an), .int (lb), .ref sp, .int (nI su)])) :: (ac, .inl (g 0, 8, .inl (fa))) :: (sp, .inl (g 0, 8, .inl (fs))) :: wr) sz) := by
  refine Met.ofW (cc := b_C_findLongestMendedBurst) (maxL := 2) (ret := (some .int)) (by decide +kernel) rfl ?_
  intro p e s m args below meth c s₁ Bq hml hv
  have hx := Bq.exec
  have hb := Bq.bytes
  have hr := Bq.returns
  have hts : ∀ w ∈ wA, w.before args s = true := fun w h => atoms_spec (ws := w_C_findLongestMendedBurst) Bq.pre w (List.mem_cons_of_mem _ h)
  have hown : s.vm.findClass R_C = some m.cls := findClass_of_methodNamed Bq.named
  have hlocks := Bq.notSynchronized
  obtain ⟨rfl, hsz, hP, hKK, hD0⟩ := hv
  have hK := hKK.1
  subst hsz
  have hD := hD0.self (sz := s.heap.size)
  generalize hAe : va_A ((tn, .inr (5, [.long (a0), .int (b0)])) :: (x, .inr (0, [.int (nI kd), .int (nI M), .int (nI (M + ckb kd M)), .long (lN (2 ^ M - 1)), .int (nI (2 ^ ckb kd M - 1)), .ref oc, .ref tn, .int (nI ha), .int (nI af), .long (lN w1), .int (nI c1), .int (nI t1), .ref ac, .int (nI an), .int (lb), .ref sp, .int (nI su)])) :: (ac, .inl (g 0, 8, .inl (fa))) :: (sp, .inl (g 0, 8, .inl (fs))) :: wr) s.heap.size = A at hD ⊢
  have hA : ∀ q : Nat, s.heap.size ≤ q → A q := fun q h => by rw [← hAe]; exact Or.inr h
  have hS : va_S A s.heap s.heap [] := va_S.rf
  have hl := lv_entry ([.ref x]) (n := 2) (Nat.le_of_ble_eq_true rfl)
  rw [lg_entry_eq]
  generalize (lg_sl ([.ref x]) ++ List.replicate (2 - (lg_sl ([.ref x])).length) Slot.unset).toArray = ls at hl ⊢
  have hl : lv_has ls 2 [(0, .ref x)] := hl
  generalize hQ : MQ below (va_Qi (fun (r : Int32) (u : ((Int64 × Int32) × Nat)) => r = nI u.2 ∧ LB kd M u.2) (fun u => qB D (A) ((tn, .inr (5, [.long (u.1.1), .int (u.1.2)])) :: (x, .inr (0, [.int (nI kd), .int (nI M), .int (nI (M + ckb kd M)), .long (lN (2 ^ M - 1)), .int (nI (2 ^ ckb kd M - 1)), .ref oc, .ref tn, .int (nI ha), .int (nI af), .long (lN w1), .int (nI c1), .int (nI t1), .ref ac, .int (nI an), .int (lb), .ref sp, .int (nI su)])) :: (ac, .inl (g 0, 8, .inl (fa))) :: (sp, .inl (g 0, 8, .inl (fs))) :: wr)) (A)) [.ref x].toArray s 0 0 A = Q
  have lp2 : ∀ (n : Nat) (k : Nat) (z1 : Int64) (z2 : Int32) (ls : Array Slot) (H : Heap) (locs : List Loc), (8 ≤ k + n) → (1 ≤ k) → (k ≤ 7) → (∀ n9, 1 ≤ n9 → n9 < k → aM kd M n9) → lv_has ls 2 [(0, .ref x), (1, .int (nI k))] → va_P D vwCl ((tn, .inr (5, [.long (z1), .int (z2)])) :: (x, .inr (0, [.int (nI kd), .int (nI M), .int (nI (M + ckb kd M)), .long (lN (2 ^ M - 1)), .int (nI (2 ^ ckb kd M - 1)), .ref oc, .ref tn, .int (nI ha), .int (nI af), .long (lN w1), .int (nI c1), .int (nI t1), .ref ac, .int (nI an), .int (lb), .ref sp, .int (nI su)])) :: (ac, .inl (g 0, 8, .inl (fa))) :: (sp, .inl (g 0, 8, .inl (fs))) :: wr) H → va_D A ((tn, .inr (5, [.long (z1), .int (z2)])) :: (x, .inr (0, [.int (nI kd), .int (nI M), .int (nI (M + ckb kd M)), .long (lN (2 ^ M - 1)), .int (nI (2 ^ ckb kd M - 1)), .ref oc, .ref tn, .int (nI ha), .int (nI af), .long (lN w1), .int (nI c1), .int (nI t1), .ref ac, .int (nI an), .int (lb), .ref sp, .int (nI su)])) :: (ac, .inl (g 0, 8, .inl (fa))) :: (sp, .inl (g 0, 8, .inl (fs))) :: wr) → va_S A s.heap H locs → W p l e (headSpec w_C_findLongestMendedBurst rm_C_findLongestMendedBurst).room s m [.ref x].toArray below meth c H locs 0 0 Q (F0 m 2 ls []) := by
    intro n
    induction n with
    | zero => intro k z1 z2 ls H locs hfu hk1 hk7 hall _ _ _ _; exact absurd hfu (by omega)
    | succ n ih =>
      intro k z1 z2 ls H locs hfu hk1 hk7 hall hl hP hD hS
      refine lv_iload_n hx hb d_C_findLongestMendedBurst_2 rfl (lv_at hl 1 rfl) ?_
      refine lv_bipush (v := nI 6) hx hb d_C_findLongestMendedBurst_3 (by decide) ?_
      refine lx_icmp_gt (tgt := 26) hx hb d_C_findLongestMendedBurst_5 (by decide) (by omega) (by omega) (fun c5 => ?_) (fun c5 => ?_)
      · skip
        refine lv_bipush (v := nI 6) hx hb d_C_findLongestMendedBurst_26 (by decide) ?_
        rw [← hQ]
        refine W.iret (v := nI 6) hx hb hr ?_ hS.2.2 d_C_findLongestMendedBurst_28
        exact fun t ht hW => ⟨⟨nI 6, ((z1, z2), 6), rfl, ⟨rfl, Nat.le_refl 6, fun n9 h1 h2 => hall n9 h1 (Nat.lt_of_le_of_lt h2 c5), fun h => absurd h (Nat.lt_irrefl 6)⟩, by rw [ht]; exact hP, hD⟩, hS.F ht⟩
      · skip
        refine lv_aload_n hx hb d_C_findLongestMendedBurst_8 rfl (lv_at hl 0 rfl) ?_
        refine lv_iload_n hx hb d_C_findLongestMendedBurst_9 rfl (lv_at hl 1 rfl) ?_
        refine lc_Vi (b := x) (As := [.int (nI k)]) (rest := []) ⟨hx, hb, hml, hown, hts⟩ (c_C_allMended l D g _ wr x tn ac sp oc kd M ha af w1 c1 t1 an su z1 z2 lb fa fs hcw hM0 hM k hk1 (by omega)) (kV 1 hts m_545 m_542 m_544 m_10 m_30 (by decide +kernel) ⟨Nat.le_of_ble_eq_true rfl, Nat.le_of_ble_eq_true rfl⟩) (va_recv hK hP (ci := 0) (q0 := 1) rfl rfl) hKK hP hD hS hA hl.1 rfl rfl (Nat.le_of_ble_eq_true rfl) d_C_findLongestMendedBurst_10 ⟨Nat.le_of_ble_eq_true rfl, Nat.le_of_ble_eq_true rfl⟩ (fun rr u H locs er hP hD hS => ?_)
        have hP : va_P D vwCl ((tn, .inr (5, [.long (u.1), .int (u.2)])) :: (x, .inr (0, [.int (nI kd), .int (nI M), .int (nI (M + ckb kd M)), .long (lN (2 ^ M - 1)), .int (nI (2 ^ ckb kd M - 1)), .ref oc, .ref tn, .int (nI ha), .int (nI af), .long (lN w1), .int (nI c1), .int (nI t1), .ref ac, .int (nI an), .int (lb), .ref sp, .int (nI su)])) :: (ac, .inl (g 0, 8, .inl (fa))) :: (sp, .inl (g 0, 8, .inl (fs))) :: wr) H := hP
        have hD : va_D A ((tn, .inr (5, [.long (u.1), .int (u.2)])) :: (x, .inr (0, [.int (nI kd), .int (nI M), .int (nI (M + ckb kd M)), .long (lN (2 ^ M - 1)), .int (nI (2 ^ ckb kd M - 1)), .ref oc, .ref tn, .int (nI ha), .int (nI af), .long (lN w1), .int (nI c1), .int (nI t1), .ref ac, .int (nI an), .int (lb), .ref sp, .int (nI su)])) :: (ac, .inl (g 0, 8, .inl (fa))) :: (sp, .inl (g 0, 8, .inl (fs))) :: wr) := hD
        rcases er with ⟨rfl, er⟩ | ⟨rfl, er⟩
        · skip
          refine lx_if_ne (tgt := 20) hx hb d_C_findLongestMendedBurst_13 (by decide) (by omega) (fun c13 => ?_) (fun c13 => ?_)
          · skip
            refine lv_iinc (v := nI (k + 1)) (lv' := [(1, .int (nI (k + 1))), (0, .ref x)]) hx hb d_C_findLongestMendedBurst_20 hl (k := 1) rfl (nI_1 k) (by decide) rfl (fun ls hl => ?_)
            refine lv_goto (tgt := 2) hx hb d_C_findLongestMendedBurst_23 (by decide) ?_
            exact ih (k + 1) u.1 u.2 _ _ _ (by omega) (by omega) (by omega) (by intro n9 h1 h2; rcases Nat.lt_or_ge n9 k with h3 | h3; exact hall n9 h1 h3; rw [show n9 = k by omega]; exact er) (lv_sub hl [1, 0] rfl) hP hD hS
          · skip
            exact absurd c13 (by decide)
        · skip
          refine lx_if_ne (tgt := 20) hx hb d_C_findLongestMendedBurst_13 (by decide) (by omega) (fun c13 => ?_) (fun c13 => ?_)
          · skip
            exact absurd rfl c13
          · skip
            refine lv_iload_n hx hb d_C_findLongestMendedBurst_16 rfl (lv_at hl 1 rfl) ?_
            refine lv_iconst (v := nI 1) hx hb d_C_findLongestMendedBurst_17 (by decide) ?_
            refine lx_isub (z := nI (k - 1)) hx hb d_C_findLongestMendedBurst_18 (pk_sub (by omega)) ?_
            rw [← hQ]
            refine W.iret (v := nI (k - 1)) hx hb hr ?_ hS.2.2 d_C_findLongestMendedBurst_19
            exact fun t ht hW => ⟨⟨nI (k - 1), (u, k - 1), rfl, ⟨rfl, by omega, fun n9 h1 h2 => hall n9 h1 (by omega), fun _ => by rw [show k - 1 + 1 = k by omega]; exact er⟩, by rw [ht]; exact hP, hD⟩, hS.F ht⟩
  refine lv_iconst (v := nI 1) hx hb d_C_findLongestMendedBurst_0 (by decide) ?_
  refine lv_istore_n (lv' := [(1, .int (nI 1)), (0, .ref x)]) hx hb d_C_findLongestMendedBurst_1 rfl hl (by decide) rfl (fun ls hl => ?_)
  exact lp2 8 1 a0 b0 _ _ _ (by omega) (by decide) (by decide) (by intro n9 h1 h2; omega) (lv_sub hl [1, 0] rfl) hP hD hS
set_option maxHeartbeats 4000000 in
set_option maxRecDepth 100000 in
theorem c_C_bursts (l : Launch) (D : va_G) (g : Nat → ClassId) (sz : Nat) (wr : va_W) (x tn ac sp oc kd M ha af w1 c1 t1 an su : Nat) (a0 : Int64) (b0 lb : Int32) (fa fs : Nat → Int32) (hcw : CodeW g kd M oc wr) (hM0 : 0 < M) (hM : M ≤ 57) (k : Nat) (hk1 : 1 ≤ k) (hk6 : k ≤ 6) (hlb : lb = -1 ∨ ∃ b, lb = nI b ∧ LB kd M b) : Met l y_C_bursts w_C_bursts rm_C_bursts (va_Pc [.ref x, .int (nI k)] (pP D (tyl g) ((tn, .inr (5, [.long (a0), .int (b0)])) :: (x, .inr (0, [.int (nI kd), .int (nI M), .int (nI (M + ckb kd M)), .long (lN (2 ^ M - 1)), .int (nI (2 ^ ckb kd M - 1)), .ref oc, .ref tn, .int (nI ha), .int (nI af), .long (lN w1), .int (nI c1), .int (nI t1), .ref ac, .int (nI an), .int (lb), .ref sp, .int (nI su)])) :: (ac, .inl (g 0, 8, .inl (fa))) :: (sp, .inl (g 0, 8, .inl (fs))) :: wr) sz)) (va_Qi (fun (r : Int32) (u : ((Int64 × Int32) × Nat)) => r = nI (if k ≤ u.2 then 1 else 0) ∧ LB kd M u.2) (fun u => qB D (va_A ((tn, .inr (5, [.long (a0), .int (b0)])) :: (x, .inr (0, [.int (nI kd), .int (nI M), .int (nI (M + ckb kd M)), .long (lN (2 ^ M - 1)), .int (nI (2 ^ ckb kd M - 1)), .ref oc, .ref tn, .int (nI ha), .int (nI af), .long (lN w1), .int (nI c1), .int (nI t1), .ref ac, .int (nI an), .int (lb), .ref sp, .int (nI su)])) :: (ac, .inl (g 0, 8, .inl (fa))) :: (sp, .inl (g 0, 8, .inl (fs))) :: wr) sz) ((tn, .inr (5, [.long (u.1.1), .int (u.1.2)])) :: (x, .inr (0, [.int (nI kd), .int (nI M), .int (nI (M + ckb kd M)), .long (lN (2 ^ M - 1)), .int (nI (2 ^ ckb kd M - 1)), .ref oc, .ref tn, .int (nI ha), .int (nI af), .long (lN w1), .int (nI c1), .int (nI t1), .ref ac, .int (nI an), .int (nI u.2), .ref sp, .int (nI su)])) :: (ac, .inl (g 0, 8, .inl (fa))) :: (sp, .inl (g 0, 8, .inl (fs))) :: wr)) (va_A ((tn, .inr (5, [.long (a0), .int (b0)])) :: (x, .inr (0, [.int (nI kd), .int (nI M), .int (nI (M + ckb kd M)), .long (lN (2 ^ M - 1)), .int (nI (2 ^ ckb kd M - 1)), .ref oc, .ref tn, .int (nI ha), .int (nI af), .long (lN w1), .int (nI c1), .int (nI t1), .ref ac, .int (nI an), .int (lb), .ref sp, .int (nI su)])) :: (ac, .inl (g 0, 8, .inl (fa))) :: (sp, .inl (g 0, 8, .inl (fs))) :: wr) sz)) 0 0 (va_A ((tn, .inr (5, [.long (a0), .int (b0)])) :: (x, .inr (0, [.int (nI kd), .int (nI M), .int (nI (M + ckb kd M)), .long (lN (2 ^ M - 1)), .int (nI (2 ^ ckb kd M - 1)), .ref oc, .ref tn, .int (nI ha), .int (nI af), .long (lN w1), .int (nI c1), .int (nI t1), .ref ac, .int (nI an), .int (lb), .ref sp, .int (nI su)])) :: (ac, .inl (g 0, 8, .inl (fa))) :: (sp, .inl (g 0, 8, .inl (fs))) :: wr) sz) := by
  refine Met.ofW (cc := b_C_bursts) (maxL := 2) (ret := (some .boolean)) (by decide +kernel) rfl ?_
  intro p e s m args below meth c s₁ Bq hml hv
  have hx := Bq.exec
  have hb := Bq.bytes
  have hr := Bq.returns
  have hts : ∀ w ∈ wA, w.before args s = true := fun w h => atoms_spec (ws := w_C_bursts) Bq.pre w (List.mem_cons_of_mem _ h)
  have hown : s.vm.findClass R_C = some m.cls := findClass_of_methodNamed Bq.named
  have hlocks := Bq.notSynchronized
  obtain ⟨rfl, hsz, hP, hKK, hD0⟩ := hv
  have hK := hKK.1
  subst hsz
  have hD := hD0.self (sz := s.heap.size)
  generalize hAe : va_A ((tn, .inr (5, [.long (a0), .int (b0)])) :: (x, .inr (0, [.int (nI kd), .int (nI M), .int (nI (M + ckb kd M)), .long (lN (2 ^ M - 1)), .int (nI (2 ^ ckb kd M - 1)), .ref oc, .ref tn, .int (nI ha), .int (nI af), .long (lN w1), .int (nI c1), .int (nI t1), .ref ac, .int (nI an), .int (lb), .ref sp, .int (nI su)])) :: (ac, .inl (g 0, 8, .inl (fa))) :: (sp, .inl (g 0, 8, .inl (fs))) :: wr) s.heap.size = A at hD ⊢
  have hA : ∀ q : Nat, s.heap.size ≤ q → A q := fun q h => by rw [← hAe]; exact Or.inr h
  have hS : va_S A s.heap s.heap [] := va_S.rf
  have hl := lv_entry ([.ref x, .int (nI k)]) (n := 2) (Nat.le_of_ble_eq_true rfl)
  rw [lg_entry_eq]
  generalize (lg_sl ([.ref x, .int (nI k)]) ++ List.replicate (2 - (lg_sl ([.ref x, .int (nI k)])).length) Slot.unset).toArray = ls at hl ⊢
  have hl : lv_has ls 2 [(0, .ref x), (1, .int (nI k))] := hl
  generalize hQ : MQ below (va_Qi (fun (r : Int32) (u : ((Int64 × Int32) × Nat)) => r = nI (if k ≤ u.2 then 1 else 0) ∧ LB kd M u.2) (fun u => qB D (A) ((tn, .inr (5, [.long (u.1.1), .int (u.1.2)])) :: (x, .inr (0, [.int (nI kd), .int (nI M), .int (nI (M + ckb kd M)), .long (lN (2 ^ M - 1)), .int (nI (2 ^ ckb kd M - 1)), .ref oc, .ref tn, .int (nI ha), .int (nI af), .long (lN w1), .int (nI c1), .int (nI t1), .ref ac, .int (nI an), .int (nI u.2), .ref sp, .int (nI su)])) :: (ac, .inl (g 0, 8, .inl (fa))) :: (sp, .inl (g 0, 8, .inl (fs))) :: wr)) (A)) [.ref x, .int (nI k)].toArray s 0 0 A = Q
  have j37 : ∀ (b9 : Nat) (z1 : Int64) (z2 : Int32) (ls : Array Slot) (H : Heap) (locs : List Loc), (LB kd M b9) → lv_has ls 2 [(0, .ref x), (1, .int (nI k))] → va_P D vwCl ((tn, .inr (5, [.long (z1), .int (z2)])) :: (x, .inr (0, [.int (nI kd), .int (nI M), .int (nI (M + ckb kd M)), .long (lN (2 ^ M - 1)), .int (nI (2 ^ ckb kd M - 1)), .ref oc, .ref tn, .int (nI ha), .int (nI af), .long (lN w1), .int (nI c1), .int (nI t1), .ref ac, .int (nI an), .int (nI b9), .ref sp, .int (nI su)])) :: (ac, .inl (g 0, 8, .inl (fa))) :: (sp, .inl (g 0, 8, .inl (fs))) :: wr) H → va_D A ((tn, .inr (5, [.long (z1), .int (z2)])) :: (x, .inr (0, [.int (nI kd), .int (nI M), .int (nI (M + ckb kd M)), .long (lN (2 ^ M - 1)), .int (nI (2 ^ ckb kd M - 1)), .ref oc, .ref tn, .int (nI ha), .int (nI af), .long (lN w1), .int (nI c1), .int (nI t1), .ref ac, .int (nI an), .int (nI b9), .ref sp, .int (nI su)])) :: (ac, .inl (g 0, 8, .inl (fa))) :: (sp, .inl (g 0, 8, .inl (fs))) :: wr) → va_S A s.heap H locs → W p l e (headSpec w_C_bursts rm_C_bursts).room s m [.ref x, .int (nI k)].toArray below meth c H locs 0 0 Q (F0 m 37 ls []) := by
    intro b9 z1 z2 ls H locs hLB hl hP hD hS
    have hb6 := hLB.1
    refine lv_iload_n hx hb d_C_bursts_37 rfl (lv_at hl 1 rfl) ?_
    refine lv_aload_n hx hb d_C_bursts_38 rfl (lv_at hl 0 rfl) ?_
    refine va_get (D := D) (ci := 0) (v := .int (nI b9)) (C := R_C) (T := F_C) (N := 17) hx hb hts i_C hown hK hP 1 rfl rfl 14 (by decide) (hts _ m_220) (fun _ h9 => h9) rfl d_C_bursts_39 ?_
    refine lx_icmp_gt (tgt := 49) hx hb d_C_bursts_42 (by decide) (by omega) (by omega) (fun c42 => ?_) (fun c42 => ?_)
    · skip
      refine lv_iconst (v := nI 0) hx hb d_C_bursts_49 (by decide) ?_
      rw [← hQ]
      refine W.zret (v := nI 0) (ty := .boolean) hx hb hr (rfl) ?_ hS.2.2 d_C_bursts_50
      exact fun t ht hW => ⟨⟨nI 0, ((z1, z2), b9), rfl, ⟨by rw [if_neg (by omega)], hLB⟩, by rw [ht]; exact hP, hD⟩, hS.F ht⟩
    · skip
      refine lv_iconst (v := nI 1) hx hb d_C_bursts_45 (by decide) ?_
      refine lv_goto (tgt := 50) hx hb d_C_bursts_46 (by decide) ?_
      rw [← hQ]
      refine W.zret (v := nI 1) (ty := .boolean) hx hb hr (rfl) ?_ hS.2.2 d_C_bursts_50
      exact fun t ht hW => ⟨⟨nI 1, ((z1, z2), b9), rfl, ⟨by rw [if_pos (by omega)], hLB⟩, by rw [ht]; exact hP, hD⟩, hS.F ht⟩
  refine lv_iload_n hx hb d_C_bursts_0 rfl (lv_at hl 1 rfl) ?_
  refine lv_iconst (v := nI 1) hx hb d_C_bursts_1 (by decide) ?_
  refine lx_icmp_lt (tgt := 11) hx hb d_C_bursts_2 (by decide) (by omega) (by omega) (fun c2 => ?_) (fun c2 => ?_)
  · skip
    exact absurd c2 (by omega)
  · skip
    refine lv_iload_n hx hb d_C_bursts_5 rfl (lv_at hl 1 rfl) ?_
    refine lv_bipush (v := nI 6) hx hb d_C_bursts_6 (by decide) ?_
    refine lx_icmp_le (tgt := 21) hx hb d_C_bursts_8 (by decide) (by omega) (by omega) (fun c8 => ?_) (fun c8 => ?_)
    · skip
      refine lv_aload_n hx hb d_C_bursts_21 rfl (lv_at hl 0 rfl) ?_
      refine va_get (D := D) (ci := 0) (v := .int (lb)) (C := R_C) (T := F_C) (N := 17) hx hb hts i_C hown hK hP 1 rfl rfl 14 (by decide) (hts _ m_220) (fun _ h9 => h9) rfl d_C_bursts_22 ?_
      refine lv_iconst (v := (-1)) hx hb d_C_bursts_25 (by decide) ?_
      refine lv_icmp_ne (tgt := 37) hx hb d_C_bursts_26 (by decide) (fun c26 => ?_) (fun c26 => ?_)
      · skip
        rcases hlb with h | ⟨b9, rfl, hLB⟩
        · exact absurd h c26
        exact j37 b9 a0 b0 _ _ _ (hLB) (lv_sub hl [0, 1] rfl) hP hD hS
      · skip
        obtain rfl := c26
        refine lv_aload_n hx hb d_C_bursts_29 rfl (lv_at hl 0 rfl) ?_
        refine lv_aload_n hx hb d_C_bursts_30 rfl (lv_at hl 0 rfl) ?_
        refine lc_Vi (b := x) (As := []) (rest := [.ref x]) ⟨hx, hb, hml, hown, hts⟩ (c_C_findLongestMendedBurst l D g _ wr x tn ac sp oc kd M ha af w1 c1 t1 an su a0 b0 (-1) fa fs hcw hM0 hM) (kV 0 hts m_541 m_538 m_540 m_9 m_30 (by decide +kernel) ⟨Nat.le_of_ble_eq_true rfl, Nat.le_of_ble_eq_true rfl⟩) (va_recv hK hP (ci := 0) (q0 := 1) rfl rfl) hKK hP hD hS hA hl.1 rfl rfl (Nat.le_of_ble_eq_true rfl) d_C_bursts_31 ⟨Nat.le_of_ble_eq_true rfl, Nat.le_of_ble_eq_true rfl⟩ (fun rr u H locs er hP hD hS => ?_)
        have hP : va_P D vwCl ((tn, .inr (5, [.long (u.1.1), .int (u.1.2)])) :: (x, .inr (0, [.int (nI kd), .int (nI M), .int (nI (M + ckb kd M)), .long (lN (2 ^ M - 1)), .int (nI (2 ^ ckb kd M - 1)), .ref oc, .ref tn, .int (nI ha), .int (nI af), .long (lN w1), .int (nI c1), .int (nI t1), .ref ac, .int (nI an), .int ((-1)), .ref sp, .int (nI su)])) :: (ac, .inl (g 0, 8, .inl (fa))) :: (sp, .inl (g 0, 8, .inl (fs))) :: wr) H := hP
        have hD : va_D A ((tn, .inr (5, [.long (u.1.1), .int (u.1.2)])) :: (x, .inr (0, [.int (nI kd), .int (nI M), .int (nI (M + ckb kd M)), .long (lN (2 ^ M - 1)), .int (nI (2 ^ ckb kd M - 1)), .ref oc, .ref tn, .int (nI ha), .int (nI af), .long (lN w1), .int (nI c1), .int (nI t1), .ref ac, .int (nI an), .int ((-1)), .ref sp, .int (nI su)])) :: (ac, .inl (g 0, 8, .inl (fa))) :: (sp, .inl (g 0, 8, .inl (fs))) :: wr) := hD
        obtain rfl : rr = nI u.2 := er.1
        refine va_put (D := D) (ci := 0) (v := .int (nI u.2)) (ty := .int) (C := R_C) (T := F_C) (N := 17) hx hb hts i_C tf_C tf_C_ok nf_C hown hK hP hD hS 1 rfl rfl 14 (by decide) (hts _ m_220) (fun _ h9 => h9) rfl (by decide +kernel) rfl rfl (Nat.le_of_ble_eq_true rfl) d_C_bursts_34 (fun H locs hP hD hS => ?_)
        have hP : va_P D vwCl ((tn, .inr (5, [.long (u.1.1), .int (u.1.2)])) :: (x, .inr (0, [.int (nI kd), .int (nI M), .int (nI (M + ckb kd M)), .long (lN (2 ^ M - 1)), .int (nI (2 ^ ckb kd M - 1)), .ref oc, .ref tn, .int (nI ha), .int (nI af), .long (lN w1), .int (nI c1), .int (nI t1), .ref ac, .int (nI an), .int (nI u.2), .ref sp, .int (nI su)])) :: (ac, .inl (g 0, 8, .inl (fa))) :: (sp, .inl (g 0, 8, .inl (fs))) :: wr) H := hP
        have hD : va_D A ((tn, .inr (5, [.long (u.1.1), .int (u.1.2)])) :: (x, .inr (0, [.int (nI kd), .int (nI M), .int (nI (M + ckb kd M)), .long (lN (2 ^ M - 1)), .int (nI (2 ^ ckb kd M - 1)), .ref oc, .ref tn, .int (nI ha), .int (nI af), .long (lN w1), .int (nI c1), .int (nI t1), .ref ac, .int (nI an), .int (nI u.2), .ref sp, .int (nI su)])) :: (ac, .inl (g 0, 8, .inl (fa))) :: (sp, .inl (g 0, 8, .inl (fs))) :: wr) := hD
        exact j37 u.2 u.1.1 u.1.2 _ _ _ (er.2) (lv_sub hl [0, 1] rfl) hP hD hS
    · skip
      exact absurd c8 (by omega)
set_option maxHeartbeats 4000000 in
set_option maxRecDepth 100000 in
theorem c_C_flips (l : Launch) (D : va_G) (g : Nat → ClassId) (sz : Nat) (wr : va_W) (x tn ac sp oc kd M ha af w1 c1 t1 an su : Nat) (a0 : Int64) (b0 lb : Int32) (fa fs : Nat → Int32) (hcw : CodeW g kd M oc wr) (hM0 : 0 < M) (hM : M ≤ 57) (a b : Nat) (ha9 : a < M + ckb kd M) (hb9 : b < M + ckb kd M) : Met l y_C_flips w_C_flips rm_C_flips (va_Pc [.ref x, .int (nI a), .int (nI b)] (pP D (tyl g) ((tn, .inr (5, [.long (a0), .int (b0)])) :: (x, .inr (0, [.int (nI kd), .int (nI M), .int (nI (M + ckb kd M)), .long (lN (2 ^ M - 1)), .int (nI (2 ^ ckb kd M - 1)), .ref oc, .ref tn, .int (nI ha), .int (nI af), .long (lN w1), .int (nI c1), .int (nI t1), .ref ac, .int (nI an), .int (lb), .ref sp, .int (nI su)])) :: (ac, .inl (g 0, 8, .inl (fa))) :: (sp, .inl (g 0, 8, .inl (fs))) :: wr) sz)) (va_Qi (fun (r : Int32) (u : (Int64 × Int32)) => r = nI (pairA kd M a b)) (fun u => qB D (va_A ((tn, .inr (5, [.long (a0), .int (b0)])) :: (x, .inr (0, [.int (nI kd), .int (nI M), .int (nI (M + ckb kd M)), .long (lN (2 ^ M - 1)), .int (nI (2 ^ ckb kd M - 1)), .ref oc, .ref tn, .int (nI ha), .int (nI af), .long (lN w1), .int (nI c1), .int (nI t1), .ref ac, .int (nI an), .int (lb), .ref sp, .int (nI su)])) :: (ac, .inl (g 0, 8, .inl (fa))) :: (sp, .inl (g 0, 8, .inl (fs))) :: wr) sz) ((tn, .inr (5, [.long (u.1), .int (u.2)])) :: (x, .inr (0, [.int (nI kd), .int (nI M), .int (nI (M + ckb kd M)), .long (lN (2 ^ M - 1)), .int (nI (2 ^ ckb kd M - 1)), .ref oc, .ref tn, .int (nI ha), .int (nI af), .long (lN w1), .int (nI c1), .int (nI t1), .ref ac, .int (nI an), .int (lb), .ref sp, .int (nI su)])) :: (ac, .inl (g 0, 8, .inl (fa))) :: (sp, .inl (g 0, 8, .inl (fs))) :: wr)) (va_A ((tn, .inr (5, [.long (a0), .int (b0)])) :: (x, .inr (0, [.int (nI kd), .int (nI M), .int (nI (M + ckb kd M)), .long (lN (2 ^ M - 1)), .int (nI (2 ^ ckb kd M - 1)), .ref oc, .ref tn, .int (nI ha), .int (nI af), .long (lN w1), .int (nI c1), .int (nI t1), .ref ac, .int (nI an), .int (lb), .ref sp, .int (nI su)])) :: (ac, .inl (g 0, 8, .inl (fa))) :: (sp, .inl (g 0, 8, .inl (fs))) :: wr) sz)) 0 0 (va_A ((tn, .inr (5, [.long (a0), .int (b0)])) :: (x, .inr (0, [.int (nI kd), .int (nI M), .int (nI (M + ckb kd M)), .long (lN (2 ^ M - 1)), .int (nI (2 ^ ckb kd M - 1)), .ref oc, .ref tn, .int (nI ha), .int (nI af), .long (lN w1), .int (nI c1), .int (nI t1), .ref ac, .int (nI an), .int (lb), .ref sp, .int (nI su)])) :: (ac, .inl (g 0, 8, .inl (fa))) :: (sp, .inl (g 0, 8, .inl (fs))) :: wr) sz) := by
  refine Met.ofW (cc := b_C_flips) (maxL := 3) (ret := (some .int)) (by decide +kernel) rfl ?_
  intro p e s m args below meth c s₁ Bq hml hv
  have hx := Bq.exec
  have hb := Bq.bytes
  have hr := Bq.returns
  have hts : ∀ w ∈ wA, w.before args s = true := fun w h => atoms_spec (ws := w_C_flips) Bq.pre w (List.mem_cons_of_mem _ h)
  have hown : s.vm.findClass R_C = some m.cls := findClass_of_methodNamed Bq.named
  have hlocks := Bq.notSynchronized
  obtain ⟨rfl, hsz, hP, hKK, hD0⟩ := hv
  have hK := hKK.1
  subst hsz
  have hD := hD0.self (sz := s.heap.size)
  generalize hAe : va_A ((tn, .inr (5, [.long (a0), .int (b0)])) :: (x, .inr (0, [.int (nI kd), .int (nI M), .int (nI (M + ckb kd M)), .long (lN (2 ^ M - 1)), .int (nI (2 ^ ckb kd M - 1)), .ref oc, .ref tn, .int (nI ha), .int (nI af), .long (lN w1), .int (nI c1), .int (nI t1), .ref ac, .int (nI an), .int (lb), .ref sp, .int (nI su)])) :: (ac, .inl (g 0, 8, .inl (fa))) :: (sp, .inl (g 0, 8, .inl (fs))) :: wr) s.heap.size = A at hD ⊢
  have hA : ∀ q : Nat, s.heap.size ≤ q → A q := fun q h => by rw [← hAe]; exact Or.inr h
  have hS : va_S A s.heap s.heap [] := va_S.rf
  have hl := lv_entry ([.ref x, .int (nI a), .int (nI b)]) (n := 3) (Nat.le_of_ble_eq_true rfl)
  rw [lg_entry_eq]
  generalize (lg_sl ([.ref x, .int (nI a), .int (nI b)]) ++ List.replicate (3 - (lg_sl ([.ref x, .int (nI a), .int (nI b)])).length) Slot.unset).toArray = ls at hl ⊢
  have hl : lv_has ls 3 [(0, .ref x), (1, .int (nI a)), (2, .int (nI b))] := hl
  generalize hQ : MQ below (va_Qi (fun (r : Int32) (u : (Int64 × Int32)) => r = nI (pairA kd M a b)) (fun u => qB D (A) ((tn, .inr (5, [.long (u.1), .int (u.2)])) :: (x, .inr (0, [.int (nI kd), .int (nI M), .int (nI (M + ckb kd M)), .long (lN (2 ^ M - 1)), .int (nI (2 ^ ckb kd M - 1)), .ref oc, .ref tn, .int (nI ha), .int (nI af), .long (lN w1), .int (nI c1), .int (nI t1), .ref ac, .int (nI an), .int (lb), .ref sp, .int (nI su)])) :: (ac, .inl (g 0, 8, .inl (fa))) :: (sp, .inl (g 0, 8, .inl (fs))) :: wr)) (A)) [.ref x, .int (nI a), .int (nI b)].toArray s 0 0 A = Q
  have hck := ckb_le kd M
  refine lv_aload_n hx hb d_C_flips_0 rfl (lv_at hl 0 rfl) ?_
  refine lv_iload_n hx hb d_C_flips_1 rfl (lv_at hl 1 rfl) ?_
  refine lr_Vi (b := x) (As := [.int (nI a)]) (rest := []) ⟨hx, hb, hml, hown, hts⟩ (r_C_isStoredBit l D g _ wr x tn ac sp oc kd M ha af w1 c1 t1 an su a0 b0 lb fa fs hM0 hM (nI a)) (kV 1 hts m_489 m_486 m_488 m_2 m_30 (by decide +kernel) ⟨Nat.le_of_ble_eq_true rfl, Nat.le_of_ble_eq_true rfl⟩) (va_recv hK hP (ci := 0) (q0 := 1) rfl rfl) hKK hP (hD.weaken (fun _ _ _ _ => trivial)) hS hA hl.1 rfl rfl (Nat.le_of_ble_eq_true rfl) d_C_flips_2 ⟨Nat.le_of_ble_eq_true rfl, Nat.le_of_ble_eq_true rfl⟩ (fun r1 H locs e1 hP hS => ?_)
  obtain rfl : r1 = nI 1 := e1.trans (by rw [inBb_nI (by omega) ha9])
  refine lx_if_eq (tgt := 16) hx hb d_C_flips_5 (by decide) (by omega) (fun c5 => ?_) (fun c5 => ?_)
  · skip
    exact absurd c5 (by decide)
  · skip
    refine lv_aload_n hx hb d_C_flips_8 rfl (lv_at hl 0 rfl) ?_
    refine lv_iload_n hx hb d_C_flips_9 rfl (lv_at hl 2 rfl) ?_
    refine lr_Vi (b := x) (As := [.int (nI b)]) (rest := []) ⟨hx, hb, hml, hown, hts⟩ (r_C_isStoredBit l D g _ wr x tn ac sp oc kd M ha af w1 c1 t1 an su a0 b0 lb fa fs hM0 hM (nI b)) (kV 1 hts m_489 m_486 m_488 m_2 m_30 (by decide +kernel) ⟨Nat.le_of_ble_eq_true rfl, Nat.le_of_ble_eq_true rfl⟩) (va_recv hK hP (ci := 0) (q0 := 1) rfl rfl) hKK hP (hD.weaken (fun _ _ _ _ => trivial)) hS hA hl.1 rfl rfl (Nat.le_of_ble_eq_true rfl) d_C_flips_10 ⟨Nat.le_of_ble_eq_true rfl, Nat.le_of_ble_eq_true rfl⟩ (fun r2 H locs e2 hP hS => ?_)
    obtain rfl : r2 = nI 1 := e2.trans (by rw [inBb_nI (by omega) hb9])
    refine lx_if_ne (tgt := 26) hx hb d_C_flips_13 (by decide) (by omega) (fun c13 => ?_) (fun c13 => ?_)
    · skip
      refine lv_aload_n hx hb d_C_flips_26 rfl (lv_at hl 0 rfl) ?_
      refine lv_iload_n hx hb d_C_flips_27 rfl (lv_at hl 1 rfl) ?_
      refine lv_iload_n hx hb d_C_flips_28 rfl (lv_at hl 2 rfl) ?_
      refine lc_Vi (b := x) (As := [.int (nI a), .int (nI b)]) (rest := []) ⟨hx, hb, hml, hown, hts⟩ (c_C_answerToPair l D g _ wr x tn ac sp oc kd M ha af w1 c1 t1 an su a0 b0 lb fa fs hcw hM0 hM a b ha9 hb9) (kV 2 hts m_494 m_491 m_493 m_3 m_30 (by decide +kernel) ⟨Nat.le_of_ble_eq_true rfl, Nat.le_of_ble_eq_true rfl⟩) (va_recv hK hP (ci := 0) (q0 := 1) rfl rfl) hKK hP hD hS hA hl.1 rfl rfl (Nat.le_of_ble_eq_true rfl) d_C_flips_29 ⟨Nat.le_of_ble_eq_true rfl, Nat.le_of_ble_eq_true rfl⟩ (fun rr u H locs er hP hD hS => ?_)
      have hP : va_P D vwCl ((tn, .inr (5, [.long (u.1), .int (u.2)])) :: (x, .inr (0, [.int (nI kd), .int (nI M), .int (nI (M + ckb kd M)), .long (lN (2 ^ M - 1)), .int (nI (2 ^ ckb kd M - 1)), .ref oc, .ref tn, .int (nI ha), .int (nI af), .long (lN w1), .int (nI c1), .int (nI t1), .ref ac, .int (nI an), .int (lb), .ref sp, .int (nI su)])) :: (ac, .inl (g 0, 8, .inl (fa))) :: (sp, .inl (g 0, 8, .inl (fs))) :: wr) H := hP
      have hD : va_D A ((tn, .inr (5, [.long (u.1), .int (u.2)])) :: (x, .inr (0, [.int (nI kd), .int (nI M), .int (nI (M + ckb kd M)), .long (lN (2 ^ M - 1)), .int (nI (2 ^ ckb kd M - 1)), .ref oc, .ref tn, .int (nI ha), .int (nI af), .long (lN w1), .int (nI c1), .int (nI t1), .ref ac, .int (nI an), .int (lb), .ref sp, .int (nI su)])) :: (ac, .inl (g 0, 8, .inl (fa))) :: (sp, .inl (g 0, 8, .inl (fs))) :: wr) := hD
      rw [← hQ]
      refine W.iret (v := rr) hx hb hr ?_ hS.2.2 d_C_flips_32
      exact fun t ht hW => ⟨⟨rr, u, rfl, er, by rw [ht]; exact hP, hD⟩, hS.F ht⟩
    · skip
      exact absurd c13 (by decide)
set_option maxHeartbeats 4000000 in
set_option maxRecDepth 100000 in
theorem c_C_spare (l : Launch) (D : va_G) (g : Nat → ClassId) (sz : Nat) (wr : va_W) (x tn ac sp oc kd M ha af w1 c1 t1 an su : Nat) (a0 : Int64) (b0 lb : Int32) (fa fs : Nat → Int32) (hcw : CodeW g kd M oc wr) (hM0 : 0 < M) (hM : M ≤ 57) (j i : Nat) (hj : j < 65536) (hsu : su ≤ 8) (hi : i < su) (hf9 : fs i = nI j) (hno : ∀ k, k < i → ¬ fs k = nI j) : Met l y_C_spare w_C_spare rm_C_spare (va_Pc [.ref x, .int (nI j)] (pP D (tyl g) ((tn, .inr (5, [.long (a0), .int (b0)])) :: (x, .inr (0, [.int (nI kd), .int (nI M), .int (nI (M + ckb kd M)), .long (lN (2 ^ M - 1)), .int (nI (2 ^ ckb kd M - 1)), .ref oc, .ref tn, .int (nI ha), .int (nI af), .long (lN w1), .int (nI c1), .int (nI t1), .ref ac, .int (nI an), .int (lb), .ref sp, .int (nI su)])) :: (ac, .inl (g 0, 8, .inl (fa))) :: (sp, .inl (g 0, 8, .inl (fs))) :: wr) sz)) (va_Qi (fun (r : Int32) (u : Unit) => r = nI i) (fun u => qB D (va_A ((tn, .inr (5, [.long (a0), .int (b0)])) :: (x, .inr (0, [.int (nI kd), .int (nI M), .int (nI (M + ckb kd M)), .long (lN (2 ^ M - 1)), .int (nI (2 ^ ckb kd M - 1)), .ref oc, .ref tn, .int (nI ha), .int (nI af), .long (lN w1), .int (nI c1), .int (nI t1), .ref ac, .int (nI an), .int (lb), .ref sp, .int (nI su)])) :: (ac, .inl (g 0, 8, .inl (fa))) :: (sp, .inl (g 0, 8, .inl (fs))) :: wr) sz) ((tn, .inr (5, [.long (a0), .int (b0)])) :: (x, .inr (0, [.int (nI kd), .int (nI M), .int (nI (M + ckb kd M)), .long (lN (2 ^ M - 1)), .int (nI (2 ^ ckb kd M - 1)), .ref oc, .ref tn, .int (nI ha), .int (nI af), .long (lN w1), .int (nI c1), .int (nI t1), .ref ac, .int (nI an), .int (lb), .ref sp, .int (nI su)])) :: (ac, .inl (g 0, 8, .inl (fa))) :: (sp, .inl (g 0, 8, .inl (fs))) :: wr)) (va_A ((tn, .inr (5, [.long (a0), .int (b0)])) :: (x, .inr (0, [.int (nI kd), .int (nI M), .int (nI (M + ckb kd M)), .long (lN (2 ^ M - 1)), .int (nI (2 ^ ckb kd M - 1)), .ref oc, .ref tn, .int (nI ha), .int (nI af), .long (lN w1), .int (nI c1), .int (nI t1), .ref ac, .int (nI an), .int (lb), .ref sp, .int (nI su)])) :: (ac, .inl (g 0, 8, .inl (fa))) :: (sp, .inl (g 0, 8, .inl (fs))) :: wr) sz)) 0 0 (va_A ((tn, .inr (5, [.long (a0), .int (b0)])) :: (x, .inr (0, [.int (nI kd), .int (nI M), .int (nI (M + ckb kd M)), .long (lN (2 ^ M - 1)), .int (nI (2 ^ ckb kd M - 1)), .ref oc, .ref tn, .int (nI ha), .int (nI af), .long (lN w1), .int (nI c1), .int (nI t1), .ref ac, .int (nI an), .int (lb), .ref sp, .int (nI su)])) :: (ac, .inl (g 0, 8, .inl (fa))) :: (sp, .inl (g 0, 8, .inl (fs))) :: wr) sz) := by
  refine Met.ofW (cc := b_C_spare) (maxL := 4) (ret := (some .int)) (by decide +kernel) rfl ?_
  intro p e s m args below meth c s₁ Bq hml hv
  have hx := Bq.exec
  have hb := Bq.bytes
  have hr := Bq.returns
  have hts : ∀ w ∈ wA, w.before args s = true := fun w h => atoms_spec (ws := w_C_spare) Bq.pre w (List.mem_cons_of_mem _ h)
  have hown : s.vm.findClass R_C = some m.cls := findClass_of_methodNamed Bq.named
  have hlocks := Bq.notSynchronized
  obtain ⟨rfl, hsz, hP, hKK, hD0⟩ := hv
  have hK := hKK.1
  subst hsz
  have hD := hD0.self (sz := s.heap.size)
  generalize hAe : va_A ((tn, .inr (5, [.long (a0), .int (b0)])) :: (x, .inr (0, [.int (nI kd), .int (nI M), .int (nI (M + ckb kd M)), .long (lN (2 ^ M - 1)), .int (nI (2 ^ ckb kd M - 1)), .ref oc, .ref tn, .int (nI ha), .int (nI af), .long (lN w1), .int (nI c1), .int (nI t1), .ref ac, .int (nI an), .int (lb), .ref sp, .int (nI su)])) :: (ac, .inl (g 0, 8, .inl (fa))) :: (sp, .inl (g 0, 8, .inl (fs))) :: wr) s.heap.size = A at hD ⊢
  have hA : ∀ q : Nat, s.heap.size ≤ q → A q := fun q h => by rw [← hAe]; exact Or.inr h
  have hS : va_S A s.heap s.heap [] := va_S.rf
  have hl := lv_entry ([.ref x, .int (nI j)]) (n := 4) (Nat.le_of_ble_eq_true rfl)
  rw [lg_entry_eq]
  generalize (lg_sl ([.ref x, .int (nI j)]) ++ List.replicate (4 - (lg_sl ([.ref x, .int (nI j)])).length) Slot.unset).toArray = ls at hl ⊢
  have hl : lv_has ls 4 [(0, .ref x), (1, .int (nI j))] := hl
  generalize hQ : MQ below (va_Qi (fun (r : Int32) (u : Unit) => r = nI i) (fun u => qB D (A) ((tn, .inr (5, [.long (a0), .int (b0)])) :: (x, .inr (0, [.int (nI kd), .int (nI M), .int (nI (M + ckb kd M)), .long (lN (2 ^ M - 1)), .int (nI (2 ^ ckb kd M - 1)), .ref oc, .ref tn, .int (nI ha), .int (nI af), .long (lN w1), .int (nI c1), .int (nI t1), .ref ac, .int (nI an), .int (lb), .ref sp, .int (nI su)])) :: (ac, .inl (g 0, 8, .inl (fa))) :: (sp, .inl (g 0, 8, .inl (fs))) :: wr)) (A)) [.ref x, .int (nI j)].toArray s 0 0 A = Q
  refine lv_iload_n hx hb d_C_spare_0 rfl (lv_at hl 1 rfl) ?_
  refine lr_Si (As := [.int (nI j)]) (rest := []) ⟨hx, hb, hml, hown, hts⟩ (r_C_isRow l D g _ _ (nI j)) (kS 1 hts m_559 m_557 m_558 m_30 (by decide +kernel) ⟨Nat.le_of_ble_eq_true rfl, Nat.le_of_ble_eq_true rfl⟩) hKK hP (hD.weaken (fun _ _ _ _ => trivial)) hS hA hl.1 rfl rfl (Nat.le_of_ble_eq_true rfl) d_C_spare_1 ⟨Nat.le_of_ble_eq_true rfl, Nat.le_of_ble_eq_true rfl⟩ (fun r1 H locs e1 hP hS => ?_)
  obtain rfl : r1 = nI 1 := e1.trans (by rw [inBb_nI (by decide) hj])
  refine lx_if_ne (tgt := 17) hx hb d_C_spare_4 (by decide) (by omega) (fun c4 => ?_) (fun c4 => ?_)
  · skip
    refine lv_aload_n hx hb d_C_spare_17 rfl (lv_at hl 0 rfl) ?_
    refine lv_iload_n hx hb d_C_spare_18 rfl (lv_at hl 1 rfl) ?_
    refine lr_Vi (b := x) (As := [.int (nI j)]) (rest := []) ⟨hx, hb, hml, hown, hts⟩ (r_C_findSpare l D g _ wr x tn ac sp oc kd M ha af w1 c1 t1 an su a0 b0 lb fa fs hM0 hM (nI j) (by omega)) (kV 1 hts m_565 m_562 m_564 m_12 m_30 (by decide +kernel) ⟨Nat.le_of_ble_eq_true rfl, Nat.le_of_ble_eq_true rfl⟩) (va_recv hK hP (ci := 0) (q0 := 1) rfl rfl) hKK hP (hD.weaken (fun _ _ _ _ => trivial)) hS hA hl.1 rfl rfl (Nat.le_of_ble_eq_true rfl) d_C_spare_19 ⟨Nat.le_of_ble_eq_true rfl, Nat.le_of_ble_eq_true rfl⟩ (fun r2 H locs e2 hP hS => ?_)
    rcases e2 with ⟨i9, q1, rfl, q3, q4⟩ | ⟨-, q2⟩
    · skip
      have ei : i9 = i := by rcases Nat.lt_trichotomy i9 i with q | q | q; exact absurd q3 (hno i9 q); exact q; exact absurd hf9 (q4 i q)
      subst ei
      refine lv_istore_n (lv' := [(2, .int (nI i9)), (0, .ref x), (1, .int (nI j))]) hx hb d_C_spare_22 rfl hl (by decide) rfl (fun ls hl => ?_)
      refine lv_iload_n hx hb d_C_spare_23 rfl (lv_at hl 0 rfl) ?_
      refine lv_iconst (v := (-1)) hx hb d_C_spare_24 (by decide) ?_
      refine lv_icmp_eq (tgt := 30) hx hb d_C_spare_25 (by decide) (fun c25 => ?_) (fun c25 => ?_)
      · skip
        exact absurd c25 (nI_nm1 (by omega))
      · skip
        refine lv_iload_n hx hb d_C_spare_28 rfl (lv_at hl 0 rfl) ?_
        rw [← hQ]
        refine W.iret (v := nI i9) hx hb hr ?_ hS.2.2 d_C_spare_29
        exact fun t ht hW => ⟨⟨nI i9, (), rfl, rfl, by rw [ht]; exact hP, hD⟩, hS.F ht⟩
    · exact absurd hf9 (q2 i hi)
  · skip
    exact absurd c4 (by decide)
set_option maxHeartbeats 4000000 in
set_option maxRecDepth 100000 in
theorem c_C_spareNew (l : Launch) (D : va_G) (g : Nat → ClassId) (sz : Nat) (wr : va_W) (x tn ac sp oc kd M ha af w1 c1 t1 an su : Nat) (a0 : Int64) (b0 lb : Int32) (fa fs : Nat → Int32) (hcw : CodeW g kd M oc wr) (hM0 : 0 < M) (hM : M ≤ 57) (j : Nat) (hj : j < 65536) (hsu : su < 8) (hno : ∀ k, k < su → ¬ fs k = nI j) : Met l y_C_spare w_C_spare rm_C_spare (va_Pc [.ref x, .int (nI j)] (pP D (tyl g) ((tn, .inr (5, [.long (a0), .int (b0)])) :: (x, .inr (0, [.int (nI kd), .int (nI M), .int (nI (M + ckb kd M)), .long (lN (2 ^ M - 1)), .int (nI (2 ^ ckb kd M - 1)), .ref oc, .ref tn, .int (nI ha), .int (nI af), .long (lN w1), .int (nI c1), .int (nI t1), .ref ac, .int (nI an), .int (lb), .ref sp, .int (nI su)])) :: (ac, .inl (g 0, 8, .inl (fa))) :: (sp, .inl (g 0, 8, .inl (fs))) :: wr) sz)) (va_Qi (fun (r : Int32) (u : Unit) => r = nI su) (fun u => qB D (va_A ((tn, .inr (5, [.long (a0), .int (b0)])) :: (x, .inr (0, [.int (nI kd), .int (nI M), .int (nI (M + ckb kd M)), .long (lN (2 ^ M - 1)), .int (nI (2 ^ ckb kd M - 1)), .ref oc, .ref tn, .int (nI ha), .int (nI af), .long (lN w1), .int (nI c1), .int (nI t1), .ref ac, .int (nI an), .int (lb), .ref sp, .int (nI su)])) :: (ac, .inl (g 0, 8, .inl (fa))) :: (sp, .inl (g 0, 8, .inl (fs))) :: wr) sz) ((tn, .inr (5, [.long (a0), .int (b0)])) :: (x, .inr (0, [.int (nI kd), .int (nI M), .int (nI (M + ckb kd M)), .long (lN (2 ^ M - 1)), .int (nI (2 ^ ckb kd M - 1)), .ref oc, .ref tn, .int (nI ha), .int (nI af), .long (lN w1), .int (nI c1), .int (nI t1), .ref ac, .int (nI an), .int (lb), .ref sp, .int (nI (su + 1))])) :: (ac, .inl (g 0, 8, .inl (fa))) :: (sp, .inl (g 0, 8, .inl (upd fs su (nI j)))) :: wr)) (va_A ((tn, .inr (5, [.long (a0), .int (b0)])) :: (x, .inr (0, [.int (nI kd), .int (nI M), .int (nI (M + ckb kd M)), .long (lN (2 ^ M - 1)), .int (nI (2 ^ ckb kd M - 1)), .ref oc, .ref tn, .int (nI ha), .int (nI af), .long (lN w1), .int (nI c1), .int (nI t1), .ref ac, .int (nI an), .int (lb), .ref sp, .int (nI su)])) :: (ac, .inl (g 0, 8, .inl (fa))) :: (sp, .inl (g 0, 8, .inl (fs))) :: wr) sz)) 0 0 (va_A ((tn, .inr (5, [.long (a0), .int (b0)])) :: (x, .inr (0, [.int (nI kd), .int (nI M), .int (nI (M + ckb kd M)), .long (lN (2 ^ M - 1)), .int (nI (2 ^ ckb kd M - 1)), .ref oc, .ref tn, .int (nI ha), .int (nI af), .long (lN w1), .int (nI c1), .int (nI t1), .ref ac, .int (nI an), .int (lb), .ref sp, .int (nI su)])) :: (ac, .inl (g 0, 8, .inl (fa))) :: (sp, .inl (g 0, 8, .inl (fs))) :: wr) sz) := by
  refine Met.ofW (cc := b_C_spare) (maxL := 4) (ret := (some .int)) (by decide +kernel) rfl ?_
  intro p e s m args below meth c s₁ Bq hml hv
  have hx := Bq.exec
  have hb := Bq.bytes
  have hr := Bq.returns
  have hts : ∀ w ∈ wA, w.before args s = true := fun w h => atoms_spec (ws := w_C_spare) Bq.pre w (List.mem_cons_of_mem _ h)
  have hown : s.vm.findClass R_C = some m.cls := findClass_of_methodNamed Bq.named
  have hlocks := Bq.notSynchronized
  obtain ⟨rfl, hsz, hP, hKK, hD0⟩ := hv
  have hK := hKK.1
  subst hsz
  have hD := hD0.self (sz := s.heap.size)
  generalize hAe : va_A ((tn, .inr (5, [.long (a0), .int (b0)])) :: (x, .inr (0, [.int (nI kd), .int (nI M), .int (nI (M + ckb kd M)), .long (lN (2 ^ M - 1)), .int (nI (2 ^ ckb kd M - 1)), .ref oc, .ref tn, .int (nI ha), .int (nI af), .long (lN w1), .int (nI c1), .int (nI t1), .ref ac, .int (nI an), .int (lb), .ref sp, .int (nI su)])) :: (ac, .inl (g 0, 8, .inl (fa))) :: (sp, .inl (g 0, 8, .inl (fs))) :: wr) s.heap.size = A at hD ⊢
  have hA : ∀ q : Nat, s.heap.size ≤ q → A q := fun q h => by rw [← hAe]; exact Or.inr h
  have hS : va_S A s.heap s.heap [] := va_S.rf
  have hl := lv_entry ([.ref x, .int (nI j)]) (n := 4) (Nat.le_of_ble_eq_true rfl)
  rw [lg_entry_eq]
  generalize (lg_sl ([.ref x, .int (nI j)]) ++ List.replicate (4 - (lg_sl ([.ref x, .int (nI j)])).length) Slot.unset).toArray = ls at hl ⊢
  have hl : lv_has ls 4 [(0, .ref x), (1, .int (nI j))] := hl
  generalize hQ : MQ below (va_Qi (fun (r : Int32) (u : Unit) => r = nI su) (fun u => qB D (A) ((tn, .inr (5, [.long (a0), .int (b0)])) :: (x, .inr (0, [.int (nI kd), .int (nI M), .int (nI (M + ckb kd M)), .long (lN (2 ^ M - 1)), .int (nI (2 ^ ckb kd M - 1)), .ref oc, .ref tn, .int (nI ha), .int (nI af), .long (lN w1), .int (nI c1), .int (nI t1), .ref ac, .int (nI an), .int (lb), .ref sp, .int (nI (su + 1))])) :: (ac, .inl (g 0, 8, .inl (fa))) :: (sp, .inl (g 0, 8, .inl (upd fs su (nI j)))) :: wr)) (A)) [.ref x, .int (nI j)].toArray s 0 0 A = Q
  refine lv_iload_n hx hb d_C_spare_0 rfl (lv_at hl 1 rfl) ?_
  refine lr_Si (As := [.int (nI j)]) (rest := []) ⟨hx, hb, hml, hown, hts⟩ (r_C_isRow l D g _ _ (nI j)) (kS 1 hts m_559 m_557 m_558 m_30 (by decide +kernel) ⟨Nat.le_of_ble_eq_true rfl, Nat.le_of_ble_eq_true rfl⟩) hKK hP (hD.weaken (fun _ _ _ _ => trivial)) hS hA hl.1 rfl rfl (Nat.le_of_ble_eq_true rfl) d_C_spare_1 ⟨Nat.le_of_ble_eq_true rfl, Nat.le_of_ble_eq_true rfl⟩ (fun r1 H locs e1 hP hS => ?_)
  obtain rfl : r1 = nI 1 := e1.trans (by rw [inBb_nI (by decide) hj])
  refine lx_if_ne (tgt := 17) hx hb d_C_spare_4 (by decide) (by omega) (fun c4 => ?_) (fun c4 => ?_)
  · skip
    refine lv_aload_n hx hb d_C_spare_17 rfl (lv_at hl 0 rfl) ?_
    refine lv_iload_n hx hb d_C_spare_18 rfl (lv_at hl 1 rfl) ?_
    refine lr_Vi (b := x) (As := [.int (nI j)]) (rest := []) ⟨hx, hb, hml, hown, hts⟩ (r_C_findSpare l D g _ wr x tn ac sp oc kd M ha af w1 c1 t1 an su a0 b0 lb fa fs hM0 hM (nI j) (by omega)) (kV 1 hts m_565 m_562 m_564 m_12 m_30 (by decide +kernel) ⟨Nat.le_of_ble_eq_true rfl, Nat.le_of_ble_eq_true rfl⟩) (va_recv hK hP (ci := 0) (q0 := 1) rfl rfl) hKK hP (hD.weaken (fun _ _ _ _ => trivial)) hS hA hl.1 rfl rfl (Nat.le_of_ble_eq_true rfl) d_C_spare_19 ⟨Nat.le_of_ble_eq_true rfl, Nat.le_of_ble_eq_true rfl⟩ (fun r2 H locs e2 hP hS => ?_)
    rcases e2 with ⟨i9, q1, q2, q3, q4⟩ | ⟨rfl, q2⟩
    · exact absurd q3 (hno i9 q1)
    refine lv_istore_n (lv' := [(2, .int ((-1))), (0, .ref x), (1, .int (nI j))]) hx hb d_C_spare_22 rfl hl (by decide) rfl (fun ls hl => ?_)
    refine lv_iload_n hx hb d_C_spare_23 rfl (lv_at hl 0 rfl) ?_
    refine lv_iconst (v := (-1)) hx hb d_C_spare_24 (by decide) ?_
    refine lv_icmp_eq (tgt := 30) hx hb d_C_spare_25 (by decide) (fun c25 => ?_) (fun c25 => ?_)
    · skip
      refine lv_aload_n hx hb d_C_spare_30 rfl (lv_at hl 1 rfl) ?_
      refine va_get (D := D) (ci := 0) (v := .int (nI su)) (C := R_C) (T := F_C) (N := 17) hx hb hts i_C hown hK hP 1 rfl rfl 16 (by decide) (hts _ m_222) (fun _ h9 => h9) rfl d_C_spare_31 ?_
      refine lv_aload_n hx hb d_C_spare_34 rfl (lv_at hl 1 rfl) ?_
      refine va_get (D := D) (ci := 0) (v := .ref sp) (C := R_C) (T := F_C) (N := 17) hx hb hts i_C hown hK hP 1 rfl rfl 15 (by decide) (hts _ m_221) (fun _ h9 => h9) rfl d_C_spare_35 ?_
      refine va_alen hx hb hK hP 3 0 rfl (v := nI 8) rfl (rfl) d_C_spare_38 ?_
      refine lx_icmp_lt (tgt := 52) hx hb d_C_spare_39 (by decide) (by omega) (by omega) (fun c39 => ?_) (fun c39 => ?_)
      · skip
        refine lv_aload_n hx hb d_C_spare_52 rfl (lv_at hl 1 rfl) ?_
        refine va_get (D := D) (ci := 0) (v := .int (nI su)) (C := R_C) (T := F_C) (N := 17) hx hb hts i_C hown hK hP 1 rfl rfl 16 (by decide) (hts _ m_222) (fun _ h9 => h9) rfl d_C_spare_53 ?_
        refine lv_istore_n (lv' := [(3, .int (nI su)), (2, .int ((-1))), (0, .ref x), (1, .int (nI j))]) hx hb d_C_spare_56 rfl hl (by decide) rfl (fun ls hl => ?_)
        refine lv_aload_n hx hb d_C_spare_57 rfl (lv_at hl 2 rfl) ?_
        refine va_get (D := D) (ci := 0) (v := .ref sp) (C := R_C) (T := F_C) (N := 17) hx hb hts i_C hown hK hP 1 rfl rfl 15 (by decide) (hts _ m_221) (fun _ h9 => h9) rfl d_C_spare_58 ?_
        refine lv_iload_n hx hb d_C_spare_61 rfl (lv_at hl 0 rfl) ?_
        refine lv_iload_n hx hb d_C_spare_62 rfl (lv_at hl 3 rfl) ?_
        refine lx_iast (f' := upd fs su (nI j)) hx hb hK hP hD hS 3 0 rfl rfl (j := su) (by omega) (by omega) (rfl) d_C_spare_63 (fun H locs hP hD hS => ?_)
        have hP : va_P D vwCl ((tn, .inr (5, [.long (a0), .int (b0)])) :: (x, .inr (0, [.int (nI kd), .int (nI M), .int (nI (M + ckb kd M)), .long (lN (2 ^ M - 1)), .int (nI (2 ^ ckb kd M - 1)), .ref oc, .ref tn, .int (nI ha), .int (nI af), .long (lN w1), .int (nI c1), .int (nI t1), .ref ac, .int (nI an), .int (lb), .ref sp, .int (nI su)])) :: (ac, .inl (g 0, 8, .inl (fa))) :: (sp, .inl (g 0, 8, .inl (upd fs su (nI j)))) :: wr) H := hP
        have hD : va_D A ((tn, .inr (5, [.long (a0), .int (b0)])) :: (x, .inr (0, [.int (nI kd), .int (nI M), .int (nI (M + ckb kd M)), .long (lN (2 ^ M - 1)), .int (nI (2 ^ ckb kd M - 1)), .ref oc, .ref tn, .int (nI ha), .int (nI af), .long (lN w1), .int (nI c1), .int (nI t1), .ref ac, .int (nI an), .int (lb), .ref sp, .int (nI su)])) :: (ac, .inl (g 0, 8, .inl (fa))) :: (sp, .inl (g 0, 8, .inl (upd fs su (nI j)))) :: wr) := hD
        refine lv_aload_n hx hb d_C_spare_64 rfl (lv_at hl 2 rfl) ?_
        refine lv_iload_n hx hb d_C_spare_65 rfl (lv_at hl 0 rfl) ?_
        refine lv_iconst (v := nI 1) hx hb d_C_spare_66 (by decide) ?_
        refine lx_iadd (z := nI (su + 1)) hx hb d_C_spare_67 (nI_add su 1) ?_
        refine va_put (D := D) (ci := 0) (v := .int (nI (su + 1))) (ty := .int) (C := R_C) (T := F_C) (N := 17) hx hb hts i_C tf_C tf_C_ok nf_C hown hK hP hD hS 1 rfl rfl 16 (by decide) (hts _ m_222) (fun _ h9 => h9) rfl (by decide +kernel) rfl rfl (Nat.le_of_ble_eq_true rfl) d_C_spare_68 (fun H locs hP hD hS => ?_)
        have hP : va_P D vwCl ((tn, .inr (5, [.long (a0), .int (b0)])) :: (x, .inr (0, [.int (nI kd), .int (nI M), .int (nI (M + ckb kd M)), .long (lN (2 ^ M - 1)), .int (nI (2 ^ ckb kd M - 1)), .ref oc, .ref tn, .int (nI ha), .int (nI af), .long (lN w1), .int (nI c1), .int (nI t1), .ref ac, .int (nI an), .int (lb), .ref sp, .int (nI (su + 1))])) :: (ac, .inl (g 0, 8, .inl (fa))) :: (sp, .inl (g 0, 8, .inl (upd fs su (nI j)))) :: wr) H := hP
        have hD : va_D A ((tn, .inr (5, [.long (a0), .int (b0)])) :: (x, .inr (0, [.int (nI kd), .int (nI M), .int (nI (M + ckb kd M)), .long (lN (2 ^ M - 1)), .int (nI (2 ^ ckb kd M - 1)), .ref oc, .ref tn, .int (nI ha), .int (nI af), .long (lN w1), .int (nI c1), .int (nI t1), .ref ac, .int (nI an), .int (lb), .ref sp, .int (nI (su + 1))])) :: (ac, .inl (g 0, 8, .inl (fa))) :: (sp, .inl (g 0, 8, .inl (upd fs su (nI j)))) :: wr) := hD
        refine lv_iload_n hx hb d_C_spare_71 rfl (lv_at hl 0 rfl) ?_
        rw [← hQ]
        refine W.iret (v := nI su) hx hb hr ?_ hS.2.2 d_C_spare_72
        exact fun t ht hW => ⟨⟨nI su, (), rfl, rfl, by rw [ht]; exact hP, hD⟩, hS.F ht⟩
      · skip
        exact absurd hsu (by omega)
    · skip
      exact absurd rfl c25
  · skip
    exact absurd c4 (by decide)
set_option maxHeartbeats 4000000 in
set_option maxRecDepth 100000 in
theorem c_C_spareOf (l : Launch) (D : va_G) (g : Nat → ClassId) (sz : Nat) (wr : va_W) (x tn ac sp oc kd M ha af w1 c1 t1 an su : Nat) (a0 : Int64) (b0 lb : Int32) (fa fs : Nat → Int32) (hcw : CodeW g kd M oc wr) (hM0 : 0 < M) (hM : M ≤ 57) (j : Nat) (hj : j < 65536) (hsu : su ≤ 8) : Met l y_C_spareOf w_C_spareOf rm_C_spareOf (va_Pc [.ref x, .int (nI j)] (pP D (tyl g) ((tn, .inr (5, [.long (a0), .int (b0)])) :: (x, .inr (0, [.int (nI kd), .int (nI M), .int (nI (M + ckb kd M)), .long (lN (2 ^ M - 1)), .int (nI (2 ^ ckb kd M - 1)), .ref oc, .ref tn, .int (nI ha), .int (nI af), .long (lN w1), .int (nI c1), .int (nI t1), .ref ac, .int (nI an), .int (lb), .ref sp, .int (nI su)])) :: (ac, .inl (g 0, 8, .inl (fa))) :: (sp, .inl (g 0, 8, .inl (fs))) :: wr) sz)) (va_Qi (fun (r : Int32) (u : Unit) => (∃ i, i < su ∧ r = nI i ∧ fs i = nI j ∧ ∀ i9, i9 < i → ¬ fs i9 = nI j) ∨ (r = -1 ∧ ∀ i9, i9 < su → ¬ fs i9 = nI j)) (fun u => qB D (va_A ((tn, .inr (5, [.long (a0), .int (b0)])) :: (x, .inr (0, [.int (nI kd), .int (nI M), .int (nI (M + ckb kd M)), .long (lN (2 ^ M - 1)), .int (nI (2 ^ ckb kd M - 1)), .ref oc, .ref tn, .int (nI ha), .int (nI af), .long (lN w1), .int (nI c1), .int (nI t1), .ref ac, .int (nI an), .int (lb), .ref sp, .int (nI su)])) :: (ac, .inl (g 0, 8, .inl (fa))) :: (sp, .inl (g 0, 8, .inl (fs))) :: wr) sz) ((tn, .inr (5, [.long (a0), .int (b0)])) :: (x, .inr (0, [.int (nI kd), .int (nI M), .int (nI (M + ckb kd M)), .long (lN (2 ^ M - 1)), .int (nI (2 ^ ckb kd M - 1)), .ref oc, .ref tn, .int (nI ha), .int (nI af), .long (lN w1), .int (nI c1), .int (nI t1), .ref ac, .int (nI an), .int (lb), .ref sp, .int (nI su)])) :: (ac, .inl (g 0, 8, .inl (fa))) :: (sp, .inl (g 0, 8, .inl (fs))) :: wr)) (va_A ((tn, .inr (5, [.long (a0), .int (b0)])) :: (x, .inr (0, [.int (nI kd), .int (nI M), .int (nI (M + ckb kd M)), .long (lN (2 ^ M - 1)), .int (nI (2 ^ ckb kd M - 1)), .ref oc, .ref tn, .int (nI ha), .int (nI af), .long (lN w1), .int (nI c1), .int (nI t1), .ref ac, .int (nI an), .int (lb), .ref sp, .int (nI su)])) :: (ac, .inl (g 0, 8, .inl (fa))) :: (sp, .inl (g 0, 8, .inl (fs))) :: wr) sz)) 0 0 (va_A ((tn, .inr (5, [.long (a0), .int (b0)])) :: (x, .inr (0, [.int (nI kd), .int (nI M), .int (nI (M + ckb kd M)), .long (lN (2 ^ M - 1)), .int (nI (2 ^ ckb kd M - 1)), .ref oc, .ref tn, .int (nI ha), .int (nI af), .long (lN w1), .int (nI c1), .int (nI t1), .ref ac, .int (nI an), .int (lb), .ref sp, .int (nI su)])) :: (ac, .inl (g 0, 8, .inl (fa))) :: (sp, .inl (g 0, 8, .inl (fs))) :: wr) sz) := by
  refine Met.ofW (cc := b_C_spareOf) (maxL := 2) (ret := (some .int)) (by decide +kernel) rfl ?_
  intro p e s m args below meth c s₁ Bq hml hv
  have hx := Bq.exec
  have hb := Bq.bytes
  have hr := Bq.returns
  have hts : ∀ w ∈ wA, w.before args s = true := fun w h => atoms_spec (ws := w_C_spareOf) Bq.pre w (List.mem_cons_of_mem _ h)
  have hown : s.vm.findClass R_C = some m.cls := findClass_of_methodNamed Bq.named
  have hlocks := Bq.notSynchronized
  obtain ⟨rfl, hsz, hP, hKK, hD0⟩ := hv
  have hK := hKK.1
  subst hsz
  have hD := hD0.self (sz := s.heap.size)
  generalize hAe : va_A ((tn, .inr (5, [.long (a0), .int (b0)])) :: (x, .inr (0, [.int (nI kd), .int (nI M), .int (nI (M + ckb kd M)), .long (lN (2 ^ M - 1)), .int (nI (2 ^ ckb kd M - 1)), .ref oc, .ref tn, .int (nI ha), .int (nI af), .long (lN w1), .int (nI c1), .int (nI t1), .ref ac, .int (nI an), .int (lb), .ref sp, .int (nI su)])) :: (ac, .inl (g 0, 8, .inl (fa))) :: (sp, .inl (g 0, 8, .inl (fs))) :: wr) s.heap.size = A at hD ⊢
  have hA : ∀ q : Nat, s.heap.size ≤ q → A q := fun q h => by rw [← hAe]; exact Or.inr h
  have hS : va_S A s.heap s.heap [] := va_S.rf
  have hl := lv_entry ([.ref x, .int (nI j)]) (n := 2) (Nat.le_of_ble_eq_true rfl)
  rw [lg_entry_eq]
  generalize (lg_sl ([.ref x, .int (nI j)]) ++ List.replicate (2 - (lg_sl ([.ref x, .int (nI j)])).length) Slot.unset).toArray = ls at hl ⊢
  have hl : lv_has ls 2 [(0, .ref x), (1, .int (nI j))] := hl
  generalize hQ : MQ below (va_Qi (fun (r : Int32) (u : Unit) => (∃ i, i < su ∧ r = nI i ∧ fs i = nI j ∧ ∀ i9, i9 < i → ¬ fs i9 = nI j) ∨ (r = -1 ∧ ∀ i9, i9 < su → ¬ fs i9 = nI j)) (fun u => qB D (A) ((tn, .inr (5, [.long (a0), .int (b0)])) :: (x, .inr (0, [.int (nI kd), .int (nI M), .int (nI (M + ckb kd M)), .long (lN (2 ^ M - 1)), .int (nI (2 ^ ckb kd M - 1)), .ref oc, .ref tn, .int (nI ha), .int (nI af), .long (lN w1), .int (nI c1), .int (nI t1), .ref ac, .int (nI an), .int (lb), .ref sp, .int (nI su)])) :: (ac, .inl (g 0, 8, .inl (fa))) :: (sp, .inl (g 0, 8, .inl (fs))) :: wr)) (A)) [.ref x, .int (nI j)].toArray s 0 0 A = Q
  refine lv_iload_n hx hb d_C_spareOf_0 rfl (lv_at hl 1 rfl) ?_
  refine lr_Si (As := [.int (nI j)]) (rest := []) ⟨hx, hb, hml, hown, hts⟩ (r_C_isRow l D g _ _ (nI j)) (kS 1 hts m_559 m_557 m_558 m_30 (by decide +kernel) ⟨Nat.le_of_ble_eq_true rfl, Nat.le_of_ble_eq_true rfl⟩) hKK hP (hD.weaken (fun _ _ _ _ => trivial)) hS hA hl.1 rfl rfl (Nat.le_of_ble_eq_true rfl) d_C_spareOf_1 ⟨Nat.le_of_ble_eq_true rfl, Nat.le_of_ble_eq_true rfl⟩ (fun r1 H locs e1 hP hS => ?_)
  obtain rfl : r1 = nI 1 := e1.trans (by rw [inBb_nI (by decide) hj])
  refine lx_if_ne (tgt := 17) hx hb d_C_spareOf_4 (by decide) (by omega) (fun c4 => ?_) (fun c4 => ?_)
  · skip
    refine lv_aload_n hx hb d_C_spareOf_17 rfl (lv_at hl 0 rfl) ?_
    refine lv_iload_n hx hb d_C_spareOf_18 rfl (lv_at hl 1 rfl) ?_
    refine lr_Vi (b := x) (As := [.int (nI j)]) (rest := []) ⟨hx, hb, hml, hown, hts⟩ (r_C_findSpare l D g _ wr x tn ac sp oc kd M ha af w1 c1 t1 an su a0 b0 lb fa fs hM0 hM (nI j) (by omega)) (kV 1 hts m_565 m_562 m_564 m_12 m_30 (by decide +kernel) ⟨Nat.le_of_ble_eq_true rfl, Nat.le_of_ble_eq_true rfl⟩) (va_recv hK hP (ci := 0) (q0 := 1) rfl rfl) hKK hP (hD.weaken (fun _ _ _ _ => trivial)) hS hA hl.1 rfl rfl (Nat.le_of_ble_eq_true rfl) d_C_spareOf_19 ⟨Nat.le_of_ble_eq_true rfl, Nat.le_of_ble_eq_true rfl⟩ (fun r2 H locs e2 hP hS => ?_)
    rw [← hQ]
    refine W.iret (v := r2) hx hb hr ?_ hS.2.2 d_C_spareOf_22
    exact fun t ht hW => ⟨⟨r2, (), rfl, e2, by rw [ht]; exact hP, hD⟩, hS.F ht⟩
  · skip
    exact absurd c4 (by decide)
