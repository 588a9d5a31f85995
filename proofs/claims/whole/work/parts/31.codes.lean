set_option maxRecDepth 20000 in
theorem m_215 : Cond.fieldLink R_C 115 R_C "lastWord" "J" ∈ wA := in_wA (List.mem_of_getElem? (i := 215) rfl) rfl
set_option maxRecDepth 20000 in
theorem m_216 : Cond.fieldLink R_C 121 R_C "lastCheck" "I" ∈ wA := in_wA (List.mem_of_getElem? (i := 216) rfl) rfl
set_option maxRecDepth 20000 in
theorem m_217 : Cond.fieldLink R_C 133 R_C "lastTurned" "I" ∈ wA := in_wA (List.mem_of_getElem? (i := 217) rfl) rfl
set_option maxRecDepth 20000 in
theorem m_196 : Cond.fieldLink R_C 112 R_T "wordFlips" "J" ∈ wA := in_wA (List.mem_of_getElem? (i := 196) rfl) rfl
set_option maxRecDepth 20000 in
theorem m_200 : Cond.fieldLink R_C 118 R_T "checkFlips" "I" ∈ wA := in_wA (List.mem_of_getElem? (i := 200) rfl) rfl
set_option maxRecDepth 20000 in
theorem m_505 : Cond.code y_C_wordPart b_C_wordPart 2 (some .long) ∈ wA := in_wA (List.mem_of_getElem? (i := 505) rfl) rfl
set_option maxRecDepth 20000 in
theorem m_502 : Cond.methodLink R_C 203 y_C_wordPart ∈ wA := in_wA (List.mem_of_getElem? (i := 502) rfl) rfl
set_option maxRecDepth 20000 in
theorem m_504 : Cond.instanceMethod y_C_wordPart ∈ wA := in_wA (List.mem_of_getElem? (i := 504) rfl) rfl
set_option maxRecDepth 20000 in
theorem m_4 : Cond.selects R_C y_C_wordPart y_C_wordPart ∈ wA := in_wA (List.mem_of_getElem? (i := 4) rfl) rfl
set_option maxRecDepth 20000 in
theorem m_509 : Cond.code y_C_checkPart b_C_checkPart 2 (some .int) ∈ wA := in_wA (List.mem_of_getElem? (i := 509) rfl) rfl
set_option maxRecDepth 20000 in
theorem m_506 : Cond.methodLink R_C 207 y_C_checkPart ∈ wA := in_wA (List.mem_of_getElem? (i := 506) rfl) rfl
set_option maxRecDepth 20000 in
theorem m_508 : Cond.instanceMethod y_C_checkPart ∈ wA := in_wA (List.mem_of_getElem? (i := 508) rfl) rfl
set_option maxRecDepth 20000 in
theorem m_5 : Cond.selects R_C y_C_checkPart y_C_checkPart ∈ wA := in_wA (List.mem_of_getElem? (i := 5) rfl) rfl
set_option maxRecDepth 20000 in
theorem m_513 : Cond.code y_C_answerTo b_C_answerTo 7 (some .int) ∈ wA := in_wA (List.mem_of_getElem? (i := 513) rfl) rfl
set_option maxRecDepth 20000 in
theorem m_510 : Cond.methodLink R_C 210 y_C_answerTo ∈ wA := in_wA (List.mem_of_getElem? (i := 510) rfl) rfl
set_option maxRecDepth 20000 in
theorem m_512 : Cond.instanceMethod y_C_answerTo ∈ wA := in_wA (List.mem_of_getElem? (i := 512) rfl) rfl
set_option maxRecDepth 20000 in
theorem m_6 : Cond.selects R_C y_C_answerTo y_C_answerTo ∈ wA := in_wA (List.mem_of_getElem? (i := 6) rfl) rfl
set_option maxRecDepth 20000 in
theorem m_214 : Cond.fieldLink R_C 96 R_C "addressFold" "I" ∈ wA := in_wA (List.mem_of_getElem? (i := 214) rfl) rfl
set_option maxRecDepth 20000 in
theorem m_213 : Cond.fieldLink R_C 89 R_C "hasAddress" "Z" ∈ wA := in_wA (List.mem_of_getElem? (i := 213) rfl) rfl
set_option maxRecDepth 20000 in
theorem m_421 : Cond.constant R_C 198 65535 ∈ wA := in_wA (List.mem_of_getElem? (i := 421) rfl) rfl
set_option maxRecDepth 20000 in
theorem m_420 : Cond.code y_C_foldOf b_C_foldOf 2 (some .int) ∈ wA := in_wA (List.mem_of_getElem? (i := 420) rfl) rfl
set_option maxRecDepth 20000 in
theorem m_418 : Cond.methodLink R_C 93 y_C_foldOf ∈ wA := in_wA (List.mem_of_getElem? (i := 418) rfl) rfl
set_option maxRecDepth 20000 in
theorem m_419 : Cond.static y_C_foldOf ∈ wA := in_wA (List.mem_of_getElem? (i := 419) rfl) rfl
abbrev w_C_word : List Cond := .code y_C_word b_C_word 1 (some .long) :: wA
abbrev rm_C_word : Room := { frames := 0, cells := 0, slots := 0, locals := 0 }
theorem d_C_word_0 : decode b_C_word 0 = .ok (.aload_n 0, 1) := by decide +kernel
theorem d_C_word_1 : decode b_C_word 1 = .ok (.getfield 115, 3) := by decide +kernel
theorem d_C_word_4 : decode b_C_word 4 = .ok (.lreturn, 1) := by decide +kernel
abbrev w_C_checkRead : List Cond := .code y_C_checkRead b_C_checkRead 1 (some .int) :: wA
abbrev rm_C_checkRead : Room := { frames := 0, cells := 0, slots := 0, locals := 0 }
theorem d_C_checkRead_0 : decode b_C_checkRead 0 = .ok (.aload_n 0, 1) := by decide +kernel
theorem d_C_checkRead_1 : decode b_C_checkRead 1 = .ok (.getfield 121, 3) := by decide +kernel
theorem d_C_checkRead_4 : decode b_C_checkRead 4 = .ok (.ireturn, 1) := by decide +kernel
abbrev w_C_turned : List Cond := .code y_C_turned b_C_turned 1 (some .int) :: wA
abbrev rm_C_turned : Room := { frames := 0, cells := 0, slots := 0, locals := 0 }
theorem d_C_turned_0 : decode b_C_turned 0 = .ok (.aload_n 0, 1) := by decide +kernel
theorem d_C_turned_1 : decode b_C_turned 1 = .ok (.getfield 133, 3) := by decide +kernel
theorem d_C_turned_4 : decode b_C_turned 4 = .ok (.ireturn, 1) := by decide +kernel
abbrev w_C_wordPart : List Cond := .code y_C_wordPart b_C_wordPart 2 (some .long) :: wA
abbrev rm_C_wordPart : Room := { frames := 0, cells := 0, slots := 0, locals := 0 }
theorem d_C_wordPart_0 : decode b_C_wordPart 0 = .ok (.iload_n 1, 1) := by decide +kernel
theorem d_C_wordPart_1 : decode b_C_wordPart 1 = .ok (.aload_n 0, 1) := by decide +kernel
theorem d_C_wordPart_2 : decode b_C_wordPart 2 = .ok (.getfield 17, 3) := by decide +kernel
theorem d_C_wordPart_5 : decode b_C_wordPart 5 = .ok (.if_icmp .ge 9, 3) := by decide +kernel
theorem d_C_wordPart_8 : decode b_C_wordPart 8 = .ok (.lconst 1, 1) := by decide +kernel
theorem d_C_wordPart_9 : decode b_C_wordPart 9 = .ok (.iload_n 1, 1) := by decide +kernel
theorem d_C_wordPart_10 : decode b_C_wordPart 10 = .ok (.lshl, 1) := by decide +kernel
theorem d_C_wordPart_11 : decode b_C_wordPart 11 = .ok (.goto 4, 3) := by decide +kernel
theorem d_C_wordPart_14 : decode b_C_wordPart 14 = .ok (.lconst 0, 1) := by decide +kernel
theorem d_C_wordPart_15 : decode b_C_wordPart 15 = .ok (.lreturn, 1) := by decide +kernel
abbrev w_C_checkPart : List Cond := .code y_C_checkPart b_C_checkPart 2 (some .int) :: wA
abbrev rm_C_checkPart : Room := { frames := 0, cells := 0, slots := 0, locals := 0 }
theorem d_C_checkPart_0 : decode b_C_checkPart 0 = .ok (.iload_n 1, 1) := by decide +kernel
theorem d_C_checkPart_1 : decode b_C_checkPart 1 = .ok (.aload_n 0, 1) := by decide +kernel
theorem d_C_checkPart_2 : decode b_C_checkPart 2 = .ok (.getfield 17, 3) := by decide +kernel
theorem d_C_checkPart_5 : decode b_C_checkPart 5 = .ok (.if_icmp .ge 7, 3) := by decide +kernel
theorem d_C_checkPart_8 : decode b_C_checkPart 8 = .ok (.iconst 0, 1) := by decide +kernel
theorem d_C_checkPart_9 : decode b_C_checkPart 9 = .ok (.goto 11, 3) := by decide +kernel
theorem d_C_checkPart_12 : decode b_C_checkPart 12 = .ok (.iconst 1, 1) := by decide +kernel
theorem d_C_checkPart_13 : decode b_C_checkPart 13 = .ok (.iload_n 1, 1) := by decide +kernel
theorem d_C_checkPart_14 : decode b_C_checkPart 14 = .ok (.aload_n 0, 1) := by decide +kernel
theorem d_C_checkPart_15 : decode b_C_checkPart 15 = .ok (.getfield 17, 3) := by decide +kernel
theorem d_C_checkPart_18 : decode b_C_checkPart 18 = .ok (.isub, 1) := by decide +kernel
theorem d_C_checkPart_19 : decode b_C_checkPart 19 = .ok (.ishl, 1) := by decide +kernel
theorem d_C_checkPart_20 : decode b_C_checkPart 20 = .ok (.ireturn, 1) := by decide +kernel
abbrev w_C_answerTo : List Cond := .code y_C_answerTo b_C_answerTo 7 (some .int) :: wA
abbrev rm_C_answerTo : Room := { frames := 3, cells := 0, slots := 0, locals := 74 }
theorem d_C_answerTo_0 : decode b_C_answerTo 0 = .ok (.aload_n 0, 1) := by decide +kernel
theorem d_C_answerTo_1 : decode b_C_answerTo 1 = .ok (.getfield 31, 3) := by decide +kernel
theorem d_C_answerTo_4 : decode b_C_answerTo 4 = .ok (.iload_n 1, 1) := by decide +kernel
theorem d_C_answerTo_5 : decode b_C_answerTo 5 = .ok (.aload_n 0, 1) := by decide +kernel
theorem d_C_answerTo_6 : decode b_C_answerTo 6 = .ok (.getfield 53, 3) := by decide +kernel
theorem d_C_answerTo_9 : decode b_C_answerTo 9 = .ok (.invokevirtual 108, 3) := by decide +kernel
theorem d_C_answerTo_12 : decode b_C_answerTo 12 = .ok (.istore 5, 2) := by decide +kernel
theorem d_C_answerTo_14 : decode b_C_answerTo 14 = .ok (.aload_n 0, 1) := by decide +kernel
theorem d_C_answerTo_15 : decode b_C_answerTo 15 = .ok (.getfield 53, 3) := by decide +kernel
theorem d_C_answerTo_18 : decode b_C_answerTo 18 = .ok (.getfield 112, 3) := by decide +kernel
theorem d_C_answerTo_21 : decode b_C_answerTo 21 = .ok (.lload_n 2, 1) := by decide +kernel
theorem d_C_answerTo_22 : decode b_C_answerTo 22 = .ok (.lcmp, 1) := by decide +kernel
theorem d_C_answerTo_23 : decode b_C_answerTo 23 = .ok (.ifCond .ne 19, 3) := by decide +kernel
theorem d_C_answerTo_26 : decode b_C_answerTo 26 = .ok (.aload_n 0, 1) := by decide +kernel
theorem d_C_answerTo_27 : decode b_C_answerTo 27 = .ok (.getfield 53, 3) := by decide +kernel
theorem d_C_answerTo_30 : decode b_C_answerTo 30 = .ok (.getfield 118, 3) := by decide +kernel
theorem d_C_answerTo_33 : decode b_C_answerTo 33 = .ok (.iload 4, 2) := by decide +kernel
theorem d_C_answerTo_35 : decode b_C_answerTo 35 = .ok (.if_icmp .ne 7, 3) := by decide +kernel
theorem d_C_answerTo_38 : decode b_C_answerTo 38 = .ok (.iconst 1, 1) := by decide +kernel
theorem d_C_answerTo_39 : decode b_C_answerTo 39 = .ok (.goto 4, 3) := by decide +kernel
theorem d_C_answerTo_42 : decode b_C_answerTo 42 = .ok (.iconst 0, 1) := by decide +kernel
theorem d_C_answerTo_43 : decode b_C_answerTo 43 = .ok (.istore 6, 2) := by decide +kernel
theorem d_C_answerTo_45 : decode b_C_answerTo 45 = .ok (.iload 5, 2) := by decide +kernel
theorem d_C_answerTo_47 : decode b_C_answerTo 47 = .ok (.iconst 1, 1) := by decide +kernel
theorem d_C_answerTo_48 : decode b_C_answerTo 48 = .ok (.if_icmp .ne 12, 3) := by decide +kernel
theorem d_C_answerTo_51 : decode b_C_answerTo 51 = .ok (.iload 6, 2) := by decide +kernel
theorem d_C_answerTo_53 : decode b_C_answerTo 53 = .ok (.ifCond .ne 7, 3) := by decide +kernel
theorem d_C_answerTo_56 : decode b_C_answerTo 56 = .ok (.iconst 3, 1) := by decide +kernel
theorem d_C_answerTo_57 : decode b_C_answerTo 57 = .ok (.goto 5, 3) := by decide +kernel
theorem d_C_answerTo_60 : decode b_C_answerTo 60 = .ok (.iload 5, 2) := by decide +kernel
theorem d_C_answerTo_62 : decode b_C_answerTo 62 = .ok (.ireturn, 1) := by decide +kernel
abbrev w_C_answerToPair : List Cond := .code y_C_answerToPair b_C_answerToPair 4 (some .int) :: wA
abbrev rm_C_answerToPair : Room := { frames := 4, cells := 0, slots := 0, locals := 100 }
theorem d_C_answerToPair_0 : decode b_C_answerToPair 0 = .ok (.iload_n 1, 1) := by decide +kernel
theorem d_C_answerToPair_1 : decode b_C_answerToPair 1 = .ok (.iload_n 2, 1) := by decide +kernel
theorem d_C_answerToPair_2 : decode b_C_answerToPair 2 = .ok (.if_icmp .ne 14, 3) := by decide +kernel
theorem d_C_answerToPair_5 : decode b_C_answerToPair 5 = .ok (.aload_n 0, 1) := by decide +kernel
theorem d_C_answerToPair_6 : decode b_C_answerToPair 6 = .ok (.getfield 31, 3) := by decide +kernel
theorem d_C_answerToPair_9 : decode b_C_answerToPair 9 = .ok (.iload_n 1, 1) := by decide +kernel
theorem d_C_answerToPair_10 : decode b_C_answerToPair 10 = .ok (.invokevirtual 200, 3) := by decide +kernel
theorem d_C_answerToPair_13 : decode b_C_answerToPair 13 = .ok (.goto 20, 3) := by decide +kernel
theorem d_C_answerToPair_16 : decode b_C_answerToPair 16 = .ok (.aload_n 0, 1) := by decide +kernel
theorem d_C_answerToPair_17 : decode b_C_answerToPair 17 = .ok (.getfield 31, 3) := by decide +kernel
theorem d_C_answerToPair_20 : decode b_C_answerToPair 20 = .ok (.iload_n 1, 1) := by decide +kernel
theorem d_C_answerToPair_21 : decode b_C_answerToPair 21 = .ok (.invokevirtual 200, 3) := by decide +kernel
theorem d_C_answerToPair_24 : decode b_C_answerToPair 24 = .ok (.aload_n 0, 1) := by decide +kernel
theorem d_C_answerToPair_25 : decode b_C_answerToPair 25 = .ok (.getfield 31, 3) := by decide +kernel
theorem d_C_answerToPair_28 : decode b_C_answerToPair 28 = .ok (.iload_n 2, 1) := by decide +kernel
theorem d_C_answerToPair_29 : decode b_C_answerToPair 29 = .ok (.invokevirtual 200, 3) := by decide +kernel
theorem d_C_answerToPair_32 : decode b_C_answerToPair 32 = .ok (.ixor, 1) := by decide +kernel
theorem d_C_answerToPair_33 : decode b_C_answerToPair 33 = .ok (.istore_n 3, 1) := by decide +kernel
theorem d_C_answerToPair_34 : decode b_C_answerToPair 34 = .ok (.aload_n 0, 1) := by decide +kernel
theorem d_C_answerToPair_35 : decode b_C_answerToPair 35 = .ok (.iload_n 3, 1) := by decide +kernel
theorem d_C_answerToPair_36 : decode b_C_answerToPair 36 = .ok (.aload_n 0, 1) := by decide +kernel
theorem d_C_answerToPair_37 : decode b_C_answerToPair 37 = .ok (.iload_n 1, 1) := by decide +kernel
theorem d_C_answerToPair_38 : decode b_C_answerToPair 38 = .ok (.invokevirtual 203, 3) := by decide +kernel
theorem d_C_answerToPair_41 : decode b_C_answerToPair 41 = .ok (.aload_n 0, 1) := by decide +kernel
theorem d_C_answerToPair_42 : decode b_C_answerToPair 42 = .ok (.iload_n 2, 1) := by decide +kernel
theorem d_C_answerToPair_43 : decode b_C_answerToPair 43 = .ok (.invokevirtual 203, 3) := by decide +kernel
theorem d_C_answerToPair_46 : decode b_C_answerToPair 46 = .ok (.lor, 1) := by decide +kernel
theorem d_C_answerToPair_47 : decode b_C_answerToPair 47 = .ok (.aload_n 0, 1) := by decide +kernel
theorem d_C_answerToPair_48 : decode b_C_answerToPair 48 = .ok (.iload_n 1, 1) := by decide +kernel
theorem d_C_answerToPair_49 : decode b_C_answerToPair 49 = .ok (.invokevirtual 207, 3) := by decide +kernel
theorem d_C_answerToPair_52 : decode b_C_answerToPair 52 = .ok (.aload_n 0, 1) := by decide +kernel
theorem d_C_answerToPair_53 : decode b_C_answerToPair 53 = .ok (.iload_n 2, 1) := by decide +kernel
theorem d_C_answerToPair_54 : decode b_C_answerToPair 54 = .ok (.invokevirtual 207, 3) := by decide +kernel
theorem d_C_answerToPair_57 : decode b_C_answerToPair 57 = .ok (.ior, 1) := by decide +kernel
theorem d_C_answerToPair_58 : decode b_C_answerToPair 58 = .ok (.invokevirtual 210, 3) := by decide +kernel
theorem d_C_answerToPair_61 : decode b_C_answerToPair 61 = .ok (.ireturn, 1) := by decide +kernel
abbrev w_C_check : List Cond := .code y_C_check b_C_check 3 (some .int) :: wA
abbrev rm_C_check : Room := { frames := 1, cells := 0, slots := 0, locals := 26 }
theorem d_C_check_0 : decode b_C_check 0 = .ok (.aload_n 0, 1) := by decide +kernel
theorem d_C_check_1 : decode b_C_check 1 = .ok (.getfield 31, 3) := by decide +kernel
theorem d_C_check_4 : decode b_C_check 4 = .ok (.lload_n 1, 1) := by decide +kernel
theorem d_C_check_5 : decode b_C_check 5 = .ok (.invokevirtual 99, 3) := by decide +kernel
theorem d_C_check_8 : decode b_C_check 8 = .ok (.aload_n 0, 1) := by decide +kernel
theorem d_C_check_9 : decode b_C_check 9 = .ok (.getfield 96, 3) := by decide +kernel
theorem d_C_check_12 : decode b_C_check 12 = .ok (.ixor, 1) := by decide +kernel
theorem d_C_check_13 : decode b_C_check 13 = .ok (.ireturn, 1) := by decide +kernel
abbrev w_C_plain : List Cond := .code y_C_plain b_C_plain 2 (some .boolean) :: wA
abbrev rm_C_plain : Room := { frames := 0, cells := 0, slots := 0, locals := 0 }
theorem d_C_plain_0 : decode b_C_plain 0 = .ok (.aload_n 0, 1) := by decide +kernel
theorem d_C_plain_1 : decode b_C_plain 1 = .ok (.getfield 89, 3) := by decide +kernel
theorem d_C_plain_4 : decode b_C_plain 4 = .ok (.istore_n 1, 1) := by decide +kernel
theorem d_C_plain_5 : decode b_C_plain 5 = .ok (.aload_n 0, 1) := by decide +kernel
theorem d_C_plain_6 : decode b_C_plain 6 = .ok (.iconst 0, 1) := by decide +kernel
theorem d_C_plain_7 : decode b_C_plain 7 = .ok (.putfield 89, 3) := by decide +kernel
theorem d_C_plain_10 : decode b_C_plain 10 = .ok (.aload_n 0, 1) := by decide +kernel
theorem d_C_plain_11 : decode b_C_plain 11 = .ok (.iconst 0, 1) := by decide +kernel
theorem d_C_plain_12 : decode b_C_plain 12 = .ok (.putfield 96, 3) := by decide +kernel
theorem d_C_plain_15 : decode b_C_plain 15 = .ok (.iload_n 1, 1) := by decide +kernel
theorem d_C_plain_16 : decode b_C_plain 16 = .ok (.ireturn, 1) := by decide +kernel
abbrev w_C_size : List Cond := .code y_C_size b_C_size 2 (some .int) :: wA
abbrev rm_C_size : Room := { frames := 3, cells := 0, slots := 0, locals := 69 }
theorem d_C_size_0 : decode b_C_size 0 = .ok (.iload_n 1, 1) := by decide +kernel
theorem d_C_size_1 : decode b_C_size 1 = .ok (.tableswitch 57 0 3 #[31, 36, 44, 49], 31) := by decide +kernel
theorem d_C_size_32 : decode b_C_size 32 = .ok (.aload_n 0, 1) := by decide +kernel
theorem d_C_size_33 : decode b_C_size 33 = .ok (.getfield 17, 3) := by decide +kernel
theorem d_C_size_36 : decode b_C_size 36 = .ok (.ireturn, 1) := by decide +kernel
theorem d_C_size_37 : decode b_C_size 37 = .ok (.aload_n 0, 1) := by decide +kernel
theorem d_C_size_38 : decode b_C_size 38 = .ok (.getfield 31, 3) := by decide +kernel
theorem d_C_size_41 : decode b_C_size 41 = .ok (.getfield 35, 3) := by decide +kernel
theorem d_C_size_44 : decode b_C_size 44 = .ok (.ireturn, 1) := by decide +kernel
theorem d_C_size_45 : decode b_C_size 45 = .ok (.aload_n 0, 1) := by decide +kernel
theorem d_C_size_46 : decode b_C_size 46 = .ok (.getfield 24, 3) := by decide +kernel
theorem d_C_size_49 : decode b_C_size 49 = .ok (.ireturn, 1) := by decide +kernel
theorem d_C_size_50 : decode b_C_size 50 = .ok (.aload_n 0, 1) := by decide +kernel
theorem d_C_size_51 : decode b_C_size 51 = .ok (.getfield 31, 3) := by decide +kernel
theorem d_C_size_54 : decode b_C_size 54 = .ok (.invokevirtual 67, 3) := by decide +kernel
theorem d_C_size_57 : decode b_C_size 57 = .ok (.ireturn, 1) := by decide +kernel
theorem d_C_size_58 : decode b_C_size 58 = .ok (.iconst (-1), 1) := by decide +kernel
theorem d_C_size_59 : decode b_C_size 59 = .ok (.ireturn, 1) := by decide +kernel
abbrev w_C_foldOf : List Cond := .code y_C_foldOf b_C_foldOf 2 (some .int) :: wA
abbrev rm_C_foldOf : Room := { frames := 0, cells := 0, slots := 0, locals := 0 }
theorem d_C_foldOf_0 : decode b_C_foldOf 0 = .ok (.iload_n 0, 1) := by decide +kernel
theorem d_C_foldOf_1 : decode b_C_foldOf 1 = .ok (.bipush 16, 2) := by decide +kernel
theorem d_C_foldOf_3 : decode b_C_foldOf 3 = .ok (.iushr, 1) := by decide +kernel
theorem d_C_foldOf_4 : decode b_C_foldOf 4 = .ok (.iload_n 0, 1) := by decide +kernel
theorem d_C_foldOf_5 : decode b_C_foldOf 5 = .ok (.ixor, 1) := by decide +kernel
theorem d_C_foldOf_6 : decode b_C_foldOf 6 = .ok (.ldc 198, 2) := by decide +kernel
theorem d_C_foldOf_8 : decode b_C_foldOf 8 = .ok (.iand, 1) := by decide +kernel
theorem d_C_foldOf_9 : decode b_C_foldOf 9 = .ok (.istore_n 1, 1) := by decide +kernel
theorem d_C_foldOf_10 : decode b_C_foldOf 10 = .ok (.iload_n 1, 1) := by decide +kernel
theorem d_C_foldOf_11 : decode b_C_foldOf 11 = .ok (.iconst 3, 1) := by decide +kernel
theorem d_C_foldOf_12 : decode b_C_foldOf 12 = .ok (.ishl, 1) := by decide +kernel
theorem d_C_foldOf_13 : decode b_C_foldOf 13 = .ok (.iload_n 1, 1) := by decide +kernel
theorem d_C_foldOf_14 : decode b_C_foldOf 14 = .ok (.bipush 13, 2) := by decide +kernel
theorem d_C_foldOf_16 : decode b_C_foldOf 16 = .ok (.iushr, 1) := by decide +kernel
theorem d_C_foldOf_17 : decode b_C_foldOf 17 = .ok (.ior, 1) := by decide +kernel
theorem d_C_foldOf_18 : decode b_C_foldOf 18 = .ok (.ldc 198, 2) := by decide +kernel
theorem d_C_foldOf_20 : decode b_C_foldOf 20 = .ok (.iand, 1) := by decide +kernel
theorem d_C_foldOf_21 : decode b_C_foldOf 21 = .ok (.ireturn, 1) := by decide +kernel
abbrev w_C_address : List Cond := .code y_C_address b_C_address 3 (some .boolean) :: wA
abbrev rm_C_address : Room := { frames := 7, cells := 0, slots := 0, locals := 120 }
theorem d_C_address_0 : decode b_C_address 0 = .ok (.aload_n 0, 1) := by decide +kernel
theorem d_C_address_1 : decode b_C_address 1 = .ok (.getfield 24, 3) := by decide +kernel
theorem d_C_address_4 : decode b_C_address 4 = .ok (.iconst 1, 1) := by decide +kernel
theorem d_C_address_5 : decode b_C_address 5 = .ok (.if_icmp .eq 11, 3) := by decide +kernel
theorem d_C_address_8 : decode b_C_address 8 = .ok (.aload_n 0, 1) := by decide +kernel
theorem d_C_address_9 : decode b_C_address 9 = .ok (.getfield 24, 3) := by decide +kernel
theorem d_C_address_12 : decode b_C_address 12 = .ok (.iconst 2, 1) := by decide +kernel
theorem d_C_address_13 : decode b_C_address 13 = .ok (.if_icmp .ne 13, 3) := by decide +kernel
theorem d_C_address_16 : decode b_C_address 16 = .ok (.new 78, 3) := by decide +kernel
theorem d_C_address_19 : decode b_C_address 19 = .ok (.dup, 1) := by decide +kernel
theorem d_C_address_20 : decode b_C_address 20 = .ok (.ldc 87, 2) := by decide +kernel
theorem d_C_address_22 : decode b_C_address 22 = .ok (.invokespecial 82, 3) := by decide +kernel
theorem d_C_address_25 : decode b_C_address 25 = .ok (.athrow, 1) := by decide +kernel
theorem d_C_address_26 : decode b_C_address 26 = .ok (.aload_n 0, 1) := by decide +kernel
theorem d_C_address_27 : decode b_C_address 27 = .ok (.getfield 89, 3) := by decide +kernel
theorem d_C_address_30 : decode b_C_address 30 = .ok (.istore_n 2, 1) := by decide +kernel
theorem d_C_address_31 : decode b_C_address 31 = .ok (.aload_n 0, 1) := by decide +kernel
theorem d_C_address_32 : decode b_C_address 32 = .ok (.iconst 1, 1) := by decide +kernel
theorem d_C_address_33 : decode b_C_address 33 = .ok (.putfield 89, 3) := by decide +kernel
theorem d_C_address_36 : decode b_C_address 36 = .ok (.aload_n 0, 1) := by decide +kernel
theorem d_C_address_37 : decode b_C_address 37 = .ok (.iload_n 1, 1) := by decide +kernel
theorem d_C_address_38 : decode b_C_address 38 = .ok (.invokestatic 93, 3) := by decide +kernel
theorem d_C_address_41 : decode b_C_address 41 = .ok (.aload_n 0, 1) := by decide +kernel
theorem d_C_address_42 : decode b_C_address 42 = .ok (.getfield 47, 3) := by decide +kernel
theorem d_C_address_45 : decode b_C_address 45 = .ok (.iand, 1) := by decide +kernel
theorem d_C_address_46 : decode b_C_address 46 = .ok (.putfield 96, 3) := by decide +kernel
theorem d_C_address_49 : decode b_C_address 49 = .ok (.iload_n 2, 1) := by decide +kernel
theorem d_C_address_50 : decode b_C_address 50 = .ok (.ireturn, 1) := by decide +kernel
abbrev w_C_column : List Cond := .code y_C_column b_C_column 2 (some .int) :: wA
abbrev rm_C_column : Room := { frames := 7, cells := 0, slots := 0, locals := 120 }
theorem d_C_column_0 : decode b_C_column 0 = .ok (.iload_n 1, 1) := by decide +kernel
theorem d_C_column_1 : decode b_C_column 1 = .ok (.ifCond .lt 11, 3) := by decide +kernel
theorem d_C_column_4 : decode b_C_column 4 = .ok (.iload_n 1, 1) := by decide +kernel
theorem d_C_column_5 : decode b_C_column 5 = .ok (.aload_n 0, 1) := by decide +kernel
theorem d_C_column_6 : decode b_C_column 6 = .ok (.getfield 17, 3) := by decide +kernel
theorem d_C_column_9 : decode b_C_column 9 = .ok (.if_icmp .lt 13, 3) := by decide +kernel
theorem d_C_column_12 : decode b_C_column 12 = .ok (.new 71, 3) := by decide +kernel
theorem d_C_column_15 : decode b_C_column 15 = .ok (.dup, 1) := by decide +kernel
theorem d_C_column_16 : decode b_C_column 16 = .ok (.ldc 73, 2) := by decide +kernel
theorem d_C_column_18 : decode b_C_column 18 = .ok (.invokespecial 75, 3) := by decide +kernel
theorem d_C_column_21 : decode b_C_column 21 = .ok (.athrow, 1) := by decide +kernel
theorem d_C_column_22 : decode b_C_column 22 = .ok (.aload_n 0, 1) := by decide +kernel
theorem d_C_column_23 : decode b_C_column 23 = .ok (.getfield 24, 3) := by decide +kernel
theorem d_C_column_26 : decode b_C_column 26 = .ok (.iconst 2, 1) := by decide +kernel
theorem d_C_column_27 : decode b_C_column 27 = .ok (.if_icmp .ne 13, 3) := by decide +kernel
theorem d_C_column_30 : decode b_C_column 30 = .ok (.new 78, 3) := by decide +kernel
theorem d_C_column_33 : decode b_C_column 33 = .ok (.dup, 1) := by decide +kernel
theorem d_C_column_34 : decode b_C_column 34 = .ok (.ldc 80, 2) := by decide +kernel
theorem d_C_column_36 : decode b_C_column 36 = .ok (.invokespecial 82, 3) := by decide +kernel
theorem d_C_column_39 : decode b_C_column 39 = .ok (.athrow, 1) := by decide +kernel
theorem d_C_column_40 : decode b_C_column 40 = .ok (.aload_n 0, 1) := by decide +kernel
theorem d_C_column_41 : decode b_C_column 41 = .ok (.getfield 31, 3) := by decide +kernel
theorem d_C_column_44 : decode b_C_column 44 = .ok (.iload_n 1, 1) := by decide +kernel
theorem d_C_column_45 : decode b_C_column 45 = .ok (.invokevirtual 83, 3) := by decide +kernel
theorem d_C_column_48 : decode b_C_column 48 = .ok (.ireturn, 1) := by decide +kernel
set_option maxHeartbeats 4000000 in
set_option maxRecDepth 100000 in
theorem c_C_word (l : Launch) (D : va_G) (g : Nat → ClassId) (sz : Nat) (wr : va_W) (x tn ac sp oc kd M ha af w1 c1 t1 an su : Nat) (a0 : Int64) (b0 lb : Int32) (fa fs : Nat → Int32) (hcw : CodeW g kd M oc wr) (hM0 : 0 < M) (hM : M ≤ 57)  : Met l y_C_word w_C_word rm_C_word (va_Pc [.ref x] (pP D (tyl g) ((tn, .inr (5, [.long (a0), .int (b0)])) :: (x, .inr (0, [.int (nI kd), .int (nI M), .int (nI (M + ckb kd M)), .long (lN (2 ^ M - 1)), .int (nI (2 ^ ckb kd M - 1)), .ref oc, .ref tn, .int (nI ha), .int (nI af), .long (lN w1), .int (nI c1), .int (nI t1), .ref ac, .int (nI an), .int (lb), .ref sp, .int (nI su)])) :: (ac, .inl (g 0, 8, .inl (fa))) :: (sp, .inl (g 0, 8, .inl (fs))) :: wr) sz)) (va_Ql (fun (r : Int64) (u : Unit) => r = lN w1) (fun u => qB D (va_A ((tn, .inr (5, [.long (a0), .int (b0)])) :: (x, .inr (0, [.int (nI kd), .int (nI M), .int (nI (M + ckb kd M)), .long (lN (2 ^ M - 1)), .int (nI (2 ^ ckb kd M - 1)), .ref oc, .ref tn, .int (nI ha), .int (nI af), .long (lN w1), .int (nI c1), .int (nI t1), .ref ac, .int (nI an), .int (lb), .ref sp, .int (nI su)])) :: (ac, .inl (g 0, 8, .inl (fa))) :: (sp, .inl (g 0, 8, .inl (fs))) :: wr) sz) ((tn, .inr (5, [.long (a0), .int (b0)])) :: (x, .inr (0, [.int (nI kd), .int (nI M), .int (nI (M + ckb kd M)), .long (lN (2 ^ M - 1)), .int (nI (2 ^ ckb kd M - 1)), .ref oc, .ref tn, .int (nI ha), .int (nI af), .long (lN w1), .int (nI c1), .int (nI t1), .ref ac, .int (nI an), .int (lb), .ref sp, .int (nI su)])) :: (ac, .inl (g 0, 8, .inl (fa))) :: (sp, .inl (g 0, 8, .inl (fs))) :: wr)) (va_A ((tn, .inr (5, [.long (a0), .int (b0)])) :: (x, .inr (0, [.int (nI kd), .int (nI M), .int (nI (M + ckb kd M)), .long (lN (2 ^ M - 1)), .int (nI (2 ^ ckb kd M - 1)), .ref oc, .ref tn, .int (nI ha), .int (nI af), .long (lN w1), .int (nI c1), .int (nI t1), .ref ac, .int (nI an), .int (lb), .ref sp, .int (nI su)])) :: (ac, .inl (g 0, 8, .inl (fa))) :: (sp, .inl (g 0, 8, .inl (fs))) :: wr) sz)) 0 0 (va_A ((tn, .inr (5, [.long (a0), .int (b0)])) :: (x, .inr (0, [.int (nI kd), .int (nI M), .int (nI (M + ckb kd M)), .long (lN (2 ^ M - 1)), .int (nI (2 ^ ckb kd M - 1)), .ref oc, .ref tn, .int (nI ha), .int (nI af), .long (lN w1), .int (nI c1), .int (nI t1), .ref ac, .int (nI an), .int (lb), .ref sp, .int (nI su)])) :: (ac, .inl (g 0, 8, .inl (fa))) :: (sp, .inl (g 0, 8, .inl (fs))) :: wr) sz) := by
  refine Met.ofW (cc := b_C_word) (maxL := 1) (ret := (some .long)) (by decide +kernel) rfl ?_
  intro p e s m args below meth c s₁ Bq hml hv
  have hx := Bq.exec
  have hb := Bq.bytes
  have hr := Bq.returns
  have hts : ∀ w ∈ wA, w.before args s = true := fun w h => atoms_spec (ws := w_C_word) Bq.pre w (List.mem_cons_of_mem _ h)
  have hown : s.vm.findClass R_C = some m.cls := findClass_of_methodNamed Bq.named
  have hlocks := Bq.notSynchronized
  obtain ⟨rfl, hsz, hP, hKK, hD0⟩ := hv
  have hK := hKK.1
  subst hsz
  have hD := hD0.self (sz := s.heap.size)
  generalize hAe : va_A ((tn, .inr (5, [.long (a0), .int (b0)])) :: (x, .inr (0, [.int (nI kd), .int (nI M), .int (nI (M + ckb kd M)), .long (lN (2 ^ M - 1)), .int (nI (2 ^ ckb kd M - 1)), .ref oc, .ref tn, .int (nI ha), .int (nI af), .long (lN w1), .int (nI c1), .int (nI t1), .ref ac, .int (nI an), .int (lb), .ref sp, .int (nI su)])) :: (ac, .inl (g 0, 8, .inl (fa))) :: (sp, .inl (g 0, 8, .inl (fs))) :: wr) s.heap.size = A at hD ⊢
  have hA : ∀ q : Nat, s.heap.size ≤ q → A q := fun q h => by rw [← hAe]; exact Or.inr h
  have hS : va_S A s.heap s.heap [] := va_S.rf
  have hl := lv_entry ([.ref x]) (n := 1) (Nat.le_of_ble_eq_true rfl)
  rw [lg_entry_eq]
  generalize (lg_sl ([.ref x]) ++ List.replicate (1 - (lg_sl ([.ref x])).length) Slot.unset).toArray = ls at hl ⊢
  have hl : lv_has ls 1 [(0, .ref x)] := hl
  generalize hQ : MQ below (va_Ql (fun (r : Int64) (u : Unit) => r = lN w1) (fun u => qB D (A) ((tn, .inr (5, [.long (a0), .int (b0)])) :: (x, .inr (0, [.int (nI kd), .int (nI M), .int (nI (M + ckb kd M)), .long (lN (2 ^ M - 1)), .int (nI (2 ^ ckb kd M - 1)), .ref oc, .ref tn, .int (nI ha), .int (nI af), .long (lN w1), .int (nI c1), .int (nI t1), .ref ac, .int (nI an), .int (lb), .ref sp, .int (nI su)])) :: (ac, .inl (g 0, 8, .inl (fa))) :: (sp, .inl (g 0, 8, .inl (fs))) :: wr)) (A)) [.ref x].toArray s 0 0 A = Q
  refine lv_aload_n hx hb d_C_word_0 rfl (lv_at hl 0 rfl) ?_
  refine va_get (D := D) (ci := 0) (v := .long (lN w1)) (C := R_C) (T := F_C) (N := 17) hx hb hts i_C hown hK hP 1 rfl rfl 9 (by decide) (hts _ m_215) (fun _ h9 => h9) rfl d_C_word_1 ?_
  rw [← hQ]
  refine W.lret (v := lN w1) hx hb hr ?_ hS.2.2 d_C_word_4
  exact fun t ht hW => ⟨⟨lN w1, (), rfl, rfl, by rw [ht]; exact hP, hD⟩, hS.F ht⟩
set_option maxHeartbeats 4000000 in
set_option maxRecDepth 100000 in
theorem c_C_checkRead (l : Launch) (D : va_G) (g : Nat → ClassId) (sz : Nat) (wr : va_W) (x tn ac sp oc kd M ha af w1 c1 t1 an su : Nat) (a0 : Int64) (b0 lb : Int32) (fa fs : Nat → Int32) (hcw : CodeW g kd M oc wr) (hM0 : 0 < M) (hM : M ≤ 57)  : Met l y_C_checkRead w_C_checkRead rm_C_checkRead (va_Pc [.ref x] (pP D (tyl g) ((tn, .inr (5, [.long (a0), .int (b0)])) :: (x, .inr (0, [.int (nI kd), .int (nI M), .int (nI (M + ckb kd M)), .long (lN (2 ^ M - 1)), .int (nI (2 ^ ckb kd M - 1)), .ref oc, .ref tn, .int (nI ha), .int (nI af), .long (lN w1), .int (nI c1), .int (nI t1), .ref ac, .int (nI an), .int (lb), .ref sp, .int (nI su)])) :: (ac, .inl (g 0, 8, .inl (fa))) :: (sp, .inl (g 0, 8, .inl (fs))) :: wr) sz)) (va_Qi (fun (r : Int32) (u : Unit) => r = nI c1) (fun u => qB D (va_A ((tn, .inr (5, [.long (a0), .int (b0)])) :: (x, .inr (0, [.int (nI kd), .int (nI M), .int (nI (M + ckb kd M)), .long (lN (2 ^ M - 1)), .int (nI (2 ^ ckb kd M - 1)), .ref oc, .ref tn, .int (nI ha), .int (nI af), .long (lN w1), .int (nI c1), .int (nI t1), .ref ac, .int (nI an), .int (lb), .ref sp, .int (nI su)])) :: (ac, .inl (g 0, 8, .inl (fa))) :: (sp, .inl (g 0, 8, .inl (fs))) :: wr) sz) ((tn, .inr (5, [.long (a0), .int (b0)])) :: (x, .inr (0, [.int (nI kd), .int (nI M), .int (nI (M + ckb kd M)), .long (lN (2 ^ M - 1)), .int (nI (2 ^ ckb kd M - 1)), .ref oc, .ref tn, .int (nI ha), .int (nI af), .long (lN w1), .int (nI c1), .int (nI t1), .ref ac, .int (nI an), .int (lb), .ref sp, .int (nI su)])) :: (ac, .inl (g 0, 8, .inl (fa))) :: (sp, .inl (g 0, 8, .inl (fs))) :: wr)) (va_A ((tn, .inr (5, [.long (a0), .int (b0)])) :: (x, .inr (0, [.int (nI kd), .int (nI M), .int (nI (M + ckb kd M)), .long (lN (2 ^ M - 1)), .int (nI (2 ^ ckb kd M - 1)), .ref oc, .ref tn, .int (nI ha), .int (nI af), .long (lN w1), .int (nI c1), .int (nI t1), .ref ac, .int (nI an), .int (lb), .ref sp, .int (nI su)])) :: (ac, .inl (g 0, 8, .inl (fa))) :: (sp, .inl (g 0, 8, .inl (fs))) :: wr) sz)) 0 0 (va_A ((tn, .inr (5, [.long (a0), .int (b0)])) :: (x, .inr (0, [.int (nI kd), .int (nI M), .int (nI (M + ckb kd M)), .long (lN (2 ^ M - 1)), .int (nI (2 ^ ckb kd M - 1)), .ref oc, .ref tn, .int (nI ha), .int (nI af), .long (lN w1), .int (nI c1), .int (nI t1), .ref ac, .int (nI an), .int (lb), .ref sp, .int (nI su)])) :: (ac, .inl (g 0, 8, .inl (fa))) :: (sp, .inl (g 0, 8, .inl (fs))) :: wr) sz) := by
  refine Met.ofW (cc := b_C_checkRead) (maxL := 1) (ret := (some .int)) (by decide +kernel) rfl ?_
  intro p e s m args below meth c s₁ Bq hml hv
  have hx := Bq.exec
  have hb := Bq.bytes
  have hr := Bq.returns
  have hts : ∀ w ∈ wA, w.before args s = true := fun w h => atoms_spec (ws := w_C_checkRead) Bq.pre w (List.mem_cons_of_mem _ h)
  have hown : s.vm.findClass R_C = some m.cls := findClass_of_methodNamed Bq.named
  have hlocks := Bq.notSynchronized
  obtain ⟨rfl, hsz, hP, hKK, hD0⟩ := hv
  have hK := hKK.1
  subst hsz
  have hD := hD0.self (sz := s.heap.size)
  generalize hAe : va_A ((tn, .inr (5, [.long (a0), .int (b0)])) :: (x, .inr (0, [.int (nI kd), .int (nI M), .int (nI (M + ckb kd M)), .long (lN (2 ^ M - 1)), .int (nI (2 ^ ckb kd M - 1)), .ref oc, .ref tn, .int (nI ha), .int (nI af), .long (lN w1), .int (nI c1), .int (nI t1), .ref ac, .int (nI an), .int (lb), .ref sp, .int (nI su)])) :: (ac, .inl (g 0, 8, .inl (fa))) :: (sp, .inl (g 0, 8, .inl (fs))) :: wr) s.heap.size = A at hD ⊢
  have hA : ∀ q : Nat, s.heap.size ≤ q → A q := fun q h => by rw [← hAe]; exact Or.inr h
  have hS : va_S A s.heap s.heap [] := va_S.rf
  have hl := lv_entry ([.ref x]) (n := 1) (Nat.le_of_ble_eq_true rfl)
  rw [lg_entry_eq]
  generalize (lg_sl ([.ref x]) ++ List.replicate (1 - (lg_sl ([.ref x])).length) Slot.unset).toArray = ls at hl ⊢
  have hl : lv_has ls 1 [(0, .ref x)] := hl
  generalize hQ : MQ below (va_Qi (fun (r : Int32) (u : Unit) => r = nI c1) (fun u => qB D (A) ((tn, .inr (5, [.long (a0), .int (b0)])) :: (x, .inr (0, [.int (nI kd), .int (nI M), .int (nI (M + ckb kd M)), .long (lN (2 ^ M - 1)), .int (nI (2 ^ ckb kd M - 1)), .ref oc, .ref tn, .int (nI ha), .int (nI af), .long (lN w1), .int (nI c1), .int (nI t1), .ref ac, .int (nI an), .int (lb), .ref sp, .int (nI su)])) :: (ac, .inl (g 0, 8, .inl (fa))) :: (sp, .inl (g 0, 8, .inl (fs))) :: wr)) (A)) [.ref x].toArray s 0 0 A = Q
  refine lv_aload_n hx hb d_C_checkRead_0 rfl (lv_at hl 0 rfl) ?_
  refine va_get (D := D) (ci := 0) (v := .int (nI c1)) (C := R_C) (T := F_C) (N := 17) hx hb hts i_C hown hK hP 1 rfl rfl 10 (by decide) (hts _ m_216) (fun _ h9 => h9) rfl d_C_checkRead_1 ?_
  rw [← hQ]
  refine W.iret (v := nI c1) hx hb hr ?_ hS.2.2 d_C_checkRead_4
  exact fun t ht hW => ⟨⟨nI c1, (), rfl, rfl, by rw [ht]; exact hP, hD⟩, hS.F ht⟩
set_option maxHeartbeats 4000000 in
set_option maxRecDepth 100000 in
theorem c_C_turned (l : Launch) (D : va_G) (g : Nat → ClassId) (sz : Nat) (wr : va_W) (x tn ac sp oc kd M ha af w1 c1 t1 an su : Nat) (a0 : Int64) (b0 lb : Int32) (fa fs : Nat → Int32) (hcw : CodeW g kd M oc wr) (hM0 : 0 < M) (hM : M ≤ 57)  : Met l y_C_turned w_C_turned rm_C_turned (va_Pc [.ref x] (pP D (tyl g) ((tn, .inr (5, [.long (a0), .int (b0)])) :: (x, .inr (0, [.int (nI kd), .int (nI M), .int (nI (M + ckb kd M)), .long (lN (2 ^ M - 1)), .int (nI (2 ^ ckb kd M - 1)), .ref oc, .ref tn, .int (nI ha), .int (nI af), .long (lN w1), .int (nI c1), .int (nI t1), .ref ac, .int (nI an), .int (lb), .ref sp, .int (nI su)])) :: (ac, .inl (g 0, 8, .inl (fa))) :: (sp, .inl (g 0, 8, .inl (fs))) :: wr) sz)) (va_Qi (fun (r : Int32) (u : Unit) => r = nI t1) (fun u => qB D (va_A ((tn, .inr (5, [.long (a0), .int (b0)])) :: (x, .inr (0, [.int (nI kd), .int (nI M), .int (nI (M + ckb kd M)), .long (lN (2 ^ M - 1)), .int (nI (2 ^ ckb kd M - 1)), .ref oc, .ref tn, .int (nI ha), .int (nI af), .long (lN w1), .int (nI c1), .int (nI t1), .ref ac, .int (nI an), .int (lb), .ref sp, .int (nI su)])) :: (ac, .inl (g 0, 8, .inl (fa))) :: (sp, .inl (g 0, 8, .inl (fs))) :: wr) sz) ((tn, .inr (5, [.long (a0), .int (b0)])) :: (x, .inr (0, [.int (nI kd), .int (nI M), .int (nI (M + ckb kd M)), .long (lN (2 ^ M - 1)), .int (nI (2 ^ ckb kd M - 1)), .ref oc, .ref tn, .int (nI ha), .int (nI af), .long (lN w1), .int (nI c1), .int (nI t1), .ref ac, .int (nI an), .int (lb), .ref sp, .int (nI su)])) :: (ac, .inl (g 0, 8, .inl (fa))) :: (sp, .inl (g 0, 8, .inl (fs))) :: wr)) (va_A ((tn, .inr (5, [.long (a0), .int (b0)])) :: (x, .inr (0, [.int (nI kd), .int (nI M), .int (nI (M + ckb kd M)), .long (lN (2 ^ M - 1)), .int (nI (2 ^ ckb kd M - 1)), .ref oc, .ref tn, .int (nI ha), .int (nI af), .long (lN w1), .int (nI c1), .int (nI t1), .ref ac, .int (nI an), .int (lb), .ref sp, .int (nI su)])) :: (ac, .inl (g 0, 8, .inl (fa))) :: (sp, .inl (g 0, 8, .inl (fs))) :: wr) sz)) 0 0 (va_A ((tn, .inr (5, [.long (a0), .int (b0)])) :: (x, .inr (0, [.int (nI kd), .int (nI M), .int (nI (M + ckb kd M)), .long (lN (2 ^ M - 1)), .int (nI (2 ^ ckb kd M - 1)), .ref oc, .ref tn, .int (nI ha), .int (nI af), .long (lN w1), .int (nI c1), .int (nI t1), .ref ac, .int (nI an), .int (lb), .ref sp, .int (nI su)])) :: (ac, .inl (g 0, 8, .inl (fa))) :: (sp, .inl (g 0, 8, .inl (fs))) :: wr) sz) := by
  refine Met.ofW (cc := b_C_turned) (maxL := 1) (ret := (some .int)) (by decide +kernel) rfl ?_
  intro p e s m args below meth c s₁ Bq hml hv
  have hx := Bq.exec
  have hb := Bq.bytes
  have hr := Bq.returns
  have hts : ∀ w ∈ wA, w.before args s = true := fun w h => atoms_spec (ws := w_C_turned) Bq.pre w (List.mem_cons_of_mem _ h)
  have hown : s.vm.findClass R_C = some m.cls := findClass_of_methodNamed Bq.named
  have hlocks := Bq.notSynchronized
  obtain ⟨rfl, hsz, hP, hKK, hD0⟩ := hv
  have hK := hKK.1
  subst hsz
  have hD := hD0.self (sz := s.heap.size)
  generalize hAe : va_A ((tn, .inr (5, [.long (a0), .int (b0)])) :: (x, .inr (0, [.int (nI kd), .int (nI M), .int (nI (M + ckb kd M)), .long (lN (2 ^ M - 1)), .int (nI (2 ^ ckb kd M - 1)), .ref oc, .ref tn, .int (nI ha), .int (nI af), .long (lN w1), .int (nI c1), .int (nI t1), .ref ac, .int (nI an), .int (lb), .ref sp, .int (nI su)])) :: (ac, .inl (g 0, 8, .inl (fa))) :: (sp, .inl (g 0, 8, .inl (fs))) :: wr) s.heap.size = A at hD ⊢
  have hA : ∀ q : Nat, s.heap.size ≤ q → A q := fun q h => by rw [← hAe]; exact Or.inr h
  have hS : va_S A s.heap s.heap [] := va_S.rf
  have hl := lv_entry ([.ref x]) (n := 1) (Nat.le_of_ble_eq_true rfl)
  rw [lg_entry_eq]
  generalize (lg_sl ([.ref x]) ++ List.replicate (1 - (lg_sl ([.ref x])).length) Slot.unset).toArray = ls at hl ⊢
  have hl : lv_has ls 1 [(0, .ref x)] := hl
  generalize hQ : MQ below (va_Qi (fun (r : Int32) (u : Unit) => r = nI t1) (fun u => qB D (A) ((tn, .inr (5, [.long (a0), .int (b0)])) :: (x, .inr (0, [.int (nI kd), .int (nI M), .int (nI (M + ckb kd M)), .long (lN (2 ^ M - 1)), .int (nI (2 ^ ckb kd M - 1)), .ref oc, .ref tn, .int (nI ha), .int (nI af), .long (lN w1), .int (nI c1), .int (nI t1), .ref ac, .int (nI an), .int (lb), .ref sp, .int (nI su)])) :: (ac, .inl (g 0, 8, .inl (fa))) :: (sp, .inl (g 0, 8, .inl (fs))) :: wr)) (A)) [.ref x].toArray s 0 0 A = Q
  refine lv_aload_n hx hb d_C_turned_0 rfl (lv_at hl 0 rfl) ?_
  refine va_get (D := D) (ci := 0) (v := .int (nI t1)) (C := R_C) (T := F_C) (N := 17) hx hb hts i_C hown hK hP 1 rfl rfl 11 (by decide) (hts _ m_217) (fun _ h9 => h9) rfl d_C_turned_1 ?_
  rw [← hQ]
  refine W.iret (v := nI t1) hx hb hr ?_ hS.2.2 d_C_turned_4
  exact fun t ht hW => ⟨⟨nI t1, (), rfl, rfl, by rw [ht]; exact hP, hD⟩, hS.F ht⟩
set_option maxHeartbeats 4000000 in
set_option maxRecDepth 100000 in
theorem c_C_wordPart (l : Launch) (D : va_G) (g : Nat → ClassId) (sz : Nat) (wr : va_W) (x tn ac sp oc kd M ha af w1 c1 t1 an su : Nat) (a0 : Int64) (b0 lb : Int32) (fa fs : Nat → Int32) (hcw : CodeW g kd M oc wr) (hM0 : 0 < M) (hM : M ≤ 57) (a : Nat) (ha9 : a < 2 ^ 20) : Met l y_C_wordPart w_C_wordPart rm_C_wordPart (va_Pc [.ref x, .int (nI a)] (pP D (tyl g) ((tn, .inr (5, [.long (a0), .int (b0)])) :: (x, .inr (0, [.int (nI kd), .int (nI M), .int (nI (M + ckb kd M)), .long (lN (2 ^ M - 1)), .int (nI (2 ^ ckb kd M - 1)), .ref oc, .ref tn, .int (nI ha), .int (nI af), .long (lN w1), .int (nI c1), .int (nI t1), .ref ac, .int (nI an), .int (lb), .ref sp, .int (nI su)])) :: (ac, .inl (g 0, 8, .inl (fa))) :: (sp, .inl (g 0, 8, .inl (fs))) :: wr) sz)) (va_Ql (fun (r : Int64) (u : Unit) => r = lN (wpt M a)) (fun u => qB D (va_A ((tn, .inr (5, [.long (a0), .int (b0)])) :: (x, .inr (0, [.int (nI kd), .int (nI M), .int (nI (M + ckb kd M)), .long (lN (2 ^ M - 1)), .int (nI (2 ^ ckb kd M - 1)), .ref oc, .ref tn, .int (nI ha), .int (nI af), .long (lN w1), .int (nI c1), .int (nI t1), .ref ac, .int (nI an), .int (lb), .ref sp, .int (nI su)])) :: (ac, .inl (g 0, 8, .inl (fa))) :: (sp, .inl (g 0, 8, .inl (fs))) :: wr) sz) ((tn, .inr (5, [.long (a0), .int (b0)])) :: (x, .inr (0, [.int (nI kd), .int (nI M), .int (nI (M + ckb kd M)), .long (lN (2 ^ M - 1)), .int (nI (2 ^ ckb kd M - 1)), .ref oc, .ref tn, .int (nI ha), .int (nI af), .long (lN w1), .int (nI c1), .int (nI t1), .ref ac, .int (nI an), .int (lb), .ref sp, .int (nI su)])) :: (ac, .inl (g 0, 8, .inl (fa))) :: (sp, .inl (g 0, 8, .inl (fs))) :: wr)) (va_A ((tn, .inr (5, [.long (a0), .int (b0)])) :: (x, .inr (0, [.int (nI kd), .int (nI M), .int (nI (M + ckb kd M)), .long (lN (2 ^ M - 1)), .int (nI (2 ^ ckb kd M - 1)), .ref oc, .ref tn, .int (nI ha), .int (nI af), .long (lN w1), .int (nI c1), .int (nI t1), .ref ac, .int (nI an), .int (lb), .ref sp, .int (nI su)])) :: (ac, .inl (g 0, 8, .inl (fa))) :: (sp, .inl (g 0, 8, .inl (fs))) :: wr) sz)) 0 0 (va_A ((tn, .inr (5, [.long (a0), .int (b0)])) :: (x, .inr (0, [.int (nI kd), .int (nI M), .int (nI (M + ckb kd M)), .long (lN (2 ^ M - 1)), .int (nI (2 ^ ckb kd M - 1)), .ref oc, .ref tn, .int (nI ha), .int (nI af), .long (lN w1), .int (nI c1), .int (nI t1), .ref ac, .int (nI an), .int (lb), .ref sp, .int (nI su)])) :: (ac, .inl (g 0, 8, .inl (fa))) :: (sp, .inl (g 0, 8, .inl (fs))) :: wr) sz) := by
  refine Met.ofW (cc := b_C_wordPart) (maxL := 2) (ret := (some .long)) (by decide +kernel) rfl ?_
  intro p e s m args below meth c s₁ Bq hml hv
  have hx := Bq.exec
  have hb := Bq.bytes
  have hr := Bq.returns
  have hts : ∀ w ∈ wA, w.before args s = true := fun w h => atoms_spec (ws := w_C_wordPart) Bq.pre w (List.mem_cons_of_mem _ h)
  have hown : s.vm.findClass R_C = some m.cls := findClass_of_methodNamed Bq.named
  have hlocks := Bq.notSynchronized
  obtain ⟨rfl, hsz, hP, hKK, hD0⟩ := hv
  have hK := hKK.1
  subst hsz
  have hD := hD0.self (sz := s.heap.size)
  generalize hAe : va_A ((tn, .inr (5, [.long (a0), .int (b0)])) :: (x, .inr (0, [.int (nI kd), .int (nI M), .int (nI (M + ckb kd M)), .long (lN (2 ^ M - 1)), .int (nI (2 ^ ckb kd M - 1)), .ref oc, .ref tn, .int (nI ha), .int (nI af), .long (lN w1), .int (nI c1), .int (nI t1), .ref ac, .int (nI an), .int (lb), .ref sp, .int (nI su)])) :: (ac, .inl (g 0, 8, .inl (fa))) :: (sp, .inl (g 0, 8, .inl (fs))) :: wr) s.heap.size = A at hD ⊢
  have hA : ∀ q : Nat, s.heap.size ≤ q → A q := fun q h => by rw [← hAe]; exact Or.inr h
  have hS : va_S A s.heap s.heap [] := va_S.rf
  have hl := lv_entry ([.ref x, .int (nI a)]) (n := 2) (Nat.le_of_ble_eq_true rfl)
  rw [lg_entry_eq]
  generalize (lg_sl ([.ref x, .int (nI a)]) ++ List.replicate (2 - (lg_sl ([.ref x, .int (nI a)])).length) Slot.unset).toArray = ls at hl ⊢
  have hl : lv_has ls 2 [(0, .ref x), (1, .int (nI a))] := hl
  generalize hQ : MQ below (va_Ql (fun (r : Int64) (u : Unit) => r = lN (wpt M a)) (fun u => qB D (A) ((tn, .inr (5, [.long (a0), .int (b0)])) :: (x, .inr (0, [.int (nI kd), .int (nI M), .int (nI (M + ckb kd M)), .long (lN (2 ^ M - 1)), .int (nI (2 ^ ckb kd M - 1)), .ref oc, .ref tn, .int (nI ha), .int (nI af), .long (lN w1), .int (nI c1), .int (nI t1), .ref ac, .int (nI an), .int (lb), .ref sp, .int (nI su)])) :: (ac, .inl (g 0, 8, .inl (fa))) :: (sp, .inl (g 0, 8, .inl (fs))) :: wr)) (A)) [.ref x, .int (nI a)].toArray s 0 0 A = Q
  refine lv_iload_n hx hb d_C_wordPart_0 rfl (lv_at hl 1 rfl) ?_
  refine lv_aload_n hx hb d_C_wordPart_1 rfl (lv_at hl 0 rfl) ?_
  refine va_get (D := D) (ci := 0) (v := .int (nI M)) (C := R_C) (T := F_C) (N := 17) hx hb hts i_C hown hK hP 1 rfl rfl 1 (by decide) (hts _ m_207) (fun _ h9 => h9) rfl d_C_wordPart_2 ?_
  refine lx_icmp_ge (tgt := 14) hx hb d_C_wordPart_5 (by decide) (by omega) (by omega) (fun c5 => ?_) (fun c5 => ?_)
  · skip
    refine lv_lconst (v := lN 0) hx hb d_C_wordPart_14 (by decide) ?_
    rw [← hQ]
    refine W.lret (v := lN 0) hx hb hr ?_ hS.2.2 d_C_wordPart_15
    exact fun t ht hW => ⟨⟨lN 0, (), rfl, (by unfold wpt; rw [if_neg (by omega)]), by rw [ht]; exact hP, hD⟩, hS.F ht⟩
  · skip
    refine lv_lconst (v := lN 1) hx hb d_C_wordPart_8 (by decide) ?_
    refine lv_iload_n hx hb d_C_wordPart_9 rfl (lv_at hl 1 rfl) ?_
    refine lv_lshl (v := lN (1 <<< a)) hx hb d_C_wordPart_10 (xl_shl 1 (by omega)) ?_
    refine lv_goto (tgt := 15) hx hb d_C_wordPart_11 (by decide) ?_
    rw [← hQ]
    refine W.lret (v := lN (1 <<< a)) hx hb hr ?_ hS.2.2 d_C_wordPart_15
    exact fun t ht hW => ⟨⟨lN (1 <<< a), (), rfl, (by unfold wpt; rw [if_pos (by omega)]), by rw [ht]; exact hP, hD⟩, hS.F ht⟩
set_option maxHeartbeats 4000000 in
set_option maxRecDepth 100000 in
theorem c_C_checkPart (l : Launch) (D : va_G) (g : Nat → ClassId) (sz : Nat) (wr : va_W) (x tn ac sp oc kd M ha af w1 c1 t1 an su : Nat) (a0 : Int64) (b0 lb : Int32) (fa fs : Nat → Int32) (hcw : CodeW g kd M oc wr) (hM0 : 0 < M) (hM : M ≤ 57) (a : Nat) (ha9 : a < M + ckb kd M) : Met l y_C_checkPart w_C_checkPart rm_C_checkPart (va_Pc [.ref x, .int (nI a)] (pP D (tyl g) ((tn, .inr (5, [.long (a0), .int (b0)])) :: (x, .inr (0, [.int (nI kd), .int (nI M), .int (nI (M + ckb kd M)), .long (lN (2 ^ M - 1)), .int (nI (2 ^ ckb kd M - 1)), .ref oc, .ref tn, .int (nI ha), .int (nI af), .long (lN w1), .int (nI c1), .int (nI t1), .ref ac, .int (nI an), .int (lb), .ref sp, .int (nI su)])) :: (ac, .inl (g 0, 8, .inl (fa))) :: (sp, .inl (g 0, 8, .inl (fs))) :: wr) sz)) (va_Qi (fun (r : Int32) (u : Unit) => r = nI (cpt M a)) (fun u => qB D (va_A ((tn, .inr (5, [.long (a0), .int (b0)])) :: (x, .inr (0, [.int (nI kd), .int (nI M), .int (nI (M + ckb kd M)), .long (lN (2 ^ M - 1)), .int (nI (2 ^ ckb kd M - 1)), .ref oc, .ref tn, .int (nI ha), .int (nI af), .long (lN w1), .int (nI c1), .int (nI t1), .ref ac, .int (nI an), .int (lb), .ref sp, .int (nI su)])) :: (ac, .inl (g 0, 8, .inl (fa))) :: (sp, .inl (g 0, 8, .inl (fs))) :: wr) sz) ((tn, .inr (5, [.long (a0), .int (b0)])) :: (x, .inr (0, [.int (nI kd), .int (nI M), .int (nI (M + ckb kd M)), .long (lN (2 ^ M - 1)), .int (nI (2 ^ ckb kd M - 1)), .ref oc, .ref tn, .int (nI ha), .int (nI af), .long (lN w1), .int (nI c1), .int (nI t1), .ref ac, .int (nI an), .int (lb), .ref sp, .int (nI su)])) :: (ac, .inl (g 0, 8, .inl (fa))) :: (sp, .inl (g 0, 8, .inl (fs))) :: wr)) (va_A ((tn, .inr (5, [.long (a0), .int (b0)])) :: (x, .inr (0, [.int (nI kd), .int (nI M), .int (nI (M + ckb kd M)), .long (lN (2 ^ M - 1)), .int (nI (2 ^ ckb kd M - 1)), .ref oc, .ref tn, .int (nI ha), .int (nI af), .long (lN w1), .int (nI c1), .int (nI t1), .ref ac, .int (nI an), .int (lb), .ref sp, .int (nI su)])) :: (ac, .inl (g 0, 8, .inl (fa))) :: (sp, .inl (g 0, 8, .inl (fs))) :: wr) sz)) 0 0 (va_A ((tn, .inr (5, [.long (a0), .int (b0)])) :: (x, .inr (0, [.int (nI kd), .int (nI M), .int (nI (M + ckb kd M)), .long (lN (2 ^ M - 1)), .int (nI (2 ^ ckb kd M - 1)), .ref oc, .ref tn, .int (nI ha), .int (nI af), .long (lN w1), .int (nI c1), .int (nI t1), .ref ac, .int (nI an), .int (lb), .ref sp, .int (nI su)])) :: (ac, .inl (g 0, 8, .inl (fa))) :: (sp, .inl (g 0, 8, .inl (fs))) :: wr) sz) := by
  refine Met.ofW (cc := b_C_checkPart) (maxL := 2) (ret := (some .int)) (by decide +kernel) rfl ?_
  intro p e s m args below meth c s₁ Bq hml hv
  have hx := Bq.exec
  have hb := Bq.bytes
  have hr := Bq.returns
  have hts : ∀ w ∈ wA, w.before args s = true := fun w h => atoms_spec (ws := w_C_checkPart) Bq.pre w (List.mem_cons_of_mem _ h)
  have hown : s.vm.findClass R_C = some m.cls := findClass_of_methodNamed Bq.named
  have hlocks := Bq.notSynchronized
  obtain ⟨rfl, hsz, hP, hKK, hD0⟩ := hv
  have hK := hKK.1
  subst hsz
  have hD := hD0.self (sz := s.heap.size)
  generalize hAe : va_A ((tn, .inr (5, [.long (a0), .int (b0)])) :: (x, .inr (0, [.int (nI kd), .int (nI M), .int (nI (M + ckb kd M)), .long (lN (2 ^ M - 1)), .int (nI (2 ^ ckb kd M - 1)), .ref oc, .ref tn, .int (nI ha), .int (nI af), .long (lN w1), .int (nI c1), .int (nI t1), .ref ac, .int (nI an), .int (lb), .ref sp, .int (nI su)])) :: (ac, .inl (g 0, 8, .inl (fa))) :: (sp, .inl (g 0, 8, .inl (fs))) :: wr) s.heap.size = A at hD ⊢
  have hA : ∀ q : Nat, s.heap.size ≤ q → A q := fun q h => by rw [← hAe]; exact Or.inr h
  have hS : va_S A s.heap s.heap [] := va_S.rf
  have hl := lv_entry ([.ref x, .int (nI a)]) (n := 2) (Nat.le_of_ble_eq_true rfl)
  rw [lg_entry_eq]
  generalize (lg_sl ([.ref x, .int (nI a)]) ++ List.replicate (2 - (lg_sl ([.ref x, .int (nI a)])).length) Slot.unset).toArray = ls at hl ⊢
  have hl : lv_has ls 2 [(0, .ref x), (1, .int (nI a))] := hl
  generalize hQ : MQ below (va_Qi (fun (r : Int32) (u : Unit) => r = nI (cpt M a)) (fun u => qB D (A) ((tn, .inr (5, [.long (a0), .int (b0)])) :: (x, .inr (0, [.int (nI kd), .int (nI M), .int (nI (M + ckb kd M)), .long (lN (2 ^ M - 1)), .int (nI (2 ^ ckb kd M - 1)), .ref oc, .ref tn, .int (nI ha), .int (nI af), .long (lN w1), .int (nI c1), .int (nI t1), .ref ac, .int (nI an), .int (lb), .ref sp, .int (nI su)])) :: (ac, .inl (g 0, 8, .inl (fa))) :: (sp, .inl (g 0, 8, .inl (fs))) :: wr)) (A)) [.ref x, .int (nI a)].toArray s 0 0 A = Q
  have hck := ckb_le kd M
  refine lv_iload_n hx hb d_C_checkPart_0 rfl (lv_at hl 1 rfl) ?_
  refine lv_aload_n hx hb d_C_checkPart_1 rfl (lv_at hl 0 rfl) ?_
  refine va_get (D := D) (ci := 0) (v := .int (nI M)) (C := R_C) (T := F_C) (N := 17) hx hb hts i_C hown hK hP 1 rfl rfl 1 (by decide) (hts _ m_207) (fun _ h9 => h9) rfl d_C_checkPart_2 ?_
  refine lx_icmp_ge (tgt := 12) hx hb d_C_checkPart_5 (by decide) (by omega) (by omega) (fun c5 => ?_) (fun c5 => ?_)
  · skip
    refine lv_iconst (v := nI 1) hx hb d_C_checkPart_12 (by decide) ?_
    refine lv_iload_n hx hb d_C_checkPart_13 rfl (lv_at hl 1 rfl) ?_
    refine lv_aload_n hx hb d_C_checkPart_14 rfl (lv_at hl 0 rfl) ?_
    refine va_get (D := D) (ci := 0) (v := .int (nI M)) (C := R_C) (T := F_C) (N := 17) hx hb hts i_C hown hK hP 1 rfl rfl 1 (by decide) (hts _ m_207) (fun _ h9 => h9) rfl d_C_checkPart_15 ?_
    refine lx_isub (z := nI (a - M)) hx hb d_C_checkPart_18 (pk_sub (by omega)) ?_
    refine lx_ishl (z := nI (1 <<< (a - M))) hx hb d_C_checkPart_19 (xn_shl 1 (by omega)) ?_
    rw [← hQ]
    refine W.iret (v := nI (1 <<< (a - M))) hx hb hr ?_ hS.2.2 d_C_checkPart_20
    exact fun t ht hW => ⟨⟨nI (1 <<< (a - M)), (), rfl, (by unfold cpt; rw [if_neg (by omega)]), by rw [ht]; exact hP, hD⟩, hS.F ht⟩
  · skip
    refine lv_iconst (v := nI 0) hx hb d_C_checkPart_8 (by decide) ?_
    refine lv_goto (tgt := 20) hx hb d_C_checkPart_9 (by decide) ?_
    rw [← hQ]
    refine W.iret (v := nI 0) hx hb hr ?_ hS.2.2 d_C_checkPart_20
    exact fun t ht hW => ⟨⟨nI 0, (), rfl, (by unfold cpt; rw [if_pos (by omega)]), by rw [ht]; exact hP, hD⟩, hS.F ht⟩
set_option maxHeartbeats 4000000 in
set_option maxRecDepth 100000 in
theorem c_C_answerTo (l : Launch) (D : va_G) (g : Nat → ClassId) (sz : Nat) (wr : va_W) (x tn ac sp oc kd M ha af w1 c1 t1 an su : Nat) (a0 : Int64) (b0 lb : Int32) (fa fs : Nat → Int32) (hcw : CodeW g kd M oc wr) (hM0 : 0 < M) (hM : M ≤ 57) (wf cf : Nat) (hwf : wf < 2 ^ 62) (hcf : cf < 2 ^ ckb kd M) : Met l y_C_answerTo w_C_answerTo rm_C_answerTo (va_Pc [.ref x, .int (nI (xs (mrk kd M) wf M ^^^ cf)), .long (lN wf), .int (nI cf)] (pP D (tyl g) ((tn, .inr (5, [.long (a0), .int (b0)])) :: (x, .inr (0, [.int (nI kd), .int (nI M), .int (nI (M + ckb kd M)), .long (lN (2 ^ M - 1)), .int (nI (2 ^ ckb kd M - 1)), .ref oc, .ref tn, .int (nI ha), .int (nI af), .long (lN w1), .int (nI c1), .int (nI t1), .ref ac, .int (nI an), .int (lb), .ref sp, .int (nI su)])) :: (ac, .inl (g 0, 8, .inl (fa))) :: (sp, .inl (g 0, 8, .inl (fs))) :: wr) sz)) (va_Qi (fun (r : Int32) (u : (Int64 × Int32)) => r = nI (ans kd M wf cf)) (fun u => qB D (va_A ((tn, .inr (5, [.long (a0), .int (b0)])) :: (x, .inr (0, [.int (nI kd), .int (nI M), .int (nI (M + ckb kd M)), .long (lN (2 ^ M - 1)), .int (nI (2 ^ ckb kd M - 1)), .ref oc, .ref tn, .int (nI ha), .int (nI af), .long (lN w1), .int (nI c1), .int (nI t1), .ref ac, .int (nI an), .int (lb), .ref sp, .int (nI su)])) :: (ac, .inl (g 0, 8, .inl (fa))) :: (sp, .inl (g 0, 8, .inl (fs))) :: wr) sz) ((tn, .inr (5, [.long (u.1), .int (u.2)])) :: (x, .inr (0, [.int (nI kd), .int (nI M), .int (nI (M + ckb kd M)), .long (lN (2 ^ M - 1)), .int (nI (2 ^ ckb kd M - 1)), .ref oc, .ref tn, .int (nI ha), .int (nI af), .long (lN w1), .int (nI c1), .int (nI t1), .ref ac, .int (nI an), .int (lb), .ref sp, .int (nI su)])) :: (ac, .inl (g 0, 8, .inl (fa))) :: (sp, .inl (g 0, 8, .inl (fs))) :: wr)) (va_A ((tn, .inr (5, [.long (a0), .int (b0)])) :: (x, .inr (0, [.int (nI kd), .int (nI M), .int (nI (M + ckb kd M)), .long (lN (2 ^ M - 1)), .int (nI (2 ^ ckb kd M - 1)), .ref oc, .ref tn, .int (nI ha), .int (nI af), .long (lN w1), .int (nI c1), .int (nI t1), .ref ac, .int (nI an), .int (lb), .ref sp, .int (nI su)])) :: (ac, .inl (g 0, 8, .inl (fa))) :: (sp, .inl (g 0, 8, .inl (fs))) :: wr) sz)) 0 0 (va_A ((tn, .inr (5, [.long (a0), .int (b0)])) :: (x, .inr (0, [.int (nI kd), .int (nI M), .int (nI (M + ckb kd M)), .long (lN (2 ^ M - 1)), .int (nI (2 ^ ckb kd M - 1)), .ref oc, .ref tn, .int (nI ha), .int (nI af), .long (lN w1), .int (nI c1), .int (nI t1), .ref ac, .int (nI an), .int (lb), .ref sp, .int (nI su)])) :: (ac, .inl (g 0, 8, .inl (fa))) :: (sp, .inl (g 0, 8, .inl (fs))) :: wr) sz) := by
  refine Met.ofW (cc := b_C_answerTo) (maxL := 7) (ret := (some .int)) (by decide +kernel) rfl ?_
  intro p e s m args below meth c s₁ Bq hml hv
  have hx := Bq.exec
  have hb := Bq.bytes
  have hr := Bq.returns
  have hts : ∀ w ∈ wA, w.before args s = true := fun w h => atoms_spec (ws := w_C_answerTo) Bq.pre w (List.mem_cons_of_mem _ h)
  have hown : s.vm.findClass R_C = some m.cls := findClass_of_methodNamed Bq.named
  have hlocks := Bq.notSynchronized
  obtain ⟨rfl, hsz, hP, hKK, hD0⟩ := hv
  have hK := hKK.1
  subst hsz
  have hD := hD0.self (sz := s.heap.size)
  generalize hAe : va_A ((tn, .inr (5, [.long (a0), .int (b0)])) :: (x, .inr (0, [.int (nI kd), .int (nI M), .int (nI (M + ckb kd M)), .long (lN (2 ^ M - 1)), .int (nI (2 ^ ckb kd M - 1)), .ref oc, .ref tn, .int (nI ha), .int (nI af), .long (lN w1), .int (nI c1), .int (nI t1), .ref ac, .int (nI an), .int (lb), .ref sp, .int (nI su)])) :: (ac, .inl (g 0, 8, .inl (fa))) :: (sp, .inl (g 0, 8, .inl (fs))) :: wr) s.heap.size = A at hD ⊢
  have hA : ∀ q : Nat, s.heap.size ≤ q → A q := fun q h => by rw [← hAe]; exact Or.inr h
  have hS : va_S A s.heap s.heap [] := va_S.rf
  have hl := lv_entry ([.ref x, .int (nI (xs (mrk kd M) wf M ^^^ cf)), .long (lN wf), .int (nI cf)]) (n := 7) (Nat.le_of_ble_eq_true rfl)
  rw [lg_entry_eq]
  generalize (lg_sl ([.ref x, .int (nI (xs (mrk kd M) wf M ^^^ cf)), .long (lN wf), .int (nI cf)]) ++ List.replicate (7 - (lg_sl ([.ref x, .int (nI (xs (mrk kd M) wf M ^^^ cf)), .long (lN wf), .int (nI cf)])).length) Slot.unset).toArray = ls at hl ⊢
  have hl : lv_has ls 7 [(0, .ref x), (1, .int (nI (xs (mrk kd M) wf M ^^^ cf))), (2, .long (lN wf)), (4, .int (nI cf))] := hl
  generalize hQ : MQ below (va_Qi (fun (r : Int32) (u : (Int64 × Int32)) => r = nI (ans kd M wf cf)) (fun u => qB D (A) ((tn, .inr (5, [.long (u.1), .int (u.2)])) :: (x, .inr (0, [.int (nI kd), .int (nI M), .int (nI (M + ckb kd M)), .long (lN (2 ^ M - 1)), .int (nI (2 ^ ckb kd M - 1)), .ref oc, .ref tn, .int (nI ha), .int (nI af), .long (lN w1), .int (nI c1), .int (nI t1), .ref ac, .int (nI an), .int (lb), .ref sp, .int (nI su)])) :: (ac, .inl (g 0, 8, .inl (fa))) :: (sp, .inl (g 0, 8, .inl (fs))) :: wr)) (A)) [.ref x, .int (nI (xs (mrk kd M) wf M ^^^ cf)), .long (lN wf), .int (nI cf)].toArray s 0 0 A = Q
  have hsy : xs (mrk kd M) wf M ^^^ cf < 2 ^ ckb kd M := syn_lt hM0 hM hcf
  obtain ⟨hj1, hj2, hj3⟩ := jd_bd hM hsy
  have hpw := ckb_pow kd M
  refine lv_aload_n hx hb d_C_answerTo_0 rfl (lv_at hl 0 rfl) ?_
  refine va_get (D := D) (ci := 0) (v := .ref oc) (C := R_C) (T := F_C) (N := 17) hx hb hts i_C hown hK hP 1 rfl rfl 5 (by decide) (hts _ m_211) (fun _ h9 => h9) rfl d_C_answerTo_1 ?_
  refine lv_iload_n hx hb d_C_answerTo_4 rfl (lv_at hl 1 rfl) ?_
  refine lv_aload_n hx hb d_C_answerTo_5 rfl (lv_at hl 0 rfl) ?_
  refine va_get (D := D) (ci := 0) (v := .ref tn) (C := R_C) (T := F_C) (N := 17) hx hb hts i_C hown hK hP 1 rfl rfl 6 (by decide) (hts _ m_212) (fun _ h9 => h9) rfl d_C_answerTo_6 ?_
  refine lu_judge (rest := []) (((hcw.cons _).cons _).cons _) hM hsy hx hb hml hown hts hKK hP hD hS hA hl.1 (Nat.le_of_ble_eq_true rfl) (Nat.le_of_ble_eq_true rfl) (Nat.le_of_ble_eq_true rfl) (Nat.le_of_ble_eq_true rfl) (Nat.le_of_ble_eq_true rfl) d_C_answerTo_9 (fun H locs hP hD hS => ?_)
  have hP : va_P D vwCl ((tn, .inr (5, [.long (lN (jd kd M (xs (mrk kd M) wf M ^^^ cf)).2.1), .int (nI (jd kd M (xs (mrk kd M) wf M ^^^ cf)).2.2)])) :: (x, .inr (0, [.int (nI kd), .int (nI M), .int (nI (M + ckb kd M)), .long (lN (2 ^ M - 1)), .int (nI (2 ^ ckb kd M - 1)), .ref oc, .ref tn, .int (nI ha), .int (nI af), .long (lN w1), .int (nI c1), .int (nI t1), .ref ac, .int (nI an), .int (lb), .ref sp, .int (nI su)])) :: (ac, .inl (g 0, 8, .inl (fa))) :: (sp, .inl (g 0, 8, .inl (fs))) :: wr) H := hP
  have hD : va_D A ((tn, .inr (5, [.long (lN (jd kd M (xs (mrk kd M) wf M ^^^ cf)).2.1), .int (nI (jd kd M (xs (mrk kd M) wf M ^^^ cf)).2.2)])) :: (x, .inr (0, [.int (nI kd), .int (nI M), .int (nI (M + ckb kd M)), .long (lN (2 ^ M - 1)), .int (nI (2 ^ ckb kd M - 1)), .ref oc, .ref tn, .int (nI ha), .int (nI af), .long (lN w1), .int (nI c1), .int (nI t1), .ref ac, .int (nI an), .int (lb), .ref sp, .int (nI su)])) :: (ac, .inl (g 0, 8, .inl (fa))) :: (sp, .inl (g 0, 8, .inl (fs))) :: wr) := hD
  have j43 : ∀ (bb : Nat) (ls : Array Slot) (H : Heap) (locs : List Loc), (bb ≤ 1) → (bb = 1 ↔ ((jd kd M (xs (mrk kd M) wf M ^^^ cf)).2.1 = wf ∧ (jd kd M (xs (mrk kd M) wf M ^^^ cf)).2.2 = cf)) → lv_has ls 7 [(0, .ref x), (5, .int (nI (jd kd M (xs (mrk kd M) wf M ^^^ cf)).1))] → va_P D vwCl ((tn, .inr (5, [.long (lN (jd kd M (xs (mrk kd M) wf M ^^^ cf)).2.1), .int (nI (jd kd M (xs (mrk kd M) wf M ^^^ cf)).2.2)])) :: (x, .inr (0, [.int (nI kd), .int (nI M), .int (nI (M + ckb kd M)), .long (lN (2 ^ M - 1)), .int (nI (2 ^ ckb kd M - 1)), .ref oc, .ref tn, .int (nI ha), .int (nI af), .long (lN w1), .int (nI c1), .int (nI t1), .ref ac, .int (nI an), .int (lb), .ref sp, .int (nI su)])) :: (ac, .inl (g 0, 8, .inl (fa))) :: (sp, .inl (g 0, 8, .inl (fs))) :: wr) H → va_D A ((tn, .inr (5, [.long (lN (jd kd M (xs (mrk kd M) wf M ^^^ cf)).2.1), .int (nI (jd kd M (xs (mrk kd M) wf M ^^^ cf)).2.2)])) :: (x, .inr (0, [.int (nI kd), .int (nI M), .int (nI (M + ckb kd M)), .long (lN (2 ^ M - 1)), .int (nI (2 ^ ckb kd M - 1)), .ref oc, .ref tn, .int (nI ha), .int (nI af), .long (lN w1), .int (nI c1), .int (nI t1), .ref ac, .int (nI an), .int (lb), .ref sp, .int (nI su)])) :: (ac, .inl (g 0, 8, .inl (fa))) :: (sp, .inl (g 0, 8, .inl (fs))) :: wr) → va_S A s.heap H locs → W p l e (headSpec w_C_answerTo rm_C_answerTo).room s m [.ref x, .int (nI (xs (mrk kd M) wf M ^^^ cf)), .long (lN wf), .int (nI cf)].toArray below meth c H locs 0 0 Q (F0 m 43 ls [.int (nI bb)]) := by
    intro bb ls H locs hb1 hb9 hl hP hD hS
    refine lv_istore (lv' := [(6, .int (nI bb)), (0, .ref x), (5, .int (nI (jd kd M (xs (mrk kd M) wf M ^^^ cf)).1))]) hx hb d_C_answerTo_43 hl (by decide) rfl (fun ls hl => ?_)
    refine lv_iload hx hb d_C_answerTo_45 (lv_at hl 2 rfl) ?_
    refine lv_iconst (v := nI 1) hx hb d_C_answerTo_47 (by decide) ?_
    refine lx_icmp_ne (tgt := 60) hx hb d_C_answerTo_48 (by decide) (by omega) (by omega) (fun c48 => ?_) (fun c48 => ?_)
    · skip
      refine lv_iload hx hb d_C_answerTo_60 (lv_at hl 2 rfl) ?_
      rw [← hQ]
      refine W.iret (v := nI (jd kd M (xs (mrk kd M) wf M ^^^ cf)).1) hx hb hr ?_ hS.2.2 d_C_answerTo_62
      exact fun t ht hW => ⟨⟨nI (jd kd M (xs (mrk kd M) wf M ^^^ cf)).1, (lN (jd kd M (xs (mrk kd M) wf M ^^^ cf)).2.1, nI (jd kd M (xs (mrk kd M) wf M ^^^ cf)).2.2), rfl, (by unfold ans; rw [if_neg (by rintro ⟨q1, q2⟩; omega)]), by rw [ht]; exact hP, hD⟩, hS.F ht⟩
    · skip
      refine lv_iload hx hb d_C_answerTo_51 (lv_at hl 0 rfl) ?_
      refine lx_if_ne (tgt := 60) hx hb d_C_answerTo_53 (by decide) (by omega) (fun c53 => ?_) (fun c53 => ?_)
      · skip
        refine lv_iload hx hb d_C_answerTo_60 (lv_at hl 2 rfl) ?_
        rw [← hQ]
        refine W.iret (v := nI (jd kd M (xs (mrk kd M) wf M ^^^ cf)).1) hx hb hr ?_ hS.2.2 d_C_answerTo_62
        exact fun t ht hW => ⟨⟨nI (jd kd M (xs (mrk kd M) wf M ^^^ cf)).1, (lN (jd kd M (xs (mrk kd M) wf M ^^^ cf)).2.1, nI (jd kd M (xs (mrk kd M) wf M ^^^ cf)).2.2), rfl, (by unfold ans; rw [if_neg (by rintro ⟨q1, q2⟩; exact q2 (hb9.mp (by omega)))]), by rw [ht]; exact hP, hD⟩, hS.F ht⟩
      · skip
        refine lv_iconst (v := nI 3) hx hb d_C_answerTo_56 (by decide) ?_
        refine lv_goto (tgt := 62) hx hb d_C_answerTo_57 (by decide) ?_
        rw [← hQ]
        refine W.iret (v := nI 3) hx hb hr ?_ hS.2.2 d_C_answerTo_62
        exact fun t ht hW => ⟨⟨nI 3, (lN (jd kd M (xs (mrk kd M) wf M ^^^ cf)).2.1, nI (jd kd M (xs (mrk kd M) wf M ^^^ cf)).2.2), rfl, (by unfold ans; rw [if_pos ⟨by omega, fun q => by have := hb9.mpr q; omega⟩]), by rw [ht]; exact hP, hD⟩, hS.F ht⟩
  refine lv_istore (lv' := [(5, .int (nI ((jd kd M (xs (mrk kd M) wf M ^^^ cf)).1))), (0, .ref x), (1, .int (nI (xs (mrk kd M) wf M ^^^ cf))), (2, .long (lN wf)), (4, .int (nI cf))]) hx hb d_C_answerTo_12 hl (by decide) rfl (fun ls hl => ?_)
  refine lv_aload_n hx hb d_C_answerTo_14 rfl (lv_at hl 1 rfl) ?_
  refine va_get (D := D) (ci := 0) (v := .ref tn) (C := R_C) (T := F_C) (N := 17) hx hb hts i_C hown hK hP 1 rfl rfl 6 (by decide) (hts _ m_212) (fun _ h9 => h9) rfl d_C_answerTo_15 ?_
  refine va_get (D := D) (ci := 5) (v := .long (lN (jd kd M (xs (mrk kd M) wf M ^^^ cf)).2.1)) (C := R_T) (T := F_T) (N := 2) hx hb hts i_T hown hK hP 0 rfl rfl 0 (by decide) (hts _ m_196) (fun _ h9 => h9) rfl d_C_answerTo_18 ?_
  refine lv_lload_n hx hb d_C_answerTo_21 rfl (lv_at hl 3 rfl) ?_
  refine lx_lcmp_ne (tgt := 42) hx hb d_C_answerTo_22 d_C_answerTo_23 (by decide) (fun c23 => ?_) (fun c23 => ?_)
  · skip
    refine lv_iconst (v := nI 0) hx hb d_C_answerTo_42 (by decide) ?_
    exact j43 0 _ _ _ (by decide) (⟨fun q => by omega, fun q => absurd (by rw [q.1]) c23⟩) (lv_sub hl [1, 0] rfl) hP hD hS
  · skip
    refine lv_aload_n hx hb d_C_answerTo_26 rfl (lv_at hl 1 rfl) ?_
    refine va_get (D := D) (ci := 0) (v := .ref tn) (C := R_C) (T := F_C) (N := 17) hx hb hts i_C hown hK hP 1 rfl rfl 6 (by decide) (hts _ m_212) (fun _ h9 => h9) rfl d_C_answerTo_27 ?_
    refine va_get (D := D) (ci := 5) (v := .int (nI (jd kd M (xs (mrk kd M) wf M ^^^ cf)).2.2)) (C := R_T) (T := F_T) (N := 2) hx hb hts i_T hown hK hP 0 rfl rfl 1 (by decide) (hts _ m_200) (fun _ h9 => h9) rfl d_C_answerTo_30 ?_
    refine lv_iload hx hb d_C_answerTo_33 (lv_at hl 4 rfl) ?_
    refine lx_icmp_ne (tgt := 42) hx hb d_C_answerTo_35 (by decide) (by omega) (by omega) (fun c35 => ?_) (fun c35 => ?_)
    · skip
      refine lv_iconst (v := nI 0) hx hb d_C_answerTo_42 (by decide) ?_
      exact j43 0 _ _ _ (by decide) (⟨fun q => by omega, fun q => absurd q.2 c35⟩) (lv_sub hl [1, 0] rfl) hP hD hS
    · skip
      refine lv_iconst (v := nI 1) hx hb d_C_answerTo_38 (by decide) ?_
      refine lv_goto (tgt := 43) hx hb d_C_answerTo_39 (by decide) ?_
      exact j43 1 _ _ _ (by decide) (⟨fun _ => ⟨xl_inj (by omega) (by omega) c23, c35⟩, fun _ => rfl⟩) (lv_sub hl [1, 0] rfl) hP hD hS
set_option maxHeartbeats 4000000 in
set_option maxRecDepth 100000 in
theorem c_C_answerToPair (l : Launch) (D : va_G) (g : Nat → ClassId) (sz : Nat) (wr : va_W) (x tn ac sp oc kd M ha af w1 c1 t1 an su : Nat) (a0 : Int64) (b0 lb : Int32) (fa fs : Nat → Int32) (hcw : CodeW g kd M oc wr) (hM0 : 0 < M) (hM : M ≤ 57) (a b : Nat) (ha9 : a < M + ckb kd M) (hb9 : b < M + ckb kd M) : Met l y_C_answerToPair w_C_answerToPair rm_C_answerToPair (va_Pc [.ref x, .int (nI a), .int (nI b)] (pP D (tyl g) ((tn, .inr (5, [.long (a0), .int (b0)])) :: (x, .inr (0, [.int (nI kd), .int (nI M), .int (nI (M + ckb kd M)), .long (lN (2 ^ M - 1)), .int (nI (2 ^ ckb kd M - 1)), .ref oc, .ref tn, .int (nI ha), .int (nI af), .long (lN w1), .int (nI c1), .int (nI t1), .ref ac, .int (nI an), .int (lb), .ref sp, .int (nI su)])) :: (ac, .inl (g 0, 8, .inl (fa))) :: (sp, .inl (g 0, 8, .inl (fs))) :: wr) sz)) (va_Qi (fun (r : Int32) (u : (Int64 × Int32)) => r = nI (pairA kd M a b)) (fun u => qB D (va_A ((tn, .inr (5, [.long (a0), .int (b0)])) :: (x, .inr (0, [.int (nI kd), .int (nI M), .int (nI (M + ckb kd M)), .long (lN (2 ^ M - 1)), .int (nI (2 ^ ckb kd M - 1)), .ref oc, .ref tn, .int (nI ha), .int (nI af), .long (lN w1), .int (nI c1), .int (nI t1), .ref ac, .int (nI an), .int (lb), .ref sp, .int (nI su)])) :: (ac, .inl (g 0, 8, .inl (fa))) :: (sp, .inl (g 0, 8, .inl (fs))) :: wr) sz) ((tn, .inr (5, [.long (u.1), .int (u.2)])) :: (x, .inr (0, [.int (nI kd), .int (nI M), .int (nI (M + ckb kd M)), .long (lN (2 ^ M - 1)), .int (nI (2 ^ ckb kd M - 1)), .ref oc, .ref tn, .int (nI ha), .int (nI af), .long (lN w1), .int (nI c1), .int (nI t1), .ref ac, .int (nI an), .int (lb), .ref sp, .int (nI su)])) :: (ac, .inl (g 0, 8, .inl (fa))) :: (sp, .inl (g 0, 8, .inl (fs))) :: wr)) (va_A ((tn, .inr (5, [.long (a0), .int (b0)])) :: (x, .inr (0, [.int (nI kd), .int (nI M), .int (nI (M + ckb kd M)), .long (lN (2 ^ M - 1)), .int (nI (2 ^ ckb kd M - 1)), .ref oc, .ref tn, .int (nI ha), .int (nI af), .long (lN w1), .int (nI c1), .int (nI t1), .ref ac, .int (nI an), .int (lb), .ref sp, .int (nI su)])) :: (ac, .inl (g 0, 8, .inl (fa))) :: (sp, .inl (g 0, 8, .inl (fs))) :: wr) sz)) 0 0 (va_A ((tn, .inr (5, [.long (a0), .int (b0)])) :: (x, .inr (0, [.int (nI kd), .int (nI M), .int (nI (M + ckb kd M)), .long (lN (2 ^ M - 1)), .int (nI (2 ^ ckb kd M - 1)), .ref oc, .ref tn, .int (nI ha), .int (nI af), .long (lN w1), .int (nI c1), .int (nI t1), .ref ac, .int (nI an), .int (lb), .ref sp, .int (nI su)])) :: (ac, .inl (g 0, 8, .inl (fa))) :: (sp, .inl (g 0, 8, .inl (fs))) :: wr) sz) := by
  refine Met.ofW (cc := b_C_answerToPair) (maxL := 4) (ret := (some .int)) (by decide +kernel) rfl ?_
  intro p e s m args below meth c s₁ Bq hml hv
  have hx := Bq.exec
  have hb := Bq.bytes
  have hr := Bq.returns
  have hts : ∀ w ∈ wA, w.before args s = true := fun w h => atoms_spec (ws := w_C_answerToPair) Bq.pre w (List.mem_cons_of_mem _ h)
  have hown : s.vm.findClass R_C = some m.cls := findClass_of_methodNamed Bq.named
  have hlocks := Bq.notSynchronized
  obtain ⟨rfl, hsz, hP, hKK, hD0⟩ := hv
  have hK := hKK.1
  subst hsz
  have hD := hD0.self (sz := s.heap.size)
  generalize hAe : va_A ((tn, .inr (5, [.long (a0), .int (b0)])) :: (x, .inr (0, [.int (nI kd), .int (nI M), .int (nI (M + ckb kd M)), .long (lN (2 ^ M - 1)), .int (nI (2 ^ ckb kd M - 1)), .ref oc, .ref tn, .int (nI ha), .int (nI af), .long (lN w1), .int (nI c1), .int (nI t1), .ref ac, .int (nI an), .int (lb), .ref sp, .int (nI su)])) :: (ac, .inl (g 0, 8, .inl (fa))) :: (sp, .inl (g 0, 8, .inl (fs))) :: wr) s.heap.size = A at hD ⊢
  have hA : ∀ q : Nat, s.heap.size ≤ q → A q := fun q h => by rw [← hAe]; exact Or.inr h
  have hS : va_S A s.heap s.heap [] := va_S.rf
  have hl := lv_entry ([.ref x, .int (nI a), .int (nI b)]) (n := 4) (Nat.le_of_ble_eq_true rfl)
  rw [lg_entry_eq]
  generalize (lg_sl ([.ref x, .int (nI a), .int (nI b)]) ++ List.replicate (4 - (lg_sl ([.ref x, .int (nI a), .int (nI b)])).length) Slot.unset).toArray = ls at hl ⊢
  have hl : lv_has ls 4 [(0, .ref x), (1, .int (nI a)), (2, .int (nI b))] := hl
  generalize hQ : MQ below (va_Qi (fun (r : Int32) (u : (Int64 × Int32)) => r = nI (pairA kd M a b)) (fun u => qB D (A) ((tn, .inr (5, [.long (u.1), .int (u.2)])) :: (x, .inr (0, [.int (nI kd), .int (nI M), .int (nI (M + ckb kd M)), .long (lN (2 ^ M - 1)), .int (nI (2 ^ ckb kd M - 1)), .ref oc, .ref tn, .int (nI ha), .int (nI af), .long (lN w1), .int (nI c1), .int (nI t1), .ref ac, .int (nI an), .int (lb), .ref sp, .int (nI su)])) :: (ac, .inl (g 0, 8, .inl (fa))) :: (sp, .inl (g 0, 8, .inl (fs))) :: wr)) (A)) [.ref x, .int (nI a), .int (nI b)].toArray s 0 0 A = Q
  have hck := ckb_le kd M
  have hwa := wpt_lt (a := a) hM
  have hwb := wpt_lt (a := b) hM
  have hca := cpt_lt ha9
  have hcb := cpt_lt hb9
  have j33 : ∀  (ls : Array Slot) (H : Heap) (locs : List Loc), lv_has ls 4 [(0, .ref x), (1, .int (nI a)), (2, .int (nI b))] → va_P D vwCl ((tn, .inr (5, [.long (a0), .int (b0)])) :: (x, .inr (0, [.int (nI kd), .int (nI M), .int (nI (M + ckb kd M)), .long (lN (2 ^ M - 1)), .int (nI (2 ^ ckb kd M - 1)), .ref oc, .ref tn, .int (nI ha), .int (nI af), .long (lN w1), .int (nI c1), .int (nI t1), .ref ac, .int (nI an), .int (lb), .ref sp, .int (nI su)])) :: (ac, .inl (g 0, 8, .inl (fa))) :: (sp, .inl (g 0, 8, .inl (fs))) :: wr) H → va_D A ((tn, .inr (5, [.long (a0), .int (b0)])) :: (x, .inr (0, [.int (nI kd), .int (nI M), .int (nI (M + ckb kd M)), .long (lN (2 ^ M - 1)), .int (nI (2 ^ ckb kd M - 1)), .ref oc, .ref tn, .int (nI ha), .int (nI af), .long (lN w1), .int (nI c1), .int (nI t1), .ref ac, .int (nI an), .int (lb), .ref sp, .int (nI su)])) :: (ac, .inl (g 0, 8, .inl (fa))) :: (sp, .inl (g 0, 8, .inl (fs))) :: wr) → va_S A s.heap H locs → W p l e (headSpec w_C_answerToPair rm_C_answerToPair).room s m [.ref x, .int (nI a), .int (nI b)].toArray below meth c H locs 0 0 Q (F0 m 33 ls [.int (nI (xs (mrk kd M) (wpt M a ||| wpt M b) M ^^^ (cpt M a ||| cpt M b)))]) := by
    intro  ls H locs  hl hP hD hS
    refine lv_istore_n (lv' := [(3, .int (nI (xs (mrk kd M) (wpt M a ||| wpt M b) M ^^^ (cpt M a ||| cpt M b)))), (0, .ref x), (1, .int (nI a)), (2, .int (nI b))]) hx hb d_C_answerToPair_33 rfl hl (by decide) rfl (fun ls hl => ?_)
    refine lv_aload_n hx hb d_C_answerToPair_34 rfl (lv_at hl 1 rfl) ?_
    refine lv_iload_n hx hb d_C_answerToPair_35 rfl (lv_at hl 0 rfl) ?_
    refine lv_aload_n hx hb d_C_answerToPair_36 rfl (lv_at hl 1 rfl) ?_
    refine lv_iload_n hx hb d_C_answerToPair_37 rfl (lv_at hl 2 rfl) ?_
    refine lc_Vl (b := x) (As := [.int (nI a)]) (rest := [.int (nI (xs (mrk kd M) (wpt M a ||| wpt M b) M ^^^ (cpt M a ||| cpt M b))), .ref x]) ⟨hx, hb, hml, hown, hts⟩ (c_C_wordPart l D g _ wr x tn ac sp oc kd M ha af w1 c1 t1 an su a0 b0 lb fa fs hcw hM0 hM a (by omega)) (kV 1 hts m_505 m_502 m_504 m_4 m_30 (by decide +kernel) ⟨Nat.le_of_ble_eq_true rfl, Nat.le_of_ble_eq_true rfl⟩) (va_recv hK hP (ci := 0) (q0 := 1) rfl rfl) hKK hP hD hS hA hl.1 rfl rfl (Nat.le_of_ble_eq_true rfl) d_C_answerToPair_38 ⟨Nat.le_of_ble_eq_true rfl, Nat.le_of_ble_eq_true rfl⟩ (fun ra u H locs ea hP hD hS => ?_)
    obtain rfl : ra = lN (wpt M a) := ea
    refine lv_aload_n hx hb d_C_answerToPair_41 rfl (lv_at hl 1 rfl) ?_
    refine lv_iload_n hx hb d_C_answerToPair_42 rfl (lv_at hl 3 rfl) ?_
    refine lc_Vl (b := x) (As := [.int (nI b)]) (rest := [.long (lN (wpt M a)), .int (nI (xs (mrk kd M) (wpt M a ||| wpt M b) M ^^^ (cpt M a ||| cpt M b))), .ref x]) ⟨hx, hb, hml, hown, hts⟩ (c_C_wordPart l D g _ wr x tn ac sp oc kd M ha af w1 c1 t1 an su a0 b0 lb fa fs hcw hM0 hM b (by omega)) (kV 1 hts m_505 m_502 m_504 m_4 m_30 (by decide +kernel) ⟨Nat.le_of_ble_eq_true rfl, Nat.le_of_ble_eq_true rfl⟩) (va_recv hK hP (ci := 0) (q0 := 1) rfl rfl) hKK hP hD hS hA hl.1 rfl rfl (Nat.le_of_ble_eq_true rfl) d_C_answerToPair_43 ⟨Nat.le_of_ble_eq_true rfl, Nat.le_of_ble_eq_true rfl⟩ (fun rb u H locs eb hP hD hS => ?_)
    obtain rfl : rb = lN (wpt M b) := eb
    refine lx_lor (z := lN ((wpt M a) ||| (wpt M b))) hx hb d_C_answerToPair_46 (xl_or (wpt M a) (wpt M b)) ?_
    refine lv_aload_n hx hb d_C_answerToPair_47 rfl (lv_at hl 1 rfl) ?_
    refine lv_iload_n hx hb d_C_answerToPair_48 rfl (lv_at hl 2 rfl) ?_
    refine lc_Vi (b := x) (As := [.int (nI a)]) (rest := [.long (lN ((wpt M a) ||| (wpt M b))), .int (nI (xs (mrk kd M) (wpt M a ||| wpt M b) M ^^^ (cpt M a ||| cpt M b))), .ref x]) ⟨hx, hb, hml, hown, hts⟩ (c_C_checkPart l D g _ wr x tn ac sp oc kd M ha af w1 c1 t1 an su a0 b0 lb fa fs hcw hM0 hM a ha9) (kV 1 hts m_509 m_506 m_508 m_5 m_30 (by decide +kernel) ⟨Nat.le_of_ble_eq_true rfl, Nat.le_of_ble_eq_true rfl⟩) (va_recv hK hP (ci := 0) (q0 := 1) rfl rfl) hKK hP hD hS hA hl.1 rfl rfl (Nat.le_of_ble_eq_true rfl) d_C_answerToPair_49 ⟨Nat.le_of_ble_eq_true rfl, Nat.le_of_ble_eq_true rfl⟩ (fun sa u H locs fa hP hD hS => ?_)
    obtain rfl : sa = nI (cpt M a) := fa
    refine lv_aload_n hx hb d_C_answerToPair_52 rfl (lv_at hl 1 rfl) ?_
    refine lv_iload_n hx hb d_C_answerToPair_53 rfl (lv_at hl 3 rfl) ?_
    refine lc_Vi (b := x) (As := [.int (nI b)]) (rest := [.int (nI (cpt M a)), .long (lN ((wpt M a) ||| (wpt M b))), .int (nI (xs (mrk kd M) (wpt M a ||| wpt M b) M ^^^ (cpt M a ||| cpt M b))), .ref x]) ⟨hx, hb, hml, hown, hts⟩ (c_C_checkPart l D g _ wr x tn ac sp oc kd M ha af w1 c1 t1 an su a0 b0 lb fa fs hcw hM0 hM b hb9) (kV 1 hts m_509 m_506 m_508 m_5 m_30 (by decide +kernel) ⟨Nat.le_of_ble_eq_true rfl, Nat.le_of_ble_eq_true rfl⟩) (va_recv hK hP (ci := 0) (q0 := 1) rfl rfl) hKK hP hD hS hA hl.1 rfl rfl (Nat.le_of_ble_eq_true rfl) d_C_answerToPair_54 ⟨Nat.le_of_ble_eq_true rfl, Nat.le_of_ble_eq_true rfl⟩ (fun sb u H locs fb hP hD hS => ?_)
    obtain rfl : sb = nI (cpt M b) := fb
    refine lx_ior (z := nI ((cpt M a) ||| (cpt M b))) hx hb d_C_answerToPair_57 (xn_or (cpt M a) (cpt M b)) ?_
    refine lc_Vi (b := x) (As := [.int (nI (xs (mrk kd M) (wpt M a ||| wpt M b) M ^^^ (cpt M a ||| cpt M b))), .long (lN ((wpt M a) ||| (wpt M b))), .int (nI ((cpt M a) ||| (cpt M b)))]) (rest := []) ⟨hx, hb, hml, hown, hts⟩ (c_C_answerTo l D g _ wr x tn ac sp oc kd M ha af w1 c1 t1 an su a0 b0 lb fa fs hcw hM0 hM (wpt M a ||| wpt M b) (cpt M a ||| cpt M b) (pow_mono (Nat.or_lt_two_pow hwa hwb) (by decide)) (Nat.or_lt_two_pow hca hcb)) (kV 3 hts m_513 m_510 m_512 m_6 m_30 (by decide +kernel) ⟨Nat.le_of_ble_eq_true rfl, Nat.le_of_ble_eq_true rfl⟩) (va_recv hK hP (ci := 0) (q0 := 1) rfl rfl) hKK hP hD hS hA hl.1 rfl rfl (Nat.le_of_ble_eq_true rfl) d_C_answerToPair_58 ⟨Nat.le_of_ble_eq_true rfl, Nat.le_of_ble_eq_true rfl⟩ (fun rr u H locs er hP hD hS => ?_)
    have hP : va_P D vwCl ((tn, .inr (5, [.long (u.1), .int (u.2)])) :: (x, .inr (0, [.int (nI kd), .int (nI M), .int (nI (M + ckb kd M)), .long (lN (2 ^ M - 1)), .int (nI (2 ^ ckb kd M - 1)), .ref oc, .ref tn, .int (nI ha), .int (nI af), .long (lN w1), .int (nI c1), .int (nI t1), .ref ac, .int (nI an), .int (lb), .ref sp, .int (nI su)])) :: (ac, .inl (g 0, 8, .inl (fa))) :: (sp, .inl (g 0, 8, .inl (fs))) :: wr) H := hP
    have hD : va_D A ((tn, .inr (5, [.long (u.1), .int (u.2)])) :: (x, .inr (0, [.int (nI kd), .int (nI M), .int (nI (M + ckb kd M)), .long (lN (2 ^ M - 1)), .int (nI (2 ^ ckb kd M - 1)), .ref oc, .ref tn, .int (nI ha), .int (nI af), .long (lN w1), .int (nI c1), .int (nI t1), .ref ac, .int (nI an), .int (lb), .ref sp, .int (nI su)])) :: (ac, .inl (g 0, 8, .inl (fa))) :: (sp, .inl (g 0, 8, .inl (fs))) :: wr) := hD
    rw [← hQ]
    refine W.iret (v := rr) hx hb hr ?_ hS.2.2 d_C_answerToPair_61
    exact fun t ht hW => ⟨⟨rr, u, rfl, er, by rw [ht]; exact hP, hD⟩, hS.F ht⟩
  refine lv_iload_n hx hb d_C_answerToPair_0 rfl (lv_at hl 1 rfl) ?_
  refine lv_iload_n hx hb d_C_answerToPair_1 rfl (lv_at hl 2 rfl) ?_
  refine lx_icmp_ne (tgt := 16) hx hb d_C_answerToPair_2 (by decide) (by omega) (by omega) (fun c2 => ?_) (fun c2 => ?_)
  · skip
    refine lv_aload_n hx hb d_C_answerToPair_16 rfl (lv_at hl 0 rfl) ?_
    refine va_get (D := D) (ci := 0) (v := .ref oc) (C := R_C) (T := F_C) (N := 17) hx hb hts i_C hown hK hP 1 rfl rfl 5 (by decide) (hts _ m_211) (fun _ h9 => h9) rfl d_C_answerToPair_17 ?_
    refine lv_iload_n hx hb d_C_answerToPair_20 rfl (lv_at hl 1 rfl) ?_
    refine lu_markOf (rest := []) ((((hcw.cons _).cons _).cons _).cons _) hM (by omega) hx hb hml hown hts hKK hP hD hS hA hl.1 (Nat.le_of_ble_eq_true rfl) (Nat.le_of_ble_eq_true rfl) (Nat.le_of_ble_eq_true rfl) (Nat.le_of_ble_eq_true rfl) (Nat.le_of_ble_eq_true rfl) d_C_answerToPair_21 (fun H locs hP hD hS => ?_)
    have hP : va_P D vwCl ((tn, .inr (5, [.long (a0), .int (b0)])) :: (x, .inr (0, [.int (nI kd), .int (nI M), .int (nI (M + ckb kd M)), .long (lN (2 ^ M - 1)), .int (nI (2 ^ ckb kd M - 1)), .ref oc, .ref tn, .int (nI ha), .int (nI af), .long (lN w1), .int (nI c1), .int (nI t1), .ref ac, .int (nI an), .int (lb), .ref sp, .int (nI su)])) :: (ac, .inl (g 0, 8, .inl (fa))) :: (sp, .inl (g 0, 8, .inl (fs))) :: wr) H := hP
    have hD : va_D A ((tn, .inr (5, [.long (a0), .int (b0)])) :: (x, .inr (0, [.int (nI kd), .int (nI M), .int (nI (M + ckb kd M)), .long (lN (2 ^ M - 1)), .int (nI (2 ^ ckb kd M - 1)), .ref oc, .ref tn, .int (nI ha), .int (nI af), .long (lN w1), .int (nI c1), .int (nI t1), .ref ac, .int (nI an), .int (lb), .ref sp, .int (nI su)])) :: (ac, .inl (g 0, 8, .inl (fa))) :: (sp, .inl (g 0, 8, .inl (fs))) :: wr) := hD
    refine lv_aload_n hx hb d_C_answerToPair_24 rfl (lv_at hl 0 rfl) ?_
    refine va_get (D := D) (ci := 0) (v := .ref oc) (C := R_C) (T := F_C) (N := 17) hx hb hts i_C hown hK hP 1 rfl rfl 5 (by decide) (hts _ m_211) (fun _ h9 => h9) rfl d_C_answerToPair_25 ?_
    refine lv_iload_n hx hb d_C_answerToPair_28 rfl (lv_at hl 2 rfl) ?_
    refine lu_markOf (rest := [.int (nI (mka kd M a))]) ((((hcw.cons _).cons _).cons _).cons _) hM (by omega) hx hb hml hown hts hKK hP hD hS hA hl.1 (Nat.le_of_ble_eq_true rfl) (Nat.le_of_ble_eq_true rfl) (Nat.le_of_ble_eq_true rfl) (Nat.le_of_ble_eq_true rfl) (Nat.le_of_ble_eq_true rfl) d_C_answerToPair_29 (fun H locs hP hD hS => ?_)
    have hP : va_P D vwCl ((tn, .inr (5, [.long (a0), .int (b0)])) :: (x, .inr (0, [.int (nI kd), .int (nI M), .int (nI (M + ckb kd M)), .long (lN (2 ^ M - 1)), .int (nI (2 ^ ckb kd M - 1)), .ref oc, .ref tn, .int (nI ha), .int (nI af), .long (lN w1), .int (nI c1), .int (nI t1), .ref ac, .int (nI an), .int (lb), .ref sp, .int (nI su)])) :: (ac, .inl (g 0, 8, .inl (fa))) :: (sp, .inl (g 0, 8, .inl (fs))) :: wr) H := hP
    have hD : va_D A ((tn, .inr (5, [.long (a0), .int (b0)])) :: (x, .inr (0, [.int (nI kd), .int (nI M), .int (nI (M + ckb kd M)), .long (lN (2 ^ M - 1)), .int (nI (2 ^ ckb kd M - 1)), .ref oc, .ref tn, .int (nI ha), .int (nI af), .long (lN w1), .int (nI c1), .int (nI t1), .ref ac, .int (nI an), .int (lb), .ref sp, .int (nI su)])) :: (ac, .inl (g 0, 8, .inl (fa))) :: (sp, .inl (g 0, 8, .inl (fs))) :: wr) := hD
    refine lx_ixor (z := nI (xs (mrk kd M) (wpt M a ||| wpt M b) M ^^^ (cpt M a ||| cpt M b))) hx hb d_C_answerToPair_32 ((xn_xor _ _).trans (by rw [syn_two kd M c2])) ?_
    exact j33  _ _ _  (lv_sub hl [0, 1, 2] rfl) hP hD hS
  · skip
    refine lv_aload_n hx hb d_C_answerToPair_5 rfl (lv_at hl 0 rfl) ?_
    refine va_get (D := D) (ci := 0) (v := .ref oc) (C := R_C) (T := F_C) (N := 17) hx hb hts i_C hown hK hP 1 rfl rfl 5 (by decide) (hts _ m_211) (fun _ h9 => h9) rfl d_C_answerToPair_6 ?_
    refine lv_iload_n hx hb d_C_answerToPair_9 rfl (lv_at hl 1 rfl) ?_
    refine lu_markOf (rest := []) ((((hcw.cons _).cons _).cons _).cons _) hM (by omega) hx hb hml hown hts hKK hP hD hS hA hl.1 (Nat.le_of_ble_eq_true rfl) (Nat.le_of_ble_eq_true rfl) (Nat.le_of_ble_eq_true rfl) (Nat.le_of_ble_eq_true rfl) (Nat.le_of_ble_eq_true rfl) d_C_answerToPair_10 (fun H locs hP hD hS => ?_)
    have hP : va_P D vwCl ((tn, .inr (5, [.long (a0), .int (b0)])) :: (x, .inr (0, [.int (nI kd), .int (nI M), .int (nI (M + ckb kd M)), .long (lN (2 ^ M - 1)), .int (nI (2 ^ ckb kd M - 1)), .ref oc, .ref tn, .int (nI ha), .int (nI af), .long (lN w1), .int (nI c1), .int (nI t1), .ref ac, .int (nI an), .int (lb), .ref sp, .int (nI su)])) :: (ac, .inl (g 0, 8, .inl (fa))) :: (sp, .inl (g 0, 8, .inl (fs))) :: wr) H := hP
    have hD : va_D A ((tn, .inr (5, [.long (a0), .int (b0)])) :: (x, .inr (0, [.int (nI kd), .int (nI M), .int (nI (M + ckb kd M)), .long (lN (2 ^ M - 1)), .int (nI (2 ^ ckb kd M - 1)), .ref oc, .ref tn, .int (nI ha), .int (nI af), .long (lN w1), .int (nI c1), .int (nI t1), .ref ac, .int (nI an), .int (lb), .ref sp, .int (nI su)])) :: (ac, .inl (g 0, 8, .inl (fa))) :: (sp, .inl (g 0, 8, .inl (fs))) :: wr) := hD
    refine lv_topi (fun y1 ey1 => ?_)
    obtain rfl : y1 = nI (xs (mrk kd M) (wpt M a ||| wpt M b) M ^^^ (cpt M a ||| cpt M b)) := ey1.trans (by rw [← c2, ← syn_one])
    refine lv_goto (tgt := 33) hx hb d_C_answerToPair_13 (by decide) ?_
    exact j33  _ _ _  (lv_sub hl [0, 1, 2] rfl) hP hD hS
set_option maxHeartbeats 4000000 in
set_option maxRecDepth 100000 in
theorem c_C_check (l : Launch) (D : va_G) (g : Nat → ClassId) (sz : Nat) (wr : va_W) (x tn ac sp oc kd M ha af w1 c1 t1 an su : Nat) (a0 : Int64) (b0 lb : Int32) (fa fs : Nat → Int32) (hcw : CodeW g kd M oc wr) (hM0 : 0 < M) (hM : M ≤ 57) (y : Nat) (hy : y < 2 ^ 64) : Met l y_C_check w_C_check rm_C_check (va_Pc [.ref x, .long (lN y)] (pP D (tyl g) ((tn, .inr (5, [.long (a0), .int (b0)])) :: (x, .inr (0, [.int (nI kd), .int (nI M), .int (nI (M + ckb kd M)), .long (lN (2 ^ M - 1)), .int (nI (2 ^ ckb kd M - 1)), .ref oc, .ref tn, .int (nI ha), .int (nI af), .long (lN w1), .int (nI c1), .int (nI t1), .ref ac, .int (nI an), .int (lb), .ref sp, .int (nI su)])) :: (ac, .inl (g 0, 8, .inl (fa))) :: (sp, .inl (g 0, 8, .inl (fs))) :: wr) sz)) (va_Qi (fun (r : Int32) (u : Unit) => r = nI (xs (mrk kd M) y M ^^^ af)) (fun u => qB D (va_A ((tn, .inr (5, [.long (a0), .int (b0)])) :: (x, .inr (0, [.int (nI kd), .int (nI M), .int (nI (M + ckb kd M)), .long (lN (2 ^ M - 1)), .int (nI (2 ^ ckb kd M - 1)), .ref oc, .ref tn, .int (nI ha), .int (nI af), .long (lN w1), .int (nI c1), .int (nI t1), .ref ac, .int (nI an), .int (lb), .ref sp, .int (nI su)])) :: (ac, .inl (g 0, 8, .inl (fa))) :: (sp, .inl (g 0, 8, .inl (fs))) :: wr) sz) ((tn, .inr (5, [.long (a0), .int (b0)])) :: (x, .inr (0, [.int (nI kd), .int (nI M), .int (nI (M + ckb kd M)), .long (lN (2 ^ M - 1)), .int (nI (2 ^ ckb kd M - 1)), .ref oc, .ref tn, .int (nI ha), .int (nI af), .long (lN w1), .int (nI c1), .int (nI t1), .ref ac, .int (nI an), .int (lb), .ref sp, .int (nI su)])) :: (ac, .inl (g 0, 8, .inl (fa))) :: (sp, .inl (g 0, 8, .inl (fs))) :: wr)) (va_A ((tn, .inr (5, [.long (a0), .int (b0)])) :: (x, .inr (0, [.int (nI kd), .int (nI M), .int (nI (M + ckb kd M)), .long (lN (2 ^ M - 1)), .int (nI (2 ^ ckb kd M - 1)), .ref oc, .ref tn, .int (nI ha), .int (nI af), .long (lN w1), .int (nI c1), .int (nI t1), .ref ac, .int (nI an), .int (lb), .ref sp, .int (nI su)])) :: (ac, .inl (g 0, 8, .inl (fa))) :: (sp, .inl (g 0, 8, .inl (fs))) :: wr) sz)) 0 0 (va_A ((tn, .inr (5, [.long (a0), .int (b0)])) :: (x, .inr (0, [.int (nI kd), .int (nI M), .int (nI (M + ckb kd M)), .long (lN (2 ^ M - 1)), .int (nI (2 ^ ckb kd M - 1)), .ref oc, .ref tn, .int (nI ha), .int (nI af), .long (lN w1), .int (nI c1), .int (nI t1), .ref ac, .int (nI an), .int (lb), .ref sp, .int (nI su)])) :: (ac, .inl (g 0, 8, .inl (fa))) :: (sp, .inl (g 0, 8, .inl (fs))) :: wr) sz) := by
  refine Met.ofW (cc := b_C_check) (maxL := 3) (ret := (some .int)) (by decide +kernel) rfl ?_
  intro p e s m args below meth c s₁ Bq hml hv
  have hx := Bq.exec
  have hb := Bq.bytes
  have hr := Bq.returns
  have hts : ∀ w ∈ wA, w.before args s = true := fun w h => atoms_spec (ws := w_C_check) Bq.pre w (List.mem_cons_of_mem _ h)
  have hown : s.vm.findClass R_C = some m.cls := findClass_of_methodNamed Bq.named
  have hlocks := Bq.notSynchronized
  obtain ⟨rfl, hsz, hP, hKK, hD0⟩ := hv
  have hK := hKK.1
  subst hsz
  have hD := hD0.self (sz := s.heap.size)
  generalize hAe : va_A ((tn, .inr (5, [.long (a0), .int (b0)])) :: (x, .inr (0, [.int (nI kd), .int (nI M), .int (nI (M + ckb kd M)), .long (lN (2 ^ M - 1)), .int (nI (2 ^ ckb kd M - 1)), .ref oc, .ref tn, .int (nI ha), .int (nI af), .long (lN w1), .int (nI c1), .int (nI t1), .ref ac, .int (nI an), .int (lb), .ref sp, .int (nI su)])) :: (ac, .inl (g 0, 8, .inl (fa))) :: (sp, .inl (g 0, 8, .inl (fs))) :: wr) s.heap.size = A at hD ⊢
  have hA : ∀ q : Nat, s.heap.size ≤ q → A q := fun q h => by rw [← hAe]; exact Or.inr h
  have hS : va_S A s.heap s.heap [] := va_S.rf
  have hl := lv_entry ([.ref x, .long (lN y)]) (n := 3) (Nat.le_of_ble_eq_true rfl)
  rw [lg_entry_eq]
  generalize (lg_sl ([.ref x, .long (lN y)]) ++ List.replicate (3 - (lg_sl ([.ref x, .long (lN y)])).length) Slot.unset).toArray = ls at hl ⊢
  have hl : lv_has ls 3 [(0, .ref x), (1, .long (lN y))] := hl
  generalize hQ : MQ below (va_Qi (fun (r : Int32) (u : Unit) => r = nI (xs (mrk kd M) y M ^^^ af)) (fun u => qB D (A) ((tn, .inr (5, [.long (a0), .int (b0)])) :: (x, .inr (0, [.int (nI kd), .int (nI M), .int (nI (M + ckb kd M)), .long (lN (2 ^ M - 1)), .int (nI (2 ^ ckb kd M - 1)), .ref oc, .ref tn, .int (nI ha), .int (nI af), .long (lN w1), .int (nI c1), .int (nI t1), .ref ac, .int (nI an), .int (lb), .ref sp, .int (nI su)])) :: (ac, .inl (g 0, 8, .inl (fa))) :: (sp, .inl (g 0, 8, .inl (fs))) :: wr)) (A)) [.ref x, .long (lN y)].toArray s 0 0 A = Q
  refine lv_aload_n hx hb d_C_check_0 rfl (lv_at hl 0 rfl) ?_
  refine va_get (D := D) (ci := 0) (v := .ref oc) (C := R_C) (T := F_C) (N := 17) hx hb hts i_C hown hK hP 1 rfl rfl 5 (by decide) (hts _ m_211) (fun _ h9 => h9) rfl d_C_check_1 ?_
  refine lv_lload_n hx hb d_C_check_4 rfl (lv_at hl 1 rfl) ?_
  refine lu_sumOf (rest := []) ((((hcw.cons _).cons _).cons _).cons _) hM hy hx hb hml hown hts hKK hP hD hS hA hl.1 (Nat.le_of_ble_eq_true rfl) (Nat.le_of_ble_eq_true rfl) (Nat.le_of_ble_eq_true rfl) (Nat.le_of_ble_eq_true rfl) (Nat.le_of_ble_eq_true rfl) d_C_check_5 (fun H locs hP hD hS => ?_)
  have hP : va_P D vwCl ((tn, .inr (5, [.long (a0), .int (b0)])) :: (x, .inr (0, [.int (nI kd), .int (nI M), .int (nI (M + ckb kd M)), .long (lN (2 ^ M - 1)), .int (nI (2 ^ ckb kd M - 1)), .ref oc, .ref tn, .int (nI ha), .int (nI af), .long (lN w1), .int (nI c1), .int (nI t1), .ref ac, .int (nI an), .int (lb), .ref sp, .int (nI su)])) :: (ac, .inl (g 0, 8, .inl (fa))) :: (sp, .inl (g 0, 8, .inl (fs))) :: wr) H := hP
  have hD : va_D A ((tn, .inr (5, [.long (a0), .int (b0)])) :: (x, .inr (0, [.int (nI kd), .int (nI M), .int (nI (M + ckb kd M)), .long (lN (2 ^ M - 1)), .int (nI (2 ^ ckb kd M - 1)), .ref oc, .ref tn, .int (nI ha), .int (nI af), .long (lN w1), .int (nI c1), .int (nI t1), .ref ac, .int (nI an), .int (lb), .ref sp, .int (nI su)])) :: (ac, .inl (g 0, 8, .inl (fa))) :: (sp, .inl (g 0, 8, .inl (fs))) :: wr) := hD
  refine lv_aload_n hx hb d_C_check_8 rfl (lv_at hl 0 rfl) ?_
  refine va_get (D := D) (ci := 0) (v := .int (nI af)) (C := R_C) (T := F_C) (N := 17) hx hb hts i_C hown hK hP 1 rfl rfl 8 (by decide) (hts _ m_214) (fun _ h9 => h9) rfl d_C_check_9 ?_
  refine lx_ixor (z := nI ((xs (mrk kd M) y M) ^^^ af)) hx hb d_C_check_12 (xn_xor (xs (mrk kd M) y M) af) ?_
  rw [← hQ]
  refine W.iret (v := nI ((xs (mrk kd M) y M) ^^^ af)) hx hb hr ?_ hS.2.2 d_C_check_13
  exact fun t ht hW => ⟨⟨nI ((xs (mrk kd M) y M) ^^^ af), (), rfl, rfl, by rw [ht]; exact hP, hD⟩, hS.F ht⟩
set_option maxHeartbeats 4000000 in
set_option maxRecDepth 100000 in
theorem c_C_plain (l : Launch) (D : va_G) (g : Nat → ClassId) (sz : Nat) (wr : va_W) (x tn ac sp oc kd M ha af w1 c1 t1 an su : Nat) (a0 : Int64) (b0 lb : Int32) (fa fs : Nat → Int32) (hcw : CodeW g kd M oc wr) (hM0 : 0 < M) (hM : M ≤ 57) (hha : ha ≤ 1) : Met l y_C_plain w_C_plain rm_C_plain (va_Pc [.ref x] (pP D (tyl g) ((tn, .inr (5, [.long (a0), .int (b0)])) :: (x, .inr (0, [.int (nI kd), .int (nI M), .int (nI (M + ckb kd M)), .long (lN (2 ^ M - 1)), .int (nI (2 ^ ckb kd M - 1)), .ref oc, .ref tn, .int (nI ha), .int (nI af), .long (lN w1), .int (nI c1), .int (nI t1), .ref ac, .int (nI an), .int (lb), .ref sp, .int (nI su)])) :: (ac, .inl (g 0, 8, .inl (fa))) :: (sp, .inl (g 0, 8, .inl (fs))) :: wr) sz)) (va_Qi (fun (r : Int32) (u : Unit) => r = nI ha) (fun u => qB D (va_A ((tn, .inr (5, [.long (a0), .int (b0)])) :: (x, .inr (0, [.int (nI kd), .int (nI M), .int (nI (M + ckb kd M)), .long (lN (2 ^ M - 1)), .int (nI (2 ^ ckb kd M - 1)), .ref oc, .ref tn, .int (nI ha), .int (nI af), .long (lN w1), .int (nI c1), .int (nI t1), .ref ac, .int (nI an), .int (lb), .ref sp, .int (nI su)])) :: (ac, .inl (g 0, 8, .inl (fa))) :: (sp, .inl (g 0, 8, .inl (fs))) :: wr) sz) ((tn, .inr (5, [.long (a0), .int (b0)])) :: (x, .inr (0, [.int (nI kd), .int (nI M), .int (nI (M + ckb kd M)), .long (lN (2 ^ M - 1)), .int (nI (2 ^ ckb kd M - 1)), .ref oc, .ref tn, .int (nI 0), .int (nI 0), .long (lN w1), .int (nI c1), .int (nI t1), .ref ac, .int (nI an), .int (lb), .ref sp, .int (nI su)])) :: (ac, .inl (g 0, 8, .inl (fa))) :: (sp, .inl (g 0, 8, .inl (fs))) :: wr)) (va_A ((tn, .inr (5, [.long (a0), .int (b0)])) :: (x, .inr (0, [.int (nI kd), .int (nI M), .int (nI (M + ckb kd M)), .long (lN (2 ^ M - 1)), .int (nI (2 ^ ckb kd M - 1)), .ref oc, .ref tn, .int (nI ha), .int (nI af), .long (lN w1), .int (nI c1), .int (nI t1), .ref ac, .int (nI an), .int (lb), .ref sp, .int (nI su)])) :: (ac, .inl (g 0, 8, .inl (fa))) :: (sp, .inl (g 0, 8, .inl (fs))) :: wr) sz)) 0 0 (va_A ((tn, .inr (5, [.long (a0), .int (b0)])) :: (x, .inr (0, [.int (nI kd), .int (nI M), .int (nI (M + ckb kd M)), .long (lN (2 ^ M - 1)), .int (nI (2 ^ ckb kd M - 1)), .ref oc, .ref tn, .int (nI ha), .int (nI af), .long (lN w1), .int (nI c1), .int (nI t1), .ref ac, .int (nI an), .int (lb), .ref sp, .int (nI su)])) :: (ac, .inl (g 0, 8, .inl (fa))) :: (sp, .inl (g 0, 8, .inl (fs))) :: wr) sz) := by
  refine Met.ofW (cc := b_C_plain) (maxL := 2) (ret := (some .boolean)) (by decide +kernel) rfl ?_
  intro p e s m args below meth c s₁ Bq hml hv
  have hx := Bq.exec
  have hb := Bq.bytes
  have hr := Bq.returns
  have hts : ∀ w ∈ wA, w.before args s = true := fun w h => atoms_spec (ws := w_C_plain) Bq.pre w (List.mem_cons_of_mem _ h)
  have hown : s.vm.findClass R_C = some m.cls := findClass_of_methodNamed Bq.named
  have hlocks := Bq.notSynchronized
  obtain ⟨rfl, hsz, hP, hKK, hD0⟩ := hv
  have hK := hKK.1
  subst hsz
  have hD := hD0.self (sz := s.heap.size)
  generalize hAe : va_A ((tn, .inr (5, [.long (a0), .int (b0)])) :: (x, .inr (0, [.int (nI kd), .int (nI M), .int (nI (M + ckb kd M)), .long (lN (2 ^ M - 1)), .int (nI (2 ^ ckb kd M - 1)), .ref oc, .ref tn, .int (nI ha), .int (nI af), .long (lN w1), .int (nI c1), .int (nI t1), .ref ac, .int (nI an), .int (lb), .ref sp, .int (nI su)])) :: (ac, .inl (g 0, 8, .inl (fa))) :: (sp, .inl (g 0, 8, .inl (fs))) :: wr) s.heap.size = A at hD ⊢
  have hA : ∀ q : Nat, s.heap.size ≤ q → A q := fun q h => by rw [← hAe]; exact Or.inr h
  have hS : va_S A s.heap s.heap [] := va_S.rf
  have hl := lv_entry ([.ref x]) (n := 2) (Nat.le_of_ble_eq_true rfl)
  rw [lg_entry_eq]
  generalize (lg_sl ([.ref x]) ++ List.replicate (2 - (lg_sl ([.ref x])).length) Slot.unset).toArray = ls at hl ⊢
  have hl : lv_has ls 2 [(0, .ref x)] := hl
  generalize hQ : MQ below (va_Qi (fun (r : Int32) (u : Unit) => r = nI ha) (fun u => qB D (A) ((tn, .inr (5, [.long (a0), .int (b0)])) :: (x, .inr (0, [.int (nI kd), .int (nI M), .int (nI (M + ckb kd M)), .long (lN (2 ^ M - 1)), .int (nI (2 ^ ckb kd M - 1)), .ref oc, .ref tn, .int (nI 0), .int (nI 0), .long (lN w1), .int (nI c1), .int (nI t1), .ref ac, .int (nI an), .int (lb), .ref sp, .int (nI su)])) :: (ac, .inl (g 0, 8, .inl (fa))) :: (sp, .inl (g 0, 8, .inl (fs))) :: wr)) (A)) [.ref x].toArray s 0 0 A = Q
  refine lv_aload_n hx hb d_C_plain_0 rfl (lv_at hl 0 rfl) ?_
  refine va_get (D := D) (ci := 0) (v := .int (nI ha)) (C := R_C) (T := F_C) (N := 17) hx hb hts i_C hown hK hP 1 rfl rfl 7 (by decide) (hts _ m_213) (fun _ h9 => h9) rfl d_C_plain_1 ?_
  refine lv_istore_n (lv' := [(1, .int (nI ha)), (0, .ref x)]) hx hb d_C_plain_4 rfl hl (by decide) rfl (fun ls hl => ?_)
  refine lv_aload_n hx hb d_C_plain_5 rfl (lv_at hl 1 rfl) ?_
  refine lv_iconst (v := nI 0) hx hb d_C_plain_6 (by decide) ?_
  refine va_put (D := D) (ci := 0) (v := .int (nI 0)) (ty := .boolean) (C := R_C) (T := F_C) (N := 17) hx hb hts i_C tf_C tf_C_ok nf_C hown hK hP hD hS 1 rfl rfl 7 (by decide) (hts _ m_213) (fun _ h9 => h9) rfl (by decide +kernel) rfl rfl (Nat.le_of_ble_eq_true rfl) d_C_plain_7 (fun H locs hP hD hS => ?_)
  have hP : va_P D vwCl ((tn, .inr (5, [.long (a0), .int (b0)])) :: (x, .inr (0, [.int (nI kd), .int (nI M), .int (nI (M + ckb kd M)), .long (lN (2 ^ M - 1)), .int (nI (2 ^ ckb kd M - 1)), .ref oc, .ref tn, .int (nI 0), .int (nI af), .long (lN w1), .int (nI c1), .int (nI t1), .ref ac, .int (nI an), .int (lb), .ref sp, .int (nI su)])) :: (ac, .inl (g 0, 8, .inl (fa))) :: (sp, .inl (g 0, 8, .inl (fs))) :: wr) H := hP
  have hD : va_D A ((tn, .inr (5, [.long (a0), .int (b0)])) :: (x, .inr (0, [.int (nI kd), .int (nI M), .int (nI (M + ckb kd M)), .long (lN (2 ^ M - 1)), .int (nI (2 ^ ckb kd M - 1)), .ref oc, .ref tn, .int (nI 0), .int (nI af), .long (lN w1), .int (nI c1), .int (nI t1), .ref ac, .int (nI an), .int (lb), .ref sp, .int (nI su)])) :: (ac, .inl (g 0, 8, .inl (fa))) :: (sp, .inl (g 0, 8, .inl (fs))) :: wr) := hD
  refine lv_aload_n hx hb d_C_plain_10 rfl (lv_at hl 1 rfl) ?_
  refine lv_iconst (v := nI 0) hx hb d_C_plain_11 (by decide) ?_
  refine va_put (D := D) (ci := 0) (v := .int (nI 0)) (ty := .int) (C := R_C) (T := F_C) (N := 17) hx hb hts i_C tf_C tf_C_ok nf_C hown hK hP hD hS 1 rfl rfl 8 (by decide) (hts _ m_214) (fun _ h9 => h9) rfl (by decide +kernel) rfl rfl (Nat.le_of_ble_eq_true rfl) d_C_plain_12 (fun H locs hP hD hS => ?_)
  have hP : va_P D vwCl ((tn, .inr (5, [.long (a0), .int (b0)])) :: (x, .inr (0, [.int (nI kd), .int (nI M), .int (nI (M + ckb kd M)), .long (lN (2 ^ M - 1)), .int (nI (2 ^ ckb kd M - 1)), .ref oc, .ref tn, .int (nI 0), .int (nI 0), .long (lN w1), .int (nI c1), .int (nI t1), .ref ac, .int (nI an), .int (lb), .ref sp, .int (nI su)])) :: (ac, .inl (g 0, 8, .inl (fa))) :: (sp, .inl (g 0, 8, .inl (fs))) :: wr) H := hP
  have hD : va_D A ((tn, .inr (5, [.long (a0), .int (b0)])) :: (x, .inr (0, [.int (nI kd), .int (nI M), .int (nI (M + ckb kd M)), .long (lN (2 ^ M - 1)), .int (nI (2 ^ ckb kd M - 1)), .ref oc, .ref tn, .int (nI 0), .int (nI 0), .long (lN w1), .int (nI c1), .int (nI t1), .ref ac, .int (nI an), .int (lb), .ref sp, .int (nI su)])) :: (ac, .inl (g 0, 8, .inl (fa))) :: (sp, .inl (g 0, 8, .inl (fs))) :: wr) := hD
  refine lv_iload_n hx hb d_C_plain_15 rfl (lv_at hl 0 rfl) ?_
  rw [← hQ]
  refine W.zret (v := nI ha) (ty := .boolean) hx hb hr (nar01 hha) ?_ hS.2.2 d_C_plain_16
  exact fun t ht hW => ⟨⟨nI ha, (), rfl, rfl, by rw [ht]; exact hP, hD⟩, hS.F ht⟩
set_option maxHeartbeats 4000000 in
set_option maxRecDepth 100000 in
theorem c_C_size (l : Launch) (D : va_G) (g : Nat → ClassId) (sz : Nat) (wr : va_W) (x tn ac sp oc kd M ha af w1 c1 t1 an su : Nat) (a0 : Int64) (b0 lb : Int32) (fa fs : Nat → Int32) (hcw : CodeW g kd M oc wr) (hM0 : 0 < M) (hM : M ≤ 57) (y : Int32) : Met l y_C_size w_C_size rm_C_size (va_Pc [.ref x, .int (y)] (pP D (tyl g) ((tn, .inr (5, [.long (a0), .int (b0)])) :: (x, .inr (0, [.int (nI kd), .int (nI M), .int (nI (M + ckb kd M)), .long (lN (2 ^ M - 1)), .int (nI (2 ^ ckb kd M - 1)), .ref oc, .ref tn, .int (nI ha), .int (nI af), .long (lN w1), .int (nI c1), .int (nI t1), .ref ac, .int (nI an), .int (lb), .ref sp, .int (nI su)])) :: (ac, .inl (g 0, 8, .inl (fa))) :: (sp, .inl (g 0, 8, .inl (fs))) :: wr) sz)) (va_Qi (fun (r : Int32) (u : Unit) => r = szK kd M y) (fun u => qB D (va_A ((tn, .inr (5, [.long (a0), .int (b0)])) :: (x, .inr (0, [.int (nI kd), .int (nI M), .int (nI (M + ckb kd M)), .long (lN (2 ^ M - 1)), .int (nI (2 ^ ckb kd M - 1)), .ref oc, .ref tn, .int (nI ha), .int (nI af), .long (lN w1), .int (nI c1), .int (nI t1), .ref ac, .int (nI an), .int (lb), .ref sp, .int (nI su)])) :: (ac, .inl (g 0, 8, .inl (fa))) :: (sp, .inl (g 0, 8, .inl (fs))) :: wr) sz) ((tn, .inr (5, [.long (a0), .int (b0)])) :: (x, .inr (0, [.int (nI kd), .int (nI M), .int (nI (M + ckb kd M)), .long (lN (2 ^ M - 1)), .int (nI (2 ^ ckb kd M - 1)), .ref oc, .ref tn, .int (nI ha), .int (nI af), .long (lN w1), .int (nI c1), .int (nI t1), .ref ac, .int (nI an), .int (lb), .ref sp, .int (nI su)])) :: (ac, .inl (g 0, 8, .inl (fa))) :: (sp, .inl (g 0, 8, .inl (fs))) :: wr)) (va_A ((tn, .inr (5, [.long (a0), .int (b0)])) :: (x, .inr (0, [.int (nI kd), .int (nI M), .int (nI (M + ckb kd M)), .long (lN (2 ^ M - 1)), .int (nI (2 ^ ckb kd M - 1)), .ref oc, .ref tn, .int (nI ha), .int (nI af), .long (lN w1), .int (nI c1), .int (nI t1), .ref ac, .int (nI an), .int (lb), .ref sp, .int (nI su)])) :: (ac, .inl (g 0, 8, .inl (fa))) :: (sp, .inl (g 0, 8, .inl (fs))) :: wr) sz)) 0 0 (va_A ((tn, .inr (5, [.long (a0), .int (b0)])) :: (x, .inr (0, [.int (nI kd), .int (nI M), .int (nI (M + ckb kd M)), .long (lN (2 ^ M - 1)), .int (nI (2 ^ ckb kd M - 1)), .ref oc, .ref tn, .int (nI ha), .int (nI af), .long (lN w1), .int (nI c1), .int (nI t1), .ref ac, .int (nI an), .int (lb), .ref sp, .int (nI su)])) :: (ac, .inl (g 0, 8, .inl (fa))) :: (sp, .inl (g 0, 8, .inl (fs))) :: wr) sz) := by
  refine Met.ofW (cc := b_C_size) (maxL := 2) (ret := (some .int)) (by decide +kernel) rfl ?_
  intro p e s m args below meth c s₁ Bq hml hv
  have hx := Bq.exec
  have hb := Bq.bytes
  have hr := Bq.returns
  have hts : ∀ w ∈ wA, w.before args s = true := fun w h => atoms_spec (ws := w_C_size) Bq.pre w (List.mem_cons_of_mem _ h)
  have hown : s.vm.findClass R_C = some m.cls := findClass_of_methodNamed Bq.named
  have hlocks := Bq.notSynchronized
  obtain ⟨rfl, hsz, hP, hKK, hD0⟩ := hv
  have hK := hKK.1
  subst hsz
  have hD := hD0.self (sz := s.heap.size)
  generalize hAe : va_A ((tn, .inr (5, [.long (a0), .int (b0)])) :: (x, .inr (0, [.int (nI kd), .int (nI M), .int (nI (M + ckb kd M)), .long (lN (2 ^ M - 1)), .int (nI (2 ^ ckb kd M - 1)), .ref oc, .ref tn, .int (nI ha), .int (nI af), .long (lN w1), .int (nI c1), .int (nI t1), .ref ac, .int (nI an), .int (lb), .ref sp, .int (nI su)])) :: (ac, .inl (g 0, 8, .inl (fa))) :: (sp, .inl (g 0, 8, .inl (fs))) :: wr) s.heap.size = A at hD ⊢
  have hA : ∀ q : Nat, s.heap.size ≤ q → A q := fun q h => by rw [← hAe]; exact Or.inr h
  have hS : va_S A s.heap s.heap [] := va_S.rf
  have hl := lv_entry ([.ref x, .int (y)]) (n := 2) (Nat.le_of_ble_eq_true rfl)
  rw [lg_entry_eq]
  generalize (lg_sl ([.ref x, .int (y)]) ++ List.replicate (2 - (lg_sl ([.ref x, .int (y)])).length) Slot.unset).toArray = ls at hl ⊢
  have hl : lv_has ls 2 [(0, .ref x), (1, .int (y))] := hl
  generalize hQ : MQ below (va_Qi (fun (r : Int32) (u : Unit) => r = szK kd M y) (fun u => qB D (A) ((tn, .inr (5, [.long (a0), .int (b0)])) :: (x, .inr (0, [.int (nI kd), .int (nI M), .int (nI (M + ckb kd M)), .long (lN (2 ^ M - 1)), .int (nI (2 ^ ckb kd M - 1)), .ref oc, .ref tn, .int (nI ha), .int (nI af), .long (lN w1), .int (nI c1), .int (nI t1), .ref ac, .int (nI an), .int (lb), .ref sp, .int (nI su)])) :: (ac, .inl (g 0, 8, .inl (fa))) :: (sp, .inl (g 0, 8, .inl (fs))) :: wr)) (A)) [.ref x, .int (y)].toArray s 0 0 A = Q
  refine lv_iload_n hx hb d_C_size_0 rfl (lv_at hl 1 rfl) ?_
  by_cases y0 : y = nI 0
  · skip
    subst y0
    refine lv_tableIn (off := 31) (tgt := 32) hx hb d_C_size_1 (by decide) (by decide) (by decide) (by decide) ?_
    refine lv_aload_n hx hb d_C_size_32 rfl (lv_at hl 0 rfl) ?_
    refine va_get (D := D) (ci := 0) (v := .int (nI M)) (C := R_C) (T := F_C) (N := 17) hx hb hts i_C hown hK hP 1 rfl rfl 1 (by decide) (hts _ m_207) (fun _ h9 => h9) rfl d_C_size_33 ?_
    rw [← hQ]
    refine W.iret (v := nI M) hx hb hr ?_ hS.2.2 d_C_size_36
    exact fun t ht hW => ⟨⟨nI M, (), rfl, rfl, by rw [ht]; exact hP, hD⟩, hS.F ht⟩
  by_cases y1 : y = nI 1
  · skip
    subst y1
    refine lv_tableIn (off := 36) (tgt := 37) hx hb d_C_size_1 (by decide) (by decide) (by decide) (by decide) ?_
    refine lv_aload_n hx hb d_C_size_37 rfl (lv_at hl 0 rfl) ?_
    refine va_get (D := D) (ci := 0) (v := .ref oc) (C := R_C) (T := F_C) (N := 17) hx hb hts i_C hown hK hP 1 rfl rfl 5 (by decide) (hts _ m_211) (fun _ h9 => h9) rfl d_C_size_38 ?_
    rcases hcw with ⟨rfl, hcw⟩ | ⟨rfl, hcw⟩ | ⟨rfl, hcw⟩ | ⟨rfl, hcw⟩
    · skip
      obtain ⟨k0, k1, am, kl, al, lf, kL, kc, kr, kb, la, ca, ra, ba9, h0, _⟩ := hcw
      refine va_get (D := D) (ci := 1) (v := .int (nI (frm M 1 1))) (C := R_S) (T := F_S) (N := 4) hx hb hts i_S hown hK hP (k0 + 4) h0 rfl 1 (by decide) (hts _ m_138) (fun _ h9 => h9) rfl d_C_size_41 ?_
      rw [← hQ]
      refine W.iret (v := nI (frm M 1 1)) hx hb hr ?_ hS.2.2 d_C_size_44
      exact fun t ht hW => ⟨⟨nI (frm M 1 1), (), rfl, rfl, by rw [ht]; exact hP, hD⟩, hS.F ht⟩
    · skip
      obtain ⟨k0, k1, am, h0, _⟩ := hcw
      refine va_get (D := D) (ci := 2) (v := .int (nI (min M 4))) (C := R_P) (T := F_P) (N := 3) hx hb hts i_P hown hK hP (k0 + 4) h0 rfl 1 (by decide) (hts _ m_138) (fun _ h9 => h9) rfl d_C_size_41 ?_
      rw [← hQ]
      refine W.iret (v := nI (min M 4)) hx hb hr ?_ hS.2.2 d_C_size_44
      exact fun t ht hW => ⟨⟨nI (min M 4), (), rfl, rfl, by rw [ht]; exact hP, hD⟩, hS.F ht⟩
    · skip
      obtain ⟨k0, k1, am, h0, _⟩ := hcw
      refine va_get (D := D) (ci := 3) (v := .int (nI 12)) (C := R_N) (T := F_N) (N := 3) hx hb hts i_N hown hK hP (k0 + 4) h0 rfl 1 (by decide) (hts _ m_138) (fun _ h9 => h9) rfl d_C_size_41 ?_
      rw [← hQ]
      refine W.iret (v := nI 12) hx hb hr ?_ hS.2.2 d_C_size_44
      exact fun t ht hW => ⟨⟨nI 12, (), rfl, rfl, by rw [ht]; exact hP, hD⟩, hS.F ht⟩
    · skip
      obtain ⟨k0, k1, am, kl, al, lf, kL, kc, kr, kb, la, ca, ra, ba9, h0, _⟩ := hcw
      refine va_get (D := D) (ci := 1) (v := .int (nI (frm M 4 4))) (C := R_S) (T := F_S) (N := 4) hx hb hts i_S hown hK hP (k0 + 4) h0 rfl 1 (by decide) (hts _ m_138) (fun _ h9 => h9) rfl d_C_size_41 ?_
      rw [← hQ]
      refine W.iret (v := nI (frm M 4 4)) hx hb hr ?_ hS.2.2 d_C_size_44
      exact fun t ht hW => ⟨⟨nI (frm M 4 4), (), rfl, rfl, by rw [ht]; exact hP, hD⟩, hS.F ht⟩
  by_cases y2 : y = nI 2
  · skip
    subst y2
    refine lv_tableIn (off := 44) (tgt := 45) hx hb d_C_size_1 (by decide) (by decide) (by decide) (by decide) ?_
    refine lv_aload_n hx hb d_C_size_45 rfl (lv_at hl 0 rfl) ?_
    refine va_get (D := D) (ci := 0) (v := .int (nI kd)) (C := R_C) (T := F_C) (N := 17) hx hb hts i_C hown hK hP 1 rfl rfl 0 (by decide) (hts _ m_206) (fun _ h9 => h9) rfl d_C_size_46 ?_
    rw [← hQ]
    refine W.iret (v := nI kd) hx hb hr ?_ hS.2.2 d_C_size_49
    exact fun t ht hW => ⟨⟨nI kd, (), rfl, rfl, by rw [ht]; exact hP, hD⟩, hS.F ht⟩
  by_cases y3 : y = nI 3
  · skip
    subst y3
    refine lv_tableIn (off := 49) (tgt := 50) hx hb d_C_size_1 (by decide) (by decide) (by decide) (by decide) ?_
    refine lv_aload_n hx hb d_C_size_50 rfl (lv_at hl 0 rfl) ?_
    refine va_get (D := D) (ci := 0) (v := .ref oc) (C := R_C) (T := F_C) (N := 17) hx hb hts i_C hown hK hP 1 rfl rfl 5 (by decide) (hts _ m_211) (fun _ h9 => h9) rfl d_C_size_51 ?_
    refine lu_greatestRowSum (rest := []) ((((hcw.cons _).cons _).cons _).cons _) hM hx hb hml hown hts hKK hP hD hS hA hl.1 (Nat.le_of_ble_eq_true rfl) (Nat.le_of_ble_eq_true rfl) (Nat.le_of_ble_eq_true rfl) (Nat.le_of_ble_eq_true rfl) (Nat.le_of_ble_eq_true rfl) d_C_size_54 (fun H locs hP hD hS => ?_)
    have hP : va_P D vwCl ((tn, .inr (5, [.long (a0), .int (b0)])) :: (x, .inr (0, [.int (nI kd), .int (nI M), .int (nI (M + ckb kd M)), .long (lN (2 ^ M - 1)), .int (nI (2 ^ ckb kd M - 1)), .ref oc, .ref tn, .int (nI ha), .int (nI af), .long (lN w1), .int (nI c1), .int (nI t1), .ref ac, .int (nI an), .int (lb), .ref sp, .int (nI su)])) :: (ac, .inl (g 0, 8, .inl (fa))) :: (sp, .inl (g 0, 8, .inl (fs))) :: wr) H := hP
    have hD : va_D A ((tn, .inr (5, [.long (a0), .int (b0)])) :: (x, .inr (0, [.int (nI kd), .int (nI M), .int (nI (M + ckb kd M)), .long (lN (2 ^ M - 1)), .int (nI (2 ^ ckb kd M - 1)), .ref oc, .ref tn, .int (nI ha), .int (nI af), .long (lN w1), .int (nI c1), .int (nI t1), .ref ac, .int (nI an), .int (lb), .ref sp, .int (nI su)])) :: (ac, .inl (g 0, 8, .inl (fa))) :: (sp, .inl (g 0, 8, .inl (fs))) :: wr) := hD
    rw [← hQ]
    refine W.iret (v := nI (grsK kd M)) hx hb hr ?_ hS.2.2 d_C_size_57
    exact fun t ht hW => ⟨⟨nI (grsK kd M), (), rfl, rfl, by rw [ht]; exact hP, hD⟩, hS.F ht⟩
  · skip
    refine lv_tableOut (tgt := 58) hx hb d_C_size_1 (sw4 y0 y1 y2 y3) (by decide) ?_
    refine lv_iconst (v := (-1)) hx hb d_C_size_58 (by decide) ?_
    rw [← hQ]
    refine W.iret (v := (-1)) hx hb hr ?_ hS.2.2 d_C_size_59
    exact fun t ht hW => ⟨⟨(-1), (), rfl, (by unfold szK; rw [if_neg y0, if_neg y1, if_neg y2, if_neg y3]), by rw [ht]; exact hP, hD⟩, hS.F ht⟩
set_option maxHeartbeats 4000000 in
set_option maxRecDepth 100000 in
theorem c_C_foldOf (l : Launch) (D : va_G) (g : Nat → ClassId) (sz : Nat) (ws : va_W) (a : Nat) (ha9 : a < 2 ^ 32) : Met l y_C_foldOf w_C_foldOf rm_C_foldOf (va_Pc [.int (nI a)] (pP D (tyl g) (ws) sz)) (va_Qi (fun (r : Int32) (u : Unit) => r = nI (fold a)) (fun u => qB D (va_A (ws) sz) (ws)) (va_A (ws) sz)) 0 0 (va_A (ws) sz) := by
  refine Met.ofW (cc := b_C_foldOf) (maxL := 2) (ret := (some .int)) (by decide +kernel) rfl ?_
  intro p e s m args below meth c s₁ Bq hml hv
  have hx := Bq.exec
  have hb := Bq.bytes
  have hr := Bq.returns
  have hts : ∀ w ∈ wA, w.before args s = true := fun w h => atoms_spec (ws := w_C_foldOf) Bq.pre w (List.mem_cons_of_mem _ h)
  have hown : s.vm.findClass R_C = some m.cls := findClass_of_methodNamed Bq.named
  have hlocks := Bq.notSynchronized
  obtain ⟨rfl, hsz, hP, hKK, hD0⟩ := hv
  have hK := hKK.1
  subst hsz
  have hD := hD0.self (sz := s.heap.size)
  generalize hAe : va_A (ws) s.heap.size = A at hD ⊢
  have hA : ∀ q : Nat, s.heap.size ≤ q → A q := fun q h => by rw [← hAe]; exact Or.inr h
  have hS : va_S A s.heap s.heap [] := va_S.rf
  have hl := lv_entry ([.int (nI a)]) (n := 2) (Nat.le_of_ble_eq_true rfl)
  rw [lg_entry_eq]
  generalize (lg_sl ([.int (nI a)]) ++ List.replicate (2 - (lg_sl ([.int (nI a)])).length) Slot.unset).toArray = ls at hl ⊢
  have hl : lv_has ls 2 [(0, .int (nI a))] := hl
  generalize hQ : MQ below (va_Qi (fun (r : Int32) (u : Unit) => r = nI (fold a)) (fun u => qB D (A) (ws)) (A)) [.int (nI a)].toArray s 0 0 A = Q
  have hh : (a >>> 16 ^^^ a) % 65536 < 65536 := Nat.mod_lt _ (by decide)
  refine lv_iload_n hx hb d_C_foldOf_0 rfl (lv_at hl 0 rfl) ?_
  refine lv_bipush (v := nI 16) hx hb d_C_foldOf_1 (by decide) ?_
  refine lv_iushr (v := nI (a >>> 16)) hx hb d_C_foldOf_3 (xn_ushr ha9 (by decide)) ?_
  refine lv_iload_n hx hb d_C_foldOf_4 rfl (lv_at hl 0 rfl) ?_
  refine lx_ixor (z := nI ((a >>> 16) ^^^ a)) hx hb d_C_foldOf_5 (xn_xor (a >>> 16) a) ?_
  refine lv_ldc (v := 65535) hx hb hown (hts _ m_421) d_C_foldOf_6 ?_
  refine lv_topi (fun y1 ey1 => ?_)
  obtain rfl : y1 = nI 65535 := ey1.trans (by decide)
  refine lx_iand (z := nI ((a >>> 16 ^^^ a) % 65536)) hx hb d_C_foldOf_8 ((xn_and _ _).trans (by rw [show 65535 = 2 ^ 16 - 1 from rfl, Nat.and_two_pow_sub_one_eq_mod])) ?_
  refine lv_istore_n (lv' := [(1, .int (nI ((a >>> 16 ^^^ a) % 65536))), (0, .int (nI a))]) hx hb d_C_foldOf_9 rfl hl (by decide) rfl (fun ls hl => ?_)
  refine lv_iload_n hx hb d_C_foldOf_10 rfl (lv_at hl 0 rfl) ?_
  refine lv_iconst (v := nI 3) hx hb d_C_foldOf_11 (by decide) ?_
  refine lx_ishl (z := nI (((a >>> 16 ^^^ a) % 65536) <<< 3)) hx hb d_C_foldOf_12 (xn_shl _ (by decide)) ?_
  refine lv_iload_n hx hb d_C_foldOf_13 rfl (lv_at hl 0 rfl) ?_
  refine lv_bipush (v := nI 13) hx hb d_C_foldOf_14 (by decide) ?_
  refine lv_iushr (v := nI (((a >>> 16 ^^^ a) % 65536) >>> 13)) hx hb d_C_foldOf_16 (xn_ushr (by omega) (by decide)) ?_
  refine lx_ior (z := nI ((((a >>> 16 ^^^ a) % 65536) <<< 3) ||| (((a >>> 16 ^^^ a) % 65536) >>> 13))) hx hb d_C_foldOf_17 (xn_or (((a >>> 16 ^^^ a) % 65536) <<< 3) (((a >>> 16 ^^^ a) % 65536) >>> 13)) ?_
  refine lv_ldc (v := 65535) hx hb hown (hts _ m_421) d_C_foldOf_18 ?_
  refine lv_topi (fun y2 ey2 => ?_)
  obtain rfl : y2 = nI 65535 := ey2.trans (by decide)
  refine lx_iand (z := nI (fold a)) hx hb d_C_foldOf_20 ((xn_and _ _).trans (by rw [show 65535 = 2 ^ 16 - 1 from rfl, Nat.and_two_pow_sub_one_eq_mod]; rfl)) ?_
  rw [← hQ]
  refine W.iret (v := nI (fold a)) hx hb hr ?_ hS.2.2 d_C_foldOf_21
  exact fun t ht hW => ⟨⟨nI (fold a), (), rfl, rfl, by rw [ht]; exact hP, hD⟩, hS.F ht⟩
set_option maxHeartbeats 4000000 in
set_option maxRecDepth 100000 in
theorem c_C_address (l : Launch) (D : va_G) (g : Nat → ClassId) (sz : Nat) (wr : va_W) (x tn ac sp oc kd M ha af w1 c1 t1 an su : Nat) (a0 : Int64) (b0 lb : Int32) (fa fs : Nat → Int32) (hcw : CodeW g kd M oc wr) (hM0 : 0 < M) (hM : M ≤ 57) (a : Nat) (ha9 : a < 2 ^ 32) (hha : ha ≤ 1) (hk1 : kd ≠ 1) (hk2 : kd ≠ 2) (hkd : kd ≤ 3) : Met l y_C_address w_C_address rm_C_address (va_Pc [.ref x, .int (nI a)] (pP D (tyl g) ((tn, .inr (5, [.long (a0), .int (b0)])) :: (x, .inr (0, [.int (nI kd), .int (nI M), .int (nI (M + ckb kd M)), .long (lN (2 ^ M - 1)), .int (nI (2 ^ ckb kd M - 1)), .ref oc, .ref tn, .int (nI ha), .int (nI af), .long (lN w1), .int (nI c1), .int (nI t1), .ref ac, .int (nI an), .int (lb), .ref sp, .int (nI su)])) :: (ac, .inl (g 0, 8, .inl (fa))) :: (sp, .inl (g 0, 8, .inl (fs))) :: wr) sz)) (va_Qi (fun (r : Int32) (u : Unit) => r = nI ha) (fun u => qB D (va_A ((tn, .inr (5, [.long (a0), .int (b0)])) :: (x, .inr (0, [.int (nI kd), .int (nI M), .int (nI (M + ckb kd M)), .long (lN (2 ^ M - 1)), .int (nI (2 ^ ckb kd M - 1)), .ref oc, .ref tn, .int (nI ha), .int (nI af), .long (lN w1), .int (nI c1), .int (nI t1), .ref ac, .int (nI an), .int (lb), .ref sp, .int (nI su)])) :: (ac, .inl (g 0, 8, .inl (fa))) :: (sp, .inl (g 0, 8, .inl (fs))) :: wr) sz) ((tn, .inr (5, [.long (a0), .int (b0)])) :: (x, .inr (0, [.int (nI kd), .int (nI M), .int (nI (M + ckb kd M)), .long (lN (2 ^ M - 1)), .int (nI (2 ^ ckb kd M - 1)), .ref oc, .ref tn, .int (nI 1), .int (nI (fold a % 2 ^ ckb kd M)), .long (lN w1), .int (nI c1), .int (nI t1), .ref ac, .int (nI an), .int (lb), .ref sp, .int (nI su)])) :: (ac, .inl (g 0, 8, .inl (fa))) :: (sp, .inl (g 0, 8, .inl (fs))) :: wr)) (va_A ((tn, .inr (5, [.long (a0), .int (b0)])) :: (x, .inr (0, [.int (nI kd), .int (nI M), .int (nI (M + ckb kd M)), .long (lN (2 ^ M - 1)), .int (nI (2 ^ ckb kd M - 1)), .ref oc, .ref tn, .int (nI ha), .int (nI af), .long (lN w1), .int (nI c1), .int (nI t1), .ref ac, .int (nI an), .int (lb), .ref sp, .int (nI su)])) :: (ac, .inl (g 0, 8, .inl (fa))) :: (sp, .inl (g 0, 8, .inl (fs))) :: wr) sz)) 0 0 (va_A ((tn, .inr (5, [.long (a0), .int (b0)])) :: (x, .inr (0, [.int (nI kd), .int (nI M), .int (nI (M + ckb kd M)), .long (lN (2 ^ M - 1)), .int (nI (2 ^ ckb kd M - 1)), .ref oc, .ref tn, .int (nI ha), .int (nI af), .long (lN w1), .int (nI c1), .int (nI t1), .ref ac, .int (nI an), .int (lb), .ref sp, .int (nI su)])) :: (ac, .inl (g 0, 8, .inl (fa))) :: (sp, .inl (g 0, 8, .inl (fs))) :: wr) sz) := by
  refine Met.ofW (cc := b_C_address) (maxL := 3) (ret := (some .boolean)) (by decide +kernel) rfl ?_
  intro p e s m args below meth c s₁ Bq hml hv
  have hx := Bq.exec
  have hb := Bq.bytes
  have hr := Bq.returns
  have hts : ∀ w ∈ wA, w.before args s = true := fun w h => atoms_spec (ws := w_C_address) Bq.pre w (List.mem_cons_of_mem _ h)
  have hown : s.vm.findClass R_C = some m.cls := findClass_of_methodNamed Bq.named
  have hlocks := Bq.notSynchronized
  obtain ⟨rfl, hsz, hP, hKK, hD0⟩ := hv
  have hK := hKK.1
  subst hsz
  have hD := hD0.self (sz := s.heap.size)
  generalize hAe : va_A ((tn, .inr (5, [.long (a0), .int (b0)])) :: (x, .inr (0, [.int (nI kd), .int (nI M), .int (nI (M + ckb kd M)), .long (lN (2 ^ M - 1)), .int (nI (2 ^ ckb kd M - 1)), .ref oc, .ref tn, .int (nI ha), .int (nI af), .long (lN w1), .int (nI c1), .int (nI t1), .ref ac, .int (nI an), .int (lb), .ref sp, .int (nI su)])) :: (ac, .inl (g 0, 8, .inl (fa))) :: (sp, .inl (g 0, 8, .inl (fs))) :: wr) s.heap.size = A at hD ⊢
  have hA : ∀ q : Nat, s.heap.size ≤ q → A q := fun q h => by rw [← hAe]; exact Or.inr h
  have hS : va_S A s.heap s.heap [] := va_S.rf
  have hl := lv_entry ([.ref x, .int (nI a)]) (n := 3) (Nat.le_of_ble_eq_true rfl)
  rw [lg_entry_eq]
  generalize (lg_sl ([.ref x, .int (nI a)]) ++ List.replicate (3 - (lg_sl ([.ref x, .int (nI a)])).length) Slot.unset).toArray = ls at hl ⊢
  have hl : lv_has ls 3 [(0, .ref x), (1, .int (nI a))] := hl
  generalize hQ : MQ below (va_Qi (fun (r : Int32) (u : Unit) => r = nI ha) (fun u => qB D (A) ((tn, .inr (5, [.long (a0), .int (b0)])) :: (x, .inr (0, [.int (nI kd), .int (nI M), .int (nI (M + ckb kd M)), .long (lN (2 ^ M - 1)), .int (nI (2 ^ ckb kd M - 1)), .ref oc, .ref tn, .int (nI 1), .int (nI (fold a % 2 ^ ckb kd M)), .long (lN w1), .int (nI c1), .int (nI t1), .ref ac, .int (nI an), .int (lb), .ref sp, .int (nI su)])) :: (ac, .inl (g 0, 8, .inl (fa))) :: (sp, .inl (g 0, 8, .inl (fs))) :: wr)) (A)) [.ref x, .int (nI a)].toArray s 0 0 A = Q
  refine lv_aload_n hx hb d_C_address_0 rfl (lv_at hl 0 rfl) ?_
  refine va_get (D := D) (ci := 0) (v := .int (nI kd)) (C := R_C) (T := F_C) (N := 17) hx hb hts i_C hown hK hP 1 rfl rfl 0 (by decide) (hts _ m_206) (fun _ h9 => h9) rfl d_C_address_1 ?_
  refine lv_iconst (v := nI 1) hx hb d_C_address_4 (by decide) ?_
  refine lx_icmp_eq (tgt := 16) hx hb d_C_address_5 (by decide) (by omega) (by omega) (fun c5 => ?_) (fun c5 => ?_)
  · skip
    exact absurd c5 hk1
  · skip
    refine lv_aload_n hx hb d_C_address_8 rfl (lv_at hl 0 rfl) ?_
    refine va_get (D := D) (ci := 0) (v := .int (nI kd)) (C := R_C) (T := F_C) (N := 17) hx hb hts i_C hown hK hP 1 rfl rfl 0 (by decide) (hts _ m_206) (fun _ h9 => h9) rfl d_C_address_9 ?_
    refine lv_iconst (v := nI 2) hx hb d_C_address_12 (by decide) ?_
    refine lx_icmp_ne (tgt := 26) hx hb d_C_address_13 (by decide) (by omega) (by omega) (fun c13 => ?_) (fun c13 => ?_)
    · skip
      refine lv_aload_n hx hb d_C_address_26 rfl (lv_at hl 0 rfl) ?_
      refine va_get (D := D) (ci := 0) (v := .int (nI ha)) (C := R_C) (T := F_C) (N := 17) hx hb hts i_C hown hK hP 1 rfl rfl 7 (by decide) (hts _ m_213) (fun _ h9 => h9) rfl d_C_address_27 ?_
      refine lv_istore_n (lv' := [(2, .int (nI ha)), (0, .ref x), (1, .int (nI a))]) hx hb d_C_address_30 rfl hl (by decide) rfl (fun ls hl => ?_)
      refine lv_aload_n hx hb d_C_address_31 rfl (lv_at hl 1 rfl) ?_
      refine lv_iconst (v := nI 1) hx hb d_C_address_32 (by decide) ?_
      refine va_put (D := D) (ci := 0) (v := .int (nI 1)) (ty := .boolean) (C := R_C) (T := F_C) (N := 17) hx hb hts i_C tf_C tf_C_ok nf_C hown hK hP hD hS 1 rfl rfl 7 (by decide) (hts _ m_213) (fun _ h9 => h9) rfl (by decide +kernel) rfl rfl (Nat.le_of_ble_eq_true rfl) d_C_address_33 (fun H locs hP hD hS => ?_)
      have hP : va_P D vwCl ((tn, .inr (5, [.long (a0), .int (b0)])) :: (x, .inr (0, [.int (nI kd), .int (nI M), .int (nI (M + ckb kd M)), .long (lN (2 ^ M - 1)), .int (nI (2 ^ ckb kd M - 1)), .ref oc, .ref tn, .int (nI 1), .int (nI af), .long (lN w1), .int (nI c1), .int (nI t1), .ref ac, .int (nI an), .int (lb), .ref sp, .int (nI su)])) :: (ac, .inl (g 0, 8, .inl (fa))) :: (sp, .inl (g 0, 8, .inl (fs))) :: wr) H := hP
      have hD : va_D A ((tn, .inr (5, [.long (a0), .int (b0)])) :: (x, .inr (0, [.int (nI kd), .int (nI M), .int (nI (M + ckb kd M)), .long (lN (2 ^ M - 1)), .int (nI (2 ^ ckb kd M - 1)), .ref oc, .ref tn, .int (nI 1), .int (nI af), .long (lN w1), .int (nI c1), .int (nI t1), .ref ac, .int (nI an), .int (lb), .ref sp, .int (nI su)])) :: (ac, .inl (g 0, 8, .inl (fa))) :: (sp, .inl (g 0, 8, .inl (fs))) :: wr) := hD
      refine lv_aload_n hx hb d_C_address_36 rfl (lv_at hl 1 rfl) ?_
      refine lv_iload_n hx hb d_C_address_37 rfl (lv_at hl 2 rfl) ?_
      refine lc_Si (As := [.int (nI a)]) (rest := [.ref x]) ⟨hx, hb, hml, hown, hts⟩ (c_C_foldOf l D g _ _ a ha9) (kS 1 hts m_420 m_418 m_419 m_30 (by decide +kernel) ⟨Nat.le_of_ble_eq_true rfl, Nat.le_of_ble_eq_true rfl⟩) hKK hP hD hS hA hl.1 rfl rfl (Nat.le_of_ble_eq_true rfl) d_C_address_38 ⟨Nat.le_of_ble_eq_true rfl, Nat.le_of_ble_eq_true rfl⟩ (fun r1 u H locs e1 hP hD hS => ?_)
      obtain rfl : r1 = nI (fold a) := e1
      refine lv_aload_n hx hb d_C_address_41 rfl (lv_at hl 1 rfl) ?_
      refine va_get (D := D) (ci := 0) (v := .int (nI (2 ^ ckb kd M - 1))) (C := R_C) (T := F_C) (N := 17) hx hb hts i_C hown hK hP 1 rfl rfl 4 (by decide) (hts _ m_210) (fun _ h9 => h9) rfl d_C_address_42 ?_
      refine lx_iand (z := nI (fold a % 2 ^ ckb kd M)) hx hb d_C_address_45 ((xn_and _ _).trans (by rw [Nat.and_two_pow_sub_one_eq_mod])) ?_
      refine va_put (D := D) (ci := 0) (v := .int (nI (fold a % 2 ^ ckb kd M))) (ty := .int) (C := R_C) (T := F_C) (N := 17) hx hb hts i_C tf_C tf_C_ok nf_C hown hK hP hD hS 1 rfl rfl 8 (by decide) (hts _ m_214) (fun _ h9 => h9) rfl (by decide +kernel) rfl rfl (Nat.le_of_ble_eq_true rfl) d_C_address_46 (fun H locs hP hD hS => ?_)
      have hP : va_P D vwCl ((tn, .inr (5, [.long (a0), .int (b0)])) :: (x, .inr (0, [.int (nI kd), .int (nI M), .int (nI (M + ckb kd M)), .long (lN (2 ^ M - 1)), .int (nI (2 ^ ckb kd M - 1)), .ref oc, .ref tn, .int (nI 1), .int (nI (fold a % 2 ^ ckb kd M)), .long (lN w1), .int (nI c1), .int (nI t1), .ref ac, .int (nI an), .int (lb), .ref sp, .int (nI su)])) :: (ac, .inl (g 0, 8, .inl (fa))) :: (sp, .inl (g 0, 8, .inl (fs))) :: wr) H := hP
      have hD : va_D A ((tn, .inr (5, [.long (a0), .int (b0)])) :: (x, .inr (0, [.int (nI kd), .int (nI M), .int (nI (M + ckb kd M)), .long (lN (2 ^ M - 1)), .int (nI (2 ^ ckb kd M - 1)), .ref oc, .ref tn, .int (nI 1), .int (nI (fold a % 2 ^ ckb kd M)), .long (lN w1), .int (nI c1), .int (nI t1), .ref ac, .int (nI an), .int (lb), .ref sp, .int (nI su)])) :: (ac, .inl (g 0, 8, .inl (fa))) :: (sp, .inl (g 0, 8, .inl (fs))) :: wr) := hD
      refine lv_iload_n hx hb d_C_address_49 rfl (lv_at hl 0 rfl) ?_
      rw [← hQ]
      refine W.zret (v := nI ha) (ty := .boolean) hx hb hr (nar01 hha) ?_ hS.2.2 d_C_address_50
      exact fun t ht hW => ⟨⟨nI ha, (), rfl, rfl, by rw [ht]; exact hP, hD⟩, hS.F ht⟩
    · skip
      exact absurd c13 hk2
set_option maxHeartbeats 4000000 in
set_option maxRecDepth 100000 in
theorem c_C_column (l : Launch) (D : va_G) (g : Nat → ClassId) (sz : Nat) (wr : va_W) (x tn ac sp oc kd M ha af w1 c1 t1 an su : Nat) (a0 : Int64) (b0 lb : Int32) (fa fs : Nat → Int32) (hcw : CodeW g kd M oc wr) (hM0 : 0 < M) (hM : M ≤ 57) (j : Nat) (hj : j < M) (hk2 : kd ≠ 2) (hkd : kd ≤ 3) : Met l y_C_column w_C_column rm_C_column (va_Pc [.ref x, .int (nI j)] (pP D (tyl g) ((tn, .inr (5, [.long (a0), .int (b0)])) :: (x, .inr (0, [.int (nI kd), .int (nI M), .int (nI (M + ckb kd M)), .long (lN (2 ^ M - 1)), .int (nI (2 ^ ckb kd M - 1)), .ref oc, .ref tn, .int (nI ha), .int (nI af), .long (lN w1), .int (nI c1), .int (nI t1), .ref ac, .int (nI an), .int (lb), .ref sp, .int (nI su)])) :: (ac, .inl (g 0, 8, .inl (fa))) :: (sp, .inl (g 0, 8, .inl (fs))) :: wr) sz)) (va_Qi (fun (r : Int32) (u : Unit) => r = nI (colK kd M j)) (fun u => qB D (va_A ((tn, .inr (5, [.long (a0), .int (b0)])) :: (x, .inr (0, [.int (nI kd), .int (nI M), .int (nI (M + ckb kd M)), .long (lN (2 ^ M - 1)), .int (nI (2 ^ ckb kd M - 1)), .ref oc, .ref tn, .int (nI ha), .int (nI af), .long (lN w1), .int (nI c1), .int (nI t1), .ref ac, .int (nI an), .int (lb), .ref sp, .int (nI su)])) :: (ac, .inl (g 0, 8, .inl (fa))) :: (sp, .inl (g 0, 8, .inl (fs))) :: wr) sz) ((tn, .inr (5, [.long (a0), .int (b0)])) :: (x, .inr (0, [.int (nI kd), .int (nI M), .int (nI (M + ckb kd M)), .long (lN (2 ^ M - 1)), .int (nI (2 ^ ckb kd M - 1)), .ref oc, .ref tn, .int (nI ha), .int (nI af), .long (lN w1), .int (nI c1), .int (nI t1), .ref ac, .int (nI an), .int (lb), .ref sp, .int (nI su)])) :: (ac, .inl (g 0, 8, .inl (fa))) :: (sp, .inl (g 0, 8, .inl (fs))) :: wr)) (va_A ((tn, .inr (5, [.long (a0), .int (b0)])) :: (x, .inr (0, [.int (nI kd), .int (nI M), .int (nI (M + ckb kd M)), .long (lN (2 ^ M - 1)), .int (nI (2 ^ ckb kd M - 1)), .ref oc, .ref tn, .int (nI ha), .int (nI af), .long (lN w1), .int (nI c1), .int (nI t1), .ref ac, .int (nI an), .int (lb), .ref sp, .int (nI su)])) :: (ac, .inl (g 0, 8, .inl (fa))) :: (sp, .inl (g 0, 8, .inl (fs))) :: wr) sz)) 0 0 (va_A ((tn, .inr (5, [.long (a0), .int (b0)])) :: (x, .inr (0, [.int (nI kd), .int (nI M), .int (nI (M + ckb kd M)), .long (lN (2 ^ M - 1)), .int (nI (2 ^ ckb kd M - 1)), .ref oc, .ref tn, .int (nI ha), .int (nI af), .long (lN w1), .int (nI c1), .int (nI t1), .ref ac, .int (nI an), .int (lb), .ref sp, .int (nI su)])) :: (ac, .inl (g 0, 8, .inl (fa))) :: (sp, .inl (g 0, 8, .inl (fs))) :: wr) sz) := by
  refine Met.ofW (cc := b_C_column) (maxL := 2) (ret := (some .int)) (by decide +kernel) rfl ?_
  intro p e s m args below meth c s₁ Bq hml hv
  have hx := Bq.exec
  have hb := Bq.bytes
  have hr := Bq.returns
  have hts : ∀ w ∈ wA, w.before args s = true := fun w h => atoms_spec (ws := w_C_column) Bq.pre w (List.mem_cons_of_mem _ h)
  have hown : s.vm.findClass R_C = some m.cls := findClass_of_methodNamed Bq.named
  have hlocks := Bq.notSynchronized
  obtain ⟨rfl, hsz, hP, hKK, hD0⟩ := hv
  have hK := hKK.1
  subst hsz
  have hD := hD0.self (sz := s.heap.size)
  generalize hAe : va_A ((tn, .inr (5, [.long (a0), .int (b0)])) :: (x, .inr (0, [.int (nI kd), .int (nI M), .int (nI (M + ckb kd M)), .long (lN (2 ^ M - 1)), .int (nI (2 ^ ckb kd M - 1)), .ref oc, .ref tn, .int (nI ha), .int (nI af), .long (lN w1), .int (nI c1), .int (nI t1), .ref ac, .int (nI an), .int (lb), .ref sp, .int (nI su)])) :: (ac, .inl (g 0, 8, .inl (fa))) :: (sp, .inl (g 0, 8, .inl (fs))) :: wr) s.heap.size = A at hD ⊢
  have hA : ∀ q : Nat, s.heap.size ≤ q → A q := fun q h => by rw [← hAe]; exact Or.inr h
  have hS : va_S A s.heap s.heap [] := va_S.rf
  have hl := lv_entry ([.ref x, .int (nI j)]) (n := 2) (Nat.le_of_ble_eq_true rfl)
  rw [lg_entry_eq]
  generalize (lg_sl ([.ref x, .int (nI j)]) ++ List.replicate (2 - (lg_sl ([.ref x, .int (nI j)])).length) Slot.unset).toArray = ls at hl ⊢
  have hl : lv_has ls 2 [(0, .ref x), (1, .int (nI j))] := hl
  generalize hQ : MQ below (va_Qi (fun (r : Int32) (u : Unit) => r = nI (colK kd M j)) (fun u => qB D (A) ((tn, .inr (5, [.long (a0), .int (b0)])) :: (x, .inr (0, [.int (nI kd), .int (nI M), .int (nI (M + ckb kd M)), .long (lN (2 ^ M - 1)), .int (nI (2 ^ ckb kd M - 1)), .ref oc, .ref tn, .int (nI ha), .int (nI af), .long (lN w1), .int (nI c1), .int (nI t1), .ref ac, .int (nI an), .int (lb), .ref sp, .int (nI su)])) :: (ac, .inl (g 0, 8, .inl (fa))) :: (sp, .inl (g 0, 8, .inl (fs))) :: wr)) (A)) [.ref x, .int (nI j)].toArray s 0 0 A = Q
  refine lv_iload_n hx hb d_C_column_0 rfl (lv_at hl 1 rfl) ?_
  refine lx_if_lt (tgt := 12) hx hb d_C_column_1 (by decide) (by omega) ?_
  refine lv_iload_n hx hb d_C_column_4 rfl (lv_at hl 1 rfl) ?_
  refine lv_aload_n hx hb d_C_column_5 rfl (lv_at hl 0 rfl) ?_
  refine va_get (D := D) (ci := 0) (v := .int (nI M)) (C := R_C) (T := F_C) (N := 17) hx hb hts i_C hown hK hP 1 rfl rfl 1 (by decide) (hts _ m_207) (fun _ h9 => h9) rfl d_C_column_6 ?_
  refine lx_icmp_lt (tgt := 22) hx hb d_C_column_9 (by decide) (by omega) (by omega) (fun c9 => ?_) (fun c9 => ?_)
  · skip
    refine lv_aload_n hx hb d_C_column_22 rfl (lv_at hl 0 rfl) ?_
    refine va_get (D := D) (ci := 0) (v := .int (nI kd)) (C := R_C) (T := F_C) (N := 17) hx hb hts i_C hown hK hP 1 rfl rfl 0 (by decide) (hts _ m_206) (fun _ h9 => h9) rfl d_C_column_23 ?_
    refine lv_iconst (v := nI 2) hx hb d_C_column_26 (by decide) ?_
    refine lx_icmp_ne (tgt := 40) hx hb d_C_column_27 (by decide) (by omega) (by omega) (fun c27 => ?_) (fun c27 => ?_)
    · skip
      refine lv_aload_n hx hb d_C_column_40 rfl (lv_at hl 0 rfl) ?_
      refine va_get (D := D) (ci := 0) (v := .ref oc) (C := R_C) (T := F_C) (N := 17) hx hb hts i_C hown hK hP 1 rfl rfl 5 (by decide) (hts _ m_211) (fun _ h9 => h9) rfl d_C_column_41 ?_
      refine lv_iload_n hx hb d_C_column_44 rfl (lv_at hl 1 rfl) ?_
      refine lu_columnOf (rest := []) ((((hcw.cons _).cons _).cons _).cons _) hk2 hM hj hx hb hml hown hts hKK hP hD hS hA hl.1 (Nat.le_of_ble_eq_true rfl) (Nat.le_of_ble_eq_true rfl) (Nat.le_of_ble_eq_true rfl) (Nat.le_of_ble_eq_true rfl) (Nat.le_of_ble_eq_true rfl) d_C_column_45 (fun H locs hP hD hS => ?_)
      have hP : va_P D vwCl ((tn, .inr (5, [.long (a0), .int (b0)])) :: (x, .inr (0, [.int (nI kd), .int (nI M), .int (nI (M + ckb kd M)), .long (lN (2 ^ M - 1)), .int (nI (2 ^ ckb kd M - 1)), .ref oc, .ref tn, .int (nI ha), .int (nI af), .long (lN w1), .int (nI c1), .int (nI t1), .ref ac, .int (nI an), .int (lb), .ref sp, .int (nI su)])) :: (ac, .inl (g 0, 8, .inl (fa))) :: (sp, .inl (g 0, 8, .inl (fs))) :: wr) H := hP
      have hD : va_D A ((tn, .inr (5, [.long (a0), .int (b0)])) :: (x, .inr (0, [.int (nI kd), .int (nI M), .int (nI (M + ckb kd M)), .long (lN (2 ^ M - 1)), .int (nI (2 ^ ckb kd M - 1)), .ref oc, .ref tn, .int (nI ha), .int (nI af), .long (lN w1), .int (nI c1), .int (nI t1), .ref ac, .int (nI an), .int (lb), .ref sp, .int (nI su)])) :: (ac, .inl (g 0, 8, .inl (fa))) :: (sp, .inl (g 0, 8, .inl (fs))) :: wr) := hD
      rw [← hQ]
      refine W.iret (v := nI (colK kd M j)) hx hb hr ?_ hS.2.2 d_C_column_48
      exact fun t ht hW => ⟨⟨nI (colK kd M j), (), rfl, rfl, by rw [ht]; exact hP, hD⟩, hS.F ht⟩
    · skip
      exact absurd c27 hk2
  · skip
    exact absurd c9 (by omega)
