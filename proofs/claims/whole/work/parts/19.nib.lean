set_option maxRecDepth 20000 in
theorem m_159 : Cond.code y_P_marksOf b_P_marksOf 5 (some (.array .int)) ∈ wA := in_wA (List.mem_of_getElem? (i := 159) rfl) rfl
set_option maxRecDepth 20000 in
theorem m_157 : Cond.methodLink R_P 3 y_P_marksOf ∈ wA := in_wA (List.mem_of_getElem? (i := 157) rfl) rfl
set_option maxRecDepth 20000 in
theorem m_158 : Cond.static y_P_marksOf ∈ wA := in_wA (List.mem_of_getElem? (i := 158) rfl) rfl
set_option maxRecDepth 20000 in
theorem m_37 : Cond.initialized R_P ∈ wA := in_wA (List.mem_of_getElem? (i := 37) rfl) rfl
set_option maxRecDepth 20000 in
theorem m_160 : Cond.methodLink R_P 9 y_K_init ∈ wA := in_wA (List.mem_of_getElem? (i := 160) rfl) rfl
set_option maxRecDepth 20000 in
theorem m_178 : Cond.code y_N_timesG b_N_timesG 2 (some .int) ∈ wA := in_wA (List.mem_of_getElem? (i := 178) rfl) rfl
set_option maxRecDepth 20000 in
theorem m_176 : Cond.methodLink R_N 19 y_N_timesG ∈ wA := in_wA (List.mem_of_getElem? (i := 176) rfl) rfl
set_option maxRecDepth 20000 in
theorem m_177 : Cond.static y_N_timesG ∈ wA := in_wA (List.mem_of_getElem? (i := 177) rfl) rfl
set_option maxRecDepth 20000 in
theorem m_38 : Cond.initialized R_N ∈ wA := in_wA (List.mem_of_getElem? (i := 38) rfl) rfl
set_option maxRecDepth 20000 in
theorem m_175 : Cond.code y_N_raised b_N_raised 4 (some .int) ∈ wA := in_wA (List.mem_of_getElem? (i := 175) rfl) rfl
set_option maxRecDepth 20000 in
theorem m_173 : Cond.methodLink R_N 15 y_N_raised ∈ wA := in_wA (List.mem_of_getElem? (i := 173) rfl) rfl
set_option maxRecDepth 20000 in
theorem m_174 : Cond.static y_N_raised ∈ wA := in_wA (List.mem_of_getElem? (i := 174) rfl) rfl
set_option maxRecDepth 20000 in
theorem m_172 : Cond.code y_N_marksOf b_N_marksOf 7 (some (.array .int)) ∈ wA := in_wA (List.mem_of_getElem? (i := 172) rfl) rfl
set_option maxRecDepth 20000 in
theorem m_170 : Cond.methodLink R_N 5 y_N_marksOf ∈ wA := in_wA (List.mem_of_getElem? (i := 170) rfl) rfl
set_option maxRecDepth 20000 in
theorem m_171 : Cond.static y_N_marksOf ∈ wA := in_wA (List.mem_of_getElem? (i := 171) rfl) rfl
set_option maxRecDepth 20000 in
theorem m_179 : Cond.methodLink R_N 9 y_K_init ∈ wA := in_wA (List.mem_of_getElem? (i := 179) rfl) rfl
set_option maxRecDepth 20000 in
theorem m_455 : Cond.code y_T_clear b_T_clear 1 none ∈ wA := in_wA (List.mem_of_getElem? (i := 455) rfl) rfl
set_option maxRecDepth 20000 in
theorem m_463 : Cond.methodLink R_P 15 y_T_clear ∈ wA := in_wA (List.mem_of_getElem? (i := 463) rfl) rfl
set_option maxRecDepth 20000 in
theorem m_453 : Cond.instanceMethod y_T_clear ∈ wA := in_wA (List.mem_of_getElem? (i := 453) rfl) rfl
set_option maxRecDepth 20000 in
theorem m_454 : Cond.selects R_T y_T_clear y_T_clear ∈ wA := in_wA (List.mem_of_getElem? (i := 454) rfl) rfl
set_option maxRecDepth 20000 in
theorem m_39 : Cond.initialized R_T ∈ wA := in_wA (List.mem_of_getElem? (i := 39) rfl) rfl
set_option maxRecDepth 20000 in
theorem m_136 : Cond.sameField R_N R_K "wordBits" "I" ∈ wA := in_wA (List.mem_of_getElem? (i := 136) rfl) rfl
set_option maxRecDepth 20000 in
theorem m_135 : Cond.fieldLink R_N 41 R_N "wordBits" "I" ∈ wA := in_wA (List.mem_of_getElem? (i := 135) rfl) rfl
set_option maxRecDepth 20000 in
theorem m_452 : Cond.methodLink R_N 23 y_T_clear ∈ wA := in_wA (List.mem_of_getElem? (i := 452) rfl) rfl
set_option maxRecDepth 20000 in
theorem m_198 : Cond.fieldLink R_N 29 R_T "checkFlips" "I" ∈ wA := in_wA (List.mem_of_getElem? (i := 198) rfl) rfl
set_option maxRecDepth 20000 in
theorem m_459 : Cond.code y_N_wordFlipsFor b_N_wordFlipsFor 9 (some .long) ∈ wA := in_wA (List.mem_of_getElem? (i := 459) rfl) rfl
set_option maxRecDepth 20000 in
theorem m_456 : Cond.methodLink R_N 33 y_N_wordFlipsFor ∈ wA := in_wA (List.mem_of_getElem? (i := 456) rfl) rfl
set_option maxRecDepth 20000 in
theorem m_458 : Cond.instanceMethod y_N_wordFlipsFor ∈ wA := in_wA (List.mem_of_getElem? (i := 458) rfl) rfl
set_option maxRecDepth 20000 in
theorem m_1 : Cond.selects R_N y_N_wordFlipsFor y_N_wordFlipsFor ∈ wA := in_wA (List.mem_of_getElem? (i := 1) rfl) rfl
set_option maxRecDepth 20000 in
theorem m_194 : Cond.fieldLink R_N 37 R_T "wordFlips" "J" ∈ wA := in_wA (List.mem_of_getElem? (i := 194) rfl) rfl
abbrev w_P_marksOf : List Cond := .code y_P_marksOf b_P_marksOf 5 (some (.array .int)) :: wA
abbrev rm_P_marksOf : Room := { frames := 0, cells := 1, slots := 57, locals := 0 }
theorem d_P_marksOf_0 : decode b_P_marksOf 0 = .ok (.iload_n 0, 1) := by decide +kernel
theorem d_P_marksOf_1 : decode b_P_marksOf 1 = .ok (.newarray .int, 2) := by decide +kernel
theorem d_P_marksOf_3 : decode b_P_marksOf 3 = .ok (.astore_n 2, 1) := by decide +kernel
theorem d_P_marksOf_4 : decode b_P_marksOf 4 = .ok (.iconst 0, 1) := by decide +kernel
theorem d_P_marksOf_5 : decode b_P_marksOf 5 = .ok (.istore_n 3, 1) := by decide +kernel
theorem d_P_marksOf_6 : decode b_P_marksOf 6 = .ok (.iconst 0, 1) := by decide +kernel
theorem d_P_marksOf_7 : decode b_P_marksOf 7 = .ok (.istore 4, 2) := by decide +kernel
theorem d_P_marksOf_9 : decode b_P_marksOf 9 = .ok (.iload 4, 2) := by decide +kernel
theorem d_P_marksOf_11 : decode b_P_marksOf 11 = .ok (.iload_n 0, 1) := by decide +kernel
theorem d_P_marksOf_12 : decode b_P_marksOf 12 = .ok (.if_icmp .ge 31, 3) := by decide +kernel
theorem d_P_marksOf_15 : decode b_P_marksOf 15 = .ok (.aload_n 2, 1) := by decide +kernel
theorem d_P_marksOf_16 : decode b_P_marksOf 16 = .ok (.iload 4, 2) := by decide +kernel
theorem d_P_marksOf_18 : decode b_P_marksOf 18 = .ok (.iconst 1, 1) := by decide +kernel
theorem d_P_marksOf_19 : decode b_P_marksOf 19 = .ok (.iload_n 3, 1) := by decide +kernel
theorem d_P_marksOf_20 : decode b_P_marksOf 20 = .ok (.ishl, 1) := by decide +kernel
theorem d_P_marksOf_21 : decode b_P_marksOf 21 = .ok (.iastore, 1) := by decide +kernel
theorem d_P_marksOf_22 : decode b_P_marksOf 22 = .ok (.iload_n 3, 1) := by decide +kernel
theorem d_P_marksOf_23 : decode b_P_marksOf 23 = .ok (.iconst 1, 1) := by decide +kernel
theorem d_P_marksOf_24 : decode b_P_marksOf 24 = .ok (.iadd, 1) := by decide +kernel
theorem d_P_marksOf_25 : decode b_P_marksOf 25 = .ok (.iload_n 1, 1) := by decide +kernel
theorem d_P_marksOf_26 : decode b_P_marksOf 26 = .ok (.if_icmp .ge 9, 3) := by decide +kernel
theorem d_P_marksOf_29 : decode b_P_marksOf 29 = .ok (.iload_n 3, 1) := by decide +kernel
theorem d_P_marksOf_30 : decode b_P_marksOf 30 = .ok (.iconst 1, 1) := by decide +kernel
theorem d_P_marksOf_31 : decode b_P_marksOf 31 = .ok (.iadd, 1) := by decide +kernel
theorem d_P_marksOf_32 : decode b_P_marksOf 32 = .ok (.goto 4, 3) := by decide +kernel
theorem d_P_marksOf_35 : decode b_P_marksOf 35 = .ok (.iconst 0, 1) := by decide +kernel
theorem d_P_marksOf_36 : decode b_P_marksOf 36 = .ok (.istore_n 3, 1) := by decide +kernel
theorem d_P_marksOf_37 : decode b_P_marksOf 37 = .ok (.iinc 4 1, 3) := by decide +kernel
theorem d_P_marksOf_40 : decode b_P_marksOf 40 = .ok (.goto (-31), 3) := by decide +kernel
theorem d_P_marksOf_43 : decode b_P_marksOf 43 = .ok (.aload_n 2, 1) := by decide +kernel
theorem d_P_marksOf_44 : decode b_P_marksOf 44 = .ok (.areturn, 1) := by decide +kernel
abbrev w_P_init : List Cond := .code y_P_init b_P_init 3 none :: wA
abbrev rm_P_init : Room := { frames := 2, cells := 1, slots := 57, locals := 35 }
theorem d_P_init_0 : decode b_P_init 0 = .ok (.aload_n 0, 1) := by decide +kernel
theorem d_P_init_1 : decode b_P_init 1 = .ok (.iload_n 1, 1) := by decide +kernel
theorem d_P_init_2 : decode b_P_init 2 = .ok (.iload_n 2, 1) := by decide +kernel
theorem d_P_init_3 : decode b_P_init 3 = .ok (.iload_n 1, 1) := by decide +kernel
theorem d_P_init_4 : decode b_P_init 4 = .ok (.iload_n 2, 1) := by decide +kernel
theorem d_P_init_5 : decode b_P_init 5 = .ok (.invokestatic 3, 3) := by decide +kernel
theorem d_P_init_8 : decode b_P_init 8 = .ok (.invokespecial 9, 3) := by decide +kernel
theorem d_P_init_11 : decode b_P_init 11 = .ok (.return_, 1) := by decide +kernel
abbrev w_N_timesG : List Cond := .code y_N_timesG b_N_timesG 2 (some .int) :: wA
abbrev rm_N_timesG : Room := { frames := 0, cells := 0, slots := 0, locals := 0 }
theorem d_N_timesG_0 : decode b_N_timesG 0 = .ok (.iload_n 0, 1) := by decide +kernel
theorem d_N_timesG_1 : decode b_N_timesG 1 = .ok (.iconst 1, 1) := by decide +kernel
theorem d_N_timesG_2 : decode b_N_timesG 2 = .ok (.ishl, 1) := by decide +kernel
theorem d_N_timesG_3 : decode b_N_timesG 3 = .ok (.istore_n 1, 1) := by decide +kernel
theorem d_N_timesG_4 : decode b_N_timesG 4 = .ok (.iload_n 1, 1) := by decide +kernel
theorem d_N_timesG_5 : decode b_N_timesG 5 = .ok (.bipush 15, 2) := by decide +kernel
theorem d_N_timesG_7 : decode b_N_timesG 7 = .ok (.if_icmp .le 10, 3) := by decide +kernel
theorem d_N_timesG_10 : decode b_N_timesG 10 = .ok (.iload_n 1, 1) := by decide +kernel
theorem d_N_timesG_11 : decode b_N_timesG 11 = .ok (.bipush 19, 2) := by decide +kernel
theorem d_N_timesG_13 : decode b_N_timesG 13 = .ok (.ixor, 1) := by decide +kernel
theorem d_N_timesG_14 : decode b_N_timesG 14 = .ok (.goto 4, 3) := by decide +kernel
theorem d_N_timesG_17 : decode b_N_timesG 17 = .ok (.iload_n 1, 1) := by decide +kernel
theorem d_N_timesG_18 : decode b_N_timesG 18 = .ok (.ireturn, 1) := by decide +kernel
abbrev w_N_raised : List Cond := .code y_N_raised b_N_raised 4 (some .int) :: wA
abbrev rm_N_raised : Room := { frames := 1, cells := 0, slots := 0, locals := 21 }
theorem d_N_raised_0 : decode b_N_raised 0 = .ok (.iload_n 0, 1) := by decide +kernel
theorem d_N_raised_1 : decode b_N_raised 1 = .ok (.istore_n 2, 1) := by decide +kernel
theorem d_N_raised_2 : decode b_N_raised 2 = .ok (.iconst 0, 1) := by decide +kernel
theorem d_N_raised_3 : decode b_N_raised 3 = .ok (.istore_n 3, 1) := by decide +kernel
theorem d_N_raised_4 : decode b_N_raised 4 = .ok (.iload_n 3, 1) := by decide +kernel
theorem d_N_raised_5 : decode b_N_raised 5 = .ok (.iload_n 1, 1) := by decide +kernel
theorem d_N_raised_6 : decode b_N_raised 6 = .ok (.if_icmp .ge 14, 3) := by decide +kernel
theorem d_N_raised_9 : decode b_N_raised 9 = .ok (.iload_n 2, 1) := by decide +kernel
theorem d_N_raised_10 : decode b_N_raised 10 = .ok (.invokestatic 19, 3) := by decide +kernel
theorem d_N_raised_13 : decode b_N_raised 13 = .ok (.istore_n 2, 1) := by decide +kernel
theorem d_N_raised_14 : decode b_N_raised 14 = .ok (.iinc 3 1, 3) := by decide +kernel
theorem d_N_raised_17 : decode b_N_raised 17 = .ok (.goto (-13), 3) := by decide +kernel
theorem d_N_raised_20 : decode b_N_raised 20 = .ok (.iload_n 2, 1) := by decide +kernel
theorem d_N_raised_21 : decode b_N_raised 21 = .ok (.ireturn, 1) := by decide +kernel
abbrev w_N_marksOf : List Cond := .code y_N_marksOf b_N_marksOf 7 (some (.array .int)) :: wA
abbrev rm_N_marksOf : Room := { frames := 2, cells := 1, slots := 57, locals := 44 }
theorem d_N_marksOf_0 : decode b_N_marksOf 0 = .ok (.iload_n 0, 1) := by decide +kernel
theorem d_N_marksOf_1 : decode b_N_marksOf 1 = .ok (.newarray .int, 2) := by decide +kernel
theorem d_N_marksOf_3 : decode b_N_marksOf 3 = .ok (.astore_n 1, 1) := by decide +kernel
theorem d_N_marksOf_4 : decode b_N_marksOf 4 = .ok (.iconst 0, 1) := by decide +kernel
theorem d_N_marksOf_5 : decode b_N_marksOf 5 = .ok (.istore_n 2, 1) := by decide +kernel
theorem d_N_marksOf_6 : decode b_N_marksOf 6 = .ok (.iload_n 2, 1) := by decide +kernel
theorem d_N_marksOf_7 : decode b_N_marksOf 7 = .ok (.iload_n 0, 1) := by decide +kernel
theorem d_N_marksOf_8 : decode b_N_marksOf 8 = .ok (.if_icmp .ge 52, 3) := by decide +kernel
theorem d_N_marksOf_11 : decode b_N_marksOf 11 = .ok (.iload_n 2, 1) := by decide +kernel
theorem d_N_marksOf_12 : decode b_N_marksOf 12 = .ok (.iconst 4, 1) := by decide +kernel
theorem d_N_marksOf_13 : decode b_N_marksOf 13 = .ok (.idiv, 1) := by decide +kernel
theorem d_N_marksOf_14 : decode b_N_marksOf 14 = .ok (.istore_n 3, 1) := by decide +kernel
theorem d_N_marksOf_15 : decode b_N_marksOf 15 = .ok (.iconst 1, 1) := by decide +kernel
theorem d_N_marksOf_16 : decode b_N_marksOf 16 = .ok (.iload_n 2, 1) := by decide +kernel
theorem d_N_marksOf_17 : decode b_N_marksOf 17 = .ok (.iconst 4, 1) := by decide +kernel
theorem d_N_marksOf_18 : decode b_N_marksOf 18 = .ok (.irem, 1) := by decide +kernel
theorem d_N_marksOf_19 : decode b_N_marksOf 19 = .ok (.ishl, 1) := by decide +kernel
theorem d_N_marksOf_20 : decode b_N_marksOf 20 = .ok (.istore 4, 2) := by decide +kernel
theorem d_N_marksOf_22 : decode b_N_marksOf 22 = .ok (.iload 4, 2) := by decide +kernel
theorem d_N_marksOf_24 : decode b_N_marksOf 24 = .ok (.iload_n 3, 1) := by decide +kernel
theorem d_N_marksOf_25 : decode b_N_marksOf 25 = .ok (.invokestatic 15, 3) := by decide +kernel
theorem d_N_marksOf_28 : decode b_N_marksOf 28 = .ok (.istore 5, 2) := by decide +kernel
theorem d_N_marksOf_30 : decode b_N_marksOf 30 = .ok (.iload 5, 2) := by decide +kernel
theorem d_N_marksOf_32 : decode b_N_marksOf 32 = .ok (.iload_n 3, 1) := by decide +kernel
theorem d_N_marksOf_33 : decode b_N_marksOf 33 = .ok (.invokestatic 15, 3) := by decide +kernel
theorem d_N_marksOf_36 : decode b_N_marksOf 36 = .ok (.istore 6, 2) := by decide +kernel
theorem d_N_marksOf_38 : decode b_N_marksOf 38 = .ok (.aload_n 1, 1) := by decide +kernel
theorem d_N_marksOf_39 : decode b_N_marksOf 39 = .ok (.iload_n 2, 1) := by decide +kernel
theorem d_N_marksOf_40 : decode b_N_marksOf 40 = .ok (.iload 4, 2) := by decide +kernel
theorem d_N_marksOf_42 : decode b_N_marksOf 42 = .ok (.iload 5, 2) := by decide +kernel
theorem d_N_marksOf_44 : decode b_N_marksOf 44 = .ok (.iconst 4, 1) := by decide +kernel
theorem d_N_marksOf_45 : decode b_N_marksOf 45 = .ok (.ishl, 1) := by decide +kernel
theorem d_N_marksOf_46 : decode b_N_marksOf 46 = .ok (.ior, 1) := by decide +kernel
theorem d_N_marksOf_47 : decode b_N_marksOf 47 = .ok (.iload 6, 2) := by decide +kernel
theorem d_N_marksOf_49 : decode b_N_marksOf 49 = .ok (.bipush 8, 2) := by decide +kernel
theorem d_N_marksOf_51 : decode b_N_marksOf 51 = .ok (.ishl, 1) := by decide +kernel
theorem d_N_marksOf_52 : decode b_N_marksOf 52 = .ok (.ior, 1) := by decide +kernel
theorem d_N_marksOf_53 : decode b_N_marksOf 53 = .ok (.iastore, 1) := by decide +kernel
theorem d_N_marksOf_54 : decode b_N_marksOf 54 = .ok (.iinc 2 1, 3) := by decide +kernel
theorem d_N_marksOf_57 : decode b_N_marksOf 57 = .ok (.goto (-51), 3) := by decide +kernel
theorem d_N_marksOf_60 : decode b_N_marksOf 60 = .ok (.aload_n 1, 1) := by decide +kernel
theorem d_N_marksOf_61 : decode b_N_marksOf 61 = .ok (.areturn, 1) := by decide +kernel
abbrev w_N_init : List Cond := .code y_N_init b_N_init 2 none :: wA
abbrev rm_N_init : Room := { frames := 3, cells := 1, slots := 57, locals := 70 }
theorem d_N_init_0 : decode b_N_init 0 = .ok (.aload_n 0, 1) := by decide +kernel
theorem d_N_init_1 : decode b_N_init 1 = .ok (.iload_n 1, 1) := by decide +kernel
theorem d_N_init_2 : decode b_N_init 2 = .ok (.bipush 12, 2) := by decide +kernel
theorem d_N_init_4 : decode b_N_init 4 = .ok (.iload_n 1, 1) := by decide +kernel
theorem d_N_init_5 : decode b_N_init 5 = .ok (.invokestatic 5, 3) := by decide +kernel
theorem d_N_init_8 : decode b_N_init 8 = .ok (.invokespecial 9, 3) := by decide +kernel
theorem d_N_init_11 : decode b_N_init 11 = .ok (.return_, 1) := by decide +kernel
abbrev w_P_judge : List Cond := .code y_P_judge b_P_judge 3 (some .int) :: wA
abbrev rm_P_judge : Room := { frames := 1, cells := 0, slots := 0, locals := 20 }
theorem d_P_judge_0 : decode b_P_judge 0 = .ok (.aload_n 2, 1) := by decide +kernel
theorem d_P_judge_1 : decode b_P_judge 1 = .ok (.invokevirtual 15, 3) := by decide +kernel
theorem d_P_judge_4 : decode b_P_judge 4 = .ok (.iload_n 1, 1) := by decide +kernel
theorem d_P_judge_5 : decode b_P_judge 5 = .ok (.ifCond .ne 7, 3) := by decide +kernel
theorem d_P_judge_8 : decode b_P_judge 8 = .ok (.iconst 0, 1) := by decide +kernel
theorem d_P_judge_9 : decode b_P_judge 9 = .ok (.goto 4, 3) := by decide +kernel
theorem d_P_judge_12 : decode b_P_judge 12 = .ok (.iconst 2, 1) := by decide +kernel
theorem d_P_judge_13 : decode b_P_judge 13 = .ok (.ireturn, 1) := by decide +kernel
abbrev w_N_wordFlipsFor : List Cond := .code y_N_wordFlipsFor b_N_wordFlipsFor 9 (some .long) :: wA
abbrev rm_N_wordFlipsFor : Room := { frames := 1, cells := 0, slots := 0, locals := 21 }
theorem d_N_wordFlipsFor_0 : decode b_N_wordFlipsFor 0 = .ok (.iload_n 1, 1) := by decide +kernel
theorem d_N_wordFlipsFor_1 : decode b_N_wordFlipsFor 1 = .ok (.ifCond .ne 5, 3) := by decide +kernel
theorem d_N_wordFlipsFor_4 : decode b_N_wordFlipsFor 4 = .ok (.lconst 0, 1) := by decide +kernel
theorem d_N_wordFlipsFor_5 : decode b_N_wordFlipsFor 5 = .ok (.lreturn, 1) := by decide +kernel
theorem d_N_wordFlipsFor_6 : decode b_N_wordFlipsFor 6 = .ok (.iload_n 1, 1) := by decide +kernel
theorem d_N_wordFlipsFor_7 : decode b_N_wordFlipsFor 7 = .ok (.istore 4, 2) := by decide +kernel
theorem d_N_wordFlipsFor_9 : decode b_N_wordFlipsFor 9 = .ok (.iload_n 1, 1) := by decide +kernel
theorem d_N_wordFlipsFor_10 : decode b_N_wordFlipsFor 10 = .ok (.istore 5, 2) := by decide +kernel
theorem d_N_wordFlipsFor_12 : decode b_N_wordFlipsFor 12 = .ok (.iconst 0, 1) := by decide +kernel
theorem d_N_wordFlipsFor_13 : decode b_N_wordFlipsFor 13 = .ok (.istore 6, 2) := by decide +kernel
theorem d_N_wordFlipsFor_15 : decode b_N_wordFlipsFor 15 = .ok (.iload 6, 2) := by decide +kernel
theorem d_N_wordFlipsFor_17 : decode b_N_wordFlipsFor 17 = .ok (.aload_n 0, 1) := by decide +kernel
theorem d_N_wordFlipsFor_18 : decode b_N_wordFlipsFor 18 = .ok (.getfield 41, 3) := by decide +kernel
theorem d_N_wordFlipsFor_21 : decode b_N_wordFlipsFor 21 = .ok (.if_icmp .ge 64, 3) := by decide +kernel
theorem d_N_wordFlipsFor_24 : decode b_N_wordFlipsFor 24 = .ok (.iload 4, 2) := by decide +kernel
theorem d_N_wordFlipsFor_26 : decode b_N_wordFlipsFor 26 = .ok (.iload_n 2, 1) := by decide +kernel
theorem d_N_wordFlipsFor_27 : decode b_N_wordFlipsFor 27 = .ok (.if_icmp .ne 35, 3) := by decide +kernel
theorem d_N_wordFlipsFor_30 : decode b_N_wordFlipsFor 30 = .ok (.iload 5, 2) := by decide +kernel
theorem d_N_wordFlipsFor_32 : decode b_N_wordFlipsFor 32 = .ok (.iload_n 3, 1) := by decide +kernel
theorem d_N_wordFlipsFor_33 : decode b_N_wordFlipsFor 33 = .ok (.if_icmp .ne 29, 3) := by decide +kernel
theorem d_N_wordFlipsFor_36 : decode b_N_wordFlipsFor 36 = .ok (.iload_n 1, 1) := by decide +kernel
theorem d_N_wordFlipsFor_37 : decode b_N_wordFlipsFor 37 = .ok (.i2l, 1) := by decide +kernel
theorem d_N_wordFlipsFor_38 : decode b_N_wordFlipsFor 38 = .ok (.iload 6, 2) := by decide +kernel
theorem d_N_wordFlipsFor_40 : decode b_N_wordFlipsFor 40 = .ok (.lshl, 1) := by decide +kernel
theorem d_N_wordFlipsFor_41 : decode b_N_wordFlipsFor 41 = .ok (.lstore 7, 2) := by decide +kernel
theorem d_N_wordFlipsFor_43 : decode b_N_wordFlipsFor 43 = .ok (.lload 7, 2) := by decide +kernel
theorem d_N_wordFlipsFor_45 : decode b_N_wordFlipsFor 45 = .ok (.aload_n 0, 1) := by decide +kernel
theorem d_N_wordFlipsFor_46 : decode b_N_wordFlipsFor 46 = .ok (.getfield 41, 3) := by decide +kernel
theorem d_N_wordFlipsFor_49 : decode b_N_wordFlipsFor 49 = .ok (.lushr, 1) := by decide +kernel
theorem d_N_wordFlipsFor_50 : decode b_N_wordFlipsFor 50 = .ok (.lconst 0, 1) := by decide +kernel
theorem d_N_wordFlipsFor_51 : decode b_N_wordFlipsFor 51 = .ok (.lcmp, 1) := by decide +kernel
theorem d_N_wordFlipsFor_52 : decode b_N_wordFlipsFor 52 = .ok (.ifCond .ne 8, 3) := by decide +kernel
theorem d_N_wordFlipsFor_55 : decode b_N_wordFlipsFor 55 = .ok (.lload 7, 2) := by decide +kernel
theorem d_N_wordFlipsFor_57 : decode b_N_wordFlipsFor 57 = .ok (.goto 4, 3) := by decide +kernel
theorem d_N_wordFlipsFor_60 : decode b_N_wordFlipsFor 60 = .ok (.lconst 0, 1) := by decide +kernel
theorem d_N_wordFlipsFor_61 : decode b_N_wordFlipsFor 61 = .ok (.lreturn, 1) := by decide +kernel
theorem d_N_wordFlipsFor_62 : decode b_N_wordFlipsFor 62 = .ok (.iload 4, 2) := by decide +kernel
theorem d_N_wordFlipsFor_64 : decode b_N_wordFlipsFor 64 = .ok (.invokestatic 19, 3) := by decide +kernel
theorem d_N_wordFlipsFor_67 : decode b_N_wordFlipsFor 67 = .ok (.istore 4, 2) := by decide +kernel
theorem d_N_wordFlipsFor_69 : decode b_N_wordFlipsFor 69 = .ok (.iload 5, 2) := by decide +kernel
theorem d_N_wordFlipsFor_71 : decode b_N_wordFlipsFor 71 = .ok (.invokestatic 19, 3) := by decide +kernel
theorem d_N_wordFlipsFor_74 : decode b_N_wordFlipsFor 74 = .ok (.invokestatic 19, 3) := by decide +kernel
theorem d_N_wordFlipsFor_77 : decode b_N_wordFlipsFor 77 = .ok (.istore 5, 2) := by decide +kernel
theorem d_N_wordFlipsFor_79 : decode b_N_wordFlipsFor 79 = .ok (.iinc 6 4, 3) := by decide +kernel
theorem d_N_wordFlipsFor_82 : decode b_N_wordFlipsFor 82 = .ok (.goto (-67), 3) := by decide +kernel
theorem d_N_wordFlipsFor_85 : decode b_N_wordFlipsFor 85 = .ok (.lconst 0, 1) := by decide +kernel
theorem d_N_wordFlipsFor_86 : decode b_N_wordFlipsFor 86 = .ok (.lreturn, 1) := by decide +kernel
abbrev w_N_judge : List Cond := .code y_N_judge b_N_judge 6 (some .int) :: wA
abbrev rm_N_judge : Room := { frames := 2, cells := 0, slots := 0, locals := 49 }
theorem d_N_judge_0 : decode b_N_judge 0 = .ok (.aload_n 2, 1) := by decide +kernel
theorem d_N_judge_1 : decode b_N_judge 1 = .ok (.invokevirtual 23, 3) := by decide +kernel
theorem d_N_judge_4 : decode b_N_judge 4 = .ok (.iload_n 1, 1) := by decide +kernel
theorem d_N_judge_5 : decode b_N_judge 5 = .ok (.ifCond .ne 5, 3) := by decide +kernel
theorem d_N_judge_8 : decode b_N_judge 8 = .ok (.iconst 0, 1) := by decide +kernel
theorem d_N_judge_9 : decode b_N_judge 9 = .ok (.ireturn, 1) := by decide +kernel
theorem d_N_judge_10 : decode b_N_judge 10 = .ok (.iload_n 1, 1) := by decide +kernel
theorem d_N_judge_11 : decode b_N_judge 11 = .ok (.bipush 15, 2) := by decide +kernel
theorem d_N_judge_13 : decode b_N_judge 13 = .ok (.iand, 1) := by decide +kernel
theorem d_N_judge_14 : decode b_N_judge 14 = .ok (.istore_n 3, 1) := by decide +kernel
theorem d_N_judge_15 : decode b_N_judge 15 = .ok (.iload_n 1, 1) := by decide +kernel
theorem d_N_judge_16 : decode b_N_judge 16 = .ok (.iconst 4, 1) := by decide +kernel
theorem d_N_judge_17 : decode b_N_judge 17 = .ok (.iushr, 1) := by decide +kernel
theorem d_N_judge_18 : decode b_N_judge 18 = .ok (.bipush 15, 2) := by decide +kernel
theorem d_N_judge_20 : decode b_N_judge 20 = .ok (.iand, 1) := by decide +kernel
theorem d_N_judge_21 : decode b_N_judge 21 = .ok (.istore 4, 2) := by decide +kernel
theorem d_N_judge_23 : decode b_N_judge 23 = .ok (.iload_n 1, 1) := by decide +kernel
theorem d_N_judge_24 : decode b_N_judge 24 = .ok (.bipush 8, 2) := by decide +kernel
theorem d_N_judge_26 : decode b_N_judge 26 = .ok (.iushr, 1) := by decide +kernel
theorem d_N_judge_27 : decode b_N_judge 27 = .ok (.bipush 15, 2) := by decide +kernel
theorem d_N_judge_29 : decode b_N_judge 29 = .ok (.iand, 1) := by decide +kernel
theorem d_N_judge_30 : decode b_N_judge 30 = .ok (.istore 5, 2) := by decide +kernel
theorem d_N_judge_32 : decode b_N_judge 32 = .ok (.iload_n 1, 1) := by decide +kernel
theorem d_N_judge_33 : decode b_N_judge 33 = .ok (.iload_n 3, 1) := by decide +kernel
theorem d_N_judge_34 : decode b_N_judge 34 = .ok (.if_icmp .eq 20, 3) := by decide +kernel
theorem d_N_judge_37 : decode b_N_judge 37 = .ok (.iload_n 1, 1) := by decide +kernel
theorem d_N_judge_38 : decode b_N_judge 38 = .ok (.iload 4, 2) := by decide +kernel
theorem d_N_judge_40 : decode b_N_judge 40 = .ok (.iconst 4, 1) := by decide +kernel
theorem d_N_judge_41 : decode b_N_judge 41 = .ok (.ishl, 1) := by decide +kernel
theorem d_N_judge_42 : decode b_N_judge 42 = .ok (.if_icmp .eq 12, 3) := by decide +kernel
theorem d_N_judge_45 : decode b_N_judge 45 = .ok (.iload_n 1, 1) := by decide +kernel
theorem d_N_judge_46 : decode b_N_judge 46 = .ok (.iload 5, 2) := by decide +kernel
theorem d_N_judge_48 : decode b_N_judge 48 = .ok (.bipush 8, 2) := by decide +kernel
theorem d_N_judge_50 : decode b_N_judge 50 = .ok (.ishl, 1) := by decide +kernel
theorem d_N_judge_51 : decode b_N_judge 51 = .ok (.if_icmp .ne 10, 3) := by decide +kernel
theorem d_N_judge_54 : decode b_N_judge 54 = .ok (.aload_n 2, 1) := by decide +kernel
theorem d_N_judge_55 : decode b_N_judge 55 = .ok (.iload_n 1, 1) := by decide +kernel
theorem d_N_judge_56 : decode b_N_judge 56 = .ok (.putfield 29, 3) := by decide +kernel
theorem d_N_judge_59 : decode b_N_judge 59 = .ok (.iconst 1, 1) := by decide +kernel
theorem d_N_judge_60 : decode b_N_judge 60 = .ok (.ireturn, 1) := by decide +kernel
theorem d_N_judge_61 : decode b_N_judge 61 = .ok (.aload_n 2, 1) := by decide +kernel
theorem d_N_judge_62 : decode b_N_judge 62 = .ok (.aload_n 0, 1) := by decide +kernel
theorem d_N_judge_63 : decode b_N_judge 63 = .ok (.iload_n 3, 1) := by decide +kernel
theorem d_N_judge_64 : decode b_N_judge 64 = .ok (.iload 4, 2) := by decide +kernel
theorem d_N_judge_66 : decode b_N_judge 66 = .ok (.iload 5, 2) := by decide +kernel
theorem d_N_judge_68 : decode b_N_judge 68 = .ok (.invokevirtual 33, 3) := by decide +kernel
theorem d_N_judge_71 : decode b_N_judge 71 = .ok (.putfield 37, 3) := by decide +kernel
theorem d_N_judge_74 : decode b_N_judge 74 = .ok (.aload_n 2, 1) := by decide +kernel
theorem d_N_judge_75 : decode b_N_judge 75 = .ok (.getfield 37, 3) := by decide +kernel
theorem d_N_judge_78 : decode b_N_judge 78 = .ok (.lconst 0, 1) := by decide +kernel
theorem d_N_judge_79 : decode b_N_judge 79 = .ok (.lcmp, 1) := by decide +kernel
theorem d_N_judge_80 : decode b_N_judge 80 = .ok (.ifCond .ne 7, 3) := by decide +kernel
theorem d_N_judge_83 : decode b_N_judge 83 = .ok (.iconst 2, 1) := by decide +kernel
theorem d_N_judge_84 : decode b_N_judge 84 = .ok (.goto 4, 3) := by decide +kernel
theorem d_N_judge_87 : decode b_N_judge 87 = .ok (.iconst 1, 1) := by decide +kernel
theorem d_N_judge_88 : decode b_N_judge 88 = .ok (.ireturn, 1) := by decide +kernel
abbrev w_K_columnOf : List Cond := .code y_K_columnOf b_K_columnOf 2 (some .int) :: wA
abbrev rm_K_columnOf : Room := { frames := 0, cells := 0, slots := 0, locals := 0 }
theorem d_K_columnOf_0 : decode b_K_columnOf 0 = .ok (.iload_n 1, 1) := by decide +kernel
theorem d_K_columnOf_1 : decode b_K_columnOf 1 = .ok (.ifCond .lt 21, 3) := by decide +kernel
theorem d_K_columnOf_4 : decode b_K_columnOf 4 = .ok (.iload_n 1, 1) := by decide +kernel
theorem d_K_columnOf_5 : decode b_K_columnOf 5 = .ok (.aload_n 0, 1) := by decide +kernel
theorem d_K_columnOf_6 : decode b_K_columnOf 6 = .ok (.getfield 16, 3) := by decide +kernel
theorem d_K_columnOf_9 : decode b_K_columnOf 9 = .ok (.arraylength, 1) := by decide +kernel
theorem d_K_columnOf_10 : decode b_K_columnOf 10 = .ok (.if_icmp .ge 12, 3) := by decide +kernel
theorem d_K_columnOf_13 : decode b_K_columnOf 13 = .ok (.aload_n 0, 1) := by decide +kernel
theorem d_K_columnOf_14 : decode b_K_columnOf 14 = .ok (.getfield 16, 3) := by decide +kernel
theorem d_K_columnOf_17 : decode b_K_columnOf 17 = .ok (.iload_n 1, 1) := by decide +kernel
theorem d_K_columnOf_18 : decode b_K_columnOf 18 = .ok (.iaload, 1) := by decide +kernel
theorem d_K_columnOf_19 : decode b_K_columnOf 19 = .ok (.goto 4, 3) := by decide +kernel
theorem d_K_columnOf_22 : decode b_K_columnOf 22 = .ok (.iconst 0, 1) := by decide +kernel
theorem d_K_columnOf_23 : decode b_K_columnOf 23 = .ok (.ireturn, 1) := by decide +kernel
abbrev w_K_greatestRowSum : List Cond := .code y_K_greatestRowSum b_K_greatestRowSum 1 (some .int) :: wA
abbrev rm_K_greatestRowSum : Room := { frames := 0, cells := 0, slots := 0, locals := 0 }
theorem d_K_greatestRowSum_0 : decode b_K_greatestRowSum 0 = .ok (.iconst 0, 1) := by decide +kernel
theorem d_K_greatestRowSum_1 : decode b_K_greatestRowSum 1 = .ok (.ireturn, 1) := by decide +kernel
set_option maxHeartbeats 4000000 in
set_option maxRecDepth 100000 in
theorem c_P_marksOf (l : Launch) (D : va_G) (g : Nat → ClassId) (sz : Nat) (ws : va_W) (M R : Nat) (hM57 : M ≤ 57) (hR : R = 1 ∨ R = 2 ∨ R = 3 ∨ R = 4) : Met l y_P_marksOf w_P_marksOf rm_P_marksOf (va_Pc [.int (nI M), .int (nI R)] (pP D (tyl g) (ws) sz)) (va_Qr (fun (u : Unit) => True) (fun u (a : Nat) => qB D (va_A (ws) sz) ((a, .inl (g 0, M, .inl (fun j => nI (if j < M then mkP R j else 0)))) :: ws)) (va_A (ws) sz)) 1 57 (va_A (ws) sz) := by
  refine Met.ofW (cc := b_P_marksOf) (maxL := 5) (ret := (some (.array .int))) (by decide +kernel) rfl ?_
  intro p e s m args below meth c s₁ Bq hml hv
  have hx := Bq.exec
  have hb := Bq.bytes
  have hr := Bq.returns
  have hts : ∀ w ∈ wA, w.before args s = true := fun w h => atoms_spec (ws := w_P_marksOf) Bq.pre w (List.mem_cons_of_mem _ h)
  have hown : s.vm.findClass R_P = some m.cls := findClass_of_methodNamed Bq.named
  have hlocks := Bq.notSynchronized
  obtain ⟨rfl, hsz, hP, hKK, hD0⟩ := hv
  have hK := hKK.1
  subst hsz
  have hD := hD0.self (sz := s.heap.size)
  generalize hAe : va_A (ws) s.heap.size = A at hD ⊢
  have hA : ∀ q : Nat, s.heap.size ≤ q → A q := fun q h => by rw [← hAe]; exact Or.inr h
  have hS : va_S A s.heap s.heap [] := va_S.rf
  have hl := lv_entry ([.int (nI M), .int (nI R)]) (n := 5) (Nat.le_of_ble_eq_true rfl)
  rw [lg_entry_eq]
  generalize (lg_sl ([.int (nI M), .int (nI R)]) ++ List.replicate (5 - (lg_sl ([.int (nI M), .int (nI R)])).length) Slot.unset).toArray = ls at hl ⊢
  have hl : lv_has ls 5 [(0, .int (nI M)), (1, .int (nI R))] := hl
  generalize hQ : MQ below (va_Qr (fun (u : Unit) => True) (fun u (a : Nat) => qB D (A) ((a, .inl (g 0, M, .inl (fun j => nI (if j < M then mkP R j else 0)))) :: ws)) (A)) [.int (nI M), .int (nI R)].toArray s 1 57 A = Q
  have hRc : (headSpec w_P_marksOf rm_P_marksOf).room.cells = 1 := rfl
  have hRs : (headSpec w_P_marksOf rm_P_marksOf).room.slots = 57 := rfl
  refine lv_iload_n hx hb d_P_marksOf_0 rfl (lv_at hl 0 rfl) ?_
  refine lx_newi (N := M) hx hb (hts _ m_115) hK hP hD hS hA (by omega) (Nat.le_of_ble_eq_true rfl) (by first | omega | exact Nat.le_of_ble_eq_true rfl) d_P_marksOf_1 (fun am H hP hD hS => ?_)
  refine W.widen (k := 1) (n := M) (by omega) (by omega) ?_
  have hP : va_P D vwCl ((am, .inl (g 0, M, .inl (fun _ => nI 0))) :: ws) H := hP
  have hD : va_D A ((am, .inl (g 0, M, .inl (fun _ => nI 0))) :: ws) := hD
  have hP : va_P D vwCl ((am, .inl (g 0, M, .inl (fun j => nI (if j < 0 then mkP R j else 0)))) :: ws) H := wp_at 0 hP rfl (fun j hj => rfl)
  have hD : va_D A ((am, .inl (g 0, M, .inl (fun j => nI (if j < 0 then mkP R j else 0)))) :: ws) := hD.set (p := 0) rfl
  have lp9 : ∀ (n : Nat) (k : Nat) (ls : Array Slot) (H : Heap) (locs : List Loc), (M + 1 ≤ k + n) → (k ≤ M) → lv_has ls 5 [(0, .int (nI M)), (1, .int (nI R)), (2, .ref am), (3, .int (nI (k % R))), (4, .int (nI k))] → va_P D vwCl ((am, .inl (g 0, M, .inl (fun j => nI (if j < k then mkP R j else 0)))) :: ws) H → va_D A ((am, .inl (g 0, M, .inl (fun j => nI (if j < k then mkP R j else 0)))) :: ws) → va_S A s.heap H locs → W p l e (headSpec w_P_marksOf rm_P_marksOf).room s m [.int (nI M), .int (nI R)].toArray below meth c H locs 1 M Q (F0 m 9 ls []) := by
    intro n
    induction n with
    | zero => intro k ls H locs hfu hk _ _ _ _; exact absurd hfu (by omega)
    | succ n ih =>
      intro k ls H locs hfu hk hl hP hD hS
      refine lv_iload hx hb d_P_marksOf_9 (lv_at hl 4 rfl) ?_
      refine lv_iload_n hx hb d_P_marksOf_11 rfl (lv_at hl 0 rfl) ?_
      refine lx_icmp_ge (tgt := 43) hx hb d_P_marksOf_12 (by decide) (by omega) (by omega) (fun c12 => ?_) (fun c12 => ?_)
      · skip
        obtain rfl : M = k := by omega
        refine lv_aload_n hx hb d_P_marksOf_43 rfl (lv_at hl 2 rfl) ?_
        refine W.widen (k := 1) (n := 57) (by omega) (by omega) ?_
        rw [← hQ]
        refine W.aret (v := .ref am) hx hb hr (by first | exact Or.inl ⟨_, rfl⟩ | exact Or.inr ⟨_, rfl⟩) (Or.inr ⟨_, rfl⟩) ?_ hS.2.2 d_P_marksOf_44
        exact fun t ht hW => ⟨⟨(), am, rfl, trivial, by rw [ht]; exact hP, hD⟩, hS.F ht⟩
      · skip
        have hm : k % R < R := Nat.mod_lt _ (by omega)
        refine lv_aload_n hx hb d_P_marksOf_15 rfl (lv_at hl 2 rfl) ?_
        refine lv_iload hx hb d_P_marksOf_16 (lv_at hl 4 rfl) ?_
        refine lv_iconst (v := nI 1) hx hb d_P_marksOf_18 (by decide) ?_
        refine lv_iload_n hx hb d_P_marksOf_19 rfl (lv_at hl 3 rfl) ?_
        refine lx_ishl (z := nI (mkP R k)) hx hb d_P_marksOf_20 (xn_shl 1 (by omega)) ?_
        refine lx_iast (f' := fun j => nI (if j < k + 1 then mkP R j else 0)) hx hb hK hP hD hS 0 0 rfl rfl (j := k) (by omega) (by omega) (upd_lt (fun _ => 0) (mkP R) k) d_P_marksOf_21 (fun H locs hP hD hS => ?_)
        have hP : va_P D vwCl ((am, .inl (g 0, M, .inl (fun j => nI (if j < k + 1 then mkP R j else 0)))) :: ws) H := hP
        have hD : va_D A ((am, .inl (g 0, M, .inl (fun j => nI (if j < k + 1 then mkP R j else 0)))) :: ws) := hD
        have j36 : ∀  (ls : Array Slot) (H : Heap) (locs : List Loc), lv_has ls 5 [(0, .int (nI M)), (1, .int (nI R)), (2, .ref am), (4, .int (nI k))] → va_P D vwCl ((am, .inl (g 0, M, .inl (fun j => nI (if j < k + 1 then mkP R j else 0)))) :: ws) H → va_D A ((am, .inl (g 0, M, .inl (fun j => nI (if j < k + 1 then mkP R j else 0)))) :: ws) → va_S A s.heap H locs → W p l e (headSpec w_P_marksOf rm_P_marksOf).room s m [.int (nI M), .int (nI R)].toArray below meth c H locs 1 M Q (F0 m 36 ls [.int (nI ((k + 1) % R))]) := by
          intro  ls H locs  hl hP hD hS
          refine lv_istore_n (lv' := [(3, .int (nI ((k + 1) % R))), (0, .int (nI M)), (1, .int (nI R)), (2, .ref am), (4, .int (nI k))]) hx hb d_P_marksOf_36 rfl hl (by decide) rfl (fun ls hl => ?_)
          refine lv_iinc (v := nI (k + 1)) (lv' := [(4, .int (nI (k + 1))), (3, .int (nI ((k + 1) % R))), (0, .int (nI M)), (1, .int (nI R)), (2, .ref am)]) hx hb d_P_marksOf_37 hl (k := 4) rfl (nI_1 k) (by decide) rfl (fun ls hl => ?_)
          refine lv_goto (tgt := 9) hx hb d_P_marksOf_40 (by decide) ?_
          exact ih (k + 1) _ _ _ (by omega) (by omega) (lv_sub hl [2, 3, 4, 1, 0] rfl) hP hD hS
        refine lv_iload_n hx hb d_P_marksOf_22 rfl (lv_at hl 3 rfl) ?_
        refine lv_iconst (v := nI 1) hx hb d_P_marksOf_23 (by decide) ?_
        refine lx_iadd (z := nI (k % R + 1)) hx hb d_P_marksOf_24 (nI_add (k % R) 1) ?_
        refine lv_iload_n hx hb d_P_marksOf_25 rfl (lv_at hl 1 rfl) ?_
        refine lx_icmp_ge (tgt := 35) hx hb d_P_marksOf_26 (by decide) (by omega) (by omega) (fun c26 => ?_) (fun c26 => ?_)
        · skip
          refine lv_iconst (v := nI 0) hx hb d_P_marksOf_35 (by decide) ?_
          rw [show (0 : Nat) = (k + 1) % R by rw [mod_next hR, if_neg (by omega)]]
          exact j36  _ _ _  (lv_sub hl [0, 1, 2, 4] rfl) hP hD hS
        · skip
          refine lv_iload_n hx hb d_P_marksOf_29 rfl (lv_at hl 3 rfl) ?_
          refine lv_iconst (v := nI 1) hx hb d_P_marksOf_30 (by decide) ?_
          refine lx_iadd (z := nI (k % R + 1)) hx hb d_P_marksOf_31 (nI_add (k % R) 1) ?_
          refine lv_goto (tgt := 36) hx hb d_P_marksOf_32 (by decide) ?_
          rw [show k % R + 1 = (k + 1) % R by rw [mod_next hR, if_pos (by omega)]]
          exact j36  _ _ _  (lv_sub hl [0, 1, 2, 4] rfl) hP hD hS
  refine lv_astore_n (lv' := [(2, .ref am), (0, .int (nI M)), (1, .int (nI R))]) hx hb d_P_marksOf_3 rfl hl (by decide) rfl (fun ls hl => ?_)
  refine lv_iconst (v := nI 0) hx hb d_P_marksOf_4 (by decide) ?_
  refine lv_istore_n (lv' := [(3, .int (nI 0)), (2, .ref am), (0, .int (nI M)), (1, .int (nI R))]) hx hb d_P_marksOf_5 rfl hl (by decide) rfl (fun ls hl => ?_)
  refine lv_iconst (v := nI 0) hx hb d_P_marksOf_6 (by decide) ?_
  refine lv_istore (lv' := [(4, .int (nI 0)), (3, .int (nI 0)), (2, .ref am), (0, .int (nI M)), (1, .int (nI R))]) hx hb d_P_marksOf_7 hl (by decide) rfl (fun ls hl => ?_)
  have hl : lv_has ls 5 [(4, .int (nI 0)), (3, .int (nI (0 % R))), (2, .ref am), (0, .int (nI M)), (1, .int (nI R))] := by rw [Nat.zero_mod]; exact hl
  exact lp9 (M + 1) 0 _ _ _ (by omega) (by omega) (lv_sub hl [3, 4, 2, 1, 0] rfl) hP hD hS
set_option maxHeartbeats 4000000 in
set_option maxRecDepth 100000 in
theorem c_P_init (l : Launch) (D : va_G) (g : Nat → ClassId) (sz : Nat) (ws : va_W) (M R o : Nat) (hM57 : M ≤ 57) (hR : R = 1 ∨ R = 2 ∨ R = 3 ∨ R = 4) : Met l y_P_init w_P_init rm_P_init (va_Pc [.ref o, .int (nI M), .int (nI R)] (pP D (tyl g) ((o, .inr (2, [.int (nI 0), .int (nI 0), .null])) :: ws) sz)) (va_Qv (fun (u : Nat) => True) (fun u => qB D (va_A ((o, .inr (2, [.int (nI 0), .int (nI 0), .null])) :: ws) sz) ((o, .inr (2, [.int (nI M), .int (nI R), .ref u])) :: (u, .inl (g 0, M, .inl (fun j => nI (if j < M then mkP R j else 0)))) :: ws)) (va_A ((o, .inr (2, [.int (nI 0), .int (nI 0), .null])) :: ws) sz)) 1 57 (va_A ((o, .inr (2, [.int (nI 0), .int (nI 0), .null])) :: ws) sz) := by
  refine Met.ofW (cc := b_P_init) (maxL := 3) (ret := none) (by decide +kernel) rfl ?_
  intro p e s m args below meth c s₁ Bq hml hv
  have hx := Bq.exec
  have hb := Bq.bytes
  have hr := Bq.returns
  have hts : ∀ w ∈ wA, w.before args s = true := fun w h => atoms_spec (ws := w_P_init) Bq.pre w (List.mem_cons_of_mem _ h)
  have hown : s.vm.findClass R_P = some m.cls := findClass_of_methodNamed Bq.named
  have hlocks := Bq.notSynchronized
  have hin : meth.name = "<init>" := (name_of_methodNamed Bq.named Bq.method).1
  obtain ⟨rfl, hsz, hP, hKK, hD0⟩ := hv
  have hK := hKK.1
  subst hsz
  have hD := hD0.self (sz := s.heap.size)
  generalize hAe : va_A ((o, .inr (2, [.int (nI 0), .int (nI 0), .null])) :: ws) s.heap.size = A at hD ⊢
  have hA : ∀ q : Nat, s.heap.size ≤ q → A q := fun q h => by rw [← hAe]; exact Or.inr h
  have hS : va_S A s.heap s.heap [] := va_S.rf
  have hl := lv_entry ([.ref o, .int (nI M), .int (nI R)]) (n := 3) (Nat.le_of_ble_eq_true rfl)
  rw [lg_entry_eq]
  generalize (lg_sl ([.ref o, .int (nI M), .int (nI R)]) ++ List.replicate (3 - (lg_sl ([.ref o, .int (nI M), .int (nI R)])).length) Slot.unset).toArray = ls at hl ⊢
  have hl : lv_has ls 3 [(0, .ref o), (1, .int (nI M)), (2, .int (nI R))] := hl
  generalize hQ : MQ below (va_Qv (fun (u : Nat) => True) (fun u => qB D (A) ((o, .inr (2, [.int (nI M), .int (nI R), .ref u])) :: (u, .inl (g 0, M, .inl (fun j => nI (if j < M then mkP R j else 0)))) :: ws)) (A)) [.ref o, .int (nI M), .int (nI R)].toArray s 1 57 A = Q
  have hRc : (headSpec w_P_init rm_P_init).room.cells = 1 := rfl
  have hRs : (headSpec w_P_init rm_P_init).room.slots = 57 := rfl
  refine lv_aload_n hx hb d_P_init_0 rfl (lv_at hl 0 rfl) ?_
  refine lv_iload_n hx hb d_P_init_1 rfl (lv_at hl 1 rfl) ?_
  refine lv_iload_n hx hb d_P_init_2 rfl (lv_at hl 2 rfl) ?_
  refine lv_iload_n hx hb d_P_init_3 rfl (lv_at hl 1 rfl) ?_
  refine lv_iload_n hx hb d_P_init_4 rfl (lv_at hl 2 rfl) ?_
  refine lc_Sr (As := [.int (nI M), .int (nI R)]) (rest := [.int (nI R), .int (nI M), .ref o]) ⟨hx, hb, hml, hown, hts⟩ (c_P_marksOf l D g _ _ M R hM57 hR) (kS 2 hts m_159 m_157 m_158 m_37 (by decide +kernel) ⟨Nat.le_of_ble_eq_true rfl, Nat.le_of_ble_eq_true rfl⟩) hKK hP hD hS hA hl.1 rfl rfl (Nat.le_of_ble_eq_true rfl) d_P_init_5 ⟨Nat.le_of_ble_eq_true rfl, Nat.le_of_ble_eq_true rfl⟩ (fun u am H locs _ hP hD hS => ?_)
  refine W.widen (k := 1) (n := 57) (by omega) (by omega) ?_
  have hP : va_P D vwCl ((am, .inl (g 0, M, .inl (fun j => nI (if j < M then mkP R j else 0)))) :: (o, .inr (2, [.int (nI 0), .int (nI 0), .null])) :: ws) H := hP
  have hD : va_D A ((am, .inl (g 0, M, .inl (fun j => nI (if j < M then mkP R j else 0)))) :: (o, .inr (2, [.int (nI 0), .int (nI 0), .null])) :: ws) := hD
  have hP : va_P D vwCl ((o, .inr (2, [.int (nI 0), .int (nI 0), .null])) :: (am, .inl (g 0, M, .inl (fun j => nI (if j < M then mkP R j else 0)))) :: ws) H := wp_pull [(am, .inl (g 0, M, .inl (fun j => nI (if j < M then mkP R j else 0))))] hP
  have hD : va_D A ((o, .inr (2, [.int (nI 0), .int (nI 0), .null])) :: (am, .inl (g 0, M, .inl (fun j => nI (if j < M then mkP R j else 0)))) :: ws) := wd_pull [(am, .inl (g 0, M, .inl (fun j => nI (if j < M then mkP R j else 0))))] hD
  refine lc_Iv (b := o) (As := [.int (nI M), .int (nI R), .ref am]) (rest := []) ⟨hx, hb, hml, hown, hts⟩ (c_K_init_P l D g _ _ o am (nI M) (nI R)) (kI 3 hts m_131 m_160 m_130 m_32 rfl (by decide +kernel) ⟨Nat.le_of_ble_eq_true rfl, Nat.le_of_ble_eq_true rfl⟩) hKK hP hD hS hA hl.1 rfl rfl (Nat.le_of_ble_eq_true rfl) d_P_init_8 ⟨Nat.le_of_ble_eq_true rfl, Nat.le_of_ble_eq_true rfl⟩ (fun u H locs _ hP hD hS => ?_)
  have hP : va_P D vwCl ((o, .inr (2, [.int (nI M), .int (nI R), .ref am])) :: (am, .inl (g 0, M, .inl (fun j => nI (if j < M then mkP R j else 0)))) :: ws) H := hP
  have hD : va_D A ((o, .inr (2, [.int (nI M), .int (nI R), .ref am])) :: (am, .inl (g 0, M, .inl (fun j => nI (if j < M then mkP R j else 0)))) :: ws) := hD
  rw [← hQ]
  refine W.vret hx hb hr ?_ hS.2.2 d_P_init_11
  exact fun t ht hW => ⟨⟨am, rfl, trivial, by rw [ht]; exact hP, hD⟩, hS.F ht⟩
set_option maxHeartbeats 4000000 in
set_option maxRecDepth 100000 in
theorem c_N_timesG (l : Launch) (D : va_G) (g : Nat → ClassId) (sz : Nat) (ws : va_W) (e0 : Nat) (he0 : e0 < 16) : Met l y_N_timesG w_N_timesG rm_N_timesG (va_Pc [.int (nI e0)] (pP D (tyl g) (ws) sz)) (va_Qi (fun (r : Int32) (u : Unit) => r = nI (tg e0)) (fun u => qB D (va_A (ws) sz) (ws)) (va_A (ws) sz)) 0 0 (va_A (ws) sz) := by
  refine Met.ofW (cc := b_N_timesG) (maxL := 2) (ret := (some .int)) (by decide +kernel) rfl ?_
  intro p e s m args below meth c s₁ Bq hml hv
  have hx := Bq.exec
  have hb := Bq.bytes
  have hr := Bq.returns
  have hts : ∀ w ∈ wA, w.before args s = true := fun w h => atoms_spec (ws := w_N_timesG) Bq.pre w (List.mem_cons_of_mem _ h)
  have hown : s.vm.findClass R_N = some m.cls := findClass_of_methodNamed Bq.named
  have hlocks := Bq.notSynchronized
  obtain ⟨rfl, hsz, hP, hKK, hD0⟩ := hv
  have hK := hKK.1
  subst hsz
  have hD := hD0.self (sz := s.heap.size)
  generalize hAe : va_A (ws) s.heap.size = A at hD ⊢
  have hA : ∀ q : Nat, s.heap.size ≤ q → A q := fun q h => by rw [← hAe]; exact Or.inr h
  have hS : va_S A s.heap s.heap [] := va_S.rf
  have hl := lv_entry ([.int (nI e0)]) (n := 2) (Nat.le_of_ble_eq_true rfl)
  rw [lg_entry_eq]
  generalize (lg_sl ([.int (nI e0)]) ++ List.replicate (2 - (lg_sl ([.int (nI e0)])).length) Slot.unset).toArray = ls at hl ⊢
  have hl : lv_has ls 2 [(0, .int (nI e0))] := hl
  generalize hQ : MQ below (va_Qi (fun (r : Int32) (u : Unit) => r = nI (tg e0)) (fun u => qB D (A) (ws)) (A)) [.int (nI e0)].toArray s 0 0 A = Q
  refine lv_iload_n hx hb d_N_timesG_0 rfl (lv_at hl 0 rfl) ?_
  refine lv_iconst (v := nI 1) hx hb d_N_timesG_1 (by decide) ?_
  refine lx_ishl (z := nI (2 * e0)) hx hb d_N_timesG_2 ((xn_shl e0 (by decide)).trans (by rw [Nat.shiftLeft_eq, Nat.mul_comm])) ?_
  refine lv_istore_n (lv' := [(1, .int (nI (2 * e0))), (0, .int (nI e0))]) hx hb d_N_timesG_3 rfl hl (by decide) rfl (fun ls hl => ?_)
  refine lv_iload_n hx hb d_N_timesG_4 rfl (lv_at hl 0 rfl) ?_
  refine lv_bipush (v := nI 15) hx hb d_N_timesG_5 (by decide) ?_
  refine lx_icmp_le (tgt := 17) hx hb d_N_timesG_7 (by decide) (by omega) (by omega) (fun c7 => ?_) (fun c7 => ?_)
  · skip
    refine lv_iload_n hx hb d_N_timesG_17 rfl (lv_at hl 0 rfl) ?_
    rw [← hQ]
    refine W.iret (v := nI (2 * e0)) hx hb hr ?_ hS.2.2 d_N_timesG_18
    exact fun t ht hW => ⟨⟨nI (2 * e0), (), rfl, (by unfold tg; rw [if_neg (by omega)]), by rw [ht]; exact hP, hD⟩, hS.F ht⟩
  · skip
    refine lv_iload_n hx hb d_N_timesG_10 rfl (lv_at hl 0 rfl) ?_
    refine lv_bipush (v := nI 19) hx hb d_N_timesG_11 (by decide) ?_
    refine lx_ixor (z := nI ((2 * e0) ^^^ 19)) hx hb d_N_timesG_13 (xn_xor (2 * e0) 19) ?_
    refine lv_goto (tgt := 18) hx hb d_N_timesG_14 (by decide) ?_
    rw [← hQ]
    refine W.iret (v := nI ((2 * e0) ^^^ 19)) hx hb hr ?_ hS.2.2 d_N_timesG_18
    exact fun t ht hW => ⟨⟨nI ((2 * e0) ^^^ 19), (), rfl, (by unfold tg; rw [if_pos (by omega)]), by rw [ht]; exact hP, hD⟩, hS.F ht⟩
set_option maxHeartbeats 4000000 in
set_option maxRecDepth 100000 in
theorem c_N_raised (l : Launch) (D : va_G) (g : Nat → ClassId) (sz : Nat) (ws : va_W) (e0 p0 : Nat) (he0 : e0 < 16) (hp0 : p0 < 64) : Met l y_N_raised w_N_raised rm_N_raised (va_Pc [.int (nI e0), .int (nI p0)] (pP D (tyl g) (ws) sz)) (va_Qi (fun (r : Int32) (u : Unit) => r = nI (rz e0 p0)) (fun u => qB D (va_A (ws) sz) (ws)) (va_A (ws) sz)) 0 0 (va_A (ws) sz) := by
  refine Met.ofW (cc := b_N_raised) (maxL := 4) (ret := (some .int)) (by decide +kernel) rfl ?_
  intro p e s m args below meth c s₁ Bq hml hv
  have hx := Bq.exec
  have hb := Bq.bytes
  have hr := Bq.returns
  have hts : ∀ w ∈ wA, w.before args s = true := fun w h => atoms_spec (ws := w_N_raised) Bq.pre w (List.mem_cons_of_mem _ h)
  have hown : s.vm.findClass R_N = some m.cls := findClass_of_methodNamed Bq.named
  have hlocks := Bq.notSynchronized
  obtain ⟨rfl, hsz, hP, hKK, hD0⟩ := hv
  have hK := hKK.1
  subst hsz
  have hD := hD0.self (sz := s.heap.size)
  generalize hAe : va_A (ws) s.heap.size = A at hD ⊢
  have hA : ∀ q : Nat, s.heap.size ≤ q → A q := fun q h => by rw [← hAe]; exact Or.inr h
  have hS : va_S A s.heap s.heap [] := va_S.rf
  have hl := lv_entry ([.int (nI e0), .int (nI p0)]) (n := 4) (Nat.le_of_ble_eq_true rfl)
  rw [lg_entry_eq]
  generalize (lg_sl ([.int (nI e0), .int (nI p0)]) ++ List.replicate (4 - (lg_sl ([.int (nI e0), .int (nI p0)])).length) Slot.unset).toArray = ls at hl ⊢
  have hl : lv_has ls 4 [(0, .int (nI e0)), (1, .int (nI p0))] := hl
  generalize hQ : MQ below (va_Qi (fun (r : Int32) (u : Unit) => r = nI (rz e0 p0)) (fun u => qB D (A) (ws)) (A)) [.int (nI e0), .int (nI p0)].toArray s 0 0 A = Q
  have lp4 : ∀ (n : Nat) (k : Nat) (ls : Array Slot) (H : Heap) (locs : List Loc), (p0 + 1 ≤ k + n) → (k ≤ p0) → lv_has ls 4 [(1, .int (nI p0)), (2, .int (nI (rz e0 k))), (3, .int (nI k))] → va_P D vwCl (ws) H → va_D A (ws) → va_S A s.heap H locs → W p l e (headSpec w_N_raised rm_N_raised).room s m [.int (nI e0), .int (nI p0)].toArray below meth c H locs 0 0 Q (F0 m 4 ls []) := by
    intro n
    induction n with
    | zero => intro k ls H locs hfu hk _ _ _ _; exact absurd hfu (by omega)
    | succ n ih =>
      intro k ls H locs hfu hk hl hP hD hS
      refine lv_iload_n hx hb d_N_raised_4 rfl (lv_at hl 2 rfl) ?_
      refine lv_iload_n hx hb d_N_raised_5 rfl (lv_at hl 0 rfl) ?_
      refine lx_icmp_ge (tgt := 20) hx hb d_N_raised_6 (by decide) (by omega) (by omega) (fun c6 => ?_) (fun c6 => ?_)
      · skip
        refine lv_iload_n hx hb d_N_raised_20 rfl (lv_at hl 1 rfl) ?_
        rw [← hQ]
        refine W.iret (v := nI (rz e0 k)) hx hb hr ?_ hS.2.2 d_N_raised_21
        exact fun t ht hW => ⟨⟨nI (rz e0 k), (), rfl, (by rw [show k = p0 by omega]), by rw [ht]; exact hP, hD⟩, hS.F ht⟩
      · skip
        refine lv_iload_n hx hb d_N_raised_9 rfl (lv_at hl 1 rfl) ?_
        refine lc_Si (As := [.int (nI (rz e0 k))]) (rest := []) ⟨hx, hb, hml, hown, hts⟩ (c_N_timesG l D g _ _ (rz e0 k) (rz_lt he0 k)) (kS 1 hts m_178 m_176 m_177 m_38 (by decide +kernel) ⟨Nat.le_of_ble_eq_true rfl, Nat.le_of_ble_eq_true rfl⟩) hKK hP hD hS hA hl.1 rfl rfl (Nat.le_of_ble_eq_true rfl) d_N_raised_10 ⟨Nat.le_of_ble_eq_true rfl, Nat.le_of_ble_eq_true rfl⟩ (fun r1 u H locs e1 hP hD hS => ?_)
        obtain rfl : r1 = nI (rz e0 (k + 1)) := e1
        refine lv_istore_n (lv' := [(2, .int (nI (rz e0 (k + 1)))), (1, .int (nI p0)), (3, .int (nI k))]) hx hb d_N_raised_13 rfl hl (by decide) rfl (fun ls hl => ?_)
        refine lv_iinc (v := nI (k + 1)) (lv' := [(3, .int (nI (k + 1))), (2, .int (nI (rz e0 (k + 1)))), (1, .int (nI p0))]) hx hb d_N_raised_14 hl (k := 2) rfl (nI_1 k) (by decide) rfl (fun ls hl => ?_)
        refine lv_goto (tgt := 4) hx hb d_N_raised_17 (by decide) ?_
        exact ih (k + 1) _ _ _ (by omega) (by omega) (lv_sub hl [2, 1, 0] rfl) hP hD hS
  refine lv_iload_n hx hb d_N_raised_0 rfl (lv_at hl 0 rfl) ?_
  refine lv_istore_n (lv' := [(2, .int (nI e0)), (0, .int (nI e0)), (1, .int (nI p0))]) hx hb d_N_raised_1 rfl hl (by decide) rfl (fun ls hl => ?_)
  refine lv_iconst (v := nI 0) hx hb d_N_raised_2 (by decide) ?_
  refine lv_istore_n (lv' := [(3, .int (nI 0)), (2, .int (nI e0)), (0, .int (nI e0)), (1, .int (nI p0))]) hx hb d_N_raised_3 rfl hl (by decide) rfl (fun ls hl => ?_)
  have hl : lv_has ls 4 [(3, .int (nI 0)), (2, .int (nI (rz e0 0))), (0, .int (nI e0)), (1, .int (nI p0))] := by rw [show rz e0 0 = e0 from rfl]; exact hl
  exact lp4 (p0 + 1) 0 _ _ _ (by omega) (by omega) (lv_sub hl [3, 1, 0] rfl) hP hD hS
set_option maxHeartbeats 4000000 in
set_option maxRecDepth 100000 in
theorem c_N_marksOf (l : Launch) (D : va_G) (g : Nat → ClassId) (sz : Nat) (ws : va_W) (M : Nat) (hM57 : M ≤ 57) : Met l y_N_marksOf w_N_marksOf rm_N_marksOf (va_Pc [.int (nI M)] (pP D (tyl g) (ws) sz)) (va_Qr (fun (u : Unit) => True) (fun u (a : Nat) => qB D (va_A (ws) sz) ((a, .inl (g 0, M, .inl (fun j => nI (if j < M then mkN j else 0)))) :: ws)) (va_A (ws) sz)) 1 57 (va_A (ws) sz) := by
  refine Met.ofW (cc := b_N_marksOf) (maxL := 7) (ret := (some (.array .int))) (by decide +kernel) rfl ?_
  intro p e s m args below meth c s₁ Bq hml hv
  have hx := Bq.exec
  have hb := Bq.bytes
  have hr := Bq.returns
  have hts : ∀ w ∈ wA, w.before args s = true := fun w h => atoms_spec (ws := w_N_marksOf) Bq.pre w (List.mem_cons_of_mem _ h)
  have hown : s.vm.findClass R_N = some m.cls := findClass_of_methodNamed Bq.named
  have hlocks := Bq.notSynchronized
  obtain ⟨rfl, hsz, hP, hKK, hD0⟩ := hv
  have hK := hKK.1
  subst hsz
  have hD := hD0.self (sz := s.heap.size)
  generalize hAe : va_A (ws) s.heap.size = A at hD ⊢
  have hA : ∀ q : Nat, s.heap.size ≤ q → A q := fun q h => by rw [← hAe]; exact Or.inr h
  have hS : va_S A s.heap s.heap [] := va_S.rf
  have hl := lv_entry ([.int (nI M)]) (n := 7) (Nat.le_of_ble_eq_true rfl)
  rw [lg_entry_eq]
  generalize (lg_sl ([.int (nI M)]) ++ List.replicate (7 - (lg_sl ([.int (nI M)])).length) Slot.unset).toArray = ls at hl ⊢
  have hl : lv_has ls 7 [(0, .int (nI M))] := hl
  generalize hQ : MQ below (va_Qr (fun (u : Unit) => True) (fun u (a : Nat) => qB D (A) ((a, .inl (g 0, M, .inl (fun j => nI (if j < M then mkN j else 0)))) :: ws)) (A)) [.int (nI M)].toArray s 1 57 A = Q
  have hRc : (headSpec w_N_marksOf rm_N_marksOf).room.cells = 1 := rfl
  have hRs : (headSpec w_N_marksOf rm_N_marksOf).room.slots = 57 := rfl
  refine lv_iload_n hx hb d_N_marksOf_0 rfl (lv_at hl 0 rfl) ?_
  refine lx_newi (N := M) hx hb (hts _ m_115) hK hP hD hS hA (by omega) (Nat.le_of_ble_eq_true rfl) (by first | omega | exact Nat.le_of_ble_eq_true rfl) d_N_marksOf_1 (fun am H hP hD hS => ?_)
  refine W.widen (k := 1) (n := M) (by omega) (by omega) ?_
  have hP : va_P D vwCl ((am, .inl (g 0, M, .inl (fun _ => nI 0))) :: ws) H := hP
  have hD : va_D A ((am, .inl (g 0, M, .inl (fun _ => nI 0))) :: ws) := hD
  have hP : va_P D vwCl ((am, .inl (g 0, M, .inl (fun j => nI (if j < 0 then mkN j else 0)))) :: ws) H := wp_at 0 hP rfl (fun j hj => rfl)
  have hD : va_D A ((am, .inl (g 0, M, .inl (fun j => nI (if j < 0 then mkN j else 0)))) :: ws) := hD.set (p := 0) rfl
  have lp6 : ∀ (n : Nat) (k : Nat) (ls : Array Slot) (H : Heap) (locs : List Loc), (M + 1 ≤ k + n) → (k ≤ M) → lv_has ls 7 [(0, .int (nI M)), (1, .ref am), (2, .int (nI k))] → va_P D vwCl ((am, .inl (g 0, M, .inl (fun j => nI (if j < k then mkN j else 0)))) :: ws) H → va_D A ((am, .inl (g 0, M, .inl (fun j => nI (if j < k then mkN j else 0)))) :: ws) → va_S A s.heap H locs → W p l e (headSpec w_N_marksOf rm_N_marksOf).room s m [.int (nI M)].toArray below meth c H locs 1 M Q (F0 m 6 ls []) := by
    intro n
    induction n with
    | zero => intro k ls H locs hfu hk _ _ _ _; exact absurd hfu (by omega)
    | succ n ih =>
      intro k ls H locs hfu hk hl hP hD hS
      refine lv_iload_n hx hb d_N_marksOf_6 rfl (lv_at hl 2 rfl) ?_
      refine lv_iload_n hx hb d_N_marksOf_7 rfl (lv_at hl 0 rfl) ?_
      refine lx_icmp_ge (tgt := 60) hx hb d_N_marksOf_8 (by decide) (by omega) (by omega) (fun c8 => ?_) (fun c8 => ?_)
      · skip
        obtain rfl : M = k := by omega
        refine lv_aload_n hx hb d_N_marksOf_60 rfl (lv_at hl 1 rfl) ?_
        refine W.widen (k := 1) (n := 57) (by omega) (by omega) ?_
        rw [← hQ]
        refine W.aret (v := .ref am) hx hb hr (by first | exact Or.inl ⟨_, rfl⟩ | exact Or.inr ⟨_, rfl⟩) (Or.inr ⟨_, rfl⟩) ?_ hS.2.2 d_N_marksOf_61
        exact fun t ht hW => ⟨⟨(), am, rfl, trivial, by rw [ht]; exact hP, hD⟩, hS.F ht⟩
      · skip
        have h1 : 1 <<< (k % 4) < 16 := by rcases (show k % 4 = 0 ∨ k % 4 = 1 ∨ k % 4 = 2 ∨ k % 4 = 3 by omega) with h | h | h | h <;> rw [h] <;> decide
        refine lv_iload_n hx hb d_N_marksOf_11 rfl (lv_at hl 2 rfl) ?_
        refine lv_iconst (v := nI 4) hx hb d_N_marksOf_12 (by decide) ?_
        refine lx_idiv (z := nI (k / 4)) hx hb d_N_marksOf_13 (by decide) (pk_div (by omega) (by decide) (by decide)) ?_
        refine lv_istore_n (lv' := [(3, .int (nI (k / 4))), (0, .int (nI M)), (1, .ref am), (2, .int (nI k))]) hx hb d_N_marksOf_14 rfl hl (by decide) rfl (fun ls hl => ?_)
        refine lv_iconst (v := nI 1) hx hb d_N_marksOf_15 (by decide) ?_
        refine lv_iload_n hx hb d_N_marksOf_16 rfl (lv_at hl 3 rfl) ?_
        refine lv_iconst (v := nI 4) hx hb d_N_marksOf_17 (by decide) ?_
        refine lx_irem (z := nI (k % 4)) hx hb d_N_marksOf_18 (by decide) (pk_rem (by omega) (by decide) (by decide)) ?_
        refine lx_ishl (z := nI (1 <<< (k % 4))) hx hb d_N_marksOf_19 (xn_shl 1 (by omega)) ?_
        refine lv_istore (lv' := [(4, .int (nI (1 <<< (k % 4)))), (3, .int (nI (k / 4))), (0, .int (nI M)), (1, .ref am), (2, .int (nI k))]) hx hb d_N_marksOf_20 hl (by decide) rfl (fun ls hl => ?_)
        refine lv_iload hx hb d_N_marksOf_22 (lv_at hl 0 rfl) ?_
        refine lv_iload_n hx hb d_N_marksOf_24 rfl (lv_at hl 1 rfl) ?_
        refine lc_Si (As := [.int (nI (1 <<< (k % 4))), .int (nI (k / 4))]) (rest := []) ⟨hx, hb, hml, hown, hts⟩ (c_N_raised l D g _ _ (1 <<< (k % 4)) (k / 4) h1 (by omega)) (kS 2 hts m_175 m_173 m_174 m_38 (by decide +kernel) ⟨Nat.le_of_ble_eq_true rfl, Nat.le_of_ble_eq_true rfl⟩) hKK hP hD hS hA hl.1 rfl rfl (Nat.le_of_ble_eq_true rfl) d_N_marksOf_25 ⟨Nat.le_of_ble_eq_true rfl, by first | omega | exact Nat.le_of_ble_eq_true rfl⟩ (fun r1 u H locs e1 hP hD hS => ?_)
        obtain rfl : r1 = nI (rz (1 <<< (k % 4)) (k / 4)) := e1
        refine lv_istore (lv' := [(5, .int (nI (rz (1 <<< (k % 4)) (k / 4)))), (4, .int (nI (1 <<< (k % 4)))), (3, .int (nI (k / 4))), (0, .int (nI M)), (1, .ref am), (2, .int (nI k))]) hx hb d_N_marksOf_28 hl (by decide) rfl (fun ls hl => ?_)
        refine lv_iload hx hb d_N_marksOf_30 (lv_at hl 0 rfl) ?_
        refine lv_iload_n hx hb d_N_marksOf_32 rfl (lv_at hl 2 rfl) ?_
        refine lc_Si (As := [.int (nI (rz (1 <<< (k % 4)) (k / 4))), .int (nI (k / 4))]) (rest := []) ⟨hx, hb, hml, hown, hts⟩ (c_N_raised l D g _ _ (rz (1 <<< (k % 4)) (k / 4)) (k / 4) (rz_lt h1 _) (by omega)) (kS 2 hts m_175 m_173 m_174 m_38 (by decide +kernel) ⟨Nat.le_of_ble_eq_true rfl, Nat.le_of_ble_eq_true rfl⟩) hKK hP hD hS hA hl.1 rfl rfl (Nat.le_of_ble_eq_true rfl) d_N_marksOf_33 ⟨Nat.le_of_ble_eq_true rfl, by first | omega | exact Nat.le_of_ble_eq_true rfl⟩ (fun r2 u H locs e2 hP hD hS => ?_)
        obtain rfl : r2 = nI (rz (rz (1 <<< (k % 4)) (k / 4)) (k / 4)) := e2
        refine lv_istore (lv' := [(6, .int (nI (rz (rz (1 <<< (k % 4)) (k / 4)) (k / 4)))), (5, .int (nI (rz (1 <<< (k % 4)) (k / 4)))), (4, .int (nI (1 <<< (k % 4)))), (3, .int (nI (k / 4))), (0, .int (nI M)), (1, .ref am), (2, .int (nI k))]) hx hb d_N_marksOf_36 hl (by decide) rfl (fun ls hl => ?_)
        refine lv_aload_n hx hb d_N_marksOf_38 rfl (lv_at hl 5 rfl) ?_
        refine lv_iload_n hx hb d_N_marksOf_39 rfl (lv_at hl 6 rfl) ?_
        refine lv_iload hx hb d_N_marksOf_40 (lv_at hl 2 rfl) ?_
        refine lv_iload hx hb d_N_marksOf_42 (lv_at hl 1 rfl) ?_
        refine lv_iconst (v := nI 4) hx hb d_N_marksOf_44 (by decide) ?_
        refine lx_ishl (z := nI (rz (1 <<< (k % 4)) (k / 4) <<< 4)) hx hb d_N_marksOf_45 (xn_shl _ (by decide)) ?_
        refine lx_ior (z := nI ((1 <<< (k % 4)) ||| (rz (1 <<< (k % 4)) (k / 4) <<< 4))) hx hb d_N_marksOf_46 (xn_or (1 <<< (k % 4)) (rz (1 <<< (k % 4)) (k / 4) <<< 4)) ?_
        refine lv_iload hx hb d_N_marksOf_47 (lv_at hl 0 rfl) ?_
        refine lv_bipush (v := nI 8) hx hb d_N_marksOf_49 (by decide) ?_
        refine lx_ishl (z := nI (rz (rz (1 <<< (k % 4)) (k / 4)) (k / 4) <<< 8)) hx hb d_N_marksOf_51 (xn_shl _ (by decide)) ?_
        refine lx_ior (z := nI (mkN k)) hx hb d_N_marksOf_52 (xn_or _ _) ?_
        refine lx_iast (f' := fun j => nI (if j < k + 1 then mkN j else 0)) hx hb hK hP hD hS 0 0 rfl rfl (j := k) (by omega) (by omega) (upd_lt (fun _ => 0) mkN k) d_N_marksOf_53 (fun H locs hP hD hS => ?_)
        have hP : va_P D vwCl ((am, .inl (g 0, M, .inl (fun j => nI (if j < k + 1 then mkN j else 0)))) :: ws) H := hP
        have hD : va_D A ((am, .inl (g 0, M, .inl (fun j => nI (if j < k + 1 then mkN j else 0)))) :: ws) := hD
        refine lv_iinc (v := nI (k + 1)) (lv' := [(2, .int (nI (k + 1))), (6, .int (nI (rz (rz (1 <<< (k % 4)) (k / 4)) (k / 4)))), (5, .int (nI (rz (1 <<< (k % 4)) (k / 4)))), (4, .int (nI (1 <<< (k % 4)))), (3, .int (nI (k / 4))), (0, .int (nI M)), (1, .ref am)]) hx hb d_N_marksOf_54 hl (k := 6) rfl (nI_1 k) (by decide) rfl (fun ls hl => ?_)
        refine lv_goto (tgt := 6) hx hb d_N_marksOf_57 (by decide) ?_
        exact ih (k + 1) _ _ _ (by omega) (by omega) (lv_sub hl [5, 6, 0] rfl) hP hD hS
  refine lv_astore_n (lv' := [(1, .ref am), (0, .int (nI M))]) hx hb d_N_marksOf_3 rfl hl (by decide) rfl (fun ls hl => ?_)
  refine lv_iconst (v := nI 0) hx hb d_N_marksOf_4 (by decide) ?_
  refine lv_istore_n (lv' := [(2, .int (nI 0)), (1, .ref am), (0, .int (nI M))]) hx hb d_N_marksOf_5 rfl hl (by decide) rfl (fun ls hl => ?_)
  exact lp6 (M + 1) 0 _ _ _ (by omega) (by omega) (lv_sub hl [2, 1, 0] rfl) hP hD hS
set_option maxHeartbeats 4000000 in
set_option maxRecDepth 100000 in
theorem c_N_init (l : Launch) (D : va_G) (g : Nat → ClassId) (sz : Nat) (ws : va_W) (M o : Nat) (hM57 : M ≤ 57) : Met l y_N_init w_N_init rm_N_init (va_Pc [.ref o, .int (nI M)] (pP D (tyl g) ((o, .inr (3, [.int (nI 0), .int (nI 0), .null])) :: ws) sz)) (va_Qv (fun (u : Nat) => True) (fun u => qB D (va_A ((o, .inr (3, [.int (nI 0), .int (nI 0), .null])) :: ws) sz) ((o, .inr (3, [.int (nI M), .int (nI 12), .ref u])) :: (u, .inl (g 0, M, .inl (fun j => nI (if j < M then mkN j else 0)))) :: ws)) (va_A ((o, .inr (3, [.int (nI 0), .int (nI 0), .null])) :: ws) sz)) 1 57 (va_A ((o, .inr (3, [.int (nI 0), .int (nI 0), .null])) :: ws) sz) := by
  refine Met.ofW (cc := b_N_init) (maxL := 2) (ret := none) (by decide +kernel) rfl ?_
  intro p e s m args below meth c s₁ Bq hml hv
  have hx := Bq.exec
  have hb := Bq.bytes
  have hr := Bq.returns
  have hts : ∀ w ∈ wA, w.before args s = true := fun w h => atoms_spec (ws := w_N_init) Bq.pre w (List.mem_cons_of_mem _ h)
  have hown : s.vm.findClass R_N = some m.cls := findClass_of_methodNamed Bq.named
  have hlocks := Bq.notSynchronized
  have hin : meth.name = "<init>" := (name_of_methodNamed Bq.named Bq.method).1
  obtain ⟨rfl, hsz, hP, hKK, hD0⟩ := hv
  have hK := hKK.1
  subst hsz
  have hD := hD0.self (sz := s.heap.size)
  generalize hAe : va_A ((o, .inr (3, [.int (nI 0), .int (nI 0), .null])) :: ws) s.heap.size = A at hD ⊢
  have hA : ∀ q : Nat, s.heap.size ≤ q → A q := fun q h => by rw [← hAe]; exact Or.inr h
  have hS : va_S A s.heap s.heap [] := va_S.rf
  have hl := lv_entry ([.ref o, .int (nI M)]) (n := 2) (Nat.le_of_ble_eq_true rfl)
  rw [lg_entry_eq]
  generalize (lg_sl ([.ref o, .int (nI M)]) ++ List.replicate (2 - (lg_sl ([.ref o, .int (nI M)])).length) Slot.unset).toArray = ls at hl ⊢
  have hl : lv_has ls 2 [(0, .ref o), (1, .int (nI M))] := hl
  generalize hQ : MQ below (va_Qv (fun (u : Nat) => True) (fun u => qB D (A) ((o, .inr (3, [.int (nI M), .int (nI 12), .ref u])) :: (u, .inl (g 0, M, .inl (fun j => nI (if j < M then mkN j else 0)))) :: ws)) (A)) [.ref o, .int (nI M)].toArray s 1 57 A = Q
  have hRc : (headSpec w_N_init rm_N_init).room.cells = 1 := rfl
  have hRs : (headSpec w_N_init rm_N_init).room.slots = 57 := rfl
  refine lv_aload_n hx hb d_N_init_0 rfl (lv_at hl 0 rfl) ?_
  refine lv_iload_n hx hb d_N_init_1 rfl (lv_at hl 1 rfl) ?_
  refine lv_bipush (v := nI 12) hx hb d_N_init_2 (by decide) ?_
  refine lv_iload_n hx hb d_N_init_4 rfl (lv_at hl 1 rfl) ?_
  refine lc_Sr (As := [.int (nI M)]) (rest := [.int (nI 12), .int (nI M), .ref o]) ⟨hx, hb, hml, hown, hts⟩ (c_N_marksOf l D g _ _ M hM57) (kS 1 hts m_172 m_170 m_171 m_38 (by decide +kernel) ⟨Nat.le_of_ble_eq_true rfl, Nat.le_of_ble_eq_true rfl⟩) hKK hP hD hS hA hl.1 rfl rfl (Nat.le_of_ble_eq_true rfl) d_N_init_5 ⟨Nat.le_of_ble_eq_true rfl, Nat.le_of_ble_eq_true rfl⟩ (fun u am H locs _ hP hD hS => ?_)
  refine W.widen (k := 1) (n := 57) (by omega) (by omega) ?_
  have hP : va_P D vwCl ((am, .inl (g 0, M, .inl (fun j => nI (if j < M then mkN j else 0)))) :: (o, .inr (3, [.int (nI 0), .int (nI 0), .null])) :: ws) H := hP
  have hD : va_D A ((am, .inl (g 0, M, .inl (fun j => nI (if j < M then mkN j else 0)))) :: (o, .inr (3, [.int (nI 0), .int (nI 0), .null])) :: ws) := hD
  have hP : va_P D vwCl ((o, .inr (3, [.int (nI 0), .int (nI 0), .null])) :: (am, .inl (g 0, M, .inl (fun j => nI (if j < M then mkN j else 0)))) :: ws) H := wp_pull [(am, .inl (g 0, M, .inl (fun j => nI (if j < M then mkN j else 0))))] hP
  have hD : va_D A ((o, .inr (3, [.int (nI 0), .int (nI 0), .null])) :: (am, .inl (g 0, M, .inl (fun j => nI (if j < M then mkN j else 0)))) :: ws) := wd_pull [(am, .inl (g 0, M, .inl (fun j => nI (if j < M then mkN j else 0))))] hD
  refine lc_Iv (b := o) (As := [.int (nI M), .int (nI 12), .ref am]) (rest := []) ⟨hx, hb, hml, hown, hts⟩ (c_K_init_N l D g _ _ o am (nI M) (nI 12)) (kI 3 hts m_131 m_179 m_130 m_32 rfl (by decide +kernel) ⟨Nat.le_of_ble_eq_true rfl, Nat.le_of_ble_eq_true rfl⟩) hKK hP hD hS hA hl.1 rfl rfl (Nat.le_of_ble_eq_true rfl) d_N_init_8 ⟨Nat.le_of_ble_eq_true rfl, Nat.le_of_ble_eq_true rfl⟩ (fun u H locs _ hP hD hS => ?_)
  have hP : va_P D vwCl ((o, .inr (3, [.int (nI M), .int (nI 12), .ref am])) :: (am, .inl (g 0, M, .inl (fun j => nI (if j < M then mkN j else 0)))) :: ws) H := hP
  have hD : va_D A ((o, .inr (3, [.int (nI M), .int (nI 12), .ref am])) :: (am, .inl (g 0, M, .inl (fun j => nI (if j < M then mkN j else 0)))) :: ws) := hD
  rw [← hQ]
  refine W.vret hx hb hr ?_ hS.2.2 d_N_init_11
  exact fun t ht hW => ⟨⟨am, rfl, trivial, by rw [ht]; exact hP, hD⟩, hS.F ht⟩
set_option maxHeartbeats 4000000 in
set_option maxRecDepth 100000 in
theorem c_P_judge (l : Launch) (D : va_G) (g : Nat → ClassId) (sz : Nat) (wr : va_W) (o t y : Nat) (a0 : Int64) (b0 : Int32) (hy : y < 2 ^ 31) : Met l y_P_judge w_P_judge rm_P_judge (va_Pc [.ref o, .int (nI y), .ref t] (pP D (tyl g) ((t, .inr (5, [.long (a0), .int (b0)])) :: wr) sz)) (va_Qi (fun (r : Int32) (u : Unit) => r = nI (jdP y).1) (fun u => qB D (va_A ((t, .inr (5, [.long (a0), .int (b0)])) :: wr) sz) ((t, .inr (5, [.long (lN (jdP y).2.1), .int (nI (jdP y).2.2)])) :: wr)) (va_A ((t, .inr (5, [.long (a0), .int (b0)])) :: wr) sz)) 0 0 (va_A ((t, .inr (5, [.long (a0), .int (b0)])) :: wr) sz) := by
  refine Met.ofW (cc := b_P_judge) (maxL := 3) (ret := (some .int)) (by decide +kernel) rfl ?_
  intro p e s m args below meth c s₁ Bq hml hv
  have hx := Bq.exec
  have hb := Bq.bytes
  have hr := Bq.returns
  have hts : ∀ w ∈ wA, w.before args s = true := fun w h => atoms_spec (ws := w_P_judge) Bq.pre w (List.mem_cons_of_mem _ h)
  have hown : s.vm.findClass R_P = some m.cls := findClass_of_methodNamed Bq.named
  have hlocks := Bq.notSynchronized
  obtain ⟨rfl, hsz, hP, hKK, hD0⟩ := hv
  have hK := hKK.1
  subst hsz
  have hD := hD0.self (sz := s.heap.size)
  generalize hAe : va_A ((t, .inr (5, [.long (a0), .int (b0)])) :: wr) s.heap.size = A at hD ⊢
  have hA : ∀ q : Nat, s.heap.size ≤ q → A q := fun q h => by rw [← hAe]; exact Or.inr h
  have hS : va_S A s.heap s.heap [] := va_S.rf
  have hl := lv_entry ([.ref o, .int (nI y), .ref t]) (n := 3) (Nat.le_of_ble_eq_true rfl)
  rw [lg_entry_eq]
  generalize (lg_sl ([.ref o, .int (nI y), .ref t]) ++ List.replicate (3 - (lg_sl ([.ref o, .int (nI y), .ref t])).length) Slot.unset).toArray = ls at hl ⊢
  have hl : lv_has ls 3 [(0, .ref o), (1, .int (nI y)), (2, .ref t)] := hl
  generalize hQ : MQ below (va_Qi (fun (r : Int32) (u : Unit) => r = nI (jdP y).1) (fun u => qB D (A) ((t, .inr (5, [.long (lN (jdP y).2.1), .int (nI (jdP y).2.2)])) :: wr)) (A)) [.ref o, .int (nI y), .ref t].toArray s 0 0 A = Q
  refine lv_aload_n hx hb d_P_judge_0 rfl (lv_at hl 2 rfl) ?_
  refine lc_Vv (b := t) (As := []) (rest := []) ⟨hx, hb, hml, hown, hts⟩ (c_T_clear l D g _ t a0 b0 wr) (kV 0 hts m_455 m_463 m_453 m_454 m_39 (by decide +kernel) ⟨Nat.le_of_ble_eq_true rfl, Nat.le_of_ble_eq_true rfl⟩) (va_recv hK hP (ci := 5) (q0 := 0) rfl rfl) hKK hP hD hS hA hl.1 rfl rfl (Nat.le_of_ble_eq_true rfl) d_P_judge_1 ⟨Nat.le_of_ble_eq_true rfl, Nat.le_of_ble_eq_true rfl⟩ (fun u H locs _ hP hD hS => ?_)
  have hP : va_P D vwCl ((t, .inr (5, [.long (lN 0), .int (nI 0)])) :: wr) H := hP
  have hD : va_D A ((t, .inr (5, [.long (lN 0), .int (nI 0)])) :: wr) := hD
  refine lv_iload_n hx hb d_P_judge_4 rfl (lv_at hl 1 rfl) ?_
  refine lx_if_ne (tgt := 12) hx hb d_P_judge_5 (by decide) (by omega) (fun c5 => ?_) (fun c5 => ?_)
  · skip
    have ej : jdP y = (2, 0, 0) := by unfold jdP; rw [if_neg c5]
    rw [ej] at hQ
    refine lv_iconst (v := nI 2) hx hb d_P_judge_12 (by decide) ?_
    rw [← hQ]
    refine W.iret (v := nI 2) hx hb hr ?_ hS.2.2 d_P_judge_13
    exact fun t ht hW => ⟨⟨nI 2, (), rfl, rfl, by rw [ht]; exact hP, hD⟩, hS.F ht⟩
  · skip
    have ej : jdP y = (0, 0, 0) := by unfold jdP; rw [if_pos c5]
    rw [ej] at hQ
    refine lv_iconst (v := nI 0) hx hb d_P_judge_8 (by decide) ?_
    refine lv_goto (tgt := 13) hx hb d_P_judge_9 (by decide) ?_
    rw [← hQ]
    refine W.iret (v := nI 0) hx hb hr ?_ hS.2.2 d_P_judge_13
    exact fun t ht hW => ⟨⟨nI 0, (), rfl, rfl, by rw [ht]; exact hP, hD⟩, hS.F ht⟩
set_option maxHeartbeats 4000000 in
set_option maxRecDepth 100000 in
theorem c_N_wordFlipsFor (l : Launch) (D : va_G) (g : Nat → ClassId) (sz : Nat) (ws : va_W) (k0 o x2 M s0 t0 u0 : Nat) (x1 : Int32) (h0 : ws[k0]? = some (o, .inr (3, [.int (nI M), .int (x1), .ref x2]))) (hM57 : M ≤ 57) (hs : s0 < 16) (ht0 : t0 < 16) (hu0 : u0 < 16) : Met l y_N_wordFlipsFor w_N_wordFlipsFor rm_N_wordFlipsFor (va_Pc [.ref o, .int (nI s0), .int (nI t0), .int (nI u0)] (pP D (tyl g) (ws) sz)) (va_Ql (fun (r : Int64) (u : Unit) => r = lN (wfN M s0 t0 u0)) (fun u => qB D (va_A (ws) sz) (ws)) (va_A (ws) sz)) 0 0 (va_A (ws) sz) := by
  refine Met.ofW (cc := b_N_wordFlipsFor) (maxL := 9) (ret := (some .long)) (by decide +kernel) rfl ?_
  intro p e s m args below meth c s₁ Bq hml hv
  have hx := Bq.exec
  have hb := Bq.bytes
  have hr := Bq.returns
  have hts : ∀ w ∈ wA, w.before args s = true := fun w h => atoms_spec (ws := w_N_wordFlipsFor) Bq.pre w (List.mem_cons_of_mem _ h)
  have hown : s.vm.findClass R_N = some m.cls := findClass_of_methodNamed Bq.named
  have hlocks := Bq.notSynchronized
  obtain ⟨rfl, hsz, hP, hKK, hD0⟩ := hv
  have hK := hKK.1
  subst hsz
  have hD := hD0.self (sz := s.heap.size)
  generalize hAe : va_A (ws) s.heap.size = A at hD ⊢
  have hA : ∀ q : Nat, s.heap.size ≤ q → A q := fun q h => by rw [← hAe]; exact Or.inr h
  have hS : va_S A s.heap s.heap [] := va_S.rf
  have hl := lv_entry ([.ref o, .int (nI s0), .int (nI t0), .int (nI u0)]) (n := 9) (Nat.le_of_ble_eq_true rfl)
  rw [lg_entry_eq]
  generalize (lg_sl ([.ref o, .int (nI s0), .int (nI t0), .int (nI u0)]) ++ List.replicate (9 - (lg_sl ([.ref o, .int (nI s0), .int (nI t0), .int (nI u0)])).length) Slot.unset).toArray = ls at hl ⊢
  have hl : lv_has ls 9 [(0, .ref o), (1, .int (nI s0)), (2, .int (nI t0)), (3, .int (nI u0))] := hl
  generalize hQ : MQ below (va_Ql (fun (r : Int64) (u : Unit) => r = lN (wfN M s0 t0 u0)) (fun u => qB D (A) (ws)) (A)) [.ref o, .int (nI s0), .int (nI t0), .int (nI u0)].toArray s 0 0 A = Q
  refine lv_iload_n hx hb d_N_wordFlipsFor_0 rfl (lv_at hl 1 rfl) ?_
  refine lx_if_ne (tgt := 6) hx hb d_N_wordFlipsFor_1 (by decide) (by omega) (fun c1 => ?_) (fun c1 => ?_)
  · skip
    have lp15 : ∀ (n : Nat) (j : Nat) (ls : Array Slot) (H : Heap) (locs : List Loc), (16 ≤ j + n) → (j ≤ 15) → (wfL M s0 t0 u0 n j = wfN M s0 t0 u0) → lv_has ls 9 [(0, .ref o), (1, .int (nI s0)), (2, .int (nI t0)), (3, .int (nI u0)), (4, .int (nI (rz s0 j))), (5, .int (nI (rz s0 (2 * j)))), (6, .int (nI (4 * j)))] → va_P D vwCl (ws) H → va_D A (ws) → va_S A s.heap H locs → W p l e (headSpec w_N_wordFlipsFor rm_N_wordFlipsFor).room s m [.ref o, .int (nI s0), .int (nI t0), .int (nI u0)].toArray below meth c H locs 0 0 Q (F0 m 15 ls []) := by
      intro n
      induction n with
      | zero => intro j ls H locs hfu hj hQ9 _ _ _ _; exact absurd hfu (by omega)
      | succ n ih =>
        intro j ls H locs hfu hj hQ9 hl hP hD hS
        have hz1 := rz_lt hs j
        have hz2 := rz_lt hs (2 * j)
        have hz3 := rz_lt hs (2 * j + 1)
        refine lv_iload hx hb d_N_wordFlipsFor_15 (lv_at hl 6 rfl) ?_
        refine lv_aload_n hx hb d_N_wordFlipsFor_17 rfl (lv_at hl 0 rfl) ?_
        refine va_get (D := D) (ci := 3) (v := .int (nI M)) (C := R_N) (T := F_N) (N := 3) hx hb hts i_N hown hK hP k0 h0 rfl 0 (by decide) (hts _ m_135) (fun x9 h9 => u_same (hts _ m_136) x9 h9) rfl d_N_wordFlipsFor_18 ?_
        refine lx_icmp_ge (tgt := 85) hx hb d_N_wordFlipsFor_21 (by decide) (by omega) (by omega) (fun c21 => ?_) (fun c21 => ?_)
        · skip
          refine lv_lconst (v := lN 0) hx hb d_N_wordFlipsFor_85 (by decide) ?_
          rw [← hQ]
          refine W.lret (v := lN 0) hx hb hr ?_ hS.2.2 d_N_wordFlipsFor_86
          exact fun t ht hW => ⟨⟨lN 0, (), rfl, (by rw [← hQ9, wfL_end (by omega)]), by rw [ht]; exact hP, hD⟩, hS.F ht⟩
        · skip
          refine lv_iload hx hb d_N_wordFlipsFor_24 (lv_at hl 4 rfl) ?_
          refine lv_iload_n hx hb d_N_wordFlipsFor_26 rfl (lv_at hl 2 rfl) ?_
          refine lx_icmp_ne (tgt := 62) hx hb d_N_wordFlipsFor_27 (by decide) (by omega) (by omega) (fun c27 => ?_) (fun c27 => ?_)
          · skip
            refine lv_iload hx hb d_N_wordFlipsFor_62 (lv_at hl 4 rfl) ?_
            refine lc_Si (As := [.int (nI (rz s0 j))]) (rest := []) ⟨hx, hb, hml, hown, hts⟩ (c_N_timesG l D g _ _ (rz s0 j) hz1) (kS 1 hts m_178 m_176 m_177 m_38 (by decide +kernel) ⟨Nat.le_of_ble_eq_true rfl, Nat.le_of_ble_eq_true rfl⟩) hKK hP hD hS hA hl.1 rfl rfl (Nat.le_of_ble_eq_true rfl) d_N_wordFlipsFor_64 ⟨Nat.le_of_ble_eq_true rfl, Nat.le_of_ble_eq_true rfl⟩ (fun r1 u H locs e1 hP hD hS => ?_)
            obtain rfl : r1 = nI (rz s0 (j + 1)) := e1
            refine lv_istore (lv' := [(4, .int (nI (rz s0 (j + 1)))), (0, .ref o), (1, .int (nI s0)), (2, .int (nI t0)), (3, .int (nI u0)), (5, .int (nI (rz s0 (2 * j)))), (6, .int (nI (4 * j)))]) hx hb d_N_wordFlipsFor_67 hl (by decide) rfl (fun ls hl => ?_)
            refine lv_iload hx hb d_N_wordFlipsFor_69 (lv_at hl 5 rfl) ?_
            refine lc_Si (As := [.int (nI (rz s0 (2 * j)))]) (rest := []) ⟨hx, hb, hml, hown, hts⟩ (c_N_timesG l D g _ _ (rz s0 (2 * j)) hz2) (kS 1 hts m_178 m_176 m_177 m_38 (by decide +kernel) ⟨Nat.le_of_ble_eq_true rfl, Nat.le_of_ble_eq_true rfl⟩) hKK hP hD hS hA hl.1 rfl rfl (Nat.le_of_ble_eq_true rfl) d_N_wordFlipsFor_71 ⟨Nat.le_of_ble_eq_true rfl, Nat.le_of_ble_eq_true rfl⟩ (fun r2 u H locs e2 hP hD hS => ?_)
            obtain rfl : r2 = nI (rz s0 (2 * j + 1)) := e2
            refine lc_Si (As := [.int (nI (rz s0 (2 * j + 1)))]) (rest := []) ⟨hx, hb, hml, hown, hts⟩ (c_N_timesG l D g _ _ (rz s0 (2 * j + 1)) hz3) (kS 1 hts m_178 m_176 m_177 m_38 (by decide +kernel) ⟨Nat.le_of_ble_eq_true rfl, Nat.le_of_ble_eq_true rfl⟩) hKK hP hD hS hA hl.1 rfl rfl (Nat.le_of_ble_eq_true rfl) d_N_wordFlipsFor_74 ⟨Nat.le_of_ble_eq_true rfl, Nat.le_of_ble_eq_true rfl⟩ (fun r3 u H locs e3 hP hD hS => ?_)
            obtain rfl : r3 = nI (rz s0 (2 * (j + 1))) := e3
            refine lv_istore (lv' := [(5, .int (nI (rz s0 (2 * (j + 1))))), (4, .int (nI (rz s0 (j + 1)))), (0, .ref o), (1, .int (nI s0)), (2, .int (nI t0)), (3, .int (nI u0)), (6, .int (nI (4 * j)))]) hx hb d_N_wordFlipsFor_77 hl (by decide) rfl (fun ls hl => ?_)
            refine lv_iinc (v := nI (4 * (j + 1))) (lv' := [(6, .int (nI (4 * (j + 1)))), (5, .int (nI (rz s0 (2 * (j + 1))))), (4, .int (nI (rz s0 (j + 1)))), (0, .ref o), (1, .int (nI s0)), (2, .int (nI t0)), (3, .int (nI u0))]) hx hb d_N_wordFlipsFor_79 hl (k := 6) rfl (nI_add _ 4) (by decide) rfl (fun ls hl => ?_)
            refine lv_goto (tgt := 15) hx hb d_N_wordFlipsFor_82 (by decide) ?_
            rw [wfL_next c21 (fun q => c27 (by omega))] at hQ9
            exact ih (j + 1) _ _ _ (by omega) (by omega) (hQ9) (lv_sub hl [3, 4, 5, 6, 2, 1, 0] rfl) hP hD hS
          · skip
            refine lv_iload hx hb d_N_wordFlipsFor_30 (lv_at hl 5 rfl) ?_
            refine lv_iload_n hx hb d_N_wordFlipsFor_32 rfl (lv_at hl 3 rfl) ?_
            refine lx_icmp_ne (tgt := 62) hx hb d_N_wordFlipsFor_33 (by decide) (by omega) (by omega) (fun c33 => ?_) (fun c33 => ?_)
            · skip
              refine lv_iload hx hb d_N_wordFlipsFor_62 (lv_at hl 4 rfl) ?_
              refine lc_Si (As := [.int (nI (rz s0 j))]) (rest := []) ⟨hx, hb, hml, hown, hts⟩ (c_N_timesG l D g _ _ (rz s0 j) hz1) (kS 1 hts m_178 m_176 m_177 m_38 (by decide +kernel) ⟨Nat.le_of_ble_eq_true rfl, Nat.le_of_ble_eq_true rfl⟩) hKK hP hD hS hA hl.1 rfl rfl (Nat.le_of_ble_eq_true rfl) d_N_wordFlipsFor_64 ⟨Nat.le_of_ble_eq_true rfl, Nat.le_of_ble_eq_true rfl⟩ (fun r1 u H locs e1 hP hD hS => ?_)
              obtain rfl : r1 = nI (rz s0 (j + 1)) := e1
              refine lv_istore (lv' := [(4, .int (nI (rz s0 (j + 1)))), (0, .ref o), (1, .int (nI s0)), (2, .int (nI t0)), (3, .int (nI u0)), (5, .int (nI (rz s0 (2 * j)))), (6, .int (nI (4 * j)))]) hx hb d_N_wordFlipsFor_67 hl (by decide) rfl (fun ls hl => ?_)
              refine lv_iload hx hb d_N_wordFlipsFor_69 (lv_at hl 5 rfl) ?_
              refine lc_Si (As := [.int (nI (rz s0 (2 * j)))]) (rest := []) ⟨hx, hb, hml, hown, hts⟩ (c_N_timesG l D g _ _ (rz s0 (2 * j)) hz2) (kS 1 hts m_178 m_176 m_177 m_38 (by decide +kernel) ⟨Nat.le_of_ble_eq_true rfl, Nat.le_of_ble_eq_true rfl⟩) hKK hP hD hS hA hl.1 rfl rfl (Nat.le_of_ble_eq_true rfl) d_N_wordFlipsFor_71 ⟨Nat.le_of_ble_eq_true rfl, Nat.le_of_ble_eq_true rfl⟩ (fun r2 u H locs e2 hP hD hS => ?_)
              obtain rfl : r2 = nI (rz s0 (2 * j + 1)) := e2
              refine lc_Si (As := [.int (nI (rz s0 (2 * j + 1)))]) (rest := []) ⟨hx, hb, hml, hown, hts⟩ (c_N_timesG l D g _ _ (rz s0 (2 * j + 1)) hz3) (kS 1 hts m_178 m_176 m_177 m_38 (by decide +kernel) ⟨Nat.le_of_ble_eq_true rfl, Nat.le_of_ble_eq_true rfl⟩) hKK hP hD hS hA hl.1 rfl rfl (Nat.le_of_ble_eq_true rfl) d_N_wordFlipsFor_74 ⟨Nat.le_of_ble_eq_true rfl, Nat.le_of_ble_eq_true rfl⟩ (fun r3 u H locs e3 hP hD hS => ?_)
              obtain rfl : r3 = nI (rz s0 (2 * (j + 1))) := e3
              refine lv_istore (lv' := [(5, .int (nI (rz s0 (2 * (j + 1))))), (4, .int (nI (rz s0 (j + 1)))), (0, .ref o), (1, .int (nI s0)), (2, .int (nI t0)), (3, .int (nI u0)), (6, .int (nI (4 * j)))]) hx hb d_N_wordFlipsFor_77 hl (by decide) rfl (fun ls hl => ?_)
              refine lv_iinc (v := nI (4 * (j + 1))) (lv' := [(6, .int (nI (4 * (j + 1)))), (5, .int (nI (rz s0 (2 * (j + 1))))), (4, .int (nI (rz s0 (j + 1)))), (0, .ref o), (1, .int (nI s0)), (2, .int (nI t0)), (3, .int (nI u0))]) hx hb d_N_wordFlipsFor_79 hl (k := 6) rfl (nI_add _ 4) (by decide) rfl (fun ls hl => ?_)
              refine lv_goto (tgt := 15) hx hb d_N_wordFlipsFor_82 (by decide) ?_
              rw [wfL_next c21 (fun q => c33 (by omega))] at hQ9
              exact ih (j + 1) _ _ _ (by omega) (by omega) (hQ9) (lv_sub hl [3, 4, 5, 6, 2, 1, 0] rfl) hP hD hS
            · skip
              refine lv_iload_n hx hb d_N_wordFlipsFor_36 rfl (lv_at hl 1 rfl) ?_
              refine lv_i2l (v := lN s0) hx hb d_N_wordFlipsFor_37 (nI_l (by omega)) ?_
              refine lv_iload hx hb d_N_wordFlipsFor_38 (lv_at hl 6 rfl) ?_
              refine lv_lshl (v := lN (s0 <<< (4 * j))) hx hb d_N_wordFlipsFor_40 (xl_shl _ (by omega)) ?_
              refine lv_lstore (lv' := [(7, .long (lN (s0 <<< (4 * j)))), (0, .ref o), (1, .int (nI s0)), (2, .int (nI t0)), (3, .int (nI u0)), (4, .int (nI (rz s0 j))), (5, .int (nI (rz s0 (2 * j)))), (6, .int (nI (4 * j)))]) hx hb d_N_wordFlipsFor_41 hl (by decide) rfl (fun ls hl => ?_)
              refine lv_lload hx hb d_N_wordFlipsFor_43 (lv_at hl 0 rfl) ?_
              refine lv_aload_n hx hb d_N_wordFlipsFor_45 rfl (lv_at hl 1 rfl) ?_
              refine va_get (D := D) (ci := 3) (v := .int (nI M)) (C := R_N) (T := F_N) (N := 3) hx hb hts i_N hown hK hP k0 h0 rfl 0 (by decide) (hts _ m_135) (fun x9 h9 => u_same (hts _ m_136) x9 h9) rfl d_N_wordFlipsFor_46 ?_
              refine lv_lushr (v := lN ((s0 <<< (4 * j)) >>> M)) hx hb d_N_wordFlipsFor_49 (xl_ushr (sh_lt hs (by omega)) (by omega)) ?_
              refine lv_lconst (v := lN 0) hx hb d_N_wordFlipsFor_50 (by decide) ?_
              refine lx_lcmp_ne (tgt := 60) hx hb d_N_wordFlipsFor_51 d_N_wordFlipsFor_52 (by decide) (fun c52 => ?_) (fun c52 => ?_)
              · skip
                refine lv_lconst (v := lN 0) hx hb d_N_wordFlipsFor_60 (by decide) ?_
                rw [← hQ]
                refine W.lret (v := lN 0) hx hb hr ?_ hS.2.2 d_N_wordFlipsFor_61
                exact fun t ht hW => ⟨⟨lN 0, (), rfl, (by rw [← hQ9, wfL_hit c21 ⟨by omega, by omega⟩, if_neg (fun q => c52 (by rw [q]))]), by rw [ht]; exact hP, hD⟩, hS.F ht⟩
              · skip
                refine lv_lload hx hb d_N_wordFlipsFor_55 (lv_at hl 0 rfl) ?_
                refine lv_goto (tgt := 61) hx hb d_N_wordFlipsFor_57 (by decide) ?_
                rw [← hQ]
                refine W.lret (v := lN (s0 <<< (4 * j))) hx hb hr ?_ hS.2.2 d_N_wordFlipsFor_61
                exact fun t ht hW => ⟨⟨lN (s0 <<< (4 * j)), (), rfl, (by rw [← hQ9, wfL_hit c21 ⟨by omega, by omega⟩, if_pos (xl_inj (Nat.lt_of_le_of_lt (Nat.shiftRight_le _ _) (sh_lt hs (by omega))) (by decide) c52)]), by rw [ht]; exact hP, hD⟩, hS.F ht⟩
    refine lv_iload_n hx hb d_N_wordFlipsFor_6 rfl (lv_at hl 1 rfl) ?_
    refine lv_istore (lv' := [(4, .int (nI s0)), (0, .ref o), (1, .int (nI s0)), (2, .int (nI t0)), (3, .int (nI u0))]) hx hb d_N_wordFlipsFor_7 hl (by decide) rfl (fun ls hl => ?_)
    refine lv_iload_n hx hb d_N_wordFlipsFor_9 rfl (lv_at hl 2 rfl) ?_
    refine lv_istore (lv' := [(5, .int (nI s0)), (4, .int (nI s0)), (0, .ref o), (1, .int (nI s0)), (2, .int (nI t0)), (3, .int (nI u0))]) hx hb d_N_wordFlipsFor_10 hl (by decide) rfl (fun ls hl => ?_)
    refine lv_iconst (v := nI 0) hx hb d_N_wordFlipsFor_12 (by decide) ?_
    refine lv_istore (lv' := [(6, .int (nI 0)), (5, .int (nI s0)), (4, .int (nI s0)), (0, .ref o), (1, .int (nI s0)), (2, .int (nI t0)), (3, .int (nI u0))]) hx hb d_N_wordFlipsFor_13 hl (by decide) rfl (fun ls hl => ?_)
    exact lp15 16 0 _ _ _ (by omega) (by omega) (by unfold wfN; rw [if_neg c1]) (lv_sub hl [3, 4, 5, 6, 2, 1, 0] rfl) hP hD hS
  · skip
    refine lv_lconst (v := lN 0) hx hb d_N_wordFlipsFor_4 (by decide) ?_
    rw [← hQ]
    refine W.lret (v := lN 0) hx hb hr ?_ hS.2.2 d_N_wordFlipsFor_5
    exact fun t ht hW => ⟨⟨lN 0, (), rfl, (by unfold wfN; rw [if_pos c1]), by rw [ht]; exact hP, hD⟩, hS.F ht⟩
set_option maxHeartbeats 4000000 in
set_option maxRecDepth 100000 in
theorem c_N_judge (l : Launch) (D : va_G) (g : Nat → ClassId) (sz : Nat) (wr : va_W) (k0 o t x2 M y : Nat) (x1 : Int32) (a0 : Int64) (b0 : Int32) (h0 : wr[k0]? = some (o, .inr (3, [.int (nI M), .int (x1), .ref x2]))) (hM57 : M ≤ 57) (hy : y < 4096) : Met l y_N_judge w_N_judge rm_N_judge (va_Pc [.ref o, .int (nI y), .ref t] (pP D (tyl g) ((t, .inr (5, [.long (a0), .int (b0)])) :: wr) sz)) (va_Qi (fun (r : Int32) (u : Unit) => r = nI (jdN M y).1) (fun u => qB D (va_A ((t, .inr (5, [.long (a0), .int (b0)])) :: wr) sz) ((t, .inr (5, [.long (lN (jdN M y).2.1), .int (nI (jdN M y).2.2)])) :: wr)) (va_A ((t, .inr (5, [.long (a0), .int (b0)])) :: wr) sz)) 0 0 (va_A ((t, .inr (5, [.long (a0), .int (b0)])) :: wr) sz) := by
  refine Met.ofW (cc := b_N_judge) (maxL := 6) (ret := (some .int)) (by decide +kernel) rfl ?_
  intro p e s m args below meth c s₁ Bq hml hv
  have hx := Bq.exec
  have hb := Bq.bytes
  have hr := Bq.returns
  have hts : ∀ w ∈ wA, w.before args s = true := fun w h => atoms_spec (ws := w_N_judge) Bq.pre w (List.mem_cons_of_mem _ h)
  have hown : s.vm.findClass R_N = some m.cls := findClass_of_methodNamed Bq.named
  have hlocks := Bq.notSynchronized
  obtain ⟨rfl, hsz, hP, hKK, hD0⟩ := hv
  have hK := hKK.1
  subst hsz
  have hD := hD0.self (sz := s.heap.size)
  generalize hAe : va_A ((t, .inr (5, [.long (a0), .int (b0)])) :: wr) s.heap.size = A at hD ⊢
  have hA : ∀ q : Nat, s.heap.size ≤ q → A q := fun q h => by rw [← hAe]; exact Or.inr h
  have hS : va_S A s.heap s.heap [] := va_S.rf
  have hl := lv_entry ([.ref o, .int (nI y), .ref t]) (n := 6) (Nat.le_of_ble_eq_true rfl)
  rw [lg_entry_eq]
  generalize (lg_sl ([.ref o, .int (nI y), .ref t]) ++ List.replicate (6 - (lg_sl ([.ref o, .int (nI y), .ref t])).length) Slot.unset).toArray = ls at hl ⊢
  have hl : lv_has ls 6 [(0, .ref o), (1, .int (nI y)), (2, .ref t)] := hl
  generalize hQ : MQ below (va_Qi (fun (r : Int32) (u : Unit) => r = nI (jdN M y).1) (fun u => qB D (A) ((t, .inr (5, [.long (lN (jdN M y).2.1), .int (nI (jdN M y).2.2)])) :: wr)) (A)) [.ref o, .int (nI y), .ref t].toArray s 0 0 A = Q
  refine lv_aload_n hx hb d_N_judge_0 rfl (lv_at hl 2 rfl) ?_
  refine lc_Vv (b := t) (As := []) (rest := []) ⟨hx, hb, hml, hown, hts⟩ (c_T_clear l D g _ t a0 b0 wr) (kV 0 hts m_455 m_452 m_453 m_454 m_39 (by decide +kernel) ⟨Nat.le_of_ble_eq_true rfl, Nat.le_of_ble_eq_true rfl⟩) (va_recv hK hP (ci := 5) (q0 := 0) rfl rfl) hKK hP hD hS hA hl.1 rfl rfl (Nat.le_of_ble_eq_true rfl) d_N_judge_1 ⟨Nat.le_of_ble_eq_true rfl, Nat.le_of_ble_eq_true rfl⟩ (fun u H locs _ hP hD hS => ?_)
  have hP : va_P D vwCl ((t, .inr (5, [.long (lN 0), .int (nI 0)])) :: wr) H := hP
  have hD : va_D A ((t, .inr (5, [.long (lN 0), .int (nI 0)])) :: wr) := hD
  refine lv_iload_n hx hb d_N_judge_4 rfl (lv_at hl 1 rfl) ?_
  refine lx_if_ne (tgt := 10) hx hb d_N_judge_5 (by decide) (by omega) (fun c5 => ?_) (fun c5 => ?_)
  · skip
    have h4 : y >>> 4 < 2 ^ 31 := by rw [Nat.shiftRight_eq_div_pow]; omega
    have h8 : y >>> 8 < 2 ^ 31 := by rw [Nat.shiftRight_eq_div_pow]; omega
    have s4 : (y >>> 4 % 16) <<< 4 < 2 ^ 31 := by rw [Nat.shiftLeft_eq]; omega
    have s8 : (y >>> 8 % 16) <<< 8 < 2 ^ 31 := by rw [Nat.shiftLeft_eq]; omega
    refine lv_iload_n hx hb d_N_judge_10 rfl (lv_at hl 1 rfl) ?_
    refine lv_bipush (v := nI 15) hx hb d_N_judge_11 (by decide) ?_
    refine lx_iand (z := nI (y % 16)) hx hb d_N_judge_13 ((xn_and _ _).trans (by rw [show 15 = 2 ^ 4 - 1 from rfl, Nat.and_two_pow_sub_one_eq_mod])) ?_
    refine lv_istore_n (lv' := [(3, .int (nI (y % 16))), (0, .ref o), (1, .int (nI y)), (2, .ref t)]) hx hb d_N_judge_14 rfl hl (by decide) rfl (fun ls hl => ?_)
    refine lv_iload_n hx hb d_N_judge_15 rfl (lv_at hl 2 rfl) ?_
    refine lv_iconst (v := nI 4) hx hb d_N_judge_16 (by decide) ?_
    refine lv_iushr (v := nI (y >>> 4)) hx hb d_N_judge_17 (xn_ushr (by omega) (by decide)) ?_
    refine lv_bipush (v := nI 15) hx hb d_N_judge_18 (by decide) ?_
    refine lx_iand (z := nI (y >>> 4 % 16)) hx hb d_N_judge_20 ((xn_and _ _).trans (by rw [show 15 = 2 ^ 4 - 1 from rfl, Nat.and_two_pow_sub_one_eq_mod])) ?_
    refine lv_istore (lv' := [(4, .int (nI (y >>> 4 % 16))), (3, .int (nI (y % 16))), (0, .ref o), (1, .int (nI y)), (2, .ref t)]) hx hb d_N_judge_21 hl (by decide) rfl (fun ls hl => ?_)
    refine lv_iload_n hx hb d_N_judge_23 rfl (lv_at hl 3 rfl) ?_
    refine lv_bipush (v := nI 8) hx hb d_N_judge_24 (by decide) ?_
    refine lv_iushr (v := nI (y >>> 8)) hx hb d_N_judge_26 (xn_ushr (by omega) (by decide)) ?_
    refine lv_bipush (v := nI 15) hx hb d_N_judge_27 (by decide) ?_
    refine lx_iand (z := nI (y >>> 8 % 16)) hx hb d_N_judge_29 ((xn_and _ _).trans (by rw [show 15 = 2 ^ 4 - 1 from rfl, Nat.and_two_pow_sub_one_eq_mod])) ?_
    refine lv_istore (lv' := [(5, .int (nI (y >>> 8 % 16))), (4, .int (nI (y >>> 4 % 16))), (3, .int (nI (y % 16))), (0, .ref o), (1, .int (nI y)), (2, .ref t)]) hx hb d_N_judge_30 hl (by decide) rfl (fun ls hl => ?_)
    refine lv_iload_n hx hb d_N_judge_32 rfl (lv_at hl 4 rfl) ?_
    refine lv_iload_n hx hb d_N_judge_33 rfl (lv_at hl 2 rfl) ?_
    refine lx_icmp_eq (tgt := 54) hx hb d_N_judge_34 (by decide) (by omega) (by omega) (fun c34 => ?_) (fun c34 => ?_)
    · skip
      refine lv_aload_n hx hb d_N_judge_54 rfl (lv_at hl 5 rfl) ?_
      refine lv_iload_n hx hb d_N_judge_55 rfl (lv_at hl 4 rfl) ?_
      refine va_put (D := D) (ci := 5) (v := .int (nI y)) (ty := .int) (C := R_T) (T := F_T) (N := 2) hx hb hts i_T tf_T tf_T_ok nf_T hown hK hP hD hS 0 rfl rfl 1 (by decide) (hts _ m_198) (fun _ h9 => h9) rfl (by decide +kernel) rfl rfl (Nat.le_of_ble_eq_true rfl) d_N_judge_56 (fun H locs hP hD hS => ?_)
      have hP : va_P D vwCl ((t, .inr (5, [.long (lN 0), .int (nI y)])) :: wr) H := hP
      have hD : va_D A ((t, .inr (5, [.long (lN 0), .int (nI y)])) :: wr) := hD
      have ej : jdN M y = (1, 0, y) := by unfold jdN; rw [if_neg c5, if_pos (Or.inl c34)]
      rw [ej] at hQ
      refine lv_iconst (v := nI 1) hx hb d_N_judge_59 (by decide) ?_
      rw [← hQ]
      refine W.iret (v := nI 1) hx hb hr ?_ hS.2.2 d_N_judge_60
      exact fun t ht hW => ⟨⟨nI 1, (), rfl, rfl, by rw [ht]; exact hP, hD⟩, hS.F ht⟩
    · skip
      refine lv_iload_n hx hb d_N_judge_37 rfl (lv_at hl 4 rfl) ?_
      refine lv_iload hx hb d_N_judge_38 (lv_at hl 1 rfl) ?_
      refine lv_iconst (v := nI 4) hx hb d_N_judge_40 (by decide) ?_
      refine lx_ishl (z := nI ((y >>> 4 % 16) <<< 4)) hx hb d_N_judge_41 (xn_shl _ (by decide)) ?_
      refine lx_icmp_eq (tgt := 54) hx hb d_N_judge_42 (by decide) (by omega) (by omega) (fun c42 => ?_) (fun c42 => ?_)
      · skip
        refine lv_aload_n hx hb d_N_judge_54 rfl (lv_at hl 5 rfl) ?_
        refine lv_iload_n hx hb d_N_judge_55 rfl (lv_at hl 4 rfl) ?_
        refine va_put (D := D) (ci := 5) (v := .int (nI y)) (ty := .int) (C := R_T) (T := F_T) (N := 2) hx hb hts i_T tf_T tf_T_ok nf_T hown hK hP hD hS 0 rfl rfl 1 (by decide) (hts _ m_198) (fun _ h9 => h9) rfl (by decide +kernel) rfl rfl (Nat.le_of_ble_eq_true rfl) d_N_judge_56 (fun H locs hP hD hS => ?_)
        have hP : va_P D vwCl ((t, .inr (5, [.long (lN 0), .int (nI y)])) :: wr) H := hP
        have hD : va_D A ((t, .inr (5, [.long (lN 0), .int (nI y)])) :: wr) := hD
        have ej : jdN M y = (1, 0, y) := by unfold jdN; rw [if_neg c5, if_pos (Or.inr (Or.inl c42))]
        rw [ej] at hQ
        refine lv_iconst (v := nI 1) hx hb d_N_judge_59 (by decide) ?_
        rw [← hQ]
        refine W.iret (v := nI 1) hx hb hr ?_ hS.2.2 d_N_judge_60
        exact fun t ht hW => ⟨⟨nI 1, (), rfl, rfl, by rw [ht]; exact hP, hD⟩, hS.F ht⟩
      · skip
        refine lv_iload_n hx hb d_N_judge_45 rfl (lv_at hl 4 rfl) ?_
        refine lv_iload hx hb d_N_judge_46 (lv_at hl 0 rfl) ?_
        refine lv_bipush (v := nI 8) hx hb d_N_judge_48 (by decide) ?_
        refine lx_ishl (z := nI ((y >>> 8 % 16) <<< 8)) hx hb d_N_judge_50 (xn_shl _ (by decide)) ?_
        refine lx_icmp_ne (tgt := 61) hx hb d_N_judge_51 (by decide) (by omega) (by omega) (fun c51 => ?_) (fun c51 => ?_)
        · skip
          have hno : ¬ (y = y % 16 ∨ y = (y >>> 4 % 16) <<< 4 ∨ y = (y >>> 8 % 16) <<< 8) := by rintro (q | q | q); exact c34 q; exact c42 q; exact c51 q
          refine lv_aload_n hx hb d_N_judge_61 rfl (lv_at hl 5 rfl) ?_
          refine lv_aload_n hx hb d_N_judge_62 rfl (lv_at hl 3 rfl) ?_
          refine lv_iload_n hx hb d_N_judge_63 rfl (lv_at hl 2 rfl) ?_
          refine lv_iload hx hb d_N_judge_64 (lv_at hl 1 rfl) ?_
          refine lv_iload hx hb d_N_judge_66 (lv_at hl 0 rfl) ?_
          refine lc_Vl (b := o) (As := [.int (nI (y % 16)), .int (nI (y >>> 4 % 16)), .int (nI (y >>> 8 % 16))]) (rest := [.ref t]) ⟨hx, hb, hml, hown, hts⟩ (c_N_wordFlipsFor l D g _ _ (k0 + 1) o x2 M (y % 16) (y >>> 4 % 16) (y >>> 8 % 16) x1 h0 hM57 (by omega) (by omega) (by omega)) (kV 3 hts m_459 m_456 m_458 m_1 m_38 (by decide +kernel) ⟨Nat.le_of_ble_eq_true rfl, Nat.le_of_ble_eq_true rfl⟩) (va_recv hK hP (ci := 3) (q0 := k0 + 1) rfl h0) hKK hP hD hS hA hl.1 rfl rfl (Nat.le_of_ble_eq_true rfl) d_N_judge_68 ⟨Nat.le_of_ble_eq_true rfl, Nat.le_of_ble_eq_true rfl⟩ (fun r1 u H locs e1 hP hD hS => ?_)
          obtain rfl : r1 = lN (wfN M (y % 16) (y >>> 4 % 16) (y >>> 8 % 16)) := e1
          refine va_put (D := D) (ci := 5) (v := .long (lN (wfN M (y % 16) (y >>> 4 % 16) (y >>> 8 % 16)))) (ty := .long) (C := R_T) (T := F_T) (N := 2) hx hb hts i_T tf_T tf_T_ok nf_T hown hK hP hD hS 0 rfl rfl 0 (by decide) (hts _ m_194) (fun _ h9 => h9) rfl (by decide +kernel) rfl rfl (Nat.le_of_ble_eq_true rfl) d_N_judge_71 (fun H locs hP hD hS => ?_)
          have hP : va_P D vwCl ((t, .inr (5, [.long (lN (wfN M (y % 16) (y >>> 4 % 16) (y >>> 8 % 16))), .int (nI 0)])) :: wr) H := hP
          have hD : va_D A ((t, .inr (5, [.long (lN (wfN M (y % 16) (y >>> 4 % 16) (y >>> 8 % 16))), .int (nI 0)])) :: wr) := hD
          refine lv_aload_n hx hb d_N_judge_74 rfl (lv_at hl 5 rfl) ?_
          refine va_get (D := D) (ci := 5) (v := .long (lN (wfN M (y % 16) (y >>> 4 % 16) (y >>> 8 % 16)))) (C := R_T) (T := F_T) (N := 2) hx hb hts i_T hown hK hP 0 rfl rfl 0 (by decide) (hts _ m_194) (fun _ h9 => h9) rfl d_N_judge_75 ?_
          refine lv_lconst (v := lN 0) hx hb d_N_judge_78 (by decide) ?_
          have hwl : wfN M (y % 16) (y >>> 4 % 16) (y >>> 8 % 16) < 2 ^ 62 := wfN_lt (by omega) hM57
          refine lx_lcmp_ne (tgt := 87) hx hb d_N_judge_79 d_N_judge_80 (by decide) (fun c80 => ?_) (fun c80 => ?_)
          · skip
            have ej : jdN M y = (1, wfN M (y % 16) (y >>> 4 % 16) (y >>> 8 % 16), 0) := by unfold jdN; rw [if_neg c5, if_neg hno, if_neg (fun q => c80 (by rw [q]))]
            rw [ej] at hQ
            refine lv_iconst (v := nI 1) hx hb d_N_judge_87 (by decide) ?_
            rw [← hQ]
            refine W.iret (v := nI 1) hx hb hr ?_ hS.2.2 d_N_judge_88
            exact fun t ht hW => ⟨⟨nI 1, (), rfl, rfl, by rw [ht]; exact hP, hD⟩, hS.F ht⟩
          · skip
            have e0 : wfN M (y % 16) (y >>> 4 % 16) (y >>> 8 % 16) = 0 := xl_inj (by omega) (by decide) c80
            have ej : jdN M y = (2, wfN M (y % 16) (y >>> 4 % 16) (y >>> 8 % 16), 0) := by unfold jdN; rw [if_neg c5, if_neg hno, if_pos e0, e0]
            rw [ej] at hQ
            refine lv_iconst (v := nI 2) hx hb d_N_judge_83 (by decide) ?_
            refine lv_goto (tgt := 88) hx hb d_N_judge_84 (by decide) ?_
            rw [← hQ]
            refine W.iret (v := nI 2) hx hb hr ?_ hS.2.2 d_N_judge_88
            exact fun t ht hW => ⟨⟨nI 2, (), rfl, rfl, by rw [ht]; exact hP, hD⟩, hS.F ht⟩
        · skip
          refine lv_aload_n hx hb d_N_judge_54 rfl (lv_at hl 5 rfl) ?_
          refine lv_iload_n hx hb d_N_judge_55 rfl (lv_at hl 4 rfl) ?_
          refine va_put (D := D) (ci := 5) (v := .int (nI y)) (ty := .int) (C := R_T) (T := F_T) (N := 2) hx hb hts i_T tf_T tf_T_ok nf_T hown hK hP hD hS 0 rfl rfl 1 (by decide) (hts _ m_198) (fun _ h9 => h9) rfl (by decide +kernel) rfl rfl (Nat.le_of_ble_eq_true rfl) d_N_judge_56 (fun H locs hP hD hS => ?_)
          have hP : va_P D vwCl ((t, .inr (5, [.long (lN 0), .int (nI y)])) :: wr) H := hP
          have hD : va_D A ((t, .inr (5, [.long (lN 0), .int (nI y)])) :: wr) := hD
          have ej : jdN M y = (1, 0, y) := by unfold jdN; rw [if_neg c5, if_pos (Or.inr (Or.inr c51))]
          rw [ej] at hQ
          refine lv_iconst (v := nI 1) hx hb d_N_judge_59 (by decide) ?_
          rw [← hQ]
          refine W.iret (v := nI 1) hx hb hr ?_ hS.2.2 d_N_judge_60
          exact fun t ht hW => ⟨⟨nI 1, (), rfl, rfl, by rw [ht]; exact hP, hD⟩, hS.F ht⟩
  · skip
    have ej : jdN M y = (0, 0, 0) := by unfold jdN; rw [if_pos c5]
    rw [ej] at hQ
    refine lv_iconst (v := nI 0) hx hb d_N_judge_8 (by decide) ?_
    rw [← hQ]
    refine W.iret (v := nI 0) hx hb hr ?_ hS.2.2 d_N_judge_9
    exact fun t ht hW => ⟨⟨nI 0, (), rfl, rfl, by rw [ht]; exact hP, hD⟩, hS.F ht⟩
set_option maxHeartbeats 4000000 in
set_option maxRecDepth 100000 in
theorem c_K_columnOf_P (l : Launch) (D : va_G) (g : Nat → ClassId) (sz : Nat) (ws : va_W) (k0 k1 o a M j : Nat) (x0 x1 : Int32) (f : Nat → Nat) (h0 : ws[k0]? = some (o, .inr (2, [.int (x0), .int (x1), .ref a]))) (h1 : ws[k1]? = some (a, .inl (g 0, M, .inl (fun k => nI (f k))))) (hM57 : M ≤ 57) (hj : j < M) : Met l y_K_columnOf w_K_columnOf rm_K_columnOf (va_Pc [.ref o, .int (nI j)] (pP D (tyl g) (ws) sz)) (va_Qi (fun (r : Int32) (u : Unit) => r = nI (f j)) (fun u => qB D (va_A (ws) sz) (ws)) (va_A (ws) sz)) 0 0 (va_A (ws) sz) := by
  refine Met.ofW (cc := b_K_columnOf) (maxL := 2) (ret := (some .int)) (by decide +kernel) rfl ?_
  intro p e s m args below meth c s₁ Bq hml hv
  have hx := Bq.exec
  have hb := Bq.bytes
  have hr := Bq.returns
  have hts : ∀ w ∈ wA, w.before args s = true := fun w h => atoms_spec (ws := w_K_columnOf) Bq.pre w (List.mem_cons_of_mem _ h)
  have hown : s.vm.findClass R_K = some m.cls := findClass_of_methodNamed Bq.named
  have hlocks := Bq.notSynchronized
  obtain ⟨rfl, hsz, hP, hKK, hD0⟩ := hv
  have hK := hKK.1
  subst hsz
  have hD := hD0.self (sz := s.heap.size)
  generalize hAe : va_A (ws) s.heap.size = A at hD ⊢
  have hA : ∀ q : Nat, s.heap.size ≤ q → A q := fun q h => by rw [← hAe]; exact Or.inr h
  have hS : va_S A s.heap s.heap [] := va_S.rf
  have hl := lv_entry ([.ref o, .int (nI j)]) (n := 2) (Nat.le_of_ble_eq_true rfl)
  rw [lg_entry_eq]
  generalize (lg_sl ([.ref o, .int (nI j)]) ++ List.replicate (2 - (lg_sl ([.ref o, .int (nI j)])).length) Slot.unset).toArray = ls at hl ⊢
  have hl : lv_has ls 2 [(0, .ref o), (1, .int (nI j))] := hl
  generalize hQ : MQ below (va_Qi (fun (r : Int32) (u : Unit) => r = nI (f j)) (fun u => qB D (A) (ws)) (A)) [.ref o, .int (nI j)].toArray s 0 0 A = Q
  refine lv_iload_n hx hb d_K_columnOf_0 rfl (lv_at hl 1 rfl) ?_
  refine lx_if_lt (tgt := 22) hx hb d_K_columnOf_1 (by decide) (by omega) ?_
  refine lv_iload_n hx hb d_K_columnOf_4 rfl (lv_at hl 1 rfl) ?_
  refine lv_aload_n hx hb d_K_columnOf_5 rfl (lv_at hl 0 rfl) ?_
  refine va_get (D := D) (ci := 2) (v := .ref a) (C := R_P) (T := F_P) (N := 3) hx hb hts i_P hown hK hP k0 h0 rfl 2 (by decide) (hts _ m_139) (fun _ h9 => h9) rfl d_K_columnOf_6 ?_
  refine va_alen hx hb hK hP k1 0 h1 (v := nI M) rfl (rfl) d_K_columnOf_9 ?_
  refine lx_icmp_ge (tgt := 22) hx hb d_K_columnOf_10 (by decide) (by omega) (by omega) (fun c10 => ?_) (fun c10 => ?_)
  · skip
    exact absurd c10 (by omega)
  · skip
    refine lv_aload_n hx hb d_K_columnOf_13 rfl (lv_at hl 0 rfl) ?_
    refine va_get (D := D) (ci := 2) (v := .ref a) (C := R_P) (T := F_P) (N := 3) hx hb hts i_P hown hK hP k0 h0 rfl 2 (by decide) (hts _ m_139) (fun _ h9 => h9) rfl d_K_columnOf_14 ?_
    refine lv_iload_n hx hb d_K_columnOf_17 rfl (lv_at hl 1 rfl) ?_
    refine lx_iald (v := nI (f j)) hx hb hK hP k1 0 h1 rfl (j := j) (by omega) (by omega) (rfl) d_K_columnOf_18 ?_
    refine lv_goto (tgt := 23) hx hb d_K_columnOf_19 (by decide) ?_
    rw [← hQ]
    refine W.iret (v := nI (f j)) hx hb hr ?_ hS.2.2 d_K_columnOf_23
    exact fun t ht hW => ⟨⟨nI (f j), (), rfl, rfl, by rw [ht]; exact hP, hD⟩, hS.F ht⟩
set_option maxHeartbeats 4000000 in
set_option maxRecDepth 100000 in
theorem c_K_greatestRowSum (l : Launch) (D : va_G) (g : Nat → ClassId) (sz : Nat) (ws : va_W) (o : Nat) : Met l y_K_greatestRowSum w_K_greatestRowSum rm_K_greatestRowSum (va_Pc [.ref o] (pP D (tyl g) (ws) sz)) (va_Qi (fun (r : Int32) (u : Unit) => r = nI 0) (fun u => qB D (va_A (ws) sz) (ws)) (va_A (ws) sz)) 0 0 (va_A (ws) sz) := by
  refine Met.ofW (cc := b_K_greatestRowSum) (maxL := 1) (ret := (some .int)) (by decide +kernel) rfl ?_
  intro p e s m args below meth c s₁ Bq hml hv
  have hx := Bq.exec
  have hb := Bq.bytes
  have hr := Bq.returns
  have hts : ∀ w ∈ wA, w.before args s = true := fun w h => atoms_spec (ws := w_K_greatestRowSum) Bq.pre w (List.mem_cons_of_mem _ h)
  have hown : s.vm.findClass R_K = some m.cls := findClass_of_methodNamed Bq.named
  have hlocks := Bq.notSynchronized
  obtain ⟨rfl, hsz, hP, hKK, hD0⟩ := hv
  have hK := hKK.1
  subst hsz
  have hD := hD0.self (sz := s.heap.size)
  generalize hAe : va_A (ws) s.heap.size = A at hD ⊢
  have hA : ∀ q : Nat, s.heap.size ≤ q → A q := fun q h => by rw [← hAe]; exact Or.inr h
  have hS : va_S A s.heap s.heap [] := va_S.rf
  have hl := lv_entry ([.ref o]) (n := 1) (Nat.le_of_ble_eq_true rfl)
  rw [lg_entry_eq]
  generalize (lg_sl ([.ref o]) ++ List.replicate (1 - (lg_sl ([.ref o])).length) Slot.unset).toArray = ls at hl ⊢
  have hl : lv_has ls 1 [(0, .ref o)] := hl
  generalize hQ : MQ below (va_Qi (fun (r : Int32) (u : Unit) => r = nI 0) (fun u => qB D (A) (ws)) (A)) [.ref o].toArray s 0 0 A = Q
  refine lv_iconst (v := nI 0) hx hb d_K_greatestRowSum_0 (by decide) ?_
  rw [← hQ]
  refine W.iret (v := nI 0) hx hb hr ?_ hS.2.2 d_K_greatestRowSum_1
  exact fun t ht hW => ⟨⟨nI 0, (), rfl, rfl, by rw [ht]; exact hP, hD⟩, hS.F ht⟩
