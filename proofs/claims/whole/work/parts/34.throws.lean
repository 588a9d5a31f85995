set_option maxRecDepth 20000 in
theorem m_560 : Cond.constant R_C 199 65536 ∈ wA := in_wA (List.mem_of_getElem? (i := 560) rfl) rfl
set_option maxRecDepth 20000 in
theorem m_222 : Cond.fieldLink R_C 163 R_C "sparesUsed" "I" ∈ wA := in_wA (List.mem_of_getElem? (i := 222) rfl) rfl
set_option maxRecDepth 20000 in
theorem m_317 : Cond.classLink R_C 71 "java/lang/IndexOutOfBoundsException" ∈ wA := in_wA (List.mem_of_getElem? (i := 317) rfl) rfl
set_option maxRecDepth 20000 in
theorem m_44 : Cond.initialized "java/lang/IndexOutOfBoundsException" ∈ wA := in_wA (List.mem_of_getElem? (i := 44) rfl) rfl
set_option maxRecDepth 20000 in
theorem m_385 : Cond.classLink R_C 78 "java/lang/UnsupportedOperationException" ∈ wA := in_wA (List.mem_of_getElem? (i := 385) rfl) rfl
set_option maxRecDepth 20000 in
theorem m_45 : Cond.initialized "java/lang/UnsupportedOperationException" ∈ wA := in_wA (List.mem_of_getElem? (i := 45) rfl) rfl
set_option maxRecDepth 20000 in
theorem m_430 : Cond.classLink R_C 103 "java/lang/IllegalArgumentException" ∈ wA := in_wA (List.mem_of_getElem? (i := 430) rfl) rfl
set_option maxRecDepth 20000 in
theorem m_46 : Cond.initialized "java/lang/IllegalArgumentException" ∈ wA := in_wA (List.mem_of_getElem? (i := 46) rfl) rfl
set_option maxRecDepth 20000 in
theorem m_489 : Cond.code y_C_isStoredBit b_C_isStoredBit 2 (some .boolean) ∈ wA := in_wA (List.mem_of_getElem? (i := 489) rfl) rfl
set_option maxRecDepth 20000 in
theorem m_486 : Cond.methodLink R_C 136 y_C_isStoredBit ∈ wA := in_wA (List.mem_of_getElem? (i := 486) rfl) rfl
set_option maxRecDepth 20000 in
theorem m_488 : Cond.instanceMethod y_C_isStoredBit ∈ wA := in_wA (List.mem_of_getElem? (i := 488) rfl) rfl
set_option maxRecDepth 20000 in
theorem m_2 : Cond.selects R_C y_C_isStoredBit y_C_isStoredBit ∈ wA := in_wA (List.mem_of_getElem? (i := 2) rfl) rfl
set_option maxRecDepth 20000 in
theorem m_559 : Cond.code y_C_isRow b_C_isRow 1 (some .boolean) ∈ wA := in_wA (List.mem_of_getElem? (i := 559) rfl) rfl
set_option maxRecDepth 20000 in
theorem m_557 : Cond.methodLink R_C 155 y_C_isRow ∈ wA := in_wA (List.mem_of_getElem? (i := 557) rfl) rfl
set_option maxRecDepth 20000 in
theorem m_558 : Cond.static y_C_isRow ∈ wA := in_wA (List.mem_of_getElem? (i := 558) rfl) rfl
set_option maxRecDepth 20000 in
theorem m_565 : Cond.code y_C_findSpare b_C_findSpare 3 (some .int) ∈ wA := in_wA (List.mem_of_getElem? (i := 565) rfl) rfl
set_option maxRecDepth 20000 in
theorem m_562 : Cond.methodLink R_C 160 y_C_findSpare ∈ wA := in_wA (List.mem_of_getElem? (i := 562) rfl) rfl
set_option maxRecDepth 20000 in
theorem m_564 : Cond.instanceMethod y_C_findSpare ∈ wA := in_wA (List.mem_of_getElem? (i := 564) rfl) rfl
set_option maxRecDepth 20000 in
theorem m_12 : Cond.selects R_C y_C_findSpare y_C_findSpare ∈ wA := in_wA (List.mem_of_getElem? (i := 12) rfl) rfl
abbrev w_C_isRow : List Cond := .code y_C_isRow b_C_isRow 1 (some .boolean) :: wA
abbrev rm_C_isRow : Room := { frames := 0, cells := 0, slots := 0, locals := 0 }
theorem d_C_isRow_0 : decode b_C_isRow 0 = .ok (.iload_n 0, 1) := by decide +kernel
theorem d_C_isRow_1 : decode b_C_isRow 1 = .ok (.ifCond .lt 13, 3) := by decide +kernel
theorem d_C_isRow_4 : decode b_C_isRow 4 = .ok (.iload_n 0, 1) := by decide +kernel
theorem d_C_isRow_5 : decode b_C_isRow 5 = .ok (.ldc 199, 2) := by decide +kernel
theorem d_C_isRow_7 : decode b_C_isRow 7 = .ok (.if_icmp .ge 7, 3) := by decide +kernel
theorem d_C_isRow_10 : decode b_C_isRow 10 = .ok (.iconst 1, 1) := by decide +kernel
theorem d_C_isRow_11 : decode b_C_isRow 11 = .ok (.goto 4, 3) := by decide +kernel
theorem d_C_isRow_14 : decode b_C_isRow 14 = .ok (.iconst 0, 1) := by decide +kernel
theorem d_C_isRow_15 : decode b_C_isRow 15 = .ok (.ireturn, 1) := by decide +kernel
abbrev w_C_isStoredBit : List Cond := .code y_C_isStoredBit b_C_isStoredBit 2 (some .boolean) :: wA
abbrev rm_C_isStoredBit : Room := { frames := 0, cells := 0, slots := 0, locals := 0 }
theorem d_C_isStoredBit_0 : decode b_C_isStoredBit 0 = .ok (.iload_n 1, 1) := by decide +kernel
theorem d_C_isStoredBit_1 : decode b_C_isStoredBit 1 = .ok (.ifCond .lt 15, 3) := by decide +kernel
theorem d_C_isStoredBit_4 : decode b_C_isStoredBit 4 = .ok (.iload_n 1, 1) := by decide +kernel
theorem d_C_isStoredBit_5 : decode b_C_isStoredBit 5 = .ok (.aload_n 0, 1) := by decide +kernel
theorem d_C_isStoredBit_6 : decode b_C_isStoredBit 6 = .ok (.getfield 40, 3) := by decide +kernel
theorem d_C_isStoredBit_9 : decode b_C_isStoredBit 9 = .ok (.if_icmp .ge 7, 3) := by decide +kernel
theorem d_C_isStoredBit_12 : decode b_C_isStoredBit 12 = .ok (.iconst 1, 1) := by decide +kernel
theorem d_C_isStoredBit_13 : decode b_C_isStoredBit 13 = .ok (.goto 4, 3) := by decide +kernel
theorem d_C_isStoredBit_16 : decode b_C_isStoredBit 16 = .ok (.iconst 0, 1) := by decide +kernel
theorem d_C_isStoredBit_17 : decode b_C_isStoredBit 17 = .ok (.ireturn, 1) := by decide +kernel
abbrev w_C_findSpare : List Cond := .code y_C_findSpare b_C_findSpare 3 (some .int) :: wA
abbrev rm_C_findSpare : Room := { frames := 0, cells := 0, slots := 0, locals := 0 }
theorem d_C_findSpare_0 : decode b_C_findSpare 0 = .ok (.iconst 0, 1) := by decide +kernel
theorem d_C_findSpare_1 : decode b_C_findSpare 1 = .ok (.istore_n 2, 1) := by decide +kernel
theorem d_C_findSpare_2 : decode b_C_findSpare 2 = .ok (.iload_n 2, 1) := by decide +kernel
theorem d_C_findSpare_3 : decode b_C_findSpare 3 = .ok (.aload_n 0, 1) := by decide +kernel
theorem d_C_findSpare_4 : decode b_C_findSpare 4 = .ok (.getfield 163, 3) := by decide +kernel
theorem d_C_findSpare_7 : decode b_C_findSpare 7 = .ok (.if_icmp .ge 21, 3) := by decide +kernel
theorem d_C_findSpare_10 : decode b_C_findSpare 10 = .ok (.aload_n 0, 1) := by decide +kernel
theorem d_C_findSpare_11 : decode b_C_findSpare 11 = .ok (.getfield 64, 3) := by decide +kernel
theorem d_C_findSpare_14 : decode b_C_findSpare 14 = .ok (.iload_n 2, 1) := by decide +kernel
theorem d_C_findSpare_15 : decode b_C_findSpare 15 = .ok (.iaload, 1) := by decide +kernel
theorem d_C_findSpare_16 : decode b_C_findSpare 16 = .ok (.iload_n 1, 1) := by decide +kernel
theorem d_C_findSpare_17 : decode b_C_findSpare 17 = .ok (.if_icmp .ne 5, 3) := by decide +kernel
theorem d_C_findSpare_20 : decode b_C_findSpare 20 = .ok (.iload_n 2, 1) := by decide +kernel
theorem d_C_findSpare_21 : decode b_C_findSpare 21 = .ok (.ireturn, 1) := by decide +kernel
theorem d_C_findSpare_22 : decode b_C_findSpare 22 = .ok (.iinc 2 1, 3) := by decide +kernel
theorem d_C_findSpare_25 : decode b_C_findSpare 25 = .ok (.goto (-23), 3) := by decide +kernel
theorem d_C_findSpare_28 : decode b_C_findSpare 28 = .ok (.iconst (-1), 1) := by decide +kernel
theorem d_C_findSpare_29 : decode b_C_findSpare 29 = .ok (.ireturn, 1) := by decide +kernel
abbrev w_C_read : List Cond := .code y_C_read b_C_read 5 (some .int) :: wA
abbrev rm_C_read : Room := { frames := 7, cells := 0, slots := 0, locals := 120 }
theorem d_C_read_0 : decode b_C_read 0 = .ok (.iload_n 3, 1) := by decide +kernel
theorem d_C_read_1 : decode b_C_read 1 = .ok (.aload_n 0, 1) := by decide +kernel
theorem d_C_read_2 : decode b_C_read 2 = .ok (.getfield 47, 3) := by decide +kernel
theorem d_C_read_5 : decode b_C_read 5 = .ok (.iconst (-1), 1) := by decide +kernel
theorem d_C_read_6 : decode b_C_read 6 = .ok (.ixor, 1) := by decide +kernel
theorem d_C_read_7 : decode b_C_read 7 = .ok (.iand, 1) := by decide +kernel
theorem d_C_read_8 : decode b_C_read 8 = .ok (.ifCond .eq 13, 3) := by decide +kernel
theorem d_C_read_11 : decode b_C_read 11 = .ok (.new 103, 3) := by decide +kernel
theorem d_C_read_14 : decode b_C_read 14 = .ok (.dup, 1) := by decide +kernel
theorem d_C_read_15 : decode b_C_read 15 = .ok (.ldc 105, 2) := by decide +kernel
theorem d_C_read_17 : decode b_C_read 17 = .ok (.invokespecial 107, 3) := by decide +kernel
theorem d_C_read_20 : decode b_C_read 20 = .ok (.athrow, 1) := by decide +kernel
theorem d_C_read_21 : decode b_C_read 21 = .ok (.aload_n 0, 1) := by decide +kernel
theorem d_C_read_22 : decode b_C_read 22 = .ok (.getfield 31, 3) := by decide +kernel
theorem d_C_read_25 : decode b_C_read 25 = .ok (.iload_n 3, 1) := by decide +kernel
theorem d_C_read_26 : decode b_C_read 26 = .ok (.aload_n 0, 1) := by decide +kernel
theorem d_C_read_27 : decode b_C_read 27 = .ok (.getfield 31, 3) := by decide +kernel
theorem d_C_read_30 : decode b_C_read 30 = .ok (.lload_n 1, 1) := by decide +kernel
theorem d_C_read_31 : decode b_C_read 31 = .ok (.invokevirtual 99, 3) := by decide +kernel
theorem d_C_read_34 : decode b_C_read 34 = .ok (.ixor, 1) := by decide +kernel
theorem d_C_read_35 : decode b_C_read 35 = .ok (.aload_n 0, 1) := by decide +kernel
theorem d_C_read_36 : decode b_C_read 36 = .ok (.getfield 96, 3) := by decide +kernel
theorem d_C_read_39 : decode b_C_read 39 = .ok (.ixor, 1) := by decide +kernel
theorem d_C_read_40 : decode b_C_read 40 = .ok (.aload_n 0, 1) := by decide +kernel
theorem d_C_read_41 : decode b_C_read 41 = .ok (.getfield 53, 3) := by decide +kernel
theorem d_C_read_44 : decode b_C_read 44 = .ok (.invokevirtual 108, 3) := by decide +kernel
theorem d_C_read_47 : decode b_C_read 47 = .ok (.istore 4, 2) := by decide +kernel
theorem d_C_read_49 : decode b_C_read 49 = .ok (.aload_n 0, 1) := by decide +kernel
theorem d_C_read_50 : decode b_C_read 50 = .ok (.lload_n 1, 1) := by decide +kernel
theorem d_C_read_51 : decode b_C_read 51 = .ok (.aload_n 0, 1) := by decide +kernel
theorem d_C_read_52 : decode b_C_read 52 = .ok (.getfield 43, 3) := by decide +kernel
theorem d_C_read_55 : decode b_C_read 55 = .ok (.land, 1) := by decide +kernel
theorem d_C_read_56 : decode b_C_read 56 = .ok (.aload_n 0, 1) := by decide +kernel
theorem d_C_read_57 : decode b_C_read 57 = .ok (.getfield 53, 3) := by decide +kernel
theorem d_C_read_60 : decode b_C_read 60 = .ok (.getfield 112, 3) := by decide +kernel
theorem d_C_read_63 : decode b_C_read 63 = .ok (.lxor, 1) := by decide +kernel
theorem d_C_read_64 : decode b_C_read 64 = .ok (.putfield 115, 3) := by decide +kernel
theorem d_C_read_67 : decode b_C_read 67 = .ok (.aload_n 0, 1) := by decide +kernel
theorem d_C_read_68 : decode b_C_read 68 = .ok (.iload_n 3, 1) := by decide +kernel
theorem d_C_read_69 : decode b_C_read 69 = .ok (.aload_n 0, 1) := by decide +kernel
theorem d_C_read_70 : decode b_C_read 70 = .ok (.getfield 53, 3) := by decide +kernel
theorem d_C_read_73 : decode b_C_read 73 = .ok (.getfield 118, 3) := by decide +kernel
theorem d_C_read_76 : decode b_C_read 76 = .ok (.ixor, 1) := by decide +kernel
theorem d_C_read_77 : decode b_C_read 77 = .ok (.putfield 121, 3) := by decide +kernel
theorem d_C_read_80 : decode b_C_read 80 = .ok (.aload_n 0, 1) := by decide +kernel
theorem d_C_read_81 : decode b_C_read 81 = .ok (.aload_n 0, 1) := by decide +kernel
theorem d_C_read_82 : decode b_C_read 82 = .ok (.getfield 53, 3) := by decide +kernel
theorem d_C_read_85 : decode b_C_read 85 = .ok (.getfield 112, 3) := by decide +kernel
theorem d_C_read_88 : decode b_C_read 88 = .ok (.invokestatic 124, 3) := by decide +kernel
theorem d_C_read_91 : decode b_C_read 91 = .ok (.aload_n 0, 1) := by decide +kernel
theorem d_C_read_92 : decode b_C_read 92 = .ok (.getfield 53, 3) := by decide +kernel
theorem d_C_read_95 : decode b_C_read 95 = .ok (.getfield 118, 3) := by decide +kernel
theorem d_C_read_98 : decode b_C_read 98 = .ok (.invokestatic 129, 3) := by decide +kernel
theorem d_C_read_101 : decode b_C_read 101 = .ok (.iadd, 1) := by decide +kernel
theorem d_C_read_102 : decode b_C_read 102 = .ok (.putfield 133, 3) := by decide +kernel
theorem d_C_read_105 : decode b_C_read 105 = .ok (.iload 4, 2) := by decide +kernel
theorem d_C_read_107 : decode b_C_read 107 = .ok (.ireturn, 1) := by decide +kernel
abbrev w_C_flips : List Cond := .code y_C_flips b_C_flips 3 (some .int) :: wA
abbrev rm_C_flips : Room := { frames := 7, cells := 0, slots := 0, locals := 123 }
theorem d_C_flips_0 : decode b_C_flips 0 = .ok (.aload_n 0, 1) := by decide +kernel
theorem d_C_flips_1 : decode b_C_flips 1 = .ok (.iload_n 1, 1) := by decide +kernel
theorem d_C_flips_2 : decode b_C_flips 2 = .ok (.invokevirtual 136, 3) := by decide +kernel
theorem d_C_flips_5 : decode b_C_flips 5 = .ok (.ifCond .eq 11, 3) := by decide +kernel
theorem d_C_flips_8 : decode b_C_flips 8 = .ok (.aload_n 0, 1) := by decide +kernel
theorem d_C_flips_9 : decode b_C_flips 9 = .ok (.iload_n 2, 1) := by decide +kernel
theorem d_C_flips_10 : decode b_C_flips 10 = .ok (.invokevirtual 136, 3) := by decide +kernel
theorem d_C_flips_13 : decode b_C_flips 13 = .ok (.ifCond .ne 13, 3) := by decide +kernel
theorem d_C_flips_16 : decode b_C_flips 16 = .ok (.new 71, 3) := by decide +kernel
theorem d_C_flips_19 : decode b_C_flips 19 = .ok (.dup, 1) := by decide +kernel
theorem d_C_flips_20 : decode b_C_flips 20 = .ok (.ldc 140, 2) := by decide +kernel
theorem d_C_flips_22 : decode b_C_flips 22 = .ok (.invokespecial 75, 3) := by decide +kernel
theorem d_C_flips_25 : decode b_C_flips 25 = .ok (.athrow, 1) := by decide +kernel
theorem d_C_flips_26 : decode b_C_flips 26 = .ok (.aload_n 0, 1) := by decide +kernel
theorem d_C_flips_27 : decode b_C_flips 27 = .ok (.iload_n 1, 1) := by decide +kernel
theorem d_C_flips_28 : decode b_C_flips 28 = .ok (.iload_n 2, 1) := by decide +kernel
theorem d_C_flips_29 : decode b_C_flips 29 = .ok (.invokevirtual 142, 3) := by decide +kernel
theorem d_C_flips_32 : decode b_C_flips 32 = .ok (.ireturn, 1) := by decide +kernel
abbrev w_C_table : List Cond := .code y_C_table b_C_table 2 (some .int) :: wA
abbrev rm_C_table : Room := { frames := 7, cells := 0, slots := 0, locals := 145 }
theorem d_C_table_0 : decode b_C_table 0 = .ok (.iload_n 1, 1) := by decide +kernel
theorem d_C_table_1 : decode b_C_table 1 = .ok (.ifCond .lt 12, 3) := by decide +kernel
theorem d_C_table_4 : decode b_C_table 4 = .ok (.iload_n 1, 1) := by decide +kernel
theorem d_C_table_5 : decode b_C_table 5 = .ok (.aload_n 0, 1) := by decide +kernel
theorem d_C_table_6 : decode b_C_table 6 = .ok (.getfield 57, 3) := by decide +kernel
theorem d_C_table_9 : decode b_C_table 9 = .ok (.arraylength, 1) := by decide +kernel
theorem d_C_table_10 : decode b_C_table 10 = .ok (.if_icmp .lt 13, 3) := by decide +kernel
theorem d_C_table_13 : decode b_C_table 13 = .ok (.new 71, 3) := by decide +kernel
theorem d_C_table_16 : decode b_C_table 16 = .ok (.dup, 1) := by decide +kernel
theorem d_C_table_17 : decode b_C_table 17 = .ok (.ldc 145, 2) := by decide +kernel
theorem d_C_table_19 : decode b_C_table 19 = .ok (.invokespecial 75, 3) := by decide +kernel
theorem d_C_table_22 : decode b_C_table 22 = .ok (.athrow, 1) := by decide +kernel
theorem d_C_table_23 : decode b_C_table 23 = .ok (.aload_n 0, 1) := by decide +kernel
theorem d_C_table_24 : decode b_C_table 24 = .ok (.invokevirtual 147, 3) := by decide +kernel
theorem d_C_table_27 : decode b_C_table 27 = .ok (.aload_n 0, 1) := by decide +kernel
theorem d_C_table_28 : decode b_C_table 28 = .ok (.getfield 57, 3) := by decide +kernel
theorem d_C_table_31 : decode b_C_table 31 = .ok (.iload_n 1, 1) := by decide +kernel
theorem d_C_table_32 : decode b_C_table 32 = .ok (.iaload, 1) := by decide +kernel
theorem d_C_table_33 : decode b_C_table 33 = .ok (.ireturn, 1) := by decide +kernel
abbrev w_C_bursts : List Cond := .code y_C_bursts b_C_bursts 2 (some .boolean) :: wA
abbrev rm_C_bursts : Room := { frames := 7, cells := 0, slots := 0, locals := 170 }
theorem d_C_bursts_0 : decode b_C_bursts 0 = .ok (.iload_n 1, 1) := by decide +kernel
theorem d_C_bursts_1 : decode b_C_bursts 1 = .ok (.iconst 1, 1) := by decide +kernel
theorem d_C_bursts_2 : decode b_C_bursts 2 = .ok (.if_icmp .lt 9, 3) := by decide +kernel
theorem d_C_bursts_5 : decode b_C_bursts 5 = .ok (.iload_n 1, 1) := by decide +kernel
theorem d_C_bursts_6 : decode b_C_bursts 6 = .ok (.bipush 6, 2) := by decide +kernel
theorem d_C_bursts_8 : decode b_C_bursts 8 = .ok (.if_icmp .le 13, 3) := by decide +kernel
theorem d_C_bursts_11 : decode b_C_bursts 11 = .ok (.new 103, 3) := by decide +kernel
theorem d_C_bursts_14 : decode b_C_bursts 14 = .ok (.dup, 1) := by decide +kernel
theorem d_C_bursts_15 : decode b_C_bursts 15 = .ok (.ldc 150, 2) := by decide +kernel
theorem d_C_bursts_17 : decode b_C_bursts 17 = .ok (.invokespecial 107, 3) := by decide +kernel
theorem d_C_bursts_20 : decode b_C_bursts 20 = .ok (.athrow, 1) := by decide +kernel
theorem d_C_bursts_21 : decode b_C_bursts 21 = .ok (.aload_n 0, 1) := by decide +kernel
theorem d_C_bursts_22 : decode b_C_bursts 22 = .ok (.getfield 61, 3) := by decide +kernel
theorem d_C_bursts_25 : decode b_C_bursts 25 = .ok (.iconst (-1), 1) := by decide +kernel
theorem d_C_bursts_26 : decode b_C_bursts 26 = .ok (.if_icmp .ne 11, 3) := by decide +kernel
theorem d_C_bursts_29 : decode b_C_bursts 29 = .ok (.aload_n 0, 1) := by decide +kernel
theorem d_C_bursts_30 : decode b_C_bursts 30 = .ok (.aload_n 0, 1) := by decide +kernel
theorem d_C_bursts_31 : decode b_C_bursts 31 = .ok (.invokevirtual 152, 3) := by decide +kernel
theorem d_C_bursts_34 : decode b_C_bursts 34 = .ok (.putfield 61, 3) := by decide +kernel
theorem d_C_bursts_37 : decode b_C_bursts 37 = .ok (.iload_n 1, 1) := by decide +kernel
theorem d_C_bursts_38 : decode b_C_bursts 38 = .ok (.aload_n 0, 1) := by decide +kernel
theorem d_C_bursts_39 : decode b_C_bursts 39 = .ok (.getfield 61, 3) := by decide +kernel
theorem d_C_bursts_42 : decode b_C_bursts 42 = .ok (.if_icmp .gt 7, 3) := by decide +kernel
theorem d_C_bursts_45 : decode b_C_bursts 45 = .ok (.iconst 1, 1) := by decide +kernel
theorem d_C_bursts_46 : decode b_C_bursts 46 = .ok (.goto 4, 3) := by decide +kernel
theorem d_C_bursts_49 : decode b_C_bursts 49 = .ok (.iconst 0, 1) := by decide +kernel
theorem d_C_bursts_50 : decode b_C_bursts 50 = .ok (.ireturn, 1) := by decide +kernel
abbrev w_C_spare : List Cond := .code y_C_spare b_C_spare 4 (some .int) :: wA
abbrev rm_C_spare : Room := { frames := 7, cells := 0, slots := 0, locals := 120 }
theorem d_C_spare_0 : decode b_C_spare 0 = .ok (.iload_n 1, 1) := by decide +kernel
theorem d_C_spare_1 : decode b_C_spare 1 = .ok (.invokestatic 155, 3) := by decide +kernel
theorem d_C_spare_4 : decode b_C_spare 4 = .ok (.ifCond .ne 13, 3) := by decide +kernel
theorem d_C_spare_7 : decode b_C_spare 7 = .ok (.new 71, 3) := by decide +kernel
theorem d_C_spare_10 : decode b_C_spare 10 = .ok (.dup, 1) := by decide +kernel
theorem d_C_spare_11 : decode b_C_spare 11 = .ok (.ldc 158, 2) := by decide +kernel
theorem d_C_spare_13 : decode b_C_spare 13 = .ok (.invokespecial 75, 3) := by decide +kernel
theorem d_C_spare_16 : decode b_C_spare 16 = .ok (.athrow, 1) := by decide +kernel
theorem d_C_spare_17 : decode b_C_spare 17 = .ok (.aload_n 0, 1) := by decide +kernel
theorem d_C_spare_18 : decode b_C_spare 18 = .ok (.iload_n 1, 1) := by decide +kernel
theorem d_C_spare_19 : decode b_C_spare 19 = .ok (.invokevirtual 160, 3) := by decide +kernel
theorem d_C_spare_22 : decode b_C_spare 22 = .ok (.istore_n 2, 1) := by decide +kernel
theorem d_C_spare_23 : decode b_C_spare 23 = .ok (.iload_n 2, 1) := by decide +kernel
theorem d_C_spare_24 : decode b_C_spare 24 = .ok (.iconst (-1), 1) := by decide +kernel
theorem d_C_spare_25 : decode b_C_spare 25 = .ok (.if_icmp .eq 5, 3) := by decide +kernel
theorem d_C_spare_28 : decode b_C_spare 28 = .ok (.iload_n 2, 1) := by decide +kernel
theorem d_C_spare_29 : decode b_C_spare 29 = .ok (.ireturn, 1) := by decide +kernel
theorem d_C_spare_30 : decode b_C_spare 30 = .ok (.aload_n 0, 1) := by decide +kernel
theorem d_C_spare_31 : decode b_C_spare 31 = .ok (.getfield 163, 3) := by decide +kernel
theorem d_C_spare_34 : decode b_C_spare 34 = .ok (.aload_n 0, 1) := by decide +kernel
theorem d_C_spare_35 : decode b_C_spare 35 = .ok (.getfield 64, 3) := by decide +kernel
theorem d_C_spare_38 : decode b_C_spare 38 = .ok (.arraylength, 1) := by decide +kernel
theorem d_C_spare_39 : decode b_C_spare 39 = .ok (.if_icmp .lt 13, 3) := by decide +kernel
theorem d_C_spare_42 : decode b_C_spare 42 = .ok (.new 78, 3) := by decide +kernel
theorem d_C_spare_45 : decode b_C_spare 45 = .ok (.dup, 1) := by decide +kernel
theorem d_C_spare_46 : decode b_C_spare 46 = .ok (.ldc 166, 2) := by decide +kernel
theorem d_C_spare_48 : decode b_C_spare 48 = .ok (.invokespecial 82, 3) := by decide +kernel
theorem d_C_spare_51 : decode b_C_spare 51 = .ok (.athrow, 1) := by decide +kernel
theorem d_C_spare_52 : decode b_C_spare 52 = .ok (.aload_n 0, 1) := by decide +kernel
theorem d_C_spare_53 : decode b_C_spare 53 = .ok (.getfield 163, 3) := by decide +kernel
theorem d_C_spare_56 : decode b_C_spare 56 = .ok (.istore_n 3, 1) := by decide +kernel
theorem d_C_spare_57 : decode b_C_spare 57 = .ok (.aload_n 0, 1) := by decide +kernel
theorem d_C_spare_58 : decode b_C_spare 58 = .ok (.getfield 64, 3) := by decide +kernel
theorem d_C_spare_61 : decode b_C_spare 61 = .ok (.iload_n 3, 1) := by decide +kernel
theorem d_C_spare_62 : decode b_C_spare 62 = .ok (.iload_n 1, 1) := by decide +kernel
theorem d_C_spare_63 : decode b_C_spare 63 = .ok (.iastore, 1) := by decide +kernel
theorem d_C_spare_64 : decode b_C_spare 64 = .ok (.aload_n 0, 1) := by decide +kernel
theorem d_C_spare_65 : decode b_C_spare 65 = .ok (.iload_n 3, 1) := by decide +kernel
theorem d_C_spare_66 : decode b_C_spare 66 = .ok (.iconst 1, 1) := by decide +kernel
theorem d_C_spare_67 : decode b_C_spare 67 = .ok (.iadd, 1) := by decide +kernel
theorem d_C_spare_68 : decode b_C_spare 68 = .ok (.putfield 163, 3) := by decide +kernel
theorem d_C_spare_71 : decode b_C_spare 71 = .ok (.iload_n 3, 1) := by decide +kernel
theorem d_C_spare_72 : decode b_C_spare 72 = .ok (.ireturn, 1) := by decide +kernel
abbrev w_C_spareOf : List Cond := .code y_C_spareOf b_C_spareOf 2 (some .int) :: wA
abbrev rm_C_spareOf : Room := { frames := 7, cells := 0, slots := 0, locals := 120 }
theorem d_C_spareOf_0 : decode b_C_spareOf 0 = .ok (.iload_n 1, 1) := by decide +kernel
theorem d_C_spareOf_1 : decode b_C_spareOf 1 = .ok (.invokestatic 155, 3) := by decide +kernel
theorem d_C_spareOf_4 : decode b_C_spareOf 4 = .ok (.ifCond .ne 13, 3) := by decide +kernel
theorem d_C_spareOf_7 : decode b_C_spareOf 7 = .ok (.new 71, 3) := by decide +kernel
theorem d_C_spareOf_10 : decode b_C_spareOf 10 = .ok (.dup, 1) := by decide +kernel
theorem d_C_spareOf_11 : decode b_C_spareOf 11 = .ok (.ldc 158, 2) := by decide +kernel
theorem d_C_spareOf_13 : decode b_C_spareOf 13 = .ok (.invokespecial 75, 3) := by decide +kernel
theorem d_C_spareOf_16 : decode b_C_spareOf 16 = .ok (.athrow, 1) := by decide +kernel
theorem d_C_spareOf_17 : decode b_C_spareOf 17 = .ok (.aload_n 0, 1) := by decide +kernel
theorem d_C_spareOf_18 : decode b_C_spareOf 18 = .ok (.iload_n 1, 1) := by decide +kernel
theorem d_C_spareOf_19 : decode b_C_spareOf 19 = .ok (.invokevirtual 160, 3) := by decide +kernel
theorem d_C_spareOf_22 : decode b_C_spareOf 22 = .ok (.ireturn, 1) := by decide +kernel
abbrev w_C_share : List Cond := .code y_C_share b_C_share 5 (some .int) :: wA
abbrev rm_C_share : Room := { frames := 7, cells := 0, slots := 0, locals := 145 }
theorem d_C_share_0 : decode b_C_share 0 = .ok (.iload_n 1, 1) := by decide +kernel
theorem d_C_share_1 : decode b_C_share 1 = .ok (.ifCond .eq 18, 3) := by decide +kernel
theorem d_C_share_4 : decode b_C_share 4 = .ok (.iload_n 1, 1) := by decide +kernel
theorem d_C_share_5 : decode b_C_share 5 = .ok (.iconst 1, 1) := by decide +kernel
theorem d_C_share_6 : decode b_C_share 6 = .ok (.if_icmp .eq 13, 3) := by decide +kernel
theorem d_C_share_9 : decode b_C_share 9 = .ok (.new 71, 3) := by decide +kernel
theorem d_C_share_12 : decode b_C_share 12 = .ok (.dup, 1) := by decide +kernel
theorem d_C_share_13 : decode b_C_share 13 = .ok (.ldc 168, 2) := by decide +kernel
theorem d_C_share_15 : decode b_C_share 15 = .ok (.invokespecial 75, 3) := by decide +kernel
theorem d_C_share_18 : decode b_C_share 18 = .ok (.athrow, 1) := by decide +kernel
theorem d_C_share_19 : decode b_C_share 19 = .ok (.aload_n 0, 1) := by decide +kernel
theorem d_C_share_20 : decode b_C_share 20 = .ok (.invokevirtual 147, 3) := by decide +kernel
theorem d_C_share_23 : decode b_C_share 23 = .ok (.aload_n 0, 1) := by decide +kernel
theorem d_C_share_24 : decode b_C_share 24 = .ok (.getfield 57, 3) := by decide +kernel
theorem d_C_share_27 : decode b_C_share 27 = .ok (.bipush 7, 2) := by decide +kernel
theorem d_C_share_29 : decode b_C_share 29 = .ok (.iaload, 1) := by decide +kernel
theorem d_C_share_30 : decode b_C_share 30 = .ok (.istore_n 2, 1) := by decide +kernel
theorem d_C_share_31 : decode b_C_share 31 = .ok (.aload_n 0, 1) := by decide +kernel
theorem d_C_share_32 : decode b_C_share 32 = .ok (.getfield 40, 3) := by decide +kernel
theorem d_C_share_35 : decode b_C_share 35 = .ok (.aload_n 0, 1) := by decide +kernel
theorem d_C_share_36 : decode b_C_share 36 = .ok (.getfield 40, 3) := by decide +kernel
theorem d_C_share_39 : decode b_C_share 39 = .ok (.iconst 1, 1) := by decide +kernel
theorem d_C_share_40 : decode b_C_share 40 = .ok (.isub, 1) := by decide +kernel
theorem d_C_share_41 : decode b_C_share 41 = .ok (.imul, 1) := by decide +kernel
theorem d_C_share_42 : decode b_C_share 42 = .ok (.iconst 2, 1) := by decide +kernel
theorem d_C_share_43 : decode b_C_share 43 = .ok (.idiv, 1) := by decide +kernel
theorem d_C_share_44 : decode b_C_share 44 = .ok (.istore_n 3, 1) := by decide +kernel
theorem d_C_share_45 : decode b_C_share 45 = .ok (.iload_n 2, 1) := by decide +kernel
theorem d_C_share_46 : decode b_C_share 46 = .ok (.iload_n 3, 1) := by decide +kernel
theorem d_C_share_47 : decode b_C_share 47 = .ok (.invokestatic 170, 3) := by decide +kernel
theorem d_C_share_50 : decode b_C_share 50 = .ok (.istore 4, 2) := by decide +kernel
theorem d_C_share_52 : decode b_C_share 52 = .ok (.iload_n 3, 1) := by decide +kernel
theorem d_C_share_53 : decode b_C_share 53 = .ok (.ifCond .eq 8, 3) := by decide +kernel
theorem d_C_share_56 : decode b_C_share 56 = .ok (.iload 4, 2) := by decide +kernel
theorem d_C_share_58 : decode b_C_share 58 = .ok (.ifCond .ne 13, 3) := by decide +kernel
theorem d_C_share_61 : decode b_C_share 61 = .ok (.iload_n 1, 1) := by decide +kernel
theorem d_C_share_62 : decode b_C_share 62 = .ok (.ifCond .ne 7, 3) := by decide +kernel
theorem d_C_share_65 : decode b_C_share 65 = .ok (.iconst 0, 1) := by decide +kernel
theorem d_C_share_66 : decode b_C_share 66 = .ok (.goto 4, 3) := by decide +kernel
theorem d_C_share_69 : decode b_C_share 69 = .ok (.iconst 1, 1) := by decide +kernel
theorem d_C_share_70 : decode b_C_share 70 = .ok (.ireturn, 1) := by decide +kernel
theorem d_C_share_71 : decode b_C_share 71 = .ok (.iload_n 1, 1) := by decide +kernel
theorem d_C_share_72 : decode b_C_share 72 = .ok (.ifCond .ne 7, 3) := by decide +kernel
theorem d_C_share_75 : decode b_C_share 75 = .ok (.iload_n 2, 1) := by decide +kernel
theorem d_C_share_76 : decode b_C_share 76 = .ok (.goto 4, 3) := by decide +kernel
theorem d_C_share_79 : decode b_C_share 79 = .ok (.iload_n 3, 1) := by decide +kernel
theorem d_C_share_80 : decode b_C_share 80 = .ok (.iload 4, 2) := by decide +kernel
theorem d_C_share_82 : decode b_C_share 82 = .ok (.idiv, 1) := by decide +kernel
theorem d_C_share_83 : decode b_C_share 83 = .ok (.ireturn, 1) := by decide +kernel
abbrev rt_C_column : Room := { frames := 7, cells := 1, slots := 6, locals := 120 }
abbrev rt_C_address : Room := { frames := 7, cells := 1, slots := 6, locals := 120 }
abbrev rt_C_read : Room := { frames := 7, cells := 1, slots := 6, locals := 120 }
abbrev rt_C_flips : Room := { frames := 7, cells := 1, slots := 6, locals := 123 }
abbrev rt_C_table : Room := { frames := 7, cells := 1, slots := 6, locals := 145 }
abbrev rt_C_bursts : Room := { frames := 7, cells := 1, slots := 6, locals := 170 }
abbrev rt_C_spare : Room := { frames := 7, cells := 1, slots := 6, locals := 120 }
abbrev rt_C_spareOf : Room := { frames := 7, cells := 1, slots := 6, locals := 120 }
abbrev rt_C_share : Room := { frames := 7, cells := 1, slots := 6, locals := 145 }
set_option maxHeartbeats 4000000 in
set_option maxRecDepth 100000 in
theorem r_C_isRow (l : Launch) (D : va_G) (g : Nat → ClassId) (sz : Nat) (ws : va_W) (v : Int32) : Met l y_C_isRow w_C_isRow rm_C_isRow (va_Pc [.int (v)] (pP D (tyl g) (ws) sz)) (va_Qi (fun (r : Int32) (u : Unit) => r = nI (inBb 65536 v)) (fun _ _ => True) (fun q : Nat => sz ≤ q)) 0 0 (fun q : Nat => sz ≤ q) := by
  refine Met.ofW (cc := b_C_isRow) (maxL := 1) (ret := (some .boolean)) (by decide +kernel) rfl ?_
  intro p e s m args below meth c s₁ Bq hml hv
  have hx := Bq.exec
  have hb := Bq.bytes
  have hr := Bq.returns
  have hts : ∀ w ∈ wA, w.before args s = true := fun w h => atoms_spec (ws := w_C_isRow) Bq.pre w (List.mem_cons_of_mem _ h)
  have hown : s.vm.findClass R_C = some m.cls := findClass_of_methodNamed Bq.named
  have hlocks := Bq.notSynchronized
  obtain ⟨rfl, hsz, hP, hKK, hD0⟩ := hv
  have hK := hKK.1
  subst hsz
  have hD := hD0
  generalize hAe : (fun q : Nat => s.heap.size ≤ q) = A
  have hA : ∀ q : Nat, s.heap.size ≤ q → A q := fun q h => by rw [← hAe]; exact h
  have hS : va_S A s.heap s.heap [] := va_S.rf
  have hl := lv_entry ([.int (v)]) (n := 1) (Nat.le_of_ble_eq_true rfl)
  rw [lg_entry_eq]
  generalize (lg_sl ([.int (v)]) ++ List.replicate (1 - (lg_sl ([.int (v)])).length) Slot.unset).toArray = ls at hl ⊢
  have hl : lv_has ls 1 [(0, .int (v))] := hl
  generalize hQ : MQ below (va_Qi (fun (r : Int32) (u : Unit) => r = nI (inBb 65536 v)) (fun _ _ => True) (A)) [.int (v)].toArray s 0 0 A = Q
  refine lv_iload_n hx hb d_C_isRow_0 rfl (lv_at hl 0 rfl) ?_
  refine lv_if_lt (tgt := 14) hx hb d_C_isRow_1 (by decide) (fun c1 => ?_) (fun c1 => ?_)
  · skip
    refine lv_iconst (v := nI 0) hx hb d_C_isRow_14 (by decide) ?_
    rw [← hQ]
    refine W.zret (v := nI 0) (ty := .boolean) hx hb hr (rfl) ?_ hS.2.2 d_C_isRow_15
    exact fun t ht hW => ⟨⟨nI 0, (), rfl, (by unfold inBb; rw [if_pos c1]), trivial⟩, hS.F ht⟩
  · skip
    refine lv_iload_n hx hb d_C_isRow_4 rfl (lv_at hl 0 rfl) ?_
    refine lv_ldc (v := 65536) hx hb hown (hts _ m_560) d_C_isRow_5 ?_
    refine lv_topi (fun y1 ey1 => ?_)
    obtain rfl : y1 = nI 65536 := ey1.trans (by decide)
    refine lv_icmp_ge (tgt := 14) hx hb d_C_isRow_7 (by decide) (fun c7 => ?_) (fun c7 => ?_)
    · skip
      refine lv_iconst (v := nI 0) hx hb d_C_isRow_14 (by decide) ?_
      rw [← hQ]
      refine W.zret (v := nI 0) (ty := .boolean) hx hb hr (rfl) ?_ hS.2.2 d_C_isRow_15
      exact fun t ht hW => ⟨⟨nI 0, (), rfl, (by unfold inBb; rw [if_neg c1, if_pos c7]), trivial⟩, hS.F ht⟩
    · skip
      refine lv_iconst (v := nI 1) hx hb d_C_isRow_10 (by decide) ?_
      refine lv_goto (tgt := 15) hx hb d_C_isRow_11 (by decide) ?_
      rw [← hQ]
      refine W.zret (v := nI 1) (ty := .boolean) hx hb hr (rfl) ?_ hS.2.2 d_C_isRow_15
      exact fun t ht hW => ⟨⟨nI 1, (), rfl, (by unfold inBb; rw [if_neg c1, if_neg c7]), trivial⟩, hS.F ht⟩
set_option maxHeartbeats 4000000 in
set_option maxRecDepth 100000 in
theorem r_C_isStoredBit (l : Launch) (D : va_G) (g : Nat → ClassId) (sz : Nat) (wr : va_W) (x tn ac sp oc kd M ha af w1 c1 t1 an su : Nat) (a0 : Int64) (b0 lb : Int32) (fa fs : Nat → Int32) (hM0 : 0 < M) (hM : M ≤ 57) (v : Int32) : Met l y_C_isStoredBit w_C_isStoredBit rm_C_isStoredBit (va_Pc [.ref x, .int (v)] (pP D (tyl g) ((tn, .inr (5, [.long (a0), .int (b0)])) :: (x, .inr (0, [.int (nI kd), .int (nI M), .int (nI (M + ckb kd M)), .long (lN (2 ^ M - 1)), .int (nI (2 ^ ckb kd M - 1)), .ref oc, .ref tn, .int (nI ha), .int (nI af), .long (lN w1), .int (nI c1), .int (nI t1), .ref ac, .int (nI an), .int (lb), .ref sp, .int (nI su)])) :: (ac, .inl (g 0, 8, .inl (fa))) :: (sp, .inl (g 0, 8, .inl (fs))) :: wr) sz)) (va_Qi (fun (r : Int32) (u : Unit) => r = nI (inBb (M + ckb kd M) v)) (fun _ _ => True) (fun q : Nat => sz ≤ q)) 0 0 (fun q : Nat => sz ≤ q) := by
  refine Met.ofW (cc := b_C_isStoredBit) (maxL := 2) (ret := (some .boolean)) (by decide +kernel) rfl ?_
  intro p e s m args below meth c s₁ Bq hml hv
  have hx := Bq.exec
  have hb := Bq.bytes
  have hr := Bq.returns
  have hts : ∀ w ∈ wA, w.before args s = true := fun w h => atoms_spec (ws := w_C_isStoredBit) Bq.pre w (List.mem_cons_of_mem _ h)
  have hown : s.vm.findClass R_C = some m.cls := findClass_of_methodNamed Bq.named
  have hlocks := Bq.notSynchronized
  obtain ⟨rfl, hsz, hP, hKK, hD0⟩ := hv
  have hK := hKK.1
  subst hsz
  have hD := hD0
  generalize hAe : (fun q : Nat => s.heap.size ≤ q) = A
  have hA : ∀ q : Nat, s.heap.size ≤ q → A q := fun q h => by rw [← hAe]; exact h
  have hS : va_S A s.heap s.heap [] := va_S.rf
  have hl := lv_entry ([.ref x, .int (v)]) (n := 2) (Nat.le_of_ble_eq_true rfl)
  rw [lg_entry_eq]
  generalize (lg_sl ([.ref x, .int (v)]) ++ List.replicate (2 - (lg_sl ([.ref x, .int (v)])).length) Slot.unset).toArray = ls at hl ⊢
  have hl : lv_has ls 2 [(0, .ref x), (1, .int (v))] := hl
  generalize hQ : MQ below (va_Qi (fun (r : Int32) (u : Unit) => r = nI (inBb (M + ckb kd M) v)) (fun _ _ => True) (A)) [.ref x, .int (v)].toArray s 0 0 A = Q
  refine lv_iload_n hx hb d_C_isStoredBit_0 rfl (lv_at hl 1 rfl) ?_
  refine lv_if_lt (tgt := 16) hx hb d_C_isStoredBit_1 (by decide) (fun c1 => ?_) (fun c1 => ?_)
  · skip
    refine lv_iconst (v := nI 0) hx hb d_C_isStoredBit_16 (by decide) ?_
    rw [← hQ]
    refine W.zret (v := nI 0) (ty := .boolean) hx hb hr (rfl) ?_ hS.2.2 d_C_isStoredBit_17
    exact fun t ht hW => ⟨⟨nI 0, (), rfl, (by unfold inBb; rw [if_pos c1]), trivial⟩, hS.F ht⟩
  · skip
    refine lv_iload_n hx hb d_C_isStoredBit_4 rfl (lv_at hl 1 rfl) ?_
    refine lv_aload_n hx hb d_C_isStoredBit_5 rfl (lv_at hl 0 rfl) ?_
    refine va_get (D := D) (ci := 0) (v := .int (nI (M + ckb kd M))) (C := R_C) (T := F_C) (N := 17) hx hb hts i_C hown hK hP 1 rfl rfl 2 (by decide) (hts _ m_208) (fun _ h9 => h9) rfl d_C_isStoredBit_6 ?_
    refine lv_icmp_ge (tgt := 16) hx hb d_C_isStoredBit_9 (by decide) (fun c9 => ?_) (fun c9 => ?_)
    · skip
      refine lv_iconst (v := nI 0) hx hb d_C_isStoredBit_16 (by decide) ?_
      rw [← hQ]
      refine W.zret (v := nI 0) (ty := .boolean) hx hb hr (rfl) ?_ hS.2.2 d_C_isStoredBit_17
      exact fun t ht hW => ⟨⟨nI 0, (), rfl, (by unfold inBb; rw [if_neg c1, if_pos c9]), trivial⟩, hS.F ht⟩
    · skip
      refine lv_iconst (v := nI 1) hx hb d_C_isStoredBit_12 (by decide) ?_
      refine lv_goto (tgt := 17) hx hb d_C_isStoredBit_13 (by decide) ?_
      rw [← hQ]
      refine W.zret (v := nI 1) (ty := .boolean) hx hb hr (rfl) ?_ hS.2.2 d_C_isStoredBit_17
      exact fun t ht hW => ⟨⟨nI 1, (), rfl, (by unfold inBb; rw [if_neg c1, if_neg c9]), trivial⟩, hS.F ht⟩
set_option maxHeartbeats 4000000 in
set_option maxRecDepth 100000 in
theorem r_C_findSpare (l : Launch) (D : va_G) (g : Nat → ClassId) (sz : Nat) (wr : va_W) (x tn ac sp oc kd M ha af w1 c1 t1 an su : Nat) (a0 : Int64) (b0 lb : Int32) (fa fs : Nat → Int32) (hM0 : 0 < M) (hM : M ≤ 57) (v : Int32) (hsu : su ≤ 8) : Met l y_C_findSpare w_C_findSpare rm_C_findSpare (va_Pc [.ref x, .int (v)] (pP D (tyl g) ((tn, .inr (5, [.long (a0), .int (b0)])) :: (x, .inr (0, [.int (nI kd), .int (nI M), .int (nI (M + ckb kd M)), .long (lN (2 ^ M - 1)), .int (nI (2 ^ ckb kd M - 1)), .ref oc, .ref tn, .int (nI ha), .int (nI af), .long (lN w1), .int (nI c1), .int (nI t1), .ref ac, .int (nI an), .int (lb), .ref sp, .int (nI su)])) :: (ac, .inl (g 0, 8, .inl (fa))) :: (sp, .inl (g 0, 8, .inl (fs))) :: wr) sz)) (va_Qi (fun (r : Int32) (u : Unit) => (∃ i, i < su ∧ r = nI i ∧ fs i = v ∧ ∀ i9, i9 < i → ¬ fs i9 = v) ∨ (r = -1 ∧ ∀ i9, i9 < su → ¬ fs i9 = v)) (fun _ _ => True) (fun q : Nat => sz ≤ q)) 0 0 (fun q : Nat => sz ≤ q) := by
  refine Met.ofW (cc := b_C_findSpare) (maxL := 3) (ret := (some .int)) (by decide +kernel) rfl ?_
  intro p e s m args below meth c s₁ Bq hml hv
  have hx := Bq.exec
  have hb := Bq.bytes
  have hr := Bq.returns
  have hts : ∀ w ∈ wA, w.before args s = true := fun w h => atoms_spec (ws := w_C_findSpare) Bq.pre w (List.mem_cons_of_mem _ h)
  have hown : s.vm.findClass R_C = some m.cls := findClass_of_methodNamed Bq.named
  have hlocks := Bq.notSynchronized
  obtain ⟨rfl, hsz, hP, hKK, hD0⟩ := hv
  have hK := hKK.1
  subst hsz
  have hD := hD0
  generalize hAe : (fun q : Nat => s.heap.size ≤ q) = A
  have hA : ∀ q : Nat, s.heap.size ≤ q → A q := fun q h => by rw [← hAe]; exact h
  have hS : va_S A s.heap s.heap [] := va_S.rf
  have hl := lv_entry ([.ref x, .int (v)]) (n := 3) (Nat.le_of_ble_eq_true rfl)
  rw [lg_entry_eq]
  generalize (lg_sl ([.ref x, .int (v)]) ++ List.replicate (3 - (lg_sl ([.ref x, .int (v)])).length) Slot.unset).toArray = ls at hl ⊢
  have hl : lv_has ls 3 [(0, .ref x), (1, .int (v))] := hl
  generalize hQ : MQ below (va_Qi (fun (r : Int32) (u : Unit) => (∃ i, i < su ∧ r = nI i ∧ fs i = v ∧ ∀ i9, i9 < i → ¬ fs i9 = v) ∨ (r = -1 ∧ ∀ i9, i9 < su → ¬ fs i9 = v)) (fun _ _ => True) (A)) [.ref x, .int (v)].toArray s 0 0 A = Q
  have lp2 : ∀ (n : Nat) (k : Nat) (ls : Array Slot) (H : Heap) (locs : List Loc), (su + 1 ≤ k + n) → (∀ j, j < k → ¬ fs j = v) → (k ≤ su) → lv_has ls 3 [(0, .ref x), (1, .int (v)), (2, .int (nI k))] → va_P D vwCl ((tn, .inr (5, [.long (a0), .int (b0)])) :: (x, .inr (0, [.int (nI kd), .int (nI M), .int (nI (M + ckb kd M)), .long (lN (2 ^ M - 1)), .int (nI (2 ^ ckb kd M - 1)), .ref oc, .ref tn, .int (nI ha), .int (nI af), .long (lN w1), .int (nI c1), .int (nI t1), .ref ac, .int (nI an), .int (lb), .ref sp, .int (nI su)])) :: (ac, .inl (g 0, 8, .inl (fa))) :: (sp, .inl (g 0, 8, .inl (fs))) :: wr) H → va_D (fun _ => True) ((tn, .inr (5, [.long (a0), .int (b0)])) :: (x, .inr (0, [.int (nI kd), .int (nI M), .int (nI (M + ckb kd M)), .long (lN (2 ^ M - 1)), .int (nI (2 ^ ckb kd M - 1)), .ref oc, .ref tn, .int (nI ha), .int (nI af), .long (lN w1), .int (nI c1), .int (nI t1), .ref ac, .int (nI an), .int (lb), .ref sp, .int (nI su)])) :: (ac, .inl (g 0, 8, .inl (fa))) :: (sp, .inl (g 0, 8, .inl (fs))) :: wr) → va_S A s.heap H locs → W p l e (headSpec w_C_findSpare rm_C_findSpare).room s m [.ref x, .int (v)].toArray below meth c H locs 0 0 Q (F0 m 2 ls []) := by
    intro n
    induction n with
    | zero => intro k ls H locs hfu hno hk _ _ _ _; exact absurd hfu (by omega)
    | succ n ih =>
      intro k ls H locs hfu hno hk hl hP hD hS
      refine lv_iload_n hx hb d_C_findSpare_2 rfl (lv_at hl 2 rfl) ?_
      refine lv_aload_n hx hb d_C_findSpare_3 rfl (lv_at hl 0 rfl) ?_
      refine va_get (D := D) (ci := 0) (v := .int (nI su)) (C := R_C) (T := F_C) (N := 17) hx hb hts i_C hown hK hP 1 rfl rfl 16 (by decide) (hts _ m_222) (fun _ h9 => h9) rfl d_C_findSpare_4 ?_
      refine lx_icmp_ge (tgt := 28) hx hb d_C_findSpare_7 (by decide) (by omega) (by omega) (fun c7 => ?_) (fun c7 => ?_)
      · skip
        refine lv_iconst (v := (-1)) hx hb d_C_findSpare_28 (by decide) ?_
        rw [← hQ]
        refine W.iret (v := (-1)) hx hb hr ?_ hS.2.2 d_C_findSpare_29
        exact fun t ht hW => ⟨⟨(-1), (), rfl, Or.inr ⟨rfl, fun j hj => hno j (by omega)⟩, trivial⟩, hS.F ht⟩
      · skip
        refine lv_aload_n hx hb d_C_findSpare_10 rfl (lv_at hl 0 rfl) ?_
        refine va_get (D := D) (ci := 0) (v := .ref sp) (C := R_C) (T := F_C) (N := 17) hx hb hts i_C hown hK hP 1 rfl rfl 15 (by decide) (hts _ m_221) (fun _ h9 => h9) rfl d_C_findSpare_11 ?_
        refine lv_iload_n hx hb d_C_findSpare_14 rfl (lv_at hl 2 rfl) ?_
        refine lx_iald (v := fs k) hx hb hK hP 3 0 rfl rfl (j := k) (by omega) (by omega) (rfl) d_C_findSpare_15 ?_
        refine lv_iload_n hx hb d_C_findSpare_16 rfl (lv_at hl 1 rfl) ?_
        refine lv_icmp_ne (tgt := 22) hx hb d_C_findSpare_17 (by decide) (fun c17 => ?_) (fun c17 => ?_)
        · skip
          refine lv_iinc (v := nI (k + 1)) (lv' := [(2, .int (nI (k + 1))), (0, .ref x), (1, .int (v))]) hx hb d_C_findSpare_22 hl (k := 2) rfl (nI_1 k) (by decide) rfl (fun ls hl => ?_)
          refine lv_goto (tgt := 2) hx hb d_C_findSpare_25 (by decide) ?_
          exact ih (k + 1) _ _ _ (by omega) (fun j hj => by rcases Nat.lt_or_ge j k with q | q; exact hno j q; rw [show j = k by omega]; exact c17) (by omega) (lv_sub hl [1, 2, 0] rfl) hP hD hS
        · skip
          refine lv_iload_n hx hb d_C_findSpare_20 rfl (lv_at hl 2 rfl) ?_
          rw [← hQ]
          refine W.iret (v := nI k) hx hb hr ?_ hS.2.2 d_C_findSpare_21
          exact fun t ht hW => ⟨⟨nI k, (), rfl, Or.inl ⟨k, c7, rfl, c17, hno⟩, trivial⟩, hS.F ht⟩
  refine lv_iconst (v := nI 0) hx hb d_C_findSpare_0 (by decide) ?_
  refine lv_istore_n (lv' := [(2, .int (nI 0)), (0, .ref x), (1, .int (v))]) hx hb d_C_findSpare_1 rfl hl (by decide) rfl (fun ls hl => ?_)
  exact lp2 (su + 1) 0 _ _ _ (by omega) (fun j hj => by omega) (by omega) (lv_sub hl [1, 2, 0] rfl) hP hD hS
set_option maxHeartbeats 4000000 in
set_option maxRecDepth 100000 in
theorem t_C_column (l : Launch) (hlt : l.stackTraces = false) (D : va_G) (g : Nat → ClassId) (sz : Nat) (wr : va_W) (x tn ac sp oc kd M ha af w1 c1 t1 an su : Nat) (a0 : Int64) (b0 lb : Int32) (fa fs : Nat → Int32) (hM0 : 0 < M) (hM : M ≤ 57) (v : Int32) (hv9 : inBb M v = 0) : tMet l y_C_column w_C_column rt_C_column (va_Pc [.ref x, .int (v)] (pPT D (tyl g) ((tn, .inr (5, [.long (a0), .int (b0)])) :: (x, .inr (0, [.int (nI kd), .int (nI M), .int (nI (M + ckb kd M)), .long (lN (2 ^ M - 1)), .int (nI (2 ^ ckb kd M - 1)), .ref oc, .ref tn, .int (nI ha), .int (nI af), .long (lN w1), .int (nI c1), .int (nI t1), .ref ac, .int (nI an), .int (lb), .ref sp, .int (nI su)])) :: (ac, .inl (g 0, 8, .inl (fa))) :: (sp, .inl (g 0, 8, .inl (fs))) :: wr) sz)) exI 1 6 := by
  refine tMet.ofW (cc := b_C_column) (maxL := 2) (ret := (some .int)) (by decide +kernel) rfl ?_
  intro p e s m args below meth c s₁ Bq hml hv
  have hx := Bq.exec
  have hb := Bq.bytes
  have hr := Bq.returns
  have hts : ∀ w ∈ wA, w.before args s = true := fun w h => atoms_spec (ws := w_C_column) Bq.pre w (List.mem_cons_of_mem _ h)
  have hown : s.vm.findClass R_C = some m.cls := findClass_of_methodNamed Bq.named
  have hlocks := Bq.notSynchronized
  have htab := tab_of Bq (ws := wA) rfl
  obtain ⟨rfl, ⟨hsz, hP, hKK, hD⟩, hTK, hTS⟩ := hv
  have hK := hKK.1
  subst hsz
  have hA : ∀ q : Nat, s.heap.size ≤ q → (fun q : Nat => s.heap.size ≤ q) q := fun q h => h
  have hS : va_S (fun q : Nat => s.heap.size ≤ q) s.heap s.heap [] := va_S.rf
  have hl := lv_entry ([.ref x, .int (v)]) (n := 2) (Nat.le_of_ble_eq_true rfl)
  rw [lg_entry_eq]
  generalize (lg_sl ([.ref x, .int (v)]) ++ List.replicate (2 - (lg_sl ([.ref x, .int (v)])).length) Slot.unset).toArray = ls at hl ⊢
  have hl : lv_has ls 2 [(0, .ref x), (1, .int (v))] := hl
  refine lv_iload_n hx hb d_C_column_0 rfl (lv_at hl 1 rfl) ?_
  refine lv_if_lt (tgt := 12) hx hb d_C_column_1 (by decide) (fun k1 => ?_) (fun k1 => ?_)
  · skip
    refine lt_throw (own := "CheckCodes") (A := va_A ((tn, .inr (5, [.long (a0), .int (b0)])) :: (x, .inr (0, [.int (nI kd), .int (nI M), .int (nI (M + ckb kd M)), .long (lN (2 ^ M - 1)), .int (nI (2 ^ ckb kd M - 1)), .ref oc, .ref tn, .int (nI ha), .int (nI af), .long (lN w1), .int (nI c1), .int (nI t1), .ref ac, .int (nI an), .int (lb), .ref sp, .int (nI su)])) :: (ac, .inl (g 0, 8, .inl (fa))) :: (sp, .inl (g 0, 8, .inl (fs))) :: wr) s.heap.size) hx hb hlt hown (by decide +kernel) (hts _ m_317) (hts _ m_44) (hTK.2.2 (73, "the word has no such bit") (by simp [thS])) (th_words (by simp) th_I tg_I hts hTK hTS) hS (hl.1.trans hml.symm) htab d_C_column_12 d_C_column_15 d_C_column_16 d_C_column_18 d_C_column_21 (Nat.le_of_ble_eq_true rfl) (Nat.le_of_ble_eq_true rfl) (Nat.le_of_ble_eq_true rfl) (Nat.le_of_ble_eq_true rfl) hlocks (Nat.le_refl _) (Nat.le_refl _)
  · skip
    refine lv_iload_n hx hb d_C_column_4 rfl (lv_at hl 1 rfl) ?_
    refine lv_aload_n hx hb d_C_column_5 rfl (lv_at hl 0 rfl) ?_
    refine va_get (D := D) (ci := 0) (v := .int (nI M)) (C := R_C) (T := F_C) (N := 17) hx hb hts i_C hown hK hP 1 rfl rfl 1 (by decide) (hts _ m_207) (fun _ h9 => h9) rfl d_C_column_6 ?_
    refine lv_icmp_lt (tgt := 22) hx hb d_C_column_9 (by decide) (fun c9 => ?_) (fun c9 => ?_)
    · skip
      exact (inBb_no (by omega) hv9 k1 c9).elim
    · skip
      refine lt_throw (own := "CheckCodes") (A := va_A ((tn, .inr (5, [.long (a0), .int (b0)])) :: (x, .inr (0, [.int (nI kd), .int (nI M), .int (nI (M + ckb kd M)), .long (lN (2 ^ M - 1)), .int (nI (2 ^ ckb kd M - 1)), .ref oc, .ref tn, .int (nI ha), .int (nI af), .long (lN w1), .int (nI c1), .int (nI t1), .ref ac, .int (nI an), .int (lb), .ref sp, .int (nI su)])) :: (ac, .inl (g 0, 8, .inl (fa))) :: (sp, .inl (g 0, 8, .inl (fs))) :: wr) s.heap.size) hx hb hlt hown (by decide +kernel) (hts _ m_317) (hts _ m_44) (hTK.2.2 (73, "the word has no such bit") (by simp [thS])) (th_words (by simp) th_I tg_I hts hTK hTS) hS (hl.1.trans hml.symm) htab d_C_column_12 d_C_column_15 d_C_column_16 d_C_column_18 d_C_column_21 (Nat.le_of_ble_eq_true rfl) (Nat.le_of_ble_eq_true rfl) (Nat.le_of_ble_eq_true rfl) (Nat.le_of_ble_eq_true rfl) hlocks (Nat.le_refl _) (Nat.le_refl _)
set_option maxHeartbeats 4000000 in
set_option maxRecDepth 100000 in
theorem u_C_column (l : Launch) (hlt : l.stackTraces = false) (D : va_G) (g : Nat → ClassId) (sz : Nat) (wr : va_W) (x tn ac sp oc kd M ha af w1 c1 t1 an su : Nat) (a0 : Int64) (b0 lb : Int32) (fa fs : Nat → Int32) (hM0 : 0 < M) (hM : M ≤ 57) (j : Nat) (hj : j < M) (hk2 : kd = 2) : tMet l y_C_column w_C_column rt_C_column (va_Pc [.ref x, .int (nI j)] (pPT D (tyl g) ((tn, .inr (5, [.long (a0), .int (b0)])) :: (x, .inr (0, [.int (nI kd), .int (nI M), .int (nI (M + ckb kd M)), .long (lN (2 ^ M - 1)), .int (nI (2 ^ ckb kd M - 1)), .ref oc, .ref tn, .int (nI ha), .int (nI af), .long (lN w1), .int (nI c1), .int (nI t1), .ref ac, .int (nI an), .int (lb), .ref sp, .int (nI su)])) :: (ac, .inl (g 0, 8, .inl (fa))) :: (sp, .inl (g 0, 8, .inl (fs))) :: wr) sz)) exU 1 6 := by
  refine tMet.ofW (cc := b_C_column) (maxL := 2) (ret := (some .int)) (by decide +kernel) rfl ?_
  intro p e s m args below meth c s₁ Bq hml hv
  have hx := Bq.exec
  have hb := Bq.bytes
  have hr := Bq.returns
  have hts : ∀ w ∈ wA, w.before args s = true := fun w h => atoms_spec (ws := w_C_column) Bq.pre w (List.mem_cons_of_mem _ h)
  have hown : s.vm.findClass R_C = some m.cls := findClass_of_methodNamed Bq.named
  have hlocks := Bq.notSynchronized
  have htab := tab_of Bq (ws := wA) rfl
  obtain ⟨rfl, ⟨hsz, hP, hKK, hD⟩, hTK, hTS⟩ := hv
  have hK := hKK.1
  subst hsz
  have hA : ∀ q : Nat, s.heap.size ≤ q → (fun q : Nat => s.heap.size ≤ q) q := fun q h => h
  have hS : va_S (fun q : Nat => s.heap.size ≤ q) s.heap s.heap [] := va_S.rf
  have hl := lv_entry ([.ref x, .int (nI j)]) (n := 2) (Nat.le_of_ble_eq_true rfl)
  rw [lg_entry_eq]
  generalize (lg_sl ([.ref x, .int (nI j)]) ++ List.replicate (2 - (lg_sl ([.ref x, .int (nI j)])).length) Slot.unset).toArray = ls at hl ⊢
  have hl : lv_has ls 2 [(0, .ref x), (1, .int (nI j))] := hl
  refine lv_iload_n hx hb d_C_column_0 rfl (lv_at hl 1 rfl) ?_
  refine lx_if_lt (tgt := 12) hx hb d_C_column_1 (by decide) (by omega) ?_
  refine lv_iload_n hx hb d_C_column_4 rfl (lv_at hl 1 rfl) ?_
  refine lv_aload_n hx hb d_C_column_5 rfl (lv_at hl 0 rfl) ?_
  refine va_get (D := D) (ci := 0) (v := .int (nI M)) (C := R_C) (T := F_C) (N := 17) hx hb hts i_C hown hK hP 1 rfl rfl 1 (by decide) (hts _ m_207) (fun _ h9 => h9) rfl d_C_column_6 ?_
  refine lx_icmp_lt (tgt := 22) hx hb d_C_column_9 (by decide) (by omega) (by omega) (fun c9 => ?_) (fun c9 => ?_)
  · skip
    refine lv_aload_n hx hb d_C_column_22 rfl (lv_at hl 0 rfl) ?_
    refine va_get (D := D) (ci := 0) (v := .int (nI kd)) (C := R_C) (T := F_C) (N := 17) hx hb hts i_C hown hK hP 1 rfl rfl 0 (by decide) (hts _ m_206) (fun _ h9 => h9) rfl d_C_column_23 ?_
    refine lv_iconst (v := nI 2) hx hb d_C_column_26 (by decide) ?_
    refine lx_icmp_ne (tgt := 40) hx hb d_C_column_27 (by decide) (by omega) (by omega) (fun c27 => ?_) (fun c27 => ?_)
    · skip
      exact absurd hk2 c27
    · skip
      refine lt_throw (own := "CheckCodes") (A := va_A ((tn, .inr (5, [.long (a0), .int (b0)])) :: (x, .inr (0, [.int (nI kd), .int (nI M), .int (nI (M + ckb kd M)), .long (lN (2 ^ M - 1)), .int (nI (2 ^ ckb kd M - 1)), .ref oc, .ref tn, .int (nI ha), .int (nI af), .long (lN w1), .int (nI c1), .int (nI t1), .ref ac, .int (nI an), .int (lb), .ref sp, .int (nI su)])) :: (ac, .inl (g 0, 8, .inl (fa))) :: (sp, .inl (g 0, 8, .inl (fs))) :: wr) s.heap.size) hx hb hlt hown (by decide +kernel) (hts _ m_385) (hts _ m_45) (hTK.2.2 (80, "codes of nibbles have no columns") (by simp [thS])) (th_words (by simp) th_U tg_U hts hTK hTS) hS (hl.1.trans hml.symm) htab d_C_column_30 d_C_column_33 d_C_column_34 d_C_column_36 d_C_column_39 (Nat.le_of_ble_eq_true rfl) (Nat.le_of_ble_eq_true rfl) (Nat.le_of_ble_eq_true rfl) (Nat.le_of_ble_eq_true rfl) hlocks (Nat.le_refl _) (Nat.le_refl _)
  · skip
    exact absurd hj (by omega)
set_option maxHeartbeats 4000000 in
set_option maxRecDepth 100000 in
theorem u_C_address (l : Launch) (hlt : l.stackTraces = false) (D : va_G) (g : Nat → ClassId) (sz : Nat) (wr : va_W) (x tn ac sp oc kd M ha af w1 c1 t1 an su : Nat) (a0 : Int64) (b0 lb : Int32) (fa fs : Nat → Int32) (hM0 : 0 < M) (hM : M ≤ 57) (v : Int32) (hk9 : kd = 1 ∨ kd = 2) : tMet l y_C_address w_C_address rt_C_address (va_Pc [.ref x, .int (v)] (pPT D (tyl g) ((tn, .inr (5, [.long (a0), .int (b0)])) :: (x, .inr (0, [.int (nI kd), .int (nI M), .int (nI (M + ckb kd M)), .long (lN (2 ^ M - 1)), .int (nI (2 ^ ckb kd M - 1)), .ref oc, .ref tn, .int (nI ha), .int (nI af), .long (lN w1), .int (nI c1), .int (nI t1), .ref ac, .int (nI an), .int (lb), .ref sp, .int (nI su)])) :: (ac, .inl (g 0, 8, .inl (fa))) :: (sp, .inl (g 0, 8, .inl (fs))) :: wr) sz)) exU 1 6 := by
  refine tMet.ofW (cc := b_C_address) (maxL := 3) (ret := (some .boolean)) (by decide +kernel) rfl ?_
  intro p e s m args below meth c s₁ Bq hml hv
  have hx := Bq.exec
  have hb := Bq.bytes
  have hr := Bq.returns
  have hts : ∀ w ∈ wA, w.before args s = true := fun w h => atoms_spec (ws := w_C_address) Bq.pre w (List.mem_cons_of_mem _ h)
  have hown : s.vm.findClass R_C = some m.cls := findClass_of_methodNamed Bq.named
  have hlocks := Bq.notSynchronized
  have htab := tab_of Bq (ws := wA) rfl
  obtain ⟨rfl, ⟨hsz, hP, hKK, hD⟩, hTK, hTS⟩ := hv
  have hK := hKK.1
  subst hsz
  have hA : ∀ q : Nat, s.heap.size ≤ q → (fun q : Nat => s.heap.size ≤ q) q := fun q h => h
  have hS : va_S (fun q : Nat => s.heap.size ≤ q) s.heap s.heap [] := va_S.rf
  have hl := lv_entry ([.ref x, .int (v)]) (n := 3) (Nat.le_of_ble_eq_true rfl)
  rw [lg_entry_eq]
  generalize (lg_sl ([.ref x, .int (v)]) ++ List.replicate (3 - (lg_sl ([.ref x, .int (v)])).length) Slot.unset).toArray = ls at hl ⊢
  have hl : lv_has ls 3 [(0, .ref x), (1, .int (v))] := hl
  refine lv_aload_n hx hb d_C_address_0 rfl (lv_at hl 0 rfl) ?_
  refine va_get (D := D) (ci := 0) (v := .int (nI kd)) (C := R_C) (T := F_C) (N := 17) hx hb hts i_C hown hK hP 1 rfl rfl 0 (by decide) (hts _ m_206) (fun _ h9 => h9) rfl d_C_address_1 ?_
  refine lv_iconst (v := nI 1) hx hb d_C_address_4 (by decide) ?_
  refine lx_icmp_eq (tgt := 16) hx hb d_C_address_5 (by decide) (by omega) (by omega) (fun c5 => ?_) (fun c5 => ?_)
  · skip
    refine lt_throw (own := "CheckCodes") (A := va_A ((tn, .inr (5, [.long (a0), .int (b0)])) :: (x, .inr (0, [.int (nI kd), .int (nI M), .int (nI (M + ckb kd M)), .long (lN (2 ^ M - 1)), .int (nI (2 ^ ckb kd M - 1)), .ref oc, .ref tn, .int (nI ha), .int (nI af), .long (lN w1), .int (nI c1), .int (nI t1), .ref ac, .int (nI an), .int (lb), .ref sp, .int (nI su)])) :: (ac, .inl (g 0, 8, .inl (fa))) :: (sp, .inl (g 0, 8, .inl (fs))) :: wr) s.heap.size) hx hb hlt hown (by decide +kernel) (hts _ m_385) (hts _ m_45) (hTK.2.2 (87, "this kind folds no address in") (by simp [thS])) (th_words (by simp) th_U tg_U hts hTK hTS) hS (hl.1.trans hml.symm) htab d_C_address_16 d_C_address_19 d_C_address_20 d_C_address_22 d_C_address_25 (Nat.le_of_ble_eq_true rfl) (Nat.le_of_ble_eq_true rfl) (Nat.le_of_ble_eq_true rfl) (Nat.le_of_ble_eq_true rfl) hlocks (Nat.le_refl _) (Nat.le_refl _)
  · skip
    refine lv_aload_n hx hb d_C_address_8 rfl (lv_at hl 0 rfl) ?_
    refine va_get (D := D) (ci := 0) (v := .int (nI kd)) (C := R_C) (T := F_C) (N := 17) hx hb hts i_C hown hK hP 1 rfl rfl 0 (by decide) (hts _ m_206) (fun _ h9 => h9) rfl d_C_address_9 ?_
    refine lv_iconst (v := nI 2) hx hb d_C_address_12 (by decide) ?_
    refine lx_icmp_ne (tgt := 26) hx hb d_C_address_13 (by decide) (by omega) (by omega) (fun c13 => ?_) (fun c13 => ?_)
    · skip
      exact (hk9.elim c5 c13).elim
    · skip
      refine lt_throw (own := "CheckCodes") (A := va_A ((tn, .inr (5, [.long (a0), .int (b0)])) :: (x, .inr (0, [.int (nI kd), .int (nI M), .int (nI (M + ckb kd M)), .long (lN (2 ^ M - 1)), .int (nI (2 ^ ckb kd M - 1)), .ref oc, .ref tn, .int (nI ha), .int (nI af), .long (lN w1), .int (nI c1), .int (nI t1), .ref ac, .int (nI an), .int (lb), .ref sp, .int (nI su)])) :: (ac, .inl (g 0, 8, .inl (fa))) :: (sp, .inl (g 0, 8, .inl (fs))) :: wr) s.heap.size) hx hb hlt hown (by decide +kernel) (hts _ m_385) (hts _ m_45) (hTK.2.2 (87, "this kind folds no address in") (by simp [thS])) (th_words (by simp) th_U tg_U hts hTK hTS) hS (hl.1.trans hml.symm) htab d_C_address_16 d_C_address_19 d_C_address_20 d_C_address_22 d_C_address_25 (Nat.le_of_ble_eq_true rfl) (Nat.le_of_ble_eq_true rfl) (Nat.le_of_ble_eq_true rfl) (Nat.le_of_ble_eq_true rfl) hlocks (Nat.le_refl _) (Nat.le_refl _)
set_option maxHeartbeats 4000000 in
set_option maxRecDepth 100000 in
theorem t_C_read (l : Launch) (hlt : l.stackTraces = false) (D : va_G) (g : Nat → ClassId) (sz : Nat) (wr : va_W) (x tn ac sp oc kd M ha af w1 c1 t1 an su : Nat) (a0 : Int64) (b0 lb : Int32) (fa fs : Nat → Int32) (hM0 : 0 < M) (hM : M ≤ 57) (wv : Int64) (y : Nat) (hy : y < 2 ^ 32) (hy9 : 2 ^ ckb kd M ≤ y) : tMet l y_C_read w_C_read rt_C_read (va_Pc [.ref x, .long (wv), .int (nI y)] (pPT D (tyl g) ((tn, .inr (5, [.long (a0), .int (b0)])) :: (x, .inr (0, [.int (nI kd), .int (nI M), .int (nI (M + ckb kd M)), .long (lN (2 ^ M - 1)), .int (nI (2 ^ ckb kd M - 1)), .ref oc, .ref tn, .int (nI ha), .int (nI af), .long (lN w1), .int (nI c1), .int (nI t1), .ref ac, .int (nI an), .int (lb), .ref sp, .int (nI su)])) :: (ac, .inl (g 0, 8, .inl (fa))) :: (sp, .inl (g 0, 8, .inl (fs))) :: wr) sz)) exA 1 6 := by
  refine tMet.ofW (cc := b_C_read) (maxL := 5) (ret := (some .int)) (by decide +kernel) rfl ?_
  intro p e s m args below meth c s₁ Bq hml hv
  have hx := Bq.exec
  have hb := Bq.bytes
  have hr := Bq.returns
  have hts : ∀ w ∈ wA, w.before args s = true := fun w h => atoms_spec (ws := w_C_read) Bq.pre w (List.mem_cons_of_mem _ h)
  have hown : s.vm.findClass R_C = some m.cls := findClass_of_methodNamed Bq.named
  have hlocks := Bq.notSynchronized
  have htab := tab_of Bq (ws := wA) rfl
  obtain ⟨rfl, ⟨hsz, hP, hKK, hD⟩, hTK, hTS⟩ := hv
  have hK := hKK.1
  subst hsz
  have hA : ∀ q : Nat, s.heap.size ≤ q → (fun q : Nat => s.heap.size ≤ q) q := fun q h => h
  have hS : va_S (fun q : Nat => s.heap.size ≤ q) s.heap s.heap [] := va_S.rf
  have hl := lv_entry ([.ref x, .long (wv), .int (nI y)]) (n := 5) (Nat.le_of_ble_eq_true rfl)
  rw [lg_entry_eq]
  generalize (lg_sl ([.ref x, .long (wv), .int (nI y)]) ++ List.replicate (5 - (lg_sl ([.ref x, .long (wv), .int (nI y)])).length) Slot.unset).toArray = ls at hl ⊢
  have hl : lv_has ls 5 [(0, .ref x), (1, .long (wv)), (3, .int (nI y))] := hl
  have hck := ckb_le kd M
  refine lv_iload_n hx hb d_C_read_0 rfl (lv_at hl 2 rfl) ?_
  refine lv_aload_n hx hb d_C_read_1 rfl (lv_at hl 0 rfl) ?_
  refine va_get (D := D) (ci := 0) (v := .int (nI (2 ^ ckb kd M - 1))) (C := R_C) (T := F_C) (N := 17) hx hb hts i_C hown hK hP 1 rfl rfl 4 (by decide) (hts _ m_210) (fun _ h9 => h9) rfl d_C_read_2 ?_
  refine lv_iconst (v := (-1)) hx hb d_C_read_5 (by decide) ?_
  refine lx_ixor (z := (nI (2 ^ ckb kd M - 1)) ^^^ ((-1))) hx hb d_C_read_6 (rfl) ?_
  refine lx_iand (z := (nI y) &&& ((nI (2 ^ ckb kd M - 1)) ^^^ ((-1)))) hx hb d_C_read_7 (rfl) ?_
  refine lv_if_eq (tgt := 21) hx hb d_C_read_8 (by decide) (fun c8 => ?_) (fun c8 => ?_)
  · skip
    exact absurd ((out_mask hy (by omega)).mp c8) (by omega)
  · skip
    refine lt_throw (own := "CheckCodes") (A := va_A ((tn, .inr (5, [.long (a0), .int (b0)])) :: (x, .inr (0, [.int (nI kd), .int (nI M), .int (nI (M + ckb kd M)), .long (lN (2 ^ M - 1)), .int (nI (2 ^ ckb kd M - 1)), .ref oc, .ref tn, .int (nI ha), .int (nI af), .long (lN w1), .int (nI c1), .int (nI t1), .ref ac, .int (nI an), .int (lb), .ref sp, .int (nI su)])) :: (ac, .inl (g 0, 8, .inl (fa))) :: (sp, .inl (g 0, 8, .inl (fs))) :: wr) s.heap.size) hx hb hlt hown (by decide +kernel) (hts _ m_430) (hts _ m_46) (hTK.2.2 (105, "the check has bits that no check of this code has") (by simp [thS])) (th_words (by simp) th_A tg_A hts hTK hTS) hS (hl.1.trans hml.symm) htab d_C_read_11 d_C_read_14 d_C_read_15 d_C_read_17 d_C_read_20 (Nat.le_of_ble_eq_true rfl) (Nat.le_of_ble_eq_true rfl) (Nat.le_of_ble_eq_true rfl) (Nat.le_of_ble_eq_true rfl) hlocks (Nat.le_refl _) (Nat.le_refl _)
set_option maxHeartbeats 4000000 in
set_option maxRecDepth 100000 in
theorem t_C_flips (l : Launch) (hlt : l.stackTraces = false) (D : va_G) (g : Nat → ClassId) (sz : Nat) (wr : va_W) (x tn ac sp oc kd M ha af w1 c1 t1 an su : Nat) (a0 : Int64) (b0 lb : Int32) (fa fs : Nat → Int32) (hM0 : 0 < M) (hM : M ≤ 57) (v v2 : Int32) (hv9 : inBb (M + ckb kd M) v = 0 ∨ inBb (M + ckb kd M) v2 = 0) : tMet l y_C_flips w_C_flips rt_C_flips (va_Pc [.ref x, .int (v), .int (v2)] (pPT D (tyl g) ((tn, .inr (5, [.long (a0), .int (b0)])) :: (x, .inr (0, [.int (nI kd), .int (nI M), .int (nI (M + ckb kd M)), .long (lN (2 ^ M - 1)), .int (nI (2 ^ ckb kd M - 1)), .ref oc, .ref tn, .int (nI ha), .int (nI af), .long (lN w1), .int (nI c1), .int (nI t1), .ref ac, .int (nI an), .int (lb), .ref sp, .int (nI su)])) :: (ac, .inl (g 0, 8, .inl (fa))) :: (sp, .inl (g 0, 8, .inl (fs))) :: wr) sz)) exI 1 6 := by
  refine tMet.ofW (cc := b_C_flips) (maxL := 3) (ret := (some .int)) (by decide +kernel) rfl ?_
  intro p e s m args below meth c s₁ Bq hml hv
  have hx := Bq.exec
  have hb := Bq.bytes
  have hr := Bq.returns
  have hts : ∀ w ∈ wA, w.before args s = true := fun w h => atoms_spec (ws := w_C_flips) Bq.pre w (List.mem_cons_of_mem _ h)
  have hown : s.vm.findClass R_C = some m.cls := findClass_of_methodNamed Bq.named
  have hlocks := Bq.notSynchronized
  have htab := tab_of Bq (ws := wA) rfl
  obtain ⟨rfl, ⟨hsz, hP, hKK, hD⟩, hTK, hTS⟩ := hv
  have hK := hKK.1
  subst hsz
  have hA : ∀ q : Nat, s.heap.size ≤ q → (fun q : Nat => s.heap.size ≤ q) q := fun q h => h
  have hS : va_S (fun q : Nat => s.heap.size ≤ q) s.heap s.heap [] := va_S.rf
  have hl := lv_entry ([.ref x, .int (v), .int (v2)]) (n := 3) (Nat.le_of_ble_eq_true rfl)
  rw [lg_entry_eq]
  generalize (lg_sl ([.ref x, .int (v), .int (v2)]) ++ List.replicate (3 - (lg_sl ([.ref x, .int (v), .int (v2)])).length) Slot.unset).toArray = ls at hl ⊢
  have hl : lv_has ls 3 [(0, .ref x), (1, .int (v)), (2, .int (v2))] := hl
  have hi1 := inBb_le (M + ckb kd M) v
  have hi2 := inBb_le (M + ckb kd M) v2
  refine lv_aload_n hx hb d_C_flips_0 rfl (lv_at hl 0 rfl) ?_
  refine lv_iload_n hx hb d_C_flips_1 rfl (lv_at hl 1 rfl) ?_
  refine lr_Vi (b := x) (As := [.int (v)]) (rest := []) ⟨hx, hb, hml, hown, hts⟩ (r_C_isStoredBit l D g _ wr x tn ac sp oc kd M ha af w1 c1 t1 an su a0 b0 lb fa fs hM0 hM v) (kV 1 hts m_489 m_486 m_488 m_2 m_30 (by decide +kernel) ⟨Nat.le_of_ble_eq_true rfl, Nat.le_of_ble_eq_true rfl⟩) (va_recv hK hP (ci := 0) (q0 := 1) rfl rfl) hKK hP hD hS hA hl.1 rfl rfl (Nat.le_of_ble_eq_true rfl) d_C_flips_2 ⟨Nat.le_of_ble_eq_true rfl, Nat.le_of_ble_eq_true rfl⟩ (fun r1 H locs e1 hP hS => ?_)
  obtain rfl : r1 = nI (inBb (M + ckb kd M) v) := e1
  refine lx_if_eq (tgt := 16) hx hb d_C_flips_5 (by decide) (by omega) (fun c5 => ?_) (fun c5 => ?_)
  · skip
    refine lt_throw (own := "CheckCodes") (A := va_A ((tn, .inr (5, [.long (a0), .int (b0)])) :: (x, .inr (0, [.int (nI kd), .int (nI M), .int (nI (M + ckb kd M)), .long (lN (2 ^ M - 1)), .int (nI (2 ^ ckb kd M - 1)), .ref oc, .ref tn, .int (nI ha), .int (nI af), .long (lN w1), .int (nI c1), .int (nI t1), .ref ac, .int (nI an), .int (lb), .ref sp, .int (nI su)])) :: (ac, .inl (g 0, 8, .inl (fa))) :: (sp, .inl (g 0, 8, .inl (fs))) :: wr) s.heap.size) hx hb hlt hown (by decide +kernel) (hts _ m_317) (hts _ m_44) (hTK.2.2 (140, "the stored one has no such bit") (by simp [thS])) (th_words (by simp) th_I tg_I hts hTK hTS) hS (hl.1.trans hml.symm) htab d_C_flips_16 d_C_flips_19 d_C_flips_20 d_C_flips_22 d_C_flips_25 (Nat.le_of_ble_eq_true rfl) (Nat.le_of_ble_eq_true rfl) (Nat.le_of_ble_eq_true rfl) (Nat.le_of_ble_eq_true rfl) hlocks (Nat.le_refl _) (Nat.le_refl _)
  · skip
    refine lv_aload_n hx hb d_C_flips_8 rfl (lv_at hl 0 rfl) ?_
    refine lv_iload_n hx hb d_C_flips_9 rfl (lv_at hl 2 rfl) ?_
    refine lr_Vi (b := x) (As := [.int (v2)]) (rest := []) ⟨hx, hb, hml, hown, hts⟩ (r_C_isStoredBit l D g _ wr x tn ac sp oc kd M ha af w1 c1 t1 an su a0 b0 lb fa fs hM0 hM v2) (kV 1 hts m_489 m_486 m_488 m_2 m_30 (by decide +kernel) ⟨Nat.le_of_ble_eq_true rfl, Nat.le_of_ble_eq_true rfl⟩) (va_recv hK hP (ci := 0) (q0 := 1) rfl rfl) hKK hP hD hS hA hl.1 rfl rfl (Nat.le_of_ble_eq_true rfl) d_C_flips_10 ⟨Nat.le_of_ble_eq_true rfl, Nat.le_of_ble_eq_true rfl⟩ (fun r2 H locs e2 hP hS => ?_)
    obtain rfl : r2 = nI (inBb (M + ckb kd M) v2) := e2
    refine lx_if_ne (tgt := 26) hx hb d_C_flips_13 (by decide) (by omega) (fun c13 => ?_) (fun c13 => ?_)
    · skip
      exact absurd hv9 (by omega)
    · skip
      refine lt_throw (own := "CheckCodes") (A := va_A ((tn, .inr (5, [.long (a0), .int (b0)])) :: (x, .inr (0, [.int (nI kd), .int (nI M), .int (nI (M + ckb kd M)), .long (lN (2 ^ M - 1)), .int (nI (2 ^ ckb kd M - 1)), .ref oc, .ref tn, .int (nI ha), .int (nI af), .long (lN w1), .int (nI c1), .int (nI t1), .ref ac, .int (nI an), .int (lb), .ref sp, .int (nI su)])) :: (ac, .inl (g 0, 8, .inl (fa))) :: (sp, .inl (g 0, 8, .inl (fs))) :: wr) s.heap.size) hx hb hlt hown (by decide +kernel) (hts _ m_317) (hts _ m_44) (hTK.2.2 (140, "the stored one has no such bit") (by simp [thS])) (th_words (by simp) th_I tg_I hts hTK hTS) hS (hl.1.trans hml.symm) htab d_C_flips_16 d_C_flips_19 d_C_flips_20 d_C_flips_22 d_C_flips_25 (Nat.le_of_ble_eq_true rfl) (Nat.le_of_ble_eq_true rfl) (Nat.le_of_ble_eq_true rfl) (Nat.le_of_ble_eq_true rfl) hlocks (Nat.le_refl _) (Nat.le_refl _)
set_option maxHeartbeats 4000000 in
set_option maxRecDepth 100000 in
theorem t_C_table (l : Launch) (hlt : l.stackTraces = false) (D : va_G) (g : Nat → ClassId) (sz : Nat) (wr : va_W) (x tn ac sp oc kd M ha af w1 c1 t1 an su : Nat) (a0 : Int64) (b0 lb : Int32) (fa fs : Nat → Int32) (hM0 : 0 < M) (hM : M ≤ 57) (v : Int32) (hv9 : inBb 8 v = 0) : tMet l y_C_table w_C_table rt_C_table (va_Pc [.ref x, .int (v)] (pPT D (tyl g) ((tn, .inr (5, [.long (a0), .int (b0)])) :: (x, .inr (0, [.int (nI kd), .int (nI M), .int (nI (M + ckb kd M)), .long (lN (2 ^ M - 1)), .int (nI (2 ^ ckb kd M - 1)), .ref oc, .ref tn, .int (nI ha), .int (nI af), .long (lN w1), .int (nI c1), .int (nI t1), .ref ac, .int (nI an), .int (lb), .ref sp, .int (nI su)])) :: (ac, .inl (g 0, 8, .inl (fa))) :: (sp, .inl (g 0, 8, .inl (fs))) :: wr) sz)) exI 1 6 := by
  refine tMet.ofW (cc := b_C_table) (maxL := 2) (ret := (some .int)) (by decide +kernel) rfl ?_
  intro p e s m args below meth c s₁ Bq hml hv
  have hx := Bq.exec
  have hb := Bq.bytes
  have hr := Bq.returns
  have hts : ∀ w ∈ wA, w.before args s = true := fun w h => atoms_spec (ws := w_C_table) Bq.pre w (List.mem_cons_of_mem _ h)
  have hown : s.vm.findClass R_C = some m.cls := findClass_of_methodNamed Bq.named
  have hlocks := Bq.notSynchronized
  have htab := tab_of Bq (ws := wA) rfl
  obtain ⟨rfl, ⟨hsz, hP, hKK, hD⟩, hTK, hTS⟩ := hv
  have hK := hKK.1
  subst hsz
  have hA : ∀ q : Nat, s.heap.size ≤ q → (fun q : Nat => s.heap.size ≤ q) q := fun q h => h
  have hS : va_S (fun q : Nat => s.heap.size ≤ q) s.heap s.heap [] := va_S.rf
  have hl := lv_entry ([.ref x, .int (v)]) (n := 2) (Nat.le_of_ble_eq_true rfl)
  rw [lg_entry_eq]
  generalize (lg_sl ([.ref x, .int (v)]) ++ List.replicate (2 - (lg_sl ([.ref x, .int (v)])).length) Slot.unset).toArray = ls at hl ⊢
  have hl : lv_has ls 2 [(0, .ref x), (1, .int (v))] := hl
  refine lv_iload_n hx hb d_C_table_0 rfl (lv_at hl 1 rfl) ?_
  refine lv_if_lt (tgt := 13) hx hb d_C_table_1 (by decide) (fun k1 => ?_) (fun k1 => ?_)
  · skip
    refine lt_throw (own := "CheckCodes") (A := va_A ((tn, .inr (5, [.long (a0), .int (b0)])) :: (x, .inr (0, [.int (nI kd), .int (nI M), .int (nI (M + ckb kd M)), .long (lN (2 ^ M - 1)), .int (nI (2 ^ ckb kd M - 1)), .ref oc, .ref tn, .int (nI ha), .int (nI af), .long (lN w1), .int (nI c1), .int (nI t1), .ref ac, .int (nI an), .int (lb), .ref sp, .int (nI su)])) :: (ac, .inl (g 0, 8, .inl (fa))) :: (sp, .inl (g 0, 8, .inl (fs))) :: wr) s.heap.size) hx hb hlt hown (by decide +kernel) (hts _ m_317) (hts _ m_44) (hTK.2.2 (145, "the table has no such place") (by simp [thS])) (th_words (by simp) th_I tg_I hts hTK hTS) hS (hl.1.trans hml.symm) htab d_C_table_13 d_C_table_16 d_C_table_17 d_C_table_19 d_C_table_22 (Nat.le_of_ble_eq_true rfl) (Nat.le_of_ble_eq_true rfl) (Nat.le_of_ble_eq_true rfl) (Nat.le_of_ble_eq_true rfl) hlocks (Nat.le_refl _) (Nat.le_refl _)
  · skip
    refine lv_iload_n hx hb d_C_table_4 rfl (lv_at hl 1 rfl) ?_
    refine lv_aload_n hx hb d_C_table_5 rfl (lv_at hl 0 rfl) ?_
    refine va_get (D := D) (ci := 0) (v := .ref ac) (C := R_C) (T := F_C) (N := 17) hx hb hts i_C hown hK hP 1 rfl rfl 12 (by decide) (hts _ m_218) (fun _ h9 => h9) rfl d_C_table_6 ?_
    refine va_alen hx hb hK hP 2 0 rfl (v := nI 8) rfl (rfl) d_C_table_9 ?_
    refine lv_icmp_lt (tgt := 23) hx hb d_C_table_10 (by decide) (fun c10 => ?_) (fun c10 => ?_)
    · skip
      exact (inBb_no (by omega) hv9 k1 c10).elim
    · skip
      refine lt_throw (own := "CheckCodes") (A := va_A ((tn, .inr (5, [.long (a0), .int (b0)])) :: (x, .inr (0, [.int (nI kd), .int (nI M), .int (nI (M + ckb kd M)), .long (lN (2 ^ M - 1)), .int (nI (2 ^ ckb kd M - 1)), .ref oc, .ref tn, .int (nI ha), .int (nI af), .long (lN w1), .int (nI c1), .int (nI t1), .ref ac, .int (nI an), .int (lb), .ref sp, .int (nI su)])) :: (ac, .inl (g 0, 8, .inl (fa))) :: (sp, .inl (g 0, 8, .inl (fs))) :: wr) s.heap.size) hx hb hlt hown (by decide +kernel) (hts _ m_317) (hts _ m_44) (hTK.2.2 (145, "the table has no such place") (by simp [thS])) (th_words (by simp) th_I tg_I hts hTK hTS) hS (hl.1.trans hml.symm) htab d_C_table_13 d_C_table_16 d_C_table_17 d_C_table_19 d_C_table_22 (Nat.le_of_ble_eq_true rfl) (Nat.le_of_ble_eq_true rfl) (Nat.le_of_ble_eq_true rfl) (Nat.le_of_ble_eq_true rfl) hlocks (Nat.le_refl _) (Nat.le_refl _)
set_option maxHeartbeats 4000000 in
set_option maxRecDepth 100000 in
theorem t_C_bursts (l : Launch) (hlt : l.stackTraces = false) (D : va_G) (g : Nat → ClassId) (sz : Nat) (wr : va_W) (x tn ac sp oc kd M ha af w1 c1 t1 an su : Nat) (a0 : Int64) (b0 lb : Int32) (fa fs : Nat → Int32) (hM0 : 0 < M) (hM : M ≤ 57) (v : Int32) (hv9 : v < nI 1 ∨ ¬ v ≤ nI 6) : tMet l y_C_bursts w_C_bursts rt_C_bursts (va_Pc [.ref x, .int (v)] (pPT D (tyl g) ((tn, .inr (5, [.long (a0), .int (b0)])) :: (x, .inr (0, [.int (nI kd), .int (nI M), .int (nI (M + ckb kd M)), .long (lN (2 ^ M - 1)), .int (nI (2 ^ ckb kd M - 1)), .ref oc, .ref tn, .int (nI ha), .int (nI af), .long (lN w1), .int (nI c1), .int (nI t1), .ref ac, .int (nI an), .int (lb), .ref sp, .int (nI su)])) :: (ac, .inl (g 0, 8, .inl (fa))) :: (sp, .inl (g 0, 8, .inl (fs))) :: wr) sz)) exA 1 6 := by
  refine tMet.ofW (cc := b_C_bursts) (maxL := 2) (ret := (some .boolean)) (by decide +kernel) rfl ?_
  intro p e s m args below meth c s₁ Bq hml hv
  have hx := Bq.exec
  have hb := Bq.bytes
  have hr := Bq.returns
  have hts : ∀ w ∈ wA, w.before args s = true := fun w h => atoms_spec (ws := w_C_bursts) Bq.pre w (List.mem_cons_of_mem _ h)
  have hown : s.vm.findClass R_C = some m.cls := findClass_of_methodNamed Bq.named
  have hlocks := Bq.notSynchronized
  have htab := tab_of Bq (ws := wA) rfl
  obtain ⟨rfl, ⟨hsz, hP, hKK, hD⟩, hTK, hTS⟩ := hv
  have hK := hKK.1
  subst hsz
  have hA : ∀ q : Nat, s.heap.size ≤ q → (fun q : Nat => s.heap.size ≤ q) q := fun q h => h
  have hS : va_S (fun q : Nat => s.heap.size ≤ q) s.heap s.heap [] := va_S.rf
  have hl := lv_entry ([.ref x, .int (v)]) (n := 2) (Nat.le_of_ble_eq_true rfl)
  rw [lg_entry_eq]
  generalize (lg_sl ([.ref x, .int (v)]) ++ List.replicate (2 - (lg_sl ([.ref x, .int (v)])).length) Slot.unset).toArray = ls at hl ⊢
  have hl : lv_has ls 2 [(0, .ref x), (1, .int (v))] := hl
  refine lv_iload_n hx hb d_C_bursts_0 rfl (lv_at hl 1 rfl) ?_
  refine lv_iconst (v := nI 1) hx hb d_C_bursts_1 (by decide) ?_
  refine lv_icmp_lt (tgt := 11) hx hb d_C_bursts_2 (by decide) (fun c2 => ?_) (fun c2 => ?_)
  · skip
    refine lt_throw (own := "CheckCodes") (A := va_A ((tn, .inr (5, [.long (a0), .int (b0)])) :: (x, .inr (0, [.int (nI kd), .int (nI M), .int (nI (M + ckb kd M)), .long (lN (2 ^ M - 1)), .int (nI (2 ^ ckb kd M - 1)), .ref oc, .ref tn, .int (nI ha), .int (nI af), .long (lN w1), .int (nI c1), .int (nI t1), .ref ac, .int (nI an), .int (lb), .ref sp, .int (nI su)])) :: (ac, .inl (g 0, 8, .inl (fa))) :: (sp, .inl (g 0, 8, .inl (fs))) :: wr) s.heap.size) hx hb hlt hown (by decide +kernel) (hts _ m_430) (hts _ m_46) (hTK.2.2 (150, "bursts have 1 to 6 bits") (by simp [thS])) (th_words (by simp) th_A tg_A hts hTK hTS) hS (hl.1.trans hml.symm) htab d_C_bursts_11 d_C_bursts_14 d_C_bursts_15 d_C_bursts_17 d_C_bursts_20 (Nat.le_of_ble_eq_true rfl) (Nat.le_of_ble_eq_true rfl) (Nat.le_of_ble_eq_true rfl) (Nat.le_of_ble_eq_true rfl) hlocks (Nat.le_refl _) (Nat.le_refl _)
  · skip
    refine lv_iload_n hx hb d_C_bursts_5 rfl (lv_at hl 1 rfl) ?_
    refine lv_bipush (v := nI 6) hx hb d_C_bursts_6 (by decide) ?_
    refine lv_icmp_le (tgt := 21) hx hb d_C_bursts_8 (by decide) (fun c8 => ?_) (fun c8 => ?_)
    · skip
      exact (hv9.elim c2 (fun q => q c8)).elim
    · skip
      refine lt_throw (own := "CheckCodes") (A := va_A ((tn, .inr (5, [.long (a0), .int (b0)])) :: (x, .inr (0, [.int (nI kd), .int (nI M), .int (nI (M + ckb kd M)), .long (lN (2 ^ M - 1)), .int (nI (2 ^ ckb kd M - 1)), .ref oc, .ref tn, .int (nI ha), .int (nI af), .long (lN w1), .int (nI c1), .int (nI t1), .ref ac, .int (nI an), .int (lb), .ref sp, .int (nI su)])) :: (ac, .inl (g 0, 8, .inl (fa))) :: (sp, .inl (g 0, 8, .inl (fs))) :: wr) s.heap.size) hx hb hlt hown (by decide +kernel) (hts _ m_430) (hts _ m_46) (hTK.2.2 (150, "bursts have 1 to 6 bits") (by simp [thS])) (th_words (by simp) th_A tg_A hts hTK hTS) hS (hl.1.trans hml.symm) htab d_C_bursts_11 d_C_bursts_14 d_C_bursts_15 d_C_bursts_17 d_C_bursts_20 (Nat.le_of_ble_eq_true rfl) (Nat.le_of_ble_eq_true rfl) (Nat.le_of_ble_eq_true rfl) (Nat.le_of_ble_eq_true rfl) hlocks (Nat.le_refl _) (Nat.le_refl _)
set_option maxHeartbeats 4000000 in
set_option maxRecDepth 100000 in
theorem t_C_spare (l : Launch) (hlt : l.stackTraces = false) (D : va_G) (g : Nat → ClassId) (sz : Nat) (wr : va_W) (x tn ac sp oc kd M ha af w1 c1 t1 an su : Nat) (a0 : Int64) (b0 lb : Int32) (fa fs : Nat → Int32) (hM0 : 0 < M) (hM : M ≤ 57) (v : Int32) (hv9 : inBb 65536 v = 0) : tMet l y_C_spare w_C_spare rt_C_spare (va_Pc [.ref x, .int (v)] (pPT D (tyl g) ((tn, .inr (5, [.long (a0), .int (b0)])) :: (x, .inr (0, [.int (nI kd), .int (nI M), .int (nI (M + ckb kd M)), .long (lN (2 ^ M - 1)), .int (nI (2 ^ ckb kd M - 1)), .ref oc, .ref tn, .int (nI ha), .int (nI af), .long (lN w1), .int (nI c1), .int (nI t1), .ref ac, .int (nI an), .int (lb), .ref sp, .int (nI su)])) :: (ac, .inl (g 0, 8, .inl (fa))) :: (sp, .inl (g 0, 8, .inl (fs))) :: wr) sz)) exI 1 6 := by
  refine tMet.ofW (cc := b_C_spare) (maxL := 4) (ret := (some .int)) (by decide +kernel) rfl ?_
  intro p e s m args below meth c s₁ Bq hml hv
  have hx := Bq.exec
  have hb := Bq.bytes
  have hr := Bq.returns
  have hts : ∀ w ∈ wA, w.before args s = true := fun w h => atoms_spec (ws := w_C_spare) Bq.pre w (List.mem_cons_of_mem _ h)
  have hown : s.vm.findClass R_C = some m.cls := findClass_of_methodNamed Bq.named
  have hlocks := Bq.notSynchronized
  have htab := tab_of Bq (ws := wA) rfl
  obtain ⟨rfl, ⟨hsz, hP, hKK, hD⟩, hTK, hTS⟩ := hv
  have hK := hKK.1
  subst hsz
  have hA : ∀ q : Nat, s.heap.size ≤ q → (fun q : Nat => s.heap.size ≤ q) q := fun q h => h
  have hS : va_S (fun q : Nat => s.heap.size ≤ q) s.heap s.heap [] := va_S.rf
  have hl := lv_entry ([.ref x, .int (v)]) (n := 4) (Nat.le_of_ble_eq_true rfl)
  rw [lg_entry_eq]
  generalize (lg_sl ([.ref x, .int (v)]) ++ List.replicate (4 - (lg_sl ([.ref x, .int (v)])).length) Slot.unset).toArray = ls at hl ⊢
  have hl : lv_has ls 4 [(0, .ref x), (1, .int (v))] := hl
  refine lv_iload_n hx hb d_C_spare_0 rfl (lv_at hl 1 rfl) ?_
  refine lr_Si (As := [.int (v)]) (rest := []) ⟨hx, hb, hml, hown, hts⟩ (r_C_isRow l D g _ _ v) (kS 1 hts m_559 m_557 m_558 m_30 (by decide +kernel) ⟨Nat.le_of_ble_eq_true rfl, Nat.le_of_ble_eq_true rfl⟩) hKK hP hD hS hA hl.1 rfl rfl (Nat.le_of_ble_eq_true rfl) d_C_spare_1 ⟨Nat.le_of_ble_eq_true rfl, Nat.le_of_ble_eq_true rfl⟩ (fun r1 H locs e1 hP hS => ?_)
  obtain rfl : r1 = nI (inBb 65536 v) := e1
  refine lx_if_ne (tgt := 17) hx hb d_C_spare_4 (by decide) (by omega) (fun c4 => ?_) (fun c4 => ?_)
  · skip
    exact absurd hv9 c4
  · skip
    refine lt_throw (own := "CheckCodes") (A := va_A ((tn, .inr (5, [.long (a0), .int (b0)])) :: (x, .inr (0, [.int (nI kd), .int (nI M), .int (nI (M + ckb kd M)), .long (lN (2 ^ M - 1)), .int (nI (2 ^ ckb kd M - 1)), .ref oc, .ref tn, .int (nI ha), .int (nI af), .long (lN w1), .int (nI c1), .int (nI t1), .ref ac, .int (nI an), .int (lb), .ref sp, .int (nI su)])) :: (ac, .inl (g 0, 8, .inl (fa))) :: (sp, .inl (g 0, 8, .inl (fs))) :: wr) s.heap.size) hx hb hlt hown (by decide +kernel) (hts _ m_317) (hts _ m_44) (hTK.2.2 (158, "there is no such row") (by simp [thS])) (th_words (by simp) th_I tg_I hts hTK hTS) hS (hl.1.trans hml.symm) htab d_C_spare_7 d_C_spare_10 d_C_spare_11 d_C_spare_13 d_C_spare_16 (Nat.le_of_ble_eq_true rfl) (Nat.le_of_ble_eq_true rfl) (Nat.le_of_ble_eq_true rfl) (Nat.le_of_ble_eq_true rfl) hlocks (Nat.le_refl _) (Nat.le_refl _)
set_option maxHeartbeats 4000000 in
set_option maxRecDepth 100000 in
theorem u_C_spare (l : Launch) (hlt : l.stackTraces = false) (D : va_G) (g : Nat → ClassId) (sz : Nat) (wr : va_W) (x tn ac sp oc kd M ha af w1 c1 t1 an su : Nat) (a0 : Int64) (b0 lb : Int32) (fa fs : Nat → Int32) (hM0 : 0 < M) (hM : M ≤ 57) (j : Nat) (hj : j < 65536) (hsu : su = 8) (hno : ∀ k, k < su → ¬ fs k = nI j) : tMet l y_C_spare w_C_spare rt_C_spare (va_Pc [.ref x, .int (nI j)] (pPT D (tyl g) ((tn, .inr (5, [.long (a0), .int (b0)])) :: (x, .inr (0, [.int (nI kd), .int (nI M), .int (nI (M + ckb kd M)), .long (lN (2 ^ M - 1)), .int (nI (2 ^ ckb kd M - 1)), .ref oc, .ref tn, .int (nI ha), .int (nI af), .long (lN w1), .int (nI c1), .int (nI t1), .ref ac, .int (nI an), .int (lb), .ref sp, .int (nI su)])) :: (ac, .inl (g 0, 8, .inl (fa))) :: (sp, .inl (g 0, 8, .inl (fs))) :: wr) sz)) exU 1 6 := by
  refine tMet.ofW (cc := b_C_spare) (maxL := 4) (ret := (some .int)) (by decide +kernel) rfl ?_
  intro p e s m args below meth c s₁ Bq hml hv
  have hx := Bq.exec
  have hb := Bq.bytes
  have hr := Bq.returns
  have hts : ∀ w ∈ wA, w.before args s = true := fun w h => atoms_spec (ws := w_C_spare) Bq.pre w (List.mem_cons_of_mem _ h)
  have hown : s.vm.findClass R_C = some m.cls := findClass_of_methodNamed Bq.named
  have hlocks := Bq.notSynchronized
  have htab := tab_of Bq (ws := wA) rfl
  obtain ⟨rfl, ⟨hsz, hP, hKK, hD⟩, hTK, hTS⟩ := hv
  have hK := hKK.1
  subst hsz
  have hA : ∀ q : Nat, s.heap.size ≤ q → (fun q : Nat => s.heap.size ≤ q) q := fun q h => h
  have hS : va_S (fun q : Nat => s.heap.size ≤ q) s.heap s.heap [] := va_S.rf
  have hl := lv_entry ([.ref x, .int (nI j)]) (n := 4) (Nat.le_of_ble_eq_true rfl)
  rw [lg_entry_eq]
  generalize (lg_sl ([.ref x, .int (nI j)]) ++ List.replicate (4 - (lg_sl ([.ref x, .int (nI j)])).length) Slot.unset).toArray = ls at hl ⊢
  have hl : lv_has ls 4 [(0, .ref x), (1, .int (nI j))] := hl
  refine lv_iload_n hx hb d_C_spare_0 rfl (lv_at hl 1 rfl) ?_
  refine lr_Si (As := [.int (nI j)]) (rest := []) ⟨hx, hb, hml, hown, hts⟩ (r_C_isRow l D g _ _ (nI j)) (kS 1 hts m_559 m_557 m_558 m_30 (by decide +kernel) ⟨Nat.le_of_ble_eq_true rfl, Nat.le_of_ble_eq_true rfl⟩) hKK hP hD hS hA hl.1 rfl rfl (Nat.le_of_ble_eq_true rfl) d_C_spare_1 ⟨Nat.le_of_ble_eq_true rfl, Nat.le_of_ble_eq_true rfl⟩ (fun r1 H locs e1 hP hS => ?_)
  obtain rfl : r1 = nI 1 := e1.trans (by rw [inBb_nI (by decide) hj])
  refine lx_if_ne (tgt := 17) hx hb d_C_spare_4 (by decide) (by omega) (fun c4 => ?_) (fun c4 => ?_)
  · skip
    refine lv_aload_n hx hb d_C_spare_17 rfl (lv_at hl 0 rfl) ?_
    refine lv_iload_n hx hb d_C_spare_18 rfl (lv_at hl 1 rfl) ?_
    refine lr_Vi (b := x) (As := [.int (nI j)]) (rest := []) ⟨hx, hb, hml, hown, hts⟩ (r_C_findSpare l D g _ wr x tn ac sp oc kd M ha af w1 c1 t1 an su a0 b0 lb fa fs hM0 hM (nI j) (by omega)) (kV 1 hts m_565 m_562 m_564 m_12 m_30 (by decide +kernel) ⟨Nat.le_of_ble_eq_true rfl, Nat.le_of_ble_eq_true rfl⟩) (va_recv hK hP (ci := 0) (q0 := 1) rfl rfl) hKK hP hD hS hA hl.1 rfl rfl (Nat.le_of_ble_eq_true rfl) d_C_spare_19 ⟨Nat.le_of_ble_eq_true rfl, Nat.le_of_ble_eq_true rfl⟩ (fun r2 H locs e2 hP hS => ?_)
    rcases e2 with ⟨i9, q1, q2, q3, q4⟩ | ⟨rfl, q2⟩
    · exact absurd q3 (hno i9 q1)
    refine lv_istore_n (lv' := [(2, .int ((-1))), (0, .ref x), (1, .int (nI j))]) hx hb d_C_spare_22 rfl hl (by decide) rfl (fun ls hl => ?_)
    refine lv_iload_n hx hb d_C_spare_23 rfl (lv_at hl 0 rfl) ?_
    refine lv_iconst (v := (-1)) hx hb d_C_spare_24 (by decide) ?_
    refine lv_icmp_eq (tgt := 30) hx hb d_C_spare_25 (by decide) (fun c25 => ?_) (fun c25 => ?_)
    · skip
      refine lv_aload_n hx hb d_C_spare_30 rfl (lv_at hl 1 rfl) ?_
      refine va_get (D := D) (ci := 0) (v := .int (nI su)) (C := R_C) (T := F_C) (N := 17) hx hb hts i_C hown hK hP 1 rfl rfl 16 (by decide) (hts _ m_222) (fun _ h9 => h9) rfl d_C_spare_31 ?_
      refine lv_aload_n hx hb d_C_spare_34 rfl (lv_at hl 1 rfl) ?_
      refine va_get (D := D) (ci := 0) (v := .ref sp) (C := R_C) (T := F_C) (N := 17) hx hb hts i_C hown hK hP 1 rfl rfl 15 (by decide) (hts _ m_221) (fun _ h9 => h9) rfl d_C_spare_35 ?_
      refine va_alen hx hb hK hP 3 0 rfl (v := nI 8) rfl (rfl) d_C_spare_38 ?_
      refine lx_icmp_lt (tgt := 52) hx hb d_C_spare_39 (by decide) (by omega) (by omega) (fun c39 => ?_) (fun c39 => ?_)
      · skip
        exact absurd c39 (by omega)
      · skip
        refine lt_throw (own := "CheckCodes") (A := va_A ((tn, .inr (5, [.long (a0), .int (b0)])) :: (x, .inr (0, [.int (nI kd), .int (nI M), .int (nI (M + ckb kd M)), .long (lN (2 ^ M - 1)), .int (nI (2 ^ ckb kd M - 1)), .ref oc, .ref tn, .int (nI ha), .int (nI af), .long (lN w1), .int (nI c1), .int (nI t1), .ref ac, .int (nI an), .int (lb), .ref sp, .int (nI su)])) :: (ac, .inl (g 0, 8, .inl (fa))) :: (sp, .inl (g 0, 8, .inl (fs))) :: wr) s.heap.size) hx hb hlt hown (by decide +kernel) (hts _ m_385) (hts _ m_45) (hTK.2.2 (166, "no spare row is free") (by simp [thS])) (th_words (by simp) th_U tg_U hts hTK hTS) hS (hl.1.trans hml.symm) htab d_C_spare_42 d_C_spare_45 d_C_spare_46 d_C_spare_48 d_C_spare_51 (Nat.le_of_ble_eq_true rfl) (Nat.le_of_ble_eq_true rfl) (Nat.le_of_ble_eq_true rfl) (Nat.le_of_ble_eq_true rfl) hlocks (Nat.le_refl _) (Nat.le_refl _)
    · skip
      exact absurd rfl c25
  · skip
    exact absurd c4 (by decide)
set_option maxHeartbeats 4000000 in
set_option maxRecDepth 100000 in
theorem t_C_spareOf (l : Launch) (hlt : l.stackTraces = false) (D : va_G) (g : Nat → ClassId) (sz : Nat) (wr : va_W) (x tn ac sp oc kd M ha af w1 c1 t1 an su : Nat) (a0 : Int64) (b0 lb : Int32) (fa fs : Nat → Int32) (hM0 : 0 < M) (hM : M ≤ 57) (v : Int32) (hv9 : inBb 65536 v = 0) : tMet l y_C_spareOf w_C_spareOf rt_C_spareOf (va_Pc [.ref x, .int (v)] (pPT D (tyl g) ((tn, .inr (5, [.long (a0), .int (b0)])) :: (x, .inr (0, [.int (nI kd), .int (nI M), .int (nI (M + ckb kd M)), .long (lN (2 ^ M - 1)), .int (nI (2 ^ ckb kd M - 1)), .ref oc, .ref tn, .int (nI ha), .int (nI af), .long (lN w1), .int (nI c1), .int (nI t1), .ref ac, .int (nI an), .int (lb), .ref sp, .int (nI su)])) :: (ac, .inl (g 0, 8, .inl (fa))) :: (sp, .inl (g 0, 8, .inl (fs))) :: wr) sz)) exI 1 6 := by
  refine tMet.ofW (cc := b_C_spareOf) (maxL := 2) (ret := (some .int)) (by decide +kernel) rfl ?_
  intro p e s m args below meth c s₁ Bq hml hv
  have hx := Bq.exec
  have hb := Bq.bytes
  have hr := Bq.returns
  have hts : ∀ w ∈ wA, w.before args s = true := fun w h => atoms_spec (ws := w_C_spareOf) Bq.pre w (List.mem_cons_of_mem _ h)
  have hown : s.vm.findClass R_C = some m.cls := findClass_of_methodNamed Bq.named
  have hlocks := Bq.notSynchronized
  have htab := tab_of Bq (ws := wA) rfl
  obtain ⟨rfl, ⟨hsz, hP, hKK, hD⟩, hTK, hTS⟩ := hv
  have hK := hKK.1
  subst hsz
  have hA : ∀ q : Nat, s.heap.size ≤ q → (fun q : Nat => s.heap.size ≤ q) q := fun q h => h
  have hS : va_S (fun q : Nat => s.heap.size ≤ q) s.heap s.heap [] := va_S.rf
  have hl := lv_entry ([.ref x, .int (v)]) (n := 2) (Nat.le_of_ble_eq_true rfl)
  rw [lg_entry_eq]
  generalize (lg_sl ([.ref x, .int (v)]) ++ List.replicate (2 - (lg_sl ([.ref x, .int (v)])).length) Slot.unset).toArray = ls at hl ⊢
  have hl : lv_has ls 2 [(0, .ref x), (1, .int (v))] := hl
  refine lv_iload_n hx hb d_C_spareOf_0 rfl (lv_at hl 1 rfl) ?_
  refine lr_Si (As := [.int (v)]) (rest := []) ⟨hx, hb, hml, hown, hts⟩ (r_C_isRow l D g _ _ v) (kS 1 hts m_559 m_557 m_558 m_30 (by decide +kernel) ⟨Nat.le_of_ble_eq_true rfl, Nat.le_of_ble_eq_true rfl⟩) hKK hP hD hS hA hl.1 rfl rfl (Nat.le_of_ble_eq_true rfl) d_C_spareOf_1 ⟨Nat.le_of_ble_eq_true rfl, Nat.le_of_ble_eq_true rfl⟩ (fun r1 H locs e1 hP hS => ?_)
  obtain rfl : r1 = nI (inBb 65536 v) := e1
  refine lx_if_ne (tgt := 17) hx hb d_C_spareOf_4 (by decide) (by omega) (fun c4 => ?_) (fun c4 => ?_)
  · skip
    exact absurd hv9 c4
  · skip
    refine lt_throw (own := "CheckCodes") (A := va_A ((tn, .inr (5, [.long (a0), .int (b0)])) :: (x, .inr (0, [.int (nI kd), .int (nI M), .int (nI (M + ckb kd M)), .long (lN (2 ^ M - 1)), .int (nI (2 ^ ckb kd M - 1)), .ref oc, .ref tn, .int (nI ha), .int (nI af), .long (lN w1), .int (nI c1), .int (nI t1), .ref ac, .int (nI an), .int (lb), .ref sp, .int (nI su)])) :: (ac, .inl (g 0, 8, .inl (fa))) :: (sp, .inl (g 0, 8, .inl (fs))) :: wr) s.heap.size) hx hb hlt hown (by decide +kernel) (hts _ m_317) (hts _ m_44) (hTK.2.2 (158, "there is no such row") (by simp [thS])) (th_words (by simp) th_I tg_I hts hTK hTS) hS (hl.1.trans hml.symm) htab d_C_spareOf_7 d_C_spareOf_10 d_C_spareOf_11 d_C_spareOf_13 d_C_spareOf_16 (Nat.le_of_ble_eq_true rfl) (Nat.le_of_ble_eq_true rfl) (Nat.le_of_ble_eq_true rfl) (Nat.le_of_ble_eq_true rfl) hlocks (Nat.le_refl _) (Nat.le_refl _)
set_option maxHeartbeats 4000000 in
set_option maxRecDepth 100000 in
theorem t_C_share (l : Launch) (hlt : l.stackTraces = false) (D : va_G) (g : Nat → ClassId) (sz : Nat) (wr : va_W) (x tn ac sp oc kd M ha af w1 c1 t1 an su : Nat) (a0 : Int64) (b0 lb : Int32) (fa fs : Nat → Int32) (hM0 : 0 < M) (hM : M ≤ 57) (v : Int32) (h09 : ¬ v = nI 0) (h19 : ¬ v = nI 1) : tMet l y_C_share w_C_share rt_C_share (va_Pc [.ref x, .int (v)] (pPT D (tyl g) ((tn, .inr (5, [.long (a0), .int (b0)])) :: (x, .inr (0, [.int (nI kd), .int (nI M), .int (nI (M + ckb kd M)), .long (lN (2 ^ M - 1)), .int (nI (2 ^ ckb kd M - 1)), .ref oc, .ref tn, .int (nI ha), .int (nI af), .long (lN w1), .int (nI c1), .int (nI t1), .ref ac, .int (nI an), .int (lb), .ref sp, .int (nI su)])) :: (ac, .inl (g 0, 8, .inl (fa))) :: (sp, .inl (g 0, 8, .inl (fs))) :: wr) sz)) exI 1 6 := by
  refine tMet.ofW (cc := b_C_share) (maxL := 5) (ret := (some .int)) (by decide +kernel) rfl ?_
  intro p e s m args below meth c s₁ Bq hml hv
  have hx := Bq.exec
  have hb := Bq.bytes
  have hr := Bq.returns
  have hts : ∀ w ∈ wA, w.before args s = true := fun w h => atoms_spec (ws := w_C_share) Bq.pre w (List.mem_cons_of_mem _ h)
  have hown : s.vm.findClass R_C = some m.cls := findClass_of_methodNamed Bq.named
  have hlocks := Bq.notSynchronized
  have htab := tab_of Bq (ws := wA) rfl
  obtain ⟨rfl, ⟨hsz, hP, hKK, hD⟩, hTK, hTS⟩ := hv
  have hK := hKK.1
  subst hsz
  have hA : ∀ q : Nat, s.heap.size ≤ q → (fun q : Nat => s.heap.size ≤ q) q := fun q h => h
  have hS : va_S (fun q : Nat => s.heap.size ≤ q) s.heap s.heap [] := va_S.rf
  have hl := lv_entry ([.ref x, .int (v)]) (n := 5) (Nat.le_of_ble_eq_true rfl)
  rw [lg_entry_eq]
  generalize (lg_sl ([.ref x, .int (v)]) ++ List.replicate (5 - (lg_sl ([.ref x, .int (v)])).length) Slot.unset).toArray = ls at hl ⊢
  have hl : lv_has ls 5 [(0, .ref x), (1, .int (v))] := hl
  refine lv_iload_n hx hb d_C_share_0 rfl (lv_at hl 1 rfl) ?_
  refine lv_if_eq (tgt := 19) hx hb d_C_share_1 (by decide) (fun k1 => ?_) (fun k1 => ?_)
  · skip
    exact absurd k1 (fun q => h09 (q.trans nI_0.symm))
  · skip
    refine lv_iload_n hx hb d_C_share_4 rfl (lv_at hl 1 rfl) ?_
    refine lv_iconst (v := nI 1) hx hb d_C_share_5 (by decide) ?_
    refine lv_icmp_eq (tgt := 19) hx hb d_C_share_6 (by decide) (fun c6 => ?_) (fun c6 => ?_)
    · skip
      exact absurd c6 h19
    · skip
      refine lt_throw (own := "CheckCodes") (A := va_A ((tn, .inr (5, [.long (a0), .int (b0)])) :: (x, .inr (0, [.int (nI kd), .int (nI M), .int (nI (M + ckb kd M)), .long (lN (2 ^ M - 1)), .int (nI (2 ^ ckb kd M - 1)), .ref oc, .ref tn, .int (nI ha), .int (nI af), .long (lN w1), .int (nI c1), .int (nI t1), .ref ac, .int (nI an), .int (lb), .ref sp, .int (nI su)])) :: (ac, .inl (g 0, 8, .inl (fa))) :: (sp, .inl (g 0, 8, .inl (fs))) :: wr) s.heap.size) hx hb hlt hown (by decide +kernel) (hts _ m_317) (hts _ m_44) (hTK.2.2 (168, "a fraction has two parts") (by simp [thS])) (th_words (by simp) th_I tg_I hts hTK hTS) hS (hl.1.trans hml.symm) htab d_C_share_9 d_C_share_12 d_C_share_13 d_C_share_15 d_C_share_18 (Nat.le_of_ble_eq_true rfl) (Nat.le_of_ble_eq_true rfl) (Nat.le_of_ble_eq_true rfl) (Nat.le_of_ble_eq_true rfl) hlocks (Nat.le_refl _) (Nat.le_refl _)
