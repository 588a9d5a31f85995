set_option maxRecDepth 20000 in
theorem m_719 : Cond.code y_M_nibbles b_M_nibbles 1 (some .int) ∈ wA := in_wA (List.mem_of_getElem? (i := 719) rfl) rfl
set_option maxRecDepth 20000 in
theorem m_716 : Cond.methodLink R_M 69 y_M_nibbles ∈ wA := in_wA (List.mem_of_getElem? (i := 716) rfl) rfl
set_option maxRecDepth 20000 in
theorem m_718 : Cond.instanceMethod y_M_nibbles ∈ wA := in_wA (List.mem_of_getElem? (i := 718) rfl) rfl
set_option maxRecDepth 20000 in
theorem m_20 : Cond.selects R_M y_M_nibbles y_M_nibbles ∈ wA := in_wA (List.mem_of_getElem? (i := 20) rfl) rfl
set_option maxRecDepth 20000 in
theorem m_720 : Cond.constantLong R_M 73 15 ∈ wA := in_wA (List.mem_of_getElem? (i := 720) rfl) rfl
set_option maxRecDepth 20000 in
theorem m_723 : Cond.code y_M_power b_M_power 3 (some .int) ∈ wA := in_wA (List.mem_of_getElem? (i := 723) rfl) rfl
set_option maxRecDepth 20000 in
theorem m_721 : Cond.methodLink R_M 75 y_M_power ∈ wA := in_wA (List.mem_of_getElem? (i := 721) rfl) rfl
set_option maxRecDepth 20000 in
theorem m_722 : Cond.static y_M_power ∈ wA := in_wA (List.mem_of_getElem? (i := 722) rfl) rfl
set_option maxRecDepth 20000 in
theorem m_729 : Cond.code y_M_has b_M_has 3 (some .boolean) ∈ wA := in_wA (List.mem_of_getElem? (i := 729) rfl) rfl
set_option maxRecDepth 20000 in
theorem m_727 : Cond.methodLink R_M 85 y_M_has ∈ wA := in_wA (List.mem_of_getElem? (i := 727) rfl) rfl
set_option maxRecDepth 20000 in
theorem m_728 : Cond.static y_M_has ∈ wA := in_wA (List.mem_of_getElem? (i := 728) rfl) rfl
set_option maxRecDepth 20000 in
theorem m_711 : Cond.code y_M_all b_M_all 1 (some .long) ∈ wA := in_wA (List.mem_of_getElem? (i := 711) rfl) rfl
set_option maxRecDepth 20000 in
theorem m_708 : Cond.methodLink R_M 78 y_M_all ∈ wA := in_wA (List.mem_of_getElem? (i := 708) rfl) rfl
set_option maxRecDepth 20000 in
theorem m_710 : Cond.instanceMethod y_M_all ∈ wA := in_wA (List.mem_of_getElem? (i := 710) rfl) rfl
set_option maxRecDepth 20000 in
theorem m_18 : Cond.selects R_M y_M_all y_M_all ∈ wA := in_wA (List.mem_of_getElem? (i := 18) rfl) rfl
set_option maxRecDepth 20000 in
theorem m_715 : Cond.code y_M_nibbleSums b_M_nibbleSums 6 (some .int) ∈ wA := in_wA (List.mem_of_getElem? (i := 715) rfl) rfl
set_option maxRecDepth 20000 in
theorem m_712 : Cond.methodLink R_M 82 y_M_nibbleSums ∈ wA := in_wA (List.mem_of_getElem? (i := 712) rfl) rfl
set_option maxRecDepth 20000 in
theorem m_714 : Cond.instanceMethod y_M_nibbleSums ∈ wA := in_wA (List.mem_of_getElem? (i := 714) rfl) rfl
set_option maxRecDepth 20000 in
theorem m_19 : Cond.selects R_M y_M_nibbleSums y_M_nibbleSums ∈ wA := in_wA (List.mem_of_getElem? (i := 19) rfl) rfl
set_option maxRecDepth 20000 in
theorem m_617 : Cond.fieldLink R_M 103 R_M "bits" "I" ∈ wA := in_wA (List.mem_of_getElem? (i := 617) rfl) rfl
set_option maxRecDepth 20000 in
theorem m_616 : Cond.fieldLink R_M 100 R_M "madeCheck" "I" ∈ wA := in_wA (List.mem_of_getElem? (i := 616) rfl) rfl
set_option maxRecDepth 20000 in
theorem m_615 : Cond.fieldLink R_M 96 R_M "made" "J" ∈ wA := in_wA (List.mem_of_getElem? (i := 615) rfl) rfl
abbrev w_M_nibbleSums : List Cond := .code y_M_nibbleSums b_M_nibbleSums 6 (some .int) :: wA
abbrev rm_M_nibbleSums : Room := { frames := 2, cells := 0, slots := 0, locals := 45 }
theorem d_M_nibbleSums_0 : decode b_M_nibbleSums 0 = .ok (.iconst 0, 1) := by decide +kernel
theorem d_M_nibbleSums_1 : decode b_M_nibbleSums 1 = .ok (.istore_n 3, 1) := by decide +kernel
theorem d_M_nibbleSums_2 : decode b_M_nibbleSums 2 = .ok (.iconst 0, 1) := by decide +kernel
theorem d_M_nibbleSums_3 : decode b_M_nibbleSums 3 = .ok (.istore 4, 2) := by decide +kernel
theorem d_M_nibbleSums_5 : decode b_M_nibbleSums 5 = .ok (.iload 4, 2) := by decide +kernel
theorem d_M_nibbleSums_7 : decode b_M_nibbleSums 7 = .ok (.aload_n 0, 1) := by decide +kernel
theorem d_M_nibbleSums_8 : decode b_M_nibbleSums 8 = .ok (.invokevirtual 69, 3) := by decide +kernel
theorem d_M_nibbleSums_11 : decode b_M_nibbleSums 11 = .ok (.if_icmp .ge 56, 3) := by decide +kernel
theorem d_M_nibbleSums_14 : decode b_M_nibbleSums 14 = .ok (.lload_n 1, 1) := by decide +kernel
theorem d_M_nibbleSums_15 : decode b_M_nibbleSums 15 = .ok (.iconst 4, 1) := by decide +kernel
theorem d_M_nibbleSums_16 : decode b_M_nibbleSums 16 = .ok (.iload 4, 2) := by decide +kernel
theorem d_M_nibbleSums_18 : decode b_M_nibbleSums 18 = .ok (.imul, 1) := by decide +kernel
theorem d_M_nibbleSums_19 : decode b_M_nibbleSums 19 = .ok (.lshr, 1) := by decide +kernel
theorem d_M_nibbleSums_20 : decode b_M_nibbleSums 20 = .ok (.ldc2_w 73, 3) := by decide +kernel
theorem d_M_nibbleSums_23 : decode b_M_nibbleSums 23 = .ok (.land, 1) := by decide +kernel
theorem d_M_nibbleSums_24 : decode b_M_nibbleSums 24 = .ok (.l2i, 1) := by decide +kernel
theorem d_M_nibbleSums_25 : decode b_M_nibbleSums 25 = .ok (.istore 5, 2) := by decide +kernel
theorem d_M_nibbleSums_27 : decode b_M_nibbleSums 27 = .ok (.iload_n 3, 1) := by decide +kernel
theorem d_M_nibbleSums_28 : decode b_M_nibbleSums 28 = .ok (.iload 5, 2) := by decide +kernel
theorem d_M_nibbleSums_30 : decode b_M_nibbleSums 30 = .ok (.iload 5, 2) := by decide +kernel
theorem d_M_nibbleSums_32 : decode b_M_nibbleSums 32 = .ok (.iload 4, 2) := by decide +kernel
theorem d_M_nibbleSums_34 : decode b_M_nibbleSums 34 = .ok (.invokestatic 75, 3) := by decide +kernel
theorem d_M_nibbleSums_37 : decode b_M_nibbleSums 37 = .ok (.invokestatic 65, 3) := by decide +kernel
theorem d_M_nibbleSums_40 : decode b_M_nibbleSums 40 = .ok (.iconst 4, 1) := by decide +kernel
theorem d_M_nibbleSums_41 : decode b_M_nibbleSums 41 = .ok (.ishl, 1) := by decide +kernel
theorem d_M_nibbleSums_42 : decode b_M_nibbleSums 42 = .ok (.ior, 1) := by decide +kernel
theorem d_M_nibbleSums_43 : decode b_M_nibbleSums 43 = .ok (.iload 5, 2) := by decide +kernel
theorem d_M_nibbleSums_45 : decode b_M_nibbleSums 45 = .ok (.iconst 2, 1) := by decide +kernel
theorem d_M_nibbleSums_46 : decode b_M_nibbleSums 46 = .ok (.iload 4, 2) := by decide +kernel
theorem d_M_nibbleSums_48 : decode b_M_nibbleSums 48 = .ok (.imul, 1) := by decide +kernel
theorem d_M_nibbleSums_49 : decode b_M_nibbleSums 49 = .ok (.invokestatic 75, 3) := by decide +kernel
theorem d_M_nibbleSums_52 : decode b_M_nibbleSums 52 = .ok (.invokestatic 65, 3) := by decide +kernel
theorem d_M_nibbleSums_55 : decode b_M_nibbleSums 55 = .ok (.bipush 8, 2) := by decide +kernel
theorem d_M_nibbleSums_57 : decode b_M_nibbleSums 57 = .ok (.ishl, 1) := by decide +kernel
theorem d_M_nibbleSums_58 : decode b_M_nibbleSums 58 = .ok (.ior, 1) := by decide +kernel
theorem d_M_nibbleSums_59 : decode b_M_nibbleSums 59 = .ok (.ixor, 1) := by decide +kernel
theorem d_M_nibbleSums_60 : decode b_M_nibbleSums 60 = .ok (.istore_n 3, 1) := by decide +kernel
theorem d_M_nibbleSums_61 : decode b_M_nibbleSums 61 = .ok (.iinc 4 1, 3) := by decide +kernel
theorem d_M_nibbleSums_64 : decode b_M_nibbleSums 64 = .ok (.goto (-59), 3) := by decide +kernel
theorem d_M_nibbleSums_67 : decode b_M_nibbleSums 67 = .ok (.iload_n 3, 1) := by decide +kernel
theorem d_M_nibbleSums_68 : decode b_M_nibbleSums 68 = .ok (.ireturn, 1) := by decide +kernel
abbrev w_M_plainCheck : List Cond := .code y_M_plainCheck b_M_plainCheck 7 (some .int) :: wA
abbrev rm_M_plainCheck : Room := { frames := 3, cells := 0, slots := 0, locals := 70 }
theorem d_M_plainCheck_0 : decode b_M_plainCheck 0 = .ok (.aload_n 0, 1) := by decide +kernel
theorem d_M_plainCheck_1 : decode b_M_plainCheck 1 = .ok (.getfield 38, 3) := by decide +kernel
theorem d_M_plainCheck_4 : decode b_M_plainCheck 4 = .ok (.iconst 2, 1) := by decide +kernel
theorem d_M_plainCheck_5 : decode b_M_plainCheck 5 = .ok (.if_icmp .ne 14, 3) := by decide +kernel
theorem d_M_plainCheck_8 : decode b_M_plainCheck 8 = .ok (.aload_n 0, 1) := by decide +kernel
theorem d_M_plainCheck_9 : decode b_M_plainCheck 9 = .ok (.lload_n 1, 1) := by decide +kernel
theorem d_M_plainCheck_10 : decode b_M_plainCheck 10 = .ok (.aload_n 0, 1) := by decide +kernel
theorem d_M_plainCheck_11 : decode b_M_plainCheck 11 = .ok (.invokevirtual 78, 3) := by decide +kernel
theorem d_M_plainCheck_14 : decode b_M_plainCheck 14 = .ok (.land, 1) := by decide +kernel
theorem d_M_plainCheck_15 : decode b_M_plainCheck 15 = .ok (.invokevirtual 82, 3) := by decide +kernel
theorem d_M_plainCheck_18 : decode b_M_plainCheck 18 = .ok (.ireturn, 1) := by decide +kernel
theorem d_M_plainCheck_19 : decode b_M_plainCheck 19 = .ok (.iconst 0, 1) := by decide +kernel
theorem d_M_plainCheck_20 : decode b_M_plainCheck 20 = .ok (.istore_n 3, 1) := by decide +kernel
theorem d_M_plainCheck_21 : decode b_M_plainCheck 21 = .ok (.iconst 0, 1) := by decide +kernel
theorem d_M_plainCheck_22 : decode b_M_plainCheck 22 = .ok (.istore 4, 2) := by decide +kernel
theorem d_M_plainCheck_24 : decode b_M_plainCheck 24 = .ok (.iload 4, 2) := by decide +kernel
theorem d_M_plainCheck_26 : decode b_M_plainCheck 26 = .ok (.aload_n 0, 1) := by decide +kernel
theorem d_M_plainCheck_27 : decode b_M_plainCheck 27 = .ok (.getfield 34, 3) := by decide +kernel
theorem d_M_plainCheck_30 : decode b_M_plainCheck 30 = .ok (.if_icmp .ge 84, 3) := by decide +kernel
theorem d_M_plainCheck_33 : decode b_M_plainCheck 33 = .ok (.iload 4, 2) := by decide +kernel
theorem d_M_plainCheck_35 : decode b_M_plainCheck 35 = .ok (.aload_n 0, 1) := by decide +kernel
theorem d_M_plainCheck_36 : decode b_M_plainCheck 36 = .ok (.getfield 41, 3) := by decide +kernel
theorem d_M_plainCheck_39 : decode b_M_plainCheck 39 = .ok (.irem, 1) := by decide +kernel
theorem d_M_plainCheck_40 : decode b_M_plainCheck 40 = .ok (.istore 5, 2) := by decide +kernel
theorem d_M_plainCheck_42 : decode b_M_plainCheck 42 = .ok (.aload_n 0, 1) := by decide +kernel
theorem d_M_plainCheck_43 : decode b_M_plainCheck 43 = .ok (.getfield 38, 3) := by decide +kernel
theorem d_M_plainCheck_46 : decode b_M_plainCheck 46 = .ok (.iconst 1, 1) := by decide +kernel
theorem d_M_plainCheck_47 : decode b_M_plainCheck 47 = .ok (.if_icmp .ne 15, 3) := by decide +kernel
theorem d_M_plainCheck_50 : decode b_M_plainCheck 50 = .ok (.iconst 1, 1) := by decide +kernel
theorem d_M_plainCheck_51 : decode b_M_plainCheck 51 = .ok (.iload 4, 2) := by decide +kernel
theorem d_M_plainCheck_53 : decode b_M_plainCheck 53 = .ok (.aload_n 0, 1) := by decide +kernel
theorem d_M_plainCheck_54 : decode b_M_plainCheck 54 = .ok (.getfield 44, 3) := by decide +kernel
theorem d_M_plainCheck_57 : decode b_M_plainCheck 57 = .ok (.irem, 1) := by decide +kernel
theorem d_M_plainCheck_58 : decode b_M_plainCheck 58 = .ok (.ishl, 1) := by decide +kernel
theorem d_M_plainCheck_59 : decode b_M_plainCheck 59 = .ok (.goto 29, 3) := by decide +kernel
theorem d_M_plainCheck_62 : decode b_M_plainCheck 62 = .ok (.aload_n 0, 1) := by decide +kernel
theorem d_M_plainCheck_63 : decode b_M_plainCheck 63 = .ok (.getfield 19, 3) := by decide +kernel
theorem d_M_plainCheck_66 : decode b_M_plainCheck 66 = .ok (.bipush 57, 2) := by decide +kernel
theorem d_M_plainCheck_68 : decode b_M_plainCheck 68 = .ok (.iload 5, 2) := by decide +kernel
theorem d_M_plainCheck_70 : decode b_M_plainCheck 70 = .ok (.imul, 1) := by decide +kernel
theorem d_M_plainCheck_71 : decode b_M_plainCheck 71 = .ok (.iload 4, 2) := by decide +kernel
theorem d_M_plainCheck_73 : decode b_M_plainCheck 73 = .ok (.aload_n 0, 1) := by decide +kernel
theorem d_M_plainCheck_74 : decode b_M_plainCheck 74 = .ok (.getfield 41, 3) := by decide +kernel
theorem d_M_plainCheck_77 : decode b_M_plainCheck 77 = .ok (.idiv, 1) := by decide +kernel
theorem d_M_plainCheck_78 : decode b_M_plainCheck 78 = .ok (.iadd, 1) := by decide +kernel
theorem d_M_plainCheck_79 : decode b_M_plainCheck 79 = .ok (.iaload, 1) := by decide +kernel
theorem d_M_plainCheck_80 : decode b_M_plainCheck 80 = .ok (.aload_n 0, 1) := by decide +kernel
theorem d_M_plainCheck_81 : decode b_M_plainCheck 81 = .ok (.getfield 16, 3) := by decide +kernel
theorem d_M_plainCheck_84 : decode b_M_plainCheck 84 = .ok (.iload 5, 2) := by decide +kernel
theorem d_M_plainCheck_86 : decode b_M_plainCheck 86 = .ok (.iaload, 1) := by decide +kernel
theorem d_M_plainCheck_87 : decode b_M_plainCheck 87 = .ok (.ishl, 1) := by decide +kernel
theorem d_M_plainCheck_88 : decode b_M_plainCheck 88 = .ok (.istore 6, 2) := by decide +kernel
theorem d_M_plainCheck_90 : decode b_M_plainCheck 90 = .ok (.iload_n 3, 1) := by decide +kernel
theorem d_M_plainCheck_91 : decode b_M_plainCheck 91 = .ok (.lload_n 1, 1) := by decide +kernel
theorem d_M_plainCheck_92 : decode b_M_plainCheck 92 = .ok (.iload 4, 2) := by decide +kernel
theorem d_M_plainCheck_94 : decode b_M_plainCheck 94 = .ok (.invokestatic 85, 3) := by decide +kernel
theorem d_M_plainCheck_97 : decode b_M_plainCheck 97 = .ok (.ifCond .eq 8, 3) := by decide +kernel
theorem d_M_plainCheck_100 : decode b_M_plainCheck 100 = .ok (.iload 6, 2) := by decide +kernel
theorem d_M_plainCheck_102 : decode b_M_plainCheck 102 = .ok (.goto 4, 3) := by decide +kernel
theorem d_M_plainCheck_105 : decode b_M_plainCheck 105 = .ok (.iconst 0, 1) := by decide +kernel
theorem d_M_plainCheck_106 : decode b_M_plainCheck 106 = .ok (.ixor, 1) := by decide +kernel
theorem d_M_plainCheck_107 : decode b_M_plainCheck 107 = .ok (.istore_n 3, 1) := by decide +kernel
theorem d_M_plainCheck_108 : decode b_M_plainCheck 108 = .ok (.iinc 4 1, 3) := by decide +kernel
theorem d_M_plainCheck_111 : decode b_M_plainCheck 111 = .ok (.goto (-87), 3) := by decide +kernel
theorem d_M_plainCheck_114 : decode b_M_plainCheck 114 = .ok (.iload_n 3, 1) := by decide +kernel
theorem d_M_plainCheck_115 : decode b_M_plainCheck 115 = .ok (.ireturn, 1) := by decide +kernel
abbrev w_M_mend : List Cond := .code y_M_mend b_M_mend 5 (some .int) :: wA
abbrev rm_M_mend : Room := { frames := 1, cells := 0, slots := 0, locals := 23 }
theorem d_M_mend_0 : decode b_M_mend 0 = .ok (.iload_n 2, 1) := by decide +kernel
theorem d_M_mend_1 : decode b_M_mend 1 = .ok (.ifCond .ne 5, 3) := by decide +kernel
theorem d_M_mend_4 : decode b_M_mend 4 = .ok (.iconst 0, 1) := by decide +kernel
theorem d_M_mend_5 : decode b_M_mend 5 = .ok (.ireturn, 1) := by decide +kernel
theorem d_M_mend_6 : decode b_M_mend 6 = .ok (.iconst 2, 1) := by decide +kernel
theorem d_M_mend_7 : decode b_M_mend 7 = .ok (.istore_n 3, 1) := by decide +kernel
theorem d_M_mend_8 : decode b_M_mend 8 = .ok (.iconst 0, 1) := by decide +kernel
theorem d_M_mend_9 : decode b_M_mend 9 = .ok (.istore 4, 2) := by decide +kernel
theorem d_M_mend_11 : decode b_M_mend 11 = .ok (.iload 4, 2) := by decide +kernel
theorem d_M_mend_13 : decode b_M_mend 13 = .ok (.aload_n 0, 1) := by decide +kernel
theorem d_M_mend_14 : decode b_M_mend 14 = .ok (.getfield 7, 3) := by decide +kernel
theorem d_M_mend_17 : decode b_M_mend 17 = .ok (.iload_n 1, 1) := by decide +kernel
theorem d_M_mend_18 : decode b_M_mend 18 = .ok (.iaload, 1) := by decide +kernel
theorem d_M_mend_19 : decode b_M_mend 19 = .ok (.if_icmp .ge 47, 3) := by decide +kernel
theorem d_M_mend_22 : decode b_M_mend 22 = .ok (.aload_n 0, 1) := by decide +kernel
theorem d_M_mend_23 : decode b_M_mend 23 = .ok (.getfield 19, 3) := by decide +kernel
theorem d_M_mend_26 : decode b_M_mend 26 = .ok (.bipush 57, 2) := by decide +kernel
theorem d_M_mend_28 : decode b_M_mend 28 = .ok (.iload_n 1, 1) := by decide +kernel
theorem d_M_mend_29 : decode b_M_mend 29 = .ok (.imul, 1) := by decide +kernel
theorem d_M_mend_30 : decode b_M_mend 30 = .ok (.iload 4, 2) := by decide +kernel
theorem d_M_mend_32 : decode b_M_mend 32 = .ok (.iadd, 1) := by decide +kernel
theorem d_M_mend_33 : decode b_M_mend 33 = .ok (.iaload, 1) := by decide +kernel
theorem d_M_mend_34 : decode b_M_mend 34 = .ok (.iload_n 2, 1) := by decide +kernel
theorem d_M_mend_35 : decode b_M_mend 35 = .ok (.if_icmp .ne 25, 3) := by decide +kernel
theorem d_M_mend_38 : decode b_M_mend 38 = .ok (.aload_n 0, 1) := by decide +kernel
theorem d_M_mend_39 : decode b_M_mend 39 = .ok (.dup, 1) := by decide +kernel
theorem d_M_mend_40 : decode b_M_mend 40 = .ok (.getfield 96, 3) := by decide +kernel
theorem d_M_mend_43 : decode b_M_mend 43 = .ok (.lconst 1, 1) := by decide +kernel
theorem d_M_mend_44 : decode b_M_mend 44 = .ok (.iload 4, 2) := by decide +kernel
theorem d_M_mend_46 : decode b_M_mend 46 = .ok (.aload_n 0, 1) := by decide +kernel
theorem d_M_mend_47 : decode b_M_mend 47 = .ok (.getfield 41, 3) := by decide +kernel
theorem d_M_mend_50 : decode b_M_mend 50 = .ok (.imul, 1) := by decide +kernel
theorem d_M_mend_51 : decode b_M_mend 51 = .ok (.iload_n 1, 1) := by decide +kernel
theorem d_M_mend_52 : decode b_M_mend 52 = .ok (.iadd, 1) := by decide +kernel
theorem d_M_mend_53 : decode b_M_mend 53 = .ok (.lshl, 1) := by decide +kernel
theorem d_M_mend_54 : decode b_M_mend 54 = .ok (.lxor, 1) := by decide +kernel
theorem d_M_mend_55 : decode b_M_mend 55 = .ok (.putfield 96, 3) := by decide +kernel
theorem d_M_mend_58 : decode b_M_mend 58 = .ok (.iconst 1, 1) := by decide +kernel
theorem d_M_mend_59 : decode b_M_mend 59 = .ok (.istore_n 3, 1) := by decide +kernel
theorem d_M_mend_60 : decode b_M_mend 60 = .ok (.iinc 4 1, 3) := by decide +kernel
theorem d_M_mend_63 : decode b_M_mend 63 = .ok (.goto (-52), 3) := by decide +kernel
theorem d_M_mend_66 : decode b_M_mend 66 = .ok (.iload_n 3, 1) := by decide +kernel
theorem d_M_mend_67 : decode b_M_mend 67 = .ok (.iconst 2, 1) := by decide +kernel
theorem d_M_mend_68 : decode b_M_mend 68 = .ok (.if_icmp .ne 31, 3) := by decide +kernel
theorem d_M_mend_71 : decode b_M_mend 71 = .ok (.iload_n 2, 1) := by decide +kernel
theorem d_M_mend_72 : decode b_M_mend 72 = .ok (.i2l, 1) := by decide +kernel
theorem d_M_mend_73 : decode b_M_mend 73 = .ok (.invokestatic 54, 3) := by decide +kernel
theorem d_M_mend_76 : decode b_M_mend 76 = .ok (.iconst 1, 1) := by decide +kernel
theorem d_M_mend_77 : decode b_M_mend 77 = .ok (.if_icmp .ne 22, 3) := by decide +kernel
theorem d_M_mend_80 : decode b_M_mend 80 = .ok (.aload_n 0, 1) := by decide +kernel
theorem d_M_mend_81 : decode b_M_mend 81 = .ok (.dup, 1) := by decide +kernel
theorem d_M_mend_82 : decode b_M_mend 82 = .ok (.getfield 100, 3) := by decide +kernel
theorem d_M_mend_85 : decode b_M_mend 85 = .ok (.iload_n 2, 1) := by decide +kernel
theorem d_M_mend_86 : decode b_M_mend 86 = .ok (.aload_n 0, 1) := by decide +kernel
theorem d_M_mend_87 : decode b_M_mend 87 = .ok (.getfield 16, 3) := by decide +kernel
theorem d_M_mend_90 : decode b_M_mend 90 = .ok (.iload_n 1, 1) := by decide +kernel
theorem d_M_mend_91 : decode b_M_mend 91 = .ok (.iaload, 1) := by decide +kernel
theorem d_M_mend_92 : decode b_M_mend 92 = .ok (.ishl, 1) := by decide +kernel
theorem d_M_mend_93 : decode b_M_mend 93 = .ok (.ixor, 1) := by decide +kernel
theorem d_M_mend_94 : decode b_M_mend 94 = .ok (.putfield 100, 3) := by decide +kernel
theorem d_M_mend_97 : decode b_M_mend 97 = .ok (.iconst 1, 1) := by decide +kernel
theorem d_M_mend_98 : decode b_M_mend 98 = .ok (.istore_n 3, 1) := by decide +kernel
theorem d_M_mend_99 : decode b_M_mend 99 = .ok (.aload_n 0, 1) := by decide +kernel
theorem d_M_mend_100 : decode b_M_mend 100 = .ok (.dup, 1) := by decide +kernel
theorem d_M_mend_101 : decode b_M_mend 101 = .ok (.getfield 103, 3) := by decide +kernel
theorem d_M_mend_104 : decode b_M_mend 104 = .ok (.iload_n 3, 1) := by decide +kernel
theorem d_M_mend_105 : decode b_M_mend 105 = .ok (.iconst 1, 1) := by decide +kernel
theorem d_M_mend_106 : decode b_M_mend 106 = .ok (.if_icmp .ne 7, 3) := by decide +kernel
theorem d_M_mend_109 : decode b_M_mend 109 = .ok (.iconst 1, 1) := by decide +kernel
theorem d_M_mend_110 : decode b_M_mend 110 = .ok (.goto 4, 3) := by decide +kernel
theorem d_M_mend_113 : decode b_M_mend 113 = .ok (.iconst 0, 1) := by decide +kernel
theorem d_M_mend_114 : decode b_M_mend 114 = .ok (.iadd, 1) := by decide +kernel
theorem d_M_mend_115 : decode b_M_mend 115 = .ok (.putfield 103, 3) := by decide +kernel
theorem d_M_mend_118 : decode b_M_mend 118 = .ok (.iload_n 3, 1) := by decide +kernel
theorem d_M_mend_119 : decode b_M_mend 119 = .ok (.ireturn, 1) := by decide +kernel
set_option maxHeartbeats 4000000 in
set_option maxRecDepth 100000 in
theorem c_M_nibbleSums (l : Launch) (D : va_G) (g : Nat → ClassId) (sz : Nat) (wm : va_W) (mo wi ck fq co sq uq gq kd M ifo fl : Nat) (th mk bi ch9 tu9 : Int32) (ma wo9 : Int64) (fw fc ff fco fsq fu fg : Nat → Int32) (hM0 : 0 < M) (hM : M ≤ 57) (v : Nat) (hv : v < 2 ^ 57) : Met l y_M_nibbleSums w_M_nibbleSums rm_M_nibbleSums (va_Pc [.ref mo, .long (lN v)] (pP D (tyl g) ((mo, .inr (6, [.int (th), .int (nI M), .int (nI kd), .int (nI (ckb kd M)), .int (nI (nk kd)), .ref wi, .ref ck, .ref fq, .ref co, .int (nI (grsK kd M)), .int (nI ifo), .int (nI fl), .long (ma), .int (mk), .int (bi), .long (wo9), .int (ch9), .int (tu9), .ref sq, .ref uq, .ref gq])) :: (wi, .inl (g 0, 4, .inl (fw))) :: (ck, .inl (g 0, 4, .inl (fc))) :: (fq, .inl (g 0, 4, .inl (ff))) :: (co, .inl (g 0, 228, .inl (fco))) :: (sq, .inl (g 0, 8, .inl (fsq))) :: (uq, .inl (g 2, 128, .inl (fu))) :: (gq, .inl (g 0, 7, .inl (fg))) :: wm) sz)) (va_Qi (fun (r : Int32) (u : Unit) => r = nI (xs mkN v (4 * ((M + 3) / 4)))) (fun u => qB D (va_A ((mo, .inr (6, [.int (th), .int (nI M), .int (nI kd), .int (nI (ckb kd M)), .int (nI (nk kd)), .ref wi, .ref ck, .ref fq, .ref co, .int (nI (grsK kd M)), .int (nI ifo), .int (nI fl), .long (ma), .int (mk), .int (bi), .long (wo9), .int (ch9), .int (tu9), .ref sq, .ref uq, .ref gq])) :: (wi, .inl (g 0, 4, .inl (fw))) :: (ck, .inl (g 0, 4, .inl (fc))) :: (fq, .inl (g 0, 4, .inl (ff))) :: (co, .inl (g 0, 228, .inl (fco))) :: (sq, .inl (g 0, 8, .inl (fsq))) :: (uq, .inl (g 2, 128, .inl (fu))) :: (gq, .inl (g 0, 7, .inl (fg))) :: wm) sz) ((mo, .inr (6, [.int (th), .int (nI M), .int (nI kd), .int (nI (ckb kd M)), .int (nI (nk kd)), .ref wi, .ref ck, .ref fq, .ref co, .int (nI (grsK kd M)), .int (nI ifo), .int (nI fl), .long (ma), .int (mk), .int (bi), .long (wo9), .int (ch9), .int (tu9), .ref sq, .ref uq, .ref gq])) :: (wi, .inl (g 0, 4, .inl (fw))) :: (ck, .inl (g 0, 4, .inl (fc))) :: (fq, .inl (g 0, 4, .inl (ff))) :: (co, .inl (g 0, 228, .inl (fco))) :: (sq, .inl (g 0, 8, .inl (fsq))) :: (uq, .inl (g 2, 128, .inl (fu))) :: (gq, .inl (g 0, 7, .inl (fg))) :: wm)) (va_A ((mo, .inr (6, [.int (th), .int (nI M), .int (nI kd), .int (nI (ckb kd M)), .int (nI (nk kd)), .ref wi, .ref ck, .ref fq, .ref co, .int (nI (grsK kd M)), .int (nI ifo), .int (nI fl), .long (ma), .int (mk), .int (bi), .long (wo9), .int (ch9), .int (tu9), .ref sq, .ref uq, .ref gq])) :: (wi, .inl (g 0, 4, .inl (fw))) :: (ck, .inl (g 0, 4, .inl (fc))) :: (fq, .inl (g 0, 4, .inl (ff))) :: (co, .inl (g 0, 228, .inl (fco))) :: (sq, .inl (g 0, 8, .inl (fsq))) :: (uq, .inl (g 2, 128, .inl (fu))) :: (gq, .inl (g 0, 7, .inl (fg))) :: wm) sz)) 0 0 (va_A ((mo, .inr (6, [.int (th), .int (nI M), .int (nI kd), .int (nI (ckb kd M)), .int (nI (nk kd)), .ref wi, .ref ck, .ref fq, .ref co, .int (nI (grsK kd M)), .int (nI ifo), .int (nI fl), .long (ma), .int (mk), .int (bi), .long (wo9), .int (ch9), .int (tu9), .ref sq, .ref uq, .ref gq])) :: (wi, .inl (g 0, 4, .inl (fw))) :: (ck, .inl (g 0, 4, .inl (fc))) :: (fq, .inl (g 0, 4, .inl (ff))) :: (co, .inl (g 0, 228, .inl (fco))) :: (sq, .inl (g 0, 8, .inl (fsq))) :: (uq, .inl (g 2, 128, .inl (fu))) :: (gq, .inl (g 0, 7, .inl (fg))) :: wm) sz) := by
  refine Met.ofW (cc := b_M_nibbleSums) (maxL := 6) (ret := (some .int)) (by decide +kernel) rfl ?_
  intro p e s m args below meth c s₁ Bq hml hv
  have hx := Bq.exec
  have hb := Bq.bytes
  have hr := Bq.returns
  have hts : ∀ w ∈ wA, w.before args s = true := fun w h => atoms_spec (ws := w_M_nibbleSums) Bq.pre w (List.mem_cons_of_mem _ h)
  have hown : s.vm.findClass R_M = some m.cls := findClass_of_methodNamed Bq.named
  have hlocks := Bq.notSynchronized
  obtain ⟨rfl, hsz, hP, hKK, hD0⟩ := hv
  have hK := hKK.1
  subst hsz
  have hD := hD0.self (sz := s.heap.size)
  generalize hAe : va_A ((mo, .inr (6, [.int (th), .int (nI M), .int (nI kd), .int (nI (ckb kd M)), .int (nI (nk kd)), .ref wi, .ref ck, .ref fq, .ref co, .int (nI (grsK kd M)), .int (nI ifo), .int (nI fl), .long (ma), .int (mk), .int (bi), .long (wo9), .int (ch9), .int (tu9), .ref sq, .ref uq, .ref gq])) :: (wi, .inl (g 0, 4, .inl (fw))) :: (ck, .inl (g 0, 4, .inl (fc))) :: (fq, .inl (g 0, 4, .inl (ff))) :: (co, .inl (g 0, 228, .inl (fco))) :: (sq, .inl (g 0, 8, .inl (fsq))) :: (uq, .inl (g 2, 128, .inl (fu))) :: (gq, .inl (g 0, 7, .inl (fg))) :: wm) s.heap.size = A at hD ⊢
  have hA : ∀ q : Nat, s.heap.size ≤ q → A q := fun q h => by rw [← hAe]; exact Or.inr h
  have hS : va_S A s.heap s.heap [] := va_S.rf
  have hl := lv_entry ([.ref mo, .long (lN v)]) (n := 6) (Nat.le_of_ble_eq_true rfl)
  rw [lg_entry_eq]
  generalize (lg_sl ([.ref mo, .long (lN v)]) ++ List.replicate (6 - (lg_sl ([.ref mo, .long (lN v)])).length) Slot.unset).toArray = ls at hl ⊢
  have hl : lv_has ls 6 [(0, .ref mo), (1, .long (lN v))] := hl
  generalize hQ : MQ below (va_Qi (fun (r : Int32) (u : Unit) => r = nI (xs mkN v (4 * ((M + 3) / 4)))) (fun u => qB D (A) ((mo, .inr (6, [.int (th), .int (nI M), .int (nI kd), .int (nI (ckb kd M)), .int (nI (nk kd)), .ref wi, .ref ck, .ref fq, .ref co, .int (nI (grsK kd M)), .int (nI ifo), .int (nI fl), .long (ma), .int (mk), .int (bi), .long (wo9), .int (ch9), .int (tu9), .ref sq, .ref uq, .ref gq])) :: (wi, .inl (g 0, 4, .inl (fw))) :: (ck, .inl (g 0, 4, .inl (fc))) :: (fq, .inl (g 0, 4, .inl (ff))) :: (co, .inl (g 0, 228, .inl (fco))) :: (sq, .inl (g 0, 8, .inl (fsq))) :: (uq, .inl (g 2, 128, .inl (fu))) :: (gq, .inl (g 0, 7, .inl (fg))) :: wm)) (A)) [.ref mo, .long (lN v)].toArray s 0 0 A = Q
  have lp5 : ∀ (n : Nat) (j : Nat) (ls : Array Slot) (H : Heap) (locs : List Loc), ((M + 3) / 4 + 1 ≤ j + n) → (j ≤ (M + 3) / 4) → lv_has ls 6 [(0, .ref mo), (1, .long (lN v)), (3, .int (nI (xs mkN v (4 * j)))), (4, .int (nI j))] → va_P D vwCl ((mo, .inr (6, [.int (th), .int (nI M), .int (nI kd), .int (nI (ckb kd M)), .int (nI (nk kd)), .ref wi, .ref ck, .ref fq, .ref co, .int (nI (grsK kd M)), .int (nI ifo), .int (nI fl), .long (ma), .int (mk), .int (bi), .long (wo9), .int (ch9), .int (tu9), .ref sq, .ref uq, .ref gq])) :: (wi, .inl (g 0, 4, .inl (fw))) :: (ck, .inl (g 0, 4, .inl (fc))) :: (fq, .inl (g 0, 4, .inl (ff))) :: (co, .inl (g 0, 228, .inl (fco))) :: (sq, .inl (g 0, 8, .inl (fsq))) :: (uq, .inl (g 2, 128, .inl (fu))) :: (gq, .inl (g 0, 7, .inl (fg))) :: wm) H → va_D A ((mo, .inr (6, [.int (th), .int (nI M), .int (nI kd), .int (nI (ckb kd M)), .int (nI (nk kd)), .ref wi, .ref ck, .ref fq, .ref co, .int (nI (grsK kd M)), .int (nI ifo), .int (nI fl), .long (ma), .int (mk), .int (bi), .long (wo9), .int (ch9), .int (tu9), .ref sq, .ref uq, .ref gq])) :: (wi, .inl (g 0, 4, .inl (fw))) :: (ck, .inl (g 0, 4, .inl (fc))) :: (fq, .inl (g 0, 4, .inl (ff))) :: (co, .inl (g 0, 228, .inl (fco))) :: (sq, .inl (g 0, 8, .inl (fsq))) :: (uq, .inl (g 2, 128, .inl (fu))) :: (gq, .inl (g 0, 7, .inl (fg))) :: wm) → va_S A s.heap H locs → W p l e (headSpec w_M_nibbleSums rm_M_nibbleSums).room s m [.ref mo, .long (lN v)].toArray below meth c H locs 0 0 Q (F0 m 5 ls []) := by
    intro n
    induction n with
    | zero => intro j ls H locs hfu hj _ _ _ _; exact absurd hfu (by omega)
    | succ n ih =>
      intro j ls H locs hfu hj hl hP hD hS
      refine lv_iload hx hb d_M_nibbleSums_5 (lv_at hl 3 rfl) ?_
      refine lv_aload_n hx hb d_M_nibbleSums_7 rfl (lv_at hl 0 rfl) ?_
      refine lc_Vi (b := mo) (As := []) (rest := [.int (nI j)]) ⟨hx, hb, hml, hown, hts⟩ (c_M_nibbles l D g _ wm mo wi ck fq co sq uq gq kd M ifo fl th mk bi ch9 tu9 ma wo9 fw fc ff fco fsq fu fg hM0 hM) (kV 0 hts m_719 m_716 m_718 m_20 m_40 (by decide +kernel) ⟨Nat.le_of_ble_eq_true rfl, Nat.le_of_ble_eq_true rfl⟩) (va_recv hK hP (ci := 6) (q0 := 0) rfl rfl) hKK hP hD hS hA hl.1 rfl rfl (Nat.le_of_ble_eq_true rfl) d_M_nibbleSums_8 ⟨Nat.le_of_ble_eq_true rfl, Nat.le_of_ble_eq_true rfl⟩ (fun r0 u H locs e0 hP hD hS => ?_)
      obtain rfl : r0 = nI ((M + 3) / 4) := e0
      refine lx_icmp_ge (tgt := 67) hx hb d_M_nibbleSums_11 (by decide) (by omega) (by omega) (fun c11 => ?_) (fun c11 => ?_)
      · skip
        refine lv_iload_n hx hb d_M_nibbleSums_67 rfl (lv_at hl 2 rfl) ?_
        rw [← hQ]
        refine W.iret (v := nI (xs mkN v (4 * j))) hx hb hr ?_ hS.2.2 d_M_nibbleSums_68
        exact fun t ht hW => ⟨⟨nI (xs mkN v (4 * j)), (), rfl, (by rw [show j = (M + 3) / 4 by omega]), by rw [ht]; exact hP, hD⟩, hS.F ht⟩
      · skip
        have hq9 : v >>> (4 * j) % 16 < 16 := Nat.mod_lt _ (by decide)
        have hr1 := rz_lt hq9 j
        have hr2 := rz_lt hq9 (2 * j)
        refine lv_lload_n hx hb d_M_nibbleSums_14 rfl (lv_at hl 1 rfl) ?_
        refine lv_iconst (v := nI 4) hx hb d_M_nibbleSums_15 (by decide) ?_
        refine lv_iload hx hb d_M_nibbleSums_16 (lv_at hl 3 rfl) ?_
        refine lx_imul (z := nI (4 * j)) hx hb d_M_nibbleSums_18 (pk_mul _ _) ?_
        refine lv_lshr (v := lN (v >>> (4 * j))) hx hb d_M_nibbleSums_19 (xl_sshr (by omega) (by omega)) ?_
        refine lv_ldc2 (v := 15) hx hb hown (hts _ m_720) d_M_nibbleSums_20 ?_
        refine lv_topl (fun y1 ey1 => ?_)
        obtain rfl : y1 = lN 15 := ey1.trans (by decide)
        refine lx_land (z := lN (v >>> (4 * j) % 16)) hx hb d_M_nibbleSums_23 ((xl_and _ _).trans (by rw [show (15 : Nat) = 2 ^ 4 - 1 from rfl, Nat.and_two_pow_sub_one_eq_mod])) ?_
        refine lv_l2i (v := nI (v >>> (4 * j) % 16)) hx hb d_M_nibbleSums_24 (lN_i (v >>> (4 * j) % 16)) ?_
        refine lv_istore (lv' := [(5, .int (nI (v >>> (4 * j) % 16))), (0, .ref mo), (1, .long (lN v)), (3, .int (nI (xs mkN v (4 * j)))), (4, .int (nI j))]) hx hb d_M_nibbleSums_25 hl (by decide) rfl (fun ls hl => ?_)
        refine lv_iload_n hx hb d_M_nibbleSums_27 rfl (lv_at hl 3 rfl) ?_
        refine lv_iload hx hb d_M_nibbleSums_28 (lv_at hl 0 rfl) ?_
        refine lv_iload hx hb d_M_nibbleSums_30 (lv_at hl 0 rfl) ?_
        refine lv_iload hx hb d_M_nibbleSums_32 (lv_at hl 4 rfl) ?_
        refine lc_Si (As := [.int (nI j)]) (rest := [.int (nI (v >>> (4 * j) % 16)), .int (nI (v >>> (4 * j) % 16)), .int (nI (xs mkN v (4 * j)))]) ⟨hx, hb, hml, hown, hts⟩ (c_M_power l D g _ _ j (by omega)) (kS 1 hts m_723 m_721 m_722 m_40 (by decide +kernel) ⟨Nat.le_of_ble_eq_true rfl, Nat.le_of_ble_eq_true rfl⟩) hKK hP hD hS hA hl.1 rfl rfl (Nat.le_of_ble_eq_true rfl) d_M_nibbleSums_34 ⟨Nat.le_of_ble_eq_true rfl, Nat.le_of_ble_eq_true rfl⟩ (fun r1 u1 H locs e1 hP hD hS => ?_)
        obtain rfl : r1 = nI (rz 1 j) := e1
        refine lc_Si (As := [.int (nI (v >>> (4 * j) % 16)), .int (nI (rz 1 j))]) (rest := [.int (nI (v >>> (4 * j) % 16)), .int (nI (xs mkN v (4 * j)))]) ⟨hx, hb, hml, hown, hts⟩ (c_M_times l D g _ _ (v >>> (4 * j) % 16) (rz 1 j) hq9 (rz_lt (by decide) j)) (kS 2 hts m_726 m_724 m_725 m_40 (by decide +kernel) ⟨Nat.le_of_ble_eq_true rfl, Nat.le_of_ble_eq_true rfl⟩) hKK hP hD hS hA hl.1 rfl rfl (Nat.le_of_ble_eq_true rfl) d_M_nibbleSums_37 ⟨Nat.le_of_ble_eq_true rfl, Nat.le_of_ble_eq_true rfl⟩ (fun r2 u2 H locs e2 hP hD hS => ?_)
        obtain rfl : r2 = nI (rz (v >>> (4 * j) % 16) j) := e2.trans (by rw [tms_rz _ hq9 j (by omega)])
        refine lv_iconst (v := nI 4) hx hb d_M_nibbleSums_40 (by decide) ?_
        refine lx_ishl (z := nI (rz (v >>> (4 * j) % 16) j <<< 4)) hx hb d_M_nibbleSums_41 (xn_shl _ (by decide)) ?_
        refine lx_ior (z := nI ((v >>> (4 * j) % 16) ||| (rz (v >>> (4 * j) % 16) j <<< 4))) hx hb d_M_nibbleSums_42 (xn_or (v >>> (4 * j) % 16) (rz (v >>> (4 * j) % 16) j <<< 4)) ?_
        refine lv_iload hx hb d_M_nibbleSums_43 (lv_at hl 0 rfl) ?_
        refine lv_iconst (v := nI 2) hx hb d_M_nibbleSums_45 (by decide) ?_
        refine lv_iload hx hb d_M_nibbleSums_46 (lv_at hl 4 rfl) ?_
        refine lx_imul (z := nI (2 * j)) hx hb d_M_nibbleSums_48 (pk_mul _ _) ?_
        refine lc_Si (As := [.int (nI (2 * j))]) (rest := [.int (nI (v >>> (4 * j) % 16)), .int (nI ((v >>> (4 * j) % 16) ||| (rz (v >>> (4 * j) % 16) j <<< 4))), .int (nI (xs mkN v (4 * j)))]) ⟨hx, hb, hml, hown, hts⟩ (c_M_power l D g _ _ (2 * j) (by omega)) (kS 1 hts m_723 m_721 m_722 m_40 (by decide +kernel) ⟨Nat.le_of_ble_eq_true rfl, Nat.le_of_ble_eq_true rfl⟩) hKK hP hD hS hA hl.1 rfl rfl (Nat.le_of_ble_eq_true rfl) d_M_nibbleSums_49 ⟨Nat.le_of_ble_eq_true rfl, Nat.le_of_ble_eq_true rfl⟩ (fun r3 u3 H locs e3 hP hD hS => ?_)
        obtain rfl : r3 = nI (rz 1 (2 * j)) := e3
        refine lc_Si (As := [.int (nI (v >>> (4 * j) % 16)), .int (nI (rz 1 (2 * j)))]) (rest := [.int (nI ((v >>> (4 * j) % 16) ||| (rz (v >>> (4 * j) % 16) j <<< 4))), .int (nI (xs mkN v (4 * j)))]) ⟨hx, hb, hml, hown, hts⟩ (c_M_times l D g _ _ (v >>> (4 * j) % 16) (rz 1 (2 * j)) hq9 (rz_lt (by decide) _)) (kS 2 hts m_726 m_724 m_725 m_40 (by decide +kernel) ⟨Nat.le_of_ble_eq_true rfl, Nat.le_of_ble_eq_true rfl⟩) hKK hP hD hS hA hl.1 rfl rfl (Nat.le_of_ble_eq_true rfl) d_M_nibbleSums_52 ⟨Nat.le_of_ble_eq_true rfl, Nat.le_of_ble_eq_true rfl⟩ (fun r4 u4 H locs e4 hP hD hS => ?_)
        obtain rfl : r4 = nI (rz (v >>> (4 * j) % 16) (2 * j)) := e4.trans (by rw [tms_rz _ hq9 (2 * j) (by omega)])
        refine lv_bipush (v := nI 8) hx hb d_M_nibbleSums_55 (by decide) ?_
        refine lx_ishl (z := nI (rz (v >>> (4 * j) % 16) (2 * j) <<< 8)) hx hb d_M_nibbleSums_57 (xn_shl _ (by decide)) ?_
        refine lx_ior (z := nI (((v >>> (4 * j) % 16) ||| (rz (v >>> (4 * j) % 16) j <<< 4)) ||| (rz (v >>> (4 * j) % 16) (2 * j) <<< 8))) hx hb d_M_nibbleSums_58 (xn_or ((v >>> (4 * j) % 16) ||| (rz (v >>> (4 * j) % 16) j <<< 4)) (rz (v >>> (4 * j) % 16) (2 * j) <<< 8)) ?_
        refine lx_ixor (z := nI (xs mkN v (4 * (j + 1)))) hx hb d_M_nibbleSums_59 ((xn_xor _ _).trans (by rw [xs_nib v j (by omega)])) ?_
        refine lv_istore_n (lv' := [(3, .int (nI (xs mkN v (4 * (j + 1))))), (5, .int (nI (v >>> (4 * j) % 16))), (0, .ref mo), (1, .long (lN v)), (4, .int (nI j))]) hx hb d_M_nibbleSums_60 rfl hl (by decide) rfl (fun ls hl => ?_)
        refine lv_iinc (v := nI (j + 1)) (lv' := [(4, .int (nI (j + 1))), (3, .int (nI (xs mkN v (4 * (j + 1))))), (5, .int (nI (v >>> (4 * j) % 16))), (0, .ref mo), (1, .long (lN v))]) hx hb d_M_nibbleSums_61 hl (k := 4) rfl (nI_1 j) (by decide) rfl (fun ls hl => ?_)
        refine lv_goto (tgt := 5) hx hb d_M_nibbleSums_64 (by decide) ?_
        exact ih (j + 1) _ _ _ (by omega) (by omega) (lv_sub hl [3, 4, 1, 0] rfl) hP hD hS
  refine lv_iconst (v := nI 0) hx hb d_M_nibbleSums_0 (by decide) ?_
  refine lv_istore_n (lv' := [(3, .int (nI 0)), (0, .ref mo), (1, .long (lN v))]) hx hb d_M_nibbleSums_1 rfl hl (by decide) rfl (fun ls hl => ?_)
  refine lv_iconst (v := nI 0) hx hb d_M_nibbleSums_2 (by decide) ?_
  refine lv_istore (lv' := [(4, .int (nI 0)), (3, .int (nI 0)), (0, .ref mo), (1, .long (lN v))]) hx hb d_M_nibbleSums_3 hl (by decide) rfl (fun ls hl => ?_)
  exact lp5 ((M + 3) / 4 + 1) 0 _ _ _ (by omega) (by omega) (lv_sub hl [2, 3, 1, 0] rfl) hP hD hS
set_option maxHeartbeats 4000000 in
set_option maxRecDepth 100000 in
theorem c_M_plainCheck (l : Launch) (D : va_G) (g : Nat → ClassId) (sz : Nat) (wm : va_W) (mo wi ck fq co sq uq gq kd M ifo fl : Nat) (th mk bi ch9 tu9 : Int32) (ma wo9 : Int64) (fw fc ff fco fsq fu fg : Nat → Int32) (hM0 : 0 < M) (hM : M ≤ 57) (v : Nat) (hv : v < 2 ^ 64) (hkd : kd ≤ 3) (hmw : MWF kd M fw fc ff fco) : Met l y_M_plainCheck w_M_plainCheck rm_M_plainCheck (va_Pc [.ref mo, .long (lN v)] (pP D (tyl g) ((mo, .inr (6, [.int (th), .int (nI M), .int (nI kd), .int (nI (ckb kd M)), .int (nI (nk kd)), .ref wi, .ref ck, .ref fq, .ref co, .int (nI (grsK kd M)), .int (nI ifo), .int (nI fl), .long (ma), .int (mk), .int (bi), .long (wo9), .int (ch9), .int (tu9), .ref sq, .ref uq, .ref gq])) :: (wi, .inl (g 0, 4, .inl (fw))) :: (ck, .inl (g 0, 4, .inl (fc))) :: (fq, .inl (g 0, 4, .inl (ff))) :: (co, .inl (g 0, 228, .inl (fco))) :: (sq, .inl (g 0, 8, .inl (fsq))) :: (uq, .inl (g 2, 128, .inl (fu))) :: (gq, .inl (g 0, 7, .inl (fg))) :: wm) sz)) (va_Qi (fun (r : Int32) (u : Unit) => r = nI (xs (mrk kd M) v M)) (fun u => qB D (va_A ((mo, .inr (6, [.int (th), .int (nI M), .int (nI kd), .int (nI (ckb kd M)), .int (nI (nk kd)), .ref wi, .ref ck, .ref fq, .ref co, .int (nI (grsK kd M)), .int (nI ifo), .int (nI fl), .long (ma), .int (mk), .int (bi), .long (wo9), .int (ch9), .int (tu9), .ref sq, .ref uq, .ref gq])) :: (wi, .inl (g 0, 4, .inl (fw))) :: (ck, .inl (g 0, 4, .inl (fc))) :: (fq, .inl (g 0, 4, .inl (ff))) :: (co, .inl (g 0, 228, .inl (fco))) :: (sq, .inl (g 0, 8, .inl (fsq))) :: (uq, .inl (g 2, 128, .inl (fu))) :: (gq, .inl (g 0, 7, .inl (fg))) :: wm) sz) ((mo, .inr (6, [.int (th), .int (nI M), .int (nI kd), .int (nI (ckb kd M)), .int (nI (nk kd)), .ref wi, .ref ck, .ref fq, .ref co, .int (nI (grsK kd M)), .int (nI ifo), .int (nI fl), .long (ma), .int (mk), .int (bi), .long (wo9), .int (ch9), .int (tu9), .ref sq, .ref uq, .ref gq])) :: (wi, .inl (g 0, 4, .inl (fw))) :: (ck, .inl (g 0, 4, .inl (fc))) :: (fq, .inl (g 0, 4, .inl (ff))) :: (co, .inl (g 0, 228, .inl (fco))) :: (sq, .inl (g 0, 8, .inl (fsq))) :: (uq, .inl (g 2, 128, .inl (fu))) :: (gq, .inl (g 0, 7, .inl (fg))) :: wm)) (va_A ((mo, .inr (6, [.int (th), .int (nI M), .int (nI kd), .int (nI (ckb kd M)), .int (nI (nk kd)), .ref wi, .ref ck, .ref fq, .ref co, .int (nI (grsK kd M)), .int (nI ifo), .int (nI fl), .long (ma), .int (mk), .int (bi), .long (wo9), .int (ch9), .int (tu9), .ref sq, .ref uq, .ref gq])) :: (wi, .inl (g 0, 4, .inl (fw))) :: (ck, .inl (g 0, 4, .inl (fc))) :: (fq, .inl (g 0, 4, .inl (ff))) :: (co, .inl (g 0, 228, .inl (fco))) :: (sq, .inl (g 0, 8, .inl (fsq))) :: (uq, .inl (g 2, 128, .inl (fu))) :: (gq, .inl (g 0, 7, .inl (fg))) :: wm) sz)) 0 0 (va_A ((mo, .inr (6, [.int (th), .int (nI M), .int (nI kd), .int (nI (ckb kd M)), .int (nI (nk kd)), .ref wi, .ref ck, .ref fq, .ref co, .int (nI (grsK kd M)), .int (nI ifo), .int (nI fl), .long (ma), .int (mk), .int (bi), .long (wo9), .int (ch9), .int (tu9), .ref sq, .ref uq, .ref gq])) :: (wi, .inl (g 0, 4, .inl (fw))) :: (ck, .inl (g 0, 4, .inl (fc))) :: (fq, .inl (g 0, 4, .inl (ff))) :: (co, .inl (g 0, 228, .inl (fco))) :: (sq, .inl (g 0, 8, .inl (fsq))) :: (uq, .inl (g 2, 128, .inl (fu))) :: (gq, .inl (g 0, 7, .inl (fg))) :: wm) sz) := by
  refine Met.ofW (cc := b_M_plainCheck) (maxL := 7) (ret := (some .int)) (by decide +kernel) rfl ?_
  intro p e s m args below meth c s₁ Bq hml hv
  have hx := Bq.exec
  have hb := Bq.bytes
  have hr := Bq.returns
  have hts : ∀ w ∈ wA, w.before args s = true := fun w h => atoms_spec (ws := w_M_plainCheck) Bq.pre w (List.mem_cons_of_mem _ h)
  have hown : s.vm.findClass R_M = some m.cls := findClass_of_methodNamed Bq.named
  have hlocks := Bq.notSynchronized
  obtain ⟨rfl, hsz, hP, hKK, hD0⟩ := hv
  have hK := hKK.1
  subst hsz
  have hD := hD0.self (sz := s.heap.size)
  generalize hAe : va_A ((mo, .inr (6, [.int (th), .int (nI M), .int (nI kd), .int (nI (ckb kd M)), .int (nI (nk kd)), .ref wi, .ref ck, .ref fq, .ref co, .int (nI (grsK kd M)), .int (nI ifo), .int (nI fl), .long (ma), .int (mk), .int (bi), .long (wo9), .int (ch9), .int (tu9), .ref sq, .ref uq, .ref gq])) :: (wi, .inl (g 0, 4, .inl (fw))) :: (ck, .inl (g 0, 4, .inl (fc))) :: (fq, .inl (g 0, 4, .inl (ff))) :: (co, .inl (g 0, 228, .inl (fco))) :: (sq, .inl (g 0, 8, .inl (fsq))) :: (uq, .inl (g 2, 128, .inl (fu))) :: (gq, .inl (g 0, 7, .inl (fg))) :: wm) s.heap.size = A at hD ⊢
  have hA : ∀ q : Nat, s.heap.size ≤ q → A q := fun q h => by rw [← hAe]; exact Or.inr h
  have hS : va_S A s.heap s.heap [] := va_S.rf
  have hl := lv_entry ([.ref mo, .long (lN v)]) (n := 7) (Nat.le_of_ble_eq_true rfl)
  rw [lg_entry_eq]
  generalize (lg_sl ([.ref mo, .long (lN v)]) ++ List.replicate (7 - (lg_sl ([.ref mo, .long (lN v)])).length) Slot.unset).toArray = ls at hl ⊢
  have hl : lv_has ls 7 [(0, .ref mo), (1, .long (lN v))] := hl
  generalize hQ : MQ below (va_Qi (fun (r : Int32) (u : Unit) => r = nI (xs (mrk kd M) v M)) (fun u => qB D (A) ((mo, .inr (6, [.int (th), .int (nI M), .int (nI kd), .int (nI (ckb kd M)), .int (nI (nk kd)), .ref wi, .ref ck, .ref fq, .ref co, .int (nI (grsK kd M)), .int (nI ifo), .int (nI fl), .long (ma), .int (mk), .int (bi), .long (wo9), .int (ch9), .int (tu9), .ref sq, .ref uq, .ref gq])) :: (wi, .inl (g 0, 4, .inl (fw))) :: (ck, .inl (g 0, 4, .inl (fc))) :: (fq, .inl (g 0, 4, .inl (ff))) :: (co, .inl (g 0, 228, .inl (fco))) :: (sq, .inl (g 0, 8, .inl (fsq))) :: (uq, .inl (g 2, 128, .inl (fu))) :: (gq, .inl (g 0, 7, .inl (fg))) :: wm)) (A)) [.ref mo, .long (lN v)].toArray s 0 0 A = Q
  have hnk := nk_in kd
  have hck := ckb_le kd M
  refine lv_aload_n hx hb d_M_plainCheck_0 rfl (lv_at hl 0 rfl) ?_
  refine va_get (D := D) (ci := 6) (v := .int (nI kd)) (C := R_M) (T := F_M) (N := 21) hx hb hts i_M hown hK hP 0 rfl rfl 2 (by decide) (hts _ m_605) (fun _ h9 => h9) rfl d_M_plainCheck_1 ?_
  refine lv_iconst (v := nI 2) hx hb d_M_plainCheck_4 (by decide) ?_
  refine lx_icmp_ne (tgt := 19) hx hb d_M_plainCheck_5 (by decide) (by omega) (by omega) (fun c5 => ?_) (fun c5 => ?_)
  · skip
    have lp24 : ∀ (n : Nat) (k : Nat) (ls : Array Slot) (H : Heap) (locs : List Loc), (M + 1 ≤ k + n) → (k ≤ M) → lv_has ls 7 [(0, .ref mo), (1, .long (lN v)), (3, .int (nI (xs (mrk kd M) v k))), (4, .int (nI k))] → va_P D vwCl ((mo, .inr (6, [.int (th), .int (nI M), .int (nI kd), .int (nI (ckb kd M)), .int (nI (nk kd)), .ref wi, .ref ck, .ref fq, .ref co, .int (nI (grsK kd M)), .int (nI ifo), .int (nI fl), .long (ma), .int (mk), .int (bi), .long (wo9), .int (ch9), .int (tu9), .ref sq, .ref uq, .ref gq])) :: (wi, .inl (g 0, 4, .inl (fw))) :: (ck, .inl (g 0, 4, .inl (fc))) :: (fq, .inl (g 0, 4, .inl (ff))) :: (co, .inl (g 0, 228, .inl (fco))) :: (sq, .inl (g 0, 8, .inl (fsq))) :: (uq, .inl (g 2, 128, .inl (fu))) :: (gq, .inl (g 0, 7, .inl (fg))) :: wm) H → va_D A ((mo, .inr (6, [.int (th), .int (nI M), .int (nI kd), .int (nI (ckb kd M)), .int (nI (nk kd)), .ref wi, .ref ck, .ref fq, .ref co, .int (nI (grsK kd M)), .int (nI ifo), .int (nI fl), .long (ma), .int (mk), .int (bi), .long (wo9), .int (ch9), .int (tu9), .ref sq, .ref uq, .ref gq])) :: (wi, .inl (g 0, 4, .inl (fw))) :: (ck, .inl (g 0, 4, .inl (fc))) :: (fq, .inl (g 0, 4, .inl (ff))) :: (co, .inl (g 0, 228, .inl (fco))) :: (sq, .inl (g 0, 8, .inl (fsq))) :: (uq, .inl (g 2, 128, .inl (fu))) :: (gq, .inl (g 0, 7, .inl (fg))) :: wm) → va_S A s.heap H locs → W p l e (headSpec w_M_plainCheck rm_M_plainCheck).room s m [.ref mo, .long (lN v)].toArray below meth c H locs 0 0 Q (F0 m 24 ls []) := by
      intro n
      induction n with
      | zero => intro k ls H locs hfu hk _ _ _ _; exact absurd hfu (by omega)
      | succ n ih =>
        intro k ls H locs hfu hk hl hP hD hS
        refine lv_iload hx hb d_M_plainCheck_24 (lv_at hl 3 rfl) ?_
        refine lv_aload_n hx hb d_M_plainCheck_26 rfl (lv_at hl 0 rfl) ?_
        refine va_get (D := D) (ci := 6) (v := .int (nI M)) (C := R_M) (T := F_M) (N := 21) hx hb hts i_M hown hK hP 0 rfl rfl 1 (by decide) (hts _ m_604) (fun _ h9 => h9) rfl d_M_plainCheck_27 ?_
        refine lx_icmp_ge (tgt := 114) hx hb d_M_plainCheck_30 (by decide) (by omega) (by omega) (fun c30 => ?_) (fun c30 => ?_)
        · skip
          refine lv_iload_n hx hb d_M_plainCheck_114 rfl (lv_at hl 2 rfl) ?_
          rw [← hQ]
          refine W.iret (v := nI (xs (mrk kd M) v k)) hx hb hr ?_ hS.2.2 d_M_plainCheck_115
          exact fun t ht hW => ⟨⟨nI (xs (mrk kd M) v k), (), rfl, (by rw [show k = M by omega]), by rw [ht]; exact hP, hD⟩, hS.F ht⟩
        · skip
          have hm9 : k % nk kd < nk kd := Nat.mod_lt _ (by omega)
          have ihk := ih
          have j88 : ∀  (ls : Array Slot) (H : Heap) (locs : List Loc), lv_has ls 7 [(0, .ref mo), (1, .long (lN v)), (3, .int (nI (xs (mrk kd M) v k))), (4, .int (nI k))] → va_P D vwCl ((mo, .inr (6, [.int (th), .int (nI M), .int (nI kd), .int (nI (ckb kd M)), .int (nI (nk kd)), .ref wi, .ref ck, .ref fq, .ref co, .int (nI (grsK kd M)), .int (nI ifo), .int (nI fl), .long (ma), .int (mk), .int (bi), .long (wo9), .int (ch9), .int (tu9), .ref sq, .ref uq, .ref gq])) :: (wi, .inl (g 0, 4, .inl (fw))) :: (ck, .inl (g 0, 4, .inl (fc))) :: (fq, .inl (g 0, 4, .inl (ff))) :: (co, .inl (g 0, 228, .inl (fco))) :: (sq, .inl (g 0, 8, .inl (fsq))) :: (uq, .inl (g 2, 128, .inl (fu))) :: (gq, .inl (g 0, 7, .inl (fg))) :: wm) H → va_D A ((mo, .inr (6, [.int (th), .int (nI M), .int (nI kd), .int (nI (ckb kd M)), .int (nI (nk kd)), .ref wi, .ref ck, .ref fq, .ref co, .int (nI (grsK kd M)), .int (nI ifo), .int (nI fl), .long (ma), .int (mk), .int (bi), .long (wo9), .int (ch9), .int (tu9), .ref sq, .ref uq, .ref gq])) :: (wi, .inl (g 0, 4, .inl (fw))) :: (ck, .inl (g 0, 4, .inl (fc))) :: (fq, .inl (g 0, 4, .inl (ff))) :: (co, .inl (g 0, 228, .inl (fco))) :: (sq, .inl (g 0, 8, .inl (fsq))) :: (uq, .inl (g 2, 128, .inl (fu))) :: (gq, .inl (g 0, 7, .inl (fg))) :: wm) → va_S A s.heap H locs → W p l e (headSpec w_M_plainCheck rm_M_plainCheck).room s m [.ref mo, .long (lN v)].toArray below meth c H locs 0 0 Q (F0 m 88 ls [.int (nI (mrk kd M k))]) := by
            intro  ls H locs  hl hP hD hS
            refine lv_istore (lv' := [(6, .int (nI (mrk kd M k))), (0, .ref mo), (1, .long (lN v)), (3, .int (nI (xs (mrk kd M) v k))), (4, .int (nI k))]) hx hb d_M_plainCheck_88 hl (by decide) rfl (fun ls hl => ?_)
            refine lv_iload_n hx hb d_M_plainCheck_90 rfl (lv_at hl 3 rfl) ?_
            refine lv_lload_n hx hb d_M_plainCheck_91 rfl (lv_at hl 2 rfl) ?_
            refine lv_iload hx hb d_M_plainCheck_92 (lv_at hl 4 rfl) ?_
            refine lc_Si (As := [.long (lN v), .int (nI k)]) (rest := [.int (nI (xs (mrk kd M) v k))]) ⟨hx, hb, hml, hown, hts⟩ (c_M_has l D g _ _ v k hv (by omega)) (kS 2 hts m_729 m_727 m_728 m_40 (by decide +kernel) ⟨Nat.le_of_ble_eq_true rfl, Nat.le_of_ble_eq_true rfl⟩) hKK hP hD hS hA hl.1 rfl rfl (Nat.le_of_ble_eq_true rfl) d_M_plainCheck_94 ⟨Nat.le_of_ble_eq_true rfl, Nat.le_of_ble_eq_true rfl⟩ (fun r1 u1 H locs e1 hP hD hS => ?_)
            obtain rfl : r1 = nI (if v.testBit k then 1 else 0) := e1
            have hz9 : ((if v.testBit k then 1 else 0) : Nat) ≤ 1 := by split <;> decide
            refine lx_if_eq (tgt := 105) hx hb d_M_plainCheck_97 (by decide) (by omega) (fun c97 => ?_) (fun c97 => ?_)
            · skip
              have hb9 : v.testBit k = false := tb_0' c97
              refine lv_iconst (v := nI 0) hx hb d_M_plainCheck_105 (by decide) ?_
              refine lx_ixor (z := nI (xs (mrk kd M) v (k + 1))) hx hb d_M_plainCheck_106 ((xn_xor _ _).trans (by show _ = nI (xs (mrk kd M) v k ^^^ (if v.testBit k then mrk kd M k else 0)); rw [hb9]; rfl)) ?_
              refine lv_istore_n (lv' := [(3, .int (nI (xs (mrk kd M) v (k + 1)))), (6, .int (nI (mrk kd M k))), (0, .ref mo), (1, .long (lN v)), (4, .int (nI k))]) hx hb d_M_plainCheck_107 rfl hl (by decide) rfl (fun ls hl => ?_)
              refine lv_iinc (v := nI (k + 1)) (lv' := [(4, .int (nI (k + 1))), (3, .int (nI (xs (mrk kd M) v (k + 1)))), (6, .int (nI (mrk kd M k))), (0, .ref mo), (1, .long (lN v))]) hx hb d_M_plainCheck_108 hl (k := 4) rfl (nI_1 k) (by decide) rfl (fun ls hl => ?_)
              refine lv_goto (tgt := 24) hx hb d_M_plainCheck_111 (by decide) ?_
              exact ihk (k + 1) _ _ _ (by omega) (by omega) (lv_sub hl [3, 4, 1, 0] rfl) hP hD hS
            · skip
              have hb9 : v.testBit k = true := tb_1' c97
              refine lv_iload hx hb d_M_plainCheck_100 (lv_at hl 0 rfl) ?_
              refine lv_goto (tgt := 106) hx hb d_M_plainCheck_102 (by decide) ?_
              refine lx_ixor (z := nI (xs (mrk kd M) v (k + 1))) hx hb d_M_plainCheck_106 ((xn_xor _ _).trans (by show _ = nI (xs (mrk kd M) v k ^^^ (if v.testBit k then mrk kd M k else 0)); rw [hb9]; rfl)) ?_
              refine lv_istore_n (lv' := [(3, .int (nI (xs (mrk kd M) v (k + 1)))), (6, .int (nI (mrk kd M k))), (0, .ref mo), (1, .long (lN v)), (4, .int (nI k))]) hx hb d_M_plainCheck_107 rfl hl (by decide) rfl (fun ls hl => ?_)
              refine lv_iinc (v := nI (k + 1)) (lv' := [(4, .int (nI (k + 1))), (3, .int (nI (xs (mrk kd M) v (k + 1)))), (6, .int (nI (mrk kd M k))), (0, .ref mo), (1, .long (lN v))]) hx hb d_M_plainCheck_108 hl (k := 4) rfl (nI_1 k) (by decide) rfl (fun ls hl => ?_)
              refine lv_goto (tgt := 24) hx hb d_M_plainCheck_111 (by decide) ?_
              exact ihk (k + 1) _ _ _ (by omega) (by omega) (lv_sub hl [3, 4, 1, 0] rfl) hP hD hS
          refine lv_iload hx hb d_M_plainCheck_33 (lv_at hl 3 rfl) ?_
          refine lv_aload_n hx hb d_M_plainCheck_35 rfl (lv_at hl 0 rfl) ?_
          refine va_get (D := D) (ci := 6) (v := .int (nI (nk kd))) (C := R_M) (T := F_M) (N := 21) hx hb hts i_M hown hK hP 0 rfl rfl 4 (by decide) (hts _ m_607) (fun _ h9 => h9) rfl d_M_plainCheck_36 ?_
          refine lx_irem (z := nI (k % nk kd)) hx hb d_M_plainCheck_39 (nI_ne0 (by omega) (by omega)) (pk_rem (by omega) (by omega) (by omega)) ?_
          refine lv_istore (lv' := [(5, .int (nI (k % nk kd))), (0, .ref mo), (1, .long (lN v)), (3, .int (nI (xs (mrk kd M) v k))), (4, .int (nI k))]) hx hb d_M_plainCheck_40 hl (by decide) rfl (fun ls hl => ?_)
          refine lv_aload_n hx hb d_M_plainCheck_42 rfl (lv_at hl 1 rfl) ?_
          refine va_get (D := D) (ci := 6) (v := .int (nI kd)) (C := R_M) (T := F_M) (N := 21) hx hb hts i_M hown hK hP 0 rfl rfl 2 (by decide) (hts _ m_605) (fun _ h9 => h9) rfl d_M_plainCheck_43 ?_
          refine lv_iconst (v := nI 1) hx hb d_M_plainCheck_46 (by decide) ?_
          refine lx_icmp_ne (tgt := 62) hx hb d_M_plainCheck_47 (by decide) (by omega) (by omega) (fun c47 => ?_) (fun c47 => ?_)
          · skip
            have hs9 : kd = 0 ∨ kd = 3 := by omega
            obtain ⟨ht1, ht2⟩ := hmw hs9
            have hd9 : k / nk kd < wid M (nk kd) (k % nk kd) := wid_of hnk c30
            have hwl := wid_le (i := k % nk kd) hM hnk
            have hfl := frm_lt (M := M) (n := nk kd) (show k % nk kd < 4 by omega)
            have em : mrk kd M k = mkS M (nk kd) k := by rcases hs9 with rfl | rfl <;> rfl
            refine lv_aload_n hx hb d_M_plainCheck_62 rfl (lv_at hl 1 rfl) ?_
            refine va_get (D := D) (ci := 6) (v := .ref co) (C := R_M) (T := F_M) (N := 21) hx hb hts i_M hown hK hP 0 rfl rfl 8 (by decide) (hts _ m_611) (fun _ h9 => h9) rfl d_M_plainCheck_63 ?_
            refine lv_bipush (v := nI 57) hx hb d_M_plainCheck_66 (by decide) ?_
            refine lv_iload hx hb d_M_plainCheck_68 (lv_at hl 0 rfl) ?_
            refine lx_imul (z := nI (57 * (k % nk kd))) hx hb d_M_plainCheck_70 (pk_mul _ _) ?_
            refine lv_iload hx hb d_M_plainCheck_71 (lv_at hl 4 rfl) ?_
            refine lv_aload_n hx hb d_M_plainCheck_73 rfl (lv_at hl 1 rfl) ?_
            refine va_get (D := D) (ci := 6) (v := .int (nI (nk kd))) (C := R_M) (T := F_M) (N := 21) hx hb hts i_M hown hK hP 0 rfl rfl 4 (by decide) (hts _ m_607) (fun _ h9 => h9) rfl d_M_plainCheck_74 ?_
            refine lx_idiv (z := nI (k / nk kd)) hx hb d_M_plainCheck_77 (nI_ne0 (by omega) (by omega)) (pk_div (by omega) (by omega) (by omega)) ?_
            refine lx_iadd (z := nI (57 * (k % nk kd) + k / nk kd)) hx hb d_M_plainCheck_78 (nI_add _ _) ?_
            refine lx_iald (v := nI (cc_ (lr (wid M (nk kd) (k % nk kd))) (k / nk kd))) hx hb hK hP 4 0 rfl rfl (j := 57 * (k % nk kd) + k / nk kd) (by omega) (by omega) (ht2 _ _ hm9 hd9) d_M_plainCheck_79 ?_
            refine lv_aload_n hx hb d_M_plainCheck_80 rfl (lv_at hl 1 rfl) ?_
            refine va_get (D := D) (ci := 6) (v := .ref fq) (C := R_M) (T := F_M) (N := 21) hx hb hts i_M hown hK hP 0 rfl rfl 7 (by decide) (hts _ m_610) (fun _ h9 => h9) rfl d_M_plainCheck_81 ?_
            refine lv_iload hx hb d_M_plainCheck_84 (lv_at hl 0 rfl) ?_
            refine lx_iald (v := nI (frm M (nk kd) (k % nk kd))) hx hb hK hP 3 0 rfl rfl (j := k % nk kd) (by omega) (by omega) ((ht1 _ hm9).2.2) d_M_plainCheck_86 ?_
            refine lx_ishl (z := nI (mrk kd M k)) hx hb d_M_plainCheck_87 ((xn_shl _ (by omega)).trans (by rw [em]; rfl)) ?_
            exact j88  _ _ _  (lv_sub hl [1, 2, 3, 4] rfl) hP hD hS
          · skip
            have em : mrk kd M k = 1 <<< (k % ckb kd M) := by subst c47; show (if k < M then mkP (min M 4) k else 0) = _; rw [if_pos c30]; rfl
            have hcp := ckb_pos (kd := kd) hM0
            have hmr := Nat.mod_lt k hcp
            refine lv_iconst (v := nI 1) hx hb d_M_plainCheck_50 (by decide) ?_
            refine lv_iload hx hb d_M_plainCheck_51 (lv_at hl 4 rfl) ?_
            refine lv_aload_n hx hb d_M_plainCheck_53 rfl (lv_at hl 1 rfl) ?_
            refine va_get (D := D) (ci := 6) (v := .int (nI (ckb kd M))) (C := R_M) (T := F_M) (N := 21) hx hb hts i_M hown hK hP 0 rfl rfl 3 (by decide) (hts _ m_606) (fun _ h9 => h9) rfl d_M_plainCheck_54 ?_
            refine lx_irem (z := nI (k % ckb kd M)) hx hb d_M_plainCheck_57 (nI_ne0 (by omega) (by omega)) (pk_rem (by omega) (by omega) (by omega)) ?_
            refine lx_ishl (z := nI (mrk kd M k)) hx hb d_M_plainCheck_58 ((xn_shl 1 (by omega)).trans (by rw [em])) ?_
            refine lv_goto (tgt := 88) hx hb d_M_plainCheck_59 (by decide) ?_
            exact j88  _ _ _  (lv_sub hl [1, 2, 3, 4] rfl) hP hD hS
    refine lv_iconst (v := nI 0) hx hb d_M_plainCheck_19 (by decide) ?_
    refine lv_istore_n (lv' := [(3, .int (nI 0)), (0, .ref mo), (1, .long (lN v))]) hx hb d_M_plainCheck_20 rfl hl (by decide) rfl (fun ls hl => ?_)
    refine lv_iconst (v := nI 0) hx hb d_M_plainCheck_21 (by decide) ?_
    refine lv_istore (lv' := [(4, .int (nI 0)), (3, .int (nI 0)), (0, .ref mo), (1, .long (lN v))]) hx hb d_M_plainCheck_22 hl (by decide) rfl (fun ls hl => ?_)
    exact lp24 (M + 1) 0 _ _ _ (by omega) (by omega) (lv_sub hl [2, 3, 1, 0] rfl) hP hD hS
  · skip
    have h57 : v % 2 ^ M < 2 ^ 57 := Nat.lt_of_lt_of_le (Nat.mod_lt _ (Nat.two_pow_pos M)) (Nat.pow_le_pow_right (by decide) hM)
    refine lv_aload_n hx hb d_M_plainCheck_8 rfl (lv_at hl 0 rfl) ?_
    refine lv_lload_n hx hb d_M_plainCheck_9 rfl (lv_at hl 1 rfl) ?_
    refine lv_aload_n hx hb d_M_plainCheck_10 rfl (lv_at hl 0 rfl) ?_
    refine lc_Vl (b := mo) (As := []) (rest := [.long (lN v), .ref mo]) ⟨hx, hb, hml, hown, hts⟩ (c_M_all l D g _ wm mo wi ck fq co sq uq gq kd M ifo fl th mk bi ch9 tu9 ma wo9 fw fc ff fco fsq fu fg hM0 hM) (kV 0 hts m_711 m_708 m_710 m_18 m_40 (by decide +kernel) ⟨Nat.le_of_ble_eq_true rfl, Nat.le_of_ble_eq_true rfl⟩) (va_recv hK hP (ci := 6) (q0 := 0) rfl rfl) hKK hP hD hS hA hl.1 rfl rfl (Nat.le_of_ble_eq_true rfl) d_M_plainCheck_11 ⟨Nat.le_of_ble_eq_true rfl, Nat.le_of_ble_eq_true rfl⟩ (fun r1 u1 H locs e1 hP hD hS => ?_)
    obtain rfl : r1 = lN (2 ^ M - 1) := e1
    refine lx_land (z := lN (v % 2 ^ M)) hx hb d_M_plainCheck_14 ((xl_and _ _).trans (by rw [Nat.and_two_pow_sub_one_eq_mod])) ?_
    refine lc_Vi (b := mo) (As := [.long (lN (v % 2 ^ M))]) (rest := []) ⟨hx, hb, hml, hown, hts⟩ (c_M_nibbleSums l D g _ wm mo wi ck fq co sq uq gq kd M ifo fl th mk bi ch9 tu9 ma wo9 fw fc ff fco fsq fu fg hM0 hM (v % 2 ^ M) h57) (kV 1 hts m_715 m_712 m_714 m_19 m_40 (by decide +kernel) ⟨Nat.le_of_ble_eq_true rfl, Nat.le_of_ble_eq_true rfl⟩) (va_recv hK hP (ci := 6) (q0 := 0) rfl rfl) hKK hP hD hS hA hl.1 rfl rfl (Nat.le_of_ble_eq_true rfl) d_M_plainCheck_15 ⟨Nat.le_of_ble_eq_true rfl, Nat.le_of_ble_eq_true rfl⟩ (fun r2 u2 H locs e2 hP hD hS => ?_)
    rw [← hQ]
    refine W.iret (v := r2) hx hb hr ?_ hS.2.2 d_M_plainCheck_18
    exact fun t ht hW => ⟨⟨r2, (), rfl, (e2.trans (by rw [xs_nibs]; subst c5; congr 1; exact xs_ext M (fun k hk => by show _ = if k < M then mkN k else 0; rw [if_pos hk]))), by rw [ht]; exact hP, hD⟩, hS.F ht⟩
set_option maxHeartbeats 4000000 in
set_option maxRecDepth 100000 in
theorem c_M_mend (l : Launch) (D : va_G) (g : Nat → ClassId) (sz : Nat) (wm : va_W) (mo wi ck fq co sq uq gq kd M ifo fl : Nat) (wv cv bv : Nat) (th ch9 tu9 : Int32) (wo9 : Int64) (fw fc ff fco fsq fu fg : Nat → Int32) (hM0 : 0 < M) (hM : M ≤ 57) (i y : Nat) (hkd : kd ≤ 3) (hmw : MWF kd M fw fc ff fco) (hs9 : kd = 0 ∨ kd = 3) (hi : i < nk kd) (hy : y < 2 ^ lr (wid M (nk kd) i)) : Met l y_M_mend w_M_mend rm_M_mend (va_Pc [.ref mo, .int (nI i), .int (nI y)] (pP D (tyl g) ((mo, .inr (6, [.int (th), .int (nI M), .int (nI kd), .int (nI (ckb kd M)), .int (nI (nk kd)), .ref wi, .ref ck, .ref fq, .ref co, .int (nI (grsK kd M)), .int (nI ifo), .int (nI fl), .long (lN wv), .int (nI cv), .int (nI bv), .long (wo9), .int (ch9), .int (tu9), .ref sq, .ref uq, .ref gq])) :: (wi, .inl (g 0, 4, .inl (fw))) :: (ck, .inl (g 0, 4, .inl (fc))) :: (fq, .inl (g 0, 4, .inl (ff))) :: (co, .inl (g 0, 228, .inl (fco))) :: (sq, .inl (g 0, 8, .inl (fsq))) :: (uq, .inl (g 2, 128, .inl (fu))) :: (gq, .inl (g 0, 7, .inl (fg))) :: wm) sz)) (va_Qi (fun (r : Int32) (u : Unit) => r = nI (mdS M (nk kd) i y (wv, cv, bv)).1) (fun u => qB D (va_A ((mo, .inr (6, [.int (th), .int (nI M), .int (nI kd), .int (nI (ckb kd M)), .int (nI (nk kd)), .ref wi, .ref ck, .ref fq, .ref co, .int (nI (grsK kd M)), .int (nI ifo), .int (nI fl), .long (lN wv), .int (nI cv), .int (nI bv), .long (wo9), .int (ch9), .int (tu9), .ref sq, .ref uq, .ref gq])) :: (wi, .inl (g 0, 4, .inl (fw))) :: (ck, .inl (g 0, 4, .inl (fc))) :: (fq, .inl (g 0, 4, .inl (ff))) :: (co, .inl (g 0, 228, .inl (fco))) :: (sq, .inl (g 0, 8, .inl (fsq))) :: (uq, .inl (g 2, 128, .inl (fu))) :: (gq, .inl (g 0, 7, .inl (fg))) :: wm) sz) ((mo, .inr (6, [.int (th), .int (nI M), .int (nI kd), .int (nI (ckb kd M)), .int (nI (nk kd)), .ref wi, .ref ck, .ref fq, .ref co, .int (nI (grsK kd M)), .int (nI ifo), .int (nI fl), .long (lN ((mdS M (nk kd) i y (wv, cv, bv)).2.1)), .int (nI ((mdS M (nk kd) i y (wv, cv, bv)).2.2.1)), .int (nI ((mdS M (nk kd) i y (wv, cv, bv)).2.2.2)), .long (wo9), .int (ch9), .int (tu9), .ref sq, .ref uq, .ref gq])) :: (wi, .inl (g 0, 4, .inl (fw))) :: (ck, .inl (g 0, 4, .inl (fc))) :: (fq, .inl (g 0, 4, .inl (ff))) :: (co, .inl (g 0, 228, .inl (fco))) :: (sq, .inl (g 0, 8, .inl (fsq))) :: (uq, .inl (g 2, 128, .inl (fu))) :: (gq, .inl (g 0, 7, .inl (fg))) :: wm)) (va_A ((mo, .inr (6, [.int (th), .int (nI M), .int (nI kd), .int (nI (ckb kd M)), .int (nI (nk kd)), .ref wi, .ref ck, .ref fq, .ref co, .int (nI (grsK kd M)), .int (nI ifo), .int (nI fl), .long (lN wv), .int (nI cv), .int (nI bv), .long (wo9), .int (ch9), .int (tu9), .ref sq, .ref uq, .ref gq])) :: (wi, .inl (g 0, 4, .inl (fw))) :: (ck, .inl (g 0, 4, .inl (fc))) :: (fq, .inl (g 0, 4, .inl (ff))) :: (co, .inl (g 0, 228, .inl (fco))) :: (sq, .inl (g 0, 8, .inl (fsq))) :: (uq, .inl (g 2, 128, .inl (fu))) :: (gq, .inl (g 0, 7, .inl (fg))) :: wm) sz)) 0 0 (va_A ((mo, .inr (6, [.int (th), .int (nI M), .int (nI kd), .int (nI (ckb kd M)), .int (nI (nk kd)), .ref wi, .ref ck, .ref fq, .ref co, .int (nI (grsK kd M)), .int (nI ifo), .int (nI fl), .long (lN wv), .int (nI cv), .int (nI bv), .long (wo9), .int (ch9), .int (tu9), .ref sq, .ref uq, .ref gq])) :: (wi, .inl (g 0, 4, .inl (fw))) :: (ck, .inl (g 0, 4, .inl (fc))) :: (fq, .inl (g 0, 4, .inl (ff))) :: (co, .inl (g 0, 228, .inl (fco))) :: (sq, .inl (g 0, 8, .inl (fsq))) :: (uq, .inl (g 2, 128, .inl (fu))) :: (gq, .inl (g 0, 7, .inl (fg))) :: wm) sz) := by
  refine Met.ofW (cc := b_M_mend) (maxL := 5) (ret := (some .int)) (by decide +kernel) rfl ?_
  intro p e s m args below meth c s₁ Bq hml hv
  have hx := Bq.exec
  have hb := Bq.bytes
  have hr := Bq.returns
  have hts : ∀ w ∈ wA, w.before args s = true := fun w h => atoms_spec (ws := w_M_mend) Bq.pre w (List.mem_cons_of_mem _ h)
  have hown : s.vm.findClass R_M = some m.cls := findClass_of_methodNamed Bq.named
  have hlocks := Bq.notSynchronized
  obtain ⟨rfl, hsz, hP, hKK, hD0⟩ := hv
  have hK := hKK.1
  subst hsz
  have hD := hD0.self (sz := s.heap.size)
  generalize hAe : va_A ((mo, .inr (6, [.int (th), .int (nI M), .int (nI kd), .int (nI (ckb kd M)), .int (nI (nk kd)), .ref wi, .ref ck, .ref fq, .ref co, .int (nI (grsK kd M)), .int (nI ifo), .int (nI fl), .long (lN wv), .int (nI cv), .int (nI bv), .long (wo9), .int (ch9), .int (tu9), .ref sq, .ref uq, .ref gq])) :: (wi, .inl (g 0, 4, .inl (fw))) :: (ck, .inl (g 0, 4, .inl (fc))) :: (fq, .inl (g 0, 4, .inl (ff))) :: (co, .inl (g 0, 228, .inl (fco))) :: (sq, .inl (g 0, 8, .inl (fsq))) :: (uq, .inl (g 2, 128, .inl (fu))) :: (gq, .inl (g 0, 7, .inl (fg))) :: wm) s.heap.size = A at hD ⊢
  have hA : ∀ q : Nat, s.heap.size ≤ q → A q := fun q h => by rw [← hAe]; exact Or.inr h
  have hS : va_S A s.heap s.heap [] := va_S.rf
  have hl := lv_entry ([.ref mo, .int (nI i), .int (nI y)]) (n := 5) (Nat.le_of_ble_eq_true rfl)
  rw [lg_entry_eq]
  generalize (lg_sl ([.ref mo, .int (nI i), .int (nI y)]) ++ List.replicate (5 - (lg_sl ([.ref mo, .int (nI i), .int (nI y)])).length) Slot.unset).toArray = ls at hl ⊢
  have hl : lv_has ls 5 [(0, .ref mo), (1, .int (nI i)), (2, .int (nI y))] := hl
  generalize hQ : MQ below (va_Qi (fun (r : Int32) (u : Unit) => r = nI (mdS M (nk kd) i y (wv, cv, bv)).1) (fun u => qB D (A) ((mo, .inr (6, [.int (th), .int (nI M), .int (nI kd), .int (nI (ckb kd M)), .int (nI (nk kd)), .ref wi, .ref ck, .ref fq, .ref co, .int (nI (grsK kd M)), .int (nI ifo), .int (nI fl), .long (lN ((mdS M (nk kd) i y (wv, cv, bv)).2.1)), .int (nI ((mdS M (nk kd) i y (wv, cv, bv)).2.2.1)), .int (nI ((mdS M (nk kd) i y (wv, cv, bv)).2.2.2)), .long (wo9), .int (ch9), .int (tu9), .ref sq, .ref uq, .ref gq])) :: (wi, .inl (g 0, 4, .inl (fw))) :: (ck, .inl (g 0, 4, .inl (fc))) :: (fq, .inl (g 0, 4, .inl (ff))) :: (co, .inl (g 0, 228, .inl (fco))) :: (sq, .inl (g 0, 8, .inl (fsq))) :: (uq, .inl (g 2, 128, .inl (fu))) :: (gq, .inl (g 0, 7, .inl (fg))) :: wm)) (A)) [.ref mo, .int (nI i), .int (nI y)].toArray s 0 0 A = Q
  have hnk := nk_in kd
  obtain ⟨ht1, ht2⟩ := hmw hs9
  obtain ⟨t1, t2, t3⟩ := ht1 i hi
  have hwl := wid_le (i := i) hM hnk
  have hl7 := lr_le (wid M (nk kd) i)
  have hpw := pow_le hl7
  have hfl := frm_lt (M := M) (n := nk kd) (show i < 4 by omega)
  have hlen := lr_len hwl
  have j99 : ∀ (an w2 c2 : Nat) (ls : Array Slot) (H : Heap) (locs : List Loc), (an ≤ 2) → (mdS M (nk kd) i y (wv, cv, bv) = (an, w2, c2, bv + if an = 1 then 1 else 0)) → lv_has ls 5 [(0, .ref mo), (3, .int (nI an))] → va_P D vwCl ((mo, .inr (6, [.int (th), .int (nI M), .int (nI kd), .int (nI (ckb kd M)), .int (nI (nk kd)), .ref wi, .ref ck, .ref fq, .ref co, .int (nI (grsK kd M)), .int (nI ifo), .int (nI fl), .long (lN w2), .int (nI c2), .int (nI bv), .long (wo9), .int (ch9), .int (tu9), .ref sq, .ref uq, .ref gq])) :: (wi, .inl (g 0, 4, .inl (fw))) :: (ck, .inl (g 0, 4, .inl (fc))) :: (fq, .inl (g 0, 4, .inl (ff))) :: (co, .inl (g 0, 228, .inl (fco))) :: (sq, .inl (g 0, 8, .inl (fsq))) :: (uq, .inl (g 2, 128, .inl (fu))) :: (gq, .inl (g 0, 7, .inl (fg))) :: wm) H → va_D A ((mo, .inr (6, [.int (th), .int (nI M), .int (nI kd), .int (nI (ckb kd M)), .int (nI (nk kd)), .ref wi, .ref ck, .ref fq, .ref co, .int (nI (grsK kd M)), .int (nI ifo), .int (nI fl), .long (lN w2), .int (nI c2), .int (nI bv), .long (wo9), .int (ch9), .int (tu9), .ref sq, .ref uq, .ref gq])) :: (wi, .inl (g 0, 4, .inl (fw))) :: (ck, .inl (g 0, 4, .inl (fc))) :: (fq, .inl (g 0, 4, .inl (ff))) :: (co, .inl (g 0, 228, .inl (fco))) :: (sq, .inl (g 0, 8, .inl (fsq))) :: (uq, .inl (g 2, 128, .inl (fu))) :: (gq, .inl (g 0, 7, .inl (fg))) :: wm) → va_S A s.heap H locs → W p l e (headSpec w_M_mend rm_M_mend).room s m [.ref mo, .int (nI i), .int (nI y)].toArray below meth c H locs 0 0 Q (F0 m 99 ls []) := by
    intro an w2 c2 ls H locs ha2 hmd hl hP hD hS
    refine lv_aload_n hx hb d_M_mend_99 rfl (lv_at hl 0 rfl) ?_
    refine lv_dup hx hb d_M_mend_100 rfl ?_
    refine va_get (D := D) (ci := 6) (v := .int (nI bv)) (C := R_M) (T := F_M) (N := 21) hx hb hts i_M hown hK hP 0 rfl rfl 14 (by decide) (hts _ m_617) (fun _ h9 => h9) rfl d_M_mend_101 ?_
    refine lv_iload_n hx hb d_M_mend_104 rfl (lv_at hl 1 rfl) ?_
    refine lv_iconst (v := nI 1) hx hb d_M_mend_105 (by decide) ?_
    refine lx_icmp_ne (tgt := 113) hx hb d_M_mend_106 (by decide) (by omega) (by omega) (fun c106 => ?_) (fun c106 => ?_)
    · skip
      refine lv_iconst (v := nI 0) hx hb d_M_mend_113 (by decide) ?_
      refine lx_iadd (z := nI (mdS M (nk kd) i y (wv, cv, bv)).2.2.2) hx hb d_M_mend_114 ((nI_add _ _).trans (by rw [hmd]; show nI (bv + 0) = nI (bv + (if an = 1 then 1 else 0)); rw [if_neg c106])) ?_
      refine va_put (D := D) (ci := 6) (v := .int (nI (mdS M (nk kd) i y (wv, cv, bv)).2.2.2)) (ty := .int) (C := R_M) (T := F_M) (N := 21) hx hb hts i_M tf_M tf_M_ok nf_M hown hK hP hD hS 0 rfl rfl 14 (by decide) (hts _ m_617) (fun _ h9 => h9) rfl (by decide +kernel) rfl rfl (Nat.le_of_ble_eq_true rfl) d_M_mend_115 (fun H locs hP hD hS => ?_)
      have hP : va_P D vwCl ((mo, .inr (6, [.int (th), .int (nI M), .int (nI kd), .int (nI (ckb kd M)), .int (nI (nk kd)), .ref wi, .ref ck, .ref fq, .ref co, .int (nI (grsK kd M)), .int (nI ifo), .int (nI fl), .long (lN w2), .int (nI c2), .int (nI ((mdS M (nk kd) i y (wv, cv, bv)).2.2.2)), .long (wo9), .int (ch9), .int (tu9), .ref sq, .ref uq, .ref gq])) :: (wi, .inl (g 0, 4, .inl (fw))) :: (ck, .inl (g 0, 4, .inl (fc))) :: (fq, .inl (g 0, 4, .inl (ff))) :: (co, .inl (g 0, 228, .inl (fco))) :: (sq, .inl (g 0, 8, .inl (fsq))) :: (uq, .inl (g 2, 128, .inl (fu))) :: (gq, .inl (g 0, 7, .inl (fg))) :: wm) H := hP
      have hD : va_D A ((mo, .inr (6, [.int (th), .int (nI M), .int (nI kd), .int (nI (ckb kd M)), .int (nI (nk kd)), .ref wi, .ref ck, .ref fq, .ref co, .int (nI (grsK kd M)), .int (nI ifo), .int (nI fl), .long (lN w2), .int (nI c2), .int (nI ((mdS M (nk kd) i y (wv, cv, bv)).2.2.2)), .long (wo9), .int (ch9), .int (tu9), .ref sq, .ref uq, .ref gq])) :: (wi, .inl (g 0, 4, .inl (fw))) :: (ck, .inl (g 0, 4, .inl (fc))) :: (fq, .inl (g 0, 4, .inl (ff))) :: (co, .inl (g 0, 228, .inl (fco))) :: (sq, .inl (g 0, 8, .inl (fsq))) :: (uq, .inl (g 2, 128, .inl (fu))) :: (gq, .inl (g 0, 7, .inl (fg))) :: wm) := hD
      refine lv_iload_n hx hb d_M_mend_118 rfl (lv_at hl 1 rfl) ?_
      have hP : va_P D vwCl ((mo, .inr (6, [.int (th), .int (nI M), .int (nI kd), .int (nI (ckb kd M)), .int (nI (nk kd)), .ref wi, .ref ck, .ref fq, .ref co, .int (nI (grsK kd M)), .int (nI ifo), .int (nI fl), .long (lN ((mdS M (nk kd) i y (wv, cv, bv)).2.1)), .int (nI ((mdS M (nk kd) i y (wv, cv, bv)).2.2.1)), .int (nI ((mdS M (nk kd) i y (wv, cv, bv)).2.2.2)), .long (wo9), .int (ch9), .int (tu9), .ref sq, .ref uq, .ref gq])) :: (wi, .inl (g 0, 4, .inl (fw))) :: (ck, .inl (g 0, 4, .inl (fc))) :: (fq, .inl (g 0, 4, .inl (ff))) :: (co, .inl (g 0, 228, .inl (fco))) :: (sq, .inl (g 0, 8, .inl (fsq))) :: (uq, .inl (g 2, 128, .inl (fu))) :: (gq, .inl (g 0, 7, .inl (fg))) :: wm) H := by rw [show (mdS M (nk kd) i y (wv, cv, bv)).2.1 = w2 by rw [hmd], show (mdS M (nk kd) i y (wv, cv, bv)).2.2.1 = c2 by rw [hmd]]; exact hP
      have hD : va_D A ((mo, .inr (6, [.int (th), .int (nI M), .int (nI kd), .int (nI (ckb kd M)), .int (nI (nk kd)), .ref wi, .ref ck, .ref fq, .ref co, .int (nI (grsK kd M)), .int (nI ifo), .int (nI fl), .long (lN ((mdS M (nk kd) i y (wv, cv, bv)).2.1)), .int (nI ((mdS M (nk kd) i y (wv, cv, bv)).2.2.1)), .int (nI ((mdS M (nk kd) i y (wv, cv, bv)).2.2.2)), .long (wo9), .int (ch9), .int (tu9), .ref sq, .ref uq, .ref gq])) :: (wi, .inl (g 0, 4, .inl (fw))) :: (ck, .inl (g 0, 4, .inl (fc))) :: (fq, .inl (g 0, 4, .inl (ff))) :: (co, .inl (g 0, 228, .inl (fco))) :: (sq, .inl (g 0, 8, .inl (fsq))) :: (uq, .inl (g 2, 128, .inl (fu))) :: (gq, .inl (g 0, 7, .inl (fg))) :: wm) := by rw [show (mdS M (nk kd) i y (wv, cv, bv)).2.1 = w2 by rw [hmd], show (mdS M (nk kd) i y (wv, cv, bv)).2.2.1 = c2 by rw [hmd]]; exact hD
      rw [← hQ]
      refine W.iret (v := nI an) hx hb hr ?_ hS.2.2 d_M_mend_119
      exact fun t ht hW => ⟨⟨nI an, (), rfl, by rw [hmd], by rw [ht]; exact hP, hD⟩, hS.F ht⟩
    · skip
      refine lv_iconst (v := nI 1) hx hb d_M_mend_109 (by decide) ?_
      refine lv_goto (tgt := 114) hx hb d_M_mend_110 (by decide) ?_
      refine lx_iadd (z := nI (mdS M (nk kd) i y (wv, cv, bv)).2.2.2) hx hb d_M_mend_114 ((nI_add _ _).trans (by rw [hmd]; show nI (bv + 1) = nI (bv + (if an = 1 then 1 else 0)); rw [if_pos c106])) ?_
      refine va_put (D := D) (ci := 6) (v := .int (nI (mdS M (nk kd) i y (wv, cv, bv)).2.2.2)) (ty := .int) (C := R_M) (T := F_M) (N := 21) hx hb hts i_M tf_M tf_M_ok nf_M hown hK hP hD hS 0 rfl rfl 14 (by decide) (hts _ m_617) (fun _ h9 => h9) rfl (by decide +kernel) rfl rfl (Nat.le_of_ble_eq_true rfl) d_M_mend_115 (fun H locs hP hD hS => ?_)
      have hP : va_P D vwCl ((mo, .inr (6, [.int (th), .int (nI M), .int (nI kd), .int (nI (ckb kd M)), .int (nI (nk kd)), .ref wi, .ref ck, .ref fq, .ref co, .int (nI (grsK kd M)), .int (nI ifo), .int (nI fl), .long (lN w2), .int (nI c2), .int (nI ((mdS M (nk kd) i y (wv, cv, bv)).2.2.2)), .long (wo9), .int (ch9), .int (tu9), .ref sq, .ref uq, .ref gq])) :: (wi, .inl (g 0, 4, .inl (fw))) :: (ck, .inl (g 0, 4, .inl (fc))) :: (fq, .inl (g 0, 4, .inl (ff))) :: (co, .inl (g 0, 228, .inl (fco))) :: (sq, .inl (g 0, 8, .inl (fsq))) :: (uq, .inl (g 2, 128, .inl (fu))) :: (gq, .inl (g 0, 7, .inl (fg))) :: wm) H := hP
      have hD : va_D A ((mo, .inr (6, [.int (th), .int (nI M), .int (nI kd), .int (nI (ckb kd M)), .int (nI (nk kd)), .ref wi, .ref ck, .ref fq, .ref co, .int (nI (grsK kd M)), .int (nI ifo), .int (nI fl), .long (lN w2), .int (nI c2), .int (nI ((mdS M (nk kd) i y (wv, cv, bv)).2.2.2)), .long (wo9), .int (ch9), .int (tu9), .ref sq, .ref uq, .ref gq])) :: (wi, .inl (g 0, 4, .inl (fw))) :: (ck, .inl (g 0, 4, .inl (fc))) :: (fq, .inl (g 0, 4, .inl (ff))) :: (co, .inl (g 0, 228, .inl (fco))) :: (sq, .inl (g 0, 8, .inl (fsq))) :: (uq, .inl (g 2, 128, .inl (fu))) :: (gq, .inl (g 0, 7, .inl (fg))) :: wm) := hD
      refine lv_iload_n hx hb d_M_mend_118 rfl (lv_at hl 1 rfl) ?_
      have hP : va_P D vwCl ((mo, .inr (6, [.int (th), .int (nI M), .int (nI kd), .int (nI (ckb kd M)), .int (nI (nk kd)), .ref wi, .ref ck, .ref fq, .ref co, .int (nI (grsK kd M)), .int (nI ifo), .int (nI fl), .long (lN ((mdS M (nk kd) i y (wv, cv, bv)).2.1)), .int (nI ((mdS M (nk kd) i y (wv, cv, bv)).2.2.1)), .int (nI ((mdS M (nk kd) i y (wv, cv, bv)).2.2.2)), .long (wo9), .int (ch9), .int (tu9), .ref sq, .ref uq, .ref gq])) :: (wi, .inl (g 0, 4, .inl (fw))) :: (ck, .inl (g 0, 4, .inl (fc))) :: (fq, .inl (g 0, 4, .inl (ff))) :: (co, .inl (g 0, 228, .inl (fco))) :: (sq, .inl (g 0, 8, .inl (fsq))) :: (uq, .inl (g 2, 128, .inl (fu))) :: (gq, .inl (g 0, 7, .inl (fg))) :: wm) H := by rw [show (mdS M (nk kd) i y (wv, cv, bv)).2.1 = w2 by rw [hmd], show (mdS M (nk kd) i y (wv, cv, bv)).2.2.1 = c2 by rw [hmd]]; exact hP
      have hD : va_D A ((mo, .inr (6, [.int (th), .int (nI M), .int (nI kd), .int (nI (ckb kd M)), .int (nI (nk kd)), .ref wi, .ref ck, .ref fq, .ref co, .int (nI (grsK kd M)), .int (nI ifo), .int (nI fl), .long (lN ((mdS M (nk kd) i y (wv, cv, bv)).2.1)), .int (nI ((mdS M (nk kd) i y (wv, cv, bv)).2.2.1)), .int (nI ((mdS M (nk kd) i y (wv, cv, bv)).2.2.2)), .long (wo9), .int (ch9), .int (tu9), .ref sq, .ref uq, .ref gq])) :: (wi, .inl (g 0, 4, .inl (fw))) :: (ck, .inl (g 0, 4, .inl (fc))) :: (fq, .inl (g 0, 4, .inl (ff))) :: (co, .inl (g 0, 228, .inl (fco))) :: (sq, .inl (g 0, 8, .inl (fsq))) :: (uq, .inl (g 2, 128, .inl (fu))) :: (gq, .inl (g 0, 7, .inl (fg))) :: wm) := by rw [show (mdS M (nk kd) i y (wv, cv, bv)).2.1 = w2 by rw [hmd], show (mdS M (nk kd) i y (wv, cv, bv)).2.2.1 = c2 by rw [hmd]]; exact hD
      rw [← hQ]
      refine W.iret (v := nI an) hx hb hr ?_ hS.2.2 d_M_mend_119
      exact fun t ht hW => ⟨⟨nI an, (), rfl, by rw [hmd], by rw [ht]; exact hP, hD⟩, hS.F ht⟩
  have hy0i : y < 128 := by omega
  refine lv_iload_n hx hb d_M_mend_0 rfl (lv_at hl 2 rfl) ?_
  refine lx_if_ne (tgt := 6) hx hb d_M_mend_1 (by decide) (by omega) (fun c1 => ?_) (fun c1 => ?_)
  · skip
    have hy0 := c1
    have lp11 : ∀ (n : Nat) (k : Nat) (ls : Array Slot) (H : Heap) (locs : List Loc), (wid M (nk kd) i + 1 ≤ k + n) → (k ≤ wid M (nk kd) i) → lv_has ls 5 [(0, .ref mo), (1, .int (nI i)), (2, .int (nI y)), (3, .int (nI (ow (fnd (cc_ (lr (wid M (nk kd) i))) y k)))), (4, .int (nI k))] → va_P D vwCl ((mo, .inr (6, [.int (th), .int (nI M), .int (nI kd), .int (nI (ckb kd M)), .int (nI (nk kd)), .ref wi, .ref ck, .ref fq, .ref co, .int (nI (grsK kd M)), .int (nI ifo), .int (nI fl), .long (lN (wv ^^^ trn (nk kd) i (fnd (cc_ (lr (wid M (nk kd) i))) y k))), .int (nI cv), .int (nI bv), .long (wo9), .int (ch9), .int (tu9), .ref sq, .ref uq, .ref gq])) :: (wi, .inl (g 0, 4, .inl (fw))) :: (ck, .inl (g 0, 4, .inl (fc))) :: (fq, .inl (g 0, 4, .inl (ff))) :: (co, .inl (g 0, 228, .inl (fco))) :: (sq, .inl (g 0, 8, .inl (fsq))) :: (uq, .inl (g 2, 128, .inl (fu))) :: (gq, .inl (g 0, 7, .inl (fg))) :: wm) H → va_D A ((mo, .inr (6, [.int (th), .int (nI M), .int (nI kd), .int (nI (ckb kd M)), .int (nI (nk kd)), .ref wi, .ref ck, .ref fq, .ref co, .int (nI (grsK kd M)), .int (nI ifo), .int (nI fl), .long (lN (wv ^^^ trn (nk kd) i (fnd (cc_ (lr (wid M (nk kd) i))) y k))), .int (nI cv), .int (nI bv), .long (wo9), .int (ch9), .int (tu9), .ref sq, .ref uq, .ref gq])) :: (wi, .inl (g 0, 4, .inl (fw))) :: (ck, .inl (g 0, 4, .inl (fc))) :: (fq, .inl (g 0, 4, .inl (ff))) :: (co, .inl (g 0, 228, .inl (fco))) :: (sq, .inl (g 0, 8, .inl (fsq))) :: (uq, .inl (g 2, 128, .inl (fu))) :: (gq, .inl (g 0, 7, .inl (fg))) :: wm) → va_S A s.heap H locs → W p l e (headSpec w_M_mend rm_M_mend).room s m [.ref mo, .int (nI i), .int (nI y)].toArray below meth c H locs 0 0 Q (F0 m 11 ls []) := by
      intro n
      induction n with
      | zero => intro k ls H locs hfu hk _ _ _ _; exact absurd hfu (by omega)
      | succ n ih =>
        intro k ls H locs hfu hk hl hP hD hS
        refine lv_iload hx hb d_M_mend_11 (lv_at hl 4 rfl) ?_
        refine lv_aload_n hx hb d_M_mend_13 rfl (lv_at hl 0 rfl) ?_
        refine va_get (D := D) (ci := 6) (v := .ref wi) (C := R_M) (T := F_M) (N := 21) hx hb hts i_M hown hK hP 0 rfl rfl 5 (by decide) (hts _ m_608) (fun _ h9 => h9) rfl d_M_mend_14 ?_
        refine lv_iload_n hx hb d_M_mend_17 rfl (lv_at hl 1 rfl) ?_
        refine lx_iald (v := nI (wid M (nk kd) i)) hx hb hK hP 1 0 rfl rfl (j := i) (by omega) (by omega) (t1) d_M_mend_18 ?_
        refine lx_icmp_ge (tgt := 66) hx hb d_M_mend_19 (by decide) (by omega) (by omega) (fun c19 => ?_) (fun c19 => ?_)
        · skip
          have ek : k = wid M (nk kd) i := by omega
          rw [ek] at hl hP hD
          cases ef : fnd (cc_ (lr (wid M (nk kd) i))) y (wid M (nk kd) i) with
          | some j9 =>
            rw [ef] at hl hP hD
            have hl : lv_has ls 5 [(0, .ref mo), (1, .int (nI i)), (2, .int (nI y)), (3, .int (nI 1))] := lv_sub hl [0, 1, 2, 3] rfl
            have hP : va_P D vwCl ((mo, .inr (6, [.int (th), .int (nI M), .int (nI kd), .int (nI (ckb kd M)), .int (nI (nk kd)), .ref wi, .ref ck, .ref fq, .ref co, .int (nI (grsK kd M)), .int (nI ifo), .int (nI fl), .long (lN (wv ^^^ 1 <<< (j9 * nk kd + i))), .int (nI cv), .int (nI bv), .long (wo9), .int (ch9), .int (tu9), .ref sq, .ref uq, .ref gq])) :: (wi, .inl (g 0, 4, .inl (fw))) :: (ck, .inl (g 0, 4, .inl (fc))) :: (fq, .inl (g 0, 4, .inl (ff))) :: (co, .inl (g 0, 228, .inl (fco))) :: (sq, .inl (g 0, 8, .inl (fsq))) :: (uq, .inl (g 2, 128, .inl (fu))) :: (gq, .inl (g 0, 7, .inl (fg))) :: wm) H := hP
            have hD : va_D A ((mo, .inr (6, [.int (th), .int (nI M), .int (nI kd), .int (nI (ckb kd M)), .int (nI (nk kd)), .ref wi, .ref ck, .ref fq, .ref co, .int (nI (grsK kd M)), .int (nI ifo), .int (nI fl), .long (lN (wv ^^^ 1 <<< (j9 * nk kd + i))), .int (nI cv), .int (nI bv), .long (wo9), .int (ch9), .int (tu9), .ref sq, .ref uq, .ref gq])) :: (wi, .inl (g 0, 4, .inl (fw))) :: (ck, .inl (g 0, 4, .inl (fc))) :: (fq, .inl (g 0, 4, .inl (ff))) :: (co, .inl (g 0, 228, .inl (fco))) :: (sq, .inl (g 0, 8, .inl (fsq))) :: (uq, .inl (g 2, 128, .inl (fu))) :: (gq, .inl (g 0, 7, .inl (fg))) :: wm) := hD
            refine lv_iload_n hx hb d_M_mend_66 rfl (lv_at hl 3 rfl) ?_
            refine lv_iconst (v := nI 2) hx hb d_M_mend_67 (by decide) ?_
            refine lx_icmp_ne (tgt := 99) hx hb d_M_mend_68 (by decide) (by omega) (by omega) (fun c68 => ?_) (fun c68 => ?_)
            · skip
              exact j99 1 (wv ^^^ 1 <<< (j9 * nk kd + i)) cv _ _ _ (by decide) (mdS_word hy0 ef) (lv_sub hl [0, 3] rfl) hP hD hS
            · skip
              exact absurd c68 (by decide)
          | none =>
            rw [ef] at hl hP hD
            have hl : lv_has ls 5 [(0, .ref mo), (1, .int (nI i)), (2, .int (nI y)), (3, .int (nI 2))] := lv_sub hl [0, 1, 2, 3] rfl
            have ex : wv ^^^ trn (nk kd) i none = wv := Nat.xor_zero wv
            rw [ex] at hP hD
            have hP : va_P D vwCl ((mo, .inr (6, [.int (th), .int (nI M), .int (nI kd), .int (nI (ckb kd M)), .int (nI (nk kd)), .ref wi, .ref ck, .ref fq, .ref co, .int (nI (grsK kd M)), .int (nI ifo), .int (nI fl), .long (lN wv), .int (nI cv), .int (nI bv), .long (wo9), .int (ch9), .int (tu9), .ref sq, .ref uq, .ref gq])) :: (wi, .inl (g 0, 4, .inl (fw))) :: (ck, .inl (g 0, 4, .inl (fc))) :: (fq, .inl (g 0, 4, .inl (ff))) :: (co, .inl (g 0, 228, .inl (fco))) :: (sq, .inl (g 0, 8, .inl (fsq))) :: (uq, .inl (g 2, 128, .inl (fu))) :: (gq, .inl (g 0, 7, .inl (fg))) :: wm) H := hP
            have hD : va_D A ((mo, .inr (6, [.int (th), .int (nI M), .int (nI kd), .int (nI (ckb kd M)), .int (nI (nk kd)), .ref wi, .ref ck, .ref fq, .ref co, .int (nI (grsK kd M)), .int (nI ifo), .int (nI fl), .long (lN wv), .int (nI cv), .int (nI bv), .long (wo9), .int (ch9), .int (tu9), .ref sq, .ref uq, .ref gq])) :: (wi, .inl (g 0, 4, .inl (fw))) :: (ck, .inl (g 0, 4, .inl (fc))) :: (fq, .inl (g 0, 4, .inl (ff))) :: (co, .inl (g 0, 228, .inl (fco))) :: (sq, .inl (g 0, 8, .inl (fsq))) :: (uq, .inl (g 2, 128, .inl (fu))) :: (gq, .inl (g 0, 7, .inl (fg))) :: wm) := hD
            refine lv_iload_n hx hb d_M_mend_66 rfl (lv_at hl 3 rfl) ?_
            refine lv_iconst (v := nI 2) hx hb d_M_mend_67 (by decide) ?_
            refine lx_icmp_ne (tgt := 99) hx hb d_M_mend_68 (by decide) (by omega) (by omega) (fun c68 => ?_) (fun c68 => ?_)
            · skip
              exact absurd rfl c68
            · skip
              have hw1 := pcn_le 64 y
              have hob := one_bit (lr (wid M (nk kd) i)) (by omega) y (by omega) hy
              refine lv_iload_n hx hb d_M_mend_71 rfl (lv_at hl 2 rfl) ?_
              refine lv_i2l (v := lN y) hx hb d_M_mend_72 (nI_l (by omega)) ?_
              refine lc_Si (As := [.long (lN y)]) (rest := []) ⟨hx, hb, hml, hown, hts⟩ (c_M_weight l D g _ _ y (by omega)) (kS 1 hts m_598 m_596 m_597 m_40 (by decide +kernel) ⟨Nat.le_of_ble_eq_true rfl, Nat.le_of_ble_eq_true rfl⟩) hKK hP hD hS hA hl.1 rfl rfl (Nat.le_of_ble_eq_true rfl) d_M_mend_73 ⟨Nat.le_of_ble_eq_true rfl, Nat.le_of_ble_eq_true rfl⟩ (fun r1 u1 H locs e1 hP hD hS => ?_)
              obtain rfl : r1 = nI (pcn 64 y) := e1
              refine lv_iconst (v := nI 1) hx hb d_M_mend_76 (by decide) ?_
              refine lx_icmp_ne (tgt := 99) hx hb d_M_mend_77 (by decide) (by omega) (by omega) (fun c77 => ?_) (fun c77 => ?_)
              · skip
                rw [decide_eq_false c77] at hob
                exact j99 2 wv cv _ _ _ (by decide) (mdS_none hy0 ef (Option.isNone_iff_eq_none.mp (by rw [← Option.not_isSome, ← hob]; rfl))) (lv_sub hl [0, 3] rfl) hP hD hS
              · skip
                rw [decide_eq_true c77] at hob
                obtain ⟨r9, hr9⟩ := Option.isSome_iff_exists.mp hob.symm
                refine lv_aload_n hx hb d_M_mend_80 rfl (lv_at hl 0 rfl) ?_
                refine lv_dup hx hb d_M_mend_81 rfl ?_
                refine va_get (D := D) (ci := 6) (v := .int (nI cv)) (C := R_M) (T := F_M) (N := 21) hx hb hts i_M hown hK hP 0 rfl rfl 13 (by decide) (hts _ m_616) (fun _ h9 => h9) rfl d_M_mend_82 ?_
                refine lv_iload_n hx hb d_M_mend_85 rfl (lv_at hl 2 rfl) ?_
                refine lv_aload_n hx hb d_M_mend_86 rfl (lv_at hl 0 rfl) ?_
                refine va_get (D := D) (ci := 6) (v := .ref fq) (C := R_M) (T := F_M) (N := 21) hx hb hts i_M hown hK hP 0 rfl rfl 7 (by decide) (hts _ m_610) (fun _ h9 => h9) rfl d_M_mend_87 ?_
                refine lv_iload_n hx hb d_M_mend_90 rfl (lv_at hl 1 rfl) ?_
                refine lx_iald (v := nI (frm M (nk kd) i)) hx hb hK hP 3 0 rfl rfl (j := i) (by omega) (by omega) (t3) d_M_mend_91 ?_
                refine lx_ishl (z := nI (y <<< frm M (nk kd) i)) hx hb d_M_mend_92 (xn_shl _ (by omega)) ?_
                refine lx_ixor (z := nI (cv ^^^ (y <<< frm M (nk kd) i))) hx hb d_M_mend_93 (xn_xor cv (y <<< frm M (nk kd) i)) ?_
                refine va_put (D := D) (ci := 6) (v := .int (nI (cv ^^^ (y <<< frm M (nk kd) i)))) (ty := .int) (C := R_M) (T := F_M) (N := 21) hx hb hts i_M tf_M tf_M_ok nf_M hown hK hP hD hS 0 rfl rfl 13 (by decide) (hts _ m_616) (fun _ h9 => h9) rfl (by decide +kernel) rfl rfl (Nat.le_of_ble_eq_true rfl) d_M_mend_94 (fun H locs hP hD hS => ?_)
                have hP : va_P D vwCl ((mo, .inr (6, [.int (th), .int (nI M), .int (nI kd), .int (nI (ckb kd M)), .int (nI (nk kd)), .ref wi, .ref ck, .ref fq, .ref co, .int (nI (grsK kd M)), .int (nI ifo), .int (nI fl), .long (lN wv), .int (nI (cv ^^^ y <<< frm M (nk kd) i)), .int (nI bv), .long (wo9), .int (ch9), .int (tu9), .ref sq, .ref uq, .ref gq])) :: (wi, .inl (g 0, 4, .inl (fw))) :: (ck, .inl (g 0, 4, .inl (fc))) :: (fq, .inl (g 0, 4, .inl (ff))) :: (co, .inl (g 0, 228, .inl (fco))) :: (sq, .inl (g 0, 8, .inl (fsq))) :: (uq, .inl (g 2, 128, .inl (fu))) :: (gq, .inl (g 0, 7, .inl (fg))) :: wm) H := hP
                have hD : va_D A ((mo, .inr (6, [.int (th), .int (nI M), .int (nI kd), .int (nI (ckb kd M)), .int (nI (nk kd)), .ref wi, .ref ck, .ref fq, .ref co, .int (nI (grsK kd M)), .int (nI ifo), .int (nI fl), .long (lN wv), .int (nI (cv ^^^ y <<< frm M (nk kd) i)), .int (nI bv), .long (wo9), .int (ch9), .int (tu9), .ref sq, .ref uq, .ref gq])) :: (wi, .inl (g 0, 4, .inl (fw))) :: (ck, .inl (g 0, 4, .inl (fc))) :: (fq, .inl (g 0, 4, .inl (ff))) :: (co, .inl (g 0, 228, .inl (fco))) :: (sq, .inl (g 0, 8, .inl (fsq))) :: (uq, .inl (g 2, 128, .inl (fu))) :: (gq, .inl (g 0, 7, .inl (fg))) :: wm) := hD
                refine lv_iconst (v := nI 1) hx hb d_M_mend_97 (by decide) ?_
                refine lv_istore_n (lv' := [(3, .int (nI 1)), (0, .ref mo), (1, .int (nI i)), (2, .int (nI y))]) hx hb d_M_mend_98 rfl hl (by decide) rfl (fun ls hl => ?_)
                exact j99 1 wv (cv ^^^ y <<< frm M (nk kd) i) _ _ _ (by decide) (mdS_chk hy0 ef hr9) (lv_sub hl [1, 0] rfl) hP hD hS
        · skip
          have hcl := cc_lt hwl c19
          refine lv_aload_n hx hb d_M_mend_22 rfl (lv_at hl 0 rfl) ?_
          refine va_get (D := D) (ci := 6) (v := .ref co) (C := R_M) (T := F_M) (N := 21) hx hb hts i_M hown hK hP 0 rfl rfl 8 (by decide) (hts _ m_611) (fun _ h9 => h9) rfl d_M_mend_23 ?_
          refine lv_bipush (v := nI 57) hx hb d_M_mend_26 (by decide) ?_
          refine lv_iload_n hx hb d_M_mend_28 rfl (lv_at hl 1 rfl) ?_
          refine lx_imul (z := nI (57 * i)) hx hb d_M_mend_29 (pk_mul _ _) ?_
          refine lv_iload hx hb d_M_mend_30 (lv_at hl 4 rfl) ?_
          refine lx_iadd (z := nI (57 * i + k)) hx hb d_M_mend_32 (nI_add _ _) ?_
          refine lx_iald (v := nI (cc_ (lr (wid M (nk kd) i)) k)) hx hb hK hP 4 0 rfl rfl (j := 57 * i + k) (by omega) (by omega) (ht2 i k hi c19) d_M_mend_33 ?_
          refine lv_iload_n hx hb d_M_mend_34 rfl (lv_at hl 2 rfl) ?_
          refine lx_icmp_ne (tgt := 60) hx hb d_M_mend_35 (by decide) (by omega) (by omega) (fun c35 => ?_) (fun c35 => ?_)
          · skip
            have em := fnd_miss c35
            rw [← em] at hl hP hD
            have hl : lv_has ls 5 [(0, .ref mo), (1, .int (nI i)), (2, .int (nI y)), (3, .int (nI (ow (fnd (cc_ (lr (wid M (nk kd) i))) y (k + 1))))), (4, .int (nI k))] := hl
            refine lv_iinc (v := nI (k + 1)) (lv' := [(4, .int (nI (k + 1))), (0, .ref mo), (1, .int (nI i)), (2, .int (nI y)), (3, .int (nI (ow (fnd (cc_ (lr (wid M (nk kd) i))) y (k + 1)))))]) hx hb d_M_mend_60 hl (k := 4) rfl (nI_1 k) (by decide) rfl (fun ls hl => ?_)
            refine lv_goto (tgt := 11) hx hb d_M_mend_63 (by decide) ?_
            exact ih (k + 1) _ _ _ (by omega) (by omega) (lv_sub hl [1, 2, 3, 4, 0] rfl) hP hD hS
          · skip
            subst c35
            obtain ⟨eh1, eh2⟩ := trn_hit (n := nk kd) (i := i) (wv := wv) (lr_in (show 0 < wid M (nk kd) i by omega)) (show k < (ct (lr (wid M (nk kd) i))).length by omega)
            refine lv_aload_n hx hb d_M_mend_38 rfl (lv_at hl 0 rfl) ?_
            refine lv_dup hx hb d_M_mend_39 rfl ?_
            refine va_get (D := D) (ci := 6) (v := .long (lN (wv ^^^ trn (nk kd) i (fnd (cc_ (lr (wid M (nk kd) i))) (cc_ (lr (wid M (nk kd) i)) k) k)))) (C := R_M) (T := F_M) (N := 21) hx hb hts i_M hown hK hP 0 rfl rfl 12 (by decide) (hts _ m_615) (fun _ h9 => h9) rfl d_M_mend_40 ?_
            refine lv_lconst (v := lN 1) hx hb d_M_mend_43 (by decide) ?_
            refine lv_iload hx hb d_M_mend_44 (lv_at hl 4 rfl) ?_
            refine lv_aload_n hx hb d_M_mend_46 rfl (lv_at hl 0 rfl) ?_
            refine va_get (D := D) (ci := 6) (v := .int (nI (nk kd))) (C := R_M) (T := F_M) (N := 21) hx hb hts i_M hown hK hP 0 rfl rfl 4 (by decide) (hts _ m_607) (fun _ h9 => h9) rfl d_M_mend_47 ?_
            refine lx_imul (z := nI (k * nk kd)) hx hb d_M_mend_50 (pk_mul _ _) ?_
            refine lv_iload_n hx hb d_M_mend_51 rfl (lv_at hl 1 rfl) ?_
            refine lx_iadd (z := nI (k * nk kd + i)) hx hb d_M_mend_52 (nI_add _ _) ?_
            refine lv_lshl (v := lN (1 <<< (k * nk kd + i))) hx hb d_M_mend_53 (xl_shl 1 (by have := wid_at hnk hi c19; omega)) ?_
            refine lx_lxor (z := lN (wv ^^^ trn (nk kd) i (fnd (cc_ (lr (wid M (nk kd) i))) (cc_ (lr (wid M (nk kd) i)) k) (k + 1)))) hx hb d_M_mend_54 ((xl_xor _ _).trans (by rw [eh1])) ?_
            refine va_put (D := D) (ci := 6) (v := .long (lN (wv ^^^ trn (nk kd) i (fnd (cc_ (lr (wid M (nk kd) i))) (cc_ (lr (wid M (nk kd) i)) k) (k + 1))))) (ty := .long) (C := R_M) (T := F_M) (N := 21) hx hb hts i_M tf_M tf_M_ok nf_M hown hK hP hD hS 0 rfl rfl 12 (by decide) (hts _ m_615) (fun _ h9 => h9) rfl (by decide +kernel) rfl rfl (Nat.le_of_ble_eq_true rfl) d_M_mend_55 (fun H locs hP hD hS => ?_)
            have hP : va_P D vwCl ((mo, .inr (6, [.int (th), .int (nI M), .int (nI kd), .int (nI (ckb kd M)), .int (nI (nk kd)), .ref wi, .ref ck, .ref fq, .ref co, .int (nI (grsK kd M)), .int (nI ifo), .int (nI fl), .long (lN (wv ^^^ trn (nk kd) i (fnd (cc_ (lr (wid M (nk kd) i))) (cc_ (lr (wid M (nk kd) i)) k) (k + 1)))), .int (nI cv), .int (nI bv), .long (wo9), .int (ch9), .int (tu9), .ref sq, .ref uq, .ref gq])) :: (wi, .inl (g 0, 4, .inl (fw))) :: (ck, .inl (g 0, 4, .inl (fc))) :: (fq, .inl (g 0, 4, .inl (ff))) :: (co, .inl (g 0, 228, .inl (fco))) :: (sq, .inl (g 0, 8, .inl (fsq))) :: (uq, .inl (g 2, 128, .inl (fu))) :: (gq, .inl (g 0, 7, .inl (fg))) :: wm) H := hP
            have hD : va_D A ((mo, .inr (6, [.int (th), .int (nI M), .int (nI kd), .int (nI (ckb kd M)), .int (nI (nk kd)), .ref wi, .ref ck, .ref fq, .ref co, .int (nI (grsK kd M)), .int (nI ifo), .int (nI fl), .long (lN (wv ^^^ trn (nk kd) i (fnd (cc_ (lr (wid M (nk kd) i))) (cc_ (lr (wid M (nk kd) i)) k) (k + 1)))), .int (nI cv), .int (nI bv), .long (wo9), .int (ch9), .int (tu9), .ref sq, .ref uq, .ref gq])) :: (wi, .inl (g 0, 4, .inl (fw))) :: (ck, .inl (g 0, 4, .inl (fc))) :: (fq, .inl (g 0, 4, .inl (ff))) :: (co, .inl (g 0, 228, .inl (fco))) :: (sq, .inl (g 0, 8, .inl (fsq))) :: (uq, .inl (g 2, 128, .inl (fu))) :: (gq, .inl (g 0, 7, .inl (fg))) :: wm) := hD
            refine lv_iconst (v := nI 1) hx hb d_M_mend_58 (by decide) ?_
            refine lv_istore_n (lv' := [(3, .int (nI 1)), (0, .ref mo), (1, .int (nI i)), (2, .int (nI (cc_ (lr (wid M (nk kd) i)) k))), (4, .int (nI k))]) hx hb d_M_mend_59 rfl hl (by decide) rfl (fun ls hl => ?_)
            have hl : lv_has ls 5 [(3, .int (nI (ow (fnd (cc_ (lr (wid M (nk kd) i))) (cc_ (lr (wid M (nk kd) i)) k) (k + 1))))), (0, .ref mo), (1, .int (nI i)), (2, .int (nI (cc_ (lr (wid M (nk kd) i)) k))), (4, .int (nI k))] := by rw [eh2]; exact hl
            refine lv_iinc (v := nI (k + 1)) (lv' := [(4, .int (nI (k + 1))), (3, .int (nI (ow (fnd (cc_ (lr (wid M (nk kd) i))) (cc_ (lr (wid M (nk kd) i)) k) (k + 1))))), (0, .ref mo), (1, .int (nI i)), (2, .int (nI (cc_ (lr (wid M (nk kd) i)) k)))]) hx hb d_M_mend_60 hl (k := 4) rfl (nI_1 k) (by decide) rfl (fun ls hl => ?_)
            refine lv_goto (tgt := 11) hx hb d_M_mend_63 (by decide) ?_
            exact ih (k + 1) _ _ _ (by omega) (by omega) (lv_sub hl [2, 3, 4, 1, 0] rfl) hP hD hS
    refine lv_iconst (v := nI 2) hx hb d_M_mend_6 (by decide) ?_
    refine lv_istore_n (lv' := [(3, .int (nI 2)), (0, .ref mo), (1, .int (nI i)), (2, .int (nI y))]) hx hb d_M_mend_7 rfl hl (by decide) rfl (fun ls hl => ?_)
    refine lv_iconst (v := nI 0) hx hb d_M_mend_8 (by decide) ?_
    refine lv_istore (lv' := [(4, .int (nI 0)), (3, .int (nI 2)), (0, .ref mo), (1, .int (nI i)), (2, .int (nI y))]) hx hb d_M_mend_9 hl (by decide) rfl (fun ls hl => ?_)
    have ex : wv = wv ^^^ trn (nk kd) i (fnd (cc_ (lr (wid M (nk kd) i))) y 0) := (Nat.xor_zero wv).symm
    have hP : va_P D vwCl ((mo, .inr (6, [.int (th), .int (nI M), .int (nI kd), .int (nI (ckb kd M)), .int (nI (nk kd)), .ref wi, .ref ck, .ref fq, .ref co, .int (nI (grsK kd M)), .int (nI ifo), .int (nI fl), .long (lN (wv ^^^ trn (nk kd) i (fnd (cc_ (lr (wid M (nk kd) i))) y 0))), .int (nI cv), .int (nI bv), .long (wo9), .int (ch9), .int (tu9), .ref sq, .ref uq, .ref gq])) :: (wi, .inl (g 0, 4, .inl (fw))) :: (ck, .inl (g 0, 4, .inl (fc))) :: (fq, .inl (g 0, 4, .inl (ff))) :: (co, .inl (g 0, 228, .inl (fco))) :: (sq, .inl (g 0, 8, .inl (fsq))) :: (uq, .inl (g 2, 128, .inl (fu))) :: (gq, .inl (g 0, 7, .inl (fg))) :: wm) s.heap := by rw [← ex]; exact hP
    have hD : va_D A ((mo, .inr (6, [.int (th), .int (nI M), .int (nI kd), .int (nI (ckb kd M)), .int (nI (nk kd)), .ref wi, .ref ck, .ref fq, .ref co, .int (nI (grsK kd M)), .int (nI ifo), .int (nI fl), .long (lN (wv ^^^ trn (nk kd) i (fnd (cc_ (lr (wid M (nk kd) i))) y 0))), .int (nI cv), .int (nI bv), .long (wo9), .int (ch9), .int (tu9), .ref sq, .ref uq, .ref gq])) :: (wi, .inl (g 0, 4, .inl (fw))) :: (ck, .inl (g 0, 4, .inl (fc))) :: (fq, .inl (g 0, 4, .inl (ff))) :: (co, .inl (g 0, 228, .inl (fco))) :: (sq, .inl (g 0, 8, .inl (fsq))) :: (uq, .inl (g 2, 128, .inl (fu))) :: (gq, .inl (g 0, 7, .inl (fg))) :: wm) := by rw [← ex]; exact hD
    have hl : lv_has ls 5 [(4, .int (nI 0)), (3, .int (nI (ow (fnd (cc_ (lr (wid M (nk kd) i))) y 0)))), (0, .ref mo), (1, .int (nI i)), (2, .int (nI y))] := hl
    exact lp11 (wid M (nk kd) i + 1) 0 _ _ _ (by omega) (by omega) (lv_sub hl [2, 3, 4, 1, 0] rfl) hP hD hS
  · skip
    subst c1
    refine lv_iconst (v := nI 0) hx hb d_M_mend_4 (by decide) ?_
    have hP : va_P D vwCl ((mo, .inr (6, [.int (th), .int (nI M), .int (nI kd), .int (nI (ckb kd M)), .int (nI (nk kd)), .ref wi, .ref ck, .ref fq, .ref co, .int (nI (grsK kd M)), .int (nI ifo), .int (nI fl), .long (lN ((mdS M (nk kd) i 0 (wv, cv, bv)).2.1)), .int (nI ((mdS M (nk kd) i 0 (wv, cv, bv)).2.2.1)), .int (nI ((mdS M (nk kd) i 0 (wv, cv, bv)).2.2.2)), .long (wo9), .int (ch9), .int (tu9), .ref sq, .ref uq, .ref gq])) :: (wi, .inl (g 0, 4, .inl (fw))) :: (ck, .inl (g 0, 4, .inl (fc))) :: (fq, .inl (g 0, 4, .inl (ff))) :: (co, .inl (g 0, 228, .inl (fco))) :: (sq, .inl (g 0, 8, .inl (fsq))) :: (uq, .inl (g 2, 128, .inl (fu))) :: (gq, .inl (g 0, 7, .inl (fg))) :: wm) s.heap := by rw [mdS_0]; exact hP
    have hD : va_D A ((mo, .inr (6, [.int (th), .int (nI M), .int (nI kd), .int (nI (ckb kd M)), .int (nI (nk kd)), .ref wi, .ref ck, .ref fq, .ref co, .int (nI (grsK kd M)), .int (nI ifo), .int (nI fl), .long (lN ((mdS M (nk kd) i 0 (wv, cv, bv)).2.1)), .int (nI ((mdS M (nk kd) i 0 (wv, cv, bv)).2.2.1)), .int (nI ((mdS M (nk kd) i 0 (wv, cv, bv)).2.2.2)), .long (wo9), .int (ch9), .int (tu9), .ref sq, .ref uq, .ref gq])) :: (wi, .inl (g 0, 4, .inl (fw))) :: (ck, .inl (g 0, 4, .inl (fc))) :: (fq, .inl (g 0, 4, .inl (ff))) :: (co, .inl (g 0, 228, .inl (fco))) :: (sq, .inl (g 0, 8, .inl (fsq))) :: (uq, .inl (g 2, 128, .inl (fu))) :: (gq, .inl (g 0, 7, .inl (fg))) :: wm) := by rw [mdS_0]; exact hD
    rw [← hQ]
    refine W.iret (v := nI 0) hx hb hr ?_ hS.2.2 d_M_mend_5
    exact fun t ht hW => ⟨⟨nI 0, (), rfl, by rw [mdS_0], by rw [ht]; exact hP, hD⟩, hS.F ht⟩
