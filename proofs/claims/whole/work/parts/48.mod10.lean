set_option maxRecDepth 20000 in
theorem m_750 : Cond.code y_M_mend b_M_mend 5 (some .int) ∈ wA := in_wA (List.mem_of_getElem? (i := 750) rfl) rfl
set_option maxRecDepth 20000 in
theorem m_747 : Cond.methodLink R_M 106 y_M_mend ∈ wA := in_wA (List.mem_of_getElem? (i := 747) rfl) rfl
set_option maxRecDepth 20000 in
theorem m_749 : Cond.instanceMethod y_M_mend ∈ wA := in_wA (List.mem_of_getElem? (i := 749) rfl) rfl
set_option maxRecDepth 20000 in
theorem m_24 : Cond.selects R_M y_M_mend y_M_mend ∈ wA := in_wA (List.mem_of_getElem? (i := 24) rfl) rfl
set_option maxRecDepth 20000 in
theorem m_742 : Cond.constantLong R_M 109 (-1) ∈ wA := in_wA (List.mem_of_getElem? (i := 742) rfl) rfl
set_option maxRecDepth 20000 in
theorem m_703 : Cond.code y_M_folded b_M_folded 1 (some .int) ∈ wA := in_wA (List.mem_of_getElem? (i := 703) rfl) rfl
set_option maxRecDepth 20000 in
theorem m_700 : Cond.methodLink R_M 111 y_M_folded ∈ wA := in_wA (List.mem_of_getElem? (i := 700) rfl) rfl
set_option maxRecDepth 20000 in
theorem m_702 : Cond.instanceMethod y_M_folded ∈ wA := in_wA (List.mem_of_getElem? (i := 702) rfl) rfl
set_option maxRecDepth 20000 in
theorem m_16 : Cond.selects R_M y_M_folded y_M_folded ∈ wA := in_wA (List.mem_of_getElem? (i := 16) rfl) rfl
set_option maxRecDepth 20000 in
theorem m_707 : Cond.code y_M_plainCheck b_M_plainCheck 7 (some .int) ∈ wA := in_wA (List.mem_of_getElem? (i := 707) rfl) rfl
set_option maxRecDepth 20000 in
theorem m_704 : Cond.methodLink R_M 114 y_M_plainCheck ∈ wA := in_wA (List.mem_of_getElem? (i := 704) rfl) rfl
set_option maxRecDepth 20000 in
theorem m_706 : Cond.instanceMethod y_M_plainCheck ∈ wA := in_wA (List.mem_of_getElem? (i := 706) rfl) rfl
set_option maxRecDepth 20000 in
theorem m_17 : Cond.selects R_M y_M_plainCheck y_M_plainCheck ∈ wA := in_wA (List.mem_of_getElem? (i := 17) rfl) rfl
set_option maxRecDepth 20000 in
theorem m_746 : Cond.code y_M_mendSums b_M_mendSums 10 (some .int) ∈ wA := in_wA (List.mem_of_getElem? (i := 746) rfl) rfl
set_option maxRecDepth 20000 in
theorem m_743 : Cond.methodLink R_M 120 y_M_mendSums ∈ wA := in_wA (List.mem_of_getElem? (i := 743) rfl) rfl
set_option maxRecDepth 20000 in
theorem m_745 : Cond.instanceMethod y_M_mendSums ∈ wA := in_wA (List.mem_of_getElem? (i := 745) rfl) rfl
set_option maxRecDepth 20000 in
theorem m_23 : Cond.selects R_M y_M_mendSums y_M_mendSums ∈ wA := in_wA (List.mem_of_getElem? (i := 23) rfl) rfl
set_option maxRecDepth 20000 in
theorem m_741 : Cond.code y_M_mendNibbles b_M_mendNibbles 9 (some .int) ∈ wA := in_wA (List.mem_of_getElem? (i := 741) rfl) rfl
set_option maxRecDepth 20000 in
theorem m_738 : Cond.methodLink R_M 117 y_M_mendNibbles ∈ wA := in_wA (List.mem_of_getElem? (i := 738) rfl) rfl
set_option maxRecDepth 20000 in
theorem m_740 : Cond.instanceMethod y_M_mendNibbles ∈ wA := in_wA (List.mem_of_getElem? (i := 740) rfl) rfl
set_option maxRecDepth 20000 in
theorem m_22 : Cond.selects R_M y_M_mendNibbles y_M_mendNibbles ∈ wA := in_wA (List.mem_of_getElem? (i := 22) rfl) rfl
abbrev w_M_mendSums : List Cond := .code y_M_mendSums b_M_mendSums 10 (some .int) :: wA
abbrev rm_M_mendSums : Room := { frames := 2, cells := 0, slots := 0, locals := 47 }
theorem d_M_mendSums_0 : decode b_M_mendSums 0 = .ok (.iconst 0, 1) := by decide +kernel
theorem d_M_mendSums_1 : decode b_M_mendSums 1 = .ok (.istore 5, 2) := by decide +kernel
theorem d_M_mendSums_3 : decode b_M_mendSums 3 = .ok (.iconst 0, 1) := by decide +kernel
theorem d_M_mendSums_4 : decode b_M_mendSums 4 = .ok (.istore 6, 2) := by decide +kernel
theorem d_M_mendSums_6 : decode b_M_mendSums 6 = .ok (.iconst 0, 1) := by decide +kernel
theorem d_M_mendSums_7 : decode b_M_mendSums 7 = .ok (.istore 7, 2) := by decide +kernel
theorem d_M_mendSums_9 : decode b_M_mendSums 9 = .ok (.iload 7, 2) := by decide +kernel
theorem d_M_mendSums_11 : decode b_M_mendSums 11 = .ok (.aload_n 0, 1) := by decide +kernel
theorem d_M_mendSums_12 : decode b_M_mendSums 12 = .ok (.getfield 41, 3) := by decide +kernel
theorem d_M_mendSums_15 : decode b_M_mendSums 15 = .ok (.if_icmp .ge 78, 3) := by decide +kernel
theorem d_M_mendSums_18 : decode b_M_mendSums 18 = .ok (.iload_n 1, 1) := by decide +kernel
theorem d_M_mendSums_19 : decode b_M_mendSums 19 = .ok (.aload_n 0, 1) := by decide +kernel
theorem d_M_mendSums_20 : decode b_M_mendSums 20 = .ok (.getfield 16, 3) := by decide +kernel
theorem d_M_mendSums_23 : decode b_M_mendSums 23 = .ok (.iload 7, 2) := by decide +kernel
theorem d_M_mendSums_25 : decode b_M_mendSums 25 = .ok (.iaload, 1) := by decide +kernel
theorem d_M_mendSums_26 : decode b_M_mendSums 26 = .ok (.ishr, 1) := by decide +kernel
theorem d_M_mendSums_27 : decode b_M_mendSums 27 = .ok (.iconst 1, 1) := by decide +kernel
theorem d_M_mendSums_28 : decode b_M_mendSums 28 = .ok (.aload_n 0, 1) := by decide +kernel
theorem d_M_mendSums_29 : decode b_M_mendSums 29 = .ok (.getfield 13, 3) := by decide +kernel
theorem d_M_mendSums_32 : decode b_M_mendSums 32 = .ok (.iload 7, 2) := by decide +kernel
theorem d_M_mendSums_34 : decode b_M_mendSums 34 = .ok (.iaload, 1) := by decide +kernel
theorem d_M_mendSums_35 : decode b_M_mendSums 35 = .ok (.ishl, 1) := by decide +kernel
theorem d_M_mendSums_36 : decode b_M_mendSums 36 = .ok (.iconst 1, 1) := by decide +kernel
theorem d_M_mendSums_37 : decode b_M_mendSums 37 = .ok (.isub, 1) := by decide +kernel
theorem d_M_mendSums_38 : decode b_M_mendSums 38 = .ok (.iand, 1) := by decide +kernel
theorem d_M_mendSums_39 : decode b_M_mendSums 39 = .ok (.istore 8, 2) := by decide +kernel
theorem d_M_mendSums_41 : decode b_M_mendSums 41 = .ok (.aload_n 0, 1) := by decide +kernel
theorem d_M_mendSums_42 : decode b_M_mendSums 42 = .ok (.iload 7, 2) := by decide +kernel
theorem d_M_mendSums_44 : decode b_M_mendSums 44 = .ok (.iload 8, 2) := by decide +kernel
theorem d_M_mendSums_46 : decode b_M_mendSums 46 = .ok (.invokevirtual 106, 3) := by decide +kernel
theorem d_M_mendSums_49 : decode b_M_mendSums 49 = .ok (.istore 9, 2) := by decide +kernel
theorem d_M_mendSums_51 : decode b_M_mendSums 51 = .ok (.iload 5, 2) := by decide +kernel
theorem d_M_mendSums_53 : decode b_M_mendSums 53 = .ok (.ifCond .ne 9, 3) := by decide +kernel
theorem d_M_mendSums_56 : decode b_M_mendSums 56 = .ok (.iload 9, 2) := by decide +kernel
theorem d_M_mendSums_58 : decode b_M_mendSums 58 = .ok (.iconst 2, 1) := by decide +kernel
theorem d_M_mendSums_59 : decode b_M_mendSums 59 = .ok (.if_icmp .ne 7, 3) := by decide +kernel
theorem d_M_mendSums_62 : decode b_M_mendSums 62 = .ok (.iconst 1, 1) := by decide +kernel
theorem d_M_mendSums_63 : decode b_M_mendSums 63 = .ok (.goto 4, 3) := by decide +kernel
theorem d_M_mendSums_66 : decode b_M_mendSums 66 = .ok (.iconst 0, 1) := by decide +kernel
theorem d_M_mendSums_67 : decode b_M_mendSums 67 = .ok (.istore 5, 2) := by decide +kernel
theorem d_M_mendSums_69 : decode b_M_mendSums 69 = .ok (.iload 6, 2) := by decide +kernel
theorem d_M_mendSums_71 : decode b_M_mendSums 71 = .ok (.ifCond .ne 9, 3) := by decide +kernel
theorem d_M_mendSums_74 : decode b_M_mendSums 74 = .ok (.iload 9, 2) := by decide +kernel
theorem d_M_mendSums_76 : decode b_M_mendSums 76 = .ok (.iconst 1, 1) := by decide +kernel
theorem d_M_mendSums_77 : decode b_M_mendSums 77 = .ok (.if_icmp .ne 7, 3) := by decide +kernel
theorem d_M_mendSums_80 : decode b_M_mendSums 80 = .ok (.iconst 1, 1) := by decide +kernel
theorem d_M_mendSums_81 : decode b_M_mendSums 81 = .ok (.goto 4, 3) := by decide +kernel
theorem d_M_mendSums_84 : decode b_M_mendSums 84 = .ok (.iconst 0, 1) := by decide +kernel
theorem d_M_mendSums_85 : decode b_M_mendSums 85 = .ok (.istore 6, 2) := by decide +kernel
theorem d_M_mendSums_87 : decode b_M_mendSums 87 = .ok (.iinc 7 1, 3) := by decide +kernel
theorem d_M_mendSums_90 : decode b_M_mendSums 90 = .ok (.goto (-81), 3) := by decide +kernel
theorem d_M_mendSums_93 : decode b_M_mendSums 93 = .ok (.iload 5, 2) := by decide +kernel
theorem d_M_mendSums_95 : decode b_M_mendSums 95 = .ok (.ifCond .eq 19, 3) := by decide +kernel
theorem d_M_mendSums_98 : decode b_M_mendSums 98 = .ok (.aload_n 0, 1) := by decide +kernel
theorem d_M_mendSums_99 : decode b_M_mendSums 99 = .ok (.lload_n 2, 1) := by decide +kernel
theorem d_M_mendSums_100 : decode b_M_mendSums 100 = .ok (.putfield 96, 3) := by decide +kernel
theorem d_M_mendSums_103 : decode b_M_mendSums 103 = .ok (.aload_n 0, 1) := by decide +kernel
theorem d_M_mendSums_104 : decode b_M_mendSums 104 = .ok (.iload 4, 2) := by decide +kernel
theorem d_M_mendSums_106 : decode b_M_mendSums 106 = .ok (.putfield 100, 3) := by decide +kernel
theorem d_M_mendSums_109 : decode b_M_mendSums 109 = .ok (.aload_n 0, 1) := by decide +kernel
theorem d_M_mendSums_110 : decode b_M_mendSums 110 = .ok (.iconst 0, 1) := by decide +kernel
theorem d_M_mendSums_111 : decode b_M_mendSums 111 = .ok (.putfield 103, 3) := by decide +kernel
theorem d_M_mendSums_114 : decode b_M_mendSums 114 = .ok (.iload 5, 2) := by decide +kernel
theorem d_M_mendSums_116 : decode b_M_mendSums 116 = .ok (.ifCond .eq 7, 3) := by decide +kernel
theorem d_M_mendSums_119 : decode b_M_mendSums 119 = .ok (.iconst 2, 1) := by decide +kernel
theorem d_M_mendSums_120 : decode b_M_mendSums 120 = .ok (.goto 13, 3) := by decide +kernel
theorem d_M_mendSums_123 : decode b_M_mendSums 123 = .ok (.iload 6, 2) := by decide +kernel
theorem d_M_mendSums_125 : decode b_M_mendSums 125 = .ok (.ifCond .eq 7, 3) := by decide +kernel
theorem d_M_mendSums_128 : decode b_M_mendSums 128 = .ok (.iconst 1, 1) := by decide +kernel
theorem d_M_mendSums_129 : decode b_M_mendSums 129 = .ok (.goto 4, 3) := by decide +kernel
theorem d_M_mendSums_132 : decode b_M_mendSums 132 = .ok (.iconst 0, 1) := by decide +kernel
theorem d_M_mendSums_133 : decode b_M_mendSums 133 = .ok (.ireturn, 1) := by decide +kernel
abbrev w_M_mendNibbles : List Cond := .code y_M_mendNibbles b_M_mendNibbles 9 (some .int) :: wA
abbrev rm_M_mendNibbles : Room := { frames := 2, cells := 0, slots := 0, locals := 45 }
theorem d_M_mendNibbles_0 : decode b_M_mendNibbles 0 = .ok (.iload_n 1, 1) := by decide +kernel
theorem d_M_mendNibbles_1 : decode b_M_mendNibbles 1 = .ok (.bipush 15, 2) := by decide +kernel
theorem d_M_mendNibbles_3 : decode b_M_mendNibbles 3 = .ok (.iand, 1) := by decide +kernel
theorem d_M_mendNibbles_4 : decode b_M_mendNibbles 4 = .ok (.istore_n 2, 1) := by decide +kernel
theorem d_M_mendNibbles_5 : decode b_M_mendNibbles 5 = .ok (.iload_n 1, 1) := by decide +kernel
theorem d_M_mendNibbles_6 : decode b_M_mendNibbles 6 = .ok (.iconst 4, 1) := by decide +kernel
theorem d_M_mendNibbles_7 : decode b_M_mendNibbles 7 = .ok (.ishr, 1) := by decide +kernel
theorem d_M_mendNibbles_8 : decode b_M_mendNibbles 8 = .ok (.bipush 15, 2) := by decide +kernel
theorem d_M_mendNibbles_10 : decode b_M_mendNibbles 10 = .ok (.iand, 1) := by decide +kernel
theorem d_M_mendNibbles_11 : decode b_M_mendNibbles 11 = .ok (.istore_n 3, 1) := by decide +kernel
theorem d_M_mendNibbles_12 : decode b_M_mendNibbles 12 = .ok (.iload_n 1, 1) := by decide +kernel
theorem d_M_mendNibbles_13 : decode b_M_mendNibbles 13 = .ok (.bipush 8, 2) := by decide +kernel
theorem d_M_mendNibbles_15 : decode b_M_mendNibbles 15 = .ok (.ishr, 1) := by decide +kernel
theorem d_M_mendNibbles_16 : decode b_M_mendNibbles 16 = .ok (.istore 4, 2) := by decide +kernel
theorem d_M_mendNibbles_18 : decode b_M_mendNibbles 18 = .ok (.iload_n 2, 1) := by decide +kernel
theorem d_M_mendNibbles_19 : decode b_M_mendNibbles 19 = .ok (.ifCond .ne 7, 3) := by decide +kernel
theorem d_M_mendNibbles_22 : decode b_M_mendNibbles 22 = .ok (.iconst 1, 1) := by decide +kernel
theorem d_M_mendNibbles_23 : decode b_M_mendNibbles 23 = .ok (.goto 4, 3) := by decide +kernel
theorem d_M_mendNibbles_26 : decode b_M_mendNibbles 26 = .ok (.iconst 0, 1) := by decide +kernel
theorem d_M_mendNibbles_27 : decode b_M_mendNibbles 27 = .ok (.iload_n 3, 1) := by decide +kernel
theorem d_M_mendNibbles_28 : decode b_M_mendNibbles 28 = .ok (.ifCond .ne 7, 3) := by decide +kernel
theorem d_M_mendNibbles_31 : decode b_M_mendNibbles 31 = .ok (.iconst 1, 1) := by decide +kernel
theorem d_M_mendNibbles_32 : decode b_M_mendNibbles 32 = .ok (.goto 4, 3) := by decide +kernel
theorem d_M_mendNibbles_35 : decode b_M_mendNibbles 35 = .ok (.iconst 0, 1) := by decide +kernel
theorem d_M_mendNibbles_36 : decode b_M_mendNibbles 36 = .ok (.iadd, 1) := by decide +kernel
theorem d_M_mendNibbles_37 : decode b_M_mendNibbles 37 = .ok (.iload 4, 2) := by decide +kernel
theorem d_M_mendNibbles_39 : decode b_M_mendNibbles 39 = .ok (.ifCond .ne 7, 3) := by decide +kernel
theorem d_M_mendNibbles_42 : decode b_M_mendNibbles 42 = .ok (.iconst 1, 1) := by decide +kernel
theorem d_M_mendNibbles_43 : decode b_M_mendNibbles 43 = .ok (.goto 4, 3) := by decide +kernel
theorem d_M_mendNibbles_46 : decode b_M_mendNibbles 46 = .ok (.iconst 0, 1) := by decide +kernel
theorem d_M_mendNibbles_47 : decode b_M_mendNibbles 47 = .ok (.iadd, 1) := by decide +kernel
theorem d_M_mendNibbles_48 : decode b_M_mendNibbles 48 = .ok (.istore 5, 2) := by decide +kernel
theorem d_M_mendNibbles_50 : decode b_M_mendNibbles 50 = .ok (.iload 5, 2) := by decide +kernel
theorem d_M_mendNibbles_52 : decode b_M_mendNibbles 52 = .ok (.iconst 2, 1) := by decide +kernel
theorem d_M_mendNibbles_53 : decode b_M_mendNibbles 53 = .ok (.if_icmp .ne 24, 3) := by decide +kernel
theorem d_M_mendNibbles_56 : decode b_M_mendNibbles 56 = .ok (.aload_n 0, 1) := by decide +kernel
theorem d_M_mendNibbles_57 : decode b_M_mendNibbles 57 = .ok (.dup, 1) := by decide +kernel
theorem d_M_mendNibbles_58 : decode b_M_mendNibbles 58 = .ok (.getfield 100, 3) := by decide +kernel
theorem d_M_mendNibbles_61 : decode b_M_mendNibbles 61 = .ok (.iload_n 1, 1) := by decide +kernel
theorem d_M_mendNibbles_62 : decode b_M_mendNibbles 62 = .ok (.ixor, 1) := by decide +kernel
theorem d_M_mendNibbles_63 : decode b_M_mendNibbles 63 = .ok (.putfield 100, 3) := by decide +kernel
theorem d_M_mendNibbles_66 : decode b_M_mendNibbles 66 = .ok (.aload_n 0, 1) := by decide +kernel
theorem d_M_mendNibbles_67 : decode b_M_mendNibbles 67 = .ok (.iload_n 1, 1) := by decide +kernel
theorem d_M_mendNibbles_68 : decode b_M_mendNibbles 68 = .ok (.i2l, 1) := by decide +kernel
theorem d_M_mendNibbles_69 : decode b_M_mendNibbles 69 = .ok (.invokestatic 54, 3) := by decide +kernel
theorem d_M_mendNibbles_72 : decode b_M_mendNibbles 72 = .ok (.putfield 103, 3) := by decide +kernel
theorem d_M_mendNibbles_75 : decode b_M_mendNibbles 75 = .ok (.iconst 1, 1) := by decide +kernel
theorem d_M_mendNibbles_76 : decode b_M_mendNibbles 76 = .ok (.ireturn, 1) := by decide +kernel
theorem d_M_mendNibbles_77 : decode b_M_mendNibbles 77 = .ok (.iload 5, 2) := by decide +kernel
theorem d_M_mendNibbles_79 : decode b_M_mendNibbles 79 = .ok (.ifCond .gt 17, 3) := by decide +kernel
theorem d_M_mendNibbles_82 : decode b_M_mendNibbles 82 = .ok (.iload_n 3, 1) := by decide +kernel
theorem d_M_mendNibbles_83 : decode b_M_mendNibbles 83 = .ok (.iload_n 3, 1) := by decide +kernel
theorem d_M_mendNibbles_84 : decode b_M_mendNibbles 84 = .ok (.invokestatic 65, 3) := by decide +kernel
theorem d_M_mendNibbles_87 : decode b_M_mendNibbles 87 = .ok (.iload_n 2, 1) := by decide +kernel
theorem d_M_mendNibbles_88 : decode b_M_mendNibbles 88 = .ok (.iload 4, 2) := by decide +kernel
theorem d_M_mendNibbles_90 : decode b_M_mendNibbles 90 = .ok (.invokestatic 65, 3) := by decide +kernel
theorem d_M_mendNibbles_93 : decode b_M_mendNibbles 93 = .ok (.if_icmp .eq 15, 3) := by decide +kernel
theorem d_M_mendNibbles_96 : decode b_M_mendNibbles 96 = .ok (.iload 5, 2) := by decide +kernel
theorem d_M_mendNibbles_98 : decode b_M_mendNibbles 98 = .ok (.iconst 3, 1) := by decide +kernel
theorem d_M_mendNibbles_99 : decode b_M_mendNibbles 99 = .ok (.if_icmp .ne 7, 3) := by decide +kernel
theorem d_M_mendNibbles_102 : decode b_M_mendNibbles 102 = .ok (.iconst 0, 1) := by decide +kernel
theorem d_M_mendNibbles_103 : decode b_M_mendNibbles 103 = .ok (.goto 4, 3) := by decide +kernel
theorem d_M_mendNibbles_106 : decode b_M_mendNibbles 106 = .ok (.iconst 2, 1) := by decide +kernel
theorem d_M_mendNibbles_107 : decode b_M_mendNibbles 107 = .ok (.ireturn, 1) := by decide +kernel
theorem d_M_mendNibbles_108 : decode b_M_mendNibbles 108 = .ok (.iconst 0, 1) := by decide +kernel
theorem d_M_mendNibbles_109 : decode b_M_mendNibbles 109 = .ok (.istore 6, 2) := by decide +kernel
theorem d_M_mendNibbles_111 : decode b_M_mendNibbles 111 = .ok (.iload 6, 2) := by decide +kernel
theorem d_M_mendNibbles_113 : decode b_M_mendNibbles 113 = .ok (.aload_n 0, 1) := by decide +kernel
theorem d_M_mendNibbles_114 : decode b_M_mendNibbles 114 = .ok (.invokevirtual 69, 3) := by decide +kernel
theorem d_M_mendNibbles_117 : decode b_M_mendNibbles 117 = .ok (.if_icmp .ge 69, 3) := by decide +kernel
theorem d_M_mendNibbles_120 : decode b_M_mendNibbles 120 = .ok (.iload_n 2, 1) := by decide +kernel
theorem d_M_mendNibbles_121 : decode b_M_mendNibbles 121 = .ok (.i2l, 1) := by decide +kernel
theorem d_M_mendNibbles_122 : decode b_M_mendNibbles 122 = .ok (.iconst 4, 1) := by decide +kernel
theorem d_M_mendNibbles_123 : decode b_M_mendNibbles 123 = .ok (.iload 6, 2) := by decide +kernel
theorem d_M_mendNibbles_125 : decode b_M_mendNibbles 125 = .ok (.imul, 1) := by decide +kernel
theorem d_M_mendNibbles_126 : decode b_M_mendNibbles 126 = .ok (.lshl, 1) := by decide +kernel
theorem d_M_mendNibbles_127 : decode b_M_mendNibbles 127 = .ok (.lstore 7, 2) := by decide +kernel
theorem d_M_mendNibbles_129 : decode b_M_mendNibbles 129 = .ok (.iload_n 3, 1) := by decide +kernel
theorem d_M_mendNibbles_130 : decode b_M_mendNibbles 130 = .ok (.iload_n 2, 1) := by decide +kernel
theorem d_M_mendNibbles_131 : decode b_M_mendNibbles 131 = .ok (.iload 6, 2) := by decide +kernel
theorem d_M_mendNibbles_133 : decode b_M_mendNibbles 133 = .ok (.invokestatic 75, 3) := by decide +kernel
theorem d_M_mendNibbles_136 : decode b_M_mendNibbles 136 = .ok (.invokestatic 65, 3) := by decide +kernel
theorem d_M_mendNibbles_139 : decode b_M_mendNibbles 139 = .ok (.if_icmp .ne 41, 3) := by decide +kernel
theorem d_M_mendNibbles_142 : decode b_M_mendNibbles 142 = .ok (.lload 7, 2) := by decide +kernel
theorem d_M_mendNibbles_144 : decode b_M_mendNibbles 144 = .ok (.aload_n 0, 1) := by decide +kernel
theorem d_M_mendNibbles_145 : decode b_M_mendNibbles 145 = .ok (.invokevirtual 78, 3) := by decide +kernel
theorem d_M_mendNibbles_148 : decode b_M_mendNibbles 148 = .ok (.ldc2_w 109, 3) := by decide +kernel
theorem d_M_mendNibbles_151 : decode b_M_mendNibbles 151 = .ok (.lxor, 1) := by decide +kernel
theorem d_M_mendNibbles_152 : decode b_M_mendNibbles 152 = .ok (.land, 1) := by decide +kernel
theorem d_M_mendNibbles_153 : decode b_M_mendNibbles 153 = .ok (.lconst 0, 1) := by decide +kernel
theorem d_M_mendNibbles_154 : decode b_M_mendNibbles 154 = .ok (.lcmp, 1) := by decide +kernel
theorem d_M_mendNibbles_155 : decode b_M_mendNibbles 155 = .ok (.ifCond .ne 25, 3) := by decide +kernel
theorem d_M_mendNibbles_158 : decode b_M_mendNibbles 158 = .ok (.aload_n 0, 1) := by decide +kernel
theorem d_M_mendNibbles_159 : decode b_M_mendNibbles 159 = .ok (.dup, 1) := by decide +kernel
theorem d_M_mendNibbles_160 : decode b_M_mendNibbles 160 = .ok (.getfield 96, 3) := by decide +kernel
theorem d_M_mendNibbles_163 : decode b_M_mendNibbles 163 = .ok (.lload 7, 2) := by decide +kernel
theorem d_M_mendNibbles_165 : decode b_M_mendNibbles 165 = .ok (.lxor, 1) := by decide +kernel
theorem d_M_mendNibbles_166 : decode b_M_mendNibbles 166 = .ok (.putfield 96, 3) := by decide +kernel
theorem d_M_mendNibbles_169 : decode b_M_mendNibbles 169 = .ok (.aload_n 0, 1) := by decide +kernel
theorem d_M_mendNibbles_170 : decode b_M_mendNibbles 170 = .ok (.iload_n 2, 1) := by decide +kernel
theorem d_M_mendNibbles_171 : decode b_M_mendNibbles 171 = .ok (.i2l, 1) := by decide +kernel
theorem d_M_mendNibbles_172 : decode b_M_mendNibbles 172 = .ok (.invokestatic 54, 3) := by decide +kernel
theorem d_M_mendNibbles_175 : decode b_M_mendNibbles 175 = .ok (.putfield 103, 3) := by decide +kernel
theorem d_M_mendNibbles_178 : decode b_M_mendNibbles 178 = .ok (.iconst 1, 1) := by decide +kernel
theorem d_M_mendNibbles_179 : decode b_M_mendNibbles 179 = .ok (.ireturn, 1) := by decide +kernel
theorem d_M_mendNibbles_180 : decode b_M_mendNibbles 180 = .ok (.iinc 6 1, 3) := by decide +kernel
theorem d_M_mendNibbles_183 : decode b_M_mendNibbles 183 = .ok (.goto (-72), 3) := by decide +kernel
theorem d_M_mendNibbles_186 : decode b_M_mendNibbles 186 = .ok (.iconst 2, 1) := by decide +kernel
theorem d_M_mendNibbles_187 : decode b_M_mendNibbles 187 = .ok (.ireturn, 1) := by decide +kernel
abbrev w_M_reading : List Cond := .code y_M_reading b_M_reading 5 (some .int) :: wA
abbrev rm_M_reading : Room := { frames := 4, cells := 0, slots := 0, locals := 96 }
theorem d_M_reading_0 : decode b_M_reading 0 = .ok (.aload_n 0, 1) := by decide +kernel
theorem d_M_reading_1 : decode b_M_reading 1 = .ok (.lload_n 1, 1) := by decide +kernel
theorem d_M_reading_2 : decode b_M_reading 2 = .ok (.putfield 96, 3) := by decide +kernel
theorem d_M_reading_5 : decode b_M_reading 5 = .ok (.aload_n 0, 1) := by decide +kernel
theorem d_M_reading_6 : decode b_M_reading 6 = .ok (.iload_n 3, 1) := by decide +kernel
theorem d_M_reading_7 : decode b_M_reading 7 = .ok (.putfield 100, 3) := by decide +kernel
theorem d_M_reading_10 : decode b_M_reading 10 = .ok (.aload_n 0, 1) := by decide +kernel
theorem d_M_reading_11 : decode b_M_reading 11 = .ok (.iconst 0, 1) := by decide +kernel
theorem d_M_reading_12 : decode b_M_reading 12 = .ok (.putfield 103, 3) := by decide +kernel
theorem d_M_reading_15 : decode b_M_reading 15 = .ok (.iload_n 3, 1) := by decide +kernel
theorem d_M_reading_16 : decode b_M_reading 16 = .ok (.aload_n 0, 1) := by decide +kernel
theorem d_M_reading_17 : decode b_M_reading 17 = .ok (.invokevirtual 111, 3) := by decide +kernel
theorem d_M_reading_20 : decode b_M_reading 20 = .ok (.ixor, 1) := by decide +kernel
theorem d_M_reading_21 : decode b_M_reading 21 = .ok (.aload_n 0, 1) := by decide +kernel
theorem d_M_reading_22 : decode b_M_reading 22 = .ok (.lload_n 1, 1) := by decide +kernel
theorem d_M_reading_23 : decode b_M_reading 23 = .ok (.invokevirtual 114, 3) := by decide +kernel
theorem d_M_reading_26 : decode b_M_reading 26 = .ok (.ixor, 1) := by decide +kernel
theorem d_M_reading_27 : decode b_M_reading 27 = .ok (.istore 4, 2) := by decide +kernel
theorem d_M_reading_29 : decode b_M_reading 29 = .ok (.aload_n 0, 1) := by decide +kernel
theorem d_M_reading_30 : decode b_M_reading 30 = .ok (.getfield 38, 3) := by decide +kernel
theorem d_M_reading_33 : decode b_M_reading 33 = .ok (.iconst 1, 1) := by decide +kernel
theorem d_M_reading_34 : decode b_M_reading 34 = .ok (.if_icmp .ne 14, 3) := by decide +kernel
theorem d_M_reading_37 : decode b_M_reading 37 = .ok (.iload 4, 2) := by decide +kernel
theorem d_M_reading_39 : decode b_M_reading 39 = .ok (.ifCond .ne 7, 3) := by decide +kernel
theorem d_M_reading_42 : decode b_M_reading 42 = .ok (.iconst 0, 1) := by decide +kernel
theorem d_M_reading_43 : decode b_M_reading 43 = .ok (.goto 4, 3) := by decide +kernel
theorem d_M_reading_46 : decode b_M_reading 46 = .ok (.iconst 2, 1) := by decide +kernel
theorem d_M_reading_47 : decode b_M_reading 47 = .ok (.ireturn, 1) := by decide +kernel
theorem d_M_reading_48 : decode b_M_reading 48 = .ok (.aload_n 0, 1) := by decide +kernel
theorem d_M_reading_49 : decode b_M_reading 49 = .ok (.getfield 38, 3) := by decide +kernel
theorem d_M_reading_52 : decode b_M_reading 52 = .ok (.iconst 2, 1) := by decide +kernel
theorem d_M_reading_53 : decode b_M_reading 53 = .ok (.if_icmp .ne 12, 3) := by decide +kernel
theorem d_M_reading_56 : decode b_M_reading 56 = .ok (.aload_n 0, 1) := by decide +kernel
theorem d_M_reading_57 : decode b_M_reading 57 = .ok (.iload 4, 2) := by decide +kernel
theorem d_M_reading_59 : decode b_M_reading 59 = .ok (.invokevirtual 117, 3) := by decide +kernel
theorem d_M_reading_62 : decode b_M_reading 62 = .ok (.goto 11, 3) := by decide +kernel
theorem d_M_reading_65 : decode b_M_reading 65 = .ok (.aload_n 0, 1) := by decide +kernel
theorem d_M_reading_66 : decode b_M_reading 66 = .ok (.iload 4, 2) := by decide +kernel
theorem d_M_reading_68 : decode b_M_reading 68 = .ok (.lload_n 1, 1) := by decide +kernel
theorem d_M_reading_69 : decode b_M_reading 69 = .ok (.iload_n 3, 1) := by decide +kernel
theorem d_M_reading_70 : decode b_M_reading 70 = .ok (.invokevirtual 120, 3) := by decide +kernel
theorem d_M_reading_73 : decode b_M_reading 73 = .ok (.ireturn, 1) := by decide +kernel
set_option maxHeartbeats 4000000 in
set_option maxRecDepth 100000 in
theorem c_M_mendSums (l : Launch) (D : va_G) (g : Nat → ClassId) (sz : Nat) (wm : va_W) (mo wi ck fq co sq uq gq kd M ifo fl : Nat) (wv cv bv : Nat) (th ch9 tu9 : Int32) (wo9 : Int64) (fw fc ff fco fsq fu fg : Nat → Int32) (hM0 : 0 < M) (hM : M ≤ 57) (y : Nat) (hkd : kd ≤ 3) (hmw : MWF kd M fw fc ff fco) (hs9 : kd = 0 ∨ kd = 3) (hy : y < 2 ^ 31) : Met l y_M_mendSums w_M_mendSums rm_M_mendSums (va_Pc [.ref mo, .int (nI y), .long (lN wv), .int (nI cv)] (pP D (tyl g) ((mo, .inr (6, [.int (th), .int (nI M), .int (nI kd), .int (nI (ckb kd M)), .int (nI (nk kd)), .ref wi, .ref ck, .ref fq, .ref co, .int (nI (grsK kd M)), .int (nI ifo), .int (nI fl), .long (lN wv), .int (nI cv), .int (nI 0), .long (wo9), .int (ch9), .int (tu9), .ref sq, .ref uq, .ref gq])) :: (wi, .inl (g 0, 4, .inl (fw))) :: (ck, .inl (g 0, 4, .inl (fc))) :: (fq, .inl (g 0, 4, .inl (ff))) :: (co, .inl (g 0, 228, .inl (fco))) :: (sq, .inl (g 0, 8, .inl (fsq))) :: (uq, .inl (g 2, 128, .inl (fu))) :: (gq, .inl (g 0, 7, .inl (fg))) :: wm) sz)) (va_Qi (fun (r : Int32) (u : Unit) => r = nI (jdS M (nk kd) y).1) (fun u => qB D (va_A ((mo, .inr (6, [.int (th), .int (nI M), .int (nI kd), .int (nI (ckb kd M)), .int (nI (nk kd)), .ref wi, .ref ck, .ref fq, .ref co, .int (nI (grsK kd M)), .int (nI ifo), .int (nI fl), .long (lN wv), .int (nI cv), .int (nI 0), .long (wo9), .int (ch9), .int (tu9), .ref sq, .ref uq, .ref gq])) :: (wi, .inl (g 0, 4, .inl (fw))) :: (ck, .inl (g 0, 4, .inl (fc))) :: (fq, .inl (g 0, 4, .inl (ff))) :: (co, .inl (g 0, 228, .inl (fco))) :: (sq, .inl (g 0, 8, .inl (fsq))) :: (uq, .inl (g 2, 128, .inl (fu))) :: (gq, .inl (g 0, 7, .inl (fg))) :: wm) sz) ((mo, .inr (6, [.int (th), .int (nI M), .int (nI kd), .int (nI (ckb kd M)), .int (nI (nk kd)), .ref wi, .ref ck, .ref fq, .ref co, .int (nI (grsK kd M)), .int (nI ifo), .int (nI fl), .long (lN (wv ^^^ (jdS M (nk kd) y).2.1)), .int (nI (cv ^^^ (jdS M (nk kd) y).2.2)), .int (nI (pcn 64 (jdS M (nk kd) y).2.1 + pcn 32 (jdS M (nk kd) y).2.2)), .long (wo9), .int (ch9), .int (tu9), .ref sq, .ref uq, .ref gq])) :: (wi, .inl (g 0, 4, .inl (fw))) :: (ck, .inl (g 0, 4, .inl (fc))) :: (fq, .inl (g 0, 4, .inl (ff))) :: (co, .inl (g 0, 228, .inl (fco))) :: (sq, .inl (g 0, 8, .inl (fsq))) :: (uq, .inl (g 2, 128, .inl (fu))) :: (gq, .inl (g 0, 7, .inl (fg))) :: wm)) (va_A ((mo, .inr (6, [.int (th), .int (nI M), .int (nI kd), .int (nI (ckb kd M)), .int (nI (nk kd)), .ref wi, .ref ck, .ref fq, .ref co, .int (nI (grsK kd M)), .int (nI ifo), .int (nI fl), .long (lN wv), .int (nI cv), .int (nI 0), .long (wo9), .int (ch9), .int (tu9), .ref sq, .ref uq, .ref gq])) :: (wi, .inl (g 0, 4, .inl (fw))) :: (ck, .inl (g 0, 4, .inl (fc))) :: (fq, .inl (g 0, 4, .inl (ff))) :: (co, .inl (g 0, 228, .inl (fco))) :: (sq, .inl (g 0, 8, .inl (fsq))) :: (uq, .inl (g 2, 128, .inl (fu))) :: (gq, .inl (g 0, 7, .inl (fg))) :: wm) sz)) 0 0 (va_A ((mo, .inr (6, [.int (th), .int (nI M), .int (nI kd), .int (nI (ckb kd M)), .int (nI (nk kd)), .ref wi, .ref ck, .ref fq, .ref co, .int (nI (grsK kd M)), .int (nI ifo), .int (nI fl), .long (lN wv), .int (nI cv), .int (nI 0), .long (wo9), .int (ch9), .int (tu9), .ref sq, .ref uq, .ref gq])) :: (wi, .inl (g 0, 4, .inl (fw))) :: (ck, .inl (g 0, 4, .inl (fc))) :: (fq, .inl (g 0, 4, .inl (ff))) :: (co, .inl (g 0, 228, .inl (fco))) :: (sq, .inl (g 0, 8, .inl (fsq))) :: (uq, .inl (g 2, 128, .inl (fu))) :: (gq, .inl (g 0, 7, .inl (fg))) :: wm) sz) := by
  refine Met.ofW (cc := b_M_mendSums) (maxL := 10) (ret := (some .int)) (by decide +kernel) rfl ?_
  intro p e s m args below meth c s₁ Bq hml hv
  have hx := Bq.exec
  have hb := Bq.bytes
  have hr := Bq.returns
  have hts : ∀ w ∈ wA, w.before args s = true := fun w h => atoms_spec (ws := w_M_mendSums) Bq.pre w (List.mem_cons_of_mem _ h)
  have hown : s.vm.findClass R_M = some m.cls := findClass_of_methodNamed Bq.named
  have hlocks := Bq.notSynchronized
  obtain ⟨rfl, hsz, hP, hKK, hD0⟩ := hv
  have hK := hKK.1
  subst hsz
  have hD := hD0.self (sz := s.heap.size)
  generalize hAe : va_A ((mo, .inr (6, [.int (th), .int (nI M), .int (nI kd), .int (nI (ckb kd M)), .int (nI (nk kd)), .ref wi, .ref ck, .ref fq, .ref co, .int (nI (grsK kd M)), .int (nI ifo), .int (nI fl), .long (lN wv), .int (nI cv), .int (nI 0), .long (wo9), .int (ch9), .int (tu9), .ref sq, .ref uq, .ref gq])) :: (wi, .inl (g 0, 4, .inl (fw))) :: (ck, .inl (g 0, 4, .inl (fc))) :: (fq, .inl (g 0, 4, .inl (ff))) :: (co, .inl (g 0, 228, .inl (fco))) :: (sq, .inl (g 0, 8, .inl (fsq))) :: (uq, .inl (g 2, 128, .inl (fu))) :: (gq, .inl (g 0, 7, .inl (fg))) :: wm) s.heap.size = A at hD ⊢
  have hA : ∀ q : Nat, s.heap.size ≤ q → A q := fun q h => by rw [← hAe]; exact Or.inr h
  have hS : va_S A s.heap s.heap [] := va_S.rf
  have hl := lv_entry ([.ref mo, .int (nI y), .long (lN wv), .int (nI cv)]) (n := 10) (Nat.le_of_ble_eq_true rfl)
  rw [lg_entry_eq]
  generalize (lg_sl ([.ref mo, .int (nI y), .long (lN wv), .int (nI cv)]) ++ List.replicate (10 - (lg_sl ([.ref mo, .int (nI y), .long (lN wv), .int (nI cv)])).length) Slot.unset).toArray = ls at hl ⊢
  have hl : lv_has ls 10 [(0, .ref mo), (1, .int (nI y)), (2, .long (lN wv)), (4, .int (nI cv))] := hl
  generalize hQ : MQ below (va_Qi (fun (r : Int32) (u : Unit) => r = nI (jdS M (nk kd) y).1) (fun u => qB D (A) ((mo, .inr (6, [.int (th), .int (nI M), .int (nI kd), .int (nI (ckb kd M)), .int (nI (nk kd)), .ref wi, .ref ck, .ref fq, .ref co, .int (nI (grsK kd M)), .int (nI ifo), .int (nI fl), .long (lN (wv ^^^ (jdS M (nk kd) y).2.1)), .int (nI (cv ^^^ (jdS M (nk kd) y).2.2)), .int (nI (pcn 64 (jdS M (nk kd) y).2.1 + pcn 32 (jdS M (nk kd) y).2.2)), .long (wo9), .int (ch9), .int (tu9), .ref sq, .ref uq, .ref gq])) :: (wi, .inl (g 0, 4, .inl (fw))) :: (ck, .inl (g 0, 4, .inl (fc))) :: (fq, .inl (g 0, 4, .inl (ff))) :: (co, .inl (g 0, 228, .inl (fco))) :: (sq, .inl (g 0, 8, .inl (fsq))) :: (uq, .inl (g 2, 128, .inl (fu))) :: (gq, .inl (g 0, 7, .inl (fg))) :: wm)) (A)) [.ref mo, .int (nI y), .long (lN wv), .int (nI cv)].toArray s 0 0 A = Q
  have hnk := nk_in kd
  obtain ⟨ht1, ht2⟩ := hmw hs9
  have lp9 : ∀ (n : Nat) (i t9 a9 w9 c9 b9 : Nat) (ls : Array Slot) (H : Heap) (locs : List Loc), (nk kd + 1 ≤ i + n) → (i ≤ nk kd) → (t9 ≤ 1) → (a9 ≤ 1) → (mJ M (nk kd) y wv cv i t9 a9 w9 c9 b9) → lv_has ls 10 [(0, .ref mo), (1, .int (nI y)), (2, .long (lN wv)), (4, .int (nI cv)), (5, .int (nI t9)), (6, .int (nI a9)), (7, .int (nI i))] → va_P D vwCl ((mo, .inr (6, [.int (th), .int (nI M), .int (nI kd), .int (nI (ckb kd M)), .int (nI (nk kd)), .ref wi, .ref ck, .ref fq, .ref co, .int (nI (grsK kd M)), .int (nI ifo), .int (nI fl), .long (lN w9), .int (nI c9), .int (nI b9), .long (wo9), .int (ch9), .int (tu9), .ref sq, .ref uq, .ref gq])) :: (wi, .inl (g 0, 4, .inl (fw))) :: (ck, .inl (g 0, 4, .inl (fc))) :: (fq, .inl (g 0, 4, .inl (ff))) :: (co, .inl (g 0, 228, .inl (fco))) :: (sq, .inl (g 0, 8, .inl (fsq))) :: (uq, .inl (g 2, 128, .inl (fu))) :: (gq, .inl (g 0, 7, .inl (fg))) :: wm) H → va_D A ((mo, .inr (6, [.int (th), .int (nI M), .int (nI kd), .int (nI (ckb kd M)), .int (nI (nk kd)), .ref wi, .ref ck, .ref fq, .ref co, .int (nI (grsK kd M)), .int (nI ifo), .int (nI fl), .long (lN w9), .int (nI c9), .int (nI b9), .long (wo9), .int (ch9), .int (tu9), .ref sq, .ref uq, .ref gq])) :: (wi, .inl (g 0, 4, .inl (fw))) :: (ck, .inl (g 0, 4, .inl (fc))) :: (fq, .inl (g 0, 4, .inl (ff))) :: (co, .inl (g 0, 228, .inl (fco))) :: (sq, .inl (g 0, 8, .inl (fsq))) :: (uq, .inl (g 2, 128, .inl (fu))) :: (gq, .inl (g 0, 7, .inl (fg))) :: wm) → va_S A s.heap H locs → W p l e (headSpec w_M_mendSums rm_M_mendSums).room s m [.ref mo, .int (nI y), .long (lN wv), .int (nI cv)].toArray below meth c H locs 0 0 Q (F0 m 9 ls []) := by
    intro n
    induction n with
    | zero => intro i t9 a9 w9 c9 b9 ls H locs hfu hi9 ht9 ha9 hmj _ _ _ _; exact absurd hfu (by omega)
    | succ n ih =>
      intro i t9 a9 w9 c9 b9 ls H locs hfu hi9 ht9 ha9 hmj hl hP hD hS
      refine lv_iload hx hb d_M_mendSums_9 (lv_at hl 6 rfl) ?_
      refine lv_aload_n hx hb d_M_mendSums_11 rfl (lv_at hl 0 rfl) ?_
      refine va_get (D := D) (ci := 6) (v := .int (nI (nk kd))) (C := R_M) (T := F_M) (N := 21) hx hb hts i_M hown hK hP 0 rfl rfl 4 (by decide) (hts _ m_607) (fun _ h9 => h9) rfl d_M_mendSums_12 ?_
      refine lx_icmp_ge (tgt := 93) hx hb d_M_mendSums_15 (by decide) (by omega) (by omega) (fun c15 => ?_) (fun c15 => ?_)
      · skip
        obtain rfl : i = nk kd := by omega
        rcases mJ_end hmj with ⟨rfl, ej⟩ | ⟨rfl, e1, e2, e3, e4⟩
        · skip
          refine lv_iload hx hb d_M_mendSums_93 (lv_at hl 4 rfl) ?_
          refine lx_if_eq (tgt := 114) hx hb d_M_mendSums_95 (by decide) (by omega) (fun c95 => ?_) (fun c95 => ?_)
          · skip
            exact absurd c95 (by decide)
          · skip
            refine lv_aload_n hx hb d_M_mendSums_98 rfl (lv_at hl 0 rfl) ?_
            refine lv_lload_n hx hb d_M_mendSums_99 rfl (lv_at hl 2 rfl) ?_
            refine va_put (D := D) (ci := 6) (v := .long (lN wv)) (ty := .long) (C := R_M) (T := F_M) (N := 21) hx hb hts i_M tf_M tf_M_ok nf_M hown hK hP hD hS 0 rfl rfl 12 (by decide) (hts _ m_615) (fun _ h9 => h9) rfl (by decide +kernel) rfl rfl (Nat.le_of_ble_eq_true rfl) d_M_mendSums_100 (fun H locs hP hD hS => ?_)
            have hP : va_P D vwCl ((mo, .inr (6, [.int (th), .int (nI M), .int (nI kd), .int (nI (ckb kd M)), .int (nI (nk kd)), .ref wi, .ref ck, .ref fq, .ref co, .int (nI (grsK kd M)), .int (nI ifo), .int (nI fl), .long (lN wv), .int (nI c9), .int (nI b9), .long (wo9), .int (ch9), .int (tu9), .ref sq, .ref uq, .ref gq])) :: (wi, .inl (g 0, 4, .inl (fw))) :: (ck, .inl (g 0, 4, .inl (fc))) :: (fq, .inl (g 0, 4, .inl (ff))) :: (co, .inl (g 0, 228, .inl (fco))) :: (sq, .inl (g 0, 8, .inl (fsq))) :: (uq, .inl (g 2, 128, .inl (fu))) :: (gq, .inl (g 0, 7, .inl (fg))) :: wm) H := hP
            have hD : va_D A ((mo, .inr (6, [.int (th), .int (nI M), .int (nI kd), .int (nI (ckb kd M)), .int (nI (nk kd)), .ref wi, .ref ck, .ref fq, .ref co, .int (nI (grsK kd M)), .int (nI ifo), .int (nI fl), .long (lN wv), .int (nI c9), .int (nI b9), .long (wo9), .int (ch9), .int (tu9), .ref sq, .ref uq, .ref gq])) :: (wi, .inl (g 0, 4, .inl (fw))) :: (ck, .inl (g 0, 4, .inl (fc))) :: (fq, .inl (g 0, 4, .inl (ff))) :: (co, .inl (g 0, 228, .inl (fco))) :: (sq, .inl (g 0, 8, .inl (fsq))) :: (uq, .inl (g 2, 128, .inl (fu))) :: (gq, .inl (g 0, 7, .inl (fg))) :: wm) := hD
            refine lv_aload_n hx hb d_M_mendSums_103 rfl (lv_at hl 0 rfl) ?_
            refine lv_iload hx hb d_M_mendSums_104 (lv_at hl 3 rfl) ?_
            refine va_put (D := D) (ci := 6) (v := .int (nI cv)) (ty := .int) (C := R_M) (T := F_M) (N := 21) hx hb hts i_M tf_M tf_M_ok nf_M hown hK hP hD hS 0 rfl rfl 13 (by decide) (hts _ m_616) (fun _ h9 => h9) rfl (by decide +kernel) rfl rfl (Nat.le_of_ble_eq_true rfl) d_M_mendSums_106 (fun H locs hP hD hS => ?_)
            have hP : va_P D vwCl ((mo, .inr (6, [.int (th), .int (nI M), .int (nI kd), .int (nI (ckb kd M)), .int (nI (nk kd)), .ref wi, .ref ck, .ref fq, .ref co, .int (nI (grsK kd M)), .int (nI ifo), .int (nI fl), .long (lN wv), .int (nI cv), .int (nI b9), .long (wo9), .int (ch9), .int (tu9), .ref sq, .ref uq, .ref gq])) :: (wi, .inl (g 0, 4, .inl (fw))) :: (ck, .inl (g 0, 4, .inl (fc))) :: (fq, .inl (g 0, 4, .inl (ff))) :: (co, .inl (g 0, 228, .inl (fco))) :: (sq, .inl (g 0, 8, .inl (fsq))) :: (uq, .inl (g 2, 128, .inl (fu))) :: (gq, .inl (g 0, 7, .inl (fg))) :: wm) H := hP
            have hD : va_D A ((mo, .inr (6, [.int (th), .int (nI M), .int (nI kd), .int (nI (ckb kd M)), .int (nI (nk kd)), .ref wi, .ref ck, .ref fq, .ref co, .int (nI (grsK kd M)), .int (nI ifo), .int (nI fl), .long (lN wv), .int (nI cv), .int (nI b9), .long (wo9), .int (ch9), .int (tu9), .ref sq, .ref uq, .ref gq])) :: (wi, .inl (g 0, 4, .inl (fw))) :: (ck, .inl (g 0, 4, .inl (fc))) :: (fq, .inl (g 0, 4, .inl (ff))) :: (co, .inl (g 0, 228, .inl (fco))) :: (sq, .inl (g 0, 8, .inl (fsq))) :: (uq, .inl (g 2, 128, .inl (fu))) :: (gq, .inl (g 0, 7, .inl (fg))) :: wm) := hD
            refine lv_aload_n hx hb d_M_mendSums_109 rfl (lv_at hl 0 rfl) ?_
            refine lv_iconst (v := nI 0) hx hb d_M_mendSums_110 (by decide) ?_
            refine va_put (D := D) (ci := 6) (v := .int (nI 0)) (ty := .int) (C := R_M) (T := F_M) (N := 21) hx hb hts i_M tf_M tf_M_ok nf_M hown hK hP hD hS 0 rfl rfl 14 (by decide) (hts _ m_617) (fun _ h9 => h9) rfl (by decide +kernel) rfl rfl (Nat.le_of_ble_eq_true rfl) d_M_mendSums_111 (fun H locs hP hD hS => ?_)
            have hP : va_P D vwCl ((mo, .inr (6, [.int (th), .int (nI M), .int (nI kd), .int (nI (ckb kd M)), .int (nI (nk kd)), .ref wi, .ref ck, .ref fq, .ref co, .int (nI (grsK kd M)), .int (nI ifo), .int (nI fl), .long (lN wv), .int (nI cv), .int (nI 0), .long (wo9), .int (ch9), .int (tu9), .ref sq, .ref uq, .ref gq])) :: (wi, .inl (g 0, 4, .inl (fw))) :: (ck, .inl (g 0, 4, .inl (fc))) :: (fq, .inl (g 0, 4, .inl (ff))) :: (co, .inl (g 0, 228, .inl (fco))) :: (sq, .inl (g 0, 8, .inl (fsq))) :: (uq, .inl (g 2, 128, .inl (fu))) :: (gq, .inl (g 0, 7, .inl (fg))) :: wm) H := hP
            have hD : va_D A ((mo, .inr (6, [.int (th), .int (nI M), .int (nI kd), .int (nI (ckb kd M)), .int (nI (nk kd)), .ref wi, .ref ck, .ref fq, .ref co, .int (nI (grsK kd M)), .int (nI ifo), .int (nI fl), .long (lN wv), .int (nI cv), .int (nI 0), .long (wo9), .int (ch9), .int (tu9), .ref sq, .ref uq, .ref gq])) :: (wi, .inl (g 0, 4, .inl (fw))) :: (ck, .inl (g 0, 4, .inl (fc))) :: (fq, .inl (g 0, 4, .inl (ff))) :: (co, .inl (g 0, 228, .inl (fco))) :: (sq, .inl (g 0, 8, .inl (fsq))) :: (uq, .inl (g 2, 128, .inl (fu))) :: (gq, .inl (g 0, 7, .inl (fg))) :: wm) := hD
            refine lv_iload hx hb d_M_mendSums_114 (lv_at hl 4 rfl) ?_
            refine lx_if_eq (tgt := 123) hx hb d_M_mendSums_116 (by decide) (by omega) (fun c116 => ?_) (fun c116 => ?_)
            · skip
              exact absurd c116 (by decide)
            · skip
              refine lv_iconst (v := nI 2) hx hb d_M_mendSums_119 (by decide) ?_
              refine lv_goto (tgt := 133) hx hb d_M_mendSums_120 (by decide) ?_
              have hP : va_P D vwCl ((mo, .inr (6, [.int (th), .int (nI M), .int (nI kd), .int (nI (ckb kd M)), .int (nI (nk kd)), .ref wi, .ref ck, .ref fq, .ref co, .int (nI (grsK kd M)), .int (nI ifo), .int (nI fl), .long (lN (wv ^^^ (jdS M (nk kd) y).2.1)), .int (nI (cv ^^^ (jdS M (nk kd) y).2.2)), .int (nI (pcn 64 (jdS M (nk kd) y).2.1 + pcn 32 (jdS M (nk kd) y).2.2)), .long (wo9), .int (ch9), .int (tu9), .ref sq, .ref uq, .ref gq])) :: (wi, .inl (g 0, 4, .inl (fw))) :: (ck, .inl (g 0, 4, .inl (fc))) :: (fq, .inl (g 0, 4, .inl (ff))) :: (co, .inl (g 0, 228, .inl (fco))) :: (sq, .inl (g 0, 8, .inl (fsq))) :: (uq, .inl (g 2, 128, .inl (fu))) :: (gq, .inl (g 0, 7, .inl (fg))) :: wm) H := by rw [ej, show wv ^^^ ((2, 0, 0) : Nat × Nat × Nat).2.1 = wv from Nat.xor_zero wv, show cv ^^^ ((2, 0, 0) : Nat × Nat × Nat).2.2 = cv from Nat.xor_zero cv, show pcn 64 ((2, 0, 0) : Nat × Nat × Nat).2.1 + pcn 32 ((2, 0, 0) : Nat × Nat × Nat).2.2 = 0 from by decide]; exact hP
              have hD : va_D A ((mo, .inr (6, [.int (th), .int (nI M), .int (nI kd), .int (nI (ckb kd M)), .int (nI (nk kd)), .ref wi, .ref ck, .ref fq, .ref co, .int (nI (grsK kd M)), .int (nI ifo), .int (nI fl), .long (lN (wv ^^^ (jdS M (nk kd) y).2.1)), .int (nI (cv ^^^ (jdS M (nk kd) y).2.2)), .int (nI (pcn 64 (jdS M (nk kd) y).2.1 + pcn 32 (jdS M (nk kd) y).2.2)), .long (wo9), .int (ch9), .int (tu9), .ref sq, .ref uq, .ref gq])) :: (wi, .inl (g 0, 4, .inl (fw))) :: (ck, .inl (g 0, 4, .inl (fc))) :: (fq, .inl (g 0, 4, .inl (ff))) :: (co, .inl (g 0, 228, .inl (fco))) :: (sq, .inl (g 0, 8, .inl (fsq))) :: (uq, .inl (g 2, 128, .inl (fu))) :: (gq, .inl (g 0, 7, .inl (fg))) :: wm) := hD.set (p := 0) rfl
              rw [← hQ]
              refine W.iret (v := nI 2) hx hb hr ?_ hS.2.2 d_M_mendSums_133
              exact fun t ht hW => ⟨⟨nI 2, (), rfl, by rw [ej], by rw [ht]; exact hP, hD⟩, hS.F ht⟩
        · skip
          refine lv_iload hx hb d_M_mendSums_93 (lv_at hl 4 rfl) ?_
          refine lx_if_eq (tgt := 114) hx hb d_M_mendSums_95 (by decide) (by omega) (fun c95 => ?_) (fun c95 => ?_)
          · skip
            rw [e2, e3, e4] at hP hD
            have hP : va_P D vwCl ((mo, .inr (6, [.int (th), .int (nI M), .int (nI kd), .int (nI (ckb kd M)), .int (nI (nk kd)), .ref wi, .ref ck, .ref fq, .ref co, .int (nI (grsK kd M)), .int (nI ifo), .int (nI fl), .long (lN (wv ^^^ (jdS M (nk kd) y).2.1)), .int (nI (cv ^^^ (jdS M (nk kd) y).2.2)), .int (nI (pcn 64 (jdS M (nk kd) y).2.1 + pcn 32 (jdS M (nk kd) y).2.2)), .long (wo9), .int (ch9), .int (tu9), .ref sq, .ref uq, .ref gq])) :: (wi, .inl (g 0, 4, .inl (fw))) :: (ck, .inl (g 0, 4, .inl (fc))) :: (fq, .inl (g 0, 4, .inl (ff))) :: (co, .inl (g 0, 228, .inl (fco))) :: (sq, .inl (g 0, 8, .inl (fsq))) :: (uq, .inl (g 2, 128, .inl (fu))) :: (gq, .inl (g 0, 7, .inl (fg))) :: wm) H := hP
            have hD : va_D A ((mo, .inr (6, [.int (th), .int (nI M), .int (nI kd), .int (nI (ckb kd M)), .int (nI (nk kd)), .ref wi, .ref ck, .ref fq, .ref co, .int (nI (grsK kd M)), .int (nI ifo), .int (nI fl), .long (lN (wv ^^^ (jdS M (nk kd) y).2.1)), .int (nI (cv ^^^ (jdS M (nk kd) y).2.2)), .int (nI (pcn 64 (jdS M (nk kd) y).2.1 + pcn 32 (jdS M (nk kd) y).2.2)), .long (wo9), .int (ch9), .int (tu9), .ref sq, .ref uq, .ref gq])) :: (wi, .inl (g 0, 4, .inl (fw))) :: (ck, .inl (g 0, 4, .inl (fc))) :: (fq, .inl (g 0, 4, .inl (ff))) :: (co, .inl (g 0, 228, .inl (fco))) :: (sq, .inl (g 0, 8, .inl (fsq))) :: (uq, .inl (g 2, 128, .inl (fu))) :: (gq, .inl (g 0, 7, .inl (fg))) :: wm) := hD
            refine lv_iload hx hb d_M_mendSums_114 (lv_at hl 4 rfl) ?_
            refine lx_if_eq (tgt := 123) hx hb d_M_mendSums_116 (by decide) (by omega) (fun c116 => ?_) (fun c116 => ?_)
            · skip
              refine lv_iload hx hb d_M_mendSums_123 (lv_at hl 5 rfl) ?_
              refine lx_if_eq (tgt := 132) hx hb d_M_mendSums_125 (by decide) (by omega) (fun c125 => ?_) (fun c125 => ?_)
              · skip
                refine lv_iconst (v := nI 0) hx hb d_M_mendSums_132 (by decide) ?_
                rw [← hQ]
                refine W.iret (v := nI 0) hx hb hr ?_ hS.2.2 d_M_mendSums_133
                exact fun t ht hW => ⟨⟨nI 0, (), rfl, (by rw [← e1, c125]), by rw [ht]; exact hP, hD⟩, hS.F ht⟩
              · skip
                refine lv_iconst (v := nI 1) hx hb d_M_mendSums_128 (by decide) ?_
                refine lv_goto (tgt := 133) hx hb d_M_mendSums_129 (by decide) ?_
                rw [← hQ]
                refine W.iret (v := nI 1) hx hb hr ?_ hS.2.2 d_M_mendSums_133
                exact fun t ht hW => ⟨⟨nI 1, (), rfl, (by rw [← e1, show a9 = 1 by omega]), by rw [ht]; exact hP, hD⟩, hS.F ht⟩
            · skip
              exact absurd rfl c116
          · skip
            exact absurd rfl c95
      · skip
        obtain ⟨t1, t2, t3⟩ := ht1 i c15
        have hl7 := lr_le (wid M (nk kd) i)
        have hfl := frm_lt (M := M) (n := nk kd) (show i < 4 by omega)
        have hp1 : 1 ≤ 2 ^ lr (wid M (nk kd) i) := Nat.one_le_two_pow
        have hst := mJ_step hM hnk c15 hmj
        have hm2 : (mdS M (nk kd) i (y >>> frm M (nk kd) i % 2 ^ lr (wid M (nk kd) i)) (w9, c9, b9)).1 ≤ 2 := mdS_le _ _ _ _ _
        refine lv_iload_n hx hb d_M_mendSums_18 rfl (lv_at hl 1 rfl) ?_
        refine lv_aload_n hx hb d_M_mendSums_19 rfl (lv_at hl 0 rfl) ?_
        refine va_get (D := D) (ci := 6) (v := .ref fq) (C := R_M) (T := F_M) (N := 21) hx hb hts i_M hown hK hP 0 rfl rfl 7 (by decide) (hts _ m_610) (fun _ h9 => h9) rfl d_M_mendSums_20 ?_
        refine lv_iload hx hb d_M_mendSums_23 (lv_at hl 6 rfl) ?_
        refine lx_iald (v := nI (frm M (nk kd) i)) hx hb hK hP 3 0 rfl rfl (j := i) (by omega) (by omega) (t3) d_M_mendSums_25 ?_
        refine lx_ishr (z := nI (y >>> frm M (nk kd) i)) hx hb d_M_mendSums_26 (xn_sshr hy (by omega)) ?_
        refine lv_iconst (v := nI 1) hx hb d_M_mendSums_27 (by decide) ?_
        refine lv_aload_n hx hb d_M_mendSums_28 rfl (lv_at hl 0 rfl) ?_
        refine va_get (D := D) (ci := 6) (v := .ref ck) (C := R_M) (T := F_M) (N := 21) hx hb hts i_M hown hK hP 0 rfl rfl 6 (by decide) (hts _ m_609) (fun _ h9 => h9) rfl d_M_mendSums_29 ?_
        refine lv_iload hx hb d_M_mendSums_32 (lv_at hl 6 rfl) ?_
        refine lx_iald (v := nI (lr (wid M (nk kd) i))) hx hb hK hP 2 0 rfl rfl (j := i) (by omega) (by omega) (t2) d_M_mendSums_34 ?_
        refine lx_ishl (z := nI (2 ^ lr (wid M (nk kd) i))) hx hb d_M_mendSums_35 ((xn_shl 1 (by omega)).trans (by rw [Nat.one_shiftLeft])) ?_
        refine lv_iconst (v := nI 1) hx hb d_M_mendSums_36 (by decide) ?_
        refine lx_isub (z := nI (2 ^ lr (wid M (nk kd) i) - 1)) hx hb d_M_mendSums_37 (pk_sub hp1) ?_
        refine lx_iand (z := nI (y >>> frm M (nk kd) i % 2 ^ lr (wid M (nk kd) i))) hx hb d_M_mendSums_38 ((xn_and _ _).trans (by rw [Nat.and_two_pow_sub_one_eq_mod])) ?_
        refine lv_istore (lv' := [(8, .int (nI (y >>> frm M (nk kd) i % 2 ^ lr (wid M (nk kd) i)))), (0, .ref mo), (1, .int (nI y)), (2, .long (lN wv)), (4, .int (nI cv)), (5, .int (nI t9)), (6, .int (nI a9)), (7, .int (nI i))]) hx hb d_M_mendSums_39 hl (by decide) rfl (fun ls hl => ?_)
        refine lv_aload_n hx hb d_M_mendSums_41 rfl (lv_at hl 1 rfl) ?_
        refine lv_iload hx hb d_M_mendSums_42 (lv_at hl 7 rfl) ?_
        refine lv_iload hx hb d_M_mendSums_44 (lv_at hl 0 rfl) ?_
        refine lc_Vi (b := mo) (As := [.int (nI i), .int (nI (y >>> frm M (nk kd) i % 2 ^ lr (wid M (nk kd) i)))]) (rest := []) ⟨hx, hb, hml, hown, hts⟩ (c_M_mend l D g _ wm mo wi ck fq co sq uq gq kd M ifo fl w9 c9 b9 th ch9 tu9 wo9 fw fc ff fco fsq fu fg hM0 hM i (y >>> frm M (nk kd) i % 2 ^ lr (wid M (nk kd) i)) hkd hmw hs9 c15 (Nat.mod_lt _ (by omega))) (kV 2 hts m_750 m_747 m_749 m_24 m_40 (by decide +kernel) ⟨Nat.le_of_ble_eq_true rfl, Nat.le_of_ble_eq_true rfl⟩) (va_recv hK hP (ci := 6) (q0 := 0) rfl rfl) hKK hP hD hS hA hl.1 rfl rfl (Nat.le_of_ble_eq_true rfl) d_M_mendSums_46 ⟨Nat.le_of_ble_eq_true rfl, Nat.le_of_ble_eq_true rfl⟩ (fun r1 u H locs e1 hP hD hS => ?_)
        have hP : va_P D vwCl ((mo, .inr (6, [.int (th), .int (nI M), .int (nI kd), .int (nI (ckb kd M)), .int (nI (nk kd)), .ref wi, .ref ck, .ref fq, .ref co, .int (nI (grsK kd M)), .int (nI ifo), .int (nI fl), .long (lN ((mdS M (nk kd) i (y >>> frm M (nk kd) i % 2 ^ lr (wid M (nk kd) i)) (w9, c9, b9)).2.1)), .int (nI ((mdS M (nk kd) i (y >>> frm M (nk kd) i % 2 ^ lr (wid M (nk kd) i)) (w9, c9, b9)).2.2.1)), .int (nI ((mdS M (nk kd) i (y >>> frm M (nk kd) i % 2 ^ lr (wid M (nk kd) i)) (w9, c9, b9)).2.2.2)), .long (wo9), .int (ch9), .int (tu9), .ref sq, .ref uq, .ref gq])) :: (wi, .inl (g 0, 4, .inl (fw))) :: (ck, .inl (g 0, 4, .inl (fc))) :: (fq, .inl (g 0, 4, .inl (ff))) :: (co, .inl (g 0, 228, .inl (fco))) :: (sq, .inl (g 0, 8, .inl (fsq))) :: (uq, .inl (g 2, 128, .inl (fu))) :: (gq, .inl (g 0, 7, .inl (fg))) :: wm) H := hP
        have hD : va_D A ((mo, .inr (6, [.int (th), .int (nI M), .int (nI kd), .int (nI (ckb kd M)), .int (nI (nk kd)), .ref wi, .ref ck, .ref fq, .ref co, .int (nI (grsK kd M)), .int (nI ifo), .int (nI fl), .long (lN ((mdS M (nk kd) i (y >>> frm M (nk kd) i % 2 ^ lr (wid M (nk kd) i)) (w9, c9, b9)).2.1)), .int (nI ((mdS M (nk kd) i (y >>> frm M (nk kd) i % 2 ^ lr (wid M (nk kd) i)) (w9, c9, b9)).2.2.1)), .int (nI ((mdS M (nk kd) i (y >>> frm M (nk kd) i % 2 ^ lr (wid M (nk kd) i)) (w9, c9, b9)).2.2.2)), .long (wo9), .int (ch9), .int (tu9), .ref sq, .ref uq, .ref gq])) :: (wi, .inl (g 0, 4, .inl (fw))) :: (ck, .inl (g 0, 4, .inl (fc))) :: (fq, .inl (g 0, 4, .inl (ff))) :: (co, .inl (g 0, 228, .inl (fco))) :: (sq, .inl (g 0, 8, .inl (fsq))) :: (uq, .inl (g 2, 128, .inl (fu))) :: (gq, .inl (g 0, 7, .inl (fg))) :: wm) := hD
        obtain rfl : r1 = nI (mdS M (nk kd) i (y >>> frm M (nk kd) i % 2 ^ lr (wid M (nk kd) i)) (w9, c9, b9)).1 := e1
        have ihi := ih
        have j85 : ∀ (z9 : Nat) (ls : Array Slot) (H : Heap) (locs : List Loc), (z9 = if a9 = 1 ∨ (mdS M (nk kd) i (y >>> frm M (nk kd) i % 2 ^ lr (wid M (nk kd) i)) (w9, c9, b9)).1 = 1 then 1 else 0) → lv_has ls 10 [(0, .ref mo), (1, .int (nI y)), (2, .long (lN wv)), (4, .int (nI cv)), (7, .int (nI i)), (5, .int (nI (if t9 = 1 ∨ (mdS M (nk kd) i (y >>> frm M (nk kd) i % 2 ^ lr (wid M (nk kd) i)) (w9, c9, b9)).1 = 2 then 1 else 0)))] → va_P D vwCl ((mo, .inr (6, [.int (th), .int (nI M), .int (nI kd), .int (nI (ckb kd M)), .int (nI (nk kd)), .ref wi, .ref ck, .ref fq, .ref co, .int (nI (grsK kd M)), .int (nI ifo), .int (nI fl), .long (lN ((mdS M (nk kd) i (y >>> frm M (nk kd) i % 2 ^ lr (wid M (nk kd) i)) (w9, c9, b9)).2.1)), .int (nI ((mdS M (nk kd) i (y >>> frm M (nk kd) i % 2 ^ lr (wid M (nk kd) i)) (w9, c9, b9)).2.2.1)), .int (nI ((mdS M (nk kd) i (y >>> frm M (nk kd) i % 2 ^ lr (wid M (nk kd) i)) (w9, c9, b9)).2.2.2)), .long (wo9), .int (ch9), .int (tu9), .ref sq, .ref uq, .ref gq])) :: (wi, .inl (g 0, 4, .inl (fw))) :: (ck, .inl (g 0, 4, .inl (fc))) :: (fq, .inl (g 0, 4, .inl (ff))) :: (co, .inl (g 0, 228, .inl (fco))) :: (sq, .inl (g 0, 8, .inl (fsq))) :: (uq, .inl (g 2, 128, .inl (fu))) :: (gq, .inl (g 0, 7, .inl (fg))) :: wm) H → va_D A ((mo, .inr (6, [.int (th), .int (nI M), .int (nI kd), .int (nI (ckb kd M)), .int (nI (nk kd)), .ref wi, .ref ck, .ref fq, .ref co, .int (nI (grsK kd M)), .int (nI ifo), .int (nI fl), .long (lN ((mdS M (nk kd) i (y >>> frm M (nk kd) i % 2 ^ lr (wid M (nk kd) i)) (w9, c9, b9)).2.1)), .int (nI ((mdS M (nk kd) i (y >>> frm M (nk kd) i % 2 ^ lr (wid M (nk kd) i)) (w9, c9, b9)).2.2.1)), .int (nI ((mdS M (nk kd) i (y >>> frm M (nk kd) i % 2 ^ lr (wid M (nk kd) i)) (w9, c9, b9)).2.2.2)), .long (wo9), .int (ch9), .int (tu9), .ref sq, .ref uq, .ref gq])) :: (wi, .inl (g 0, 4, .inl (fw))) :: (ck, .inl (g 0, 4, .inl (fc))) :: (fq, .inl (g 0, 4, .inl (ff))) :: (co, .inl (g 0, 228, .inl (fco))) :: (sq, .inl (g 0, 8, .inl (fsq))) :: (uq, .inl (g 2, 128, .inl (fu))) :: (gq, .inl (g 0, 7, .inl (fg))) :: wm) → va_S A s.heap H locs → W p l e (headSpec w_M_mendSums rm_M_mendSums).room s m [.ref mo, .int (nI y), .long (lN wv), .int (nI cv)].toArray below meth c H locs 0 0 Q (F0 m 85 ls [.int (nI z9)]) := by
          intro z9 ls H locs hz hl hP hD hS
          subst hz
          refine lv_istore (lv' := [(6, .int (nI (if a9 = 1 ∨ (mdS M (nk kd) i (y >>> frm M (nk kd) i % 2 ^ lr (wid M (nk kd) i)) (w9, c9, b9)).1 = 1 then 1 else 0))), (0, .ref mo), (1, .int (nI y)), (2, .long (lN wv)), (4, .int (nI cv)), (7, .int (nI i)), (5, .int (nI (if t9 = 1 ∨ (mdS M (nk kd) i (y >>> frm M (nk kd) i % 2 ^ lr (wid M (nk kd) i)) (w9, c9, b9)).1 = 2 then 1 else 0)))]) hx hb d_M_mendSums_85 hl (by decide) rfl (fun ls hl => ?_)
          refine lv_iinc (v := nI (i + 1)) (lv' := [(7, .int (nI (i + 1))), (6, .int (nI (if a9 = 1 ∨ (mdS M (nk kd) i (y >>> frm M (nk kd) i % 2 ^ lr (wid M (nk kd) i)) (w9, c9, b9)).1 = 1 then 1 else 0))), (0, .ref mo), (1, .int (nI y)), (2, .long (lN wv)), (4, .int (nI cv)), (5, .int (nI (if t9 = 1 ∨ (mdS M (nk kd) i (y >>> frm M (nk kd) i % 2 ^ lr (wid M (nk kd) i)) (w9, c9, b9)).1 = 2 then 1 else 0)))]) hx hb d_M_mendSums_87 hl (k := 5) rfl (nI_1 i) (by decide) rfl (fun ls hl => ?_)
          refine lv_goto (tgt := 9) hx hb d_M_mendSums_90 (by decide) ?_
          exact ihi (i + 1) _ _ _ _ _ _ _ _ (by omega) (by omega) (ite_01 _) (ite_01 _) hst (lv_sub hl [2, 3, 4, 5, 6, 1, 0] rfl) hP hD hS
        have j67 : ∀ (z9 : Nat) (ls : Array Slot) (H : Heap) (locs : List Loc), (z9 = if t9 = 1 ∨ (mdS M (nk kd) i (y >>> frm M (nk kd) i % 2 ^ lr (wid M (nk kd) i)) (w9, c9, b9)).1 = 2 then 1 else 0) → lv_has ls 10 [(0, .ref mo), (1, .int (nI y)), (2, .long (lN wv)), (4, .int (nI cv)), (7, .int (nI i)), (6, .int (nI a9)), (9, .int (nI (mdS M (nk kd) i (y >>> frm M (nk kd) i % 2 ^ lr (wid M (nk kd) i)) (w9, c9, b9)).1))] → va_P D vwCl ((mo, .inr (6, [.int (th), .int (nI M), .int (nI kd), .int (nI (ckb kd M)), .int (nI (nk kd)), .ref wi, .ref ck, .ref fq, .ref co, .int (nI (grsK kd M)), .int (nI ifo), .int (nI fl), .long (lN ((mdS M (nk kd) i (y >>> frm M (nk kd) i % 2 ^ lr (wid M (nk kd) i)) (w9, c9, b9)).2.1)), .int (nI ((mdS M (nk kd) i (y >>> frm M (nk kd) i % 2 ^ lr (wid M (nk kd) i)) (w9, c9, b9)).2.2.1)), .int (nI ((mdS M (nk kd) i (y >>> frm M (nk kd) i % 2 ^ lr (wid M (nk kd) i)) (w9, c9, b9)).2.2.2)), .long (wo9), .int (ch9), .int (tu9), .ref sq, .ref uq, .ref gq])) :: (wi, .inl (g 0, 4, .inl (fw))) :: (ck, .inl (g 0, 4, .inl (fc))) :: (fq, .inl (g 0, 4, .inl (ff))) :: (co, .inl (g 0, 228, .inl (fco))) :: (sq, .inl (g 0, 8, .inl (fsq))) :: (uq, .inl (g 2, 128, .inl (fu))) :: (gq, .inl (g 0, 7, .inl (fg))) :: wm) H → va_D A ((mo, .inr (6, [.int (th), .int (nI M), .int (nI kd), .int (nI (ckb kd M)), .int (nI (nk kd)), .ref wi, .ref ck, .ref fq, .ref co, .int (nI (grsK kd M)), .int (nI ifo), .int (nI fl), .long (lN ((mdS M (nk kd) i (y >>> frm M (nk kd) i % 2 ^ lr (wid M (nk kd) i)) (w9, c9, b9)).2.1)), .int (nI ((mdS M (nk kd) i (y >>> frm M (nk kd) i % 2 ^ lr (wid M (nk kd) i)) (w9, c9, b9)).2.2.1)), .int (nI ((mdS M (nk kd) i (y >>> frm M (nk kd) i % 2 ^ lr (wid M (nk kd) i)) (w9, c9, b9)).2.2.2)), .long (wo9), .int (ch9), .int (tu9), .ref sq, .ref uq, .ref gq])) :: (wi, .inl (g 0, 4, .inl (fw))) :: (ck, .inl (g 0, 4, .inl (fc))) :: (fq, .inl (g 0, 4, .inl (ff))) :: (co, .inl (g 0, 228, .inl (fco))) :: (sq, .inl (g 0, 8, .inl (fsq))) :: (uq, .inl (g 2, 128, .inl (fu))) :: (gq, .inl (g 0, 7, .inl (fg))) :: wm) → va_S A s.heap H locs → W p l e (headSpec w_M_mendSums rm_M_mendSums).room s m [.ref mo, .int (nI y), .long (lN wv), .int (nI cv)].toArray below meth c H locs 0 0 Q (F0 m 67 ls [.int (nI z9)]) := by
          intro z9 ls H locs hz hl hP hD hS
          subst hz
          refine lv_istore (lv' := [(5, .int (nI (if t9 = 1 ∨ (mdS M (nk kd) i (y >>> frm M (nk kd) i % 2 ^ lr (wid M (nk kd) i)) (w9, c9, b9)).1 = 2 then 1 else 0))), (0, .ref mo), (1, .int (nI y)), (2, .long (lN wv)), (4, .int (nI cv)), (7, .int (nI i)), (6, .int (nI a9)), (9, .int (nI (mdS M (nk kd) i (y >>> frm M (nk kd) i % 2 ^ lr (wid M (nk kd) i)) (w9, c9, b9)).1))]) hx hb d_M_mendSums_67 hl (by decide) rfl (fun ls hl => ?_)
          refine lv_iload hx hb d_M_mendSums_69 (lv_at hl 6 rfl) ?_
          refine lx_if_ne (tgt := 80) hx hb d_M_mendSums_71 (by decide) (by omega) (fun c71 => ?_) (fun c71 => ?_)
          · skip
            refine lv_iconst (v := nI 1) hx hb d_M_mendSums_80 (by decide) ?_
            refine lv_goto (tgt := 85) hx hb d_M_mendSums_81 (by decide) ?_
            exact j85 1 _ _ _ ((if_pos (Or.inl (by omega))).symm) (lv_sub hl [1, 2, 3, 4, 5, 0] rfl) hP hD hS
          · skip
            refine lv_iload hx hb d_M_mendSums_74 (lv_at hl 7 rfl) ?_
            refine lv_iconst (v := nI 1) hx hb d_M_mendSums_76 (by decide) ?_
            refine lx_icmp_ne (tgt := 84) hx hb d_M_mendSums_77 (by decide) (by omega) (by omega) (fun c77 => ?_) (fun c77 => ?_)
            · skip
              refine lv_iconst (v := nI 0) hx hb d_M_mendSums_84 (by decide) ?_
              exact j85 0 _ _ _ ((if_neg (by rintro (q | q); omega; exact c77 q)).symm) (lv_sub hl [1, 2, 3, 4, 5, 0] rfl) hP hD hS
            · skip
              refine lv_iconst (v := nI 1) hx hb d_M_mendSums_80 (by decide) ?_
              refine lv_goto (tgt := 85) hx hb d_M_mendSums_81 (by decide) ?_
              exact j85 1 _ _ _ ((if_pos (Or.inr c77)).symm) (lv_sub hl [1, 2, 3, 4, 5, 0] rfl) hP hD hS
        refine lv_istore (lv' := [(9, .int (nI (mdS M (nk kd) i (y >>> frm M (nk kd) i % 2 ^ lr (wid M (nk kd) i)) (w9, c9, b9)).1)), (8, .int (nI (y >>> frm M (nk kd) i % 2 ^ lr (wid M (nk kd) i)))), (0, .ref mo), (1, .int (nI y)), (2, .long (lN wv)), (4, .int (nI cv)), (5, .int (nI t9)), (6, .int (nI a9)), (7, .int (nI i))]) hx hb d_M_mendSums_49 hl (by decide) rfl (fun ls hl => ?_)
        refine lv_iload hx hb d_M_mendSums_51 (lv_at hl 6 rfl) ?_
        refine lx_if_ne (tgt := 62) hx hb d_M_mendSums_53 (by decide) (by omega) (fun c53 => ?_) (fun c53 => ?_)
        · skip
          refine lv_iconst (v := nI 1) hx hb d_M_mendSums_62 (by decide) ?_
          refine lv_goto (tgt := 67) hx hb d_M_mendSums_63 (by decide) ?_
          exact j67 1 _ _ _ ((if_pos (Or.inl (by omega))).symm) (lv_sub hl [2, 3, 4, 5, 8, 7, 0] rfl) hP hD hS
        · skip
          refine lv_iload hx hb d_M_mendSums_56 (lv_at hl 0 rfl) ?_
          refine lv_iconst (v := nI 2) hx hb d_M_mendSums_58 (by decide) ?_
          refine lx_icmp_ne (tgt := 66) hx hb d_M_mendSums_59 (by decide) (by omega) (by omega) (fun c59 => ?_) (fun c59 => ?_)
          · skip
            refine lv_iconst (v := nI 0) hx hb d_M_mendSums_66 (by decide) ?_
            exact j67 0 _ _ _ ((if_neg (by rintro (q | q); omega; exact c59 q)).symm) (lv_sub hl [2, 3, 4, 5, 8, 7, 0] rfl) hP hD hS
          · skip
            refine lv_iconst (v := nI 1) hx hb d_M_mendSums_62 (by decide) ?_
            refine lv_goto (tgt := 67) hx hb d_M_mendSums_63 (by decide) ?_
            exact j67 1 _ _ _ ((if_pos (Or.inr c59)).symm) (lv_sub hl [2, 3, 4, 5, 8, 7, 0] rfl) hP hD hS
  refine lv_iconst (v := nI 0) hx hb d_M_mendSums_0 (by decide) ?_
  refine lv_istore (lv' := [(5, .int (nI 0)), (0, .ref mo), (1, .int (nI y)), (2, .long (lN wv)), (4, .int (nI cv))]) hx hb d_M_mendSums_1 hl (by decide) rfl (fun ls hl => ?_)
  refine lv_iconst (v := nI 0) hx hb d_M_mendSums_3 (by decide) ?_
  refine lv_istore (lv' := [(6, .int (nI 0)), (5, .int (nI 0)), (0, .ref mo), (1, .int (nI y)), (2, .long (lN wv)), (4, .int (nI cv))]) hx hb d_M_mendSums_4 hl (by decide) rfl (fun ls hl => ?_)
  refine lv_iconst (v := nI 0) hx hb d_M_mendSums_6 (by decide) ?_
  refine lv_istore (lv' := [(7, .int (nI 0)), (6, .int (nI 0)), (5, .int (nI 0)), (0, .ref mo), (1, .int (nI y)), (2, .long (lN wv)), (4, .int (nI cv))]) hx hb d_M_mendSums_7 hl (by decide) rfl (fun ls hl => ?_)
  exact lp9 (nk kd + 1) 0 0 0 wv cv 0 _ _ _ (by omega) (by omega) (by decide) (by decide) (⟨rfl, rfl, (Nat.xor_zero wv).symm, (Nat.xor_zero cv).symm, by decide⟩) (lv_sub hl [3, 4, 5, 6, 2, 1, 0] rfl) hP hD hS
set_option maxHeartbeats 4000000 in
set_option maxRecDepth 100000 in
theorem c_M_mendNibbles (l : Launch) (D : va_G) (g : Nat → ClassId) (sz : Nat) (wm : va_W) (mo wi ck fq co sq uq gq kd M ifo fl : Nat) (wv cv bv : Nat) (th ch9 tu9 : Int32) (wo9 : Int64) (fw fc ff fco fsq fu fg : Nat → Int32) (hM0 : 0 < M) (hM : M ≤ 57) (y : Nat) (hy : y < 4096) : Met l y_M_mendNibbles w_M_mendNibbles rm_M_mendNibbles (va_Pc [.ref mo, .int (nI y)] (pP D (tyl g) ((mo, .inr (6, [.int (th), .int (nI M), .int (nI kd), .int (nI (ckb kd M)), .int (nI (nk kd)), .ref wi, .ref ck, .ref fq, .ref co, .int (nI (grsK kd M)), .int (nI ifo), .int (nI fl), .long (lN wv), .int (nI cv), .int (nI 0), .long (wo9), .int (ch9), .int (tu9), .ref sq, .ref uq, .ref gq])) :: (wi, .inl (g 0, 4, .inl (fw))) :: (ck, .inl (g 0, 4, .inl (fc))) :: (fq, .inl (g 0, 4, .inl (ff))) :: (co, .inl (g 0, 228, .inl (fco))) :: (sq, .inl (g 0, 8, .inl (fsq))) :: (uq, .inl (g 2, 128, .inl (fu))) :: (gq, .inl (g 0, 7, .inl (fg))) :: wm) sz)) (va_Qi (fun (r : Int32) (u : Unit) => r = nI (jdN M y).1) (fun u => qB D (va_A ((mo, .inr (6, [.int (th), .int (nI M), .int (nI kd), .int (nI (ckb kd M)), .int (nI (nk kd)), .ref wi, .ref ck, .ref fq, .ref co, .int (nI (grsK kd M)), .int (nI ifo), .int (nI fl), .long (lN wv), .int (nI cv), .int (nI 0), .long (wo9), .int (ch9), .int (tu9), .ref sq, .ref uq, .ref gq])) :: (wi, .inl (g 0, 4, .inl (fw))) :: (ck, .inl (g 0, 4, .inl (fc))) :: (fq, .inl (g 0, 4, .inl (ff))) :: (co, .inl (g 0, 228, .inl (fco))) :: (sq, .inl (g 0, 8, .inl (fsq))) :: (uq, .inl (g 2, 128, .inl (fu))) :: (gq, .inl (g 0, 7, .inl (fg))) :: wm) sz) ((mo, .inr (6, [.int (th), .int (nI M), .int (nI kd), .int (nI (ckb kd M)), .int (nI (nk kd)), .ref wi, .ref ck, .ref fq, .ref co, .int (nI (grsK kd M)), .int (nI ifo), .int (nI fl), .long (lN (wv ^^^ (jdN M y).2.1)), .int (nI (cv ^^^ (jdN M y).2.2)), .int (nI (pcn 64 (jdN M y).2.1 + pcn 32 (jdN M y).2.2)), .long (wo9), .int (ch9), .int (tu9), .ref sq, .ref uq, .ref gq])) :: (wi, .inl (g 0, 4, .inl (fw))) :: (ck, .inl (g 0, 4, .inl (fc))) :: (fq, .inl (g 0, 4, .inl (ff))) :: (co, .inl (g 0, 228, .inl (fco))) :: (sq, .inl (g 0, 8, .inl (fsq))) :: (uq, .inl (g 2, 128, .inl (fu))) :: (gq, .inl (g 0, 7, .inl (fg))) :: wm)) (va_A ((mo, .inr (6, [.int (th), .int (nI M), .int (nI kd), .int (nI (ckb kd M)), .int (nI (nk kd)), .ref wi, .ref ck, .ref fq, .ref co, .int (nI (grsK kd M)), .int (nI ifo), .int (nI fl), .long (lN wv), .int (nI cv), .int (nI 0), .long (wo9), .int (ch9), .int (tu9), .ref sq, .ref uq, .ref gq])) :: (wi, .inl (g 0, 4, .inl (fw))) :: (ck, .inl (g 0, 4, .inl (fc))) :: (fq, .inl (g 0, 4, .inl (ff))) :: (co, .inl (g 0, 228, .inl (fco))) :: (sq, .inl (g 0, 8, .inl (fsq))) :: (uq, .inl (g 2, 128, .inl (fu))) :: (gq, .inl (g 0, 7, .inl (fg))) :: wm) sz)) 0 0 (va_A ((mo, .inr (6, [.int (th), .int (nI M), .int (nI kd), .int (nI (ckb kd M)), .int (nI (nk kd)), .ref wi, .ref ck, .ref fq, .ref co, .int (nI (grsK kd M)), .int (nI ifo), .int (nI fl), .long (lN wv), .int (nI cv), .int (nI 0), .long (wo9), .int (ch9), .int (tu9), .ref sq, .ref uq, .ref gq])) :: (wi, .inl (g 0, 4, .inl (fw))) :: (ck, .inl (g 0, 4, .inl (fc))) :: (fq, .inl (g 0, 4, .inl (ff))) :: (co, .inl (g 0, 228, .inl (fco))) :: (sq, .inl (g 0, 8, .inl (fsq))) :: (uq, .inl (g 2, 128, .inl (fu))) :: (gq, .inl (g 0, 7, .inl (fg))) :: wm) sz) := by
  refine Met.ofW (cc := b_M_mendNibbles) (maxL := 9) (ret := (some .int)) (by decide +kernel) rfl ?_
  intro p e s m args below meth c s₁ Bq hml hv
  have hx := Bq.exec
  have hb := Bq.bytes
  have hr := Bq.returns
  have hts : ∀ w ∈ wA, w.before args s = true := fun w h => atoms_spec (ws := w_M_mendNibbles) Bq.pre w (List.mem_cons_of_mem _ h)
  have hown : s.vm.findClass R_M = some m.cls := findClass_of_methodNamed Bq.named
  have hlocks := Bq.notSynchronized
  obtain ⟨rfl, hsz, hP, hKK, hD0⟩ := hv
  have hK := hKK.1
  subst hsz
  have hD := hD0.self (sz := s.heap.size)
  generalize hAe : va_A ((mo, .inr (6, [.int (th), .int (nI M), .int (nI kd), .int (nI (ckb kd M)), .int (nI (nk kd)), .ref wi, .ref ck, .ref fq, .ref co, .int (nI (grsK kd M)), .int (nI ifo), .int (nI fl), .long (lN wv), .int (nI cv), .int (nI 0), .long (wo9), .int (ch9), .int (tu9), .ref sq, .ref uq, .ref gq])) :: (wi, .inl (g 0, 4, .inl (fw))) :: (ck, .inl (g 0, 4, .inl (fc))) :: (fq, .inl (g 0, 4, .inl (ff))) :: (co, .inl (g 0, 228, .inl (fco))) :: (sq, .inl (g 0, 8, .inl (fsq))) :: (uq, .inl (g 2, 128, .inl (fu))) :: (gq, .inl (g 0, 7, .inl (fg))) :: wm) s.heap.size = A at hD ⊢
  have hA : ∀ q : Nat, s.heap.size ≤ q → A q := fun q h => by rw [← hAe]; exact Or.inr h
  have hS : va_S A s.heap s.heap [] := va_S.rf
  have hl := lv_entry ([.ref mo, .int (nI y)]) (n := 9) (Nat.le_of_ble_eq_true rfl)
  rw [lg_entry_eq]
  generalize (lg_sl ([.ref mo, .int (nI y)]) ++ List.replicate (9 - (lg_sl ([.ref mo, .int (nI y)])).length) Slot.unset).toArray = ls at hl ⊢
  have hl : lv_has ls 9 [(0, .ref mo), (1, .int (nI y))] := hl
  generalize hQ : MQ below (va_Qi (fun (r : Int32) (u : Unit) => r = nI (jdN M y).1) (fun u => qB D (A) ((mo, .inr (6, [.int (th), .int (nI M), .int (nI kd), .int (nI (ckb kd M)), .int (nI (nk kd)), .ref wi, .ref ck, .ref fq, .ref co, .int (nI (grsK kd M)), .int (nI ifo), .int (nI fl), .long (lN (wv ^^^ (jdN M y).2.1)), .int (nI (cv ^^^ (jdN M y).2.2)), .int (nI (pcn 64 (jdN M y).2.1 + pcn 32 (jdN M y).2.2)), .long (wo9), .int (ch9), .int (tu9), .ref sq, .ref uq, .ref gq])) :: (wi, .inl (g 0, 4, .inl (fw))) :: (ck, .inl (g 0, 4, .inl (fc))) :: (fq, .inl (g 0, 4, .inl (ff))) :: (co, .inl (g 0, 228, .inl (fco))) :: (sq, .inl (g 0, 8, .inl (fsq))) :: (uq, .inl (g 2, 128, .inl (fu))) :: (gq, .inl (g 0, 7, .inl (fg))) :: wm)) (A)) [.ref mo, .int (nI y)].toArray s 0 0 A = Q
  have hs : y % 16 < 16 := Nat.mod_lt _ (by decide)
  have ht : y >>> 4 % 16 < 16 := Nat.mod_lt _ (by decide)
  have hu : y >>> 8 < 16 := by rw [Nat.shiftRight_eq_div_pow]; omega
  have hz3 := zc_le y
  have j48 : ∀ (z9 : Nat) (ls : Array Slot) (H : Heap) (locs : List Loc), (z9 = zc y) → lv_has ls 9 [(0, .ref mo), (1, .int (nI y)), (2, .int (nI (y % 16))), (3, .int (nI (y >>> 4 % 16))), (4, .int (nI (y >>> 8)))] → va_P D vwCl ((mo, .inr (6, [.int (th), .int (nI M), .int (nI kd), .int (nI (ckb kd M)), .int (nI (nk kd)), .ref wi, .ref ck, .ref fq, .ref co, .int (nI (grsK kd M)), .int (nI ifo), .int (nI fl), .long (lN wv), .int (nI cv), .int (nI 0), .long (wo9), .int (ch9), .int (tu9), .ref sq, .ref uq, .ref gq])) :: (wi, .inl (g 0, 4, .inl (fw))) :: (ck, .inl (g 0, 4, .inl (fc))) :: (fq, .inl (g 0, 4, .inl (ff))) :: (co, .inl (g 0, 228, .inl (fco))) :: (sq, .inl (g 0, 8, .inl (fsq))) :: (uq, .inl (g 2, 128, .inl (fu))) :: (gq, .inl (g 0, 7, .inl (fg))) :: wm) H → va_D A ((mo, .inr (6, [.int (th), .int (nI M), .int (nI kd), .int (nI (ckb kd M)), .int (nI (nk kd)), .ref wi, .ref ck, .ref fq, .ref co, .int (nI (grsK kd M)), .int (nI ifo), .int (nI fl), .long (lN wv), .int (nI cv), .int (nI 0), .long (wo9), .int (ch9), .int (tu9), .ref sq, .ref uq, .ref gq])) :: (wi, .inl (g 0, 4, .inl (fw))) :: (ck, .inl (g 0, 4, .inl (fc))) :: (fq, .inl (g 0, 4, .inl (ff))) :: (co, .inl (g 0, 228, .inl (fco))) :: (sq, .inl (g 0, 8, .inl (fsq))) :: (uq, .inl (g 2, 128, .inl (fu))) :: (gq, .inl (g 0, 7, .inl (fg))) :: wm) → va_S A s.heap H locs → W p l e (headSpec w_M_mendNibbles rm_M_mendNibbles).room s m [.ref mo, .int (nI y)].toArray below meth c H locs 0 0 Q (F0 m 48 ls [.int (nI z9)]) := by
    intro z9 ls H locs hz hl hP hD hS
    subst hz
    refine lv_istore (lv' := [(5, .int (nI (zc y))), (0, .ref mo), (1, .int (nI y)), (2, .int (nI (y % 16))), (3, .int (nI (y >>> 4 % 16))), (4, .int (nI (y >>> 8)))]) hx hb d_M_mendNibbles_48 hl (by decide) rfl (fun ls hl => ?_)
    refine lv_iload hx hb d_M_mendNibbles_50 (lv_at hl 0 rfl) ?_
    refine lv_iconst (v := nI 2) hx hb d_M_mendNibbles_52 (by decide) ?_
    refine lx_icmp_ne (tgt := 77) hx hb d_M_mendNibbles_53 (by decide) (by omega) (by omega) (fun c53 => ?_) (fun c53 => ?_)
    · skip
      refine lv_iload hx hb d_M_mendNibbles_77 (lv_at hl 0 rfl) ?_
      refine lx_if_gt (tgt := 96) hx hb d_M_mendNibbles_79 (by decide) (by omega) (fun c79 => ?_) (fun c79 => ?_)
      · skip
        refine lv_iload hx hb d_M_mendNibbles_96 (lv_at hl 0 rfl) ?_
        refine lv_iconst (v := nI 3) hx hb d_M_mendNibbles_98 (by decide) ?_
        refine lx_icmp_ne (tgt := 106) hx hb d_M_mendNibbles_99 (by decide) (by omega) (by omega) (fun c99 => ?_) (fun c99 => ?_)
        · skip
          have ej : jdN M y = (2, 0, 0) := jdN_1 hy (by omega)
          refine lv_iconst (v := nI 2) hx hb d_M_mendNibbles_106 (by decide) ?_
          have hP : va_P D vwCl ((mo, .inr (6, [.int (th), .int (nI M), .int (nI kd), .int (nI (ckb kd M)), .int (nI (nk kd)), .ref wi, .ref ck, .ref fq, .ref co, .int (nI (grsK kd M)), .int (nI ifo), .int (nI fl), .long (lN (wv ^^^ (jdN M y).2.1)), .int (nI (cv ^^^ (jdN M y).2.2)), .int (nI (pcn 64 (jdN M y).2.1 + pcn 32 (jdN M y).2.2)), .long (wo9), .int (ch9), .int (tu9), .ref sq, .ref uq, .ref gq])) :: (wi, .inl (g 0, 4, .inl (fw))) :: (ck, .inl (g 0, 4, .inl (fc))) :: (fq, .inl (g 0, 4, .inl (ff))) :: (co, .inl (g 0, 228, .inl (fco))) :: (sq, .inl (g 0, 8, .inl (fsq))) :: (uq, .inl (g 2, 128, .inl (fu))) :: (gq, .inl (g 0, 7, .inl (fg))) :: wm) H := by rw [ej, show wv ^^^ ((2, 0, 0) : Nat × Nat × Nat).2.1 = wv from Nat.xor_zero wv, show cv ^^^ ((2, 0, 0) : Nat × Nat × Nat).2.2 = cv from Nat.xor_zero cv, show pcn 64 ((2, 0, 0) : Nat × Nat × Nat).2.1 + pcn 32 ((2, 0, 0) : Nat × Nat × Nat).2.2 = 0 from by decide]; exact hP
          have hD : va_D A ((mo, .inr (6, [.int (th), .int (nI M), .int (nI kd), .int (nI (ckb kd M)), .int (nI (nk kd)), .ref wi, .ref ck, .ref fq, .ref co, .int (nI (grsK kd M)), .int (nI ifo), .int (nI fl), .long (lN (wv ^^^ (jdN M y).2.1)), .int (nI (cv ^^^ (jdN M y).2.2)), .int (nI (pcn 64 (jdN M y).2.1 + pcn 32 (jdN M y).2.2)), .long (wo9), .int (ch9), .int (tu9), .ref sq, .ref uq, .ref gq])) :: (wi, .inl (g 0, 4, .inl (fw))) :: (ck, .inl (g 0, 4, .inl (fc))) :: (fq, .inl (g 0, 4, .inl (ff))) :: (co, .inl (g 0, 228, .inl (fco))) :: (sq, .inl (g 0, 8, .inl (fsq))) :: (uq, .inl (g 2, 128, .inl (fu))) :: (gq, .inl (g 0, 7, .inl (fg))) :: wm) := hD.set (p := 0) rfl
          rw [← hQ]
          refine W.iret (v := nI 2) hx hb hr ?_ hS.2.2 d_M_mendNibbles_107
          exact fun t ht hW => ⟨⟨nI 2, (), rfl, by rw [ej], by rw [ht]; exact hP, hD⟩, hS.F ht⟩
        · skip
          have ej : jdN M y = (0, 0, 0) := jdN_3 hy c99
          refine lv_iconst (v := nI 0) hx hb d_M_mendNibbles_102 (by decide) ?_
          refine lv_goto (tgt := 107) hx hb d_M_mendNibbles_103 (by decide) ?_
          have hP : va_P D vwCl ((mo, .inr (6, [.int (th), .int (nI M), .int (nI kd), .int (nI (ckb kd M)), .int (nI (nk kd)), .ref wi, .ref ck, .ref fq, .ref co, .int (nI (grsK kd M)), .int (nI ifo), .int (nI fl), .long (lN (wv ^^^ (jdN M y).2.1)), .int (nI (cv ^^^ (jdN M y).2.2)), .int (nI (pcn 64 (jdN M y).2.1 + pcn 32 (jdN M y).2.2)), .long (wo9), .int (ch9), .int (tu9), .ref sq, .ref uq, .ref gq])) :: (wi, .inl (g 0, 4, .inl (fw))) :: (ck, .inl (g 0, 4, .inl (fc))) :: (fq, .inl (g 0, 4, .inl (ff))) :: (co, .inl (g 0, 228, .inl (fco))) :: (sq, .inl (g 0, 8, .inl (fsq))) :: (uq, .inl (g 2, 128, .inl (fu))) :: (gq, .inl (g 0, 7, .inl (fg))) :: wm) H := by rw [ej, show wv ^^^ ((0, 0, 0) : Nat × Nat × Nat).2.1 = wv from Nat.xor_zero wv, show cv ^^^ ((0, 0, 0) : Nat × Nat × Nat).2.2 = cv from Nat.xor_zero cv, show pcn 64 ((0, 0, 0) : Nat × Nat × Nat).2.1 + pcn 32 ((0, 0, 0) : Nat × Nat × Nat).2.2 = 0 from by decide]; exact hP
          have hD : va_D A ((mo, .inr (6, [.int (th), .int (nI M), .int (nI kd), .int (nI (ckb kd M)), .int (nI (nk kd)), .ref wi, .ref ck, .ref fq, .ref co, .int (nI (grsK kd M)), .int (nI ifo), .int (nI fl), .long (lN (wv ^^^ (jdN M y).2.1)), .int (nI (cv ^^^ (jdN M y).2.2)), .int (nI (pcn 64 (jdN M y).2.1 + pcn 32 (jdN M y).2.2)), .long (wo9), .int (ch9), .int (tu9), .ref sq, .ref uq, .ref gq])) :: (wi, .inl (g 0, 4, .inl (fw))) :: (ck, .inl (g 0, 4, .inl (fc))) :: (fq, .inl (g 0, 4, .inl (ff))) :: (co, .inl (g 0, 228, .inl (fco))) :: (sq, .inl (g 0, 8, .inl (fsq))) :: (uq, .inl (g 2, 128, .inl (fu))) :: (gq, .inl (g 0, 7, .inl (fg))) :: wm) := hD.set (p := 0) rfl
          rw [← hQ]
          refine W.iret (v := nI 0) hx hb hr ?_ hS.2.2 d_M_mendNibbles_107
          exact fun t ht hW => ⟨⟨nI 0, (), rfl, by rw [ej], by rw [ht]; exact hP, hD⟩, hS.F ht⟩
      · skip
        have hs0 : y % 16 ≠ 0 := fun q => by unfold zc at c79; rw [if_pos q] at c79; omega
        refine lv_iload_n hx hb d_M_mendNibbles_82 rfl (lv_at hl 4 rfl) ?_
        refine lv_iload_n hx hb d_M_mendNibbles_83 rfl (lv_at hl 4 rfl) ?_
        refine lc_Si (As := [.int (nI (y >>> 4 % 16)), .int (nI (y >>> 4 % 16))]) (rest := []) ⟨hx, hb, hml, hown, hts⟩ (c_M_times l D g _ _ (y >>> 4 % 16) (y >>> 4 % 16) ht ht) (kS 2 hts m_726 m_724 m_725 m_40 (by decide +kernel) ⟨Nat.le_of_ble_eq_true rfl, Nat.le_of_ble_eq_true rfl⟩) hKK hP hD hS hA hl.1 rfl rfl (Nat.le_of_ble_eq_true rfl) d_M_mendNibbles_84 ⟨Nat.le_of_ble_eq_true rfl, Nat.le_of_ble_eq_true rfl⟩ (fun r5 u5 H locs e5 hP hD hS => ?_)
        obtain rfl : r5 = nI (tms (y >>> 4 % 16) (y >>> 4 % 16)) := e5
        refine lv_iload_n hx hb d_M_mendNibbles_87 rfl (lv_at hl 3 rfl) ?_
        refine lv_iload hx hb d_M_mendNibbles_88 (lv_at hl 5 rfl) ?_
        refine lc_Si (As := [.int (nI (y % 16)), .int (nI (y >>> 8))]) (rest := [.int (nI (tms (y >>> 4 % 16) (y >>> 4 % 16)))]) ⟨hx, hb, hml, hown, hts⟩ (c_M_times l D g _ _ (y % 16) (y >>> 8) hs hu) (kS 2 hts m_726 m_724 m_725 m_40 (by decide +kernel) ⟨Nat.le_of_ble_eq_true rfl, Nat.le_of_ble_eq_true rfl⟩) hKK hP hD hS hA hl.1 rfl rfl (Nat.le_of_ble_eq_true rfl) d_M_mendNibbles_90 ⟨Nat.le_of_ble_eq_true rfl, Nat.le_of_ble_eq_true rfl⟩ (fun r6 u6 H locs e6 hP hD hS => ?_)
        obtain rfl : r6 = nI (tms (y % 16) (y >>> 8)) := e6
        have hm1 := tms_lt _ ht _ ht
        have hm2 := tms_lt _ hs _ hu
        refine lx_icmp_eq (tgt := 108) hx hb d_M_mendNibbles_93 (by decide) (by omega) (by omega) (fun c93 => ?_) (fun c93 => ?_)
        · skip
          have hsq := c93
          have lp111 : ∀ (n : Nat) (j : Nat) (ls : Array Slot) (H : Heap) (locs : List Loc), ((M + 3) / 4 + 1 ≤ j + n) → (j ≤ (M + 3) / 4) → ((wfN M (y % 16) (y >>> 4 % 16) (y >>> 8) = wfL M (y % 16) (y >>> 4 % 16) (y >>> 8) (16 - j) j) ∨ (wfN M (y % 16) (y >>> 4 % 16) (y >>> 8) = 0 ∧ ∀ k, j ≤ k → k < 15 → rz (y % 16) k ≠ y >>> 4 % 16)) → lv_has ls 9 [(0, .ref mo), (1, .int (nI y)), (2, .int (nI (y % 16))), (3, .int (nI (y >>> 4 % 16))), (4, .int (nI (y >>> 8))), (6, .int (nI j))] → va_P D vwCl ((mo, .inr (6, [.int (th), .int (nI M), .int (nI kd), .int (nI (ckb kd M)), .int (nI (nk kd)), .ref wi, .ref ck, .ref fq, .ref co, .int (nI (grsK kd M)), .int (nI ifo), .int (nI fl), .long (lN wv), .int (nI cv), .int (nI 0), .long (wo9), .int (ch9), .int (tu9), .ref sq, .ref uq, .ref gq])) :: (wi, .inl (g 0, 4, .inl (fw))) :: (ck, .inl (g 0, 4, .inl (fc))) :: (fq, .inl (g 0, 4, .inl (ff))) :: (co, .inl (g 0, 228, .inl (fco))) :: (sq, .inl (g 0, 8, .inl (fsq))) :: (uq, .inl (g 2, 128, .inl (fu))) :: (gq, .inl (g 0, 7, .inl (fg))) :: wm) H → va_D A ((mo, .inr (6, [.int (th), .int (nI M), .int (nI kd), .int (nI (ckb kd M)), .int (nI (nk kd)), .ref wi, .ref ck, .ref fq, .ref co, .int (nI (grsK kd M)), .int (nI ifo), .int (nI fl), .long (lN wv), .int (nI cv), .int (nI 0), .long (wo9), .int (ch9), .int (tu9), .ref sq, .ref uq, .ref gq])) :: (wi, .inl (g 0, 4, .inl (fw))) :: (ck, .inl (g 0, 4, .inl (fc))) :: (fq, .inl (g 0, 4, .inl (ff))) :: (co, .inl (g 0, 228, .inl (fco))) :: (sq, .inl (g 0, 8, .inl (fsq))) :: (uq, .inl (g 2, 128, .inl (fu))) :: (gq, .inl (g 0, 7, .inl (fg))) :: wm) → va_S A s.heap H locs → W p l e (headSpec w_M_mendNibbles rm_M_mendNibbles).room s m [.ref mo, .int (nI y)].toArray below meth c H locs 0 0 Q (F0 m 111 ls []) := by
            intro n
            induction n with
            | zero => intro j ls H locs hfu hj hinv _ _ _ _; exact absurd hfu (by omega)
            | succ n ih =>
              intro j ls H locs hfu hj hinv hl hP hD hS
              refine lv_iload hx hb d_M_mendNibbles_111 (lv_at hl 5 rfl) ?_
              refine lv_aload_n hx hb d_M_mendNibbles_113 rfl (lv_at hl 0 rfl) ?_
              refine lc_Vi (b := mo) (As := []) (rest := [.int (nI j)]) ⟨hx, hb, hml, hown, hts⟩ (c_M_nibbles l D g _ wm mo wi ck fq co sq uq gq kd M ifo fl th (nI cv) (nI 0) ch9 tu9 (lN wv) wo9 fw fc ff fco fsq fu fg hM0 hM) (kV 0 hts m_719 m_716 m_718 m_20 m_40 (by decide +kernel) ⟨Nat.le_of_ble_eq_true rfl, Nat.le_of_ble_eq_true rfl⟩) (va_recv hK hP (ci := 6) (q0 := 0) rfl rfl) hKK hP hD hS hA hl.1 rfl rfl (Nat.le_of_ble_eq_true rfl) d_M_mendNibbles_114 ⟨Nat.le_of_ble_eq_true rfl, Nat.le_of_ble_eq_true rfl⟩ (fun r0 u0 H locs e0 hP hD hS => ?_)
              obtain rfl : r0 = nI ((M + 3) / 4) := e0
              refine lx_icmp_ge (tgt := 186) hx hb d_M_mendNibbles_117 (by decide) (by omega) (by omega) (fun c117 => ?_) (fun c117 => ?_)
              · skip
                have ej : jdN M y = (2, 0, 0) := by rw [jdN_w hy (by omega), if_pos (by rcases hinv with q | q; rw [q, show 16 - j = 15 - j + 1 by omega]; exact wfL_end (by omega); exact q.1)]
                refine lv_iconst (v := nI 2) hx hb d_M_mendNibbles_186 (by decide) ?_
                have hP : va_P D vwCl ((mo, .inr (6, [.int (th), .int (nI M), .int (nI kd), .int (nI (ckb kd M)), .int (nI (nk kd)), .ref wi, .ref ck, .ref fq, .ref co, .int (nI (grsK kd M)), .int (nI ifo), .int (nI fl), .long (lN (wv ^^^ (jdN M y).2.1)), .int (nI (cv ^^^ (jdN M y).2.2)), .int (nI (pcn 64 (jdN M y).2.1 + pcn 32 (jdN M y).2.2)), .long (wo9), .int (ch9), .int (tu9), .ref sq, .ref uq, .ref gq])) :: (wi, .inl (g 0, 4, .inl (fw))) :: (ck, .inl (g 0, 4, .inl (fc))) :: (fq, .inl (g 0, 4, .inl (ff))) :: (co, .inl (g 0, 228, .inl (fco))) :: (sq, .inl (g 0, 8, .inl (fsq))) :: (uq, .inl (g 2, 128, .inl (fu))) :: (gq, .inl (g 0, 7, .inl (fg))) :: wm) H := by rw [ej, show wv ^^^ ((2, 0, 0) : Nat × Nat × Nat).2.1 = wv from Nat.xor_zero wv, show cv ^^^ ((2, 0, 0) : Nat × Nat × Nat).2.2 = cv from Nat.xor_zero cv, show pcn 64 ((2, 0, 0) : Nat × Nat × Nat).2.1 + pcn 32 ((2, 0, 0) : Nat × Nat × Nat).2.2 = 0 from by decide]; exact hP
                have hD : va_D A ((mo, .inr (6, [.int (th), .int (nI M), .int (nI kd), .int (nI (ckb kd M)), .int (nI (nk kd)), .ref wi, .ref ck, .ref fq, .ref co, .int (nI (grsK kd M)), .int (nI ifo), .int (nI fl), .long (lN (wv ^^^ (jdN M y).2.1)), .int (nI (cv ^^^ (jdN M y).2.2)), .int (nI (pcn 64 (jdN M y).2.1 + pcn 32 (jdN M y).2.2)), .long (wo9), .int (ch9), .int (tu9), .ref sq, .ref uq, .ref gq])) :: (wi, .inl (g 0, 4, .inl (fw))) :: (ck, .inl (g 0, 4, .inl (fc))) :: (fq, .inl (g 0, 4, .inl (ff))) :: (co, .inl (g 0, 228, .inl (fco))) :: (sq, .inl (g 0, 8, .inl (fsq))) :: (uq, .inl (g 2, 128, .inl (fu))) :: (gq, .inl (g 0, 7, .inl (fg))) :: wm) := hD.set (p := 0) rfl
                rw [← hQ]
                refine W.iret (v := nI 2) hx hb hr ?_ hS.2.2 d_M_mendNibbles_187
                exact fun t ht hW => ⟨⟨nI 2, (), rfl, by rw [ej], by rw [ht]; exact hP, hD⟩, hS.F ht⟩
              · skip
                have hsh := sh_lt (k := 4 * j) hs (by omega)
                have hrj := rz_lt hs j
                have hs62 : (y % 16) <<< (4 * j) < 2 ^ 62 := pow_mono (shl_lt (a := 4) (b := 4 * j) hs) (by omega)
                refine lv_iload_n hx hb d_M_mendNibbles_120 rfl (lv_at hl 2 rfl) ?_
                refine lv_i2l (v := lN (y % 16)) hx hb d_M_mendNibbles_121 (nI_l (by omega)) ?_
                refine lv_iconst (v := nI 4) hx hb d_M_mendNibbles_122 (by decide) ?_
                refine lv_iload hx hb d_M_mendNibbles_123 (lv_at hl 5 rfl) ?_
                refine lx_imul (z := nI (4 * j)) hx hb d_M_mendNibbles_125 (pk_mul _ _) ?_
                refine lv_lshl (v := lN ((y % 16) <<< (4 * j))) hx hb d_M_mendNibbles_126 (xl_shl _ (by omega)) ?_
                refine lv_lstore (lv' := [(7, .long (lN ((y % 16) <<< (4 * j)))), (0, .ref mo), (1, .int (nI y)), (2, .int (nI (y % 16))), (3, .int (nI (y >>> 4 % 16))), (4, .int (nI (y >>> 8))), (6, .int (nI j))]) hx hb d_M_mendNibbles_127 hl (by decide) rfl (fun ls hl => ?_)
                refine lv_iload_n hx hb d_M_mendNibbles_129 rfl (lv_at hl 4 rfl) ?_
                refine lv_iload_n hx hb d_M_mendNibbles_130 rfl (lv_at hl 3 rfl) ?_
                refine lv_iload hx hb d_M_mendNibbles_131 (lv_at hl 6 rfl) ?_
                refine lc_Si (As := [.int (nI j)]) (rest := [.int (nI (y % 16)), .int (nI (y >>> 4 % 16))]) ⟨hx, hb, hml, hown, hts⟩ (c_M_power l D g _ _ j (by omega)) (kS 1 hts m_723 m_721 m_722 m_40 (by decide +kernel) ⟨Nat.le_of_ble_eq_true rfl, Nat.le_of_ble_eq_true rfl⟩) hKK hP hD hS hA hl.1 rfl rfl (Nat.le_of_ble_eq_true rfl) d_M_mendNibbles_133 ⟨Nat.le_of_ble_eq_true rfl, Nat.le_of_ble_eq_true rfl⟩ (fun r1 u1 H locs e1 hP hD hS => ?_)
                obtain rfl : r1 = nI (rz 1 j) := e1
                refine lc_Si (As := [.int (nI (y % 16)), .int (nI (rz 1 j))]) (rest := [.int (nI (y >>> 4 % 16))]) ⟨hx, hb, hml, hown, hts⟩ (c_M_times l D g _ _ (y % 16) (rz 1 j) hs (rz_lt (by decide) j)) (kS 2 hts m_726 m_724 m_725 m_40 (by decide +kernel) ⟨Nat.le_of_ble_eq_true rfl, Nat.le_of_ble_eq_true rfl⟩) hKK hP hD hS hA hl.1 rfl rfl (Nat.le_of_ble_eq_true rfl) d_M_mendNibbles_136 ⟨Nat.le_of_ble_eq_true rfl, Nat.le_of_ble_eq_true rfl⟩ (fun r2 u2 H locs e2 hP hD hS => ?_)
                obtain rfl : r2 = nI (rz (y % 16) j) := e2.trans (by rw [tms_rz _ hs j (by omega)])
                refine lx_icmp_ne (tgt := 180) hx hb d_M_mendNibbles_139 (by decide) (by omega) (by omega) (fun c139 => ?_) (fun c139 => ?_)
                · skip
                  refine lv_iinc (v := nI (j + 1)) (lv' := [(6, .int (nI (j + 1))), (7, .long (lN ((y % 16) <<< (4 * j)))), (0, .ref mo), (1, .int (nI y)), (2, .int (nI (y % 16))), (3, .int (nI (y >>> 4 % 16))), (4, .int (nI (y >>> 8)))]) hx hb d_M_mendNibbles_180 hl (k := 6) rfl (nI_1 j) (by decide) rfl (fun ls hl => ?_)
                  refine lv_goto (tgt := 111) hx hb d_M_mendNibbles_183 (by decide) ?_
                  exact ih (j + 1) _ _ _ (by omega) (by omega) (by rcases hinv with q | q; exact Or.inl (by rw [q, show 16 - j = 16 - (j + 1) + 1 by omega, wfL_next (by omega) (fun z => c139 z.1.symm)]); exact Or.inr ⟨q.1, fun k h1 h2 => q.2 k (by omega) h2⟩) (lv_sub hl [2, 3, 4, 5, 6, 0] rfl) hP hD hS
                · skip
                  refine lv_lload hx hb d_M_mendNibbles_142 (lv_at hl 0 rfl) ?_
                  refine lv_aload_n hx hb d_M_mendNibbles_144 rfl (lv_at hl 1 rfl) ?_
                  refine lc_Vl (b := mo) (As := []) (rest := [.long (lN ((y % 16) <<< (4 * j)))]) ⟨hx, hb, hml, hown, hts⟩ (c_M_all l D g _ wm mo wi ck fq co sq uq gq kd M ifo fl th (nI cv) (nI 0) ch9 tu9 (lN wv) wo9 fw fc ff fco fsq fu fg hM0 hM) (kV 0 hts m_711 m_708 m_710 m_18 m_40 (by decide +kernel) ⟨Nat.le_of_ble_eq_true rfl, Nat.le_of_ble_eq_true rfl⟩) (va_recv hK hP (ci := 6) (q0 := 0) rfl rfl) hKK hP hD hS hA hl.1 rfl rfl (Nat.le_of_ble_eq_true rfl) d_M_mendNibbles_145 ⟨Nat.le_of_ble_eq_true rfl, Nat.le_of_ble_eq_true rfl⟩ (fun r3 u3 H locs e3 hP hD hS => ?_)
                  obtain rfl : r3 = lN (2 ^ M - 1) := e3
                  refine lv_ldc2 (v := -1) hx hb hown (hts _ m_742) d_M_mendNibbles_148 ?_
                  refine lx_lxor (z := (lN (2 ^ M - 1)) ^^^ ((-1))) hx hb d_M_mendNibbles_151 (rfl) ?_
                  refine lx_land (z := (lN ((y % 16) <<< (4 * j))) &&& ((lN (2 ^ M - 1)) ^^^ ((-1)))) hx hb d_M_mendNibbles_152 (rfl) ?_
                  refine lv_lconst (v := lN 0) hx hb d_M_mendNibbles_153 (by decide) ?_
                  have hu2 : y >>> 8 = rz (y % 16) (2 * j) := rz_can _ hs hs0 j (by omega) _ hu (by rw [← c139]; exact hsq)
                  have hhit : wfN M (y % 16) (y >>> 4 % 16) (y >>> 8) = wfL M (y % 16) (y >>> 4 % 16) (y >>> 8) (16 - j) j := by rcases hinv with q | q; exact q; exact absurd c139.symm (q.2 j (Nat.le_refl j) (by omega))
                  rw [show 16 - j = 15 - j + 1 by omega, wfL_hit (by omega) ⟨c139.symm, hu2.symm⟩] at hhit
                  refine lx_lcmp_ne (tgt := 180) hx hb d_M_mendNibbles_154 d_M_mendNibbles_155 (by decide) (fun c155 => ?_) (fun c155 => ?_)
                  · skip
                    have hnf : ¬ ((y % 16) <<< (4 * j)) >>> M = 0 := fun q => c155 ((out_maskL (by omega) (by omega)).mpr (by rw [Nat.shiftRight_eq_div_pow] at q; exact (Nat.div_eq_zero_iff_lt (Nat.two_pow_pos M)).mp q))
                    rw [if_neg hnf] at hhit
                    refine lv_iinc (v := nI (j + 1)) (lv' := [(6, .int (nI (j + 1))), (7, .long (lN ((y % 16) <<< (4 * j)))), (0, .ref mo), (1, .int (nI y)), (2, .int (nI (y % 16))), (3, .int (nI (y >>> 4 % 16))), (4, .int (nI (y >>> 8)))]) hx hb d_M_mendNibbles_180 hl (k := 6) rfl (nI_1 j) (by decide) rfl (fun ls hl => ?_)
                    refine lv_goto (tgt := 111) hx hb d_M_mendNibbles_183 (by decide) ?_
                    exact ih (j + 1) _ _ _ (by omega) (by omega) (Or.inr ⟨hhit, fun k h1 h2 q => by have := rz_one _ hs hs0 k h2 j (by omega) (q.trans c139); omega⟩) (lv_sub hl [2, 3, 4, 5, 6, 0] rfl) hP hD hS
                  · skip
                    have hft : ((y % 16) <<< (4 * j)) >>> M = 0 := by rw [Nat.shiftRight_eq_div_pow]; exact Nat.div_eq_of_lt ((out_maskL (by omega) (by omega)).mp c155)
                    rw [if_pos hft] at hhit
                    have hnz : (y % 16) <<< (4 * j) ≠ 0 := fun q => hs0 (by rw [Nat.shiftLeft_eq] at q; rcases Nat.mul_eq_zero.mp q with q | q; exact q; exact absurd q (Nat.ne_of_gt (Nat.two_pow_pos _)))
                    have ej : jdN M y = (1, (y % 16) <<< (4 * j), 0) := by rw [jdN_w hy (by omega), hhit, if_neg hnz]
                    refine lv_aload_n hx hb d_M_mendNibbles_158 rfl (lv_at hl 1 rfl) ?_
                    refine lv_dup hx hb d_M_mendNibbles_159 rfl ?_
                    refine va_get (D := D) (ci := 6) (v := .long (lN wv)) (C := R_M) (T := F_M) (N := 21) hx hb hts i_M hown hK hP 0 rfl rfl 12 (by decide) (hts _ m_615) (fun _ h9 => h9) rfl d_M_mendNibbles_160 ?_
                    refine lv_lload hx hb d_M_mendNibbles_163 (lv_at hl 0 rfl) ?_
                    refine lx_lxor (z := lN (wv ^^^ ((y % 16) <<< (4 * j)))) hx hb d_M_mendNibbles_165 (xl_xor wv ((y % 16) <<< (4 * j))) ?_
                    refine va_put (D := D) (ci := 6) (v := .long (lN (wv ^^^ ((y % 16) <<< (4 * j))))) (ty := .long) (C := R_M) (T := F_M) (N := 21) hx hb hts i_M tf_M tf_M_ok nf_M hown hK hP hD hS 0 rfl rfl 12 (by decide) (hts _ m_615) (fun _ h9 => h9) rfl (by decide +kernel) rfl rfl (Nat.le_of_ble_eq_true rfl) d_M_mendNibbles_166 (fun H locs hP hD hS => ?_)
                    have hP : va_P D vwCl ((mo, .inr (6, [.int (th), .int (nI M), .int (nI kd), .int (nI (ckb kd M)), .int (nI (nk kd)), .ref wi, .ref ck, .ref fq, .ref co, .int (nI (grsK kd M)), .int (nI ifo), .int (nI fl), .long (lN (wv ^^^ (y % 16) <<< (4 * j))), .int (nI cv), .int (nI 0), .long (wo9), .int (ch9), .int (tu9), .ref sq, .ref uq, .ref gq])) :: (wi, .inl (g 0, 4, .inl (fw))) :: (ck, .inl (g 0, 4, .inl (fc))) :: (fq, .inl (g 0, 4, .inl (ff))) :: (co, .inl (g 0, 228, .inl (fco))) :: (sq, .inl (g 0, 8, .inl (fsq))) :: (uq, .inl (g 2, 128, .inl (fu))) :: (gq, .inl (g 0, 7, .inl (fg))) :: wm) H := hP
                    have hD : va_D A ((mo, .inr (6, [.int (th), .int (nI M), .int (nI kd), .int (nI (ckb kd M)), .int (nI (nk kd)), .ref wi, .ref ck, .ref fq, .ref co, .int (nI (grsK kd M)), .int (nI ifo), .int (nI fl), .long (lN (wv ^^^ (y % 16) <<< (4 * j))), .int (nI cv), .int (nI 0), .long (wo9), .int (ch9), .int (tu9), .ref sq, .ref uq, .ref gq])) :: (wi, .inl (g 0, 4, .inl (fw))) :: (ck, .inl (g 0, 4, .inl (fc))) :: (fq, .inl (g 0, 4, .inl (ff))) :: (co, .inl (g 0, 228, .inl (fco))) :: (sq, .inl (g 0, 8, .inl (fsq))) :: (uq, .inl (g 2, 128, .inl (fu))) :: (gq, .inl (g 0, 7, .inl (fg))) :: wm) := hD
                    refine lv_aload_n hx hb d_M_mendNibbles_169 rfl (lv_at hl 1 rfl) ?_
                    refine lv_iload_n hx hb d_M_mendNibbles_170 rfl (lv_at hl 3 rfl) ?_
                    refine lv_i2l (v := lN (y % 16)) hx hb d_M_mendNibbles_171 (nI_l (by omega)) ?_
                    refine lc_Si (As := [.long (lN (y % 16))]) (rest := [.ref mo]) ⟨hx, hb, hml, hown, hts⟩ (c_M_weight l D g _ _ (y % 16) (by omega)) (kS 1 hts m_598 m_596 m_597 m_40 (by decide +kernel) ⟨Nat.le_of_ble_eq_true rfl, Nat.le_of_ble_eq_true rfl⟩) hKK hP hD hS hA hl.1 rfl rfl (Nat.le_of_ble_eq_true rfl) d_M_mendNibbles_172 ⟨Nat.le_of_ble_eq_true rfl, Nat.le_of_ble_eq_true rfl⟩ (fun r4 u4 H locs e4 hP hD hS => ?_)
                    obtain rfl : r4 = nI (pcn 64 (y % 16)) := e4
                    refine va_put (D := D) (ci := 6) (v := .int (nI (pcn 64 (y % 16)))) (ty := .int) (C := R_M) (T := F_M) (N := 21) hx hb hts i_M tf_M tf_M_ok nf_M hown hK hP hD hS 0 rfl rfl 14 (by decide) (hts _ m_617) (fun _ h9 => h9) rfl (by decide +kernel) rfl rfl (Nat.le_of_ble_eq_true rfl) d_M_mendNibbles_175 (fun H locs hP hD hS => ?_)
                    have hP : va_P D vwCl ((mo, .inr (6, [.int (th), .int (nI M), .int (nI kd), .int (nI (ckb kd M)), .int (nI (nk kd)), .ref wi, .ref ck, .ref fq, .ref co, .int (nI (grsK kd M)), .int (nI ifo), .int (nI fl), .long (lN (wv ^^^ (y % 16) <<< (4 * j))), .int (nI cv), .int (nI (pcn 64 (y % 16))), .long (wo9), .int (ch9), .int (tu9), .ref sq, .ref uq, .ref gq])) :: (wi, .inl (g 0, 4, .inl (fw))) :: (ck, .inl (g 0, 4, .inl (fc))) :: (fq, .inl (g 0, 4, .inl (ff))) :: (co, .inl (g 0, 228, .inl (fco))) :: (sq, .inl (g 0, 8, .inl (fsq))) :: (uq, .inl (g 2, 128, .inl (fu))) :: (gq, .inl (g 0, 7, .inl (fg))) :: wm) H := hP
                    have hD : va_D A ((mo, .inr (6, [.int (th), .int (nI M), .int (nI kd), .int (nI (ckb kd M)), .int (nI (nk kd)), .ref wi, .ref ck, .ref fq, .ref co, .int (nI (grsK kd M)), .int (nI ifo), .int (nI fl), .long (lN (wv ^^^ (y % 16) <<< (4 * j))), .int (nI cv), .int (nI (pcn 64 (y % 16))), .long (wo9), .int (ch9), .int (tu9), .ref sq, .ref uq, .ref gq])) :: (wi, .inl (g 0, 4, .inl (fw))) :: (ck, .inl (g 0, 4, .inl (fc))) :: (fq, .inl (g 0, 4, .inl (ff))) :: (co, .inl (g 0, 228, .inl (fco))) :: (sq, .inl (g 0, 8, .inl (fsq))) :: (uq, .inl (g 2, 128, .inl (fu))) :: (gq, .inl (g 0, 7, .inl (fg))) :: wm) := hD
                    refine lv_iconst (v := nI 1) hx hb d_M_mendNibbles_178 (by decide) ?_
                    have eb : pcn 64 ((y % 16) <<< (4 * j)) + pcn 32 0 = pcn 64 (y % 16) := by rw [pc_sh _ hs j (by omega), show pcn 32 0 = 0 from by decide]; exact Nat.add_zero _
                    have hP : va_P D vwCl ((mo, .inr (6, [.int (th), .int (nI M), .int (nI kd), .int (nI (ckb kd M)), .int (nI (nk kd)), .ref wi, .ref ck, .ref fq, .ref co, .int (nI (grsK kd M)), .int (nI ifo), .int (nI fl), .long (lN (wv ^^^ (jdN M y).2.1)), .int (nI (cv ^^^ (jdN M y).2.2)), .int (nI (pcn 64 (jdN M y).2.1 + pcn 32 (jdN M y).2.2)), .long (wo9), .int (ch9), .int (tu9), .ref sq, .ref uq, .ref gq])) :: (wi, .inl (g 0, 4, .inl (fw))) :: (ck, .inl (g 0, 4, .inl (fc))) :: (fq, .inl (g 0, 4, .inl (ff))) :: (co, .inl (g 0, 228, .inl (fco))) :: (sq, .inl (g 0, 8, .inl (fsq))) :: (uq, .inl (g 2, 128, .inl (fu))) :: (gq, .inl (g 0, 7, .inl (fg))) :: wm) H := by rw [ej, show cv ^^^ ((1, (y % 16) <<< (4 * j), 0) : Nat × Nat × Nat).2.2 = cv from Nat.xor_zero cv]; show va_P D vwCl ((mo, .inr (6, [.int (th), .int (nI M), .int (nI kd), .int (nI (ckb kd M)), .int (nI (nk kd)), .ref wi, .ref ck, .ref fq, .ref co, .int (nI (grsK kd M)), .int (nI ifo), .int (nI fl), .long (lN (wv ^^^ (y % 16) <<< (4 * j))), .int (nI cv), .int (nI (pcn 64 ((y % 16) <<< (4 * j)) + pcn 32 0)), .long (wo9), .int (ch9), .int (tu9), .ref sq, .ref uq, .ref gq])) :: (wi, .inl (g 0, 4, .inl (fw))) :: (ck, .inl (g 0, 4, .inl (fc))) :: (fq, .inl (g 0, 4, .inl (ff))) :: (co, .inl (g 0, 228, .inl (fco))) :: (sq, .inl (g 0, 8, .inl (fsq))) :: (uq, .inl (g 2, 128, .inl (fu))) :: (gq, .inl (g 0, 7, .inl (fg))) :: wm) H; rw [eb]; exact hP
                    have hD : va_D A ((mo, .inr (6, [.int (th), .int (nI M), .int (nI kd), .int (nI (ckb kd M)), .int (nI (nk kd)), .ref wi, .ref ck, .ref fq, .ref co, .int (nI (grsK kd M)), .int (nI ifo), .int (nI fl), .long (lN (wv ^^^ (jdN M y).2.1)), .int (nI (cv ^^^ (jdN M y).2.2)), .int (nI (pcn 64 (jdN M y).2.1 + pcn 32 (jdN M y).2.2)), .long (wo9), .int (ch9), .int (tu9), .ref sq, .ref uq, .ref gq])) :: (wi, .inl (g 0, 4, .inl (fw))) :: (ck, .inl (g 0, 4, .inl (fc))) :: (fq, .inl (g 0, 4, .inl (ff))) :: (co, .inl (g 0, 228, .inl (fco))) :: (sq, .inl (g 0, 8, .inl (fsq))) :: (uq, .inl (g 2, 128, .inl (fu))) :: (gq, .inl (g 0, 7, .inl (fg))) :: wm) := hD.set (p := 0) rfl
                    rw [← hQ]
                    refine W.iret (v := nI 1) hx hb hr ?_ hS.2.2 d_M_mendNibbles_179
                    exact fun t ht hW => ⟨⟨nI 1, (), rfl, by rw [ej], by rw [ht]; exact hP, hD⟩, hS.F ht⟩
          refine lv_iconst (v := nI 0) hx hb d_M_mendNibbles_108 (by decide) ?_
          refine lv_istore (lv' := [(6, .int (nI 0)), (5, .int (nI (zc y))), (0, .ref mo), (1, .int (nI y)), (2, .int (nI (y % 16))), (3, .int (nI (y >>> 4 % 16))), (4, .int (nI (y >>> 8)))]) hx hb d_M_mendNibbles_109 hl (by decide) rfl (fun ls hl => ?_)
          exact lp111 ((M + 3) / 4 + 1) 0 _ _ _ (by omega) (by omega) (Or.inl (if_neg hs0)) (lv_sub hl [2, 3, 4, 5, 6, 0] rfl) hP hD hS
        · skip
          refine lv_iload hx hb d_M_mendNibbles_96 (lv_at hl 0 rfl) ?_
          refine lv_iconst (v := nI 3) hx hb d_M_mendNibbles_98 (by decide) ?_
          refine lx_icmp_ne (tgt := 106) hx hb d_M_mendNibbles_99 (by decide) (by omega) (by omega) (fun c99 => ?_) (fun c99 => ?_)
          · skip
            have ej : jdN M y = (2, 0, 0) := jdN_0 hy (by omega) c93
            refine lv_iconst (v := nI 2) hx hb d_M_mendNibbles_106 (by decide) ?_
            have hP : va_P D vwCl ((mo, .inr (6, [.int (th), .int (nI M), .int (nI kd), .int (nI (ckb kd M)), .int (nI (nk kd)), .ref wi, .ref ck, .ref fq, .ref co, .int (nI (grsK kd M)), .int (nI ifo), .int (nI fl), .long (lN (wv ^^^ (jdN M y).2.1)), .int (nI (cv ^^^ (jdN M y).2.2)), .int (nI (pcn 64 (jdN M y).2.1 + pcn 32 (jdN M y).2.2)), .long (wo9), .int (ch9), .int (tu9), .ref sq, .ref uq, .ref gq])) :: (wi, .inl (g 0, 4, .inl (fw))) :: (ck, .inl (g 0, 4, .inl (fc))) :: (fq, .inl (g 0, 4, .inl (ff))) :: (co, .inl (g 0, 228, .inl (fco))) :: (sq, .inl (g 0, 8, .inl (fsq))) :: (uq, .inl (g 2, 128, .inl (fu))) :: (gq, .inl (g 0, 7, .inl (fg))) :: wm) H := by rw [ej, show wv ^^^ ((2, 0, 0) : Nat × Nat × Nat).2.1 = wv from Nat.xor_zero wv, show cv ^^^ ((2, 0, 0) : Nat × Nat × Nat).2.2 = cv from Nat.xor_zero cv, show pcn 64 ((2, 0, 0) : Nat × Nat × Nat).2.1 + pcn 32 ((2, 0, 0) : Nat × Nat × Nat).2.2 = 0 from by decide]; exact hP
            have hD : va_D A ((mo, .inr (6, [.int (th), .int (nI M), .int (nI kd), .int (nI (ckb kd M)), .int (nI (nk kd)), .ref wi, .ref ck, .ref fq, .ref co, .int (nI (grsK kd M)), .int (nI ifo), .int (nI fl), .long (lN (wv ^^^ (jdN M y).2.1)), .int (nI (cv ^^^ (jdN M y).2.2)), .int (nI (pcn 64 (jdN M y).2.1 + pcn 32 (jdN M y).2.2)), .long (wo9), .int (ch9), .int (tu9), .ref sq, .ref uq, .ref gq])) :: (wi, .inl (g 0, 4, .inl (fw))) :: (ck, .inl (g 0, 4, .inl (fc))) :: (fq, .inl (g 0, 4, .inl (ff))) :: (co, .inl (g 0, 228, .inl (fco))) :: (sq, .inl (g 0, 8, .inl (fsq))) :: (uq, .inl (g 2, 128, .inl (fu))) :: (gq, .inl (g 0, 7, .inl (fg))) :: wm) := hD.set (p := 0) rfl
            rw [← hQ]
            refine W.iret (v := nI 2) hx hb hr ?_ hS.2.2 d_M_mendNibbles_107
            exact fun t ht hW => ⟨⟨nI 2, (), rfl, by rw [ej], by rw [ht]; exact hP, hD⟩, hS.F ht⟩
          · skip
            exact absurd c79 (by omega)
    · skip
      have ej : jdN M y = (1, 0, y) := jdN_2 hy c53
      refine lv_aload_n hx hb d_M_mendNibbles_56 rfl (lv_at hl 1 rfl) ?_
      refine lv_dup hx hb d_M_mendNibbles_57 rfl ?_
      refine va_get (D := D) (ci := 6) (v := .int (nI cv)) (C := R_M) (T := F_M) (N := 21) hx hb hts i_M hown hK hP 0 rfl rfl 13 (by decide) (hts _ m_616) (fun _ h9 => h9) rfl d_M_mendNibbles_58 ?_
      refine lv_iload_n hx hb d_M_mendNibbles_61 rfl (lv_at hl 2 rfl) ?_
      refine lx_ixor (z := nI (cv ^^^ y)) hx hb d_M_mendNibbles_62 (xn_xor cv y) ?_
      refine va_put (D := D) (ci := 6) (v := .int (nI (cv ^^^ y))) (ty := .int) (C := R_M) (T := F_M) (N := 21) hx hb hts i_M tf_M tf_M_ok nf_M hown hK hP hD hS 0 rfl rfl 13 (by decide) (hts _ m_616) (fun _ h9 => h9) rfl (by decide +kernel) rfl rfl (Nat.le_of_ble_eq_true rfl) d_M_mendNibbles_63 (fun H locs hP hD hS => ?_)
      have hP : va_P D vwCl ((mo, .inr (6, [.int (th), .int (nI M), .int (nI kd), .int (nI (ckb kd M)), .int (nI (nk kd)), .ref wi, .ref ck, .ref fq, .ref co, .int (nI (grsK kd M)), .int (nI ifo), .int (nI fl), .long (lN wv), .int (nI (cv ^^^ y)), .int (nI 0), .long (wo9), .int (ch9), .int (tu9), .ref sq, .ref uq, .ref gq])) :: (wi, .inl (g 0, 4, .inl (fw))) :: (ck, .inl (g 0, 4, .inl (fc))) :: (fq, .inl (g 0, 4, .inl (ff))) :: (co, .inl (g 0, 228, .inl (fco))) :: (sq, .inl (g 0, 8, .inl (fsq))) :: (uq, .inl (g 2, 128, .inl (fu))) :: (gq, .inl (g 0, 7, .inl (fg))) :: wm) H := hP
      have hD : va_D A ((mo, .inr (6, [.int (th), .int (nI M), .int (nI kd), .int (nI (ckb kd M)), .int (nI (nk kd)), .ref wi, .ref ck, .ref fq, .ref co, .int (nI (grsK kd M)), .int (nI ifo), .int (nI fl), .long (lN wv), .int (nI (cv ^^^ y)), .int (nI 0), .long (wo9), .int (ch9), .int (tu9), .ref sq, .ref uq, .ref gq])) :: (wi, .inl (g 0, 4, .inl (fw))) :: (ck, .inl (g 0, 4, .inl (fc))) :: (fq, .inl (g 0, 4, .inl (ff))) :: (co, .inl (g 0, 228, .inl (fco))) :: (sq, .inl (g 0, 8, .inl (fsq))) :: (uq, .inl (g 2, 128, .inl (fu))) :: (gq, .inl (g 0, 7, .inl (fg))) :: wm) := hD
      refine lv_aload_n hx hb d_M_mendNibbles_66 rfl (lv_at hl 1 rfl) ?_
      refine lv_iload_n hx hb d_M_mendNibbles_67 rfl (lv_at hl 2 rfl) ?_
      refine lv_i2l (v := lN y) hx hb d_M_mendNibbles_68 (nI_l (by omega)) ?_
      refine lc_Si (As := [.long (lN y)]) (rest := [.ref mo]) ⟨hx, hb, hml, hown, hts⟩ (c_M_weight l D g _ _ y (by omega)) (kS 1 hts m_598 m_596 m_597 m_40 (by decide +kernel) ⟨Nat.le_of_ble_eq_true rfl, Nat.le_of_ble_eq_true rfl⟩) hKK hP hD hS hA hl.1 rfl rfl (Nat.le_of_ble_eq_true rfl) d_M_mendNibbles_69 ⟨Nat.le_of_ble_eq_true rfl, Nat.le_of_ble_eq_true rfl⟩ (fun r4 u4 H locs e4 hP hD hS => ?_)
      obtain rfl : r4 = nI (pcn 64 y) := e4
      refine va_put (D := D) (ci := 6) (v := .int (nI (pcn 64 y))) (ty := .int) (C := R_M) (T := F_M) (N := 21) hx hb hts i_M tf_M tf_M_ok nf_M hown hK hP hD hS 0 rfl rfl 14 (by decide) (hts _ m_617) (fun _ h9 => h9) rfl (by decide +kernel) rfl rfl (Nat.le_of_ble_eq_true rfl) d_M_mendNibbles_72 (fun H locs hP hD hS => ?_)
      have hP : va_P D vwCl ((mo, .inr (6, [.int (th), .int (nI M), .int (nI kd), .int (nI (ckb kd M)), .int (nI (nk kd)), .ref wi, .ref ck, .ref fq, .ref co, .int (nI (grsK kd M)), .int (nI ifo), .int (nI fl), .long (lN wv), .int (nI (cv ^^^ y)), .int (nI (pcn 64 y)), .long (wo9), .int (ch9), .int (tu9), .ref sq, .ref uq, .ref gq])) :: (wi, .inl (g 0, 4, .inl (fw))) :: (ck, .inl (g 0, 4, .inl (fc))) :: (fq, .inl (g 0, 4, .inl (ff))) :: (co, .inl (g 0, 228, .inl (fco))) :: (sq, .inl (g 0, 8, .inl (fsq))) :: (uq, .inl (g 2, 128, .inl (fu))) :: (gq, .inl (g 0, 7, .inl (fg))) :: wm) H := hP
      have hD : va_D A ((mo, .inr (6, [.int (th), .int (nI M), .int (nI kd), .int (nI (ckb kd M)), .int (nI (nk kd)), .ref wi, .ref ck, .ref fq, .ref co, .int (nI (grsK kd M)), .int (nI ifo), .int (nI fl), .long (lN wv), .int (nI (cv ^^^ y)), .int (nI (pcn 64 y)), .long (wo9), .int (ch9), .int (tu9), .ref sq, .ref uq, .ref gq])) :: (wi, .inl (g 0, 4, .inl (fw))) :: (ck, .inl (g 0, 4, .inl (fc))) :: (fq, .inl (g 0, 4, .inl (ff))) :: (co, .inl (g 0, 228, .inl (fco))) :: (sq, .inl (g 0, 8, .inl (fsq))) :: (uq, .inl (g 2, 128, .inl (fu))) :: (gq, .inl (g 0, 7, .inl (fg))) :: wm) := hD
      refine lv_iconst (v := nI 1) hx hb d_M_mendNibbles_75 (by decide) ?_
      have eb : pcn 64 0 + pcn 32 y = pcn 64 y := by rw [pc_32 y hy, show pcn 64 0 = 0 from by decide]; exact Nat.zero_add _
      have hP : va_P D vwCl ((mo, .inr (6, [.int (th), .int (nI M), .int (nI kd), .int (nI (ckb kd M)), .int (nI (nk kd)), .ref wi, .ref ck, .ref fq, .ref co, .int (nI (grsK kd M)), .int (nI ifo), .int (nI fl), .long (lN (wv ^^^ (jdN M y).2.1)), .int (nI (cv ^^^ (jdN M y).2.2)), .int (nI (pcn 64 (jdN M y).2.1 + pcn 32 (jdN M y).2.2)), .long (wo9), .int (ch9), .int (tu9), .ref sq, .ref uq, .ref gq])) :: (wi, .inl (g 0, 4, .inl (fw))) :: (ck, .inl (g 0, 4, .inl (fc))) :: (fq, .inl (g 0, 4, .inl (ff))) :: (co, .inl (g 0, 228, .inl (fco))) :: (sq, .inl (g 0, 8, .inl (fsq))) :: (uq, .inl (g 2, 128, .inl (fu))) :: (gq, .inl (g 0, 7, .inl (fg))) :: wm) H := by rw [ej, show wv ^^^ ((1, 0, y) : Nat × Nat × Nat).2.1 = wv from Nat.xor_zero wv]; show va_P D vwCl ((mo, .inr (6, [.int (th), .int (nI M), .int (nI kd), .int (nI (ckb kd M)), .int (nI (nk kd)), .ref wi, .ref ck, .ref fq, .ref co, .int (nI (grsK kd M)), .int (nI ifo), .int (nI fl), .long (lN wv), .int (nI (cv ^^^ y)), .int (nI (pcn 64 0 + pcn 32 y)), .long (wo9), .int (ch9), .int (tu9), .ref sq, .ref uq, .ref gq])) :: (wi, .inl (g 0, 4, .inl (fw))) :: (ck, .inl (g 0, 4, .inl (fc))) :: (fq, .inl (g 0, 4, .inl (ff))) :: (co, .inl (g 0, 228, .inl (fco))) :: (sq, .inl (g 0, 8, .inl (fsq))) :: (uq, .inl (g 2, 128, .inl (fu))) :: (gq, .inl (g 0, 7, .inl (fg))) :: wm) H; rw [eb]; exact hP
      have hD : va_D A ((mo, .inr (6, [.int (th), .int (nI M), .int (nI kd), .int (nI (ckb kd M)), .int (nI (nk kd)), .ref wi, .ref ck, .ref fq, .ref co, .int (nI (grsK kd M)), .int (nI ifo), .int (nI fl), .long (lN (wv ^^^ (jdN M y).2.1)), .int (nI (cv ^^^ (jdN M y).2.2)), .int (nI (pcn 64 (jdN M y).2.1 + pcn 32 (jdN M y).2.2)), .long (wo9), .int (ch9), .int (tu9), .ref sq, .ref uq, .ref gq])) :: (wi, .inl (g 0, 4, .inl (fw))) :: (ck, .inl (g 0, 4, .inl (fc))) :: (fq, .inl (g 0, 4, .inl (ff))) :: (co, .inl (g 0, 228, .inl (fco))) :: (sq, .inl (g 0, 8, .inl (fsq))) :: (uq, .inl (g 2, 128, .inl (fu))) :: (gq, .inl (g 0, 7, .inl (fg))) :: wm) := hD.set (p := 0) rfl
      rw [← hQ]
      refine W.iret (v := nI 1) hx hb hr ?_ hS.2.2 d_M_mendNibbles_76
      exact fun t ht hW => ⟨⟨nI 1, (), rfl, by rw [ej], by rw [ht]; exact hP, hD⟩, hS.F ht⟩
  have j37 : ∀ (z1 : Nat) (ls : Array Slot) (H : Heap) (locs : List Loc), (z1 = (if y % 16 = 0 then 1 else 0) + (if y >>> 4 % 16 = 0 then 1 else 0)) → lv_has ls 9 [(0, .ref mo), (1, .int (nI y)), (2, .int (nI (y % 16))), (3, .int (nI (y >>> 4 % 16))), (4, .int (nI (y >>> 8)))] → va_P D vwCl ((mo, .inr (6, [.int (th), .int (nI M), .int (nI kd), .int (nI (ckb kd M)), .int (nI (nk kd)), .ref wi, .ref ck, .ref fq, .ref co, .int (nI (grsK kd M)), .int (nI ifo), .int (nI fl), .long (lN wv), .int (nI cv), .int (nI 0), .long (wo9), .int (ch9), .int (tu9), .ref sq, .ref uq, .ref gq])) :: (wi, .inl (g 0, 4, .inl (fw))) :: (ck, .inl (g 0, 4, .inl (fc))) :: (fq, .inl (g 0, 4, .inl (ff))) :: (co, .inl (g 0, 228, .inl (fco))) :: (sq, .inl (g 0, 8, .inl (fsq))) :: (uq, .inl (g 2, 128, .inl (fu))) :: (gq, .inl (g 0, 7, .inl (fg))) :: wm) H → va_D A ((mo, .inr (6, [.int (th), .int (nI M), .int (nI kd), .int (nI (ckb kd M)), .int (nI (nk kd)), .ref wi, .ref ck, .ref fq, .ref co, .int (nI (grsK kd M)), .int (nI ifo), .int (nI fl), .long (lN wv), .int (nI cv), .int (nI 0), .long (wo9), .int (ch9), .int (tu9), .ref sq, .ref uq, .ref gq])) :: (wi, .inl (g 0, 4, .inl (fw))) :: (ck, .inl (g 0, 4, .inl (fc))) :: (fq, .inl (g 0, 4, .inl (ff))) :: (co, .inl (g 0, 228, .inl (fco))) :: (sq, .inl (g 0, 8, .inl (fsq))) :: (uq, .inl (g 2, 128, .inl (fu))) :: (gq, .inl (g 0, 7, .inl (fg))) :: wm) → va_S A s.heap H locs → W p l e (headSpec w_M_mendNibbles rm_M_mendNibbles).room s m [.ref mo, .int (nI y)].toArray below meth c H locs 0 0 Q (F0 m 37 ls [.int (nI z1)]) := by
    intro z1 ls H locs hz hl hP hD hS
    refine lv_iload hx hb d_M_mendNibbles_37 (lv_at hl 4 rfl) ?_
    refine lx_if_ne (tgt := 46) hx hb d_M_mendNibbles_39 (by decide) (by omega) (fun c39 => ?_) (fun c39 => ?_)
    · skip
      refine lv_iconst (v := nI 0) hx hb d_M_mendNibbles_46 (by decide) ?_
      refine lx_iadd (z := nI (z1 + 0)) hx hb d_M_mendNibbles_47 (nI_add z1 0) ?_
      exact j48 (z1 + 0) _ _ _ (by subst hz; unfold zc; rw [if_neg c39]) (lv_sub hl [0, 1, 2, 3, 4] rfl) hP hD hS
    · skip
      refine lv_iconst (v := nI 1) hx hb d_M_mendNibbles_42 (by decide) ?_
      refine lv_goto (tgt := 47) hx hb d_M_mendNibbles_43 (by decide) ?_
      refine lx_iadd (z := nI (z1 + 1)) hx hb d_M_mendNibbles_47 (nI_add z1 1) ?_
      exact j48 (z1 + 1) _ _ _ (by subst hz; unfold zc; rw [if_pos c39]) (lv_sub hl [0, 1, 2, 3, 4] rfl) hP hD hS
  have j27 : ∀ (z1 : Nat) (ls : Array Slot) (H : Heap) (locs : List Loc), (z1 = (if y % 16 = 0 then 1 else 0)) → lv_has ls 9 [(0, .ref mo), (1, .int (nI y)), (2, .int (nI (y % 16))), (3, .int (nI (y >>> 4 % 16))), (4, .int (nI (y >>> 8)))] → va_P D vwCl ((mo, .inr (6, [.int (th), .int (nI M), .int (nI kd), .int (nI (ckb kd M)), .int (nI (nk kd)), .ref wi, .ref ck, .ref fq, .ref co, .int (nI (grsK kd M)), .int (nI ifo), .int (nI fl), .long (lN wv), .int (nI cv), .int (nI 0), .long (wo9), .int (ch9), .int (tu9), .ref sq, .ref uq, .ref gq])) :: (wi, .inl (g 0, 4, .inl (fw))) :: (ck, .inl (g 0, 4, .inl (fc))) :: (fq, .inl (g 0, 4, .inl (ff))) :: (co, .inl (g 0, 228, .inl (fco))) :: (sq, .inl (g 0, 8, .inl (fsq))) :: (uq, .inl (g 2, 128, .inl (fu))) :: (gq, .inl (g 0, 7, .inl (fg))) :: wm) H → va_D A ((mo, .inr (6, [.int (th), .int (nI M), .int (nI kd), .int (nI (ckb kd M)), .int (nI (nk kd)), .ref wi, .ref ck, .ref fq, .ref co, .int (nI (grsK kd M)), .int (nI ifo), .int (nI fl), .long (lN wv), .int (nI cv), .int (nI 0), .long (wo9), .int (ch9), .int (tu9), .ref sq, .ref uq, .ref gq])) :: (wi, .inl (g 0, 4, .inl (fw))) :: (ck, .inl (g 0, 4, .inl (fc))) :: (fq, .inl (g 0, 4, .inl (ff))) :: (co, .inl (g 0, 228, .inl (fco))) :: (sq, .inl (g 0, 8, .inl (fsq))) :: (uq, .inl (g 2, 128, .inl (fu))) :: (gq, .inl (g 0, 7, .inl (fg))) :: wm) → va_S A s.heap H locs → W p l e (headSpec w_M_mendNibbles rm_M_mendNibbles).room s m [.ref mo, .int (nI y)].toArray below meth c H locs 0 0 Q (F0 m 27 ls [.int (nI z1)]) := by
    intro z1 ls H locs hz hl hP hD hS
    refine lv_iload_n hx hb d_M_mendNibbles_27 rfl (lv_at hl 3 rfl) ?_
    refine lx_if_ne (tgt := 35) hx hb d_M_mendNibbles_28 (by decide) (by omega) (fun c28 => ?_) (fun c28 => ?_)
    · skip
      refine lv_iconst (v := nI 0) hx hb d_M_mendNibbles_35 (by decide) ?_
      refine lx_iadd (z := nI (z1 + 0)) hx hb d_M_mendNibbles_36 (nI_add z1 0) ?_
      exact j37 (z1 + 0) _ _ _ (by subst hz; rw [if_neg c28]) (lv_sub hl [0, 1, 2, 3, 4] rfl) hP hD hS
    · skip
      refine lv_iconst (v := nI 1) hx hb d_M_mendNibbles_31 (by decide) ?_
      refine lv_goto (tgt := 36) hx hb d_M_mendNibbles_32 (by decide) ?_
      refine lx_iadd (z := nI (z1 + 1)) hx hb d_M_mendNibbles_36 (nI_add z1 1) ?_
      exact j37 (z1 + 1) _ _ _ (by subst hz; rw [if_pos c28]) (lv_sub hl [0, 1, 2, 3, 4] rfl) hP hD hS
  refine lv_iload_n hx hb d_M_mendNibbles_0 rfl (lv_at hl 1 rfl) ?_
  refine lv_bipush (v := nI 15) hx hb d_M_mendNibbles_1 (by decide) ?_
  refine lx_iand (z := nI (y % 16)) hx hb d_M_mendNibbles_3 ((xn_and _ _).trans (by rw [show (15 : Nat) = 2 ^ 4 - 1 from rfl, Nat.and_two_pow_sub_one_eq_mod])) ?_
  refine lv_istore_n (lv' := [(2, .int (nI (y % 16))), (0, .ref mo), (1, .int (nI y))]) hx hb d_M_mendNibbles_4 rfl hl (by decide) rfl (fun ls hl => ?_)
  refine lv_iload_n hx hb d_M_mendNibbles_5 rfl (lv_at hl 2 rfl) ?_
  refine lv_iconst (v := nI 4) hx hb d_M_mendNibbles_6 (by decide) ?_
  refine lx_ishr (z := nI (y >>> 4)) hx hb d_M_mendNibbles_7 (xn_sshr (by omega) (by decide)) ?_
  refine lv_bipush (v := nI 15) hx hb d_M_mendNibbles_8 (by decide) ?_
  refine lx_iand (z := nI (y >>> 4 % 16)) hx hb d_M_mendNibbles_10 ((xn_and _ _).trans (by rw [show (15 : Nat) = 2 ^ 4 - 1 from rfl, Nat.and_two_pow_sub_one_eq_mod])) ?_
  refine lv_istore_n (lv' := [(3, .int (nI (y >>> 4 % 16))), (2, .int (nI (y % 16))), (0, .ref mo), (1, .int (nI y))]) hx hb d_M_mendNibbles_11 rfl hl (by decide) rfl (fun ls hl => ?_)
  refine lv_iload_n hx hb d_M_mendNibbles_12 rfl (lv_at hl 3 rfl) ?_
  refine lv_bipush (v := nI 8) hx hb d_M_mendNibbles_13 (by decide) ?_
  refine lx_ishr (z := nI (y >>> 8)) hx hb d_M_mendNibbles_15 (xn_sshr (by omega) (by decide)) ?_
  refine lv_istore (lv' := [(4, .int (nI (y >>> 8))), (3, .int (nI (y >>> 4 % 16))), (2, .int (nI (y % 16))), (0, .ref mo), (1, .int (nI y))]) hx hb d_M_mendNibbles_16 hl (by decide) rfl (fun ls hl => ?_)
  refine lv_iload_n hx hb d_M_mendNibbles_18 rfl (lv_at hl 2 rfl) ?_
  refine lx_if_ne (tgt := 26) hx hb d_M_mendNibbles_19 (by decide) (by omega) (fun c19 => ?_) (fun c19 => ?_)
  · skip
    refine lv_iconst (v := nI 0) hx hb d_M_mendNibbles_26 (by decide) ?_
    exact j27 0 _ _ _ ((if_neg c19).symm) (lv_sub hl [3, 4, 2, 1, 0] rfl) hP hD hS
  · skip
    refine lv_iconst (v := nI 1) hx hb d_M_mendNibbles_22 (by decide) ?_
    refine lv_goto (tgt := 27) hx hb d_M_mendNibbles_23 (by decide) ?_
    exact j27 1 _ _ _ ((if_pos c19).symm) (lv_sub hl [3, 4, 2, 1, 0] rfl) hP hD hS
set_option maxHeartbeats 4000000 in
set_option maxRecDepth 100000 in
theorem c_M_reading (l : Launch) (D : va_G) (g : Nat → ClassId) (sz : Nat) (wm : va_W) (mo wi ck fq co sq uq gq kd M ifo fl : Nat) (th mk bi ch9 tu9 : Int32) (ma wo9 : Int64) (fw fc ff fco fsq fu fg : Nat → Int32) (hM0 : 0 < M) (hM : M ≤ 57) (v c0 : Nat) (hv : v < 2 ^ 64) (hc0 : c0 < 2 ^ ckb kd M) (hif : ifo ≤ 1) (hfl : fl < 2 ^ ckb kd M) (hkd : kd ≤ 3) (hmw : MWF kd M fw fc ff fco) : Met l y_M_reading w_M_reading rm_M_reading (va_Pc [.ref mo, .long (lN v), .int (nI c0)] (pP D (tyl g) ((mo, .inr (6, [.int (th), .int (nI M), .int (nI kd), .int (nI (ckb kd M)), .int (nI (nk kd)), .ref wi, .ref ck, .ref fq, .ref co, .int (nI (grsK kd M)), .int (nI ifo), .int (nI fl), .long (ma), .int (mk), .int (bi), .long (wo9), .int (ch9), .int (tu9), .ref sq, .ref uq, .ref gq])) :: (wi, .inl (g 0, 4, .inl (fw))) :: (ck, .inl (g 0, 4, .inl (fc))) :: (fq, .inl (g 0, 4, .inl (ff))) :: (co, .inl (g 0, 228, .inl (fco))) :: (sq, .inl (g 0, 8, .inl (fsq))) :: (uq, .inl (g 2, 128, .inl (fu))) :: (gq, .inl (g 0, 7, .inl (fg))) :: wm) sz)) (va_Qi (fun (r : Int32) (u : Unit) => r = nI (jd kd M ((c0 ^^^ (if ifo = 1 then fl else 0)) ^^^ xs (mrk kd M) v M)).1) (fun u => qB D (va_A ((mo, .inr (6, [.int (th), .int (nI M), .int (nI kd), .int (nI (ckb kd M)), .int (nI (nk kd)), .ref wi, .ref ck, .ref fq, .ref co, .int (nI (grsK kd M)), .int (nI ifo), .int (nI fl), .long (ma), .int (mk), .int (bi), .long (wo9), .int (ch9), .int (tu9), .ref sq, .ref uq, .ref gq])) :: (wi, .inl (g 0, 4, .inl (fw))) :: (ck, .inl (g 0, 4, .inl (fc))) :: (fq, .inl (g 0, 4, .inl (ff))) :: (co, .inl (g 0, 228, .inl (fco))) :: (sq, .inl (g 0, 8, .inl (fsq))) :: (uq, .inl (g 2, 128, .inl (fu))) :: (gq, .inl (g 0, 7, .inl (fg))) :: wm) sz) ((mo, .inr (6, [.int (th), .int (nI M), .int (nI kd), .int (nI (ckb kd M)), .int (nI (nk kd)), .ref wi, .ref ck, .ref fq, .ref co, .int (nI (grsK kd M)), .int (nI ifo), .int (nI fl), .long (lN (v ^^^ (jd kd M ((c0 ^^^ (if ifo = 1 then fl else 0)) ^^^ xs (mrk kd M) v M)).2.1)), .int (nI (c0 ^^^ (jd kd M ((c0 ^^^ (if ifo = 1 then fl else 0)) ^^^ xs (mrk kd M) v M)).2.2)), .int (nI (pcn 64 (jd kd M ((c0 ^^^ (if ifo = 1 then fl else 0)) ^^^ xs (mrk kd M) v M)).2.1 + pcn 32 (jd kd M ((c0 ^^^ (if ifo = 1 then fl else 0)) ^^^ xs (mrk kd M) v M)).2.2)), .long (wo9), .int (ch9), .int (tu9), .ref sq, .ref uq, .ref gq])) :: (wi, .inl (g 0, 4, .inl (fw))) :: (ck, .inl (g 0, 4, .inl (fc))) :: (fq, .inl (g 0, 4, .inl (ff))) :: (co, .inl (g 0, 228, .inl (fco))) :: (sq, .inl (g 0, 8, .inl (fsq))) :: (uq, .inl (g 2, 128, .inl (fu))) :: (gq, .inl (g 0, 7, .inl (fg))) :: wm)) (va_A ((mo, .inr (6, [.int (th), .int (nI M), .int (nI kd), .int (nI (ckb kd M)), .int (nI (nk kd)), .ref wi, .ref ck, .ref fq, .ref co, .int (nI (grsK kd M)), .int (nI ifo), .int (nI fl), .long (ma), .int (mk), .int (bi), .long (wo9), .int (ch9), .int (tu9), .ref sq, .ref uq, .ref gq])) :: (wi, .inl (g 0, 4, .inl (fw))) :: (ck, .inl (g 0, 4, .inl (fc))) :: (fq, .inl (g 0, 4, .inl (ff))) :: (co, .inl (g 0, 228, .inl (fco))) :: (sq, .inl (g 0, 8, .inl (fsq))) :: (uq, .inl (g 2, 128, .inl (fu))) :: (gq, .inl (g 0, 7, .inl (fg))) :: wm) sz)) 0 0 (va_A ((mo, .inr (6, [.int (th), .int (nI M), .int (nI kd), .int (nI (ckb kd M)), .int (nI (nk kd)), .ref wi, .ref ck, .ref fq, .ref co, .int (nI (grsK kd M)), .int (nI ifo), .int (nI fl), .long (ma), .int (mk), .int (bi), .long (wo9), .int (ch9), .int (tu9), .ref sq, .ref uq, .ref gq])) :: (wi, .inl (g 0, 4, .inl (fw))) :: (ck, .inl (g 0, 4, .inl (fc))) :: (fq, .inl (g 0, 4, .inl (ff))) :: (co, .inl (g 0, 228, .inl (fco))) :: (sq, .inl (g 0, 8, .inl (fsq))) :: (uq, .inl (g 2, 128, .inl (fu))) :: (gq, .inl (g 0, 7, .inl (fg))) :: wm) sz) := by
  refine Met.ofW (cc := b_M_reading) (maxL := 5) (ret := (some .int)) (by decide +kernel) rfl ?_
  intro p e s m args below meth c s₁ Bq hml hv
  have hx := Bq.exec
  have hb := Bq.bytes
  have hr := Bq.returns
  have hts : ∀ w ∈ wA, w.before args s = true := fun w h => atoms_spec (ws := w_M_reading) Bq.pre w (List.mem_cons_of_mem _ h)
  have hown : s.vm.findClass R_M = some m.cls := findClass_of_methodNamed Bq.named
  have hlocks := Bq.notSynchronized
  obtain ⟨rfl, hsz, hP, hKK, hD0⟩ := hv
  have hK := hKK.1
  subst hsz
  have hD := hD0.self (sz := s.heap.size)
  generalize hAe : va_A ((mo, .inr (6, [.int (th), .int (nI M), .int (nI kd), .int (nI (ckb kd M)), .int (nI (nk kd)), .ref wi, .ref ck, .ref fq, .ref co, .int (nI (grsK kd M)), .int (nI ifo), .int (nI fl), .long (ma), .int (mk), .int (bi), .long (wo9), .int (ch9), .int (tu9), .ref sq, .ref uq, .ref gq])) :: (wi, .inl (g 0, 4, .inl (fw))) :: (ck, .inl (g 0, 4, .inl (fc))) :: (fq, .inl (g 0, 4, .inl (ff))) :: (co, .inl (g 0, 228, .inl (fco))) :: (sq, .inl (g 0, 8, .inl (fsq))) :: (uq, .inl (g 2, 128, .inl (fu))) :: (gq, .inl (g 0, 7, .inl (fg))) :: wm) s.heap.size = A at hD ⊢
  have hA : ∀ q : Nat, s.heap.size ≤ q → A q := fun q h => by rw [← hAe]; exact Or.inr h
  have hS : va_S A s.heap s.heap [] := va_S.rf
  have hl := lv_entry ([.ref mo, .long (lN v), .int (nI c0)]) (n := 5) (Nat.le_of_ble_eq_true rfl)
  rw [lg_entry_eq]
  generalize (lg_sl ([.ref mo, .long (lN v), .int (nI c0)]) ++ List.replicate (5 - (lg_sl ([.ref mo, .long (lN v), .int (nI c0)])).length) Slot.unset).toArray = ls at hl ⊢
  have hl : lv_has ls 5 [(0, .ref mo), (1, .long (lN v)), (3, .int (nI c0))] := hl
  generalize hQ : MQ below (va_Qi (fun (r : Int32) (u : Unit) => r = nI (jd kd M ((c0 ^^^ (if ifo = 1 then fl else 0)) ^^^ xs (mrk kd M) v M)).1) (fun u => qB D (A) ((mo, .inr (6, [.int (th), .int (nI M), .int (nI kd), .int (nI (ckb kd M)), .int (nI (nk kd)), .ref wi, .ref ck, .ref fq, .ref co, .int (nI (grsK kd M)), .int (nI ifo), .int (nI fl), .long (lN (v ^^^ (jd kd M ((c0 ^^^ (if ifo = 1 then fl else 0)) ^^^ xs (mrk kd M) v M)).2.1)), .int (nI (c0 ^^^ (jd kd M ((c0 ^^^ (if ifo = 1 then fl else 0)) ^^^ xs (mrk kd M) v M)).2.2)), .int (nI (pcn 64 (jd kd M ((c0 ^^^ (if ifo = 1 then fl else 0)) ^^^ xs (mrk kd M) v M)).2.1 + pcn 32 (jd kd M ((c0 ^^^ (if ifo = 1 then fl else 0)) ^^^ xs (mrk kd M) v M)).2.2)), .long (wo9), .int (ch9), .int (tu9), .ref sq, .ref uq, .ref gq])) :: (wi, .inl (g 0, 4, .inl (fw))) :: (ck, .inl (g 0, 4, .inl (fc))) :: (fq, .inl (g 0, 4, .inl (ff))) :: (co, .inl (g 0, 228, .inl (fco))) :: (sq, .inl (g 0, 8, .inl (fsq))) :: (uq, .inl (g 2, 128, .inl (fu))) :: (gq, .inl (g 0, 7, .inl (fg))) :: wm)) (A)) [.ref mo, .long (lN v), .int (nI c0)].toArray s 0 0 A = Q
  have hpw := ckb_pow kd M
  have hfo : (if ifo = 1 then fl else 0) < 2 ^ ckb kd M := by split; exact hfl; exact Nat.two_pow_pos _
  have hsy : (c0 ^^^ (if ifo = 1 then fl else 0)) ^^^ xs (mrk kd M) v M < 2 ^ ckb kd M := Nat.xor_lt_two_pow (Nat.xor_lt_two_pow hc0 hfo) (xs_lt (mrk_lt hM0 hM))
  refine lv_aload_n hx hb d_M_reading_0 rfl (lv_at hl 0 rfl) ?_
  refine lv_lload_n hx hb d_M_reading_1 rfl (lv_at hl 1 rfl) ?_
  refine va_put (D := D) (ci := 6) (v := .long (lN v)) (ty := .long) (C := R_M) (T := F_M) (N := 21) hx hb hts i_M tf_M tf_M_ok nf_M hown hK hP hD hS 0 rfl rfl 12 (by decide) (hts _ m_615) (fun _ h9 => h9) rfl (by decide +kernel) rfl rfl (Nat.le_of_ble_eq_true rfl) d_M_reading_2 (fun H locs hP hD hS => ?_)
  have hP : va_P D vwCl ((mo, .inr (6, [.int (th), .int (nI M), .int (nI kd), .int (nI (ckb kd M)), .int (nI (nk kd)), .ref wi, .ref ck, .ref fq, .ref co, .int (nI (grsK kd M)), .int (nI ifo), .int (nI fl), .long (lN v), .int (mk), .int (bi), .long (wo9), .int (ch9), .int (tu9), .ref sq, .ref uq, .ref gq])) :: (wi, .inl (g 0, 4, .inl (fw))) :: (ck, .inl (g 0, 4, .inl (fc))) :: (fq, .inl (g 0, 4, .inl (ff))) :: (co, .inl (g 0, 228, .inl (fco))) :: (sq, .inl (g 0, 8, .inl (fsq))) :: (uq, .inl (g 2, 128, .inl (fu))) :: (gq, .inl (g 0, 7, .inl (fg))) :: wm) H := hP
  have hD : va_D A ((mo, .inr (6, [.int (th), .int (nI M), .int (nI kd), .int (nI (ckb kd M)), .int (nI (nk kd)), .ref wi, .ref ck, .ref fq, .ref co, .int (nI (grsK kd M)), .int (nI ifo), .int (nI fl), .long (lN v), .int (mk), .int (bi), .long (wo9), .int (ch9), .int (tu9), .ref sq, .ref uq, .ref gq])) :: (wi, .inl (g 0, 4, .inl (fw))) :: (ck, .inl (g 0, 4, .inl (fc))) :: (fq, .inl (g 0, 4, .inl (ff))) :: (co, .inl (g 0, 228, .inl (fco))) :: (sq, .inl (g 0, 8, .inl (fsq))) :: (uq, .inl (g 2, 128, .inl (fu))) :: (gq, .inl (g 0, 7, .inl (fg))) :: wm) := hD
  refine lv_aload_n hx hb d_M_reading_5 rfl (lv_at hl 0 rfl) ?_
  refine lv_iload_n hx hb d_M_reading_6 rfl (lv_at hl 2 rfl) ?_
  refine va_put (D := D) (ci := 6) (v := .int (nI c0)) (ty := .int) (C := R_M) (T := F_M) (N := 21) hx hb hts i_M tf_M tf_M_ok nf_M hown hK hP hD hS 0 rfl rfl 13 (by decide) (hts _ m_616) (fun _ h9 => h9) rfl (by decide +kernel) rfl rfl (Nat.le_of_ble_eq_true rfl) d_M_reading_7 (fun H locs hP hD hS => ?_)
  have hP : va_P D vwCl ((mo, .inr (6, [.int (th), .int (nI M), .int (nI kd), .int (nI (ckb kd M)), .int (nI (nk kd)), .ref wi, .ref ck, .ref fq, .ref co, .int (nI (grsK kd M)), .int (nI ifo), .int (nI fl), .long (lN v), .int (nI c0), .int (bi), .long (wo9), .int (ch9), .int (tu9), .ref sq, .ref uq, .ref gq])) :: (wi, .inl (g 0, 4, .inl (fw))) :: (ck, .inl (g 0, 4, .inl (fc))) :: (fq, .inl (g 0, 4, .inl (ff))) :: (co, .inl (g 0, 228, .inl (fco))) :: (sq, .inl (g 0, 8, .inl (fsq))) :: (uq, .inl (g 2, 128, .inl (fu))) :: (gq, .inl (g 0, 7, .inl (fg))) :: wm) H := hP
  have hD : va_D A ((mo, .inr (6, [.int (th), .int (nI M), .int (nI kd), .int (nI (ckb kd M)), .int (nI (nk kd)), .ref wi, .ref ck, .ref fq, .ref co, .int (nI (grsK kd M)), .int (nI ifo), .int (nI fl), .long (lN v), .int (nI c0), .int (bi), .long (wo9), .int (ch9), .int (tu9), .ref sq, .ref uq, .ref gq])) :: (wi, .inl (g 0, 4, .inl (fw))) :: (ck, .inl (g 0, 4, .inl (fc))) :: (fq, .inl (g 0, 4, .inl (ff))) :: (co, .inl (g 0, 228, .inl (fco))) :: (sq, .inl (g 0, 8, .inl (fsq))) :: (uq, .inl (g 2, 128, .inl (fu))) :: (gq, .inl (g 0, 7, .inl (fg))) :: wm) := hD
  refine lv_aload_n hx hb d_M_reading_10 rfl (lv_at hl 0 rfl) ?_
  refine lv_iconst (v := nI 0) hx hb d_M_reading_11 (by decide) ?_
  refine va_put (D := D) (ci := 6) (v := .int (nI 0)) (ty := .int) (C := R_M) (T := F_M) (N := 21) hx hb hts i_M tf_M tf_M_ok nf_M hown hK hP hD hS 0 rfl rfl 14 (by decide) (hts _ m_617) (fun _ h9 => h9) rfl (by decide +kernel) rfl rfl (Nat.le_of_ble_eq_true rfl) d_M_reading_12 (fun H locs hP hD hS => ?_)
  have hP : va_P D vwCl ((mo, .inr (6, [.int (th), .int (nI M), .int (nI kd), .int (nI (ckb kd M)), .int (nI (nk kd)), .ref wi, .ref ck, .ref fq, .ref co, .int (nI (grsK kd M)), .int (nI ifo), .int (nI fl), .long (lN v), .int (nI c0), .int (nI 0), .long (wo9), .int (ch9), .int (tu9), .ref sq, .ref uq, .ref gq])) :: (wi, .inl (g 0, 4, .inl (fw))) :: (ck, .inl (g 0, 4, .inl (fc))) :: (fq, .inl (g 0, 4, .inl (ff))) :: (co, .inl (g 0, 228, .inl (fco))) :: (sq, .inl (g 0, 8, .inl (fsq))) :: (uq, .inl (g 2, 128, .inl (fu))) :: (gq, .inl (g 0, 7, .inl (fg))) :: wm) H := hP
  have hD : va_D A ((mo, .inr (6, [.int (th), .int (nI M), .int (nI kd), .int (nI (ckb kd M)), .int (nI (nk kd)), .ref wi, .ref ck, .ref fq, .ref co, .int (nI (grsK kd M)), .int (nI ifo), .int (nI fl), .long (lN v), .int (nI c0), .int (nI 0), .long (wo9), .int (ch9), .int (tu9), .ref sq, .ref uq, .ref gq])) :: (wi, .inl (g 0, 4, .inl (fw))) :: (ck, .inl (g 0, 4, .inl (fc))) :: (fq, .inl (g 0, 4, .inl (ff))) :: (co, .inl (g 0, 228, .inl (fco))) :: (sq, .inl (g 0, 8, .inl (fsq))) :: (uq, .inl (g 2, 128, .inl (fu))) :: (gq, .inl (g 0, 7, .inl (fg))) :: wm) := hD
  refine lv_iload_n hx hb d_M_reading_15 rfl (lv_at hl 2 rfl) ?_
  refine lv_aload_n hx hb d_M_reading_16 rfl (lv_at hl 0 rfl) ?_
  refine lc_Vi (b := mo) (As := []) (rest := [.int (nI c0)]) ⟨hx, hb, hml, hown, hts⟩ (c_M_folded l D g _ wm mo wi ck fq co sq uq gq kd M ifo fl th (nI c0) (nI 0) ch9 tu9 (lN v) wo9 fw fc ff fco fsq fu fg hM0 hM hif) (kV 0 hts m_703 m_700 m_702 m_16 m_40 (by decide +kernel) ⟨Nat.le_of_ble_eq_true rfl, Nat.le_of_ble_eq_true rfl⟩) (va_recv hK hP (ci := 6) (q0 := 0) rfl rfl) hKK hP hD hS hA hl.1 rfl rfl (Nat.le_of_ble_eq_true rfl) d_M_reading_17 ⟨Nat.le_of_ble_eq_true rfl, Nat.le_of_ble_eq_true rfl⟩ (fun r1 u1 H locs e1 hP hD hS => ?_)
  obtain rfl : r1 = nI (if ifo = 1 then fl else 0) := e1
  refine lx_ixor (z := nI (c0 ^^^ (if ifo = 1 then fl else 0))) hx hb d_M_reading_20 (xn_xor c0 (if ifo = 1 then fl else 0)) ?_
  refine lv_aload_n hx hb d_M_reading_21 rfl (lv_at hl 0 rfl) ?_
  refine lv_lload_n hx hb d_M_reading_22 rfl (lv_at hl 1 rfl) ?_
  refine lc_Vi (b := mo) (As := [.long (lN v)]) (rest := [.int (nI (c0 ^^^ (if ifo = 1 then fl else 0)))]) ⟨hx, hb, hml, hown, hts⟩ (c_M_plainCheck l D g _ wm mo wi ck fq co sq uq gq kd M ifo fl th (nI c0) (nI 0) ch9 tu9 (lN v) wo9 fw fc ff fco fsq fu fg hM0 hM v hv hkd hmw) (kV 1 hts m_707 m_704 m_706 m_17 m_40 (by decide +kernel) ⟨Nat.le_of_ble_eq_true rfl, Nat.le_of_ble_eq_true rfl⟩) (va_recv hK hP (ci := 6) (q0 := 0) rfl rfl) hKK hP hD hS hA hl.1 rfl rfl (Nat.le_of_ble_eq_true rfl) d_M_reading_23 ⟨Nat.le_of_ble_eq_true rfl, Nat.le_of_ble_eq_true rfl⟩ (fun r2 u2 H locs e2 hP hD hS => ?_)
  obtain rfl : r2 = nI (xs (mrk kd M) v M) := e2
  refine lx_ixor (z := nI ((c0 ^^^ (if ifo = 1 then fl else 0)) ^^^ xs (mrk kd M) v M)) hx hb d_M_reading_26 (xn_xor _ _) ?_
  refine lv_istore (lv' := [(4, .int (nI ((c0 ^^^ (if ifo = 1 then fl else 0)) ^^^ xs (mrk kd M) v M))), (0, .ref mo), (1, .long (lN v)), (3, .int (nI c0))]) hx hb d_M_reading_27 hl (by decide) rfl (fun ls hl => ?_)
  refine lv_aload_n hx hb d_M_reading_29 rfl (lv_at hl 1 rfl) ?_
  refine va_get (D := D) (ci := 6) (v := .int (nI kd)) (C := R_M) (T := F_M) (N := 21) hx hb hts i_M hown hK hP 0 rfl rfl 2 (by decide) (hts _ m_605) (fun _ h9 => h9) rfl d_M_reading_30 ?_
  refine lv_iconst (v := nI 1) hx hb d_M_reading_33 (by decide) ?_
  refine lx_icmp_ne (tgt := 48) hx hb d_M_reading_34 (by decide) (by omega) (by omega) (fun c34 => ?_) (fun c34 => ?_)
  · skip
    refine lv_aload_n hx hb d_M_reading_48 rfl (lv_at hl 1 rfl) ?_
    refine va_get (D := D) (ci := 6) (v := .int (nI kd)) (C := R_M) (T := F_M) (N := 21) hx hb hts i_M hown hK hP 0 rfl rfl 2 (by decide) (hts _ m_605) (fun _ h9 => h9) rfl d_M_reading_49 ?_
    refine lv_iconst (v := nI 2) hx hb d_M_reading_52 (by decide) ?_
    refine lx_icmp_ne (tgt := 65) hx hb d_M_reading_53 (by decide) (by omega) (by omega) (fun c53 => ?_) (fun c53 => ?_)
    · skip
      have hs9 : kd = 0 ∨ kd = 3 := by omega
      have ej : jd kd M ((c0 ^^^ (if ifo = 1 then fl else 0)) ^^^ xs (mrk kd M) v M) = jdS M (nk kd) ((c0 ^^^ (if ifo = 1 then fl else 0)) ^^^ xs (mrk kd M) v M) := by rcases hs9 with rfl | rfl <;> rfl
      refine lv_aload_n hx hb d_M_reading_65 rfl (lv_at hl 1 rfl) ?_
      refine lv_iload hx hb d_M_reading_66 (lv_at hl 0 rfl) ?_
      refine lv_lload_n hx hb d_M_reading_68 rfl (lv_at hl 2 rfl) ?_
      refine lv_iload_n hx hb d_M_reading_69 rfl (lv_at hl 3 rfl) ?_
      refine lc_Vi (b := mo) (As := [.int (nI ((c0 ^^^ (if ifo = 1 then fl else 0)) ^^^ xs (mrk kd M) v M)), .long (lN v), .int (nI c0)]) (rest := []) ⟨hx, hb, hml, hown, hts⟩ (c_M_mendSums l D g _ wm mo wi ck fq co sq uq gq kd M ifo fl v c0 0 th ch9 tu9 wo9 fw fc ff fco fsq fu fg hM0 hM ((c0 ^^^ (if ifo = 1 then fl else 0)) ^^^ xs (mrk kd M) v M) hkd hmw hs9 (by omega)) (kV 3 hts m_746 m_743 m_745 m_23 m_40 (by decide +kernel) ⟨Nat.le_of_ble_eq_true rfl, Nat.le_of_ble_eq_true rfl⟩) (va_recv hK hP (ci := 6) (q0 := 0) rfl rfl) hKK hP hD hS hA hl.1 rfl rfl (Nat.le_of_ble_eq_true rfl) d_M_reading_70 ⟨Nat.le_of_ble_eq_true rfl, Nat.le_of_ble_eq_true rfl⟩ (fun r3 u3 H locs e3 hP hD hS => ?_)
      have hP : va_P D vwCl ((mo, .inr (6, [.int (th), .int (nI M), .int (nI kd), .int (nI (ckb kd M)), .int (nI (nk kd)), .ref wi, .ref ck, .ref fq, .ref co, .int (nI (grsK kd M)), .int (nI ifo), .int (nI fl), .long (lN (v ^^^ (jdS M (nk kd) ((c0 ^^^ (if ifo = 1 then fl else 0)) ^^^ xs (mrk kd M) v M)).2.1)), .int (nI (c0 ^^^ (jdS M (nk kd) ((c0 ^^^ (if ifo = 1 then fl else 0)) ^^^ xs (mrk kd M) v M)).2.2)), .int (nI (pcn 64 (jdS M (nk kd) ((c0 ^^^ (if ifo = 1 then fl else 0)) ^^^ xs (mrk kd M) v M)).2.1 + pcn 32 (jdS M (nk kd) ((c0 ^^^ (if ifo = 1 then fl else 0)) ^^^ xs (mrk kd M) v M)).2.2)), .long (wo9), .int (ch9), .int (tu9), .ref sq, .ref uq, .ref gq])) :: (wi, .inl (g 0, 4, .inl (fw))) :: (ck, .inl (g 0, 4, .inl (fc))) :: (fq, .inl (g 0, 4, .inl (ff))) :: (co, .inl (g 0, 228, .inl (fco))) :: (sq, .inl (g 0, 8, .inl (fsq))) :: (uq, .inl (g 2, 128, .inl (fu))) :: (gq, .inl (g 0, 7, .inl (fg))) :: wm) H := hP
      have hD : va_D A ((mo, .inr (6, [.int (th), .int (nI M), .int (nI kd), .int (nI (ckb kd M)), .int (nI (nk kd)), .ref wi, .ref ck, .ref fq, .ref co, .int (nI (grsK kd M)), .int (nI ifo), .int (nI fl), .long (lN (v ^^^ (jdS M (nk kd) ((c0 ^^^ (if ifo = 1 then fl else 0)) ^^^ xs (mrk kd M) v M)).2.1)), .int (nI (c0 ^^^ (jdS M (nk kd) ((c0 ^^^ (if ifo = 1 then fl else 0)) ^^^ xs (mrk kd M) v M)).2.2)), .int (nI (pcn 64 (jdS M (nk kd) ((c0 ^^^ (if ifo = 1 then fl else 0)) ^^^ xs (mrk kd M) v M)).2.1 + pcn 32 (jdS M (nk kd) ((c0 ^^^ (if ifo = 1 then fl else 0)) ^^^ xs (mrk kd M) v M)).2.2)), .long (wo9), .int (ch9), .int (tu9), .ref sq, .ref uq, .ref gq])) :: (wi, .inl (g 0, 4, .inl (fw))) :: (ck, .inl (g 0, 4, .inl (fc))) :: (fq, .inl (g 0, 4, .inl (ff))) :: (co, .inl (g 0, 228, .inl (fco))) :: (sq, .inl (g 0, 8, .inl (fsq))) :: (uq, .inl (g 2, 128, .inl (fu))) :: (gq, .inl (g 0, 7, .inl (fg))) :: wm) := hD
      rw [← ej] at hP hD
      have hP : va_P D vwCl ((mo, .inr (6, [.int (th), .int (nI M), .int (nI kd), .int (nI (ckb kd M)), .int (nI (nk kd)), .ref wi, .ref ck, .ref fq, .ref co, .int (nI (grsK kd M)), .int (nI ifo), .int (nI fl), .long (lN (v ^^^ (jd kd M ((c0 ^^^ (if ifo = 1 then fl else 0)) ^^^ xs (mrk kd M) v M)).2.1)), .int (nI (c0 ^^^ (jd kd M ((c0 ^^^ (if ifo = 1 then fl else 0)) ^^^ xs (mrk kd M) v M)).2.2)), .int (nI (pcn 64 (jd kd M ((c0 ^^^ (if ifo = 1 then fl else 0)) ^^^ xs (mrk kd M) v M)).2.1 + pcn 32 (jd kd M ((c0 ^^^ (if ifo = 1 then fl else 0)) ^^^ xs (mrk kd M) v M)).2.2)), .long (wo9), .int (ch9), .int (tu9), .ref sq, .ref uq, .ref gq])) :: (wi, .inl (g 0, 4, .inl (fw))) :: (ck, .inl (g 0, 4, .inl (fc))) :: (fq, .inl (g 0, 4, .inl (ff))) :: (co, .inl (g 0, 228, .inl (fco))) :: (sq, .inl (g 0, 8, .inl (fsq))) :: (uq, .inl (g 2, 128, .inl (fu))) :: (gq, .inl (g 0, 7, .inl (fg))) :: wm) H := hP
      have hD : va_D A ((mo, .inr (6, [.int (th), .int (nI M), .int (nI kd), .int (nI (ckb kd M)), .int (nI (nk kd)), .ref wi, .ref ck, .ref fq, .ref co, .int (nI (grsK kd M)), .int (nI ifo), .int (nI fl), .long (lN (v ^^^ (jd kd M ((c0 ^^^ (if ifo = 1 then fl else 0)) ^^^ xs (mrk kd M) v M)).2.1)), .int (nI (c0 ^^^ (jd kd M ((c0 ^^^ (if ifo = 1 then fl else 0)) ^^^ xs (mrk kd M) v M)).2.2)), .int (nI (pcn 64 (jd kd M ((c0 ^^^ (if ifo = 1 then fl else 0)) ^^^ xs (mrk kd M) v M)).2.1 + pcn 32 (jd kd M ((c0 ^^^ (if ifo = 1 then fl else 0)) ^^^ xs (mrk kd M) v M)).2.2)), .long (wo9), .int (ch9), .int (tu9), .ref sq, .ref uq, .ref gq])) :: (wi, .inl (g 0, 4, .inl (fw))) :: (ck, .inl (g 0, 4, .inl (fc))) :: (fq, .inl (g 0, 4, .inl (ff))) :: (co, .inl (g 0, 228, .inl (fco))) :: (sq, .inl (g 0, 8, .inl (fsq))) :: (uq, .inl (g 2, 128, .inl (fu))) :: (gq, .inl (g 0, 7, .inl (fg))) :: wm) := hD
      rw [← hQ]
      refine W.iret (v := r3) hx hb hr ?_ hS.2.2 d_M_reading_73
      exact fun t ht hW => ⟨⟨r3, (), rfl, by rw [ej]; exact e3, by rw [ht]; exact hP, hD⟩, hS.F ht⟩
    · skip
      have ej : jd kd M ((c0 ^^^ (if ifo = 1 then fl else 0)) ^^^ xs (mrk kd M) v M) = jdN M ((c0 ^^^ (if ifo = 1 then fl else 0)) ^^^ xs (mrk kd M) v M) := by subst c53; rfl
      have hy12 : (c0 ^^^ (if ifo = 1 then fl else 0)) ^^^ xs (mrk kd M) v M < 4096 := by rw [show ckb kd M = 12 by rw [c53]; rfl] at hsy; exact hsy
      refine lv_aload_n hx hb d_M_reading_56 rfl (lv_at hl 1 rfl) ?_
      refine lv_iload hx hb d_M_reading_57 (lv_at hl 0 rfl) ?_
      refine lc_Vi (b := mo) (As := [.int (nI ((c0 ^^^ (if ifo = 1 then fl else 0)) ^^^ xs (mrk kd M) v M))]) (rest := []) ⟨hx, hb, hml, hown, hts⟩ (c_M_mendNibbles l D g _ wm mo wi ck fq co sq uq gq kd M ifo fl v c0 0 th ch9 tu9 wo9 fw fc ff fco fsq fu fg hM0 hM ((c0 ^^^ (if ifo = 1 then fl else 0)) ^^^ xs (mrk kd M) v M) hy12) (kV 1 hts m_741 m_738 m_740 m_22 m_40 (by decide +kernel) ⟨Nat.le_of_ble_eq_true rfl, Nat.le_of_ble_eq_true rfl⟩) (va_recv hK hP (ci := 6) (q0 := 0) rfl rfl) hKK hP hD hS hA hl.1 rfl rfl (Nat.le_of_ble_eq_true rfl) d_M_reading_59 ⟨Nat.le_of_ble_eq_true rfl, Nat.le_of_ble_eq_true rfl⟩ (fun r3 u3 H locs e3 hP hD hS => ?_)
      have hP : va_P D vwCl ((mo, .inr (6, [.int (th), .int (nI M), .int (nI kd), .int (nI (ckb kd M)), .int (nI (nk kd)), .ref wi, .ref ck, .ref fq, .ref co, .int (nI (grsK kd M)), .int (nI ifo), .int (nI fl), .long (lN (v ^^^ (jdN M ((c0 ^^^ (if ifo = 1 then fl else 0)) ^^^ xs (mrk kd M) v M)).2.1)), .int (nI (c0 ^^^ (jdN M ((c0 ^^^ (if ifo = 1 then fl else 0)) ^^^ xs (mrk kd M) v M)).2.2)), .int (nI (pcn 64 (jdN M ((c0 ^^^ (if ifo = 1 then fl else 0)) ^^^ xs (mrk kd M) v M)).2.1 + pcn 32 (jdN M ((c0 ^^^ (if ifo = 1 then fl else 0)) ^^^ xs (mrk kd M) v M)).2.2)), .long (wo9), .int (ch9), .int (tu9), .ref sq, .ref uq, .ref gq])) :: (wi, .inl (g 0, 4, .inl (fw))) :: (ck, .inl (g 0, 4, .inl (fc))) :: (fq, .inl (g 0, 4, .inl (ff))) :: (co, .inl (g 0, 228, .inl (fco))) :: (sq, .inl (g 0, 8, .inl (fsq))) :: (uq, .inl (g 2, 128, .inl (fu))) :: (gq, .inl (g 0, 7, .inl (fg))) :: wm) H := hP
      have hD : va_D A ((mo, .inr (6, [.int (th), .int (nI M), .int (nI kd), .int (nI (ckb kd M)), .int (nI (nk kd)), .ref wi, .ref ck, .ref fq, .ref co, .int (nI (grsK kd M)), .int (nI ifo), .int (nI fl), .long (lN (v ^^^ (jdN M ((c0 ^^^ (if ifo = 1 then fl else 0)) ^^^ xs (mrk kd M) v M)).2.1)), .int (nI (c0 ^^^ (jdN M ((c0 ^^^ (if ifo = 1 then fl else 0)) ^^^ xs (mrk kd M) v M)).2.2)), .int (nI (pcn 64 (jdN M ((c0 ^^^ (if ifo = 1 then fl else 0)) ^^^ xs (mrk kd M) v M)).2.1 + pcn 32 (jdN M ((c0 ^^^ (if ifo = 1 then fl else 0)) ^^^ xs (mrk kd M) v M)).2.2)), .long (wo9), .int (ch9), .int (tu9), .ref sq, .ref uq, .ref gq])) :: (wi, .inl (g 0, 4, .inl (fw))) :: (ck, .inl (g 0, 4, .inl (fc))) :: (fq, .inl (g 0, 4, .inl (ff))) :: (co, .inl (g 0, 228, .inl (fco))) :: (sq, .inl (g 0, 8, .inl (fsq))) :: (uq, .inl (g 2, 128, .inl (fu))) :: (gq, .inl (g 0, 7, .inl (fg))) :: wm) := hD
      refine lv_goto (tgt := 73) hx hb d_M_reading_62 (by decide) ?_
      rw [← ej] at hP hD
      have hP : va_P D vwCl ((mo, .inr (6, [.int (th), .int (nI M), .int (nI kd), .int (nI (ckb kd M)), .int (nI (nk kd)), .ref wi, .ref ck, .ref fq, .ref co, .int (nI (grsK kd M)), .int (nI ifo), .int (nI fl), .long (lN (v ^^^ (jd kd M ((c0 ^^^ (if ifo = 1 then fl else 0)) ^^^ xs (mrk kd M) v M)).2.1)), .int (nI (c0 ^^^ (jd kd M ((c0 ^^^ (if ifo = 1 then fl else 0)) ^^^ xs (mrk kd M) v M)).2.2)), .int (nI (pcn 64 (jd kd M ((c0 ^^^ (if ifo = 1 then fl else 0)) ^^^ xs (mrk kd M) v M)).2.1 + pcn 32 (jd kd M ((c0 ^^^ (if ifo = 1 then fl else 0)) ^^^ xs (mrk kd M) v M)).2.2)), .long (wo9), .int (ch9), .int (tu9), .ref sq, .ref uq, .ref gq])) :: (wi, .inl (g 0, 4, .inl (fw))) :: (ck, .inl (g 0, 4, .inl (fc))) :: (fq, .inl (g 0, 4, .inl (ff))) :: (co, .inl (g 0, 228, .inl (fco))) :: (sq, .inl (g 0, 8, .inl (fsq))) :: (uq, .inl (g 2, 128, .inl (fu))) :: (gq, .inl (g 0, 7, .inl (fg))) :: wm) H := hP
      have hD : va_D A ((mo, .inr (6, [.int (th), .int (nI M), .int (nI kd), .int (nI (ckb kd M)), .int (nI (nk kd)), .ref wi, .ref ck, .ref fq, .ref co, .int (nI (grsK kd M)), .int (nI ifo), .int (nI fl), .long (lN (v ^^^ (jd kd M ((c0 ^^^ (if ifo = 1 then fl else 0)) ^^^ xs (mrk kd M) v M)).2.1)), .int (nI (c0 ^^^ (jd kd M ((c0 ^^^ (if ifo = 1 then fl else 0)) ^^^ xs (mrk kd M) v M)).2.2)), .int (nI (pcn 64 (jd kd M ((c0 ^^^ (if ifo = 1 then fl else 0)) ^^^ xs (mrk kd M) v M)).2.1 + pcn 32 (jd kd M ((c0 ^^^ (if ifo = 1 then fl else 0)) ^^^ xs (mrk kd M) v M)).2.2)), .long (wo9), .int (ch9), .int (tu9), .ref sq, .ref uq, .ref gq])) :: (wi, .inl (g 0, 4, .inl (fw))) :: (ck, .inl (g 0, 4, .inl (fc))) :: (fq, .inl (g 0, 4, .inl (ff))) :: (co, .inl (g 0, 228, .inl (fco))) :: (sq, .inl (g 0, 8, .inl (fsq))) :: (uq, .inl (g 2, 128, .inl (fu))) :: (gq, .inl (g 0, 7, .inl (fg))) :: wm) := hD
      rw [← hQ]
      refine W.iret (v := r3) hx hb hr ?_ hS.2.2 d_M_reading_73
      exact fun t ht hW => ⟨⟨r3, (), rfl, by rw [ej]; exact e3, by rw [ht]; exact hP, hD⟩, hS.F ht⟩
  · skip
    have ej : jd kd M ((c0 ^^^ (if ifo = 1 then fl else 0)) ^^^ xs (mrk kd M) v M) = jdP ((c0 ^^^ (if ifo = 1 then fl else 0)) ^^^ xs (mrk kd M) v M) := by subst c34; rfl
    refine lv_iload hx hb d_M_reading_37 (lv_at hl 0 rfl) ?_
    refine lx_if_ne (tgt := 46) hx hb d_M_reading_39 (by decide) (by omega) (fun c39 => ?_) (fun c39 => ?_)
    · skip
      have ek : jd kd M ((c0 ^^^ (if ifo = 1 then fl else 0)) ^^^ xs (mrk kd M) v M) = (2, 0, 0) := by rw [ej]; unfold jdP; rw [if_neg c39]
      refine lv_iconst (v := nI 2) hx hb d_M_reading_46 (by decide) ?_
      have hP : va_P D vwCl ((mo, .inr (6, [.int (th), .int (nI M), .int (nI kd), .int (nI (ckb kd M)), .int (nI (nk kd)), .ref wi, .ref ck, .ref fq, .ref co, .int (nI (grsK kd M)), .int (nI ifo), .int (nI fl), .long (lN (v ^^^ (jd kd M ((c0 ^^^ (if ifo = 1 then fl else 0)) ^^^ xs (mrk kd M) v M)).2.1)), .int (nI (c0 ^^^ (jd kd M ((c0 ^^^ (if ifo = 1 then fl else 0)) ^^^ xs (mrk kd M) v M)).2.2)), .int (nI (pcn 64 (jd kd M ((c0 ^^^ (if ifo = 1 then fl else 0)) ^^^ xs (mrk kd M) v M)).2.1 + pcn 32 (jd kd M ((c0 ^^^ (if ifo = 1 then fl else 0)) ^^^ xs (mrk kd M) v M)).2.2)), .long (wo9), .int (ch9), .int (tu9), .ref sq, .ref uq, .ref gq])) :: (wi, .inl (g 0, 4, .inl (fw))) :: (ck, .inl (g 0, 4, .inl (fc))) :: (fq, .inl (g 0, 4, .inl (ff))) :: (co, .inl (g 0, 228, .inl (fco))) :: (sq, .inl (g 0, 8, .inl (fsq))) :: (uq, .inl (g 2, 128, .inl (fu))) :: (gq, .inl (g 0, 7, .inl (fg))) :: wm) H := by rw [ek, show v ^^^ ((2, 0, 0) : Nat × Nat × Nat).2.1 = v from Nat.xor_zero v, show c0 ^^^ ((2, 0, 0) : Nat × Nat × Nat).2.2 = c0 from Nat.xor_zero c0, show pcn 64 ((2, 0, 0) : Nat × Nat × Nat).2.1 + pcn 32 ((2, 0, 0) : Nat × Nat × Nat).2.2 = 0 from by decide]; exact hP
      have hD : va_D A ((mo, .inr (6, [.int (th), .int (nI M), .int (nI kd), .int (nI (ckb kd M)), .int (nI (nk kd)), .ref wi, .ref ck, .ref fq, .ref co, .int (nI (grsK kd M)), .int (nI ifo), .int (nI fl), .long (lN (v ^^^ (jd kd M ((c0 ^^^ (if ifo = 1 then fl else 0)) ^^^ xs (mrk kd M) v M)).2.1)), .int (nI (c0 ^^^ (jd kd M ((c0 ^^^ (if ifo = 1 then fl else 0)) ^^^ xs (mrk kd M) v M)).2.2)), .int (nI (pcn 64 (jd kd M ((c0 ^^^ (if ifo = 1 then fl else 0)) ^^^ xs (mrk kd M) v M)).2.1 + pcn 32 (jd kd M ((c0 ^^^ (if ifo = 1 then fl else 0)) ^^^ xs (mrk kd M) v M)).2.2)), .long (wo9), .int (ch9), .int (tu9), .ref sq, .ref uq, .ref gq])) :: (wi, .inl (g 0, 4, .inl (fw))) :: (ck, .inl (g 0, 4, .inl (fc))) :: (fq, .inl (g 0, 4, .inl (ff))) :: (co, .inl (g 0, 228, .inl (fco))) :: (sq, .inl (g 0, 8, .inl (fsq))) :: (uq, .inl (g 2, 128, .inl (fu))) :: (gq, .inl (g 0, 7, .inl (fg))) :: wm) := hD.set (p := 0) rfl
      rw [← hQ]
      refine W.iret (v := nI 2) hx hb hr ?_ hS.2.2 d_M_reading_47
      exact fun t ht hW => ⟨⟨nI 2, (), rfl, by rw [ek], by rw [ht]; exact hP, hD⟩, hS.F ht⟩
    · skip
      have ek : jd kd M ((c0 ^^^ (if ifo = 1 then fl else 0)) ^^^ xs (mrk kd M) v M) = (0, 0, 0) := by rw [ej]; unfold jdP; rw [if_pos c39]
      refine lv_iconst (v := nI 0) hx hb d_M_reading_42 (by decide) ?_
      refine lv_goto (tgt := 47) hx hb d_M_reading_43 (by decide) ?_
      have hP : va_P D vwCl ((mo, .inr (6, [.int (th), .int (nI M), .int (nI kd), .int (nI (ckb kd M)), .int (nI (nk kd)), .ref wi, .ref ck, .ref fq, .ref co, .int (nI (grsK kd M)), .int (nI ifo), .int (nI fl), .long (lN (v ^^^ (jd kd M ((c0 ^^^ (if ifo = 1 then fl else 0)) ^^^ xs (mrk kd M) v M)).2.1)), .int (nI (c0 ^^^ (jd kd M ((c0 ^^^ (if ifo = 1 then fl else 0)) ^^^ xs (mrk kd M) v M)).2.2)), .int (nI (pcn 64 (jd kd M ((c0 ^^^ (if ifo = 1 then fl else 0)) ^^^ xs (mrk kd M) v M)).2.1 + pcn 32 (jd kd M ((c0 ^^^ (if ifo = 1 then fl else 0)) ^^^ xs (mrk kd M) v M)).2.2)), .long (wo9), .int (ch9), .int (tu9), .ref sq, .ref uq, .ref gq])) :: (wi, .inl (g 0, 4, .inl (fw))) :: (ck, .inl (g 0, 4, .inl (fc))) :: (fq, .inl (g 0, 4, .inl (ff))) :: (co, .inl (g 0, 228, .inl (fco))) :: (sq, .inl (g 0, 8, .inl (fsq))) :: (uq, .inl (g 2, 128, .inl (fu))) :: (gq, .inl (g 0, 7, .inl (fg))) :: wm) H := by rw [ek, show v ^^^ ((0, 0, 0) : Nat × Nat × Nat).2.1 = v from Nat.xor_zero v, show c0 ^^^ ((0, 0, 0) : Nat × Nat × Nat).2.2 = c0 from Nat.xor_zero c0, show pcn 64 ((0, 0, 0) : Nat × Nat × Nat).2.1 + pcn 32 ((0, 0, 0) : Nat × Nat × Nat).2.2 = 0 from by decide]; exact hP
      have hD : va_D A ((mo, .inr (6, [.int (th), .int (nI M), .int (nI kd), .int (nI (ckb kd M)), .int (nI (nk kd)), .ref wi, .ref ck, .ref fq, .ref co, .int (nI (grsK kd M)), .int (nI ifo), .int (nI fl), .long (lN (v ^^^ (jd kd M ((c0 ^^^ (if ifo = 1 then fl else 0)) ^^^ xs (mrk kd M) v M)).2.1)), .int (nI (c0 ^^^ (jd kd M ((c0 ^^^ (if ifo = 1 then fl else 0)) ^^^ xs (mrk kd M) v M)).2.2)), .int (nI (pcn 64 (jd kd M ((c0 ^^^ (if ifo = 1 then fl else 0)) ^^^ xs (mrk kd M) v M)).2.1 + pcn 32 (jd kd M ((c0 ^^^ (if ifo = 1 then fl else 0)) ^^^ xs (mrk kd M) v M)).2.2)), .long (wo9), .int (ch9), .int (tu9), .ref sq, .ref uq, .ref gq])) :: (wi, .inl (g 0, 4, .inl (fw))) :: (ck, .inl (g 0, 4, .inl (fc))) :: (fq, .inl (g 0, 4, .inl (ff))) :: (co, .inl (g 0, 228, .inl (fco))) :: (sq, .inl (g 0, 8, .inl (fsq))) :: (uq, .inl (g 2, 128, .inl (fu))) :: (gq, .inl (g 0, 7, .inl (fg))) :: wm) := hD.set (p := 0) rfl
      rw [← hQ]
      refine W.iret (v := nI 0) hx hb hr ?_ hS.2.2 d_M_reading_47
      exact fun t ht hW => ⟨⟨nI 0, (), rfl, by rw [ek], by rw [ht]; exact hP, hD⟩, hS.F ht⟩
