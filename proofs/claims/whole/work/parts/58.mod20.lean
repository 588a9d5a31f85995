set_option maxRecDepth 20000 in
theorem m_790 : Cond.code y_M_answer b_M_answer 9 (some .int) ∈ wA := in_wA (List.mem_of_getElem? (i := 790) rfl) rfl
set_option maxRecDepth 20000 in
theorem m_787 : Cond.methodLink R_M 156 y_M_answer ∈ wA := in_wA (List.mem_of_getElem? (i := 787) rfl) rfl
set_option maxRecDepth 20000 in
theorem m_789 : Cond.instanceMethod y_M_answer ∈ wA := in_wA (List.mem_of_getElem? (i := 789) rfl) rfl
set_option maxRecDepth 20000 in
theorem m_28 : Cond.selects R_M y_M_answer y_M_answer ∈ wA := in_wA (List.mem_of_getElem? (i := 28) rfl) rfl
abbrev w_M_spareOf : List Cond := .code y_M_spareOf b_M_spareOf 4 (some .int) :: wA
abbrev rm_M_spareOf : Room := { frames := 1, cells := 0, slots := 0, locals := 22 }
theorem d_M_spareOf_0 : decode b_M_spareOf 0 = .ok (.aload_n 0, 1) := by decide +kernel
theorem d_M_spareOf_1 : decode b_M_spareOf 1 = .ok (.iload_n 1, 1) := by decide +kernel
theorem d_M_spareOf_2 : decode b_M_spareOf 2 = .ok (.iconst 0, 1) := by decide +kernel
theorem d_M_spareOf_3 : decode b_M_spareOf 3 = .ok (.ldc 139, 2) := by decide +kernel
theorem d_M_spareOf_5 : decode b_M_spareOf 5 = .ok (.invokestatic 131, 3) := by decide +kernel
theorem d_M_spareOf_8 : decode b_M_spareOf 8 = .ok (.ifCond .ne 7, 3) := by decide +kernel
theorem d_M_spareOf_11 : decode b_M_spareOf 11 = .ok (.iconst 1, 1) := by decide +kernel
theorem d_M_spareOf_12 : decode b_M_spareOf 12 = .ok (.goto 4, 3) := by decide +kernel
theorem d_M_spareOf_15 : decode b_M_spareOf 15 = .ok (.iconst 0, 1) := by decide +kernel
theorem d_M_spareOf_16 : decode b_M_spareOf 16 = .ok (.iconst 0, 1) := by decide +kernel
theorem d_M_spareOf_17 : decode b_M_spareOf 17 = .ok (.invokevirtual 135, 3) := by decide +kernel
theorem d_M_spareOf_20 : decode b_M_spareOf 20 = .ok (.ifCond .eq 5, 3) := by decide +kernel
theorem d_M_spareOf_23 : decode b_M_spareOf 23 = .ok (.iconst 0, 1) := by decide +kernel
theorem d_M_spareOf_24 : decode b_M_spareOf 24 = .ok (.ireturn, 1) := by decide +kernel
theorem d_M_spareOf_25 : decode b_M_spareOf 25 = .ok (.iconst (-1), 1) := by decide +kernel
theorem d_M_spareOf_26 : decode b_M_spareOf 26 = .ok (.istore_n 2, 1) := by decide +kernel
theorem d_M_spareOf_27 : decode b_M_spareOf 27 = .ok (.iconst 0, 1) := by decide +kernel
theorem d_M_spareOf_28 : decode b_M_spareOf 28 = .ok (.istore_n 3, 1) := by decide +kernel
theorem d_M_spareOf_29 : decode b_M_spareOf 29 = .ok (.iload_n 3, 1) := by decide +kernel
theorem d_M_spareOf_30 : decode b_M_spareOf 30 = .ok (.bipush 8, 2) := by decide +kernel
theorem d_M_spareOf_32 : decode b_M_spareOf 32 = .ok (.if_icmp .ge 25, 3) := by decide +kernel
theorem d_M_spareOf_35 : decode b_M_spareOf 35 = .ok (.aload_n 0, 1) := by decide +kernel
theorem d_M_spareOf_36 : decode b_M_spareOf 36 = .ok (.getfield 22, 3) := by decide +kernel
theorem d_M_spareOf_39 : decode b_M_spareOf 39 = .ok (.iload_n 3, 1) := by decide +kernel
theorem d_M_spareOf_40 : decode b_M_spareOf 40 = .ok (.iaload, 1) := by decide +kernel
theorem d_M_spareOf_41 : decode b_M_spareOf 41 = .ok (.iload_n 1, 1) := by decide +kernel
theorem d_M_spareOf_42 : decode b_M_spareOf 42 = .ok (.if_icmp .ne 7, 3) := by decide +kernel
theorem d_M_spareOf_45 : decode b_M_spareOf 45 = .ok (.iload_n 3, 1) := by decide +kernel
theorem d_M_spareOf_46 : decode b_M_spareOf 46 = .ok (.goto 4, 3) := by decide +kernel
theorem d_M_spareOf_49 : decode b_M_spareOf 49 = .ok (.iload_n 2, 1) := by decide +kernel
theorem d_M_spareOf_50 : decode b_M_spareOf 50 = .ok (.istore_n 2, 1) := by decide +kernel
theorem d_M_spareOf_51 : decode b_M_spareOf 51 = .ok (.iinc 3 1, 3) := by decide +kernel
theorem d_M_spareOf_54 : decode b_M_spareOf 54 = .ok (.goto (-25), 3) := by decide +kernel
theorem d_M_spareOf_57 : decode b_M_spareOf 57 = .ok (.iload_n 2, 1) := by decide +kernel
theorem d_M_spareOf_58 : decode b_M_spareOf 58 = .ok (.ireturn, 1) := by decide +kernel
abbrev w_M_spare : List Cond := .code y_M_spare b_M_spare 5 (some .int) :: wA
abbrev rm_M_spare : Room := { frames := 1, cells := 0, slots := 0, locals := 22 }
theorem d_M_spare_0 : decode b_M_spare 0 = .ok (.iconst (-1), 1) := by decide +kernel
theorem d_M_spare_1 : decode b_M_spare 1 = .ok (.istore_n 2, 1) := by decide +kernel
theorem d_M_spare_2 : decode b_M_spare 2 = .ok (.iconst (-1), 1) := by decide +kernel
theorem d_M_spare_3 : decode b_M_spare 3 = .ok (.istore_n 3, 1) := by decide +kernel
theorem d_M_spare_4 : decode b_M_spare 4 = .ok (.bipush 7, 2) := by decide +kernel
theorem d_M_spare_6 : decode b_M_spare 6 = .ok (.istore 4, 2) := by decide +kernel
theorem d_M_spare_8 : decode b_M_spare 8 = .ok (.iload 4, 2) := by decide +kernel
theorem d_M_spare_10 : decode b_M_spare 10 = .ok (.ifCond .lt 44, 3) := by decide +kernel
theorem d_M_spare_13 : decode b_M_spare 13 = .ok (.aload_n 0, 1) := by decide +kernel
theorem d_M_spare_14 : decode b_M_spare 14 = .ok (.getfield 22, 3) := by decide +kernel
theorem d_M_spare_17 : decode b_M_spare 17 = .ok (.iload 4, 2) := by decide +kernel
theorem d_M_spare_19 : decode b_M_spare 19 = .ok (.iaload, 1) := by decide +kernel
theorem d_M_spare_20 : decode b_M_spare 20 = .ok (.iload_n 1, 1) := by decide +kernel
theorem d_M_spare_21 : decode b_M_spare 21 = .ok (.if_icmp .ne 8, 3) := by decide +kernel
theorem d_M_spare_24 : decode b_M_spare 24 = .ok (.iload 4, 2) := by decide +kernel
theorem d_M_spare_26 : decode b_M_spare 26 = .ok (.goto 4, 3) := by decide +kernel
theorem d_M_spare_29 : decode b_M_spare 29 = .ok (.iload_n 2, 1) := by decide +kernel
theorem d_M_spare_30 : decode b_M_spare 30 = .ok (.istore_n 2, 1) := by decide +kernel
theorem d_M_spare_31 : decode b_M_spare 31 = .ok (.aload_n 0, 1) := by decide +kernel
theorem d_M_spare_32 : decode b_M_spare 32 = .ok (.getfield 22, 3) := by decide +kernel
theorem d_M_spare_35 : decode b_M_spare 35 = .ok (.iload 4, 2) := by decide +kernel
theorem d_M_spare_37 : decode b_M_spare 37 = .ok (.iaload, 1) := by decide +kernel
theorem d_M_spare_38 : decode b_M_spare 38 = .ok (.ifCond .ge 8, 3) := by decide +kernel
theorem d_M_spare_41 : decode b_M_spare 41 = .ok (.iload 4, 2) := by decide +kernel
theorem d_M_spare_43 : decode b_M_spare 43 = .ok (.goto 4, 3) := by decide +kernel
theorem d_M_spare_46 : decode b_M_spare 46 = .ok (.iload_n 3, 1) := by decide +kernel
theorem d_M_spare_47 : decode b_M_spare 47 = .ok (.istore_n 3, 1) := by decide +kernel
theorem d_M_spare_48 : decode b_M_spare 48 = .ok (.iinc 4 (-1), 3) := by decide +kernel
theorem d_M_spare_51 : decode b_M_spare 51 = .ok (.goto (-43), 3) := by decide +kernel
theorem d_M_spare_54 : decode b_M_spare 54 = .ok (.iload_n 1, 1) := by decide +kernel
theorem d_M_spare_55 : decode b_M_spare 55 = .ok (.iconst 0, 1) := by decide +kernel
theorem d_M_spare_56 : decode b_M_spare 56 = .ok (.ldc 139, 2) := by decide +kernel
theorem d_M_spare_58 : decode b_M_spare 58 = .ok (.invokestatic 131, 3) := by decide +kernel
theorem d_M_spare_61 : decode b_M_spare 61 = .ok (.ifCond .ne 7, 3) := by decide +kernel
theorem d_M_spare_64 : decode b_M_spare 64 = .ok (.iconst 1, 1) := by decide +kernel
theorem d_M_spare_65 : decode b_M_spare 65 = .ok (.goto 4, 3) := by decide +kernel
theorem d_M_spare_68 : decode b_M_spare 68 = .ok (.iconst 0, 1) := by decide +kernel
theorem d_M_spare_69 : decode b_M_spare 69 = .ok (.istore 4, 2) := by decide +kernel
theorem d_M_spare_71 : decode b_M_spare 71 = .ok (.aload_n 0, 1) := by decide +kernel
theorem d_M_spare_72 : decode b_M_spare 72 = .ok (.iload 4, 2) := by decide +kernel
theorem d_M_spare_74 : decode b_M_spare 74 = .ok (.iload_n 2, 1) := by decide +kernel
theorem d_M_spare_75 : decode b_M_spare 75 = .ok (.ifCond .ge 11, 3) := by decide +kernel
theorem d_M_spare_78 : decode b_M_spare 78 = .ok (.iload_n 3, 1) := by decide +kernel
theorem d_M_spare_79 : decode b_M_spare 79 = .ok (.ifCond .ge 7, 3) := by decide +kernel
theorem d_M_spare_82 : decode b_M_spare 82 = .ok (.iconst 1, 1) := by decide +kernel
theorem d_M_spare_83 : decode b_M_spare 83 = .ok (.goto 4, 3) := by decide +kernel
theorem d_M_spare_86 : decode b_M_spare 86 = .ok (.iconst 0, 1) := by decide +kernel
theorem d_M_spare_87 : decode b_M_spare 87 = .ok (.invokevirtual 135, 3) := by decide +kernel
theorem d_M_spare_90 : decode b_M_spare 90 = .ok (.ifCond .eq 5, 3) := by decide +kernel
theorem d_M_spare_93 : decode b_M_spare 93 = .ok (.iconst 0, 1) := by decide +kernel
theorem d_M_spare_94 : decode b_M_spare 94 = .ok (.ireturn, 1) := by decide +kernel
theorem d_M_spare_95 : decode b_M_spare 95 = .ok (.iload_n 2, 1) := by decide +kernel
theorem d_M_spare_96 : decode b_M_spare 96 = .ok (.ifCond .ge 7, 3) := by decide +kernel
theorem d_M_spare_99 : decode b_M_spare 99 = .ok (.iload_n 3, 1) := by decide +kernel
theorem d_M_spare_100 : decode b_M_spare 100 = .ok (.goto 4, 3) := by decide +kernel
theorem d_M_spare_103 : decode b_M_spare 103 = .ok (.iload_n 2, 1) := by decide +kernel
theorem d_M_spare_104 : decode b_M_spare 104 = .ok (.istore_n 2, 1) := by decide +kernel
theorem d_M_spare_105 : decode b_M_spare 105 = .ok (.aload_n 0, 1) := by decide +kernel
theorem d_M_spare_106 : decode b_M_spare 106 = .ok (.getfield 22, 3) := by decide +kernel
theorem d_M_spare_109 : decode b_M_spare 109 = .ok (.iload_n 2, 1) := by decide +kernel
theorem d_M_spare_110 : decode b_M_spare 110 = .ok (.iload_n 1, 1) := by decide +kernel
theorem d_M_spare_111 : decode b_M_spare 111 = .ok (.iastore, 1) := by decide +kernel
theorem d_M_spare_112 : decode b_M_spare 112 = .ok (.iload_n 2, 1) := by decide +kernel
theorem d_M_spare_113 : decode b_M_spare 113 = .ok (.ireturn, 1) := by decide +kernel
abbrev w_M_answer : List Cond := .code y_M_answer b_M_answer 9 (some .int) :: wA
abbrev rm_M_answer : Room := { frames := 6, cells := 0, slots := 0, locals := 145 }
theorem d_M_answer_0 : decode b_M_answer 0 = .ok (.lconst 0, 1) := by decide +kernel
theorem d_M_answer_1 : decode b_M_answer 1 = .ok (.lstore_n 3, 1) := by decide +kernel
theorem d_M_answer_2 : decode b_M_answer 2 = .ok (.aload_n 0, 1) := by decide +kernel
theorem d_M_answer_3 : decode b_M_answer 3 = .ok (.invokevirtual 111, 3) := by decide +kernel
theorem d_M_answer_6 : decode b_M_answer 6 = .ok (.istore 5, 2) := by decide +kernel
theorem d_M_answer_8 : decode b_M_answer 8 = .ok (.iconst 0, 1) := by decide +kernel
theorem d_M_answer_9 : decode b_M_answer 9 = .ok (.istore 6, 2) := by decide +kernel
theorem d_M_answer_11 : decode b_M_answer 11 = .ok (.iload 6, 2) := by decide +kernel
theorem d_M_answer_13 : decode b_M_answer 13 = .ok (.bipush 7, 2) := by decide +kernel
theorem d_M_answer_15 : decode b_M_answer 15 = .ok (.if_icmp .ge 89, 3) := by decide +kernel
theorem d_M_answer_18 : decode b_M_answer 18 = .ok (.iload_n 2, 1) := by decide +kernel
theorem d_M_answer_19 : decode b_M_answer 19 = .ok (.iload 6, 2) := by decide +kernel
theorem d_M_answer_21 : decode b_M_answer 21 = .ok (.iadd, 1) := by decide +kernel
theorem d_M_answer_22 : decode b_M_answer 22 = .ok (.istore 7, 2) := by decide +kernel
theorem d_M_answer_24 : decode b_M_answer 24 = .ok (.iload_n 1, 1) := by decide +kernel
theorem d_M_answer_25 : decode b_M_answer 25 = .ok (.iload 6, 2) := by decide +kernel
theorem d_M_answer_27 : decode b_M_answer 27 = .ok (.ishr, 1) := by decide +kernel
theorem d_M_answer_28 : decode b_M_answer 28 = .ok (.iconst 1, 1) := by decide +kernel
theorem d_M_answer_29 : decode b_M_answer 29 = .ok (.iand, 1) := by decide +kernel
theorem d_M_answer_30 : decode b_M_answer 30 = .ok (.iconst 1, 1) := by decide +kernel
theorem d_M_answer_31 : decode b_M_answer 31 = .ok (.if_icmp .ne 7, 3) := by decide +kernel
theorem d_M_answer_34 : decode b_M_answer 34 = .ok (.iconst 1, 1) := by decide +kernel
theorem d_M_answer_35 : decode b_M_answer 35 = .ok (.goto 4, 3) := by decide +kernel
theorem d_M_answer_38 : decode b_M_answer 38 = .ok (.iconst 0, 1) := by decide +kernel
theorem d_M_answer_39 : decode b_M_answer 39 = .ok (.istore 8, 2) := by decide +kernel
theorem d_M_answer_41 : decode b_M_answer 41 = .ok (.lload_n 3, 1) := by decide +kernel
theorem d_M_answer_42 : decode b_M_answer 42 = .ok (.iload 8, 2) := by decide +kernel
theorem d_M_answer_44 : decode b_M_answer 44 = .ok (.ifCond .eq 19, 3) := by decide +kernel
theorem d_M_answer_47 : decode b_M_answer 47 = .ok (.iload 7, 2) := by decide +kernel
theorem d_M_answer_49 : decode b_M_answer 49 = .ok (.aload_n 0, 1) := by decide +kernel
theorem d_M_answer_50 : decode b_M_answer 50 = .ok (.getfield 34, 3) := by decide +kernel
theorem d_M_answer_53 : decode b_M_answer 53 = .ok (.if_icmp .ge 10, 3) := by decide +kernel
theorem d_M_answer_56 : decode b_M_answer 56 = .ok (.lconst 1, 1) := by decide +kernel
theorem d_M_answer_57 : decode b_M_answer 57 = .ok (.iload 7, 2) := by decide +kernel
theorem d_M_answer_59 : decode b_M_answer 59 = .ok (.lshl, 1) := by decide +kernel
theorem d_M_answer_60 : decode b_M_answer 60 = .ok (.goto 4, 3) := by decide +kernel
theorem d_M_answer_63 : decode b_M_answer 63 = .ok (.lconst 0, 1) := by decide +kernel
theorem d_M_answer_64 : decode b_M_answer 64 = .ok (.lxor, 1) := by decide +kernel
theorem d_M_answer_65 : decode b_M_answer 65 = .ok (.lstore_n 3, 1) := by decide +kernel
theorem d_M_answer_66 : decode b_M_answer 66 = .ok (.iload 5, 2) := by decide +kernel
theorem d_M_answer_68 : decode b_M_answer 68 = .ok (.iload 8, 2) := by decide +kernel
theorem d_M_answer_70 : decode b_M_answer 70 = .ok (.ifCond .eq 24, 3) := by decide +kernel
theorem d_M_answer_73 : decode b_M_answer 73 = .ok (.iload 7, 2) := by decide +kernel
theorem d_M_answer_75 : decode b_M_answer 75 = .ok (.aload_n 0, 1) := by decide +kernel
theorem d_M_answer_76 : decode b_M_answer 76 = .ok (.getfield 34, 3) := by decide +kernel
theorem d_M_answer_79 : decode b_M_answer 79 = .ok (.if_icmp .lt 15, 3) := by decide +kernel
theorem d_M_answer_82 : decode b_M_answer 82 = .ok (.iconst 1, 1) := by decide +kernel
theorem d_M_answer_83 : decode b_M_answer 83 = .ok (.iload 7, 2) := by decide +kernel
theorem d_M_answer_85 : decode b_M_answer 85 = .ok (.aload_n 0, 1) := by decide +kernel
theorem d_M_answer_86 : decode b_M_answer 86 = .ok (.getfield 34, 3) := by decide +kernel
theorem d_M_answer_89 : decode b_M_answer 89 = .ok (.isub, 1) := by decide +kernel
theorem d_M_answer_90 : decode b_M_answer 90 = .ok (.ishl, 1) := by decide +kernel
theorem d_M_answer_91 : decode b_M_answer 91 = .ok (.goto 4, 3) := by decide +kernel
theorem d_M_answer_94 : decode b_M_answer 94 = .ok (.iconst 0, 1) := by decide +kernel
theorem d_M_answer_95 : decode b_M_answer 95 = .ok (.ixor, 1) := by decide +kernel
theorem d_M_answer_96 : decode b_M_answer 96 = .ok (.istore 5, 2) := by decide +kernel
theorem d_M_answer_98 : decode b_M_answer 98 = .ok (.iinc 6 1, 3) := by decide +kernel
theorem d_M_answer_101 : decode b_M_answer 101 = .ok (.goto (-90), 3) := by decide +kernel
theorem d_M_answer_104 : decode b_M_answer 104 = .ok (.aload_n 0, 1) := by decide +kernel
theorem d_M_answer_105 : decode b_M_answer 105 = .ok (.lload_n 3, 1) := by decide +kernel
theorem d_M_answer_106 : decode b_M_answer 106 = .ok (.iload 5, 2) := by decide +kernel
theorem d_M_answer_108 : decode b_M_answer 108 = .ok (.invokevirtual 124, 3) := by decide +kernel
theorem d_M_answer_111 : decode b_M_answer 111 = .ok (.ireturn, 1) := by decide +kernel
abbrev w_M_bursts : List Cond := .code y_M_bursts b_M_bursts 6 (some .boolean) :: wA
abbrev rm_M_bursts : Room := { frames := 7, cells := 0, slots := 0, locals := 173 }
theorem d_M_bursts_0 : decode b_M_bursts 0 = .ok (.aload_n 0, 1) := by decide +kernel
theorem d_M_bursts_1 : decode b_M_bursts 1 = .ok (.iload_n 1, 1) := by decide +kernel
theorem d_M_bursts_2 : decode b_M_bursts 2 = .ok (.iconst 1, 1) := by decide +kernel
theorem d_M_bursts_3 : decode b_M_bursts 3 = .ok (.bipush 6, 2) := by decide +kernel
theorem d_M_bursts_5 : decode b_M_bursts 5 = .ok (.invokestatic 131, 3) := by decide +kernel
theorem d_M_bursts_8 : decode b_M_bursts 8 = .ok (.ifCond .ne 7, 3) := by decide +kernel
theorem d_M_bursts_11 : decode b_M_bursts 11 = .ok (.iconst 1, 1) := by decide +kernel
theorem d_M_bursts_12 : decode b_M_bursts 12 = .ok (.goto 4, 3) := by decide +kernel
theorem d_M_bursts_15 : decode b_M_bursts 15 = .ok (.iconst 0, 1) := by decide +kernel
theorem d_M_bursts_16 : decode b_M_bursts 16 = .ok (.iconst 0, 1) := by decide +kernel
theorem d_M_bursts_17 : decode b_M_bursts 17 = .ok (.invokevirtual 135, 3) := by decide +kernel
theorem d_M_bursts_20 : decode b_M_bursts 20 = .ok (.ifCond .eq 5, 3) := by decide +kernel
theorem d_M_bursts_23 : decode b_M_bursts 23 = .ok (.iconst 0, 1) := by decide +kernel
theorem d_M_bursts_24 : decode b_M_bursts 24 = .ok (.ireturn, 1) := by decide +kernel
theorem d_M_bursts_25 : decode b_M_bursts 25 = .ok (.iconst 1, 1) := by decide +kernel
theorem d_M_bursts_26 : decode b_M_bursts 26 = .ok (.istore_n 2, 1) := by decide +kernel
theorem d_M_bursts_27 : decode b_M_bursts 27 = .ok (.iconst 1, 1) := by decide +kernel
theorem d_M_bursts_28 : decode b_M_bursts 28 = .ok (.istore_n 3, 1) := by decide +kernel
theorem d_M_bursts_29 : decode b_M_bursts 29 = .ok (.iload_n 3, 1) := by decide +kernel
theorem d_M_bursts_30 : decode b_M_bursts 30 = .ok (.iconst 1, 1) := by decide +kernel
theorem d_M_bursts_31 : decode b_M_bursts 31 = .ok (.iload_n 1, 1) := by decide +kernel
theorem d_M_bursts_32 : decode b_M_bursts 32 = .ok (.ishl, 1) := by decide +kernel
theorem d_M_bursts_33 : decode b_M_bursts 33 = .ok (.if_icmp .ge 99, 3) := by decide +kernel
theorem d_M_bursts_36 : decode b_M_bursts 36 = .ok (.iconst 0, 1) := by decide +kernel
theorem d_M_bursts_37 : decode b_M_bursts 37 = .ok (.istore 4, 2) := by decide +kernel
theorem d_M_bursts_39 : decode b_M_bursts 39 = .ok (.iload 4, 2) := by decide +kernel
theorem d_M_bursts_41 : decode b_M_bursts 41 = .ok (.aload_n 0, 1) := by decide +kernel
theorem d_M_bursts_42 : decode b_M_bursts 42 = .ok (.getfield 34, 3) := by decide +kernel
theorem d_M_bursts_45 : decode b_M_bursts 45 = .ok (.aload_n 0, 1) := by decide +kernel
theorem d_M_bursts_46 : decode b_M_bursts 46 = .ok (.getfield 44, 3) := by decide +kernel
theorem d_M_bursts_49 : decode b_M_bursts 49 = .ok (.iadd, 1) := by decide +kernel
theorem d_M_bursts_50 : decode b_M_bursts 50 = .ok (.if_icmp .ge 76, 3) := by decide +kernel
theorem d_M_bursts_53 : decode b_M_bursts 53 = .ok (.aload_n 0, 1) := by decide +kernel
theorem d_M_bursts_54 : decode b_M_bursts 54 = .ok (.getfield 34, 3) := by decide +kernel
theorem d_M_bursts_57 : decode b_M_bursts 57 = .ok (.aload_n 0, 1) := by decide +kernel
theorem d_M_bursts_58 : decode b_M_bursts 58 = .ok (.getfield 44, 3) := by decide +kernel
theorem d_M_bursts_61 : decode b_M_bursts 61 = .ok (.iadd, 1) := by decide +kernel
theorem d_M_bursts_62 : decode b_M_bursts 62 = .ok (.iload 4, 2) := by decide +kernel
theorem d_M_bursts_64 : decode b_M_bursts 64 = .ok (.isub, 1) := by decide +kernel
theorem d_M_bursts_65 : decode b_M_bursts 65 = .ok (.bipush 6, 2) := by decide +kernel
theorem d_M_bursts_67 : decode b_M_bursts 67 = .ok (.if_icmp .gt 20, 3) := by decide +kernel
theorem d_M_bursts_70 : decode b_M_bursts 70 = .ok (.iload_n 3, 1) := by decide +kernel
theorem d_M_bursts_71 : decode b_M_bursts 71 = .ok (.aload_n 0, 1) := by decide +kernel
theorem d_M_bursts_72 : decode b_M_bursts 72 = .ok (.getfield 34, 3) := by decide +kernel
theorem d_M_bursts_75 : decode b_M_bursts 75 = .ok (.aload_n 0, 1) := by decide +kernel
theorem d_M_bursts_76 : decode b_M_bursts 76 = .ok (.getfield 44, 3) := by decide +kernel
theorem d_M_bursts_79 : decode b_M_bursts 79 = .ok (.iadd, 1) := by decide +kernel
theorem d_M_bursts_80 : decode b_M_bursts 80 = .ok (.iload 4, 2) := by decide +kernel
theorem d_M_bursts_82 : decode b_M_bursts 82 = .ok (.isub, 1) := by decide +kernel
theorem d_M_bursts_83 : decode b_M_bursts 83 = .ok (.ishr, 1) := by decide +kernel
theorem d_M_bursts_84 : decode b_M_bursts 84 = .ok (.ifCond .ne 7, 3) := by decide +kernel
theorem d_M_bursts_87 : decode b_M_bursts 87 = .ok (.iconst 1, 1) := by decide +kernel
theorem d_M_bursts_88 : decode b_M_bursts 88 = .ok (.goto 4, 3) := by decide +kernel
theorem d_M_bursts_91 : decode b_M_bursts 91 = .ok (.iconst 0, 1) := by decide +kernel
theorem d_M_bursts_92 : decode b_M_bursts 92 = .ok (.istore 5, 2) := by decide +kernel
theorem d_M_bursts_94 : decode b_M_bursts 94 = .ok (.iload_n 2, 1) := by decide +kernel
theorem d_M_bursts_95 : decode b_M_bursts 95 = .ok (.ifCond .eq 23, 3) := by decide +kernel
theorem d_M_bursts_98 : decode b_M_bursts 98 = .ok (.iload 5, 2) := by decide +kernel
theorem d_M_bursts_100 : decode b_M_bursts 100 = .ok (.ifCond .eq 14, 3) := by decide +kernel
theorem d_M_bursts_103 : decode b_M_bursts 103 = .ok (.aload_n 0, 1) := by decide +kernel
theorem d_M_bursts_104 : decode b_M_bursts 104 = .ok (.iload_n 3, 1) := by decide +kernel
theorem d_M_bursts_105 : decode b_M_bursts 105 = .ok (.iload 4, 2) := by decide +kernel
theorem d_M_bursts_107 : decode b_M_bursts 107 = .ok (.invokevirtual 156, 3) := by decide +kernel
theorem d_M_bursts_110 : decode b_M_bursts 110 = .ok (.iconst 1, 1) := by decide +kernel
theorem d_M_bursts_111 : decode b_M_bursts 111 = .ok (.if_icmp .ne 7, 3) := by decide +kernel
theorem d_M_bursts_114 : decode b_M_bursts 114 = .ok (.iconst 1, 1) := by decide +kernel
theorem d_M_bursts_115 : decode b_M_bursts 115 = .ok (.goto 4, 3) := by decide +kernel
theorem d_M_bursts_118 : decode b_M_bursts 118 = .ok (.iconst 0, 1) := by decide +kernel
theorem d_M_bursts_119 : decode b_M_bursts 119 = .ok (.istore_n 2, 1) := by decide +kernel
theorem d_M_bursts_120 : decode b_M_bursts 120 = .ok (.iinc 4 1, 3) := by decide +kernel
theorem d_M_bursts_123 : decode b_M_bursts 123 = .ok (.goto (-84), 3) := by decide +kernel
theorem d_M_bursts_126 : decode b_M_bursts 126 = .ok (.iinc 3 2, 3) := by decide +kernel
theorem d_M_bursts_129 : decode b_M_bursts 129 = .ok (.goto (-100), 3) := by decide +kernel
theorem d_M_bursts_132 : decode b_M_bursts 132 = .ok (.iload_n 2, 1) := by decide +kernel
theorem d_M_bursts_133 : decode b_M_bursts 133 = .ok (.ireturn, 1) := by decide +kernel
set_option maxHeartbeats 4000000 in
set_option maxRecDepth 100000 in
theorem c_M_inR (l : Launch) (D : va_G) (g : Nat → ClassId) (sz : Nat) (ws : va_W) (v lo hi : Int32) : Met l y_M_in w_M_in rm_M_in (va_Pc [.int (v), .int (lo), .int (hi)] (pP D (tyl g) (ws) sz)) (va_Qi (fun (r : Int32) (u : Unit) => r = nI (if v < lo then 0 else if hi < v then 0 else 1)) (fun u => qB D (va_A (ws) sz) (ws)) (va_A (ws) sz)) 0 0 (va_A (ws) sz) := by
  refine Met.ofW (cc := b_M_in) (maxL := 3) (ret := (some .boolean)) (by decide +kernel) rfl ?_
  intro p e s m args below meth c s₁ Bq hml hv
  have hx := Bq.exec
  have hb := Bq.bytes
  have hr := Bq.returns
  have hts : ∀ w ∈ wA, w.before args s = true := fun w h => atoms_spec (ws := w_M_in) Bq.pre w (List.mem_cons_of_mem _ h)
  have hown : s.vm.findClass R_M = some m.cls := findClass_of_methodNamed Bq.named
  have hlocks := Bq.notSynchronized
  obtain ⟨rfl, hsz, hP, hKK, hD0⟩ := hv
  have hK := hKK.1
  subst hsz
  have hD := hD0.self (sz := s.heap.size)
  generalize hAe : va_A (ws) s.heap.size = A at hD ⊢
  have hA : ∀ q : Nat, s.heap.size ≤ q → A q := fun q h => by rw [← hAe]; exact Or.inr h
  have hS : va_S A s.heap s.heap [] := va_S.rf
  have hl := lv_entry ([.int (v), .int (lo), .int (hi)]) (n := 3) (Nat.le_of_ble_eq_true rfl)
  rw [lg_entry_eq]
  generalize (lg_sl ([.int (v), .int (lo), .int (hi)]) ++ List.replicate (3 - (lg_sl ([.int (v), .int (lo), .int (hi)])).length) Slot.unset).toArray = ls at hl ⊢
  have hl : lv_has ls 3 [(0, .int (v)), (1, .int (lo)), (2, .int (hi))] := hl
  generalize hQ : MQ below (va_Qi (fun (r : Int32) (u : Unit) => r = nI (if v < lo then 0 else if hi < v then 0 else 1)) (fun u => qB D (A) (ws)) (A)) [.int (v), .int (lo), .int (hi)].toArray s 0 0 A = Q
  refine lv_iload_n hx hb d_M_in_0 rfl (lv_at hl 0 rfl) ?_
  refine lv_iload_n hx hb d_M_in_1 rfl (lv_at hl 1 rfl) ?_
  refine lv_icmp_lt (tgt := 14) hx hb d_M_in_2 (by decide) (fun c2 => ?_) (fun c2 => ?_)
  · skip
    refine lv_iconst (v := nI 0) hx hb d_M_in_14 (by decide) ?_
    rw [← hQ]
    refine W.zret (v := nI 0) (ty := .boolean) hx hb hr (rfl) ?_ hS.2.2 d_M_in_15
    exact fun t ht hW => ⟨⟨nI 0, (), rfl, (by rw [if_pos c2]), by rw [ht]; exact hP, hD⟩, hS.F ht⟩
  · skip
    refine lv_iload_n hx hb d_M_in_5 rfl (lv_at hl 0 rfl) ?_
    refine lv_iload_n hx hb d_M_in_6 rfl (lv_at hl 2 rfl) ?_
    refine lv_icmp_gt (tgt := 14) hx hb d_M_in_7 (by decide) (fun c7 => ?_) (fun c7 => ?_)
    · skip
      refine lv_iconst (v := nI 0) hx hb d_M_in_14 (by decide) ?_
      rw [← hQ]
      refine W.zret (v := nI 0) (ty := .boolean) hx hb hr (rfl) ?_ hS.2.2 d_M_in_15
      exact fun t ht hW => ⟨⟨nI 0, (), rfl, (by rw [if_neg c2, if_pos c7]), by rw [ht]; exact hP, hD⟩, hS.F ht⟩
    · skip
      refine lv_iconst (v := nI 1) hx hb d_M_in_10 (by decide) ?_
      refine lv_goto (tgt := 15) hx hb d_M_in_11 (by decide) ?_
      rw [← hQ]
      refine W.zret (v := nI 1) (ty := .boolean) hx hb hr (rfl) ?_ hS.2.2 d_M_in_15
      exact fun t ht hW => ⟨⟨nI 1, (), rfl, (by rw [if_neg c2, if_neg c7]), by rw [ht]; exact hP, hD⟩, hS.F ht⟩
set_option maxHeartbeats 4000000 in
set_option maxRecDepth 100000 in
theorem c_M_spareOf (l : Launch) (D : va_G) (g : Nat → ClassId) (sz : Nat) (wm : va_W) (mo wi ck fq co sq uq gq kd M ifo fl : Nat) (th mk bi ch9 tu9 : Int32) (ma wo9 : Int64) (fw fc ff fco fsq fu fg : Nat → Int32) (hM0 : 0 < M) (hM : M ≤ 57) (j : Nat) (hj : j < 65536) : Met l y_M_spareOf w_M_spareOf rm_M_spareOf (va_Pc [.ref mo, .int (nI j)] (pP D (tyl g) ((mo, .inr (6, [.int (th), .int (nI M), .int (nI kd), .int (nI (ckb kd M)), .int (nI (nk kd)), .ref wi, .ref ck, .ref fq, .ref co, .int (nI (grsK kd M)), .int (nI ifo), .int (nI fl), .long (ma), .int (mk), .int (bi), .long (wo9), .int (ch9), .int (tu9), .ref sq, .ref uq, .ref gq])) :: (wi, .inl (g 0, 4, .inl (fw))) :: (ck, .inl (g 0, 4, .inl (fc))) :: (fq, .inl (g 0, 4, .inl (ff))) :: (co, .inl (g 0, 228, .inl (fco))) :: (sq, .inl (g 0, 8, .inl (fsq))) :: (uq, .inl (g 2, 128, .inl (fu))) :: (gq, .inl (g 0, 7, .inl (fg))) :: wm) sz)) (va_Qi (fun (r : Int32) (u : Unit) => (∃ i, i < 8 ∧ r = nI i ∧ fsq i = nI j) ∨ (r = -1 ∧ ∀ i, i < 8 → ¬ fsq i = nI j)) (fun u => qB D (va_A ((mo, .inr (6, [.int (th), .int (nI M), .int (nI kd), .int (nI (ckb kd M)), .int (nI (nk kd)), .ref wi, .ref ck, .ref fq, .ref co, .int (nI (grsK kd M)), .int (nI ifo), .int (nI fl), .long (ma), .int (mk), .int (bi), .long (wo9), .int (ch9), .int (tu9), .ref sq, .ref uq, .ref gq])) :: (wi, .inl (g 0, 4, .inl (fw))) :: (ck, .inl (g 0, 4, .inl (fc))) :: (fq, .inl (g 0, 4, .inl (ff))) :: (co, .inl (g 0, 228, .inl (fco))) :: (sq, .inl (g 0, 8, .inl (fsq))) :: (uq, .inl (g 2, 128, .inl (fu))) :: (gq, .inl (g 0, 7, .inl (fg))) :: wm) sz) ((mo, .inr (6, [.int (nI 0), .int (nI M), .int (nI kd), .int (nI (ckb kd M)), .int (nI (nk kd)), .ref wi, .ref ck, .ref fq, .ref co, .int (nI (grsK kd M)), .int (nI ifo), .int (nI fl), .long (ma), .int (mk), .int (bi), .long (wo9), .int (ch9), .int (tu9), .ref sq, .ref uq, .ref gq])) :: (wi, .inl (g 0, 4, .inl (fw))) :: (ck, .inl (g 0, 4, .inl (fc))) :: (fq, .inl (g 0, 4, .inl (ff))) :: (co, .inl (g 0, 228, .inl (fco))) :: (sq, .inl (g 0, 8, .inl (fsq))) :: (uq, .inl (g 2, 128, .inl (fu))) :: (gq, .inl (g 0, 7, .inl (fg))) :: wm)) (va_A ((mo, .inr (6, [.int (th), .int (nI M), .int (nI kd), .int (nI (ckb kd M)), .int (nI (nk kd)), .ref wi, .ref ck, .ref fq, .ref co, .int (nI (grsK kd M)), .int (nI ifo), .int (nI fl), .long (ma), .int (mk), .int (bi), .long (wo9), .int (ch9), .int (tu9), .ref sq, .ref uq, .ref gq])) :: (wi, .inl (g 0, 4, .inl (fw))) :: (ck, .inl (g 0, 4, .inl (fc))) :: (fq, .inl (g 0, 4, .inl (ff))) :: (co, .inl (g 0, 228, .inl (fco))) :: (sq, .inl (g 0, 8, .inl (fsq))) :: (uq, .inl (g 2, 128, .inl (fu))) :: (gq, .inl (g 0, 7, .inl (fg))) :: wm) sz)) 0 0 (va_A ((mo, .inr (6, [.int (th), .int (nI M), .int (nI kd), .int (nI (ckb kd M)), .int (nI (nk kd)), .ref wi, .ref ck, .ref fq, .ref co, .int (nI (grsK kd M)), .int (nI ifo), .int (nI fl), .long (ma), .int (mk), .int (bi), .long (wo9), .int (ch9), .int (tu9), .ref sq, .ref uq, .ref gq])) :: (wi, .inl (g 0, 4, .inl (fw))) :: (ck, .inl (g 0, 4, .inl (fc))) :: (fq, .inl (g 0, 4, .inl (ff))) :: (co, .inl (g 0, 228, .inl (fco))) :: (sq, .inl (g 0, 8, .inl (fsq))) :: (uq, .inl (g 2, 128, .inl (fu))) :: (gq, .inl (g 0, 7, .inl (fg))) :: wm) sz) := by
  refine Met.ofW (cc := b_M_spareOf) (maxL := 4) (ret := (some .int)) (by decide +kernel) rfl ?_
  intro p e s m args below meth c s₁ Bq hml hv
  have hx := Bq.exec
  have hb := Bq.bytes
  have hr := Bq.returns
  have hts : ∀ w ∈ wA, w.before args s = true := fun w h => atoms_spec (ws := w_M_spareOf) Bq.pre w (List.mem_cons_of_mem _ h)
  have hown : s.vm.findClass R_M = some m.cls := findClass_of_methodNamed Bq.named
  have hlocks := Bq.notSynchronized
  obtain ⟨rfl, hsz, hP, hKK, hD0⟩ := hv
  have hK := hKK.1
  subst hsz
  have hD := hD0.self (sz := s.heap.size)
  generalize hAe : va_A ((mo, .inr (6, [.int (th), .int (nI M), .int (nI kd), .int (nI (ckb kd M)), .int (nI (nk kd)), .ref wi, .ref ck, .ref fq, .ref co, .int (nI (grsK kd M)), .int (nI ifo), .int (nI fl), .long (ma), .int (mk), .int (bi), .long (wo9), .int (ch9), .int (tu9), .ref sq, .ref uq, .ref gq])) :: (wi, .inl (g 0, 4, .inl (fw))) :: (ck, .inl (g 0, 4, .inl (fc))) :: (fq, .inl (g 0, 4, .inl (ff))) :: (co, .inl (g 0, 228, .inl (fco))) :: (sq, .inl (g 0, 8, .inl (fsq))) :: (uq, .inl (g 2, 128, .inl (fu))) :: (gq, .inl (g 0, 7, .inl (fg))) :: wm) s.heap.size = A at hD ⊢
  have hA : ∀ q : Nat, s.heap.size ≤ q → A q := fun q h => by rw [← hAe]; exact Or.inr h
  have hS : va_S A s.heap s.heap [] := va_S.rf
  have hl := lv_entry ([.ref mo, .int (nI j)]) (n := 4) (Nat.le_of_ble_eq_true rfl)
  rw [lg_entry_eq]
  generalize (lg_sl ([.ref mo, .int (nI j)]) ++ List.replicate (4 - (lg_sl ([.ref mo, .int (nI j)])).length) Slot.unset).toArray = ls at hl ⊢
  have hl : lv_has ls 4 [(0, .ref mo), (1, .int (nI j))] := hl
  generalize hQ : MQ below (va_Qi (fun (r : Int32) (u : Unit) => (∃ i, i < 8 ∧ r = nI i ∧ fsq i = nI j) ∨ (r = -1 ∧ ∀ i, i < 8 → ¬ fsq i = nI j)) (fun u => qB D (A) ((mo, .inr (6, [.int (nI 0), .int (nI M), .int (nI kd), .int (nI (ckb kd M)), .int (nI (nk kd)), .ref wi, .ref ck, .ref fq, .ref co, .int (nI (grsK kd M)), .int (nI ifo), .int (nI fl), .long (ma), .int (mk), .int (bi), .long (wo9), .int (ch9), .int (tu9), .ref sq, .ref uq, .ref gq])) :: (wi, .inl (g 0, 4, .inl (fw))) :: (ck, .inl (g 0, 4, .inl (fc))) :: (fq, .inl (g 0, 4, .inl (ff))) :: (co, .inl (g 0, 228, .inl (fco))) :: (sq, .inl (g 0, 8, .inl (fsq))) :: (uq, .inl (g 2, 128, .inl (fu))) :: (gq, .inl (g 0, 7, .inl (fg))) :: wm)) (A)) [.ref mo, .int (nI j)].toArray s 0 0 A = Q
  refine lv_aload_n hx hb d_M_spareOf_0 rfl (lv_at hl 0 rfl) ?_
  refine lv_iload_n hx hb d_M_spareOf_1 rfl (lv_at hl 1 rfl) ?_
  refine lv_iconst (v := nI 0) hx hb d_M_spareOf_2 (by decide) ?_
  refine lv_ldc (v := 65535) hx hb hown (hts _ m_691) d_M_spareOf_3 ?_
  refine lv_topi (fun y1 ey1 => ?_)
  obtain rfl : y1 = nI 65535 := ey1.trans (by decide)
  refine lc_Si (As := [.int (nI j), .int (nI 0), .int (nI 65535)]) (rest := [.ref mo]) ⟨hx, hb, hml, hown, hts⟩ (c_M_in l D g _ _ (nI j) 65536 (by omega) (by omega)) (kS 3 hts m_682 m_680 m_681 m_40 (by decide +kernel) ⟨Nat.le_of_ble_eq_true rfl, Nat.le_of_ble_eq_true rfl⟩) hKK hP hD hS hA hl.1 rfl rfl (Nat.le_of_ble_eq_true rfl) d_M_spareOf_5 ⟨Nat.le_of_ble_eq_true rfl, Nat.le_of_ble_eq_true rfl⟩ (fun r1 ur1 H locs er1 hP hD hS => ?_)
  obtain rfl : r1 = nI 1 := er1.trans (by rw [inBb_nI (by decide) hj])
  refine lx_if_ne (tgt := 15) hx hb d_M_spareOf_8 (by decide) (by omega) (fun c8 => ?_) (fun c8 => ?_)
  · skip
    refine lv_iconst (v := nI 0) hx hb d_M_spareOf_15 (by decide) ?_
    refine lv_iconst (v := nI 0) hx hb d_M_spareOf_16 (by decide) ?_
    refine lc_Vi (b := mo) (As := [.int (nI 0), .int (nI 0)]) (rest := []) ⟨hx, hb, hml, hown, hts⟩ (c_M_fails l D g _ wm mo wi ck fq co sq uq gq kd M ifo fl th mk bi ch9 tu9 ma wo9 fw fc ff fco fsq fu fg hM0 hM 0 0 (by decide) (by decide)) (kV 2 hts m_686 m_683 m_685 m_15 m_40 (by decide +kernel) ⟨Nat.le_of_ble_eq_true rfl, Nat.le_of_ble_eq_true rfl⟩) (va_recv hK hP (ci := 6) (q0 := 0) rfl rfl) hKK hP hD hS hA hl.1 rfl rfl (Nat.le_of_ble_eq_true rfl) d_M_spareOf_17 ⟨Nat.le_of_ble_eq_true rfl, Nat.le_of_ble_eq_true rfl⟩ (fun rf uf H locs ef hP hD hS => ?_)
    have hP : va_P D vwCl ((mo, .inr (6, [.int (nI 0), .int (nI M), .int (nI kd), .int (nI (ckb kd M)), .int (nI (nk kd)), .ref wi, .ref ck, .ref fq, .ref co, .int (nI (grsK kd M)), .int (nI ifo), .int (nI fl), .long (ma), .int (mk), .int (bi), .long (wo9), .int (ch9), .int (tu9), .ref sq, .ref uq, .ref gq])) :: (wi, .inl (g 0, 4, .inl (fw))) :: (ck, .inl (g 0, 4, .inl (fc))) :: (fq, .inl (g 0, 4, .inl (ff))) :: (co, .inl (g 0, 228, .inl (fco))) :: (sq, .inl (g 0, 8, .inl (fsq))) :: (uq, .inl (g 2, 128, .inl (fu))) :: (gq, .inl (g 0, 7, .inl (fg))) :: wm) H := hP
    have hD : va_D A ((mo, .inr (6, [.int (nI 0), .int (nI M), .int (nI kd), .int (nI (ckb kd M)), .int (nI (nk kd)), .ref wi, .ref ck, .ref fq, .ref co, .int (nI (grsK kd M)), .int (nI ifo), .int (nI fl), .long (ma), .int (mk), .int (bi), .long (wo9), .int (ch9), .int (tu9), .ref sq, .ref uq, .ref gq])) :: (wi, .inl (g 0, 4, .inl (fw))) :: (ck, .inl (g 0, 4, .inl (fc))) :: (fq, .inl (g 0, 4, .inl (ff))) :: (co, .inl (g 0, 228, .inl (fco))) :: (sq, .inl (g 0, 8, .inl (fsq))) :: (uq, .inl (g 2, 128, .inl (fu))) :: (gq, .inl (g 0, 7, .inl (fg))) :: wm) := hD
    obtain rfl : rf = nI 0 := ef
    refine lx_if_eq (tgt := 25) hx hb d_M_spareOf_20 (by decide) (by omega) (fun c20 => ?_) (fun c20 => ?_)
    · skip
      refine lv_iconst (v := (-1)) hx hb d_M_spareOf_25 (by decide) ?_
      refine lv_istore_n (lv' := [(2, .int ((-1))), (0, .ref mo), (1, .int (nI j))]) hx hb d_M_spareOf_26 rfl hl (by decide) rfl (fun ls hl => ?_)
      refine lv_iconst (v := nI 0) hx hb d_M_spareOf_27 (by decide) ?_
      refine lv_istore_n (lv' := [(3, .int (nI 0)), (2, .int ((-1))), (0, .ref mo), (1, .int (nI j))]) hx hb d_M_spareOf_28 rfl hl (by decide) rfl (fun ls hl => ?_)
      have lp29 : ∀ (n : Nat) (k : Nat) (z0 : Int32) (ls : Array Slot) (H : Heap) (locs : List Loc), (9 ≤ k + n) → (k ≤ 8) → ((∃ i, i < k ∧ z0 = nI i ∧ fsq i = nI j) ∨ (z0 = -1 ∧ ∀ i, i < k → ¬ fsq i = nI j)) → lv_has ls 4 [(0, .ref mo), (1, .int (nI j)), (2, .int (z0)), (3, .int (nI k))] → va_P D vwCl ((mo, .inr (6, [.int (nI 0), .int (nI M), .int (nI kd), .int (nI (ckb kd M)), .int (nI (nk kd)), .ref wi, .ref ck, .ref fq, .ref co, .int (nI (grsK kd M)), .int (nI ifo), .int (nI fl), .long (ma), .int (mk), .int (bi), .long (wo9), .int (ch9), .int (tu9), .ref sq, .ref uq, .ref gq])) :: (wi, .inl (g 0, 4, .inl (fw))) :: (ck, .inl (g 0, 4, .inl (fc))) :: (fq, .inl (g 0, 4, .inl (ff))) :: (co, .inl (g 0, 228, .inl (fco))) :: (sq, .inl (g 0, 8, .inl (fsq))) :: (uq, .inl (g 2, 128, .inl (fu))) :: (gq, .inl (g 0, 7, .inl (fg))) :: wm) H → va_D A ((mo, .inr (6, [.int (nI 0), .int (nI M), .int (nI kd), .int (nI (ckb kd M)), .int (nI (nk kd)), .ref wi, .ref ck, .ref fq, .ref co, .int (nI (grsK kd M)), .int (nI ifo), .int (nI fl), .long (ma), .int (mk), .int (bi), .long (wo9), .int (ch9), .int (tu9), .ref sq, .ref uq, .ref gq])) :: (wi, .inl (g 0, 4, .inl (fw))) :: (ck, .inl (g 0, 4, .inl (fc))) :: (fq, .inl (g 0, 4, .inl (ff))) :: (co, .inl (g 0, 228, .inl (fco))) :: (sq, .inl (g 0, 8, .inl (fsq))) :: (uq, .inl (g 2, 128, .inl (fu))) :: (gq, .inl (g 0, 7, .inl (fg))) :: wm) → va_S A s.heap H locs → W p l e (headSpec w_M_spareOf rm_M_spareOf).room s m [.ref mo, .int (nI j)].toArray below meth c H locs 0 0 Q (F0 m 29 ls []) := by
        intro n
        induction n with
        | zero => intro k z0 ls H locs hfu hk hz _ _ _ _; exact absurd hfu (by omega)
        | succ n ih =>
          intro k z0 ls H locs hfu hk hz hl hP hD hS
          refine lv_iload_n hx hb d_M_spareOf_29 rfl (lv_at hl 3 rfl) ?_
          refine lv_bipush (v := nI 8) hx hb d_M_spareOf_30 (by decide) ?_
          refine lx_icmp_ge (tgt := 57) hx hb d_M_spareOf_32 (by decide) (by omega) (by omega) (fun c32 => ?_) (fun c32 => ?_)
          · skip
            obtain rfl : k = 8 := by omega
            refine lv_iload_n hx hb d_M_spareOf_57 rfl (lv_at hl 2 rfl) ?_
            rw [← hQ]
            refine W.iret (v := z0) hx hb hr ?_ hS.2.2 d_M_spareOf_58
            exact fun t ht hW => ⟨⟨z0, (), rfl, hz, by rw [ht]; exact hP, hD⟩, hS.F ht⟩
          · skip
            refine lv_aload_n hx hb d_M_spareOf_35 rfl (lv_at hl 0 rfl) ?_
            refine va_get (D := D) (ci := 6) (v := .ref sq) (C := R_M) (T := F_M) (N := 21) hx hb hts i_M hown hK hP 0 rfl rfl 18 (by decide) (hts _ m_621) (fun _ h9 => h9) rfl d_M_spareOf_36 ?_
            refine lv_iload_n hx hb d_M_spareOf_39 rfl (lv_at hl 3 rfl) ?_
            refine lx_iald (v := fsq k) hx hb hK hP 5 0 rfl rfl (j := k) (by omega) (by omega) (rfl) d_M_spareOf_40 ?_
            refine lv_iload_n hx hb d_M_spareOf_41 rfl (lv_at hl 1 rfl) ?_
            refine lv_icmp_ne (tgt := 49) hx hb d_M_spareOf_42 (by decide) (fun c42 => ?_) (fun c42 => ?_)
            · skip
              refine lv_iload_n hx hb d_M_spareOf_49 rfl (lv_at hl 2 rfl) ?_
              refine lv_istore_n (lv' := [(2, .int (z0)), (0, .ref mo), (1, .int (nI j)), (3, .int (nI k))]) hx hb d_M_spareOf_50 rfl hl (by decide) rfl (fun ls hl => ?_)
              refine lv_iinc (v := nI (k + 1)) (lv' := [(3, .int (nI (k + 1))), (2, .int (z0)), (0, .ref mo), (1, .int (nI j))]) hx hb d_M_spareOf_51 hl (k := 3) rfl (nI_1 k) (by decide) rfl (fun ls hl => ?_)
              refine lv_goto (tgt := 29) hx hb d_M_spareOf_54 (by decide) ?_
              exact ih (k + 1) z0 _ _ _ (by omega) (by omega) (hz.elim (fun ⟨i, q1, q2, q3⟩ => Or.inl ⟨i, by omega, q2, q3⟩) (fun ⟨q1, q2⟩ => Or.inr ⟨q1, fun i hi => by rcases Nat.lt_or_ge i k with q | q; exact q2 i q; rw [show i = k by omega]; exact c42⟩)) (lv_sub hl [2, 3, 1, 0] rfl) hP hD hS
            · skip
              refine lv_iload_n hx hb d_M_spareOf_45 rfl (lv_at hl 3 rfl) ?_
              refine lv_goto (tgt := 50) hx hb d_M_spareOf_46 (by decide) ?_
              refine lv_istore_n (lv' := [(2, .int (nI k)), (0, .ref mo), (1, .int (nI j)), (3, .int (nI k))]) hx hb d_M_spareOf_50 rfl hl (by decide) rfl (fun ls hl => ?_)
              refine lv_iinc (v := nI (k + 1)) (lv' := [(3, .int (nI (k + 1))), (2, .int (nI k)), (0, .ref mo), (1, .int (nI j))]) hx hb d_M_spareOf_51 hl (k := 3) rfl (nI_1 k) (by decide) rfl (fun ls hl => ?_)
              refine lv_goto (tgt := 29) hx hb d_M_spareOf_54 (by decide) ?_
              exact ih (k + 1) (nI k) _ _ _ (by omega) (by omega) (Or.inl ⟨k, by omega, rfl, c42⟩) (lv_sub hl [2, 3, 1, 0] rfl) hP hD hS
      exact lp29 9 0 ((-1)) _ _ _ (by omega) (by omega) (Or.inr ⟨rfl, fun i hi => by omega⟩) (lv_sub hl [2, 3, 1, 0] rfl) hP hD hS
    · skip
      exact absurd rfl c20
  · skip
    exact absurd c8 (by decide)
set_option maxHeartbeats 4000000 in
set_option maxRecDepth 100000 in
theorem t_M_spareOf (l : Launch) (D : va_G) (g : Nat → ClassId) (sz : Nat) (wm : va_W) (mo wi ck fq co sq uq gq kd M ifo fl : Nat) (th mk bi ch9 tu9 : Int32) (ma wo9 : Int64) (fw fc ff fco fsq fu fg : Nat → Int32) (hM0 : 0 < M) (hM : M ≤ 57) (v : Int32) (hv9 : inBb 65536 v = 0) : Met l y_M_spareOf w_M_spareOf rm_M_spareOf (va_Pc [.ref mo, .int (v)] (pP D (tyl g) ((mo, .inr (6, [.int (th), .int (nI M), .int (nI kd), .int (nI (ckb kd M)), .int (nI (nk kd)), .ref wi, .ref ck, .ref fq, .ref co, .int (nI (grsK kd M)), .int (nI ifo), .int (nI fl), .long (ma), .int (mk), .int (bi), .long (wo9), .int (ch9), .int (tu9), .ref sq, .ref uq, .ref gq])) :: (wi, .inl (g 0, 4, .inl (fw))) :: (ck, .inl (g 0, 4, .inl (fc))) :: (fq, .inl (g 0, 4, .inl (ff))) :: (co, .inl (g 0, 228, .inl (fco))) :: (sq, .inl (g 0, 8, .inl (fsq))) :: (uq, .inl (g 2, 128, .inl (fu))) :: (gq, .inl (g 0, 7, .inl (fg))) :: wm) sz)) (va_Qi (fun (r : Int32) (u : Unit) => r = nI 0) (fun u => qB D (va_A ((mo, .inr (6, [.int (th), .int (nI M), .int (nI kd), .int (nI (ckb kd M)), .int (nI (nk kd)), .ref wi, .ref ck, .ref fq, .ref co, .int (nI (grsK kd M)), .int (nI ifo), .int (nI fl), .long (ma), .int (mk), .int (bi), .long (wo9), .int (ch9), .int (tu9), .ref sq, .ref uq, .ref gq])) :: (wi, .inl (g 0, 4, .inl (fw))) :: (ck, .inl (g 0, 4, .inl (fc))) :: (fq, .inl (g 0, 4, .inl (ff))) :: (co, .inl (g 0, 228, .inl (fco))) :: (sq, .inl (g 0, 8, .inl (fsq))) :: (uq, .inl (g 2, 128, .inl (fu))) :: (gq, .inl (g 0, 7, .inl (fg))) :: wm) sz) ((mo, .inr (6, [.int (nI 1), .int (nI M), .int (nI kd), .int (nI (ckb kd M)), .int (nI (nk kd)), .ref wi, .ref ck, .ref fq, .ref co, .int (nI (grsK kd M)), .int (nI ifo), .int (nI fl), .long (ma), .int (mk), .int (bi), .long (wo9), .int (ch9), .int (tu9), .ref sq, .ref uq, .ref gq])) :: (wi, .inl (g 0, 4, .inl (fw))) :: (ck, .inl (g 0, 4, .inl (fc))) :: (fq, .inl (g 0, 4, .inl (ff))) :: (co, .inl (g 0, 228, .inl (fco))) :: (sq, .inl (g 0, 8, .inl (fsq))) :: (uq, .inl (g 2, 128, .inl (fu))) :: (gq, .inl (g 0, 7, .inl (fg))) :: wm)) (va_A ((mo, .inr (6, [.int (th), .int (nI M), .int (nI kd), .int (nI (ckb kd M)), .int (nI (nk kd)), .ref wi, .ref ck, .ref fq, .ref co, .int (nI (grsK kd M)), .int (nI ifo), .int (nI fl), .long (ma), .int (mk), .int (bi), .long (wo9), .int (ch9), .int (tu9), .ref sq, .ref uq, .ref gq])) :: (wi, .inl (g 0, 4, .inl (fw))) :: (ck, .inl (g 0, 4, .inl (fc))) :: (fq, .inl (g 0, 4, .inl (ff))) :: (co, .inl (g 0, 228, .inl (fco))) :: (sq, .inl (g 0, 8, .inl (fsq))) :: (uq, .inl (g 2, 128, .inl (fu))) :: (gq, .inl (g 0, 7, .inl (fg))) :: wm) sz)) 0 0 (va_A ((mo, .inr (6, [.int (th), .int (nI M), .int (nI kd), .int (nI (ckb kd M)), .int (nI (nk kd)), .ref wi, .ref ck, .ref fq, .ref co, .int (nI (grsK kd M)), .int (nI ifo), .int (nI fl), .long (ma), .int (mk), .int (bi), .long (wo9), .int (ch9), .int (tu9), .ref sq, .ref uq, .ref gq])) :: (wi, .inl (g 0, 4, .inl (fw))) :: (ck, .inl (g 0, 4, .inl (fc))) :: (fq, .inl (g 0, 4, .inl (ff))) :: (co, .inl (g 0, 228, .inl (fco))) :: (sq, .inl (g 0, 8, .inl (fsq))) :: (uq, .inl (g 2, 128, .inl (fu))) :: (gq, .inl (g 0, 7, .inl (fg))) :: wm) sz) := by
  refine Met.ofW (cc := b_M_spareOf) (maxL := 4) (ret := (some .int)) (by decide +kernel) rfl ?_
  intro p e s m args below meth c s₁ Bq hml hv
  have hx := Bq.exec
  have hb := Bq.bytes
  have hr := Bq.returns
  have hts : ∀ w ∈ wA, w.before args s = true := fun w h => atoms_spec (ws := w_M_spareOf) Bq.pre w (List.mem_cons_of_mem _ h)
  have hown : s.vm.findClass R_M = some m.cls := findClass_of_methodNamed Bq.named
  have hlocks := Bq.notSynchronized
  obtain ⟨rfl, hsz, hP, hKK, hD0⟩ := hv
  have hK := hKK.1
  subst hsz
  have hD := hD0.self (sz := s.heap.size)
  generalize hAe : va_A ((mo, .inr (6, [.int (th), .int (nI M), .int (nI kd), .int (nI (ckb kd M)), .int (nI (nk kd)), .ref wi, .ref ck, .ref fq, .ref co, .int (nI (grsK kd M)), .int (nI ifo), .int (nI fl), .long (ma), .int (mk), .int (bi), .long (wo9), .int (ch9), .int (tu9), .ref sq, .ref uq, .ref gq])) :: (wi, .inl (g 0, 4, .inl (fw))) :: (ck, .inl (g 0, 4, .inl (fc))) :: (fq, .inl (g 0, 4, .inl (ff))) :: (co, .inl (g 0, 228, .inl (fco))) :: (sq, .inl (g 0, 8, .inl (fsq))) :: (uq, .inl (g 2, 128, .inl (fu))) :: (gq, .inl (g 0, 7, .inl (fg))) :: wm) s.heap.size = A at hD ⊢
  have hA : ∀ q : Nat, s.heap.size ≤ q → A q := fun q h => by rw [← hAe]; exact Or.inr h
  have hS : va_S A s.heap s.heap [] := va_S.rf
  have hl := lv_entry ([.ref mo, .int (v)]) (n := 4) (Nat.le_of_ble_eq_true rfl)
  rw [lg_entry_eq]
  generalize (lg_sl ([.ref mo, .int (v)]) ++ List.replicate (4 - (lg_sl ([.ref mo, .int (v)])).length) Slot.unset).toArray = ls at hl ⊢
  have hl : lv_has ls 4 [(0, .ref mo), (1, .int (v))] := hl
  generalize hQ : MQ below (va_Qi (fun (r : Int32) (u : Unit) => r = nI 0) (fun u => qB D (A) ((mo, .inr (6, [.int (nI 1), .int (nI M), .int (nI kd), .int (nI (ckb kd M)), .int (nI (nk kd)), .ref wi, .ref ck, .ref fq, .ref co, .int (nI (grsK kd M)), .int (nI ifo), .int (nI fl), .long (ma), .int (mk), .int (bi), .long (wo9), .int (ch9), .int (tu9), .ref sq, .ref uq, .ref gq])) :: (wi, .inl (g 0, 4, .inl (fw))) :: (ck, .inl (g 0, 4, .inl (fc))) :: (fq, .inl (g 0, 4, .inl (ff))) :: (co, .inl (g 0, 228, .inl (fco))) :: (sq, .inl (g 0, 8, .inl (fsq))) :: (uq, .inl (g 2, 128, .inl (fu))) :: (gq, .inl (g 0, 7, .inl (fg))) :: wm)) (A)) [.ref mo, .int (v)].toArray s 0 0 A = Q
  refine lv_aload_n hx hb d_M_spareOf_0 rfl (lv_at hl 0 rfl) ?_
  refine lv_iload_n hx hb d_M_spareOf_1 rfl (lv_at hl 1 rfl) ?_
  refine lv_iconst (v := nI 0) hx hb d_M_spareOf_2 (by decide) ?_
  refine lv_ldc (v := 65535) hx hb hown (hts _ m_691) d_M_spareOf_3 ?_
  refine lv_topi (fun y1 ey1 => ?_)
  obtain rfl : y1 = nI 65535 := ey1.trans (by decide)
  refine lc_Si (As := [.int (v), .int (nI 0), .int (nI 65535)]) (rest := [.ref mo]) ⟨hx, hb, hml, hown, hts⟩ (c_M_in l D g _ _ v 65536 (by omega) (by omega)) (kS 3 hts m_682 m_680 m_681 m_40 (by decide +kernel) ⟨Nat.le_of_ble_eq_true rfl, Nat.le_of_ble_eq_true rfl⟩) hKK hP hD hS hA hl.1 rfl rfl (Nat.le_of_ble_eq_true rfl) d_M_spareOf_5 ⟨Nat.le_of_ble_eq_true rfl, Nat.le_of_ble_eq_true rfl⟩ (fun r1 ur1 H locs er1 hP hD hS => ?_)
  obtain rfl : r1 = nI 0 := er1.trans (by rw [hv9])
  refine lx_if_ne (tgt := 15) hx hb d_M_spareOf_8 (by decide) (by omega) (fun c8 => ?_) (fun c8 => ?_)
  · skip
    exact absurd rfl c8
  · skip
    refine lv_iconst (v := nI 1) hx hb d_M_spareOf_11 (by decide) ?_
    refine lv_goto (tgt := 16) hx hb d_M_spareOf_12 (by decide) ?_
    refine lv_iconst (v := nI 0) hx hb d_M_spareOf_16 (by decide) ?_
    refine lc_Vi (b := mo) (As := [.int (nI 1), .int (nI 0)]) (rest := []) ⟨hx, hb, hml, hown, hts⟩ (c_M_fails l D g _ wm mo wi ck fq co sq uq gq kd M ifo fl th mk bi ch9 tu9 ma wo9 fw fc ff fco fsq fu fg hM0 hM 1 0 (by decide) (by decide)) (kV 2 hts m_686 m_683 m_685 m_15 m_40 (by decide +kernel) ⟨Nat.le_of_ble_eq_true rfl, Nat.le_of_ble_eq_true rfl⟩) (va_recv hK hP (ci := 6) (q0 := 0) rfl rfl) hKK hP hD hS hA hl.1 rfl rfl (Nat.le_of_ble_eq_true rfl) d_M_spareOf_17 ⟨Nat.le_of_ble_eq_true rfl, Nat.le_of_ble_eq_true rfl⟩ (fun rf uf H locs ef hP hD hS => ?_)
    have hP : va_P D vwCl ((mo, .inr (6, [.int (nI 1), .int (nI M), .int (nI kd), .int (nI (ckb kd M)), .int (nI (nk kd)), .ref wi, .ref ck, .ref fq, .ref co, .int (nI (grsK kd M)), .int (nI ifo), .int (nI fl), .long (ma), .int (mk), .int (bi), .long (wo9), .int (ch9), .int (tu9), .ref sq, .ref uq, .ref gq])) :: (wi, .inl (g 0, 4, .inl (fw))) :: (ck, .inl (g 0, 4, .inl (fc))) :: (fq, .inl (g 0, 4, .inl (ff))) :: (co, .inl (g 0, 228, .inl (fco))) :: (sq, .inl (g 0, 8, .inl (fsq))) :: (uq, .inl (g 2, 128, .inl (fu))) :: (gq, .inl (g 0, 7, .inl (fg))) :: wm) H := hP
    have hD : va_D A ((mo, .inr (6, [.int (nI 1), .int (nI M), .int (nI kd), .int (nI (ckb kd M)), .int (nI (nk kd)), .ref wi, .ref ck, .ref fq, .ref co, .int (nI (grsK kd M)), .int (nI ifo), .int (nI fl), .long (ma), .int (mk), .int (bi), .long (wo9), .int (ch9), .int (tu9), .ref sq, .ref uq, .ref gq])) :: (wi, .inl (g 0, 4, .inl (fw))) :: (ck, .inl (g 0, 4, .inl (fc))) :: (fq, .inl (g 0, 4, .inl (ff))) :: (co, .inl (g 0, 228, .inl (fco))) :: (sq, .inl (g 0, 8, .inl (fsq))) :: (uq, .inl (g 2, 128, .inl (fu))) :: (gq, .inl (g 0, 7, .inl (fg))) :: wm) := hD
    obtain rfl : rf = nI 1 := ef
    refine lx_if_eq (tgt := 25) hx hb d_M_spareOf_20 (by decide) (by omega) (fun c20 => ?_) (fun c20 => ?_)
    · skip
      exact absurd c20 (by decide)
    · skip
      refine lv_iconst (v := nI 0) hx hb d_M_spareOf_23 (by decide) ?_
      rw [← hQ]
      refine W.iret (v := nI 0) hx hb hr ?_ hS.2.2 d_M_spareOf_24
      exact fun t ht hW => ⟨⟨nI 0, (), rfl, rfl, by rw [ht]; exact hP, hD⟩, hS.F ht⟩
set_option maxHeartbeats 4000000 in
set_option maxRecDepth 100000 in
theorem c_M_spare (l : Launch) (D : va_G) (g : Nat → ClassId) (sz : Nat) (wm : va_W) (mo wi ck fq co sq uq gq kd M ifo fl : Nat) (th mk bi ch9 tu9 : Int32) (ma wo9 : Int64) (fw fc ff fco fsq fu fg : Nat → Int32) (hM0 : 0 < M) (hM : M ≤ 57) (j i : Nat) (hj : j < 65536) (hi : i < 8) (hf9 : fsq i = nI j) (hno : ∀ k, k < i → ¬ fsq k = nI j) : Met l y_M_spare w_M_spare rm_M_spare (va_Pc [.ref mo, .int (nI j)] (pP D (tyl g) ((mo, .inr (6, [.int (th), .int (nI M), .int (nI kd), .int (nI (ckb kd M)), .int (nI (nk kd)), .ref wi, .ref ck, .ref fq, .ref co, .int (nI (grsK kd M)), .int (nI ifo), .int (nI fl), .long (ma), .int (mk), .int (bi), .long (wo9), .int (ch9), .int (tu9), .ref sq, .ref uq, .ref gq])) :: (wi, .inl (g 0, 4, .inl (fw))) :: (ck, .inl (g 0, 4, .inl (fc))) :: (fq, .inl (g 0, 4, .inl (ff))) :: (co, .inl (g 0, 228, .inl (fco))) :: (sq, .inl (g 0, 8, .inl (fsq))) :: (uq, .inl (g 2, 128, .inl (fu))) :: (gq, .inl (g 0, 7, .inl (fg))) :: wm) sz)) (va_Qi (fun (r : Int32) (u : Unit) => r = nI i) (fun u => qB D (va_A ((mo, .inr (6, [.int (th), .int (nI M), .int (nI kd), .int (nI (ckb kd M)), .int (nI (nk kd)), .ref wi, .ref ck, .ref fq, .ref co, .int (nI (grsK kd M)), .int (nI ifo), .int (nI fl), .long (ma), .int (mk), .int (bi), .long (wo9), .int (ch9), .int (tu9), .ref sq, .ref uq, .ref gq])) :: (wi, .inl (g 0, 4, .inl (fw))) :: (ck, .inl (g 0, 4, .inl (fc))) :: (fq, .inl (g 0, 4, .inl (ff))) :: (co, .inl (g 0, 228, .inl (fco))) :: (sq, .inl (g 0, 8, .inl (fsq))) :: (uq, .inl (g 2, 128, .inl (fu))) :: (gq, .inl (g 0, 7, .inl (fg))) :: wm) sz) ((mo, .inr (6, [.int (nI 0), .int (nI M), .int (nI kd), .int (nI (ckb kd M)), .int (nI (nk kd)), .ref wi, .ref ck, .ref fq, .ref co, .int (nI (grsK kd M)), .int (nI ifo), .int (nI fl), .long (ma), .int (mk), .int (bi), .long (wo9), .int (ch9), .int (tu9), .ref sq, .ref uq, .ref gq])) :: (wi, .inl (g 0, 4, .inl (fw))) :: (ck, .inl (g 0, 4, .inl (fc))) :: (fq, .inl (g 0, 4, .inl (ff))) :: (co, .inl (g 0, 228, .inl (fco))) :: (sq, .inl (g 0, 8, .inl (fsq))) :: (uq, .inl (g 2, 128, .inl (fu))) :: (gq, .inl (g 0, 7, .inl (fg))) :: wm)) (va_A ((mo, .inr (6, [.int (th), .int (nI M), .int (nI kd), .int (nI (ckb kd M)), .int (nI (nk kd)), .ref wi, .ref ck, .ref fq, .ref co, .int (nI (grsK kd M)), .int (nI ifo), .int (nI fl), .long (ma), .int (mk), .int (bi), .long (wo9), .int (ch9), .int (tu9), .ref sq, .ref uq, .ref gq])) :: (wi, .inl (g 0, 4, .inl (fw))) :: (ck, .inl (g 0, 4, .inl (fc))) :: (fq, .inl (g 0, 4, .inl (ff))) :: (co, .inl (g 0, 228, .inl (fco))) :: (sq, .inl (g 0, 8, .inl (fsq))) :: (uq, .inl (g 2, 128, .inl (fu))) :: (gq, .inl (g 0, 7, .inl (fg))) :: wm) sz)) 0 0 (va_A ((mo, .inr (6, [.int (th), .int (nI M), .int (nI kd), .int (nI (ckb kd M)), .int (nI (nk kd)), .ref wi, .ref ck, .ref fq, .ref co, .int (nI (grsK kd M)), .int (nI ifo), .int (nI fl), .long (ma), .int (mk), .int (bi), .long (wo9), .int (ch9), .int (tu9), .ref sq, .ref uq, .ref gq])) :: (wi, .inl (g 0, 4, .inl (fw))) :: (ck, .inl (g 0, 4, .inl (fc))) :: (fq, .inl (g 0, 4, .inl (ff))) :: (co, .inl (g 0, 228, .inl (fco))) :: (sq, .inl (g 0, 8, .inl (fsq))) :: (uq, .inl (g 2, 128, .inl (fu))) :: (gq, .inl (g 0, 7, .inl (fg))) :: wm) sz) := by
  refine Met.ofW (cc := b_M_spare) (maxL := 5) (ret := (some .int)) (by decide +kernel) rfl ?_
  intro p e s m args below meth c s₁ Bq hml hv
  have hx := Bq.exec
  have hb := Bq.bytes
  have hr := Bq.returns
  have hts : ∀ w ∈ wA, w.before args s = true := fun w h => atoms_spec (ws := w_M_spare) Bq.pre w (List.mem_cons_of_mem _ h)
  have hown : s.vm.findClass R_M = some m.cls := findClass_of_methodNamed Bq.named
  have hlocks := Bq.notSynchronized
  obtain ⟨rfl, hsz, hP, hKK, hD0⟩ := hv
  have hK := hKK.1
  subst hsz
  have hD := hD0.self (sz := s.heap.size)
  generalize hAe : va_A ((mo, .inr (6, [.int (th), .int (nI M), .int (nI kd), .int (nI (ckb kd M)), .int (nI (nk kd)), .ref wi, .ref ck, .ref fq, .ref co, .int (nI (grsK kd M)), .int (nI ifo), .int (nI fl), .long (ma), .int (mk), .int (bi), .long (wo9), .int (ch9), .int (tu9), .ref sq, .ref uq, .ref gq])) :: (wi, .inl (g 0, 4, .inl (fw))) :: (ck, .inl (g 0, 4, .inl (fc))) :: (fq, .inl (g 0, 4, .inl (ff))) :: (co, .inl (g 0, 228, .inl (fco))) :: (sq, .inl (g 0, 8, .inl (fsq))) :: (uq, .inl (g 2, 128, .inl (fu))) :: (gq, .inl (g 0, 7, .inl (fg))) :: wm) s.heap.size = A at hD ⊢
  have hA : ∀ q : Nat, s.heap.size ≤ q → A q := fun q h => by rw [← hAe]; exact Or.inr h
  have hS : va_S A s.heap s.heap [] := va_S.rf
  have hl := lv_entry ([.ref mo, .int (nI j)]) (n := 5) (Nat.le_of_ble_eq_true rfl)
  rw [lg_entry_eq]
  generalize (lg_sl ([.ref mo, .int (nI j)]) ++ List.replicate (5 - (lg_sl ([.ref mo, .int (nI j)])).length) Slot.unset).toArray = ls at hl ⊢
  have hl : lv_has ls 5 [(0, .ref mo), (1, .int (nI j))] := hl
  generalize hQ : MQ below (va_Qi (fun (r : Int32) (u : Unit) => r = nI i) (fun u => qB D (A) ((mo, .inr (6, [.int (nI 0), .int (nI M), .int (nI kd), .int (nI (ckb kd M)), .int (nI (nk kd)), .ref wi, .ref ck, .ref fq, .ref co, .int (nI (grsK kd M)), .int (nI ifo), .int (nI fl), .long (ma), .int (mk), .int (bi), .long (wo9), .int (ch9), .int (tu9), .ref sq, .ref uq, .ref gq])) :: (wi, .inl (g 0, 4, .inl (fw))) :: (ck, .inl (g 0, 4, .inl (fc))) :: (fq, .inl (g 0, 4, .inl (ff))) :: (co, .inl (g 0, 228, .inl (fco))) :: (sq, .inl (g 0, 8, .inl (fsq))) :: (uq, .inl (g 2, 128, .inl (fu))) :: (gq, .inl (g 0, 7, .inl (fg))) :: wm)) (A)) [.ref mo, .int (nI j)].toArray s 0 0 A = Q
  have hA8 : fdn (fun k9 => decide (fsq k9 = nI j)) 8 = some i := fdn_first hi (decide_eq_true hf9) (fun k h => decide_eq_false (hno k h))
  refine lv_iconst (v := (-1)) hx hb d_M_spare_0 (by decide) ?_
  refine lv_istore_n (lv' := [(2, .int ((-1))), (0, .ref mo), (1, .int (nI j))]) hx hb d_M_spare_1 rfl hl (by decide) rfl (fun ls hl => ?_)
  refine lv_iconst (v := (-1)) hx hb d_M_spare_2 (by decide) ?_
  refine lv_istore_n (lv' := [(3, .int ((-1))), (2, .int ((-1))), (0, .ref mo), (1, .int (nI j))]) hx hb d_M_spare_3 rfl hl (by decide) rfl (fun ls hl => ?_)
  refine lv_bipush (v := nI 7) hx hb d_M_spare_4 (by decide) ?_
  refine lv_istore (lv' := [(4, .int (nI 7)), (3, .int ((-1))), (2, .int ((-1))), (0, .ref mo), (1, .int (nI j))]) hx hb d_M_spare_6 hl (by decide) rfl (fun ls hl => ?_)
  have lp8 : ∀ (n : Nat) (d : Nat) (ls : Array Slot) (H : Heap) (locs : List Loc), (9 ≤ d + n) → (d ≤ 8) → lv_has ls 5 [(0, .ref mo), (1, .int (nI j)), (2, .int (oI (fdn (fun k9 => decide (fsq k9 = nI j)) d))), (3, .int (oI (fdn (fun k9 => decide (fsq k9 < 0)) d))), (4, .int (kd8 d))] → va_P D vwCl ((mo, .inr (6, [.int (th), .int (nI M), .int (nI kd), .int (nI (ckb kd M)), .int (nI (nk kd)), .ref wi, .ref ck, .ref fq, .ref co, .int (nI (grsK kd M)), .int (nI ifo), .int (nI fl), .long (ma), .int (mk), .int (bi), .long (wo9), .int (ch9), .int (tu9), .ref sq, .ref uq, .ref gq])) :: (wi, .inl (g 0, 4, .inl (fw))) :: (ck, .inl (g 0, 4, .inl (fc))) :: (fq, .inl (g 0, 4, .inl (ff))) :: (co, .inl (g 0, 228, .inl (fco))) :: (sq, .inl (g 0, 8, .inl (fsq))) :: (uq, .inl (g 2, 128, .inl (fu))) :: (gq, .inl (g 0, 7, .inl (fg))) :: wm) H → va_D A ((mo, .inr (6, [.int (th), .int (nI M), .int (nI kd), .int (nI (ckb kd M)), .int (nI (nk kd)), .ref wi, .ref ck, .ref fq, .ref co, .int (nI (grsK kd M)), .int (nI ifo), .int (nI fl), .long (ma), .int (mk), .int (bi), .long (wo9), .int (ch9), .int (tu9), .ref sq, .ref uq, .ref gq])) :: (wi, .inl (g 0, 4, .inl (fw))) :: (ck, .inl (g 0, 4, .inl (fc))) :: (fq, .inl (g 0, 4, .inl (ff))) :: (co, .inl (g 0, 228, .inl (fco))) :: (sq, .inl (g 0, 8, .inl (fsq))) :: (uq, .inl (g 2, 128, .inl (fu))) :: (gq, .inl (g 0, 7, .inl (fg))) :: wm) → va_S A s.heap H locs → W p l e (headSpec w_M_spare rm_M_spare).room s m [.ref mo, .int (nI j)].toArray below meth c H locs 0 0 Q (F0 m 8 ls []) := by
    intro n
    induction n with
    | zero => intro d ls H locs hfu hd _ _ _ _; exact absurd hfu (by omega)
    | succ n ih =>
      intro d ls H locs hfu hd hl hP hD hS
      refine lv_iload hx hb d_M_spare_8 (lv_at hl 4 rfl) ?_
      refine lv_if_lt (tgt := 54) hx hb d_M_spare_10 (by decide) (fun k10 => ?_) (fun k10 => ?_)
      · skip
        have hd8 := kd8_neg.mp k10
        obtain rfl : d = 8 := by omega
        have hl : lv_has ls 5 [(0, .ref mo), (1, .int (nI j)), (2, .int (nI i)), (3, .int (oI (fdn (fun k9 => decide (fsq k9 < 0)) 8))), (4, .int (kd8 8))] := by rw [show nI i = oI (fdn (fun k9 => decide (fsq k9 = nI j)) 8) by rw [hA8]; rfl]; exact hl
        refine lv_iload_n hx hb d_M_spare_54 rfl (lv_at hl 1 rfl) ?_
        refine lv_iconst (v := nI 0) hx hb d_M_spare_55 (by decide) ?_
        refine lv_ldc (v := 65535) hx hb hown (hts _ m_691) d_M_spare_56 ?_
        refine lv_topi (fun y1 ey1 => ?_)
        obtain rfl : y1 = nI 65535 := ey1.trans (by decide)
        refine lc_Si (As := [.int (nI j), .int (nI 0), .int (nI 65535)]) (rest := []) ⟨hx, hb, hml, hown, hts⟩ (c_M_in l D g _ _ (nI j) 65536 (by omega) (by omega)) (kS 3 hts m_682 m_680 m_681 m_40 (by decide +kernel) ⟨Nat.le_of_ble_eq_true rfl, Nat.le_of_ble_eq_true rfl⟩) hKK hP hD hS hA hl.1 rfl rfl (Nat.le_of_ble_eq_true rfl) d_M_spare_58 ⟨Nat.le_of_ble_eq_true rfl, Nat.le_of_ble_eq_true rfl⟩ (fun r1 ur1 H locs er1 hP hD hS => ?_)
        obtain rfl : r1 = nI 1 := er1.trans (by rw [inBb_nI (by decide) hj])
        refine lx_if_ne (tgt := 68) hx hb d_M_spare_61 (by decide) (by omega) (fun c61 => ?_) (fun c61 => ?_)
        · skip
          refine lv_iconst (v := nI 0) hx hb d_M_spare_68 (by decide) ?_
          refine lv_istore (lv' := [(4, .int (nI 0)), (0, .ref mo), (1, .int (nI j)), (2, .int (nI i)), (3, .int (oI (fdn (fun k9 => decide (fsq k9 < 0)) 8)))]) hx hb d_M_spare_69 hl (by decide) rfl (fun ls hl => ?_)
          refine lv_aload_n hx hb d_M_spare_71 rfl (lv_at hl 1 rfl) ?_
          refine lv_iload hx hb d_M_spare_72 (lv_at hl 0 rfl) ?_
          refine lv_iload_n hx hb d_M_spare_74 rfl (lv_at hl 3 rfl) ?_
          refine lx_if_ge (tgt := 86) hx hb d_M_spare_75 (by decide) (by omega) ?_
          refine lv_iconst (v := nI 0) hx hb d_M_spare_86 (by decide) ?_
          refine lc_Vi (b := mo) (As := [.int (nI 0), .int (nI 0)]) (rest := []) ⟨hx, hb, hml, hown, hts⟩ (c_M_fails l D g _ wm mo wi ck fq co sq uq gq kd M ifo fl th mk bi ch9 tu9 ma wo9 fw fc ff fco fsq fu fg hM0 hM 0 0 (by decide) (by decide)) (kV 2 hts m_686 m_683 m_685 m_15 m_40 (by decide +kernel) ⟨Nat.le_of_ble_eq_true rfl, Nat.le_of_ble_eq_true rfl⟩) (va_recv hK hP (ci := 6) (q0 := 0) rfl rfl) hKK hP hD hS hA hl.1 rfl rfl (Nat.le_of_ble_eq_true rfl) d_M_spare_87 ⟨Nat.le_of_ble_eq_true rfl, Nat.le_of_ble_eq_true rfl⟩ (fun rf uf H locs ef hP hD hS => ?_)
          have hP : va_P D vwCl ((mo, .inr (6, [.int (nI 0), .int (nI M), .int (nI kd), .int (nI (ckb kd M)), .int (nI (nk kd)), .ref wi, .ref ck, .ref fq, .ref co, .int (nI (grsK kd M)), .int (nI ifo), .int (nI fl), .long (ma), .int (mk), .int (bi), .long (wo9), .int (ch9), .int (tu9), .ref sq, .ref uq, .ref gq])) :: (wi, .inl (g 0, 4, .inl (fw))) :: (ck, .inl (g 0, 4, .inl (fc))) :: (fq, .inl (g 0, 4, .inl (ff))) :: (co, .inl (g 0, 228, .inl (fco))) :: (sq, .inl (g 0, 8, .inl (fsq))) :: (uq, .inl (g 2, 128, .inl (fu))) :: (gq, .inl (g 0, 7, .inl (fg))) :: wm) H := hP
          have hD : va_D A ((mo, .inr (6, [.int (nI 0), .int (nI M), .int (nI kd), .int (nI (ckb kd M)), .int (nI (nk kd)), .ref wi, .ref ck, .ref fq, .ref co, .int (nI (grsK kd M)), .int (nI ifo), .int (nI fl), .long (ma), .int (mk), .int (bi), .long (wo9), .int (ch9), .int (tu9), .ref sq, .ref uq, .ref gq])) :: (wi, .inl (g 0, 4, .inl (fw))) :: (ck, .inl (g 0, 4, .inl (fc))) :: (fq, .inl (g 0, 4, .inl (ff))) :: (co, .inl (g 0, 228, .inl (fco))) :: (sq, .inl (g 0, 8, .inl (fsq))) :: (uq, .inl (g 2, 128, .inl (fu))) :: (gq, .inl (g 0, 7, .inl (fg))) :: wm) := hD
          obtain rfl : rf = nI 0 := ef
          refine lx_if_eq (tgt := 95) hx hb d_M_spare_90 (by decide) (by omega) (fun c90 => ?_) (fun c90 => ?_)
          · skip
            refine lv_iload_n hx hb d_M_spare_95 rfl (lv_at hl 3 rfl) ?_
            refine lx_if_ge (tgt := 103) hx hb d_M_spare_96 (by decide) (by omega) ?_
            refine lv_iload_n hx hb d_M_spare_103 rfl (lv_at hl 3 rfl) ?_
            refine lv_istore_n (lv' := [(2, .int (nI i)), (4, .int (nI 0)), (0, .ref mo), (1, .int (nI j)), (3, .int (oI (fdn (fun k9 => decide (fsq k9 < 0)) 8)))]) hx hb d_M_spare_104 rfl hl (by decide) rfl (fun ls hl => ?_)
            refine lv_aload_n hx hb d_M_spare_105 rfl (lv_at hl 2 rfl) ?_
            refine va_get (D := D) (ci := 6) (v := .ref sq) (C := R_M) (T := F_M) (N := 21) hx hb hts i_M hown hK hP 0 rfl rfl 18 (by decide) (hts _ m_621) (fun _ h9 => h9) rfl d_M_spare_106 ?_
            refine lv_iload_n hx hb d_M_spare_109 rfl (lv_at hl 0 rfl) ?_
            refine lv_iload_n hx hb d_M_spare_110 rfl (lv_at hl 3 rfl) ?_
            refine lx_iast (f' := fsq) hx hb hK hP hD hS 5 0 rfl rfl (j := i) (by omega) (by omega) (upd_same hf9) d_M_spare_111 (fun H locs hP hD hS => ?_)
            have hP : va_P D vwCl ((mo, .inr (6, [.int (nI 0), .int (nI M), .int (nI kd), .int (nI (ckb kd M)), .int (nI (nk kd)), .ref wi, .ref ck, .ref fq, .ref co, .int (nI (grsK kd M)), .int (nI ifo), .int (nI fl), .long (ma), .int (mk), .int (bi), .long (wo9), .int (ch9), .int (tu9), .ref sq, .ref uq, .ref gq])) :: (wi, .inl (g 0, 4, .inl (fw))) :: (ck, .inl (g 0, 4, .inl (fc))) :: (fq, .inl (g 0, 4, .inl (ff))) :: (co, .inl (g 0, 228, .inl (fco))) :: (sq, .inl (g 0, 8, .inl (fsq))) :: (uq, .inl (g 2, 128, .inl (fu))) :: (gq, .inl (g 0, 7, .inl (fg))) :: wm) H := hP
            have hD : va_D A ((mo, .inr (6, [.int (nI 0), .int (nI M), .int (nI kd), .int (nI (ckb kd M)), .int (nI (nk kd)), .ref wi, .ref ck, .ref fq, .ref co, .int (nI (grsK kd M)), .int (nI ifo), .int (nI fl), .long (ma), .int (mk), .int (bi), .long (wo9), .int (ch9), .int (tu9), .ref sq, .ref uq, .ref gq])) :: (wi, .inl (g 0, 4, .inl (fw))) :: (ck, .inl (g 0, 4, .inl (fc))) :: (fq, .inl (g 0, 4, .inl (ff))) :: (co, .inl (g 0, 228, .inl (fco))) :: (sq, .inl (g 0, 8, .inl (fsq))) :: (uq, .inl (g 2, 128, .inl (fu))) :: (gq, .inl (g 0, 7, .inl (fg))) :: wm) := hD
            refine lv_iload_n hx hb d_M_spare_112 rfl (lv_at hl 0 rfl) ?_
            rw [← hQ]
            refine W.iret (v := nI i) hx hb hr ?_ hS.2.2 d_M_spare_113
            exact fun t ht hW => ⟨⟨nI i, (), rfl, rfl, by rw [ht]; exact hP, hD⟩, hS.F ht⟩
          · skip
            exact absurd rfl c90
        · skip
          exact absurd c61 (by decide)
      · skip
        have hd8 : d < 8 := Decidable.byContradiction (fun q => k10 (kd8_neg.mpr q))
        have hl : lv_has ls 5 [(0, .ref mo), (1, .int (nI j)), (2, .int (oI (fdn (fun k9 => decide (fsq k9 = nI j)) d))), (3, .int (oI (fdn (fun k9 => decide (fsq k9 < 0)) d))), (4, .int (nI (7 - d)))] := by rw [← kd8_lt hd8]; exact hl
        refine lv_aload_n hx hb d_M_spare_13 rfl (lv_at hl 0 rfl) ?_
        refine va_get (D := D) (ci := 6) (v := .ref sq) (C := R_M) (T := F_M) (N := 21) hx hb hts i_M hown hK hP 0 rfl rfl 18 (by decide) (hts _ m_621) (fun _ h9 => h9) rfl d_M_spare_14 ?_
        refine lv_iload hx hb d_M_spare_17 (lv_at hl 4 rfl) ?_
        refine lx_iald (v := fsq (7 - d)) hx hb hK hP 5 0 rfl rfl (j := 7 - d) (by omega) (by omega) (rfl) d_M_spare_19 ?_
        refine lv_iload_n hx hb d_M_spare_20 rfl (lv_at hl 1 rfl) ?_
        refine lv_icmp_ne (tgt := 29) hx hb d_M_spare_21 (by decide) (fun c21 => ?_) (fun c21 => ?_)
        · skip
          refine lv_iload_n hx hb d_M_spare_29 rfl (lv_at hl 2 rfl) ?_
          refine lv_istore_n (lv' := [(2, .int (oI (fdn (fun k9 => decide (fsq k9 = nI j)) d))), (0, .ref mo), (1, .int (nI j)), (3, .int (oI (fdn (fun k9 => decide (fsq k9 < 0)) d))), (4, .int (nI (7 - d)))]) hx hb d_M_spare_30 rfl hl (by decide) rfl (fun ls hl => ?_)
          have hl : lv_has ls 5 [(2, .int (oI (fdn (fun k9 => decide (fsq k9 = nI j)) (d + 1)))), (0, .ref mo), (1, .int (nI j)), (3, .int (oI (fdn (fun k9 => decide (fsq k9 < 0)) d))), (4, .int (nI (7 - d)))] := by rw [show fdn (fun k9 => decide (fsq k9 = nI j)) (d + 1) = fdn (fun k9 => decide (fsq k9 = nI j)) d from by rw [fdn_s]; exact if_neg (fun q => c21 (of_decide_eq_true q))]; exact hl
          refine lv_aload_n hx hb d_M_spare_31 rfl (lv_at hl 1 rfl) ?_
          refine va_get (D := D) (ci := 6) (v := .ref sq) (C := R_M) (T := F_M) (N := 21) hx hb hts i_M hown hK hP 0 rfl rfl 18 (by decide) (hts _ m_621) (fun _ h9 => h9) rfl d_M_spare_32 ?_
          refine lv_iload hx hb d_M_spare_35 (lv_at hl 4 rfl) ?_
          refine lx_iald (v := fsq (7 - d)) hx hb hK hP 5 0 rfl rfl (j := 7 - d) (by omega) (by omega) (rfl) d_M_spare_37 ?_
          refine lv_if_ge (tgt := 46) hx hb d_M_spare_38 (by decide) (fun c38 => ?_) (fun c38 => ?_)
          · skip
            refine lv_iload_n hx hb d_M_spare_46 rfl (lv_at hl 3 rfl) ?_
            refine lv_istore_n (lv' := [(3, .int (oI (fdn (fun k9 => decide (fsq k9 < 0)) d))), (2, .int (oI (fdn (fun k9 => decide (fsq k9 = nI j)) (d + 1)))), (0, .ref mo), (1, .int (nI j)), (4, .int (nI (7 - d)))]) hx hb d_M_spare_47 rfl hl (by decide) rfl (fun ls hl => ?_)
            refine lv_iinc (v := kd8 (d + 1)) (lv' := [(4, .int (kd8 (d + 1))), (3, .int (oI (fdn (fun k9 => decide (fsq k9 < 0)) d))), (2, .int (oI (fdn (fun k9 => decide (fsq k9 = nI j)) (d + 1)))), (0, .ref mo), (1, .int (nI j))]) hx hb d_M_spare_48 hl (k := 4) rfl (kd8_s hd8) (by decide) rfl (fun ls hl => ?_)
            refine lv_goto (tgt := 8) hx hb d_M_spare_51 (by decide) ?_
            have hl : lv_has ls 5 [(4, .int (kd8 (d + 1))), (3, .int (oI (fdn (fun k9 => decide (fsq k9 < 0)) (d + 1)))), (2, .int (oI (fdn (fun k9 => decide (fsq k9 = nI j)) (d + 1)))), (0, .ref mo), (1, .int (nI j))] := by rw [show fdn (fun k9 => decide (fsq k9 < 0)) (d + 1) = fdn (fun k9 => decide (fsq k9 < 0)) d from by rw [fdn_s]; exact if_neg (fun q => absurd (of_decide_eq_true q) (Int32.not_lt.mpr c38))]; exact hl
            exact ih (d + 1) _ _ _ (by omega) (by omega) (lv_sub hl [3, 4, 2, 1, 0] rfl) hP hD hS
          · skip
            refine lv_iload hx hb d_M_spare_41 (lv_at hl 4 rfl) ?_
            refine lv_goto (tgt := 47) hx hb d_M_spare_43 (by decide) ?_
            refine lv_istore_n (lv' := [(3, .int (nI (7 - d))), (2, .int (oI (fdn (fun k9 => decide (fsq k9 = nI j)) (d + 1)))), (0, .ref mo), (1, .int (nI j)), (4, .int (nI (7 - d)))]) hx hb d_M_spare_47 rfl hl (by decide) rfl (fun ls hl => ?_)
            refine lv_iinc (v := kd8 (d + 1)) (lv' := [(4, .int (kd8 (d + 1))), (3, .int (nI (7 - d))), (2, .int (oI (fdn (fun k9 => decide (fsq k9 = nI j)) (d + 1)))), (0, .ref mo), (1, .int (nI j))]) hx hb d_M_spare_48 hl (k := 4) rfl (kd8_s hd8) (by decide) rfl (fun ls hl => ?_)
            refine lv_goto (tgt := 8) hx hb d_M_spare_51 (by decide) ?_
            have hl : lv_has ls 5 [(4, .int (kd8 (d + 1))), (3, .int (oI (fdn (fun k9 => decide (fsq k9 < 0)) (d + 1)))), (2, .int (oI (fdn (fun k9 => decide (fsq k9 = nI j)) (d + 1)))), (0, .ref mo), (1, .int (nI j))] := by rw [show fdn (fun k9 => decide (fsq k9 < 0)) (d + 1) = some (7 - d) from by rw [fdn_s]; exact if_pos (decide_eq_true (Int32.not_le.mp c38))]; exact hl
            exact ih (d + 1) _ _ _ (by omega) (by omega) (lv_sub hl [3, 4, 2, 1, 0] rfl) hP hD hS
        · skip
          refine lv_iload hx hb d_M_spare_24 (lv_at hl 4 rfl) ?_
          refine lv_goto (tgt := 30) hx hb d_M_spare_26 (by decide) ?_
          refine lv_istore_n (lv' := [(2, .int (nI (7 - d))), (0, .ref mo), (1, .int (nI j)), (3, .int (oI (fdn (fun k9 => decide (fsq k9 < 0)) d))), (4, .int (nI (7 - d)))]) hx hb d_M_spare_30 rfl hl (by decide) rfl (fun ls hl => ?_)
          have hl : lv_has ls 5 [(2, .int (oI (fdn (fun k9 => decide (fsq k9 = nI j)) (d + 1)))), (0, .ref mo), (1, .int (nI j)), (3, .int (oI (fdn (fun k9 => decide (fsq k9 < 0)) d))), (4, .int (nI (7 - d)))] := by rw [show fdn (fun k9 => decide (fsq k9 = nI j)) (d + 1) = some (7 - d) from by rw [fdn_s]; exact if_pos (decide_eq_true c21)]; exact hl
          refine lv_aload_n hx hb d_M_spare_31 rfl (lv_at hl 1 rfl) ?_
          refine va_get (D := D) (ci := 6) (v := .ref sq) (C := R_M) (T := F_M) (N := 21) hx hb hts i_M hown hK hP 0 rfl rfl 18 (by decide) (hts _ m_621) (fun _ h9 => h9) rfl d_M_spare_32 ?_
          refine lv_iload hx hb d_M_spare_35 (lv_at hl 4 rfl) ?_
          refine lx_iald (v := fsq (7 - d)) hx hb hK hP 5 0 rfl rfl (j := 7 - d) (by omega) (by omega) (rfl) d_M_spare_37 ?_
          refine lv_if_ge (tgt := 46) hx hb d_M_spare_38 (by decide) (fun c38 => ?_) (fun c38 => ?_)
          · skip
            refine lv_iload_n hx hb d_M_spare_46 rfl (lv_at hl 3 rfl) ?_
            refine lv_istore_n (lv' := [(3, .int (oI (fdn (fun k9 => decide (fsq k9 < 0)) d))), (2, .int (oI (fdn (fun k9 => decide (fsq k9 = nI j)) (d + 1)))), (0, .ref mo), (1, .int (nI j)), (4, .int (nI (7 - d)))]) hx hb d_M_spare_47 rfl hl (by decide) rfl (fun ls hl => ?_)
            refine lv_iinc (v := kd8 (d + 1)) (lv' := [(4, .int (kd8 (d + 1))), (3, .int (oI (fdn (fun k9 => decide (fsq k9 < 0)) d))), (2, .int (oI (fdn (fun k9 => decide (fsq k9 = nI j)) (d + 1)))), (0, .ref mo), (1, .int (nI j))]) hx hb d_M_spare_48 hl (k := 4) rfl (kd8_s hd8) (by decide) rfl (fun ls hl => ?_)
            refine lv_goto (tgt := 8) hx hb d_M_spare_51 (by decide) ?_
            have hl : lv_has ls 5 [(4, .int (kd8 (d + 1))), (3, .int (oI (fdn (fun k9 => decide (fsq k9 < 0)) (d + 1)))), (2, .int (oI (fdn (fun k9 => decide (fsq k9 = nI j)) (d + 1)))), (0, .ref mo), (1, .int (nI j))] := by rw [show fdn (fun k9 => decide (fsq k9 < 0)) (d + 1) = fdn (fun k9 => decide (fsq k9 < 0)) d from by rw [fdn_s]; exact if_neg (fun q => absurd (of_decide_eq_true q) (Int32.not_lt.mpr c38))]; exact hl
            exact ih (d + 1) _ _ _ (by omega) (by omega) (lv_sub hl [3, 4, 2, 1, 0] rfl) hP hD hS
          · skip
            refine lv_iload hx hb d_M_spare_41 (lv_at hl 4 rfl) ?_
            refine lv_goto (tgt := 47) hx hb d_M_spare_43 (by decide) ?_
            refine lv_istore_n (lv' := [(3, .int (nI (7 - d))), (2, .int (oI (fdn (fun k9 => decide (fsq k9 = nI j)) (d + 1)))), (0, .ref mo), (1, .int (nI j)), (4, .int (nI (7 - d)))]) hx hb d_M_spare_47 rfl hl (by decide) rfl (fun ls hl => ?_)
            refine lv_iinc (v := kd8 (d + 1)) (lv' := [(4, .int (kd8 (d + 1))), (3, .int (nI (7 - d))), (2, .int (oI (fdn (fun k9 => decide (fsq k9 = nI j)) (d + 1)))), (0, .ref mo), (1, .int (nI j))]) hx hb d_M_spare_48 hl (k := 4) rfl (kd8_s hd8) (by decide) rfl (fun ls hl => ?_)
            refine lv_goto (tgt := 8) hx hb d_M_spare_51 (by decide) ?_
            have hl : lv_has ls 5 [(4, .int (kd8 (d + 1))), (3, .int (oI (fdn (fun k9 => decide (fsq k9 < 0)) (d + 1)))), (2, .int (oI (fdn (fun k9 => decide (fsq k9 = nI j)) (d + 1)))), (0, .ref mo), (1, .int (nI j))] := by rw [show fdn (fun k9 => decide (fsq k9 < 0)) (d + 1) = some (7 - d) from by rw [fdn_s]; exact if_pos (decide_eq_true (Int32.not_le.mp c38))]; exact hl
            exact ih (d + 1) _ _ _ (by omega) (by omega) (lv_sub hl [3, 4, 2, 1, 0] rfl) hP hD hS
  have hl : lv_has ls 5 [(4, .int (nI 7)), (3, .int ((-1))), (2, .int ((-1))), (0, .ref mo), (1, .int (nI j))] := hl
  have hl : lv_has ls 5 [(4, .int (kd8 0)), (3, .int (oI (fdn (fun k9 => decide (fsq k9 < 0)) 0))), (2, .int (oI (fdn (fun k9 => decide (fsq k9 = nI j)) 0))), (0, .ref mo), (1, .int (nI j))] := hl
  exact lp8 9 0 _ _ _ (by omega) (by omega) (lv_sub hl [3, 4, 2, 1, 0] rfl) hP hD hS
set_option maxHeartbeats 4000000 in
set_option maxRecDepth 100000 in
theorem c_M_spareNew (l : Launch) (D : va_G) (g : Nat → ClassId) (sz : Nat) (wm : va_W) (mo wi ck fq co sq uq gq kd M ifo fl : Nat) (th mk bi ch9 tu9 : Int32) (ma wo9 : Int64) (fw fc ff fco fsq fu fg : Nat → Int32) (hM0 : 0 < M) (hM : M ≤ 57) (j su : Nat) (hj : j < 65536) (hsu : su < 8) (hno : ∀ k, k < 8 → ¬ fsq k = nI j) (hng : fsq su < 0) (hps : ∀ k, k < su → ¬ fsq k < 0) : Met l y_M_spare w_M_spare rm_M_spare (va_Pc [.ref mo, .int (nI j)] (pP D (tyl g) ((mo, .inr (6, [.int (th), .int (nI M), .int (nI kd), .int (nI (ckb kd M)), .int (nI (nk kd)), .ref wi, .ref ck, .ref fq, .ref co, .int (nI (grsK kd M)), .int (nI ifo), .int (nI fl), .long (ma), .int (mk), .int (bi), .long (wo9), .int (ch9), .int (tu9), .ref sq, .ref uq, .ref gq])) :: (wi, .inl (g 0, 4, .inl (fw))) :: (ck, .inl (g 0, 4, .inl (fc))) :: (fq, .inl (g 0, 4, .inl (ff))) :: (co, .inl (g 0, 228, .inl (fco))) :: (sq, .inl (g 0, 8, .inl (fsq))) :: (uq, .inl (g 2, 128, .inl (fu))) :: (gq, .inl (g 0, 7, .inl (fg))) :: wm) sz)) (va_Qi (fun (r : Int32) (u : Unit) => r = nI su) (fun u => qB D (va_A ((mo, .inr (6, [.int (th), .int (nI M), .int (nI kd), .int (nI (ckb kd M)), .int (nI (nk kd)), .ref wi, .ref ck, .ref fq, .ref co, .int (nI (grsK kd M)), .int (nI ifo), .int (nI fl), .long (ma), .int (mk), .int (bi), .long (wo9), .int (ch9), .int (tu9), .ref sq, .ref uq, .ref gq])) :: (wi, .inl (g 0, 4, .inl (fw))) :: (ck, .inl (g 0, 4, .inl (fc))) :: (fq, .inl (g 0, 4, .inl (ff))) :: (co, .inl (g 0, 228, .inl (fco))) :: (sq, .inl (g 0, 8, .inl (fsq))) :: (uq, .inl (g 2, 128, .inl (fu))) :: (gq, .inl (g 0, 7, .inl (fg))) :: wm) sz) ((mo, .inr (6, [.int (nI 0), .int (nI M), .int (nI kd), .int (nI (ckb kd M)), .int (nI (nk kd)), .ref wi, .ref ck, .ref fq, .ref co, .int (nI (grsK kd M)), .int (nI ifo), .int (nI fl), .long (ma), .int (mk), .int (bi), .long (wo9), .int (ch9), .int (tu9), .ref sq, .ref uq, .ref gq])) :: (wi, .inl (g 0, 4, .inl (fw))) :: (ck, .inl (g 0, 4, .inl (fc))) :: (fq, .inl (g 0, 4, .inl (ff))) :: (co, .inl (g 0, 228, .inl (fco))) :: (sq, .inl (g 0, 8, .inl (upd fsq su (nI j)))) :: (uq, .inl (g 2, 128, .inl (fu))) :: (gq, .inl (g 0, 7, .inl (fg))) :: wm)) (va_A ((mo, .inr (6, [.int (th), .int (nI M), .int (nI kd), .int (nI (ckb kd M)), .int (nI (nk kd)), .ref wi, .ref ck, .ref fq, .ref co, .int (nI (grsK kd M)), .int (nI ifo), .int (nI fl), .long (ma), .int (mk), .int (bi), .long (wo9), .int (ch9), .int (tu9), .ref sq, .ref uq, .ref gq])) :: (wi, .inl (g 0, 4, .inl (fw))) :: (ck, .inl (g 0, 4, .inl (fc))) :: (fq, .inl (g 0, 4, .inl (ff))) :: (co, .inl (g 0, 228, .inl (fco))) :: (sq, .inl (g 0, 8, .inl (fsq))) :: (uq, .inl (g 2, 128, .inl (fu))) :: (gq, .inl (g 0, 7, .inl (fg))) :: wm) sz)) 0 0 (va_A ((mo, .inr (6, [.int (th), .int (nI M), .int (nI kd), .int (nI (ckb kd M)), .int (nI (nk kd)), .ref wi, .ref ck, .ref fq, .ref co, .int (nI (grsK kd M)), .int (nI ifo), .int (nI fl), .long (ma), .int (mk), .int (bi), .long (wo9), .int (ch9), .int (tu9), .ref sq, .ref uq, .ref gq])) :: (wi, .inl (g 0, 4, .inl (fw))) :: (ck, .inl (g 0, 4, .inl (fc))) :: (fq, .inl (g 0, 4, .inl (ff))) :: (co, .inl (g 0, 228, .inl (fco))) :: (sq, .inl (g 0, 8, .inl (fsq))) :: (uq, .inl (g 2, 128, .inl (fu))) :: (gq, .inl (g 0, 7, .inl (fg))) :: wm) sz) := by
  refine Met.ofW (cc := b_M_spare) (maxL := 5) (ret := (some .int)) (by decide +kernel) rfl ?_
  intro p e s m args below meth c s₁ Bq hml hv
  have hx := Bq.exec
  have hb := Bq.bytes
  have hr := Bq.returns
  have hts : ∀ w ∈ wA, w.before args s = true := fun w h => atoms_spec (ws := w_M_spare) Bq.pre w (List.mem_cons_of_mem _ h)
  have hown : s.vm.findClass R_M = some m.cls := findClass_of_methodNamed Bq.named
  have hlocks := Bq.notSynchronized
  obtain ⟨rfl, hsz, hP, hKK, hD0⟩ := hv
  have hK := hKK.1
  subst hsz
  have hD := hD0.self (sz := s.heap.size)
  generalize hAe : va_A ((mo, .inr (6, [.int (th), .int (nI M), .int (nI kd), .int (nI (ckb kd M)), .int (nI (nk kd)), .ref wi, .ref ck, .ref fq, .ref co, .int (nI (grsK kd M)), .int (nI ifo), .int (nI fl), .long (ma), .int (mk), .int (bi), .long (wo9), .int (ch9), .int (tu9), .ref sq, .ref uq, .ref gq])) :: (wi, .inl (g 0, 4, .inl (fw))) :: (ck, .inl (g 0, 4, .inl (fc))) :: (fq, .inl (g 0, 4, .inl (ff))) :: (co, .inl (g 0, 228, .inl (fco))) :: (sq, .inl (g 0, 8, .inl (fsq))) :: (uq, .inl (g 2, 128, .inl (fu))) :: (gq, .inl (g 0, 7, .inl (fg))) :: wm) s.heap.size = A at hD ⊢
  have hA : ∀ q : Nat, s.heap.size ≤ q → A q := fun q h => by rw [← hAe]; exact Or.inr h
  have hS : va_S A s.heap s.heap [] := va_S.rf
  have hl := lv_entry ([.ref mo, .int (nI j)]) (n := 5) (Nat.le_of_ble_eq_true rfl)
  rw [lg_entry_eq]
  generalize (lg_sl ([.ref mo, .int (nI j)]) ++ List.replicate (5 - (lg_sl ([.ref mo, .int (nI j)])).length) Slot.unset).toArray = ls at hl ⊢
  have hl : lv_has ls 5 [(0, .ref mo), (1, .int (nI j))] := hl
  generalize hQ : MQ below (va_Qi (fun (r : Int32) (u : Unit) => r = nI su) (fun u => qB D (A) ((mo, .inr (6, [.int (nI 0), .int (nI M), .int (nI kd), .int (nI (ckb kd M)), .int (nI (nk kd)), .ref wi, .ref ck, .ref fq, .ref co, .int (nI (grsK kd M)), .int (nI ifo), .int (nI fl), .long (ma), .int (mk), .int (bi), .long (wo9), .int (ch9), .int (tu9), .ref sq, .ref uq, .ref gq])) :: (wi, .inl (g 0, 4, .inl (fw))) :: (ck, .inl (g 0, 4, .inl (fc))) :: (fq, .inl (g 0, 4, .inl (ff))) :: (co, .inl (g 0, 228, .inl (fco))) :: (sq, .inl (g 0, 8, .inl (upd fsq su (nI j)))) :: (uq, .inl (g 2, 128, .inl (fu))) :: (gq, .inl (g 0, 7, .inl (fg))) :: wm)) (A)) [.ref mo, .int (nI j)].toArray s 0 0 A = Q
  have hA8 : fdn (fun k9 => decide (fsq k9 = nI j)) 8 = none := fdn_no (fun k h => decide_eq_false (hno k h))
  have hF8 : fdn (fun k9 => decide (fsq k9 < 0)) 8 = some su := fdn_first hsu (decide_eq_true hng) (fun k h => decide_eq_false (hps k h))
  refine lv_iconst (v := (-1)) hx hb d_M_spare_0 (by decide) ?_
  refine lv_istore_n (lv' := [(2, .int ((-1))), (0, .ref mo), (1, .int (nI j))]) hx hb d_M_spare_1 rfl hl (by decide) rfl (fun ls hl => ?_)
  refine lv_iconst (v := (-1)) hx hb d_M_spare_2 (by decide) ?_
  refine lv_istore_n (lv' := [(3, .int ((-1))), (2, .int ((-1))), (0, .ref mo), (1, .int (nI j))]) hx hb d_M_spare_3 rfl hl (by decide) rfl (fun ls hl => ?_)
  refine lv_bipush (v := nI 7) hx hb d_M_spare_4 (by decide) ?_
  refine lv_istore (lv' := [(4, .int (nI 7)), (3, .int ((-1))), (2, .int ((-1))), (0, .ref mo), (1, .int (nI j))]) hx hb d_M_spare_6 hl (by decide) rfl (fun ls hl => ?_)
  have lp8 : ∀ (n : Nat) (d : Nat) (ls : Array Slot) (H : Heap) (locs : List Loc), (9 ≤ d + n) → (d ≤ 8) → lv_has ls 5 [(0, .ref mo), (1, .int (nI j)), (2, .int (oI (fdn (fun k9 => decide (fsq k9 = nI j)) d))), (3, .int (oI (fdn (fun k9 => decide (fsq k9 < 0)) d))), (4, .int (kd8 d))] → va_P D vwCl ((mo, .inr (6, [.int (th), .int (nI M), .int (nI kd), .int (nI (ckb kd M)), .int (nI (nk kd)), .ref wi, .ref ck, .ref fq, .ref co, .int (nI (grsK kd M)), .int (nI ifo), .int (nI fl), .long (ma), .int (mk), .int (bi), .long (wo9), .int (ch9), .int (tu9), .ref sq, .ref uq, .ref gq])) :: (wi, .inl (g 0, 4, .inl (fw))) :: (ck, .inl (g 0, 4, .inl (fc))) :: (fq, .inl (g 0, 4, .inl (ff))) :: (co, .inl (g 0, 228, .inl (fco))) :: (sq, .inl (g 0, 8, .inl (fsq))) :: (uq, .inl (g 2, 128, .inl (fu))) :: (gq, .inl (g 0, 7, .inl (fg))) :: wm) H → va_D A ((mo, .inr (6, [.int (th), .int (nI M), .int (nI kd), .int (nI (ckb kd M)), .int (nI (nk kd)), .ref wi, .ref ck, .ref fq, .ref co, .int (nI (grsK kd M)), .int (nI ifo), .int (nI fl), .long (ma), .int (mk), .int (bi), .long (wo9), .int (ch9), .int (tu9), .ref sq, .ref uq, .ref gq])) :: (wi, .inl (g 0, 4, .inl (fw))) :: (ck, .inl (g 0, 4, .inl (fc))) :: (fq, .inl (g 0, 4, .inl (ff))) :: (co, .inl (g 0, 228, .inl (fco))) :: (sq, .inl (g 0, 8, .inl (fsq))) :: (uq, .inl (g 2, 128, .inl (fu))) :: (gq, .inl (g 0, 7, .inl (fg))) :: wm) → va_S A s.heap H locs → W p l e (headSpec w_M_spare rm_M_spare).room s m [.ref mo, .int (nI j)].toArray below meth c H locs 0 0 Q (F0 m 8 ls []) := by
    intro n
    induction n with
    | zero => intro d ls H locs hfu hd _ _ _ _; exact absurd hfu (by omega)
    | succ n ih =>
      intro d ls H locs hfu hd hl hP hD hS
      refine lv_iload hx hb d_M_spare_8 (lv_at hl 4 rfl) ?_
      refine lv_if_lt (tgt := 54) hx hb d_M_spare_10 (by decide) (fun k10 => ?_) (fun k10 => ?_)
      · skip
        have hd8 := kd8_neg.mp k10
        obtain rfl : d = 8 := by omega
        have hl : lv_has ls 5 [(0, .ref mo), (1, .int (nI j)), (2, .int ((-1))), (3, .int (oI (fdn (fun k9 => decide (fsq k9 < 0)) 8))), (4, .int (kd8 8))] := by rw [show (-1 : Int32) = oI (fdn (fun k9 => decide (fsq k9 = nI j)) 8) by rw [hA8]; rfl]; exact hl
        have hl : lv_has ls 5 [(0, .ref mo), (1, .int (nI j)), (2, .int ((-1))), (3, .int (nI su)), (4, .int (kd8 8))] := by rw [show nI su = oI (fdn (fun k9 => decide (fsq k9 < 0)) 8) by rw [hF8]; rfl]; exact hl
        refine lv_iload_n hx hb d_M_spare_54 rfl (lv_at hl 1 rfl) ?_
        refine lv_iconst (v := nI 0) hx hb d_M_spare_55 (by decide) ?_
        refine lv_ldc (v := 65535) hx hb hown (hts _ m_691) d_M_spare_56 ?_
        refine lv_topi (fun y1 ey1 => ?_)
        obtain rfl : y1 = nI 65535 := ey1.trans (by decide)
        refine lc_Si (As := [.int (nI j), .int (nI 0), .int (nI 65535)]) (rest := []) ⟨hx, hb, hml, hown, hts⟩ (c_M_in l D g _ _ (nI j) 65536 (by omega) (by omega)) (kS 3 hts m_682 m_680 m_681 m_40 (by decide +kernel) ⟨Nat.le_of_ble_eq_true rfl, Nat.le_of_ble_eq_true rfl⟩) hKK hP hD hS hA hl.1 rfl rfl (Nat.le_of_ble_eq_true rfl) d_M_spare_58 ⟨Nat.le_of_ble_eq_true rfl, Nat.le_of_ble_eq_true rfl⟩ (fun r1 ur1 H locs er1 hP hD hS => ?_)
        obtain rfl : r1 = nI 1 := er1.trans (by rw [inBb_nI (by decide) hj])
        refine lx_if_ne (tgt := 68) hx hb d_M_spare_61 (by decide) (by omega) (fun c61 => ?_) (fun c61 => ?_)
        · skip
          refine lv_iconst (v := nI 0) hx hb d_M_spare_68 (by decide) ?_
          refine lv_istore (lv' := [(4, .int (nI 0)), (0, .ref mo), (1, .int (nI j)), (2, .int ((-1))), (3, .int (nI su))]) hx hb d_M_spare_69 hl (by decide) rfl (fun ls hl => ?_)
          refine lv_aload_n hx hb d_M_spare_71 rfl (lv_at hl 1 rfl) ?_
          refine lv_iload hx hb d_M_spare_72 (lv_at hl 0 rfl) ?_
          refine lv_iload_n hx hb d_M_spare_74 rfl (lv_at hl 3 rfl) ?_
          refine lv_if_ge (tgt := 86) hx hb d_M_spare_75 (by decide) (fun k75 => ?_) (fun k75 => ?_)
          · skip
            exact absurd k75 (by decide)
          · skip
            refine lv_iload_n hx hb d_M_spare_78 rfl (lv_at hl 4 rfl) ?_
            refine lx_if_ge (tgt := 86) hx hb d_M_spare_79 (by decide) (by omega) ?_
            refine lv_iconst (v := nI 0) hx hb d_M_spare_86 (by decide) ?_
            refine lc_Vi (b := mo) (As := [.int (nI 0), .int (nI 0)]) (rest := []) ⟨hx, hb, hml, hown, hts⟩ (c_M_fails l D g _ wm mo wi ck fq co sq uq gq kd M ifo fl th mk bi ch9 tu9 ma wo9 fw fc ff fco fsq fu fg hM0 hM 0 0 (by decide) (by decide)) (kV 2 hts m_686 m_683 m_685 m_15 m_40 (by decide +kernel) ⟨Nat.le_of_ble_eq_true rfl, Nat.le_of_ble_eq_true rfl⟩) (va_recv hK hP (ci := 6) (q0 := 0) rfl rfl) hKK hP hD hS hA hl.1 rfl rfl (Nat.le_of_ble_eq_true rfl) d_M_spare_87 ⟨Nat.le_of_ble_eq_true rfl, Nat.le_of_ble_eq_true rfl⟩ (fun rf uf H locs ef hP hD hS => ?_)
            have hP : va_P D vwCl ((mo, .inr (6, [.int (nI 0), .int (nI M), .int (nI kd), .int (nI (ckb kd M)), .int (nI (nk kd)), .ref wi, .ref ck, .ref fq, .ref co, .int (nI (grsK kd M)), .int (nI ifo), .int (nI fl), .long (ma), .int (mk), .int (bi), .long (wo9), .int (ch9), .int (tu9), .ref sq, .ref uq, .ref gq])) :: (wi, .inl (g 0, 4, .inl (fw))) :: (ck, .inl (g 0, 4, .inl (fc))) :: (fq, .inl (g 0, 4, .inl (ff))) :: (co, .inl (g 0, 228, .inl (fco))) :: (sq, .inl (g 0, 8, .inl (fsq))) :: (uq, .inl (g 2, 128, .inl (fu))) :: (gq, .inl (g 0, 7, .inl (fg))) :: wm) H := hP
            have hD : va_D A ((mo, .inr (6, [.int (nI 0), .int (nI M), .int (nI kd), .int (nI (ckb kd M)), .int (nI (nk kd)), .ref wi, .ref ck, .ref fq, .ref co, .int (nI (grsK kd M)), .int (nI ifo), .int (nI fl), .long (ma), .int (mk), .int (bi), .long (wo9), .int (ch9), .int (tu9), .ref sq, .ref uq, .ref gq])) :: (wi, .inl (g 0, 4, .inl (fw))) :: (ck, .inl (g 0, 4, .inl (fc))) :: (fq, .inl (g 0, 4, .inl (ff))) :: (co, .inl (g 0, 228, .inl (fco))) :: (sq, .inl (g 0, 8, .inl (fsq))) :: (uq, .inl (g 2, 128, .inl (fu))) :: (gq, .inl (g 0, 7, .inl (fg))) :: wm) := hD
            obtain rfl : rf = nI 0 := ef
            refine lx_if_eq (tgt := 95) hx hb d_M_spare_90 (by decide) (by omega) (fun c90 => ?_) (fun c90 => ?_)
            · skip
              refine lv_iload_n hx hb d_M_spare_95 rfl (lv_at hl 3 rfl) ?_
              refine lv_if_ge (tgt := 103) hx hb d_M_spare_96 (by decide) (fun k96 => ?_) (fun k96 => ?_)
              · skip
                exact absurd k96 (by decide)
              · skip
                refine lv_iload_n hx hb d_M_spare_99 rfl (lv_at hl 4 rfl) ?_
                refine lv_goto (tgt := 104) hx hb d_M_spare_100 (by decide) ?_
                refine lv_istore_n (lv' := [(2, .int (nI su)), (4, .int (nI 0)), (0, .ref mo), (1, .int (nI j)), (3, .int (nI su))]) hx hb d_M_spare_104 rfl hl (by decide) rfl (fun ls hl => ?_)
                refine lv_aload_n hx hb d_M_spare_105 rfl (lv_at hl 2 rfl) ?_
                refine va_get (D := D) (ci := 6) (v := .ref sq) (C := R_M) (T := F_M) (N := 21) hx hb hts i_M hown hK hP 0 rfl rfl 18 (by decide) (hts _ m_621) (fun _ h9 => h9) rfl d_M_spare_106 ?_
                refine lv_iload_n hx hb d_M_spare_109 rfl (lv_at hl 0 rfl) ?_
                refine lv_iload_n hx hb d_M_spare_110 rfl (lv_at hl 3 rfl) ?_
                refine lx_iast (f' := upd fsq su (nI j)) hx hb hK hP hD hS 5 0 rfl rfl (j := su) (by omega) (by omega) (rfl) d_M_spare_111 (fun H locs hP hD hS => ?_)
                have hP : va_P D vwCl ((mo, .inr (6, [.int (nI 0), .int (nI M), .int (nI kd), .int (nI (ckb kd M)), .int (nI (nk kd)), .ref wi, .ref ck, .ref fq, .ref co, .int (nI (grsK kd M)), .int (nI ifo), .int (nI fl), .long (ma), .int (mk), .int (bi), .long (wo9), .int (ch9), .int (tu9), .ref sq, .ref uq, .ref gq])) :: (wi, .inl (g 0, 4, .inl (fw))) :: (ck, .inl (g 0, 4, .inl (fc))) :: (fq, .inl (g 0, 4, .inl (ff))) :: (co, .inl (g 0, 228, .inl (fco))) :: (sq, .inl (g 0, 8, .inl (upd fsq su (nI j)))) :: (uq, .inl (g 2, 128, .inl (fu))) :: (gq, .inl (g 0, 7, .inl (fg))) :: wm) H := hP
                have hD : va_D A ((mo, .inr (6, [.int (nI 0), .int (nI M), .int (nI kd), .int (nI (ckb kd M)), .int (nI (nk kd)), .ref wi, .ref ck, .ref fq, .ref co, .int (nI (grsK kd M)), .int (nI ifo), .int (nI fl), .long (ma), .int (mk), .int (bi), .long (wo9), .int (ch9), .int (tu9), .ref sq, .ref uq, .ref gq])) :: (wi, .inl (g 0, 4, .inl (fw))) :: (ck, .inl (g 0, 4, .inl (fc))) :: (fq, .inl (g 0, 4, .inl (ff))) :: (co, .inl (g 0, 228, .inl (fco))) :: (sq, .inl (g 0, 8, .inl (upd fsq su (nI j)))) :: (uq, .inl (g 2, 128, .inl (fu))) :: (gq, .inl (g 0, 7, .inl (fg))) :: wm) := hD
                refine lv_iload_n hx hb d_M_spare_112 rfl (lv_at hl 0 rfl) ?_
                rw [← hQ]
                refine W.iret (v := nI su) hx hb hr ?_ hS.2.2 d_M_spare_113
                exact fun t ht hW => ⟨⟨nI su, (), rfl, rfl, by rw [ht]; exact hP, hD⟩, hS.F ht⟩
            · skip
              exact absurd rfl c90
        · skip
          exact absurd c61 (by decide)
      · skip
        have hd8 : d < 8 := Decidable.byContradiction (fun q => k10 (kd8_neg.mpr q))
        have hl : lv_has ls 5 [(0, .ref mo), (1, .int (nI j)), (2, .int (oI (fdn (fun k9 => decide (fsq k9 = nI j)) d))), (3, .int (oI (fdn (fun k9 => decide (fsq k9 < 0)) d))), (4, .int (nI (7 - d)))] := by rw [← kd8_lt hd8]; exact hl
        refine lv_aload_n hx hb d_M_spare_13 rfl (lv_at hl 0 rfl) ?_
        refine va_get (D := D) (ci := 6) (v := .ref sq) (C := R_M) (T := F_M) (N := 21) hx hb hts i_M hown hK hP 0 rfl rfl 18 (by decide) (hts _ m_621) (fun _ h9 => h9) rfl d_M_spare_14 ?_
        refine lv_iload hx hb d_M_spare_17 (lv_at hl 4 rfl) ?_
        refine lx_iald (v := fsq (7 - d)) hx hb hK hP 5 0 rfl rfl (j := 7 - d) (by omega) (by omega) (rfl) d_M_spare_19 ?_
        refine lv_iload_n hx hb d_M_spare_20 rfl (lv_at hl 1 rfl) ?_
        refine lv_icmp_ne (tgt := 29) hx hb d_M_spare_21 (by decide) (fun c21 => ?_) (fun c21 => ?_)
        · skip
          refine lv_iload_n hx hb d_M_spare_29 rfl (lv_at hl 2 rfl) ?_
          refine lv_istore_n (lv' := [(2, .int (oI (fdn (fun k9 => decide (fsq k9 = nI j)) d))), (0, .ref mo), (1, .int (nI j)), (3, .int (oI (fdn (fun k9 => decide (fsq k9 < 0)) d))), (4, .int (nI (7 - d)))]) hx hb d_M_spare_30 rfl hl (by decide) rfl (fun ls hl => ?_)
          have hl : lv_has ls 5 [(2, .int (oI (fdn (fun k9 => decide (fsq k9 = nI j)) (d + 1)))), (0, .ref mo), (1, .int (nI j)), (3, .int (oI (fdn (fun k9 => decide (fsq k9 < 0)) d))), (4, .int (nI (7 - d)))] := by rw [show fdn (fun k9 => decide (fsq k9 = nI j)) (d + 1) = fdn (fun k9 => decide (fsq k9 = nI j)) d from by rw [fdn_s]; exact if_neg (fun q => c21 (of_decide_eq_true q))]; exact hl
          refine lv_aload_n hx hb d_M_spare_31 rfl (lv_at hl 1 rfl) ?_
          refine va_get (D := D) (ci := 6) (v := .ref sq) (C := R_M) (T := F_M) (N := 21) hx hb hts i_M hown hK hP 0 rfl rfl 18 (by decide) (hts _ m_621) (fun _ h9 => h9) rfl d_M_spare_32 ?_
          refine lv_iload hx hb d_M_spare_35 (lv_at hl 4 rfl) ?_
          refine lx_iald (v := fsq (7 - d)) hx hb hK hP 5 0 rfl rfl (j := 7 - d) (by omega) (by omega) (rfl) d_M_spare_37 ?_
          refine lv_if_ge (tgt := 46) hx hb d_M_spare_38 (by decide) (fun c38 => ?_) (fun c38 => ?_)
          · skip
            refine lv_iload_n hx hb d_M_spare_46 rfl (lv_at hl 3 rfl) ?_
            refine lv_istore_n (lv' := [(3, .int (oI (fdn (fun k9 => decide (fsq k9 < 0)) d))), (2, .int (oI (fdn (fun k9 => decide (fsq k9 = nI j)) (d + 1)))), (0, .ref mo), (1, .int (nI j)), (4, .int (nI (7 - d)))]) hx hb d_M_spare_47 rfl hl (by decide) rfl (fun ls hl => ?_)
            refine lv_iinc (v := kd8 (d + 1)) (lv' := [(4, .int (kd8 (d + 1))), (3, .int (oI (fdn (fun k9 => decide (fsq k9 < 0)) d))), (2, .int (oI (fdn (fun k9 => decide (fsq k9 = nI j)) (d + 1)))), (0, .ref mo), (1, .int (nI j))]) hx hb d_M_spare_48 hl (k := 4) rfl (kd8_s hd8) (by decide) rfl (fun ls hl => ?_)
            refine lv_goto (tgt := 8) hx hb d_M_spare_51 (by decide) ?_
            have hl : lv_has ls 5 [(4, .int (kd8 (d + 1))), (3, .int (oI (fdn (fun k9 => decide (fsq k9 < 0)) (d + 1)))), (2, .int (oI (fdn (fun k9 => decide (fsq k9 = nI j)) (d + 1)))), (0, .ref mo), (1, .int (nI j))] := by rw [show fdn (fun k9 => decide (fsq k9 < 0)) (d + 1) = fdn (fun k9 => decide (fsq k9 < 0)) d from by rw [fdn_s]; exact if_neg (fun q => absurd (of_decide_eq_true q) (Int32.not_lt.mpr c38))]; exact hl
            exact ih (d + 1) _ _ _ (by omega) (by omega) (lv_sub hl [3, 4, 2, 1, 0] rfl) hP hD hS
          · skip
            refine lv_iload hx hb d_M_spare_41 (lv_at hl 4 rfl) ?_
            refine lv_goto (tgt := 47) hx hb d_M_spare_43 (by decide) ?_
            refine lv_istore_n (lv' := [(3, .int (nI (7 - d))), (2, .int (oI (fdn (fun k9 => decide (fsq k9 = nI j)) (d + 1)))), (0, .ref mo), (1, .int (nI j)), (4, .int (nI (7 - d)))]) hx hb d_M_spare_47 rfl hl (by decide) rfl (fun ls hl => ?_)
            refine lv_iinc (v := kd8 (d + 1)) (lv' := [(4, .int (kd8 (d + 1))), (3, .int (nI (7 - d))), (2, .int (oI (fdn (fun k9 => decide (fsq k9 = nI j)) (d + 1)))), (0, .ref mo), (1, .int (nI j))]) hx hb d_M_spare_48 hl (k := 4) rfl (kd8_s hd8) (by decide) rfl (fun ls hl => ?_)
            refine lv_goto (tgt := 8) hx hb d_M_spare_51 (by decide) ?_
            have hl : lv_has ls 5 [(4, .int (kd8 (d + 1))), (3, .int (oI (fdn (fun k9 => decide (fsq k9 < 0)) (d + 1)))), (2, .int (oI (fdn (fun k9 => decide (fsq k9 = nI j)) (d + 1)))), (0, .ref mo), (1, .int (nI j))] := by rw [show fdn (fun k9 => decide (fsq k9 < 0)) (d + 1) = some (7 - d) from by rw [fdn_s]; exact if_pos (decide_eq_true (Int32.not_le.mp c38))]; exact hl
            exact ih (d + 1) _ _ _ (by omega) (by omega) (lv_sub hl [3, 4, 2, 1, 0] rfl) hP hD hS
        · skip
          refine lv_iload hx hb d_M_spare_24 (lv_at hl 4 rfl) ?_
          refine lv_goto (tgt := 30) hx hb d_M_spare_26 (by decide) ?_
          refine lv_istore_n (lv' := [(2, .int (nI (7 - d))), (0, .ref mo), (1, .int (nI j)), (3, .int (oI (fdn (fun k9 => decide (fsq k9 < 0)) d))), (4, .int (nI (7 - d)))]) hx hb d_M_spare_30 rfl hl (by decide) rfl (fun ls hl => ?_)
          have hl : lv_has ls 5 [(2, .int (oI (fdn (fun k9 => decide (fsq k9 = nI j)) (d + 1)))), (0, .ref mo), (1, .int (nI j)), (3, .int (oI (fdn (fun k9 => decide (fsq k9 < 0)) d))), (4, .int (nI (7 - d)))] := by rw [show fdn (fun k9 => decide (fsq k9 = nI j)) (d + 1) = some (7 - d) from by rw [fdn_s]; exact if_pos (decide_eq_true c21)]; exact hl
          refine lv_aload_n hx hb d_M_spare_31 rfl (lv_at hl 1 rfl) ?_
          refine va_get (D := D) (ci := 6) (v := .ref sq) (C := R_M) (T := F_M) (N := 21) hx hb hts i_M hown hK hP 0 rfl rfl 18 (by decide) (hts _ m_621) (fun _ h9 => h9) rfl d_M_spare_32 ?_
          refine lv_iload hx hb d_M_spare_35 (lv_at hl 4 rfl) ?_
          refine lx_iald (v := fsq (7 - d)) hx hb hK hP 5 0 rfl rfl (j := 7 - d) (by omega) (by omega) (rfl) d_M_spare_37 ?_
          refine lv_if_ge (tgt := 46) hx hb d_M_spare_38 (by decide) (fun c38 => ?_) (fun c38 => ?_)
          · skip
            refine lv_iload_n hx hb d_M_spare_46 rfl (lv_at hl 3 rfl) ?_
            refine lv_istore_n (lv' := [(3, .int (oI (fdn (fun k9 => decide (fsq k9 < 0)) d))), (2, .int (oI (fdn (fun k9 => decide (fsq k9 = nI j)) (d + 1)))), (0, .ref mo), (1, .int (nI j)), (4, .int (nI (7 - d)))]) hx hb d_M_spare_47 rfl hl (by decide) rfl (fun ls hl => ?_)
            refine lv_iinc (v := kd8 (d + 1)) (lv' := [(4, .int (kd8 (d + 1))), (3, .int (oI (fdn (fun k9 => decide (fsq k9 < 0)) d))), (2, .int (oI (fdn (fun k9 => decide (fsq k9 = nI j)) (d + 1)))), (0, .ref mo), (1, .int (nI j))]) hx hb d_M_spare_48 hl (k := 4) rfl (kd8_s hd8) (by decide) rfl (fun ls hl => ?_)
            refine lv_goto (tgt := 8) hx hb d_M_spare_51 (by decide) ?_
            have hl : lv_has ls 5 [(4, .int (kd8 (d + 1))), (3, .int (oI (fdn (fun k9 => decide (fsq k9 < 0)) (d + 1)))), (2, .int (oI (fdn (fun k9 => decide (fsq k9 = nI j)) (d + 1)))), (0, .ref mo), (1, .int (nI j))] := by rw [show fdn (fun k9 => decide (fsq k9 < 0)) (d + 1) = fdn (fun k9 => decide (fsq k9 < 0)) d from by rw [fdn_s]; exact if_neg (fun q => absurd (of_decide_eq_true q) (Int32.not_lt.mpr c38))]; exact hl
            exact ih (d + 1) _ _ _ (by omega) (by omega) (lv_sub hl [3, 4, 2, 1, 0] rfl) hP hD hS
          · skip
            refine lv_iload hx hb d_M_spare_41 (lv_at hl 4 rfl) ?_
            refine lv_goto (tgt := 47) hx hb d_M_spare_43 (by decide) ?_
            refine lv_istore_n (lv' := [(3, .int (nI (7 - d))), (2, .int (oI (fdn (fun k9 => decide (fsq k9 = nI j)) (d + 1)))), (0, .ref mo), (1, .int (nI j)), (4, .int (nI (7 - d)))]) hx hb d_M_spare_47 rfl hl (by decide) rfl (fun ls hl => ?_)
            refine lv_iinc (v := kd8 (d + 1)) (lv' := [(4, .int (kd8 (d + 1))), (3, .int (nI (7 - d))), (2, .int (oI (fdn (fun k9 => decide (fsq k9 = nI j)) (d + 1)))), (0, .ref mo), (1, .int (nI j))]) hx hb d_M_spare_48 hl (k := 4) rfl (kd8_s hd8) (by decide) rfl (fun ls hl => ?_)
            refine lv_goto (tgt := 8) hx hb d_M_spare_51 (by decide) ?_
            have hl : lv_has ls 5 [(4, .int (kd8 (d + 1))), (3, .int (oI (fdn (fun k9 => decide (fsq k9 < 0)) (d + 1)))), (2, .int (oI (fdn (fun k9 => decide (fsq k9 = nI j)) (d + 1)))), (0, .ref mo), (1, .int (nI j))] := by rw [show fdn (fun k9 => decide (fsq k9 < 0)) (d + 1) = some (7 - d) from by rw [fdn_s]; exact if_pos (decide_eq_true (Int32.not_le.mp c38))]; exact hl
            exact ih (d + 1) _ _ _ (by omega) (by omega) (lv_sub hl [3, 4, 2, 1, 0] rfl) hP hD hS
  have hl : lv_has ls 5 [(4, .int (nI 7)), (3, .int ((-1))), (2, .int ((-1))), (0, .ref mo), (1, .int (nI j))] := hl
  have hl : lv_has ls 5 [(4, .int (kd8 0)), (3, .int (oI (fdn (fun k9 => decide (fsq k9 < 0)) 0))), (2, .int (oI (fdn (fun k9 => decide (fsq k9 = nI j)) 0))), (0, .ref mo), (1, .int (nI j))] := hl
  exact lp8 9 0 _ _ _ (by omega) (by omega) (lv_sub hl [3, 4, 2, 1, 0] rfl) hP hD hS
set_option maxHeartbeats 4000000 in
set_option maxRecDepth 100000 in
theorem u_M_spare (l : Launch) (D : va_G) (g : Nat → ClassId) (sz : Nat) (wm : va_W) (mo wi ck fq co sq uq gq kd M ifo fl : Nat) (th mk bi ch9 tu9 : Int32) (ma wo9 : Int64) (fw fc ff fco fsq fu fg : Nat → Int32) (hM0 : 0 < M) (hM : M ≤ 57) (j : Nat) (hj : j < 65536) (hno : ∀ k, k < 8 → ¬ fsq k = nI j) (hps : ∀ k, k < 8 → ¬ fsq k < 0) : Met l y_M_spare w_M_spare rm_M_spare (va_Pc [.ref mo, .int (nI j)] (pP D (tyl g) ((mo, .inr (6, [.int (th), .int (nI M), .int (nI kd), .int (nI (ckb kd M)), .int (nI (nk kd)), .ref wi, .ref ck, .ref fq, .ref co, .int (nI (grsK kd M)), .int (nI ifo), .int (nI fl), .long (ma), .int (mk), .int (bi), .long (wo9), .int (ch9), .int (tu9), .ref sq, .ref uq, .ref gq])) :: (wi, .inl (g 0, 4, .inl (fw))) :: (ck, .inl (g 0, 4, .inl (fc))) :: (fq, .inl (g 0, 4, .inl (ff))) :: (co, .inl (g 0, 228, .inl (fco))) :: (sq, .inl (g 0, 8, .inl (fsq))) :: (uq, .inl (g 2, 128, .inl (fu))) :: (gq, .inl (g 0, 7, .inl (fg))) :: wm) sz)) (va_Qi (fun (r : Int32) (u : Unit) => r = nI 0) (fun u => qB D (va_A ((mo, .inr (6, [.int (th), .int (nI M), .int (nI kd), .int (nI (ckb kd M)), .int (nI (nk kd)), .ref wi, .ref ck, .ref fq, .ref co, .int (nI (grsK kd M)), .int (nI ifo), .int (nI fl), .long (ma), .int (mk), .int (bi), .long (wo9), .int (ch9), .int (tu9), .ref sq, .ref uq, .ref gq])) :: (wi, .inl (g 0, 4, .inl (fw))) :: (ck, .inl (g 0, 4, .inl (fc))) :: (fq, .inl (g 0, 4, .inl (ff))) :: (co, .inl (g 0, 228, .inl (fco))) :: (sq, .inl (g 0, 8, .inl (fsq))) :: (uq, .inl (g 2, 128, .inl (fu))) :: (gq, .inl (g 0, 7, .inl (fg))) :: wm) sz) ((mo, .inr (6, [.int (nI 2), .int (nI M), .int (nI kd), .int (nI (ckb kd M)), .int (nI (nk kd)), .ref wi, .ref ck, .ref fq, .ref co, .int (nI (grsK kd M)), .int (nI ifo), .int (nI fl), .long (ma), .int (mk), .int (bi), .long (wo9), .int (ch9), .int (tu9), .ref sq, .ref uq, .ref gq])) :: (wi, .inl (g 0, 4, .inl (fw))) :: (ck, .inl (g 0, 4, .inl (fc))) :: (fq, .inl (g 0, 4, .inl (ff))) :: (co, .inl (g 0, 228, .inl (fco))) :: (sq, .inl (g 0, 8, .inl (fsq))) :: (uq, .inl (g 2, 128, .inl (fu))) :: (gq, .inl (g 0, 7, .inl (fg))) :: wm)) (va_A ((mo, .inr (6, [.int (th), .int (nI M), .int (nI kd), .int (nI (ckb kd M)), .int (nI (nk kd)), .ref wi, .ref ck, .ref fq, .ref co, .int (nI (grsK kd M)), .int (nI ifo), .int (nI fl), .long (ma), .int (mk), .int (bi), .long (wo9), .int (ch9), .int (tu9), .ref sq, .ref uq, .ref gq])) :: (wi, .inl (g 0, 4, .inl (fw))) :: (ck, .inl (g 0, 4, .inl (fc))) :: (fq, .inl (g 0, 4, .inl (ff))) :: (co, .inl (g 0, 228, .inl (fco))) :: (sq, .inl (g 0, 8, .inl (fsq))) :: (uq, .inl (g 2, 128, .inl (fu))) :: (gq, .inl (g 0, 7, .inl (fg))) :: wm) sz)) 0 0 (va_A ((mo, .inr (6, [.int (th), .int (nI M), .int (nI kd), .int (nI (ckb kd M)), .int (nI (nk kd)), .ref wi, .ref ck, .ref fq, .ref co, .int (nI (grsK kd M)), .int (nI ifo), .int (nI fl), .long (ma), .int (mk), .int (bi), .long (wo9), .int (ch9), .int (tu9), .ref sq, .ref uq, .ref gq])) :: (wi, .inl (g 0, 4, .inl (fw))) :: (ck, .inl (g 0, 4, .inl (fc))) :: (fq, .inl (g 0, 4, .inl (ff))) :: (co, .inl (g 0, 228, .inl (fco))) :: (sq, .inl (g 0, 8, .inl (fsq))) :: (uq, .inl (g 2, 128, .inl (fu))) :: (gq, .inl (g 0, 7, .inl (fg))) :: wm) sz) := by
  refine Met.ofW (cc := b_M_spare) (maxL := 5) (ret := (some .int)) (by decide +kernel) rfl ?_
  intro p e s m args below meth c s₁ Bq hml hv
  have hx := Bq.exec
  have hb := Bq.bytes
  have hr := Bq.returns
  have hts : ∀ w ∈ wA, w.before args s = true := fun w h => atoms_spec (ws := w_M_spare) Bq.pre w (List.mem_cons_of_mem _ h)
  have hown : s.vm.findClass R_M = some m.cls := findClass_of_methodNamed Bq.named
  have hlocks := Bq.notSynchronized
  obtain ⟨rfl, hsz, hP, hKK, hD0⟩ := hv
  have hK := hKK.1
  subst hsz
  have hD := hD0.self (sz := s.heap.size)
  generalize hAe : va_A ((mo, .inr (6, [.int (th), .int (nI M), .int (nI kd), .int (nI (ckb kd M)), .int (nI (nk kd)), .ref wi, .ref ck, .ref fq, .ref co, .int (nI (grsK kd M)), .int (nI ifo), .int (nI fl), .long (ma), .int (mk), .int (bi), .long (wo9), .int (ch9), .int (tu9), .ref sq, .ref uq, .ref gq])) :: (wi, .inl (g 0, 4, .inl (fw))) :: (ck, .inl (g 0, 4, .inl (fc))) :: (fq, .inl (g 0, 4, .inl (ff))) :: (co, .inl (g 0, 228, .inl (fco))) :: (sq, .inl (g 0, 8, .inl (fsq))) :: (uq, .inl (g 2, 128, .inl (fu))) :: (gq, .inl (g 0, 7, .inl (fg))) :: wm) s.heap.size = A at hD ⊢
  have hA : ∀ q : Nat, s.heap.size ≤ q → A q := fun q h => by rw [← hAe]; exact Or.inr h
  have hS : va_S A s.heap s.heap [] := va_S.rf
  have hl := lv_entry ([.ref mo, .int (nI j)]) (n := 5) (Nat.le_of_ble_eq_true rfl)
  rw [lg_entry_eq]
  generalize (lg_sl ([.ref mo, .int (nI j)]) ++ List.replicate (5 - (lg_sl ([.ref mo, .int (nI j)])).length) Slot.unset).toArray = ls at hl ⊢
  have hl : lv_has ls 5 [(0, .ref mo), (1, .int (nI j))] := hl
  generalize hQ : MQ below (va_Qi (fun (r : Int32) (u : Unit) => r = nI 0) (fun u => qB D (A) ((mo, .inr (6, [.int (nI 2), .int (nI M), .int (nI kd), .int (nI (ckb kd M)), .int (nI (nk kd)), .ref wi, .ref ck, .ref fq, .ref co, .int (nI (grsK kd M)), .int (nI ifo), .int (nI fl), .long (ma), .int (mk), .int (bi), .long (wo9), .int (ch9), .int (tu9), .ref sq, .ref uq, .ref gq])) :: (wi, .inl (g 0, 4, .inl (fw))) :: (ck, .inl (g 0, 4, .inl (fc))) :: (fq, .inl (g 0, 4, .inl (ff))) :: (co, .inl (g 0, 228, .inl (fco))) :: (sq, .inl (g 0, 8, .inl (fsq))) :: (uq, .inl (g 2, 128, .inl (fu))) :: (gq, .inl (g 0, 7, .inl (fg))) :: wm)) (A)) [.ref mo, .int (nI j)].toArray s 0 0 A = Q
  have hA8 : fdn (fun k9 => decide (fsq k9 = nI j)) 8 = none := fdn_no (fun k h => decide_eq_false (hno k h))
  have hF8 : fdn (fun k9 => decide (fsq k9 < 0)) 8 = none := fdn_no (fun k h => decide_eq_false (hps k h))
  refine lv_iconst (v := (-1)) hx hb d_M_spare_0 (by decide) ?_
  refine lv_istore_n (lv' := [(2, .int ((-1))), (0, .ref mo), (1, .int (nI j))]) hx hb d_M_spare_1 rfl hl (by decide) rfl (fun ls hl => ?_)
  refine lv_iconst (v := (-1)) hx hb d_M_spare_2 (by decide) ?_
  refine lv_istore_n (lv' := [(3, .int ((-1))), (2, .int ((-1))), (0, .ref mo), (1, .int (nI j))]) hx hb d_M_spare_3 rfl hl (by decide) rfl (fun ls hl => ?_)
  refine lv_bipush (v := nI 7) hx hb d_M_spare_4 (by decide) ?_
  refine lv_istore (lv' := [(4, .int (nI 7)), (3, .int ((-1))), (2, .int ((-1))), (0, .ref mo), (1, .int (nI j))]) hx hb d_M_spare_6 hl (by decide) rfl (fun ls hl => ?_)
  have lp8 : ∀ (n : Nat) (d : Nat) (ls : Array Slot) (H : Heap) (locs : List Loc), (9 ≤ d + n) → (d ≤ 8) → lv_has ls 5 [(0, .ref mo), (1, .int (nI j)), (2, .int (oI (fdn (fun k9 => decide (fsq k9 = nI j)) d))), (3, .int (oI (fdn (fun k9 => decide (fsq k9 < 0)) d))), (4, .int (kd8 d))] → va_P D vwCl ((mo, .inr (6, [.int (th), .int (nI M), .int (nI kd), .int (nI (ckb kd M)), .int (nI (nk kd)), .ref wi, .ref ck, .ref fq, .ref co, .int (nI (grsK kd M)), .int (nI ifo), .int (nI fl), .long (ma), .int (mk), .int (bi), .long (wo9), .int (ch9), .int (tu9), .ref sq, .ref uq, .ref gq])) :: (wi, .inl (g 0, 4, .inl (fw))) :: (ck, .inl (g 0, 4, .inl (fc))) :: (fq, .inl (g 0, 4, .inl (ff))) :: (co, .inl (g 0, 228, .inl (fco))) :: (sq, .inl (g 0, 8, .inl (fsq))) :: (uq, .inl (g 2, 128, .inl (fu))) :: (gq, .inl (g 0, 7, .inl (fg))) :: wm) H → va_D A ((mo, .inr (6, [.int (th), .int (nI M), .int (nI kd), .int (nI (ckb kd M)), .int (nI (nk kd)), .ref wi, .ref ck, .ref fq, .ref co, .int (nI (grsK kd M)), .int (nI ifo), .int (nI fl), .long (ma), .int (mk), .int (bi), .long (wo9), .int (ch9), .int (tu9), .ref sq, .ref uq, .ref gq])) :: (wi, .inl (g 0, 4, .inl (fw))) :: (ck, .inl (g 0, 4, .inl (fc))) :: (fq, .inl (g 0, 4, .inl (ff))) :: (co, .inl (g 0, 228, .inl (fco))) :: (sq, .inl (g 0, 8, .inl (fsq))) :: (uq, .inl (g 2, 128, .inl (fu))) :: (gq, .inl (g 0, 7, .inl (fg))) :: wm) → va_S A s.heap H locs → W p l e (headSpec w_M_spare rm_M_spare).room s m [.ref mo, .int (nI j)].toArray below meth c H locs 0 0 Q (F0 m 8 ls []) := by
    intro n
    induction n with
    | zero => intro d ls H locs hfu hd _ _ _ _; exact absurd hfu (by omega)
    | succ n ih =>
      intro d ls H locs hfu hd hl hP hD hS
      refine lv_iload hx hb d_M_spare_8 (lv_at hl 4 rfl) ?_
      refine lv_if_lt (tgt := 54) hx hb d_M_spare_10 (by decide) (fun k10 => ?_) (fun k10 => ?_)
      · skip
        have hd8 := kd8_neg.mp k10
        obtain rfl : d = 8 := by omega
        have hl : lv_has ls 5 [(0, .ref mo), (1, .int (nI j)), (2, .int ((-1))), (3, .int (oI (fdn (fun k9 => decide (fsq k9 < 0)) 8))), (4, .int (kd8 8))] := by rw [show (-1 : Int32) = oI (fdn (fun k9 => decide (fsq k9 = nI j)) 8) by rw [hA8]; rfl]; exact hl
        have hl : lv_has ls 5 [(0, .ref mo), (1, .int (nI j)), (2, .int ((-1))), (3, .int (oI (fdn (fun k9 => decide (fsq k9 < 0)) 8))), (4, .int (kd8 8))] := hl
        have hl : lv_has ls 5 [(0, .ref mo), (1, .int (nI j)), (2, .int ((-1))), (3, .int ((-1))), (4, .int (kd8 8))] := by rw [show oI (fdn (fun k9 => decide (fsq k9 < 0)) 8) = (-1) by rw [hF8]; rfl] at hl; exact hl
        refine lv_iload_n hx hb d_M_spare_54 rfl (lv_at hl 1 rfl) ?_
        refine lv_iconst (v := nI 0) hx hb d_M_spare_55 (by decide) ?_
        refine lv_ldc (v := 65535) hx hb hown (hts _ m_691) d_M_spare_56 ?_
        refine lv_topi (fun y1 ey1 => ?_)
        obtain rfl : y1 = nI 65535 := ey1.trans (by decide)
        refine lc_Si (As := [.int (nI j), .int (nI 0), .int (nI 65535)]) (rest := []) ⟨hx, hb, hml, hown, hts⟩ (c_M_in l D g _ _ (nI j) 65536 (by omega) (by omega)) (kS 3 hts m_682 m_680 m_681 m_40 (by decide +kernel) ⟨Nat.le_of_ble_eq_true rfl, Nat.le_of_ble_eq_true rfl⟩) hKK hP hD hS hA hl.1 rfl rfl (Nat.le_of_ble_eq_true rfl) d_M_spare_58 ⟨Nat.le_of_ble_eq_true rfl, Nat.le_of_ble_eq_true rfl⟩ (fun r1 ur1 H locs er1 hP hD hS => ?_)
        obtain rfl : r1 = nI 1 := er1.trans (by rw [inBb_nI (by decide) hj])
        refine lx_if_ne (tgt := 68) hx hb d_M_spare_61 (by decide) (by omega) (fun c61 => ?_) (fun c61 => ?_)
        · skip
          refine lv_iconst (v := nI 0) hx hb d_M_spare_68 (by decide) ?_
          refine lv_istore (lv' := [(4, .int (nI 0)), (0, .ref mo), (1, .int (nI j)), (2, .int ((-1))), (3, .int ((-1)))]) hx hb d_M_spare_69 hl (by decide) rfl (fun ls hl => ?_)
          refine lv_aload_n hx hb d_M_spare_71 rfl (lv_at hl 1 rfl) ?_
          refine lv_iload hx hb d_M_spare_72 (lv_at hl 0 rfl) ?_
          refine lv_iload_n hx hb d_M_spare_74 rfl (lv_at hl 3 rfl) ?_
          refine lv_if_ge (tgt := 86) hx hb d_M_spare_75 (by decide) (fun k75 => ?_) (fun k75 => ?_)
          · skip
            exact absurd k75 (by decide)
          · skip
            refine lv_iload_n hx hb d_M_spare_78 rfl (lv_at hl 4 rfl) ?_
            refine lv_if_ge (tgt := 86) hx hb d_M_spare_79 (by decide) (fun k79 => ?_) (fun k79 => ?_)
            · skip
              exact absurd k79 (by decide)
            · skip
              refine lv_iconst (v := nI 1) hx hb d_M_spare_82 (by decide) ?_
              refine lv_goto (tgt := 87) hx hb d_M_spare_83 (by decide) ?_
              refine lc_Vi (b := mo) (As := [.int (nI 0), .int (nI 1)]) (rest := []) ⟨hx, hb, hml, hown, hts⟩ (c_M_fails l D g _ wm mo wi ck fq co sq uq gq kd M ifo fl th mk bi ch9 tu9 ma wo9 fw fc ff fco fsq fu fg hM0 hM 0 1 (by decide) (by decide)) (kV 2 hts m_686 m_683 m_685 m_15 m_40 (by decide +kernel) ⟨Nat.le_of_ble_eq_true rfl, Nat.le_of_ble_eq_true rfl⟩) (va_recv hK hP (ci := 6) (q0 := 0) rfl rfl) hKK hP hD hS hA hl.1 rfl rfl (Nat.le_of_ble_eq_true rfl) d_M_spare_87 ⟨Nat.le_of_ble_eq_true rfl, Nat.le_of_ble_eq_true rfl⟩ (fun rf uf H locs ef hP hD hS => ?_)
              have hP : va_P D vwCl ((mo, .inr (6, [.int (nI 2), .int (nI M), .int (nI kd), .int (nI (ckb kd M)), .int (nI (nk kd)), .ref wi, .ref ck, .ref fq, .ref co, .int (nI (grsK kd M)), .int (nI ifo), .int (nI fl), .long (ma), .int (mk), .int (bi), .long (wo9), .int (ch9), .int (tu9), .ref sq, .ref uq, .ref gq])) :: (wi, .inl (g 0, 4, .inl (fw))) :: (ck, .inl (g 0, 4, .inl (fc))) :: (fq, .inl (g 0, 4, .inl (ff))) :: (co, .inl (g 0, 228, .inl (fco))) :: (sq, .inl (g 0, 8, .inl (fsq))) :: (uq, .inl (g 2, 128, .inl (fu))) :: (gq, .inl (g 0, 7, .inl (fg))) :: wm) H := hP
              have hD : va_D A ((mo, .inr (6, [.int (nI 2), .int (nI M), .int (nI kd), .int (nI (ckb kd M)), .int (nI (nk kd)), .ref wi, .ref ck, .ref fq, .ref co, .int (nI (grsK kd M)), .int (nI ifo), .int (nI fl), .long (ma), .int (mk), .int (bi), .long (wo9), .int (ch9), .int (tu9), .ref sq, .ref uq, .ref gq])) :: (wi, .inl (g 0, 4, .inl (fw))) :: (ck, .inl (g 0, 4, .inl (fc))) :: (fq, .inl (g 0, 4, .inl (ff))) :: (co, .inl (g 0, 228, .inl (fco))) :: (sq, .inl (g 0, 8, .inl (fsq))) :: (uq, .inl (g 2, 128, .inl (fu))) :: (gq, .inl (g 0, 7, .inl (fg))) :: wm) := hD
              obtain rfl : rf = nI 1 := ef
              refine lx_if_eq (tgt := 95) hx hb d_M_spare_90 (by decide) (by omega) (fun c90 => ?_) (fun c90 => ?_)
              · skip
                exact absurd c90 (by decide)
              · skip
                refine lv_iconst (v := nI 0) hx hb d_M_spare_93 (by decide) ?_
                rw [← hQ]
                refine W.iret (v := nI 0) hx hb hr ?_ hS.2.2 d_M_spare_94
                exact fun t ht hW => ⟨⟨nI 0, (), rfl, rfl, by rw [ht]; exact hP, hD⟩, hS.F ht⟩
        · skip
          exact absurd c61 (by decide)
      · skip
        have hd8 : d < 8 := Decidable.byContradiction (fun q => k10 (kd8_neg.mpr q))
        have hl : lv_has ls 5 [(0, .ref mo), (1, .int (nI j)), (2, .int (oI (fdn (fun k9 => decide (fsq k9 = nI j)) d))), (3, .int (oI (fdn (fun k9 => decide (fsq k9 < 0)) d))), (4, .int (nI (7 - d)))] := by rw [← kd8_lt hd8]; exact hl
        refine lv_aload_n hx hb d_M_spare_13 rfl (lv_at hl 0 rfl) ?_
        refine va_get (D := D) (ci := 6) (v := .ref sq) (C := R_M) (T := F_M) (N := 21) hx hb hts i_M hown hK hP 0 rfl rfl 18 (by decide) (hts _ m_621) (fun _ h9 => h9) rfl d_M_spare_14 ?_
        refine lv_iload hx hb d_M_spare_17 (lv_at hl 4 rfl) ?_
        refine lx_iald (v := fsq (7 - d)) hx hb hK hP 5 0 rfl rfl (j := 7 - d) (by omega) (by omega) (rfl) d_M_spare_19 ?_
        refine lv_iload_n hx hb d_M_spare_20 rfl (lv_at hl 1 rfl) ?_
        refine lv_icmp_ne (tgt := 29) hx hb d_M_spare_21 (by decide) (fun c21 => ?_) (fun c21 => ?_)
        · skip
          refine lv_iload_n hx hb d_M_spare_29 rfl (lv_at hl 2 rfl) ?_
          refine lv_istore_n (lv' := [(2, .int (oI (fdn (fun k9 => decide (fsq k9 = nI j)) d))), (0, .ref mo), (1, .int (nI j)), (3, .int (oI (fdn (fun k9 => decide (fsq k9 < 0)) d))), (4, .int (nI (7 - d)))]) hx hb d_M_spare_30 rfl hl (by decide) rfl (fun ls hl => ?_)
          have hl : lv_has ls 5 [(2, .int (oI (fdn (fun k9 => decide (fsq k9 = nI j)) (d + 1)))), (0, .ref mo), (1, .int (nI j)), (3, .int (oI (fdn (fun k9 => decide (fsq k9 < 0)) d))), (4, .int (nI (7 - d)))] := by rw [show fdn (fun k9 => decide (fsq k9 = nI j)) (d + 1) = fdn (fun k9 => decide (fsq k9 = nI j)) d from by rw [fdn_s]; exact if_neg (fun q => c21 (of_decide_eq_true q))]; exact hl
          refine lv_aload_n hx hb d_M_spare_31 rfl (lv_at hl 1 rfl) ?_
          refine va_get (D := D) (ci := 6) (v := .ref sq) (C := R_M) (T := F_M) (N := 21) hx hb hts i_M hown hK hP 0 rfl rfl 18 (by decide) (hts _ m_621) (fun _ h9 => h9) rfl d_M_spare_32 ?_
          refine lv_iload hx hb d_M_spare_35 (lv_at hl 4 rfl) ?_
          refine lx_iald (v := fsq (7 - d)) hx hb hK hP 5 0 rfl rfl (j := 7 - d) (by omega) (by omega) (rfl) d_M_spare_37 ?_
          refine lv_if_ge (tgt := 46) hx hb d_M_spare_38 (by decide) (fun c38 => ?_) (fun c38 => ?_)
          · skip
            refine lv_iload_n hx hb d_M_spare_46 rfl (lv_at hl 3 rfl) ?_
            refine lv_istore_n (lv' := [(3, .int (oI (fdn (fun k9 => decide (fsq k9 < 0)) d))), (2, .int (oI (fdn (fun k9 => decide (fsq k9 = nI j)) (d + 1)))), (0, .ref mo), (1, .int (nI j)), (4, .int (nI (7 - d)))]) hx hb d_M_spare_47 rfl hl (by decide) rfl (fun ls hl => ?_)
            refine lv_iinc (v := kd8 (d + 1)) (lv' := [(4, .int (kd8 (d + 1))), (3, .int (oI (fdn (fun k9 => decide (fsq k9 < 0)) d))), (2, .int (oI (fdn (fun k9 => decide (fsq k9 = nI j)) (d + 1)))), (0, .ref mo), (1, .int (nI j))]) hx hb d_M_spare_48 hl (k := 4) rfl (kd8_s hd8) (by decide) rfl (fun ls hl => ?_)
            refine lv_goto (tgt := 8) hx hb d_M_spare_51 (by decide) ?_
            have hl : lv_has ls 5 [(4, .int (kd8 (d + 1))), (3, .int (oI (fdn (fun k9 => decide (fsq k9 < 0)) (d + 1)))), (2, .int (oI (fdn (fun k9 => decide (fsq k9 = nI j)) (d + 1)))), (0, .ref mo), (1, .int (nI j))] := by rw [show fdn (fun k9 => decide (fsq k9 < 0)) (d + 1) = fdn (fun k9 => decide (fsq k9 < 0)) d from by rw [fdn_s]; exact if_neg (fun q => absurd (of_decide_eq_true q) (Int32.not_lt.mpr c38))]; exact hl
            exact ih (d + 1) _ _ _ (by omega) (by omega) (lv_sub hl [3, 4, 2, 1, 0] rfl) hP hD hS
          · skip
            refine lv_iload hx hb d_M_spare_41 (lv_at hl 4 rfl) ?_
            refine lv_goto (tgt := 47) hx hb d_M_spare_43 (by decide) ?_
            refine lv_istore_n (lv' := [(3, .int (nI (7 - d))), (2, .int (oI (fdn (fun k9 => decide (fsq k9 = nI j)) (d + 1)))), (0, .ref mo), (1, .int (nI j)), (4, .int (nI (7 - d)))]) hx hb d_M_spare_47 rfl hl (by decide) rfl (fun ls hl => ?_)
            refine lv_iinc (v := kd8 (d + 1)) (lv' := [(4, .int (kd8 (d + 1))), (3, .int (nI (7 - d))), (2, .int (oI (fdn (fun k9 => decide (fsq k9 = nI j)) (d + 1)))), (0, .ref mo), (1, .int (nI j))]) hx hb d_M_spare_48 hl (k := 4) rfl (kd8_s hd8) (by decide) rfl (fun ls hl => ?_)
            refine lv_goto (tgt := 8) hx hb d_M_spare_51 (by decide) ?_
            have hl : lv_has ls 5 [(4, .int (kd8 (d + 1))), (3, .int (oI (fdn (fun k9 => decide (fsq k9 < 0)) (d + 1)))), (2, .int (oI (fdn (fun k9 => decide (fsq k9 = nI j)) (d + 1)))), (0, .ref mo), (1, .int (nI j))] := by rw [show fdn (fun k9 => decide (fsq k9 < 0)) (d + 1) = some (7 - d) from by rw [fdn_s]; exact if_pos (decide_eq_true (Int32.not_le.mp c38))]; exact hl
            exact ih (d + 1) _ _ _ (by omega) (by omega) (lv_sub hl [3, 4, 2, 1, 0] rfl) hP hD hS
        · skip
          refine lv_iload hx hb d_M_spare_24 (lv_at hl 4 rfl) ?_
          refine lv_goto (tgt := 30) hx hb d_M_spare_26 (by decide) ?_
          refine lv_istore_n (lv' := [(2, .int (nI (7 - d))), (0, .ref mo), (1, .int (nI j)), (3, .int (oI (fdn (fun k9 => decide (fsq k9 < 0)) d))), (4, .int (nI (7 - d)))]) hx hb d_M_spare_30 rfl hl (by decide) rfl (fun ls hl => ?_)
          have hl : lv_has ls 5 [(2, .int (oI (fdn (fun k9 => decide (fsq k9 = nI j)) (d + 1)))), (0, .ref mo), (1, .int (nI j)), (3, .int (oI (fdn (fun k9 => decide (fsq k9 < 0)) d))), (4, .int (nI (7 - d)))] := by rw [show fdn (fun k9 => decide (fsq k9 = nI j)) (d + 1) = some (7 - d) from by rw [fdn_s]; exact if_pos (decide_eq_true c21)]; exact hl
          refine lv_aload_n hx hb d_M_spare_31 rfl (lv_at hl 1 rfl) ?_
          refine va_get (D := D) (ci := 6) (v := .ref sq) (C := R_M) (T := F_M) (N := 21) hx hb hts i_M hown hK hP 0 rfl rfl 18 (by decide) (hts _ m_621) (fun _ h9 => h9) rfl d_M_spare_32 ?_
          refine lv_iload hx hb d_M_spare_35 (lv_at hl 4 rfl) ?_
          refine lx_iald (v := fsq (7 - d)) hx hb hK hP 5 0 rfl rfl (j := 7 - d) (by omega) (by omega) (rfl) d_M_spare_37 ?_
          refine lv_if_ge (tgt := 46) hx hb d_M_spare_38 (by decide) (fun c38 => ?_) (fun c38 => ?_)
          · skip
            refine lv_iload_n hx hb d_M_spare_46 rfl (lv_at hl 3 rfl) ?_
            refine lv_istore_n (lv' := [(3, .int (oI (fdn (fun k9 => decide (fsq k9 < 0)) d))), (2, .int (oI (fdn (fun k9 => decide (fsq k9 = nI j)) (d + 1)))), (0, .ref mo), (1, .int (nI j)), (4, .int (nI (7 - d)))]) hx hb d_M_spare_47 rfl hl (by decide) rfl (fun ls hl => ?_)
            refine lv_iinc (v := kd8 (d + 1)) (lv' := [(4, .int (kd8 (d + 1))), (3, .int (oI (fdn (fun k9 => decide (fsq k9 < 0)) d))), (2, .int (oI (fdn (fun k9 => decide (fsq k9 = nI j)) (d + 1)))), (0, .ref mo), (1, .int (nI j))]) hx hb d_M_spare_48 hl (k := 4) rfl (kd8_s hd8) (by decide) rfl (fun ls hl => ?_)
            refine lv_goto (tgt := 8) hx hb d_M_spare_51 (by decide) ?_
            have hl : lv_has ls 5 [(4, .int (kd8 (d + 1))), (3, .int (oI (fdn (fun k9 => decide (fsq k9 < 0)) (d + 1)))), (2, .int (oI (fdn (fun k9 => decide (fsq k9 = nI j)) (d + 1)))), (0, .ref mo), (1, .int (nI j))] := by rw [show fdn (fun k9 => decide (fsq k9 < 0)) (d + 1) = fdn (fun k9 => decide (fsq k9 < 0)) d from by rw [fdn_s]; exact if_neg (fun q => absurd (of_decide_eq_true q) (Int32.not_lt.mpr c38))]; exact hl
            exact ih (d + 1) _ _ _ (by omega) (by omega) (lv_sub hl [3, 4, 2, 1, 0] rfl) hP hD hS
          · skip
            refine lv_iload hx hb d_M_spare_41 (lv_at hl 4 rfl) ?_
            refine lv_goto (tgt := 47) hx hb d_M_spare_43 (by decide) ?_
            refine lv_istore_n (lv' := [(3, .int (nI (7 - d))), (2, .int (oI (fdn (fun k9 => decide (fsq k9 = nI j)) (d + 1)))), (0, .ref mo), (1, .int (nI j)), (4, .int (nI (7 - d)))]) hx hb d_M_spare_47 rfl hl (by decide) rfl (fun ls hl => ?_)
            refine lv_iinc (v := kd8 (d + 1)) (lv' := [(4, .int (kd8 (d + 1))), (3, .int (nI (7 - d))), (2, .int (oI (fdn (fun k9 => decide (fsq k9 = nI j)) (d + 1)))), (0, .ref mo), (1, .int (nI j))]) hx hb d_M_spare_48 hl (k := 4) rfl (kd8_s hd8) (by decide) rfl (fun ls hl => ?_)
            refine lv_goto (tgt := 8) hx hb d_M_spare_51 (by decide) ?_
            have hl : lv_has ls 5 [(4, .int (kd8 (d + 1))), (3, .int (oI (fdn (fun k9 => decide (fsq k9 < 0)) (d + 1)))), (2, .int (oI (fdn (fun k9 => decide (fsq k9 = nI j)) (d + 1)))), (0, .ref mo), (1, .int (nI j))] := by rw [show fdn (fun k9 => decide (fsq k9 < 0)) (d + 1) = some (7 - d) from by rw [fdn_s]; exact if_pos (decide_eq_true (Int32.not_le.mp c38))]; exact hl
            exact ih (d + 1) _ _ _ (by omega) (by omega) (lv_sub hl [3, 4, 2, 1, 0] rfl) hP hD hS
  have hl : lv_has ls 5 [(4, .int (nI 7)), (3, .int ((-1))), (2, .int ((-1))), (0, .ref mo), (1, .int (nI j))] := hl
  have hl : lv_has ls 5 [(4, .int (kd8 0)), (3, .int (oI (fdn (fun k9 => decide (fsq k9 < 0)) 0))), (2, .int (oI (fdn (fun k9 => decide (fsq k9 = nI j)) 0))), (0, .ref mo), (1, .int (nI j))] := hl
  exact lp8 9 0 _ _ _ (by omega) (by omega) (lv_sub hl [3, 4, 2, 1, 0] rfl) hP hD hS
set_option maxHeartbeats 4000000 in
set_option maxRecDepth 100000 in
theorem t_M_spare (l : Launch) (D : va_G) (g : Nat → ClassId) (sz : Nat) (wm : va_W) (mo wi ck fq co sq uq gq kd M ifo fl : Nat) (th mk bi ch9 tu9 : Int32) (ma wo9 : Int64) (fw fc ff fco fsq fu fg : Nat → Int32) (hM0 : 0 < M) (hM : M ≤ 57) (v : Int32) (hv9 : inBb 65536 v = 0) : Met l y_M_spare w_M_spare rm_M_spare (va_Pc [.ref mo, .int (v)] (pP D (tyl g) ((mo, .inr (6, [.int (th), .int (nI M), .int (nI kd), .int (nI (ckb kd M)), .int (nI (nk kd)), .ref wi, .ref ck, .ref fq, .ref co, .int (nI (grsK kd M)), .int (nI ifo), .int (nI fl), .long (ma), .int (mk), .int (bi), .long (wo9), .int (ch9), .int (tu9), .ref sq, .ref uq, .ref gq])) :: (wi, .inl (g 0, 4, .inl (fw))) :: (ck, .inl (g 0, 4, .inl (fc))) :: (fq, .inl (g 0, 4, .inl (ff))) :: (co, .inl (g 0, 228, .inl (fco))) :: (sq, .inl (g 0, 8, .inl (fsq))) :: (uq, .inl (g 2, 128, .inl (fu))) :: (gq, .inl (g 0, 7, .inl (fg))) :: wm) sz)) (va_Qi (fun (r : Int32) (u : Unit) => r = nI 0) (fun u => qB D (va_A ((mo, .inr (6, [.int (th), .int (nI M), .int (nI kd), .int (nI (ckb kd M)), .int (nI (nk kd)), .ref wi, .ref ck, .ref fq, .ref co, .int (nI (grsK kd M)), .int (nI ifo), .int (nI fl), .long (ma), .int (mk), .int (bi), .long (wo9), .int (ch9), .int (tu9), .ref sq, .ref uq, .ref gq])) :: (wi, .inl (g 0, 4, .inl (fw))) :: (ck, .inl (g 0, 4, .inl (fc))) :: (fq, .inl (g 0, 4, .inl (ff))) :: (co, .inl (g 0, 228, .inl (fco))) :: (sq, .inl (g 0, 8, .inl (fsq))) :: (uq, .inl (g 2, 128, .inl (fu))) :: (gq, .inl (g 0, 7, .inl (fg))) :: wm) sz) ((mo, .inr (6, [.int (nI 1), .int (nI M), .int (nI kd), .int (nI (ckb kd M)), .int (nI (nk kd)), .ref wi, .ref ck, .ref fq, .ref co, .int (nI (grsK kd M)), .int (nI ifo), .int (nI fl), .long (ma), .int (mk), .int (bi), .long (wo9), .int (ch9), .int (tu9), .ref sq, .ref uq, .ref gq])) :: (wi, .inl (g 0, 4, .inl (fw))) :: (ck, .inl (g 0, 4, .inl (fc))) :: (fq, .inl (g 0, 4, .inl (ff))) :: (co, .inl (g 0, 228, .inl (fco))) :: (sq, .inl (g 0, 8, .inl (fsq))) :: (uq, .inl (g 2, 128, .inl (fu))) :: (gq, .inl (g 0, 7, .inl (fg))) :: wm)) (va_A ((mo, .inr (6, [.int (th), .int (nI M), .int (nI kd), .int (nI (ckb kd M)), .int (nI (nk kd)), .ref wi, .ref ck, .ref fq, .ref co, .int (nI (grsK kd M)), .int (nI ifo), .int (nI fl), .long (ma), .int (mk), .int (bi), .long (wo9), .int (ch9), .int (tu9), .ref sq, .ref uq, .ref gq])) :: (wi, .inl (g 0, 4, .inl (fw))) :: (ck, .inl (g 0, 4, .inl (fc))) :: (fq, .inl (g 0, 4, .inl (ff))) :: (co, .inl (g 0, 228, .inl (fco))) :: (sq, .inl (g 0, 8, .inl (fsq))) :: (uq, .inl (g 2, 128, .inl (fu))) :: (gq, .inl (g 0, 7, .inl (fg))) :: wm) sz)) 0 0 (va_A ((mo, .inr (6, [.int (th), .int (nI M), .int (nI kd), .int (nI (ckb kd M)), .int (nI (nk kd)), .ref wi, .ref ck, .ref fq, .ref co, .int (nI (grsK kd M)), .int (nI ifo), .int (nI fl), .long (ma), .int (mk), .int (bi), .long (wo9), .int (ch9), .int (tu9), .ref sq, .ref uq, .ref gq])) :: (wi, .inl (g 0, 4, .inl (fw))) :: (ck, .inl (g 0, 4, .inl (fc))) :: (fq, .inl (g 0, 4, .inl (ff))) :: (co, .inl (g 0, 228, .inl (fco))) :: (sq, .inl (g 0, 8, .inl (fsq))) :: (uq, .inl (g 2, 128, .inl (fu))) :: (gq, .inl (g 0, 7, .inl (fg))) :: wm) sz) := by
  refine Met.ofW (cc := b_M_spare) (maxL := 5) (ret := (some .int)) (by decide +kernel) rfl ?_
  intro p e s m args below meth c s₁ Bq hml hv
  have hx := Bq.exec
  have hb := Bq.bytes
  have hr := Bq.returns
  have hts : ∀ w ∈ wA, w.before args s = true := fun w h => atoms_spec (ws := w_M_spare) Bq.pre w (List.mem_cons_of_mem _ h)
  have hown : s.vm.findClass R_M = some m.cls := findClass_of_methodNamed Bq.named
  have hlocks := Bq.notSynchronized
  obtain ⟨rfl, hsz, hP, hKK, hD0⟩ := hv
  have hK := hKK.1
  subst hsz
  have hD := hD0.self (sz := s.heap.size)
  generalize hAe : va_A ((mo, .inr (6, [.int (th), .int (nI M), .int (nI kd), .int (nI (ckb kd M)), .int (nI (nk kd)), .ref wi, .ref ck, .ref fq, .ref co, .int (nI (grsK kd M)), .int (nI ifo), .int (nI fl), .long (ma), .int (mk), .int (bi), .long (wo9), .int (ch9), .int (tu9), .ref sq, .ref uq, .ref gq])) :: (wi, .inl (g 0, 4, .inl (fw))) :: (ck, .inl (g 0, 4, .inl (fc))) :: (fq, .inl (g 0, 4, .inl (ff))) :: (co, .inl (g 0, 228, .inl (fco))) :: (sq, .inl (g 0, 8, .inl (fsq))) :: (uq, .inl (g 2, 128, .inl (fu))) :: (gq, .inl (g 0, 7, .inl (fg))) :: wm) s.heap.size = A at hD ⊢
  have hA : ∀ q : Nat, s.heap.size ≤ q → A q := fun q h => by rw [← hAe]; exact Or.inr h
  have hS : va_S A s.heap s.heap [] := va_S.rf
  have hl := lv_entry ([.ref mo, .int (v)]) (n := 5) (Nat.le_of_ble_eq_true rfl)
  rw [lg_entry_eq]
  generalize (lg_sl ([.ref mo, .int (v)]) ++ List.replicate (5 - (lg_sl ([.ref mo, .int (v)])).length) Slot.unset).toArray = ls at hl ⊢
  have hl : lv_has ls 5 [(0, .ref mo), (1, .int (v))] := hl
  generalize hQ : MQ below (va_Qi (fun (r : Int32) (u : Unit) => r = nI 0) (fun u => qB D (A) ((mo, .inr (6, [.int (nI 1), .int (nI M), .int (nI kd), .int (nI (ckb kd M)), .int (nI (nk kd)), .ref wi, .ref ck, .ref fq, .ref co, .int (nI (grsK kd M)), .int (nI ifo), .int (nI fl), .long (ma), .int (mk), .int (bi), .long (wo9), .int (ch9), .int (tu9), .ref sq, .ref uq, .ref gq])) :: (wi, .inl (g 0, 4, .inl (fw))) :: (ck, .inl (g 0, 4, .inl (fc))) :: (fq, .inl (g 0, 4, .inl (ff))) :: (co, .inl (g 0, 228, .inl (fco))) :: (sq, .inl (g 0, 8, .inl (fsq))) :: (uq, .inl (g 2, 128, .inl (fu))) :: (gq, .inl (g 0, 7, .inl (fg))) :: wm)) (A)) [.ref mo, .int (v)].toArray s 0 0 A = Q
  refine lv_iconst (v := (-1)) hx hb d_M_spare_0 (by decide) ?_
  refine lv_istore_n (lv' := [(2, .int ((-1))), (0, .ref mo), (1, .int (v))]) hx hb d_M_spare_1 rfl hl (by decide) rfl (fun ls hl => ?_)
  refine lv_iconst (v := (-1)) hx hb d_M_spare_2 (by decide) ?_
  refine lv_istore_n (lv' := [(3, .int ((-1))), (2, .int ((-1))), (0, .ref mo), (1, .int (v))]) hx hb d_M_spare_3 rfl hl (by decide) rfl (fun ls hl => ?_)
  refine lv_bipush (v := nI 7) hx hb d_M_spare_4 (by decide) ?_
  refine lv_istore (lv' := [(4, .int (nI 7)), (3, .int ((-1))), (2, .int ((-1))), (0, .ref mo), (1, .int (v))]) hx hb d_M_spare_6 hl (by decide) rfl (fun ls hl => ?_)
  have lp8 : ∀ (n : Nat) (d : Nat) (ls : Array Slot) (H : Heap) (locs : List Loc), (9 ≤ d + n) → (d ≤ 8) → lv_has ls 5 [(0, .ref mo), (1, .int (v)), (2, .int (oI (fdn (fun k9 => decide (fsq k9 = v)) d))), (3, .int (oI (fdn (fun k9 => decide (fsq k9 < 0)) d))), (4, .int (kd8 d))] → va_P D vwCl ((mo, .inr (6, [.int (th), .int (nI M), .int (nI kd), .int (nI (ckb kd M)), .int (nI (nk kd)), .ref wi, .ref ck, .ref fq, .ref co, .int (nI (grsK kd M)), .int (nI ifo), .int (nI fl), .long (ma), .int (mk), .int (bi), .long (wo9), .int (ch9), .int (tu9), .ref sq, .ref uq, .ref gq])) :: (wi, .inl (g 0, 4, .inl (fw))) :: (ck, .inl (g 0, 4, .inl (fc))) :: (fq, .inl (g 0, 4, .inl (ff))) :: (co, .inl (g 0, 228, .inl (fco))) :: (sq, .inl (g 0, 8, .inl (fsq))) :: (uq, .inl (g 2, 128, .inl (fu))) :: (gq, .inl (g 0, 7, .inl (fg))) :: wm) H → va_D A ((mo, .inr (6, [.int (th), .int (nI M), .int (nI kd), .int (nI (ckb kd M)), .int (nI (nk kd)), .ref wi, .ref ck, .ref fq, .ref co, .int (nI (grsK kd M)), .int (nI ifo), .int (nI fl), .long (ma), .int (mk), .int (bi), .long (wo9), .int (ch9), .int (tu9), .ref sq, .ref uq, .ref gq])) :: (wi, .inl (g 0, 4, .inl (fw))) :: (ck, .inl (g 0, 4, .inl (fc))) :: (fq, .inl (g 0, 4, .inl (ff))) :: (co, .inl (g 0, 228, .inl (fco))) :: (sq, .inl (g 0, 8, .inl (fsq))) :: (uq, .inl (g 2, 128, .inl (fu))) :: (gq, .inl (g 0, 7, .inl (fg))) :: wm) → va_S A s.heap H locs → W p l e (headSpec w_M_spare rm_M_spare).room s m [.ref mo, .int (v)].toArray below meth c H locs 0 0 Q (F0 m 8 ls []) := by
    intro n
    induction n with
    | zero => intro d ls H locs hfu hd _ _ _ _; exact absurd hfu (by omega)
    | succ n ih =>
      intro d ls H locs hfu hd hl hP hD hS
      refine lv_iload hx hb d_M_spare_8 (lv_at hl 4 rfl) ?_
      refine lv_if_lt (tgt := 54) hx hb d_M_spare_10 (by decide) (fun k10 => ?_) (fun k10 => ?_)
      · skip
        have hd8 := kd8_neg.mp k10
        obtain rfl : d = 8 := by omega
        refine lv_iload_n hx hb d_M_spare_54 rfl (lv_at hl 1 rfl) ?_
        refine lv_iconst (v := nI 0) hx hb d_M_spare_55 (by decide) ?_
        refine lv_ldc (v := 65535) hx hb hown (hts _ m_691) d_M_spare_56 ?_
        refine lv_topi (fun y1 ey1 => ?_)
        obtain rfl : y1 = nI 65535 := ey1.trans (by decide)
        refine lc_Si (As := [.int (v), .int (nI 0), .int (nI 65535)]) (rest := []) ⟨hx, hb, hml, hown, hts⟩ (c_M_in l D g _ _ v 65536 (by omega) (by omega)) (kS 3 hts m_682 m_680 m_681 m_40 (by decide +kernel) ⟨Nat.le_of_ble_eq_true rfl, Nat.le_of_ble_eq_true rfl⟩) hKK hP hD hS hA hl.1 rfl rfl (Nat.le_of_ble_eq_true rfl) d_M_spare_58 ⟨Nat.le_of_ble_eq_true rfl, Nat.le_of_ble_eq_true rfl⟩ (fun r1 ur1 H locs er1 hP hD hS => ?_)
        obtain rfl : r1 = nI 0 := er1.trans (by rw [hv9])
        refine lx_if_ne (tgt := 68) hx hb d_M_spare_61 (by decide) (by omega) (fun c61 => ?_) (fun c61 => ?_)
        · skip
          exact absurd rfl c61
        · skip
          refine lv_iconst (v := nI 1) hx hb d_M_spare_64 (by decide) ?_
          refine lv_goto (tgt := 69) hx hb d_M_spare_65 (by decide) ?_
          refine lv_istore (lv' := [(4, .int (nI 1)), (0, .ref mo), (1, .int (v)), (2, .int (oI (fdn (fun k9 => decide (fsq k9 = v)) 8))), (3, .int (oI (fdn (fun k9 => decide (fsq k9 < 0)) 8)))]) hx hb d_M_spare_69 hl (by decide) rfl (fun ls hl => ?_)
          refine lv_aload_n hx hb d_M_spare_71 rfl (lv_at hl 1 rfl) ?_
          refine lv_iload hx hb d_M_spare_72 (lv_at hl 0 rfl) ?_
          refine lv_iload_n hx hb d_M_spare_74 rfl (lv_at hl 3 rfl) ?_
          refine lv_if_ge (tgt := 86) hx hb d_M_spare_75 (by decide) (fun k75 => ?_) (fun k75 => ?_)
          · skip
            refine lv_iconst (v := nI 0) hx hb d_M_spare_86 (by decide) ?_
            refine lc_Vi (b := mo) (As := [.int (nI 1), .int (nI 0)]) (rest := []) ⟨hx, hb, hml, hown, hts⟩ (c_M_fails l D g _ wm mo wi ck fq co sq uq gq kd M ifo fl th mk bi ch9 tu9 ma wo9 fw fc ff fco fsq fu fg hM0 hM 1 0 (by decide) (by decide)) (kV 2 hts m_686 m_683 m_685 m_15 m_40 (by decide +kernel) ⟨Nat.le_of_ble_eq_true rfl, Nat.le_of_ble_eq_true rfl⟩) (va_recv hK hP (ci := 6) (q0 := 0) rfl rfl) hKK hP hD hS hA hl.1 rfl rfl (Nat.le_of_ble_eq_true rfl) d_M_spare_87 ⟨Nat.le_of_ble_eq_true rfl, Nat.le_of_ble_eq_true rfl⟩ (fun rf uf H locs ef hP hD hS => ?_)
            have hP : va_P D vwCl ((mo, .inr (6, [.int (nI 1), .int (nI M), .int (nI kd), .int (nI (ckb kd M)), .int (nI (nk kd)), .ref wi, .ref ck, .ref fq, .ref co, .int (nI (grsK kd M)), .int (nI ifo), .int (nI fl), .long (ma), .int (mk), .int (bi), .long (wo9), .int (ch9), .int (tu9), .ref sq, .ref uq, .ref gq])) :: (wi, .inl (g 0, 4, .inl (fw))) :: (ck, .inl (g 0, 4, .inl (fc))) :: (fq, .inl (g 0, 4, .inl (ff))) :: (co, .inl (g 0, 228, .inl (fco))) :: (sq, .inl (g 0, 8, .inl (fsq))) :: (uq, .inl (g 2, 128, .inl (fu))) :: (gq, .inl (g 0, 7, .inl (fg))) :: wm) H := hP
            have hD : va_D A ((mo, .inr (6, [.int (nI 1), .int (nI M), .int (nI kd), .int (nI (ckb kd M)), .int (nI (nk kd)), .ref wi, .ref ck, .ref fq, .ref co, .int (nI (grsK kd M)), .int (nI ifo), .int (nI fl), .long (ma), .int (mk), .int (bi), .long (wo9), .int (ch9), .int (tu9), .ref sq, .ref uq, .ref gq])) :: (wi, .inl (g 0, 4, .inl (fw))) :: (ck, .inl (g 0, 4, .inl (fc))) :: (fq, .inl (g 0, 4, .inl (ff))) :: (co, .inl (g 0, 228, .inl (fco))) :: (sq, .inl (g 0, 8, .inl (fsq))) :: (uq, .inl (g 2, 128, .inl (fu))) :: (gq, .inl (g 0, 7, .inl (fg))) :: wm) := hD
            obtain rfl : rf = nI 1 := ef
            refine lx_if_eq (tgt := 95) hx hb d_M_spare_90 (by decide) (by omega) (fun c90 => ?_) (fun c90 => ?_)
            · skip
              exact absurd c90 (by decide)
            · skip
              refine lv_iconst (v := nI 0) hx hb d_M_spare_93 (by decide) ?_
              rw [← hQ]
              refine W.iret (v := nI 0) hx hb hr ?_ hS.2.2 d_M_spare_94
              exact fun t ht hW => ⟨⟨nI 0, (), rfl, rfl, by rw [ht]; exact hP, hD⟩, hS.F ht⟩
          · skip
            refine lv_iload_n hx hb d_M_spare_78 rfl (lv_at hl 4 rfl) ?_
            refine lv_if_ge (tgt := 86) hx hb d_M_spare_79 (by decide) (fun k79 => ?_) (fun k79 => ?_)
            · skip
              refine lv_iconst (v := nI 0) hx hb d_M_spare_86 (by decide) ?_
              refine lc_Vi (b := mo) (As := [.int (nI 1), .int (nI 0)]) (rest := []) ⟨hx, hb, hml, hown, hts⟩ (c_M_fails l D g _ wm mo wi ck fq co sq uq gq kd M ifo fl th mk bi ch9 tu9 ma wo9 fw fc ff fco fsq fu fg hM0 hM 1 0 (by decide) (by decide)) (kV 2 hts m_686 m_683 m_685 m_15 m_40 (by decide +kernel) ⟨Nat.le_of_ble_eq_true rfl, Nat.le_of_ble_eq_true rfl⟩) (va_recv hK hP (ci := 6) (q0 := 0) rfl rfl) hKK hP hD hS hA hl.1 rfl rfl (Nat.le_of_ble_eq_true rfl) d_M_spare_87 ⟨Nat.le_of_ble_eq_true rfl, Nat.le_of_ble_eq_true rfl⟩ (fun rf uf H locs ef hP hD hS => ?_)
              have hP : va_P D vwCl ((mo, .inr (6, [.int (nI 1), .int (nI M), .int (nI kd), .int (nI (ckb kd M)), .int (nI (nk kd)), .ref wi, .ref ck, .ref fq, .ref co, .int (nI (grsK kd M)), .int (nI ifo), .int (nI fl), .long (ma), .int (mk), .int (bi), .long (wo9), .int (ch9), .int (tu9), .ref sq, .ref uq, .ref gq])) :: (wi, .inl (g 0, 4, .inl (fw))) :: (ck, .inl (g 0, 4, .inl (fc))) :: (fq, .inl (g 0, 4, .inl (ff))) :: (co, .inl (g 0, 228, .inl (fco))) :: (sq, .inl (g 0, 8, .inl (fsq))) :: (uq, .inl (g 2, 128, .inl (fu))) :: (gq, .inl (g 0, 7, .inl (fg))) :: wm) H := hP
              have hD : va_D A ((mo, .inr (6, [.int (nI 1), .int (nI M), .int (nI kd), .int (nI (ckb kd M)), .int (nI (nk kd)), .ref wi, .ref ck, .ref fq, .ref co, .int (nI (grsK kd M)), .int (nI ifo), .int (nI fl), .long (ma), .int (mk), .int (bi), .long (wo9), .int (ch9), .int (tu9), .ref sq, .ref uq, .ref gq])) :: (wi, .inl (g 0, 4, .inl (fw))) :: (ck, .inl (g 0, 4, .inl (fc))) :: (fq, .inl (g 0, 4, .inl (ff))) :: (co, .inl (g 0, 228, .inl (fco))) :: (sq, .inl (g 0, 8, .inl (fsq))) :: (uq, .inl (g 2, 128, .inl (fu))) :: (gq, .inl (g 0, 7, .inl (fg))) :: wm) := hD
              obtain rfl : rf = nI 1 := ef
              refine lx_if_eq (tgt := 95) hx hb d_M_spare_90 (by decide) (by omega) (fun c90 => ?_) (fun c90 => ?_)
              · skip
                exact absurd c90 (by decide)
              · skip
                refine lv_iconst (v := nI 0) hx hb d_M_spare_93 (by decide) ?_
                rw [← hQ]
                refine W.iret (v := nI 0) hx hb hr ?_ hS.2.2 d_M_spare_94
                exact fun t ht hW => ⟨⟨nI 0, (), rfl, rfl, by rw [ht]; exact hP, hD⟩, hS.F ht⟩
            · skip
              refine lv_iconst (v := nI 1) hx hb d_M_spare_82 (by decide) ?_
              refine lv_goto (tgt := 87) hx hb d_M_spare_83 (by decide) ?_
              refine lc_Vi (b := mo) (As := [.int (nI 1), .int (nI 1)]) (rest := []) ⟨hx, hb, hml, hown, hts⟩ (c_M_fails l D g _ wm mo wi ck fq co sq uq gq kd M ifo fl th mk bi ch9 tu9 ma wo9 fw fc ff fco fsq fu fg hM0 hM 1 1 (by decide) (by decide)) (kV 2 hts m_686 m_683 m_685 m_15 m_40 (by decide +kernel) ⟨Nat.le_of_ble_eq_true rfl, Nat.le_of_ble_eq_true rfl⟩) (va_recv hK hP (ci := 6) (q0 := 0) rfl rfl) hKK hP hD hS hA hl.1 rfl rfl (Nat.le_of_ble_eq_true rfl) d_M_spare_87 ⟨Nat.le_of_ble_eq_true rfl, Nat.le_of_ble_eq_true rfl⟩ (fun rf uf H locs ef hP hD hS => ?_)
              have hP : va_P D vwCl ((mo, .inr (6, [.int (nI 1), .int (nI M), .int (nI kd), .int (nI (ckb kd M)), .int (nI (nk kd)), .ref wi, .ref ck, .ref fq, .ref co, .int (nI (grsK kd M)), .int (nI ifo), .int (nI fl), .long (ma), .int (mk), .int (bi), .long (wo9), .int (ch9), .int (tu9), .ref sq, .ref uq, .ref gq])) :: (wi, .inl (g 0, 4, .inl (fw))) :: (ck, .inl (g 0, 4, .inl (fc))) :: (fq, .inl (g 0, 4, .inl (ff))) :: (co, .inl (g 0, 228, .inl (fco))) :: (sq, .inl (g 0, 8, .inl (fsq))) :: (uq, .inl (g 2, 128, .inl (fu))) :: (gq, .inl (g 0, 7, .inl (fg))) :: wm) H := hP
              have hD : va_D A ((mo, .inr (6, [.int (nI 1), .int (nI M), .int (nI kd), .int (nI (ckb kd M)), .int (nI (nk kd)), .ref wi, .ref ck, .ref fq, .ref co, .int (nI (grsK kd M)), .int (nI ifo), .int (nI fl), .long (ma), .int (mk), .int (bi), .long (wo9), .int (ch9), .int (tu9), .ref sq, .ref uq, .ref gq])) :: (wi, .inl (g 0, 4, .inl (fw))) :: (ck, .inl (g 0, 4, .inl (fc))) :: (fq, .inl (g 0, 4, .inl (ff))) :: (co, .inl (g 0, 228, .inl (fco))) :: (sq, .inl (g 0, 8, .inl (fsq))) :: (uq, .inl (g 2, 128, .inl (fu))) :: (gq, .inl (g 0, 7, .inl (fg))) :: wm) := hD
              obtain rfl : rf = nI 1 := ef
              refine lx_if_eq (tgt := 95) hx hb d_M_spare_90 (by decide) (by omega) (fun c90 => ?_) (fun c90 => ?_)
              · skip
                exact absurd c90 (by decide)
              · skip
                refine lv_iconst (v := nI 0) hx hb d_M_spare_93 (by decide) ?_
                rw [← hQ]
                refine W.iret (v := nI 0) hx hb hr ?_ hS.2.2 d_M_spare_94
                exact fun t ht hW => ⟨⟨nI 0, (), rfl, rfl, by rw [ht]; exact hP, hD⟩, hS.F ht⟩
      · skip
        have hd8 : d < 8 := Decidable.byContradiction (fun q => k10 (kd8_neg.mpr q))
        have hl : lv_has ls 5 [(0, .ref mo), (1, .int (v)), (2, .int (oI (fdn (fun k9 => decide (fsq k9 = v)) d))), (3, .int (oI (fdn (fun k9 => decide (fsq k9 < 0)) d))), (4, .int (nI (7 - d)))] := by rw [← kd8_lt hd8]; exact hl
        refine lv_aload_n hx hb d_M_spare_13 rfl (lv_at hl 0 rfl) ?_
        refine va_get (D := D) (ci := 6) (v := .ref sq) (C := R_M) (T := F_M) (N := 21) hx hb hts i_M hown hK hP 0 rfl rfl 18 (by decide) (hts _ m_621) (fun _ h9 => h9) rfl d_M_spare_14 ?_
        refine lv_iload hx hb d_M_spare_17 (lv_at hl 4 rfl) ?_
        refine lx_iald (v := fsq (7 - d)) hx hb hK hP 5 0 rfl rfl (j := 7 - d) (by omega) (by omega) (rfl) d_M_spare_19 ?_
        refine lv_iload_n hx hb d_M_spare_20 rfl (lv_at hl 1 rfl) ?_
        refine lv_icmp_ne (tgt := 29) hx hb d_M_spare_21 (by decide) (fun c21 => ?_) (fun c21 => ?_)
        · skip
          refine lv_iload_n hx hb d_M_spare_29 rfl (lv_at hl 2 rfl) ?_
          refine lv_istore_n (lv' := [(2, .int (oI (fdn (fun k9 => decide (fsq k9 = v)) d))), (0, .ref mo), (1, .int (v)), (3, .int (oI (fdn (fun k9 => decide (fsq k9 < 0)) d))), (4, .int (nI (7 - d)))]) hx hb d_M_spare_30 rfl hl (by decide) rfl (fun ls hl => ?_)
          have hl : lv_has ls 5 [(2, .int (oI (fdn (fun k9 => decide (fsq k9 = v)) (d + 1)))), (0, .ref mo), (1, .int (v)), (3, .int (oI (fdn (fun k9 => decide (fsq k9 < 0)) d))), (4, .int (nI (7 - d)))] := by rw [show fdn (fun k9 => decide (fsq k9 = v)) (d + 1) = fdn (fun k9 => decide (fsq k9 = v)) d from by rw [fdn_s]; exact if_neg (fun q => c21 (of_decide_eq_true q))]; exact hl
          refine lv_aload_n hx hb d_M_spare_31 rfl (lv_at hl 1 rfl) ?_
          refine va_get (D := D) (ci := 6) (v := .ref sq) (C := R_M) (T := F_M) (N := 21) hx hb hts i_M hown hK hP 0 rfl rfl 18 (by decide) (hts _ m_621) (fun _ h9 => h9) rfl d_M_spare_32 ?_
          refine lv_iload hx hb d_M_spare_35 (lv_at hl 4 rfl) ?_
          refine lx_iald (v := fsq (7 - d)) hx hb hK hP 5 0 rfl rfl (j := 7 - d) (by omega) (by omega) (rfl) d_M_spare_37 ?_
          refine lv_if_ge (tgt := 46) hx hb d_M_spare_38 (by decide) (fun c38 => ?_) (fun c38 => ?_)
          · skip
            refine lv_iload_n hx hb d_M_spare_46 rfl (lv_at hl 3 rfl) ?_
            refine lv_istore_n (lv' := [(3, .int (oI (fdn (fun k9 => decide (fsq k9 < 0)) d))), (2, .int (oI (fdn (fun k9 => decide (fsq k9 = v)) (d + 1)))), (0, .ref mo), (1, .int (v)), (4, .int (nI (7 - d)))]) hx hb d_M_spare_47 rfl hl (by decide) rfl (fun ls hl => ?_)
            refine lv_iinc (v := kd8 (d + 1)) (lv' := [(4, .int (kd8 (d + 1))), (3, .int (oI (fdn (fun k9 => decide (fsq k9 < 0)) d))), (2, .int (oI (fdn (fun k9 => decide (fsq k9 = v)) (d + 1)))), (0, .ref mo), (1, .int (v))]) hx hb d_M_spare_48 hl (k := 4) rfl (kd8_s hd8) (by decide) rfl (fun ls hl => ?_)
            refine lv_goto (tgt := 8) hx hb d_M_spare_51 (by decide) ?_
            have hl : lv_has ls 5 [(4, .int (kd8 (d + 1))), (3, .int (oI (fdn (fun k9 => decide (fsq k9 < 0)) (d + 1)))), (2, .int (oI (fdn (fun k9 => decide (fsq k9 = v)) (d + 1)))), (0, .ref mo), (1, .int (v))] := by rw [show fdn (fun k9 => decide (fsq k9 < 0)) (d + 1) = fdn (fun k9 => decide (fsq k9 < 0)) d from by rw [fdn_s]; exact if_neg (fun q => absurd (of_decide_eq_true q) (Int32.not_lt.mpr c38))]; exact hl
            exact ih (d + 1) _ _ _ (by omega) (by omega) (lv_sub hl [3, 4, 2, 1, 0] rfl) hP hD hS
          · skip
            refine lv_iload hx hb d_M_spare_41 (lv_at hl 4 rfl) ?_
            refine lv_goto (tgt := 47) hx hb d_M_spare_43 (by decide) ?_
            refine lv_istore_n (lv' := [(3, .int (nI (7 - d))), (2, .int (oI (fdn (fun k9 => decide (fsq k9 = v)) (d + 1)))), (0, .ref mo), (1, .int (v)), (4, .int (nI (7 - d)))]) hx hb d_M_spare_47 rfl hl (by decide) rfl (fun ls hl => ?_)
            refine lv_iinc (v := kd8 (d + 1)) (lv' := [(4, .int (kd8 (d + 1))), (3, .int (nI (7 - d))), (2, .int (oI (fdn (fun k9 => decide (fsq k9 = v)) (d + 1)))), (0, .ref mo), (1, .int (v))]) hx hb d_M_spare_48 hl (k := 4) rfl (kd8_s hd8) (by decide) rfl (fun ls hl => ?_)
            refine lv_goto (tgt := 8) hx hb d_M_spare_51 (by decide) ?_
            have hl : lv_has ls 5 [(4, .int (kd8 (d + 1))), (3, .int (oI (fdn (fun k9 => decide (fsq k9 < 0)) (d + 1)))), (2, .int (oI (fdn (fun k9 => decide (fsq k9 = v)) (d + 1)))), (0, .ref mo), (1, .int (v))] := by rw [show fdn (fun k9 => decide (fsq k9 < 0)) (d + 1) = some (7 - d) from by rw [fdn_s]; exact if_pos (decide_eq_true (Int32.not_le.mp c38))]; exact hl
            exact ih (d + 1) _ _ _ (by omega) (by omega) (lv_sub hl [3, 4, 2, 1, 0] rfl) hP hD hS
        · skip
          refine lv_iload hx hb d_M_spare_24 (lv_at hl 4 rfl) ?_
          refine lv_goto (tgt := 30) hx hb d_M_spare_26 (by decide) ?_
          refine lv_istore_n (lv' := [(2, .int (nI (7 - d))), (0, .ref mo), (1, .int (v)), (3, .int (oI (fdn (fun k9 => decide (fsq k9 < 0)) d))), (4, .int (nI (7 - d)))]) hx hb d_M_spare_30 rfl hl (by decide) rfl (fun ls hl => ?_)
          have hl : lv_has ls 5 [(2, .int (oI (fdn (fun k9 => decide (fsq k9 = v)) (d + 1)))), (0, .ref mo), (1, .int (v)), (3, .int (oI (fdn (fun k9 => decide (fsq k9 < 0)) d))), (4, .int (nI (7 - d)))] := by rw [show fdn (fun k9 => decide (fsq k9 = v)) (d + 1) = some (7 - d) from by rw [fdn_s]; exact if_pos (decide_eq_true c21)]; exact hl
          refine lv_aload_n hx hb d_M_spare_31 rfl (lv_at hl 1 rfl) ?_
          refine va_get (D := D) (ci := 6) (v := .ref sq) (C := R_M) (T := F_M) (N := 21) hx hb hts i_M hown hK hP 0 rfl rfl 18 (by decide) (hts _ m_621) (fun _ h9 => h9) rfl d_M_spare_32 ?_
          refine lv_iload hx hb d_M_spare_35 (lv_at hl 4 rfl) ?_
          refine lx_iald (v := fsq (7 - d)) hx hb hK hP 5 0 rfl rfl (j := 7 - d) (by omega) (by omega) (rfl) d_M_spare_37 ?_
          refine lv_if_ge (tgt := 46) hx hb d_M_spare_38 (by decide) (fun c38 => ?_) (fun c38 => ?_)
          · skip
            refine lv_iload_n hx hb d_M_spare_46 rfl (lv_at hl 3 rfl) ?_
            refine lv_istore_n (lv' := [(3, .int (oI (fdn (fun k9 => decide (fsq k9 < 0)) d))), (2, .int (oI (fdn (fun k9 => decide (fsq k9 = v)) (d + 1)))), (0, .ref mo), (1, .int (v)), (4, .int (nI (7 - d)))]) hx hb d_M_spare_47 rfl hl (by decide) rfl (fun ls hl => ?_)
            refine lv_iinc (v := kd8 (d + 1)) (lv' := [(4, .int (kd8 (d + 1))), (3, .int (oI (fdn (fun k9 => decide (fsq k9 < 0)) d))), (2, .int (oI (fdn (fun k9 => decide (fsq k9 = v)) (d + 1)))), (0, .ref mo), (1, .int (v))]) hx hb d_M_spare_48 hl (k := 4) rfl (kd8_s hd8) (by decide) rfl (fun ls hl => ?_)
            refine lv_goto (tgt := 8) hx hb d_M_spare_51 (by decide) ?_
            have hl : lv_has ls 5 [(4, .int (kd8 (d + 1))), (3, .int (oI (fdn (fun k9 => decide (fsq k9 < 0)) (d + 1)))), (2, .int (oI (fdn (fun k9 => decide (fsq k9 = v)) (d + 1)))), (0, .ref mo), (1, .int (v))] := by rw [show fdn (fun k9 => decide (fsq k9 < 0)) (d + 1) = fdn (fun k9 => decide (fsq k9 < 0)) d from by rw [fdn_s]; exact if_neg (fun q => absurd (of_decide_eq_true q) (Int32.not_lt.mpr c38))]; exact hl
            exact ih (d + 1) _ _ _ (by omega) (by omega) (lv_sub hl [3, 4, 2, 1, 0] rfl) hP hD hS
          · skip
            refine lv_iload hx hb d_M_spare_41 (lv_at hl 4 rfl) ?_
            refine lv_goto (tgt := 47) hx hb d_M_spare_43 (by decide) ?_
            refine lv_istore_n (lv' := [(3, .int (nI (7 - d))), (2, .int (oI (fdn (fun k9 => decide (fsq k9 = v)) (d + 1)))), (0, .ref mo), (1, .int (v)), (4, .int (nI (7 - d)))]) hx hb d_M_spare_47 rfl hl (by decide) rfl (fun ls hl => ?_)
            refine lv_iinc (v := kd8 (d + 1)) (lv' := [(4, .int (kd8 (d + 1))), (3, .int (nI (7 - d))), (2, .int (oI (fdn (fun k9 => decide (fsq k9 = v)) (d + 1)))), (0, .ref mo), (1, .int (v))]) hx hb d_M_spare_48 hl (k := 4) rfl (kd8_s hd8) (by decide) rfl (fun ls hl => ?_)
            refine lv_goto (tgt := 8) hx hb d_M_spare_51 (by decide) ?_
            have hl : lv_has ls 5 [(4, .int (kd8 (d + 1))), (3, .int (oI (fdn (fun k9 => decide (fsq k9 < 0)) (d + 1)))), (2, .int (oI (fdn (fun k9 => decide (fsq k9 = v)) (d + 1)))), (0, .ref mo), (1, .int (v))] := by rw [show fdn (fun k9 => decide (fsq k9 < 0)) (d + 1) = some (7 - d) from by rw [fdn_s]; exact if_pos (decide_eq_true (Int32.not_le.mp c38))]; exact hl
            exact ih (d + 1) _ _ _ (by omega) (by omega) (lv_sub hl [3, 4, 2, 1, 0] rfl) hP hD hS
  have hl : lv_has ls 5 [(4, .int (nI 7)), (3, .int ((-1))), (2, .int ((-1))), (0, .ref mo), (1, .int (v))] := hl
  have hl : lv_has ls 5 [(4, .int (kd8 0)), (3, .int (oI (fdn (fun k9 => decide (fsq k9 < 0)) 0))), (2, .int (oI (fdn (fun k9 => decide (fsq k9 = v)) 0))), (0, .ref mo), (1, .int (v))] := hl
  exact lp8 9 0 _ _ _ (by omega) (by omega) (lv_sub hl [3, 4, 2, 1, 0] rfl) hP hD hS
set_option maxHeartbeats 4000000 in
set_option maxRecDepth 100000 in
theorem c_M_answer (l : Launch) (D : va_G) (g : Nat → ClassId) (sz : Nat) (wm : va_W) (mo wi ck fq co sq uq gq kd M ifo fl : Nat) (th mk bi ch9 tu9 : Int32) (ma wo9 : Int64) (fw fc ff fco fsq fu fg : Nat → Int32) (hM0 : 0 < M) (hM : M ≤ 57) (q fr : Nat) (hq6 : q < 2 ^ 6) (hfr : fr < M + ckb kd M) (hq2 : q < 2 ^ (M + ckb kd M - fr)) (hif : ifo ≤ 1) (hfl : fl < 2 ^ ckb kd M) (hkd : kd ≤ 3) (hmw : MWF kd M fw fc ff fco) : Met l y_M_answer w_M_answer rm_M_answer (va_Pc [.ref mo, .int (nI q), .int (nI fr)] (pP D (tyl g) ((mo, .inr (6, [.int (th), .int (nI M), .int (nI kd), .int (nI (ckb kd M)), .int (nI (nk kd)), .ref wi, .ref ck, .ref fq, .ref co, .int (nI (grsK kd M)), .int (nI ifo), .int (nI fl), .long (ma), .int (mk), .int (bi), .long (wo9), .int (ch9), .int (tu9), .ref sq, .ref uq, .ref gq])) :: (wi, .inl (g 0, 4, .inl (fw))) :: (ck, .inl (g 0, 4, .inl (fc))) :: (fq, .inl (g 0, 4, .inl (ff))) :: (co, .inl (g 0, 228, .inl (fco))) :: (sq, .inl (g 0, 8, .inl (fsq))) :: (uq, .inl (g 2, 128, .inl (fu))) :: (gq, .inl (g 0, 7, .inl (fg))) :: wm) sz)) (va_Qi (fun (r : Int32) (u : (Int64 × Int32 × Int32)) => r = nI (patA kd M q fr)) (fun u => qB D (va_A ((mo, .inr (6, [.int (th), .int (nI M), .int (nI kd), .int (nI (ckb kd M)), .int (nI (nk kd)), .ref wi, .ref ck, .ref fq, .ref co, .int (nI (grsK kd M)), .int (nI ifo), .int (nI fl), .long (ma), .int (mk), .int (bi), .long (wo9), .int (ch9), .int (tu9), .ref sq, .ref uq, .ref gq])) :: (wi, .inl (g 0, 4, .inl (fw))) :: (ck, .inl (g 0, 4, .inl (fc))) :: (fq, .inl (g 0, 4, .inl (ff))) :: (co, .inl (g 0, 228, .inl (fco))) :: (sq, .inl (g 0, 8, .inl (fsq))) :: (uq, .inl (g 2, 128, .inl (fu))) :: (gq, .inl (g 0, 7, .inl (fg))) :: wm) sz) ((mo, .inr (6, [.int (th), .int (nI M), .int (nI kd), .int (nI (ckb kd M)), .int (nI (nk kd)), .ref wi, .ref ck, .ref fq, .ref co, .int (nI (grsK kd M)), .int (nI ifo), .int (nI fl), .long (u.1), .int (u.2.1), .int (u.2.2), .long (wo9), .int (ch9), .int (tu9), .ref sq, .ref uq, .ref gq])) :: (wi, .inl (g 0, 4, .inl (fw))) :: (ck, .inl (g 0, 4, .inl (fc))) :: (fq, .inl (g 0, 4, .inl (ff))) :: (co, .inl (g 0, 228, .inl (fco))) :: (sq, .inl (g 0, 8, .inl (fsq))) :: (uq, .inl (g 2, 128, .inl (fu))) :: (gq, .inl (g 0, 7, .inl (fg))) :: wm)) (va_A ((mo, .inr (6, [.int (th), .int (nI M), .int (nI kd), .int (nI (ckb kd M)), .int (nI (nk kd)), .ref wi, .ref ck, .ref fq, .ref co, .int (nI (grsK kd M)), .int (nI ifo), .int (nI fl), .long (ma), .int (mk), .int (bi), .long (wo9), .int (ch9), .int (tu9), .ref sq, .ref uq, .ref gq])) :: (wi, .inl (g 0, 4, .inl (fw))) :: (ck, .inl (g 0, 4, .inl (fc))) :: (fq, .inl (g 0, 4, .inl (ff))) :: (co, .inl (g 0, 228, .inl (fco))) :: (sq, .inl (g 0, 8, .inl (fsq))) :: (uq, .inl (g 2, 128, .inl (fu))) :: (gq, .inl (g 0, 7, .inl (fg))) :: wm) sz)) 0 0 (va_A ((mo, .inr (6, [.int (th), .int (nI M), .int (nI kd), .int (nI (ckb kd M)), .int (nI (nk kd)), .ref wi, .ref ck, .ref fq, .ref co, .int (nI (grsK kd M)), .int (nI ifo), .int (nI fl), .long (ma), .int (mk), .int (bi), .long (wo9), .int (ch9), .int (tu9), .ref sq, .ref uq, .ref gq])) :: (wi, .inl (g 0, 4, .inl (fw))) :: (ck, .inl (g 0, 4, .inl (fc))) :: (fq, .inl (g 0, 4, .inl (ff))) :: (co, .inl (g 0, 228, .inl (fco))) :: (sq, .inl (g 0, 8, .inl (fsq))) :: (uq, .inl (g 2, 128, .inl (fu))) :: (gq, .inl (g 0, 7, .inl (fg))) :: wm) sz) := by
  refine Met.ofW (cc := b_M_answer) (maxL := 9) (ret := (some .int)) (by decide +kernel) rfl ?_
  intro p e s m args below meth c s₁ Bq hml hv
  have hx := Bq.exec
  have hb := Bq.bytes
  have hr := Bq.returns
  have hts : ∀ w ∈ wA, w.before args s = true := fun w h => atoms_spec (ws := w_M_answer) Bq.pre w (List.mem_cons_of_mem _ h)
  have hown : s.vm.findClass R_M = some m.cls := findClass_of_methodNamed Bq.named
  have hlocks := Bq.notSynchronized
  obtain ⟨rfl, hsz, hP, hKK, hD0⟩ := hv
  have hK := hKK.1
  subst hsz
  have hD := hD0.self (sz := s.heap.size)
  generalize hAe : va_A ((mo, .inr (6, [.int (th), .int (nI M), .int (nI kd), .int (nI (ckb kd M)), .int (nI (nk kd)), .ref wi, .ref ck, .ref fq, .ref co, .int (nI (grsK kd M)), .int (nI ifo), .int (nI fl), .long (ma), .int (mk), .int (bi), .long (wo9), .int (ch9), .int (tu9), .ref sq, .ref uq, .ref gq])) :: (wi, .inl (g 0, 4, .inl (fw))) :: (ck, .inl (g 0, 4, .inl (fc))) :: (fq, .inl (g 0, 4, .inl (ff))) :: (co, .inl (g 0, 228, .inl (fco))) :: (sq, .inl (g 0, 8, .inl (fsq))) :: (uq, .inl (g 2, 128, .inl (fu))) :: (gq, .inl (g 0, 7, .inl (fg))) :: wm) s.heap.size = A at hD ⊢
  have hA : ∀ q : Nat, s.heap.size ≤ q → A q := fun q h => by rw [← hAe]; exact Or.inr h
  have hS : va_S A s.heap s.heap [] := va_S.rf
  have hl := lv_entry ([.ref mo, .int (nI q), .int (nI fr)]) (n := 9) (Nat.le_of_ble_eq_true rfl)
  rw [lg_entry_eq]
  generalize (lg_sl ([.ref mo, .int (nI q), .int (nI fr)]) ++ List.replicate (9 - (lg_sl ([.ref mo, .int (nI q), .int (nI fr)])).length) Slot.unset).toArray = ls at hl ⊢
  have hl : lv_has ls 9 [(0, .ref mo), (1, .int (nI q)), (2, .int (nI fr))] := hl
  generalize hQ : MQ below (va_Qi (fun (r : Int32) (u : (Int64 × Int32 × Int32)) => r = nI (patA kd M q fr)) (fun u => qB D (A) ((mo, .inr (6, [.int (th), .int (nI M), .int (nI kd), .int (nI (ckb kd M)), .int (nI (nk kd)), .ref wi, .ref ck, .ref fq, .ref co, .int (nI (grsK kd M)), .int (nI ifo), .int (nI fl), .long (u.1), .int (u.2.1), .int (u.2.2), .long (wo9), .int (ch9), .int (tu9), .ref sq, .ref uq, .ref gq])) :: (wi, .inl (g 0, 4, .inl (fw))) :: (ck, .inl (g 0, 4, .inl (fc))) :: (fq, .inl (g 0, 4, .inl (ff))) :: (co, .inl (g 0, 228, .inl (fco))) :: (sq, .inl (g 0, 8, .inl (fsq))) :: (uq, .inl (g 2, 128, .inl (fu))) :: (gq, .inl (g 0, 7, .inl (fg))) :: wm)) (A)) [.ref mo, .int (nI q), .int (nI fr)].toArray s 0 0 A = Q
  have hck := ckb_le kd M
  have lp11 : ∀ (n : Nat) (k : Nat) (ls : Array Slot) (H : Heap) (locs : List Loc), (8 ≤ k + n) → (k ≤ 7) → lv_has ls 9 [(0, .ref mo), (1, .int (nI q)), (2, .int (nI fr)), (3, .long (lN (pk q fr k % 2 ^ M))), (5, .int (nI ((if ifo = 1 then fl else 0) ^^^ pk q fr k >>> M))), (6, .int (nI k))] → va_P D vwCl ((mo, .inr (6, [.int (th), .int (nI M), .int (nI kd), .int (nI (ckb kd M)), .int (nI (nk kd)), .ref wi, .ref ck, .ref fq, .ref co, .int (nI (grsK kd M)), .int (nI ifo), .int (nI fl), .long (ma), .int (mk), .int (bi), .long (wo9), .int (ch9), .int (tu9), .ref sq, .ref uq, .ref gq])) :: (wi, .inl (g 0, 4, .inl (fw))) :: (ck, .inl (g 0, 4, .inl (fc))) :: (fq, .inl (g 0, 4, .inl (ff))) :: (co, .inl (g 0, 228, .inl (fco))) :: (sq, .inl (g 0, 8, .inl (fsq))) :: (uq, .inl (g 2, 128, .inl (fu))) :: (gq, .inl (g 0, 7, .inl (fg))) :: wm) H → va_D A ((mo, .inr (6, [.int (th), .int (nI M), .int (nI kd), .int (nI (ckb kd M)), .int (nI (nk kd)), .ref wi, .ref ck, .ref fq, .ref co, .int (nI (grsK kd M)), .int (nI ifo), .int (nI fl), .long (ma), .int (mk), .int (bi), .long (wo9), .int (ch9), .int (tu9), .ref sq, .ref uq, .ref gq])) :: (wi, .inl (g 0, 4, .inl (fw))) :: (ck, .inl (g 0, 4, .inl (fc))) :: (fq, .inl (g 0, 4, .inl (ff))) :: (co, .inl (g 0, 228, .inl (fco))) :: (sq, .inl (g 0, 8, .inl (fsq))) :: (uq, .inl (g 2, 128, .inl (fu))) :: (gq, .inl (g 0, 7, .inl (fg))) :: wm) → va_S A s.heap H locs → W p l e (headSpec w_M_answer rm_M_answer).room s m [.ref mo, .int (nI q), .int (nI fr)].toArray below meth c H locs 0 0 Q (F0 m 11 ls []) := by
    intro n
    induction n with
    | zero => intro k ls H locs hfu hk _ _ _ _; exact absurd hfu (by omega)
    | succ n ih =>
      intro k ls H locs hfu hk hl hP hD hS
      refine lv_iload hx hb d_M_answer_11 (lv_at hl 5 rfl) ?_
      refine lv_bipush (v := nI 7) hx hb d_M_answer_13 (by decide) ?_
      refine lx_icmp_ge (tgt := 104) hx hb d_M_answer_15 (by decide) (by omega) (by omega) (fun c15 => ?_) (fun c15 => ?_)
      · skip
        obtain rfl : k = 7 := by omega
        rw [pk_7 (by omega)] at hl
        have hcf := pat_cf (kd := kd) (M := M) (fr := fr) hq2 (by omega)
        refine lv_aload_n hx hb d_M_answer_104 rfl (lv_at hl 0 rfl) ?_
        refine lv_lload_n hx hb d_M_answer_105 rfl (lv_at hl 3 rfl) ?_
        refine lv_iload hx hb d_M_answer_106 (lv_at hl 4 rfl) ?_
        refine lc_Vi (b := mo) (As := [.long (lN ((q <<< fr) % 2 ^ M)), .int (nI ((if ifo = 1 then fl else 0) ^^^ (q <<< fr) >>> M))]) (rest := []) ⟨hx, hb, hml, hown, hts⟩ (c_M_answerTo l D g _ wm mo wi ck fq co sq uq gq kd M ifo fl th mk bi ch9 tu9 ma wo9 fw fc ff fco fsq fu fg hM0 hM ((q <<< fr) % 2 ^ M) ((q <<< fr) >>> M) (pow_mono (Nat.mod_lt _ (Nat.two_pow_pos M)) (by omega)) hcf hif hfl hkd hmw) (kV 2 hts m_774 m_771 m_773 m_26 m_40 (by decide +kernel) ⟨Nat.le_of_ble_eq_true rfl, Nat.le_of_ble_eq_true rfl⟩) (va_recv hK hP (ci := 6) (q0 := 0) rfl rfl) hKK hP hD hS hA hl.1 rfl rfl (Nat.le_of_ble_eq_true rfl) d_M_answer_108 ⟨Nat.le_of_ble_eq_true rfl, Nat.le_of_ble_eq_true rfl⟩ (fun rr u H locs er hP hD hS => ?_)
        have hP : va_P D vwCl ((mo, .inr (6, [.int (th), .int (nI M), .int (nI kd), .int (nI (ckb kd M)), .int (nI (nk kd)), .ref wi, .ref ck, .ref fq, .ref co, .int (nI (grsK kd M)), .int (nI ifo), .int (nI fl), .long (u.1), .int (u.2.1), .int (u.2.2), .long (wo9), .int (ch9), .int (tu9), .ref sq, .ref uq, .ref gq])) :: (wi, .inl (g 0, 4, .inl (fw))) :: (ck, .inl (g 0, 4, .inl (fc))) :: (fq, .inl (g 0, 4, .inl (ff))) :: (co, .inl (g 0, 228, .inl (fco))) :: (sq, .inl (g 0, 8, .inl (fsq))) :: (uq, .inl (g 2, 128, .inl (fu))) :: (gq, .inl (g 0, 7, .inl (fg))) :: wm) H := hP
        have hD : va_D A ((mo, .inr (6, [.int (th), .int (nI M), .int (nI kd), .int (nI (ckb kd M)), .int (nI (nk kd)), .ref wi, .ref ck, .ref fq, .ref co, .int (nI (grsK kd M)), .int (nI ifo), .int (nI fl), .long (u.1), .int (u.2.1), .int (u.2.2), .long (wo9), .int (ch9), .int (tu9), .ref sq, .ref uq, .ref gq])) :: (wi, .inl (g 0, 4, .inl (fw))) :: (ck, .inl (g 0, 4, .inl (fc))) :: (fq, .inl (g 0, 4, .inl (ff))) :: (co, .inl (g 0, 228, .inl (fco))) :: (sq, .inl (g 0, 8, .inl (fsq))) :: (uq, .inl (g 2, 128, .inl (fu))) :: (gq, .inl (g 0, 7, .inl (fg))) :: wm) := hD
        rw [← hQ]
        refine W.iret (v := rr) hx hb hr ?_ hS.2.2 d_M_answer_111
        exact fun t ht hW => ⟨⟨rr, u, rfl, er, by rw [ht]; exact hP, hD⟩, hS.F ht⟩
      · skip
        refine lv_iload_n hx hb d_M_answer_18 rfl (lv_at hl 2 rfl) ?_
        refine lv_iload hx hb d_M_answer_19 (lv_at hl 5 rfl) ?_
        refine lx_iadd (z := nI (fr + k)) hx hb d_M_answer_21 (nI_add fr k) ?_
        refine lv_istore (lv' := [(7, .int (nI (fr + k))), (0, .ref mo), (1, .int (nI q)), (2, .int (nI fr)), (3, .long (lN (pk q fr k % 2 ^ M))), (5, .int (nI ((if ifo = 1 then fl else 0) ^^^ pk q fr k >>> M))), (6, .int (nI k))]) hx hb d_M_answer_22 hl (by decide) rfl (fun ls hl => ?_)
        refine lv_iload_n hx hb d_M_answer_24 rfl (lv_at hl 2 rfl) ?_
        refine lv_iload hx hb d_M_answer_25 (lv_at hl 6 rfl) ?_
        refine lx_ishr (z := nI (q >>> k)) hx hb d_M_answer_27 (xn_sshr (by omega) (by omega)) ?_
        refine lv_iconst (v := nI 1) hx hb d_M_answer_28 (by decide) ?_
        refine lx_iand (z := nI (q >>> k % 2)) hx hb d_M_answer_29 ((xn_and _ _).trans (by rw [Nat.and_one_is_mod])) ?_
        refine lv_iconst (v := nI 1) hx hb d_M_answer_30 (by decide) ?_
        refine lx_icmp_ne (tgt := 38) hx hb d_M_answer_31 (by decide) (by omega) (by omega) (fun c31 => ?_) (fun c31 => ?_)
        · skip
          have hbt : ¬ q.testBit k = true := by rw [xs_bit, decide_eq_false c31]; decide
          refine lv_iconst (v := nI 0) hx hb d_M_answer_38 (by decide) ?_
          refine lv_istore (lv' := [(8, .int (nI 0)), (7, .int (nI (fr + k))), (0, .ref mo), (1, .int (nI q)), (2, .int (nI fr)), (3, .long (lN (pk q fr k % 2 ^ M))), (5, .int (nI ((if ifo = 1 then fl else 0) ^^^ pk q fr k >>> M))), (6, .int (nI k))]) hx hb d_M_answer_39 hl (by decide) rfl (fun ls hl => ?_)
          refine lv_lload_n hx hb d_M_answer_41 rfl (lv_at hl 5 rfl) ?_
          refine lv_iload hx hb d_M_answer_42 (lv_at hl 0 rfl) ?_
          refine lx_if_eq (tgt := 63) hx hb d_M_answer_44 (by decide) (by omega) (fun c44 => ?_) (fun c44 => ?_)
          · skip
            refine lv_lconst (v := lN 0) hx hb d_M_answer_63 (by decide) ?_
            refine lx_lxor (z := lN (pk q fr (k + 1) % 2 ^ M)) hx hb d_M_answer_64 ((xl_xor _ _).trans (by rw [pk_w, if_neg (fun z => hbt z.1)])) ?_
            refine lv_lstore_n (lv' := [(3, .long (lN (pk q fr (k + 1) % 2 ^ M))), (8, .int (nI 0)), (7, .int (nI (fr + k))), (0, .ref mo), (1, .int (nI q)), (2, .int (nI fr)), (5, .int (nI ((if ifo = 1 then fl else 0) ^^^ pk q fr k >>> M))), (6, .int (nI k))]) hx hb d_M_answer_65 rfl hl (by decide) rfl (fun ls hl => ?_)
            refine lv_iload hx hb d_M_answer_66 (lv_at hl 6 rfl) ?_
            refine lv_iload hx hb d_M_answer_68 (lv_at hl 1 rfl) ?_
            refine lx_if_eq (tgt := 94) hx hb d_M_answer_70 (by decide) (by omega) (fun c70 => ?_) (fun c70 => ?_)
            · skip
              refine lv_iconst (v := nI 0) hx hb d_M_answer_94 (by decide) ?_
              refine lx_ixor (z := nI ((if ifo = 1 then fl else 0) ^^^ pk q fr (k + 1) >>> M)) hx hb d_M_answer_95 ((xn_xor _ _).trans (by rw [pk_c, if_neg (show ¬ (q.testBit k = true ∧ M ≤ fr + k) from fun z => hbt z.1), Nat.xor_assoc])) ?_
              refine lv_istore (lv' := [(5, .int (nI ((if ifo = 1 then fl else 0) ^^^ pk q fr (k + 1) >>> M))), (3, .long (lN (pk q fr (k + 1) % 2 ^ M))), (8, .int (nI 0)), (7, .int (nI (fr + k))), (0, .ref mo), (1, .int (nI q)), (2, .int (nI fr)), (6, .int (nI k))]) hx hb d_M_answer_96 hl (by decide) rfl (fun ls hl => ?_)
              refine lv_iinc (v := nI (k + 1)) (lv' := [(6, .int (nI (k + 1))), (5, .int (nI ((if ifo = 1 then fl else 0) ^^^ pk q fr (k + 1) >>> M))), (3, .long (lN (pk q fr (k + 1) % 2 ^ M))), (8, .int (nI 0)), (7, .int (nI (fr + k))), (0, .ref mo), (1, .int (nI q)), (2, .int (nI fr))]) hx hb d_M_answer_98 hl (k := 7) rfl (nI_1 k) (by decide) rfl (fun ls hl => ?_)
              refine lv_goto (tgt := 11) hx hb d_M_answer_101 (by decide) ?_
              exact ih (k + 1) _ _ _ (by omega) (by omega) (lv_sub hl [5, 6, 7, 2, 1, 0] rfl) hP hD hS
            · skip
              exact absurd rfl c70
          · skip
            exact absurd rfl c44
        · skip
          have hbt : q.testBit k = true := by rw [xs_bit, decide_eq_true c31]
          have hk9 : fr + k < M + ckb kd M := by have := bit_lt hq2 hbt; omega
          refine lv_iconst (v := nI 1) hx hb d_M_answer_34 (by decide) ?_
          refine lv_goto (tgt := 39) hx hb d_M_answer_35 (by decide) ?_
          refine lv_istore (lv' := [(8, .int (nI 1)), (7, .int (nI (fr + k))), (0, .ref mo), (1, .int (nI q)), (2, .int (nI fr)), (3, .long (lN (pk q fr k % 2 ^ M))), (5, .int (nI ((if ifo = 1 then fl else 0) ^^^ pk q fr k >>> M))), (6, .int (nI k))]) hx hb d_M_answer_39 hl (by decide) rfl (fun ls hl => ?_)
          refine lv_lload_n hx hb d_M_answer_41 rfl (lv_at hl 5 rfl) ?_
          refine lv_iload hx hb d_M_answer_42 (lv_at hl 0 rfl) ?_
          refine lx_if_eq (tgt := 63) hx hb d_M_answer_44 (by decide) (by omega) (fun c44 => ?_) (fun c44 => ?_)
          · skip
            exact absurd c44 (by decide)
          · skip
            refine lv_iload hx hb d_M_answer_47 (lv_at hl 1 rfl) ?_
            refine lv_aload_n hx hb d_M_answer_49 rfl (lv_at hl 2 rfl) ?_
            refine va_get (D := D) (ci := 6) (v := .int (nI M)) (C := R_M) (T := F_M) (N := 21) hx hb hts i_M hown hK hP 0 rfl rfl 1 (by decide) (hts _ m_604) (fun _ h9 => h9) rfl d_M_answer_50 ?_
            refine lx_icmp_ge (tgt := 63) hx hb d_M_answer_53 (by decide) (by omega) (by omega) (fun c53 => ?_) (fun c53 => ?_)
            · skip
              refine lv_lconst (v := lN 0) hx hb d_M_answer_63 (by decide) ?_
              refine lx_lxor (z := lN (pk q fr (k + 1) % 2 ^ M)) hx hb d_M_answer_64 ((xl_xor _ _).trans (by rw [pk_w, if_neg (fun z => (fun q9 => absurd q9 (by omega)) z.2)])) ?_
              refine lv_lstore_n (lv' := [(3, .long (lN (pk q fr (k + 1) % 2 ^ M))), (8, .int (nI 1)), (7, .int (nI (fr + k))), (0, .ref mo), (1, .int (nI q)), (2, .int (nI fr)), (5, .int (nI ((if ifo = 1 then fl else 0) ^^^ pk q fr k >>> M))), (6, .int (nI k))]) hx hb d_M_answer_65 rfl hl (by decide) rfl (fun ls hl => ?_)
              refine lv_iload hx hb d_M_answer_66 (lv_at hl 6 rfl) ?_
              refine lv_iload hx hb d_M_answer_68 (lv_at hl 1 rfl) ?_
              refine lx_if_eq (tgt := 94) hx hb d_M_answer_70 (by decide) (by omega) (fun c70 => ?_) (fun c70 => ?_)
              · skip
                exact absurd c70 (by decide)
              · skip
                refine lv_iload hx hb d_M_answer_73 (lv_at hl 2 rfl) ?_
                refine lv_aload_n hx hb d_M_answer_75 rfl (lv_at hl 3 rfl) ?_
                refine va_get (D := D) (ci := 6) (v := .int (nI M)) (C := R_M) (T := F_M) (N := 21) hx hb hts i_M hown hK hP 0 rfl rfl 1 (by decide) (hts _ m_604) (fun _ h9 => h9) rfl d_M_answer_76 ?_
                refine lx_icmp_lt (tgt := 94) hx hb d_M_answer_79 (by decide) (by omega) (by omega) (fun c79 => ?_) (fun c79 => ?_)
                · skip
                  exact absurd c79 (by omega)
                · skip
                  refine lv_iconst (v := nI 1) hx hb d_M_answer_82 (by decide) ?_
                  refine lv_iload hx hb d_M_answer_83 (lv_at hl 2 rfl) ?_
                  refine lv_aload_n hx hb d_M_answer_85 rfl (lv_at hl 3 rfl) ?_
                  refine va_get (D := D) (ci := 6) (v := .int (nI M)) (C := R_M) (T := F_M) (N := 21) hx hb hts i_M hown hK hP 0 rfl rfl 1 (by decide) (hts _ m_604) (fun _ h9 => h9) rfl d_M_answer_86 ?_
                  refine lx_isub (z := nI (fr + k - M)) hx hb d_M_answer_89 (pk_sub (by omega)) ?_
                  refine lx_ishl (z := nI (1 <<< (fr + k - M))) hx hb d_M_answer_90 (xn_shl 1 (by omega)) ?_
                  refine lv_goto (tgt := 95) hx hb d_M_answer_91 (by decide) ?_
                  refine lx_ixor (z := nI ((if ifo = 1 then fl else 0) ^^^ pk q fr (k + 1) >>> M)) hx hb d_M_answer_95 ((xn_xor _ _).trans (by rw [pk_c, if_pos (show q.testBit k = true ∧ M ≤ fr + k from ⟨hbt, by omega⟩), Nat.xor_assoc])) ?_
                  refine lv_istore (lv' := [(5, .int (nI ((if ifo = 1 then fl else 0) ^^^ pk q fr (k + 1) >>> M))), (3, .long (lN (pk q fr (k + 1) % 2 ^ M))), (8, .int (nI 1)), (7, .int (nI (fr + k))), (0, .ref mo), (1, .int (nI q)), (2, .int (nI fr)), (6, .int (nI k))]) hx hb d_M_answer_96 hl (by decide) rfl (fun ls hl => ?_)
                  refine lv_iinc (v := nI (k + 1)) (lv' := [(6, .int (nI (k + 1))), (5, .int (nI ((if ifo = 1 then fl else 0) ^^^ pk q fr (k + 1) >>> M))), (3, .long (lN (pk q fr (k + 1) % 2 ^ M))), (8, .int (nI 1)), (7, .int (nI (fr + k))), (0, .ref mo), (1, .int (nI q)), (2, .int (nI fr))]) hx hb d_M_answer_98 hl (k := 7) rfl (nI_1 k) (by decide) rfl (fun ls hl => ?_)
                  refine lv_goto (tgt := 11) hx hb d_M_answer_101 (by decide) ?_
                  exact ih (k + 1) _ _ _ (by omega) (by omega) (lv_sub hl [5, 6, 7, 2, 1, 0] rfl) hP hD hS
            · skip
              refine lv_lconst (v := lN 1) hx hb d_M_answer_56 (by decide) ?_
              refine lv_iload hx hb d_M_answer_57 (lv_at hl 1 rfl) ?_
              refine lv_lshl (v := lN (1 <<< (fr + k))) hx hb d_M_answer_59 (xl_shl 1 (by omega)) ?_
              refine lv_goto (tgt := 64) hx hb d_M_answer_60 (by decide) ?_
              refine lx_lxor (z := lN (pk q fr (k + 1) % 2 ^ M)) hx hb d_M_answer_64 ((xl_xor _ _).trans (by rw [pk_w, if_pos ⟨hbt, c53⟩])) ?_
              refine lv_lstore_n (lv' := [(3, .long (lN (pk q fr (k + 1) % 2 ^ M))), (8, .int (nI 1)), (7, .int (nI (fr + k))), (0, .ref mo), (1, .int (nI q)), (2, .int (nI fr)), (5, .int (nI ((if ifo = 1 then fl else 0) ^^^ pk q fr k >>> M))), (6, .int (nI k))]) hx hb d_M_answer_65 rfl hl (by decide) rfl (fun ls hl => ?_)
              refine lv_iload hx hb d_M_answer_66 (lv_at hl 6 rfl) ?_
              refine lv_iload hx hb d_M_answer_68 (lv_at hl 1 rfl) ?_
              refine lx_if_eq (tgt := 94) hx hb d_M_answer_70 (by decide) (by omega) (fun c70 => ?_) (fun c70 => ?_)
              · skip
                exact absurd c70 (by decide)
              · skip
                refine lv_iload hx hb d_M_answer_73 (lv_at hl 2 rfl) ?_
                refine lv_aload_n hx hb d_M_answer_75 rfl (lv_at hl 3 rfl) ?_
                refine va_get (D := D) (ci := 6) (v := .int (nI M)) (C := R_M) (T := F_M) (N := 21) hx hb hts i_M hown hK hP 0 rfl rfl 1 (by decide) (hts _ m_604) (fun _ h9 => h9) rfl d_M_answer_76 ?_
                refine lx_icmp_lt (tgt := 94) hx hb d_M_answer_79 (by decide) (by omega) (by omega) (fun c79 => ?_) (fun c79 => ?_)
                · skip
                  refine lv_iconst (v := nI 0) hx hb d_M_answer_94 (by decide) ?_
                  refine lx_ixor (z := nI ((if ifo = 1 then fl else 0) ^^^ pk q fr (k + 1) >>> M)) hx hb d_M_answer_95 ((xn_xor _ _).trans (by rw [pk_c, if_neg (show ¬ (q.testBit k = true ∧ M ≤ fr + k) from fun z => absurd z.2 (by omega)), Nat.xor_assoc])) ?_
                  refine lv_istore (lv' := [(5, .int (nI ((if ifo = 1 then fl else 0) ^^^ pk q fr (k + 1) >>> M))), (3, .long (lN (pk q fr (k + 1) % 2 ^ M))), (8, .int (nI 1)), (7, .int (nI (fr + k))), (0, .ref mo), (1, .int (nI q)), (2, .int (nI fr)), (6, .int (nI k))]) hx hb d_M_answer_96 hl (by decide) rfl (fun ls hl => ?_)
                  refine lv_iinc (v := nI (k + 1)) (lv' := [(6, .int (nI (k + 1))), (5, .int (nI ((if ifo = 1 then fl else 0) ^^^ pk q fr (k + 1) >>> M))), (3, .long (lN (pk q fr (k + 1) % 2 ^ M))), (8, .int (nI 1)), (7, .int (nI (fr + k))), (0, .ref mo), (1, .int (nI q)), (2, .int (nI fr))]) hx hb d_M_answer_98 hl (k := 7) rfl (nI_1 k) (by decide) rfl (fun ls hl => ?_)
                  refine lv_goto (tgt := 11) hx hb d_M_answer_101 (by decide) ?_
                  exact ih (k + 1) _ _ _ (by omega) (by omega) (lv_sub hl [5, 6, 7, 2, 1, 0] rfl) hP hD hS
                · skip
                  exact absurd c79 (by omega)
  refine lv_lconst (v := lN 0) hx hb d_M_answer_0 (by decide) ?_
  refine lv_lstore_n (lv' := [(3, .long (lN 0)), (0, .ref mo), (1, .int (nI q)), (2, .int (nI fr))]) hx hb d_M_answer_1 rfl hl (by decide) rfl (fun ls hl => ?_)
  refine lv_aload_n hx hb d_M_answer_2 rfl (lv_at hl 1 rfl) ?_
  refine lc_Vi (b := mo) (As := []) (rest := []) ⟨hx, hb, hml, hown, hts⟩ (c_M_folded l D g _ wm mo wi ck fq co sq uq gq kd M ifo fl th mk bi ch9 tu9 ma wo9 fw fc ff fco fsq fu fg hM0 hM hif) (kV 0 hts m_703 m_700 m_702 m_16 m_40 (by decide +kernel) ⟨Nat.le_of_ble_eq_true rfl, Nat.le_of_ble_eq_true rfl⟩) (va_recv hK hP (ci := 6) (q0 := 0) rfl rfl) hKK hP hD hS hA hl.1 rfl rfl (Nat.le_of_ble_eq_true rfl) d_M_answer_3 ⟨Nat.le_of_ble_eq_true rfl, Nat.le_of_ble_eq_true rfl⟩ (fun r1 u1 H locs e1 hP hD hS => ?_)
  obtain rfl : r1 = nI (if ifo = 1 then fl else 0) := e1
  refine lv_istore (lv' := [(5, .int (nI (if ifo = 1 then fl else 0))), (3, .long (lN 0)), (0, .ref mo), (1, .int (nI q)), (2, .int (nI fr))]) hx hb d_M_answer_6 hl (by decide) rfl (fun ls hl => ?_)
  refine lv_iconst (v := nI 0) hx hb d_M_answer_8 (by decide) ?_
  refine lv_istore (lv' := [(6, .int (nI 0)), (5, .int (nI (if ifo = 1 then fl else 0))), (3, .long (lN 0)), (0, .ref mo), (1, .int (nI q)), (2, .int (nI fr))]) hx hb d_M_answer_9 hl (by decide) rfl (fun ls hl => ?_)
  have hl : lv_has ls 9 [(6, .int (nI 0)), (5, .int (nI ((if ifo = 1 then fl else 0) ^^^ pk q fr 0 >>> M))), (3, .long (lN (pk q fr 0 % 2 ^ M))), (0, .ref mo), (1, .int (nI q)), (2, .int (nI fr))] := by rw [pk_0, Nat.zero_mod, Nat.zero_shiftRight, Nat.xor_zero]; exact hl
  exact lp11 8 0 _ _ _ (by omega) (by omega) (lv_sub hl [3, 4, 5, 2, 1, 0] rfl) hP hD hS
set_option maxHeartbeats 4000000 in
set_option maxRecDepth 100000 in
theorem c_M_bursts (l : Launch) (D : va_G) (g : Nat → ClassId) (sz : Nat) (wm : va_W) (mo wi ck fq co sq uq gq kd M ifo fl : Nat) (th mk bi ch9 tu9 : Int32) (ma wo9 : Int64) (fw fc ff fco fsq fu fg : Nat → Int32) (hM0 : 0 < M) (hM : M ≤ 57) (b : Nat) (hb1 : 1 ≤ b) (hb6 : b ≤ 6) (hif : ifo ≤ 1) (hfl : fl < 2 ^ ckb kd M) (hkd : kd ≤ 3) (hmw : MWF kd M fw fc ff fco) : Met l y_M_bursts w_M_bursts rm_M_bursts (va_Pc [.ref mo, .int (nI b)] (pP D (tyl g) ((mo, .inr (6, [.int (th), .int (nI M), .int (nI kd), .int (nI (ckb kd M)), .int (nI (nk kd)), .ref wi, .ref ck, .ref fq, .ref co, .int (nI (grsK kd M)), .int (nI ifo), .int (nI fl), .long (ma), .int (mk), .int (bi), .long (wo9), .int (ch9), .int (tu9), .ref sq, .ref uq, .ref gq])) :: (wi, .inl (g 0, 4, .inl (fw))) :: (ck, .inl (g 0, 4, .inl (fc))) :: (fq, .inl (g 0, 4, .inl (ff))) :: (co, .inl (g 0, 228, .inl (fco))) :: (sq, .inl (g 0, 8, .inl (fsq))) :: (uq, .inl (g 2, 128, .inl (fu))) :: (gq, .inl (g 0, 7, .inl (fg))) :: wm) sz)) (va_Qi (fun (r : Int32) (u : (Int64 × Int32 × Int32)) => (r = nI 1 ∧ BM kd M b) ∨ (r = nI 0 ∧ ¬ BM kd M b)) (fun u => qB D (va_A ((mo, .inr (6, [.int (th), .int (nI M), .int (nI kd), .int (nI (ckb kd M)), .int (nI (nk kd)), .ref wi, .ref ck, .ref fq, .ref co, .int (nI (grsK kd M)), .int (nI ifo), .int (nI fl), .long (ma), .int (mk), .int (bi), .long (wo9), .int (ch9), .int (tu9), .ref sq, .ref uq, .ref gq])) :: (wi, .inl (g 0, 4, .inl (fw))) :: (ck, .inl (g 0, 4, .inl (fc))) :: (fq, .inl (g 0, 4, .inl (ff))) :: (co, .inl (g 0, 228, .inl (fco))) :: (sq, .inl (g 0, 8, .inl (fsq))) :: (uq, .inl (g 2, 128, .inl (fu))) :: (gq, .inl (g 0, 7, .inl (fg))) :: wm) sz) ((mo, .inr (6, [.int (nI 0), .int (nI M), .int (nI kd), .int (nI (ckb kd M)), .int (nI (nk kd)), .ref wi, .ref ck, .ref fq, .ref co, .int (nI (grsK kd M)), .int (nI ifo), .int (nI fl), .long (u.1), .int (u.2.1), .int (u.2.2), .long (wo9), .int (ch9), .int (tu9), .ref sq, .ref uq, .ref gq])) :: (wi, .inl (g 0, 4, .inl (fw))) :: (ck, .inl (g 0, 4, .inl (fc))) :: (fq, .inl (g 0, 4, .inl (ff))) :: (co, .inl (g 0, 228, .inl (fco))) :: (sq, .inl (g 0, 8, .inl (fsq))) :: (uq, .inl (g 2, 128, .inl (fu))) :: (gq, .inl (g 0, 7, .inl (fg))) :: wm)) (va_A ((mo, .inr (6, [.int (th), .int (nI M), .int (nI kd), .int (nI (ckb kd M)), .int (nI (nk kd)), .ref wi, .ref ck, .ref fq, .ref co, .int (nI (grsK kd M)), .int (nI ifo), .int (nI fl), .long (ma), .int (mk), .int (bi), .long (wo9), .int (ch9), .int (tu9), .ref sq, .ref uq, .ref gq])) :: (wi, .inl (g 0, 4, .inl (fw))) :: (ck, .inl (g 0, 4, .inl (fc))) :: (fq, .inl (g 0, 4, .inl (ff))) :: (co, .inl (g 0, 228, .inl (fco))) :: (sq, .inl (g 0, 8, .inl (fsq))) :: (uq, .inl (g 2, 128, .inl (fu))) :: (gq, .inl (g 0, 7, .inl (fg))) :: wm) sz)) 0 0 (va_A ((mo, .inr (6, [.int (th), .int (nI M), .int (nI kd), .int (nI (ckb kd M)), .int (nI (nk kd)), .ref wi, .ref ck, .ref fq, .ref co, .int (nI (grsK kd M)), .int (nI ifo), .int (nI fl), .long (ma), .int (mk), .int (bi), .long (wo9), .int (ch9), .int (tu9), .ref sq, .ref uq, .ref gq])) :: (wi, .inl (g 0, 4, .inl (fw))) :: (ck, .inl (g 0, 4, .inl (fc))) :: (fq, .inl (g 0, 4, .inl (ff))) :: (co, .inl (g 0, 228, .inl (fco))) :: (sq, .inl (g 0, 8, .inl (fsq))) :: (uq, .inl (g 2, 128, .inl (fu))) :: (gq, .inl (g 0, 7, .inl (fg))) :: wm) sz) := by
  refine Met.ofW (cc := b_M_bursts) (maxL := 6) (ret := (some .boolean)) (by decide +kernel) rfl ?_
  intro p e s m args below meth c s₁ Bq hml hv
  have hx := Bq.exec
  have hb := Bq.bytes
  have hr := Bq.returns
  have hts : ∀ w ∈ wA, w.before args s = true := fun w h => atoms_spec (ws := w_M_bursts) Bq.pre w (List.mem_cons_of_mem _ h)
  have hown : s.vm.findClass R_M = some m.cls := findClass_of_methodNamed Bq.named
  have hlocks := Bq.notSynchronized
  obtain ⟨rfl, hsz, hP, hKK, hD0⟩ := hv
  have hK := hKK.1
  subst hsz
  have hD := hD0.self (sz := s.heap.size)
  generalize hAe : va_A ((mo, .inr (6, [.int (th), .int (nI M), .int (nI kd), .int (nI (ckb kd M)), .int (nI (nk kd)), .ref wi, .ref ck, .ref fq, .ref co, .int (nI (grsK kd M)), .int (nI ifo), .int (nI fl), .long (ma), .int (mk), .int (bi), .long (wo9), .int (ch9), .int (tu9), .ref sq, .ref uq, .ref gq])) :: (wi, .inl (g 0, 4, .inl (fw))) :: (ck, .inl (g 0, 4, .inl (fc))) :: (fq, .inl (g 0, 4, .inl (ff))) :: (co, .inl (g 0, 228, .inl (fco))) :: (sq, .inl (g 0, 8, .inl (fsq))) :: (uq, .inl (g 2, 128, .inl (fu))) :: (gq, .inl (g 0, 7, .inl (fg))) :: wm) s.heap.size = A at hD ⊢
  have hA : ∀ q : Nat, s.heap.size ≤ q → A q := fun q h => by rw [← hAe]; exact Or.inr h
  have hS : va_S A s.heap s.heap [] := va_S.rf
  have hl := lv_entry ([.ref mo, .int (nI b)]) (n := 6) (Nat.le_of_ble_eq_true rfl)
  rw [lg_entry_eq]
  generalize (lg_sl ([.ref mo, .int (nI b)]) ++ List.replicate (6 - (lg_sl ([.ref mo, .int (nI b)])).length) Slot.unset).toArray = ls at hl ⊢
  have hl : lv_has ls 6 [(0, .ref mo), (1, .int (nI b))] := hl
  generalize hQ : MQ below (va_Qi (fun (r : Int32) (u : (Int64 × Int32 × Int32)) => (r = nI 1 ∧ BM kd M b) ∨ (r = nI 0 ∧ ¬ BM kd M b)) (fun u => qB D (A) ((mo, .inr (6, [.int (nI 0), .int (nI M), .int (nI kd), .int (nI (ckb kd M)), .int (nI (nk kd)), .ref wi, .ref ck, .ref fq, .ref co, .int (nI (grsK kd M)), .int (nI ifo), .int (nI fl), .long (u.1), .int (u.2.1), .int (u.2.2), .long (wo9), .int (ch9), .int (tu9), .ref sq, .ref uq, .ref gq])) :: (wi, .inl (g 0, 4, .inl (fw))) :: (ck, .inl (g 0, 4, .inl (fc))) :: (fq, .inl (g 0, 4, .inl (ff))) :: (co, .inl (g 0, 228, .inl (fco))) :: (sq, .inl (g 0, 8, .inl (fsq))) :: (uq, .inl (g 2, 128, .inl (fu))) :: (gq, .inl (g 0, 7, .inl (fg))) :: wm)) (A)) [.ref mo, .int (nI b)].toArray s 0 0 A = Q
  have hck := ckb_le kd M
  have h64 : 2 ^ b ≤ 2 ^ 6 := Nat.pow_le_pow_right (by decide) hb6
  have hev : 2 ^ b = 2 * 2 ^ (b - 1) := by rw [← Nat.pow_succ']; congr 1; omega
  have hin9 : (if nI b < nI 1 then 0 else if nI 6 < nI b then 0 else 1 : Nat) = 1 := by rw [if_neg (fun q => absurd ((nI_ltI (by omega) (by decide)).mp q) (by omega)), if_neg (fun q => absurd ((nI_ltI (by decide) (by omega)).mp q) (by omega))]
  refine lv_aload_n hx hb d_M_bursts_0 rfl (lv_at hl 0 rfl) ?_
  refine lv_iload_n hx hb d_M_bursts_1 rfl (lv_at hl 1 rfl) ?_
  refine lv_iconst (v := nI 1) hx hb d_M_bursts_2 (by decide) ?_
  refine lv_bipush (v := nI 6) hx hb d_M_bursts_3 (by decide) ?_
  refine lc_Si (As := [.int (nI b), .int (nI 1), .int (nI 6)]) (rest := [.ref mo]) ⟨hx, hb, hml, hown, hts⟩ (c_M_inR l D g _ _ (nI b) (nI 1) (nI 6)) (kS 3 hts m_682 m_680 m_681 m_40 (by decide +kernel) ⟨Nat.le_of_ble_eq_true rfl, Nat.le_of_ble_eq_true rfl⟩) hKK hP hD hS hA hl.1 rfl rfl (Nat.le_of_ble_eq_true rfl) d_M_bursts_5 ⟨Nat.le_of_ble_eq_true rfl, Nat.le_of_ble_eq_true rfl⟩ (fun r1 u1 H locs e1 hP hD hS => ?_)
  obtain rfl : r1 = nI 1 := e1.trans (by rw [hin9])
  refine lx_if_ne (tgt := 15) hx hb d_M_bursts_8 (by decide) (by omega) (fun c8 => ?_) (fun c8 => ?_)
  · skip
    refine lv_iconst (v := nI 0) hx hb d_M_bursts_15 (by decide) ?_
    refine lv_iconst (v := nI 0) hx hb d_M_bursts_16 (by decide) ?_
    refine lc_Vi (b := mo) (As := [.int (nI 0), .int (nI 0)]) (rest := []) ⟨hx, hb, hml, hown, hts⟩ (c_M_fails l D g _ wm mo wi ck fq co sq uq gq kd M ifo fl th mk bi ch9 tu9 ma wo9 fw fc ff fco fsq fu fg hM0 hM 0 0 (by decide) (by decide)) (kV 2 hts m_686 m_683 m_685 m_15 m_40 (by decide +kernel) ⟨Nat.le_of_ble_eq_true rfl, Nat.le_of_ble_eq_true rfl⟩) (va_recv hK hP (ci := 6) (q0 := 0) rfl rfl) hKK hP hD hS hA hl.1 rfl rfl (Nat.le_of_ble_eq_true rfl) d_M_bursts_17 ⟨Nat.le_of_ble_eq_true rfl, Nat.le_of_ble_eq_true rfl⟩ (fun rf uf H locs ef hP hD hS => ?_)
    have hP : va_P D vwCl ((mo, .inr (6, [.int (nI 0), .int (nI M), .int (nI kd), .int (nI (ckb kd M)), .int (nI (nk kd)), .ref wi, .ref ck, .ref fq, .ref co, .int (nI (grsK kd M)), .int (nI ifo), .int (nI fl), .long (ma), .int (mk), .int (bi), .long (wo9), .int (ch9), .int (tu9), .ref sq, .ref uq, .ref gq])) :: (wi, .inl (g 0, 4, .inl (fw))) :: (ck, .inl (g 0, 4, .inl (fc))) :: (fq, .inl (g 0, 4, .inl (ff))) :: (co, .inl (g 0, 228, .inl (fco))) :: (sq, .inl (g 0, 8, .inl (fsq))) :: (uq, .inl (g 2, 128, .inl (fu))) :: (gq, .inl (g 0, 7, .inl (fg))) :: wm) H := hP
    have hD : va_D A ((mo, .inr (6, [.int (nI 0), .int (nI M), .int (nI kd), .int (nI (ckb kd M)), .int (nI (nk kd)), .ref wi, .ref ck, .ref fq, .ref co, .int (nI (grsK kd M)), .int (nI ifo), .int (nI fl), .long (ma), .int (mk), .int (bi), .long (wo9), .int (ch9), .int (tu9), .ref sq, .ref uq, .ref gq])) :: (wi, .inl (g 0, 4, .inl (fw))) :: (ck, .inl (g 0, 4, .inl (fc))) :: (fq, .inl (g 0, 4, .inl (ff))) :: (co, .inl (g 0, 228, .inl (fco))) :: (sq, .inl (g 0, 8, .inl (fsq))) :: (uq, .inl (g 2, 128, .inl (fu))) :: (gq, .inl (g 0, 7, .inl (fg))) :: wm) := hD
    obtain rfl : rf = nI 0 := ef
    refine lx_if_eq (tgt := 25) hx hb d_M_bursts_20 (by decide) (by omega) (fun c20 => ?_) (fun c20 => ?_)
    · skip
      refine lv_iconst (v := nI 1) hx hb d_M_bursts_25 (by decide) ?_
      refine lv_istore_n (lv' := [(2, .int (nI 1)), (0, .ref mo), (1, .int (nI b))]) hx hb d_M_bursts_26 rfl hl (by decide) rfl (fun ls hl => ?_)
      refine lv_iconst (v := nI 1) hx hb d_M_bursts_27 (by decide) ?_
      refine lv_istore_n (lv' := [(3, .int (nI 1)), (2, .int (nI 1)), (0, .ref mo), (1, .int (nI b))]) hx hb d_M_bursts_28 rfl hl (by decide) rfl (fun ls hl => ?_)
      have lp29 : ∀ (n : Nat) (i z : Nat) (z1 : Int64) (z2 z3 : Int32) (ls : Array Slot) (H : Heap) (locs : List Loc), (65 ≤ i + n) → (2 * i ≤ 2 ^ b) → (z ≤ 1) → (z = 1 ↔ BQ kd M (2 * i + 1)) → lv_has ls 6 [(0, .ref mo), (1, .int (nI b)), (2, .int (nI z)), (3, .int (nI (2 * i + 1)))] → va_P D vwCl ((mo, .inr (6, [.int (nI 0), .int (nI M), .int (nI kd), .int (nI (ckb kd M)), .int (nI (nk kd)), .ref wi, .ref ck, .ref fq, .ref co, .int (nI (grsK kd M)), .int (nI ifo), .int (nI fl), .long (z1), .int (z2), .int (z3), .long (wo9), .int (ch9), .int (tu9), .ref sq, .ref uq, .ref gq])) :: (wi, .inl (g 0, 4, .inl (fw))) :: (ck, .inl (g 0, 4, .inl (fc))) :: (fq, .inl (g 0, 4, .inl (ff))) :: (co, .inl (g 0, 228, .inl (fco))) :: (sq, .inl (g 0, 8, .inl (fsq))) :: (uq, .inl (g 2, 128, .inl (fu))) :: (gq, .inl (g 0, 7, .inl (fg))) :: wm) H → va_D A ((mo, .inr (6, [.int (nI 0), .int (nI M), .int (nI kd), .int (nI (ckb kd M)), .int (nI (nk kd)), .ref wi, .ref ck, .ref fq, .ref co, .int (nI (grsK kd M)), .int (nI ifo), .int (nI fl), .long (z1), .int (z2), .int (z3), .long (wo9), .int (ch9), .int (tu9), .ref sq, .ref uq, .ref gq])) :: (wi, .inl (g 0, 4, .inl (fw))) :: (ck, .inl (g 0, 4, .inl (fc))) :: (fq, .inl (g 0, 4, .inl (ff))) :: (co, .inl (g 0, 228, .inl (fco))) :: (sq, .inl (g 0, 8, .inl (fsq))) :: (uq, .inl (g 2, 128, .inl (fu))) :: (gq, .inl (g 0, 7, .inl (fg))) :: wm) → va_S A s.heap H locs → W p l e (headSpec w_M_bursts rm_M_bursts).room s m [.ref mo, .int (nI b)].toArray below meth c H locs 0 0 Q (F0 m 29 ls []) := by
        intro n
        induction n with
        | zero => intro i z z1 z2 z3 ls H locs hfu hi hz1 hz _ _ _ _; exact absurd hfu (by omega)
        | succ n ih =>
          intro i z z1 z2 z3 ls H locs hfu hi hz1 hz hl hP hD hS
          refine lv_iload_n hx hb d_M_bursts_29 rfl (lv_at hl 3 rfl) ?_
          refine lv_iconst (v := nI 1) hx hb d_M_bursts_30 (by decide) ?_
          refine lv_iload_n hx hb d_M_bursts_31 rfl (lv_at hl 1 rfl) ?_
          refine lx_ishl (z := nI (2 ^ b)) hx hb d_M_bursts_32 ((xn_shl 1 (by omega)).trans (by rw [Nat.one_shiftLeft])) ?_
          refine lx_icmp_ge (tgt := 132) hx hb d_M_bursts_33 (by decide) (by omega) (by omega) (fun c33 => ?_) (fun c33 => ?_)
          · skip
            have hbe := BQ_end (kd := kd) (M := M) hb1 c33 (by omega)
            refine lv_iload_n hx hb d_M_bursts_132 rfl (lv_at hl 2 rfl) ?_
            rw [← hQ]
            refine W.zret (v := nI z) (ty := .boolean) hx hb hr (nar01 hz1) ?_ hS.2.2 d_M_bursts_133
            exact fun t ht hW => ⟨⟨nI z, (z1, z2, z3), rfl, (by rcases (show z = 0 ∨ z = 1 by omega) with rfl | rfl; exact Or.inr ⟨rfl, fun q => absurd (hz.mpr (hbe.mpr q)) (by decide)⟩; exact Or.inl ⟨rfl, hbe.mp (hz.mp rfl)⟩), by rw [ht]; exact hP, hD⟩, hS.F ht⟩
          · skip
            have iho := ih
            refine lv_iconst (v := nI 0) hx hb d_M_bursts_36 (by decide) ?_
            refine lv_istore (lv' := [(4, .int (nI 0)), (0, .ref mo), (1, .int (nI b)), (2, .int (nI z)), (3, .int (nI (2 * i + 1)))]) hx hb d_M_bursts_37 hl (by decide) rfl (fun ls hl => ?_)
            have lp39 : ∀ (n : Nat) (fr z : Nat) (z1 : Int64) (z2 z3 : Int32) (ls : Array Slot) (H : Heap) (locs : List Loc), (M + ckb kd M + 1 ≤ fr + n) → (fr ≤ M + ckb kd M) → (z ≤ 1) → (z = 1 ↔ (BQ kd M (2 * i + 1) ∧ BR kd M (2 * i + 1) fr)) → lv_has ls 6 [(0, .ref mo), (1, .int (nI b)), (2, .int (nI z)), (3, .int (nI (2 * i + 1))), (4, .int (nI fr))] → va_P D vwCl ((mo, .inr (6, [.int (nI 0), .int (nI M), .int (nI kd), .int (nI (ckb kd M)), .int (nI (nk kd)), .ref wi, .ref ck, .ref fq, .ref co, .int (nI (grsK kd M)), .int (nI ifo), .int (nI fl), .long (z1), .int (z2), .int (z3), .long (wo9), .int (ch9), .int (tu9), .ref sq, .ref uq, .ref gq])) :: (wi, .inl (g 0, 4, .inl (fw))) :: (ck, .inl (g 0, 4, .inl (fc))) :: (fq, .inl (g 0, 4, .inl (ff))) :: (co, .inl (g 0, 228, .inl (fco))) :: (sq, .inl (g 0, 8, .inl (fsq))) :: (uq, .inl (g 2, 128, .inl (fu))) :: (gq, .inl (g 0, 7, .inl (fg))) :: wm) H → va_D A ((mo, .inr (6, [.int (nI 0), .int (nI M), .int (nI kd), .int (nI (ckb kd M)), .int (nI (nk kd)), .ref wi, .ref ck, .ref fq, .ref co, .int (nI (grsK kd M)), .int (nI ifo), .int (nI fl), .long (z1), .int (z2), .int (z3), .long (wo9), .int (ch9), .int (tu9), .ref sq, .ref uq, .ref gq])) :: (wi, .inl (g 0, 4, .inl (fw))) :: (ck, .inl (g 0, 4, .inl (fc))) :: (fq, .inl (g 0, 4, .inl (ff))) :: (co, .inl (g 0, 228, .inl (fco))) :: (sq, .inl (g 0, 8, .inl (fsq))) :: (uq, .inl (g 2, 128, .inl (fu))) :: (gq, .inl (g 0, 7, .inl (fg))) :: wm) → va_S A s.heap H locs → W p l e (headSpec w_M_bursts rm_M_bursts).room s m [.ref mo, .int (nI b)].toArray below meth c H locs 0 0 Q (F0 m 39 ls []) := by
              intro n
              induction n with
              | zero => intro fr z z1 z2 z3 ls H locs hfu hfr hz1 hz _ _ _ _; exact absurd hfu (by omega)
              | succ n ih =>
                intro fr z z1 z2 z3 ls H locs hfu hfr hz1 hz hl hP hD hS
                refine lv_iload hx hb d_M_bursts_39 (lv_at hl 4 rfl) ?_
                refine lv_aload_n hx hb d_M_bursts_41 rfl (lv_at hl 0 rfl) ?_
                refine va_get (D := D) (ci := 6) (v := .int (nI M)) (C := R_M) (T := F_M) (N := 21) hx hb hts i_M hown hK hP 0 rfl rfl 1 (by decide) (hts _ m_604) (fun _ h9 => h9) rfl d_M_bursts_42 ?_
                refine lv_aload_n hx hb d_M_bursts_45 rfl (lv_at hl 0 rfl) ?_
                refine va_get (D := D) (ci := 6) (v := .int (nI (ckb kd M))) (C := R_M) (T := F_M) (N := 21) hx hb hts i_M hown hK hP 0 rfl rfl 3 (by decide) (hts _ m_606) (fun _ h9 => h9) rfl d_M_bursts_46 ?_
                refine lx_iadd (z := nI (M + (ckb kd M))) hx hb d_M_bursts_49 (nI_add M (ckb kd M)) ?_
                refine lx_icmp_ge (tgt := 126) hx hb d_M_bursts_50 (by decide) (by omega) (by omega) (fun c50 => ?_) (fun c50 => ?_)
                · skip
                  have efr : fr = M + ckb kd M := by omega
                  rw [efr] at hz
                  refine lv_iinc (v := nI (2 * (i + 1) + 1)) (lv' := [(3, .int (nI (2 * (i + 1) + 1))), (0, .ref mo), (1, .int (nI b)), (2, .int (nI z)), (4, .int (nI fr))]) hx hb d_M_bursts_126 hl (k := 3) rfl (nI_add _ _) (by decide) rfl (fun ls hl => ?_)
                  refine lv_goto (tgt := 29) hx hb d_M_bursts_129 (by decide) ?_
                  exact iho (i + 1) z z1 z2 z3 _ _ _ (by omega) (by omega) hz1 (hz.trans BQ_s.symm) (lv_sub hl [1, 2, 3, 0] rfl) hP hD hS
                · skip
                  have j92 : ∀ (ft : Nat) (ls : Array Slot) (H : Heap) (locs : List Loc), (ft ≤ 1) → (ft = 1 ↔ 2 * i + 1 < 2 ^ (M + ckb kd M - fr)) → lv_has ls 6 [(0, .ref mo), (1, .int (nI b)), (2, .int (nI z)), (3, .int (nI (2 * i + 1))), (4, .int (nI fr))] → va_P D vwCl ((mo, .inr (6, [.int (nI 0), .int (nI M), .int (nI kd), .int (nI (ckb kd M)), .int (nI (nk kd)), .ref wi, .ref ck, .ref fq, .ref co, .int (nI (grsK kd M)), .int (nI ifo), .int (nI fl), .long (z1), .int (z2), .int (z3), .long (wo9), .int (ch9), .int (tu9), .ref sq, .ref uq, .ref gq])) :: (wi, .inl (g 0, 4, .inl (fw))) :: (ck, .inl (g 0, 4, .inl (fc))) :: (fq, .inl (g 0, 4, .inl (ff))) :: (co, .inl (g 0, 228, .inl (fco))) :: (sq, .inl (g 0, 8, .inl (fsq))) :: (uq, .inl (g 2, 128, .inl (fu))) :: (gq, .inl (g 0, 7, .inl (fg))) :: wm) H → va_D A ((mo, .inr (6, [.int (nI 0), .int (nI M), .int (nI kd), .int (nI (ckb kd M)), .int (nI (nk kd)), .ref wi, .ref ck, .ref fq, .ref co, .int (nI (grsK kd M)), .int (nI ifo), .int (nI fl), .long (z1), .int (z2), .int (z3), .long (wo9), .int (ch9), .int (tu9), .ref sq, .ref uq, .ref gq])) :: (wi, .inl (g 0, 4, .inl (fw))) :: (ck, .inl (g 0, 4, .inl (fc))) :: (fq, .inl (g 0, 4, .inl (ff))) :: (co, .inl (g 0, 228, .inl (fco))) :: (sq, .inl (g 0, 8, .inl (fsq))) :: (uq, .inl (g 2, 128, .inl (fu))) :: (gq, .inl (g 0, 7, .inl (fg))) :: wm) → va_S A s.heap H locs → W p l e (headSpec w_M_bursts rm_M_bursts).room s m [.ref mo, .int (nI b)].toArray below meth c H locs 0 0 Q (F0 m 92 ls [.int (nI ft)]) := by
                    intro ft ls H locs hf1 hft hl hP hD hS
                    refine lv_istore (lv' := [(5, .int (nI ft)), (0, .ref mo), (1, .int (nI b)), (2, .int (nI z)), (3, .int (nI (2 * i + 1))), (4, .int (nI fr))]) hx hb d_M_bursts_92 hl (by decide) rfl (fun ls hl => ?_)
                    refine lv_iload_n hx hb d_M_bursts_94 rfl (lv_at hl 3 rfl) ?_
                    refine lx_if_eq (tgt := 118) hx hb d_M_bursts_95 (by decide) (by omega) (fun c95 => ?_) (fun c95 => ?_)
                    · skip
                      refine lv_iconst (v := nI 0) hx hb d_M_bursts_118 (by decide) ?_
                      refine lv_istore_n (lv' := [(2, .int (nI 0)), (5, .int (nI ft)), (0, .ref mo), (1, .int (nI b)), (3, .int (nI (2 * i + 1))), (4, .int (nI fr))]) hx hb d_M_bursts_119 rfl hl (by decide) rfl (fun ls hl => ?_)
                      refine lv_iinc (v := nI (fr + 1)) (lv' := [(4, .int (nI (fr + 1))), (2, .int (nI 0)), (5, .int (nI ft)), (0, .ref mo), (1, .int (nI b)), (3, .int (nI (2 * i + 1)))]) hx hb d_M_bursts_120 hl (k := 5) rfl (nI_1 fr) (by decide) rfl (fun ls hl => ?_)
                      refine lv_goto (tgt := 39) hx hb d_M_bursts_123 (by decide) ?_
                      exact ih (fr + 1) 0 z1 z2 z3 _ _ _ (by omega) (by omega) (by omega) (⟨fun q => absurd q (by decide), fun q => absurd (hz.mpr ⟨q.1, (BR_s.mp q.2).1⟩) (by omega)⟩) (lv_sub hl [3, 4, 1, 5, 0] rfl) hP hD hS
                    · skip
                      obtain rfl : z = 1 := by omega
                      refine lv_iload hx hb d_M_bursts_98 (lv_at hl 0 rfl) ?_
                      refine lx_if_eq (tgt := 114) hx hb d_M_bursts_100 (by decide) (by omega) (fun c100 => ?_) (fun c100 => ?_)
                      · skip
                        refine lv_iconst (v := nI 1) hx hb d_M_bursts_114 (by decide) ?_
                        refine lv_goto (tgt := 119) hx hb d_M_bursts_115 (by decide) ?_
                        refine lv_istore_n (lv' := [(2, .int (nI 1)), (5, .int (nI ft)), (0, .ref mo), (1, .int (nI b)), (3, .int (nI (2 * i + 1))), (4, .int (nI fr))]) hx hb d_M_bursts_119 rfl hl (by decide) rfl (fun ls hl => ?_)
                        refine lv_iinc (v := nI (fr + 1)) (lv' := [(4, .int (nI (fr + 1))), (2, .int (nI 1)), (5, .int (nI ft)), (0, .ref mo), (1, .int (nI b)), (3, .int (nI (2 * i + 1)))]) hx hb d_M_bursts_120 hl (k := 5) rfl (nI_1 fr) (by decide) rfl (fun ls hl => ?_)
                        refine lv_goto (tgt := 39) hx hb d_M_bursts_123 (by decide) ?_
                        exact ih (fr + 1) 1 z1 z2 z3 _ _ _ (by omega) (by omega) (by omega) (⟨fun _ => ⟨(hz.mp rfl).1, BR_s.mpr ⟨(hz.mp rfl).2, fun q => absurd (hft.mpr q) (by omega)⟩⟩, fun _ => rfl⟩) (lv_sub hl [3, 4, 1, 5, 0] rfl) hP hD hS
                      · skip
                        have hfi := hft.mp (by omega)
                        have hpl := patA_lt (kd := kd) (fr := fr) hM0 hM hfi (by omega)
                        refine lv_aload_n hx hb d_M_bursts_103 rfl (lv_at hl 1 rfl) ?_
                        refine lv_iload_n hx hb d_M_bursts_104 rfl (lv_at hl 4 rfl) ?_
                        refine lv_iload hx hb d_M_bursts_105 (lv_at hl 5 rfl) ?_
                        refine lc_Vi (b := mo) (As := [.int (nI (2 * i + 1)), .int (nI fr)]) (rest := []) ⟨hx, hb, hml, hown, hts⟩ (c_M_answer l D g _ wm mo wi ck fq co sq uq gq kd M ifo fl (nI 0) z2 z3 ch9 tu9 z1 wo9 fw fc ff fco fsq fu fg hM0 hM (2 * i + 1) fr (by omega) (by omega) hfi hif hfl hkd hmw) (kV 2 hts m_790 m_787 m_789 m_28 m_40 (by decide +kernel) ⟨Nat.le_of_ble_eq_true rfl, Nat.le_of_ble_eq_true rfl⟩) (va_recv hK hP (ci := 6) (q0 := 0) rfl rfl) hKK hP hD hS hA hl.1 rfl rfl (Nat.le_of_ble_eq_true rfl) d_M_bursts_107 ⟨Nat.le_of_ble_eq_true rfl, Nat.le_of_ble_eq_true rfl⟩ (fun rr u H locs er hP hD hS => ?_)
                        have hP : va_P D vwCl ((mo, .inr (6, [.int (nI 0), .int (nI M), .int (nI kd), .int (nI (ckb kd M)), .int (nI (nk kd)), .ref wi, .ref ck, .ref fq, .ref co, .int (nI (grsK kd M)), .int (nI ifo), .int (nI fl), .long (u.1), .int (u.2.1), .int (u.2.2), .long (wo9), .int (ch9), .int (tu9), .ref sq, .ref uq, .ref gq])) :: (wi, .inl (g 0, 4, .inl (fw))) :: (ck, .inl (g 0, 4, .inl (fc))) :: (fq, .inl (g 0, 4, .inl (ff))) :: (co, .inl (g 0, 228, .inl (fco))) :: (sq, .inl (g 0, 8, .inl (fsq))) :: (uq, .inl (g 2, 128, .inl (fu))) :: (gq, .inl (g 0, 7, .inl (fg))) :: wm) H := hP
                        have hD : va_D A ((mo, .inr (6, [.int (nI 0), .int (nI M), .int (nI kd), .int (nI (ckb kd M)), .int (nI (nk kd)), .ref wi, .ref ck, .ref fq, .ref co, .int (nI (grsK kd M)), .int (nI ifo), .int (nI fl), .long (u.1), .int (u.2.1), .int (u.2.2), .long (wo9), .int (ch9), .int (tu9), .ref sq, .ref uq, .ref gq])) :: (wi, .inl (g 0, 4, .inl (fw))) :: (ck, .inl (g 0, 4, .inl (fc))) :: (fq, .inl (g 0, 4, .inl (ff))) :: (co, .inl (g 0, 228, .inl (fco))) :: (sq, .inl (g 0, 8, .inl (fsq))) :: (uq, .inl (g 2, 128, .inl (fu))) :: (gq, .inl (g 0, 7, .inl (fg))) :: wm) := hD
                        obtain rfl : rr = nI (patA kd M (2 * i + 1) fr) := er
                        refine lv_iconst (v := nI 1) hx hb d_M_bursts_110 (by decide) ?_
                        refine lx_icmp_ne (tgt := 118) hx hb d_M_bursts_111 (by decide) (by omega) (by omega) (fun c111 => ?_) (fun c111 => ?_)
                        · skip
                          refine lv_iconst (v := nI 0) hx hb d_M_bursts_118 (by decide) ?_
                          refine lv_istore_n (lv' := [(2, .int (nI 0)), (5, .int (nI ft)), (0, .ref mo), (1, .int (nI b)), (3, .int (nI (2 * i + 1))), (4, .int (nI fr))]) hx hb d_M_bursts_119 rfl hl (by decide) rfl (fun ls hl => ?_)
                          refine lv_iinc (v := nI (fr + 1)) (lv' := [(4, .int (nI (fr + 1))), (2, .int (nI 0)), (5, .int (nI ft)), (0, .ref mo), (1, .int (nI b)), (3, .int (nI (2 * i + 1)))]) hx hb d_M_bursts_120 hl (k := 5) rfl (nI_1 fr) (by decide) rfl (fun ls hl => ?_)
                          refine lv_goto (tgt := 39) hx hb d_M_bursts_123 (by decide) ?_
                          exact ih (fr + 1) 0 u.1 u.2.1 u.2.2 _ _ _ (by omega) (by omega) (by omega) (⟨fun q => absurd q (by decide), fun q => absurd ((BR_s.mp q.2).2 hfi) c111⟩) (lv_sub hl [3, 4, 1, 5, 0] rfl) hP hD hS
                        · skip
                          refine lv_iconst (v := nI 1) hx hb d_M_bursts_114 (by decide) ?_
                          refine lv_goto (tgt := 119) hx hb d_M_bursts_115 (by decide) ?_
                          refine lv_istore_n (lv' := [(2, .int (nI 1)), (5, .int (nI ft)), (0, .ref mo), (1, .int (nI b)), (3, .int (nI (2 * i + 1))), (4, .int (nI fr))]) hx hb d_M_bursts_119 rfl hl (by decide) rfl (fun ls hl => ?_)
                          refine lv_iinc (v := nI (fr + 1)) (lv' := [(4, .int (nI (fr + 1))), (2, .int (nI 1)), (5, .int (nI ft)), (0, .ref mo), (1, .int (nI b)), (3, .int (nI (2 * i + 1)))]) hx hb d_M_bursts_120 hl (k := 5) rfl (nI_1 fr) (by decide) rfl (fun ls hl => ?_)
                          refine lv_goto (tgt := 39) hx hb d_M_bursts_123 (by decide) ?_
                          exact ih (fr + 1) 1 u.1 u.2.1 u.2.2 _ _ _ (by omega) (by omega) (by omega) (⟨fun _ => ⟨(hz.mp rfl).1, BR_s.mpr ⟨(hz.mp rfl).2, fun _ => c111⟩⟩, fun _ => rfl⟩) (lv_sub hl [3, 4, 1, 5, 0] rfl) hP hD hS
                  refine lv_aload_n hx hb d_M_bursts_53 rfl (lv_at hl 0 rfl) ?_
                  refine va_get (D := D) (ci := 6) (v := .int (nI M)) (C := R_M) (T := F_M) (N := 21) hx hb hts i_M hown hK hP 0 rfl rfl 1 (by decide) (hts _ m_604) (fun _ h9 => h9) rfl d_M_bursts_54 ?_
                  refine lv_aload_n hx hb d_M_bursts_57 rfl (lv_at hl 0 rfl) ?_
                  refine va_get (D := D) (ci := 6) (v := .int (nI (ckb kd M))) (C := R_M) (T := F_M) (N := 21) hx hb hts i_M hown hK hP 0 rfl rfl 3 (by decide) (hts _ m_606) (fun _ h9 => h9) rfl d_M_bursts_58 ?_
                  refine lx_iadd (z := nI (M + (ckb kd M))) hx hb d_M_bursts_61 (nI_add M (ckb kd M)) ?_
                  refine lv_iload hx hb d_M_bursts_62 (lv_at hl 4 rfl) ?_
                  refine lx_isub (z := nI (M + ckb kd M - fr)) hx hb d_M_bursts_64 (pk_sub (by omega)) ?_
                  refine lv_bipush (v := nI 6) hx hb d_M_bursts_65 (by decide) ?_
                  refine lx_icmp_gt (tgt := 87) hx hb d_M_bursts_67 (by decide) (by omega) (by omega) (fun c67 => ?_) (fun c67 => ?_)
                  · skip
                    refine lv_iconst (v := nI 1) hx hb d_M_bursts_87 (by decide) ?_
                    refine lv_goto (tgt := 92) hx hb d_M_bursts_88 (by decide) ?_
                    exact j92 1 _ _ _ (by decide) (⟨fun _ => pow_mono (show 2 * i + 1 < 2 ^ 6 by omega) (by omega), fun _ => rfl⟩) (lv_sub hl [0, 1, 2, 3, 4] rfl) hP hD hS
                  · skip
                    have hsh : (2 * i + 1) >>> (M + ckb kd M - fr) < 2 ^ 31 := Nat.lt_of_le_of_lt (Nat.shiftRight_le _ _) (by omega)
                    refine lv_iload_n hx hb d_M_bursts_70 rfl (lv_at hl 3 rfl) ?_
                    refine lv_aload_n hx hb d_M_bursts_71 rfl (lv_at hl 0 rfl) ?_
                    refine va_get (D := D) (ci := 6) (v := .int (nI M)) (C := R_M) (T := F_M) (N := 21) hx hb hts i_M hown hK hP 0 rfl rfl 1 (by decide) (hts _ m_604) (fun _ h9 => h9) rfl d_M_bursts_72 ?_
                    refine lv_aload_n hx hb d_M_bursts_75 rfl (lv_at hl 0 rfl) ?_
                    refine va_get (D := D) (ci := 6) (v := .int (nI (ckb kd M))) (C := R_M) (T := F_M) (N := 21) hx hb hts i_M hown hK hP 0 rfl rfl 3 (by decide) (hts _ m_606) (fun _ h9 => h9) rfl d_M_bursts_76 ?_
                    refine lx_iadd (z := nI (M + (ckb kd M))) hx hb d_M_bursts_79 (nI_add M (ckb kd M)) ?_
                    refine lv_iload hx hb d_M_bursts_80 (lv_at hl 4 rfl) ?_
                    refine lx_isub (z := nI (M + ckb kd M - fr)) hx hb d_M_bursts_82 (pk_sub (by omega)) ?_
                    refine lx_ishr (z := nI ((2 * i + 1) >>> (M + ckb kd M - fr))) hx hb d_M_bursts_83 (xn_sshr (by omega) (by omega)) ?_
                    refine lx_if_ne (tgt := 91) hx hb d_M_bursts_84 (by decide) (by omega) (fun c84 => ?_) (fun c84 => ?_)
                    · skip
                      refine lv_iconst (v := nI 0) hx hb d_M_bursts_91 (by decide) ?_
                      exact j92 0 _ _ _ (by decide) (⟨fun q => absurd q (by decide), fun q => absurd (shr0_iff.mpr q) c84⟩) (lv_sub hl [0, 1, 2, 3, 4] rfl) hP hD hS
                    · skip
                      refine lv_iconst (v := nI 1) hx hb d_M_bursts_87 (by decide) ?_
                      refine lv_goto (tgt := 92) hx hb d_M_bursts_88 (by decide) ?_
                      exact j92 1 _ _ _ (by decide) (⟨fun _ => shr0_iff.mp c84, fun _ => rfl⟩) (lv_sub hl [0, 1, 2, 3, 4] rfl) hP hD hS
            exact lp39 (M + ckb kd M + 1) 0 z z1 z2 z3 _ _ _ (by omega) (by omega) (hz1) (hz.trans ⟨fun q => ⟨q, BR_0 _ _ _⟩, fun q => q.1⟩) (lv_sub hl [1, 2, 3, 4, 0] rfl) hP hD hS
      have hl : lv_has ls 6 [(3, .int (nI (2 * 0 + 1))), (2, .int (nI 1)), (0, .ref mo), (1, .int (nI b))] := hl
      exact lp29 65 0 1 ma mk bi _ _ _ (by omega) (by omega) (by omega) (⟨fun _ => BQ_1 _ _, fun _ => rfl⟩) (lv_sub hl [2, 3, 1, 0] rfl) hP hD hS
    · skip
      exact absurd rfl c20
  · skip
    exact absurd c8 (by decide)
set_option maxHeartbeats 4000000 in
set_option maxRecDepth 100000 in
theorem t_M_bursts (l : Launch) (D : va_G) (g : Nat → ClassId) (sz : Nat) (wm : va_W) (mo wi ck fq co sq uq gq kd M ifo fl : Nat) (th mk bi ch9 tu9 : Int32) (ma wo9 : Int64) (fw fc ff fco fsq fu fg : Nat → Int32) (hM0 : 0 < M) (hM : M ≤ 57) (v : Int32) (hv9 : v < nI 1 ∨ ¬ v ≤ nI 6) : Met l y_M_bursts w_M_bursts rm_M_bursts (va_Pc [.ref mo, .int (v)] (pP D (tyl g) ((mo, .inr (6, [.int (th), .int (nI M), .int (nI kd), .int (nI (ckb kd M)), .int (nI (nk kd)), .ref wi, .ref ck, .ref fq, .ref co, .int (nI (grsK kd M)), .int (nI ifo), .int (nI fl), .long (ma), .int (mk), .int (bi), .long (wo9), .int (ch9), .int (tu9), .ref sq, .ref uq, .ref gq])) :: (wi, .inl (g 0, 4, .inl (fw))) :: (ck, .inl (g 0, 4, .inl (fc))) :: (fq, .inl (g 0, 4, .inl (ff))) :: (co, .inl (g 0, 228, .inl (fco))) :: (sq, .inl (g 0, 8, .inl (fsq))) :: (uq, .inl (g 2, 128, .inl (fu))) :: (gq, .inl (g 0, 7, .inl (fg))) :: wm) sz)) (va_Qi (fun (r : Int32) (u : Unit) => r = nI 0) (fun u => qB D (va_A ((mo, .inr (6, [.int (th), .int (nI M), .int (nI kd), .int (nI (ckb kd M)), .int (nI (nk kd)), .ref wi, .ref ck, .ref fq, .ref co, .int (nI (grsK kd M)), .int (nI ifo), .int (nI fl), .long (ma), .int (mk), .int (bi), .long (wo9), .int (ch9), .int (tu9), .ref sq, .ref uq, .ref gq])) :: (wi, .inl (g 0, 4, .inl (fw))) :: (ck, .inl (g 0, 4, .inl (fc))) :: (fq, .inl (g 0, 4, .inl (ff))) :: (co, .inl (g 0, 228, .inl (fco))) :: (sq, .inl (g 0, 8, .inl (fsq))) :: (uq, .inl (g 2, 128, .inl (fu))) :: (gq, .inl (g 0, 7, .inl (fg))) :: wm) sz) ((mo, .inr (6, [.int (nI 1), .int (nI M), .int (nI kd), .int (nI (ckb kd M)), .int (nI (nk kd)), .ref wi, .ref ck, .ref fq, .ref co, .int (nI (grsK kd M)), .int (nI ifo), .int (nI fl), .long (ma), .int (mk), .int (bi), .long (wo9), .int (ch9), .int (tu9), .ref sq, .ref uq, .ref gq])) :: (wi, .inl (g 0, 4, .inl (fw))) :: (ck, .inl (g 0, 4, .inl (fc))) :: (fq, .inl (g 0, 4, .inl (ff))) :: (co, .inl (g 0, 228, .inl (fco))) :: (sq, .inl (g 0, 8, .inl (fsq))) :: (uq, .inl (g 2, 128, .inl (fu))) :: (gq, .inl (g 0, 7, .inl (fg))) :: wm)) (va_A ((mo, .inr (6, [.int (th), .int (nI M), .int (nI kd), .int (nI (ckb kd M)), .int (nI (nk kd)), .ref wi, .ref ck, .ref fq, .ref co, .int (nI (grsK kd M)), .int (nI ifo), .int (nI fl), .long (ma), .int (mk), .int (bi), .long (wo9), .int (ch9), .int (tu9), .ref sq, .ref uq, .ref gq])) :: (wi, .inl (g 0, 4, .inl (fw))) :: (ck, .inl (g 0, 4, .inl (fc))) :: (fq, .inl (g 0, 4, .inl (ff))) :: (co, .inl (g 0, 228, .inl (fco))) :: (sq, .inl (g 0, 8, .inl (fsq))) :: (uq, .inl (g 2, 128, .inl (fu))) :: (gq, .inl (g 0, 7, .inl (fg))) :: wm) sz)) 0 0 (va_A ((mo, .inr (6, [.int (th), .int (nI M), .int (nI kd), .int (nI (ckb kd M)), .int (nI (nk kd)), .ref wi, .ref ck, .ref fq, .ref co, .int (nI (grsK kd M)), .int (nI ifo), .int (nI fl), .long (ma), .int (mk), .int (bi), .long (wo9), .int (ch9), .int (tu9), .ref sq, .ref uq, .ref gq])) :: (wi, .inl (g 0, 4, .inl (fw))) :: (ck, .inl (g 0, 4, .inl (fc))) :: (fq, .inl (g 0, 4, .inl (ff))) :: (co, .inl (g 0, 228, .inl (fco))) :: (sq, .inl (g 0, 8, .inl (fsq))) :: (uq, .inl (g 2, 128, .inl (fu))) :: (gq, .inl (g 0, 7, .inl (fg))) :: wm) sz) := by
  refine Met.ofW (cc := b_M_bursts) (maxL := 6) (ret := (some .boolean)) (by decide +kernel) rfl ?_
  intro p e s m args below meth c s₁ Bq hml hv
  have hx := Bq.exec
  have hb := Bq.bytes
  have hr := Bq.returns
  have hts : ∀ w ∈ wA, w.before args s = true := fun w h => atoms_spec (ws := w_M_bursts) Bq.pre w (List.mem_cons_of_mem _ h)
  have hown : s.vm.findClass R_M = some m.cls := findClass_of_methodNamed Bq.named
  have hlocks := Bq.notSynchronized
  obtain ⟨rfl, hsz, hP, hKK, hD0⟩ := hv
  have hK := hKK.1
  subst hsz
  have hD := hD0.self (sz := s.heap.size)
  generalize hAe : va_A ((mo, .inr (6, [.int (th), .int (nI M), .int (nI kd), .int (nI (ckb kd M)), .int (nI (nk kd)), .ref wi, .ref ck, .ref fq, .ref co, .int (nI (grsK kd M)), .int (nI ifo), .int (nI fl), .long (ma), .int (mk), .int (bi), .long (wo9), .int (ch9), .int (tu9), .ref sq, .ref uq, .ref gq])) :: (wi, .inl (g 0, 4, .inl (fw))) :: (ck, .inl (g 0, 4, .inl (fc))) :: (fq, .inl (g 0, 4, .inl (ff))) :: (co, .inl (g 0, 228, .inl (fco))) :: (sq, .inl (g 0, 8, .inl (fsq))) :: (uq, .inl (g 2, 128, .inl (fu))) :: (gq, .inl (g 0, 7, .inl (fg))) :: wm) s.heap.size = A at hD ⊢
  have hA : ∀ q : Nat, s.heap.size ≤ q → A q := fun q h => by rw [← hAe]; exact Or.inr h
  have hS : va_S A s.heap s.heap [] := va_S.rf
  have hl := lv_entry ([.ref mo, .int (v)]) (n := 6) (Nat.le_of_ble_eq_true rfl)
  rw [lg_entry_eq]
  generalize (lg_sl ([.ref mo, .int (v)]) ++ List.replicate (6 - (lg_sl ([.ref mo, .int (v)])).length) Slot.unset).toArray = ls at hl ⊢
  have hl : lv_has ls 6 [(0, .ref mo), (1, .int (v))] := hl
  generalize hQ : MQ below (va_Qi (fun (r : Int32) (u : Unit) => r = nI 0) (fun u => qB D (A) ((mo, .inr (6, [.int (nI 1), .int (nI M), .int (nI kd), .int (nI (ckb kd M)), .int (nI (nk kd)), .ref wi, .ref ck, .ref fq, .ref co, .int (nI (grsK kd M)), .int (nI ifo), .int (nI fl), .long (ma), .int (mk), .int (bi), .long (wo9), .int (ch9), .int (tu9), .ref sq, .ref uq, .ref gq])) :: (wi, .inl (g 0, 4, .inl (fw))) :: (ck, .inl (g 0, 4, .inl (fc))) :: (fq, .inl (g 0, 4, .inl (ff))) :: (co, .inl (g 0, 228, .inl (fco))) :: (sq, .inl (g 0, 8, .inl (fsq))) :: (uq, .inl (g 2, 128, .inl (fu))) :: (gq, .inl (g 0, 7, .inl (fg))) :: wm)) (A)) [.ref mo, .int (v)].toArray s 0 0 A = Q
  have hin9 : (if v < nI 1 then 0 else if nI 6 < v then 0 else 1 : Nat) = 0 := by rcases hv9 with q | q; rw [if_pos q]; rw [if_pos (Int32.not_le.mp q)]; split <;> rfl
  refine lv_aload_n hx hb d_M_bursts_0 rfl (lv_at hl 0 rfl) ?_
  refine lv_iload_n hx hb d_M_bursts_1 rfl (lv_at hl 1 rfl) ?_
  refine lv_iconst (v := nI 1) hx hb d_M_bursts_2 (by decide) ?_
  refine lv_bipush (v := nI 6) hx hb d_M_bursts_3 (by decide) ?_
  refine lc_Si (As := [.int (v), .int (nI 1), .int (nI 6)]) (rest := [.ref mo]) ⟨hx, hb, hml, hown, hts⟩ (c_M_inR l D g _ _ v (nI 1) (nI 6)) (kS 3 hts m_682 m_680 m_681 m_40 (by decide +kernel) ⟨Nat.le_of_ble_eq_true rfl, Nat.le_of_ble_eq_true rfl⟩) hKK hP hD hS hA hl.1 rfl rfl (Nat.le_of_ble_eq_true rfl) d_M_bursts_5 ⟨Nat.le_of_ble_eq_true rfl, Nat.le_of_ble_eq_true rfl⟩ (fun r1 u1 H locs e1 hP hD hS => ?_)
  obtain rfl : r1 = nI 0 := e1.trans (by rw [hin9])
  refine lx_if_ne (tgt := 15) hx hb d_M_bursts_8 (by decide) (by omega) (fun c8 => ?_) (fun c8 => ?_)
  · skip
    exact absurd rfl c8
  · skip
    refine lv_iconst (v := nI 1) hx hb d_M_bursts_11 (by decide) ?_
    refine lv_goto (tgt := 16) hx hb d_M_bursts_12 (by decide) ?_
    refine lv_iconst (v := nI 0) hx hb d_M_bursts_16 (by decide) ?_
    refine lc_Vi (b := mo) (As := [.int (nI 1), .int (nI 0)]) (rest := []) ⟨hx, hb, hml, hown, hts⟩ (c_M_fails l D g _ wm mo wi ck fq co sq uq gq kd M ifo fl th mk bi ch9 tu9 ma wo9 fw fc ff fco fsq fu fg hM0 hM 1 0 (by decide) (by decide)) (kV 2 hts m_686 m_683 m_685 m_15 m_40 (by decide +kernel) ⟨Nat.le_of_ble_eq_true rfl, Nat.le_of_ble_eq_true rfl⟩) (va_recv hK hP (ci := 6) (q0 := 0) rfl rfl) hKK hP hD hS hA hl.1 rfl rfl (Nat.le_of_ble_eq_true rfl) d_M_bursts_17 ⟨Nat.le_of_ble_eq_true rfl, Nat.le_of_ble_eq_true rfl⟩ (fun rf uf H locs ef hP hD hS => ?_)
    have hP : va_P D vwCl ((mo, .inr (6, [.int (nI 1), .int (nI M), .int (nI kd), .int (nI (ckb kd M)), .int (nI (nk kd)), .ref wi, .ref ck, .ref fq, .ref co, .int (nI (grsK kd M)), .int (nI ifo), .int (nI fl), .long (ma), .int (mk), .int (bi), .long (wo9), .int (ch9), .int (tu9), .ref sq, .ref uq, .ref gq])) :: (wi, .inl (g 0, 4, .inl (fw))) :: (ck, .inl (g 0, 4, .inl (fc))) :: (fq, .inl (g 0, 4, .inl (ff))) :: (co, .inl (g 0, 228, .inl (fco))) :: (sq, .inl (g 0, 8, .inl (fsq))) :: (uq, .inl (g 2, 128, .inl (fu))) :: (gq, .inl (g 0, 7, .inl (fg))) :: wm) H := hP
    have hD : va_D A ((mo, .inr (6, [.int (nI 1), .int (nI M), .int (nI kd), .int (nI (ckb kd M)), .int (nI (nk kd)), .ref wi, .ref ck, .ref fq, .ref co, .int (nI (grsK kd M)), .int (nI ifo), .int (nI fl), .long (ma), .int (mk), .int (bi), .long (wo9), .int (ch9), .int (tu9), .ref sq, .ref uq, .ref gq])) :: (wi, .inl (g 0, 4, .inl (fw))) :: (ck, .inl (g 0, 4, .inl (fc))) :: (fq, .inl (g 0, 4, .inl (ff))) :: (co, .inl (g 0, 228, .inl (fco))) :: (sq, .inl (g 0, 8, .inl (fsq))) :: (uq, .inl (g 2, 128, .inl (fu))) :: (gq, .inl (g 0, 7, .inl (fg))) :: wm) := hD
    obtain rfl : rf = nI 1 := ef
    refine lx_if_eq (tgt := 25) hx hb d_M_bursts_20 (by decide) (by omega) (fun c20 => ?_) (fun c20 => ?_)
    · skip
      exact absurd c20 (by decide)
    · skip
      refine lv_iconst (v := nI 0) hx hb d_M_bursts_23 (by decide) ?_
      rw [← hQ]
      refine W.zret (v := nI 0) (ty := .boolean) hx hb hr (rfl) ?_ hS.2.2 d_M_bursts_24
      exact fun t ht hW => ⟨⟨nI 0, (), rfl, rfl, by rw [ht]; exact hP, hD⟩, hS.F ht⟩
