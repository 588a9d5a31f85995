set_option maxRecDepth 20000 in
theorem m_726 : Cond.code y_M_times b_M_times 4 (some .int) ∈ wA := in_wA (List.mem_of_getElem? (i := 726) rfl) rfl
set_option maxRecDepth 20000 in
theorem m_724 : Cond.methodLink R_M 65 y_M_times ∈ wA := in_wA (List.mem_of_getElem? (i := 724) rfl) rfl
set_option maxRecDepth 20000 in
theorem m_725 : Cond.static y_M_times ∈ wA := in_wA (List.mem_of_getElem? (i := 725) rfl) rfl
set_option maxRecDepth 20000 in
theorem m_40 : Cond.initialized R_M ∈ wA := in_wA (List.mem_of_getElem? (i := 40) rfl) rfl
set_option maxRecDepth 20000 in
theorem m_604 : Cond.fieldLink R_M 34 R_M "m" "I" ∈ wA := in_wA (List.mem_of_getElem? (i := 604) rfl) rfl
set_option maxRecDepth 20000 in
theorem m_613 : Cond.fieldLink R_M 89 R_M "isFolded" "Z" ∈ wA := in_wA (List.mem_of_getElem? (i := 613) rfl) rfl
set_option maxRecDepth 20000 in
theorem m_614 : Cond.fieldLink R_M 93 R_M "fold" "I" ∈ wA := in_wA (List.mem_of_getElem? (i := 614) rfl) rfl
set_option maxRecDepth 20000 in
theorem m_603 : Cond.fieldLink R_M 51 R_M "thrown" "I" ∈ wA := in_wA (List.mem_of_getElem? (i := 603) rfl) rfl
set_option maxRecDepth 20000 in
theorem m_618 : Cond.fieldLink R_M 140 R_M "word" "J" ∈ wA := in_wA (List.mem_of_getElem? (i := 618) rfl) rfl
set_option maxRecDepth 20000 in
theorem m_619 : Cond.fieldLink R_M 143 R_M "check" "I" ∈ wA := in_wA (List.mem_of_getElem? (i := 619) rfl) rfl
set_option maxRecDepth 20000 in
theorem m_620 : Cond.fieldLink R_M 146 R_M "turned" "I" ∈ wA := in_wA (List.mem_of_getElem? (i := 620) rfl) rfl
set_option maxRecDepth 20000 in
theorem m_612 : Cond.fieldLink R_M 62 R_M "greatest" "I" ∈ wA := in_wA (List.mem_of_getElem? (i := 612) rfl) rfl
set_option maxRecDepth 20000 in
theorem m_605 : Cond.fieldLink R_M 38 R_M "kind" "I" ∈ wA := in_wA (List.mem_of_getElem? (i := 605) rfl) rfl
set_option maxRecDepth 20000 in
theorem m_606 : Cond.fieldLink R_M 44 R_M "\x72" "I" ∈ wA := in_wA (List.mem_of_getElem? (i := 606) rfl) rfl
abbrev w_M_weight : List Cond := .code y_M_weight b_M_weight 4 (some .int) :: wA
abbrev rm_M_weight : Room := { frames := 0, cells := 0, slots := 0, locals := 0 }
theorem d_M_weight_0 : decode b_M_weight 0 = .ok (.iconst 0, 1) := by decide +kernel
theorem d_M_weight_1 : decode b_M_weight 1 = .ok (.istore_n 2, 1) := by decide +kernel
theorem d_M_weight_2 : decode b_M_weight 2 = .ok (.iconst 0, 1) := by decide +kernel
theorem d_M_weight_3 : decode b_M_weight 3 = .ok (.istore_n 3, 1) := by decide +kernel
theorem d_M_weight_4 : decode b_M_weight 4 = .ok (.iload_n 3, 1) := by decide +kernel
theorem d_M_weight_5 : decode b_M_weight 5 = .ok (.bipush 64, 2) := by decide +kernel
theorem d_M_weight_7 : decode b_M_weight 7 = .ok (.if_icmp .ge 18, 3) := by decide +kernel
theorem d_M_weight_10 : decode b_M_weight 10 = .ok (.iload_n 2, 1) := by decide +kernel
theorem d_M_weight_11 : decode b_M_weight 11 = .ok (.lload_n 0, 1) := by decide +kernel
theorem d_M_weight_12 : decode b_M_weight 12 = .ok (.iload_n 3, 1) := by decide +kernel
theorem d_M_weight_13 : decode b_M_weight 13 = .ok (.lshr, 1) := by decide +kernel
theorem d_M_weight_14 : decode b_M_weight 14 = .ok (.lconst 1, 1) := by decide +kernel
theorem d_M_weight_15 : decode b_M_weight 15 = .ok (.land, 1) := by decide +kernel
theorem d_M_weight_16 : decode b_M_weight 16 = .ok (.l2i, 1) := by decide +kernel
theorem d_M_weight_17 : decode b_M_weight 17 = .ok (.iadd, 1) := by decide +kernel
theorem d_M_weight_18 : decode b_M_weight 18 = .ok (.istore_n 2, 1) := by decide +kernel
theorem d_M_weight_19 : decode b_M_weight 19 = .ok (.iinc 3 1, 3) := by decide +kernel
theorem d_M_weight_22 : decode b_M_weight 22 = .ok (.goto (-18), 3) := by decide +kernel
theorem d_M_weight_25 : decode b_M_weight 25 = .ok (.iload_n 2, 1) := by decide +kernel
theorem d_M_weight_26 : decode b_M_weight 26 = .ok (.ireturn, 1) := by decide +kernel
abbrev w_M_most : List Cond := .code y_M_most b_M_most 5 (some .int) :: wA
abbrev rm_M_most : Room := { frames := 0, cells := 0, slots := 0, locals := 0 }
theorem d_M_most_0 : decode b_M_most 0 = .ok (.iconst 0, 1) := by decide +kernel
theorem d_M_most_1 : decode b_M_most 1 = .ok (.istore_n 2, 1) := by decide +kernel
theorem d_M_most_2 : decode b_M_most 2 = .ok (.iconst 0, 1) := by decide +kernel
theorem d_M_most_3 : decode b_M_most 3 = .ok (.istore_n 3, 1) := by decide +kernel
theorem d_M_most_4 : decode b_M_most 4 = .ok (.iload_n 3, 1) := by decide +kernel
theorem d_M_most_5 : decode b_M_most 5 = .ok (.bipush 7, 2) := by decide +kernel
theorem d_M_most_7 : decode b_M_most 7 = .ok (.if_icmp .ge 36, 3) := by decide +kernel
theorem d_M_most_10 : decode b_M_most 10 = .ok (.aload_n 0, 1) := by decide +kernel
theorem d_M_most_11 : decode b_M_most 11 = .ok (.getfield 29, 3) := by decide +kernel
theorem d_M_most_14 : decode b_M_most 14 = .ok (.iload_n 3, 1) := by decide +kernel
theorem d_M_most_15 : decode b_M_most 15 = .ok (.iaload, 1) := by decide +kernel
theorem d_M_most_16 : decode b_M_most 16 = .ok (.iload_n 1, 1) := by decide +kernel
theorem d_M_most_17 : decode b_M_most 17 = .ok (.iload_n 3, 1) := by decide +kernel
theorem d_M_most_18 : decode b_M_most 18 = .ok (.ishr, 1) := by decide +kernel
theorem d_M_most_19 : decode b_M_most 19 = .ok (.iconst 1, 1) := by decide +kernel
theorem d_M_most_20 : decode b_M_most 20 = .ok (.iand, 1) := by decide +kernel
theorem d_M_most_21 : decode b_M_most 21 = .ok (.iadd, 1) := by decide +kernel
theorem d_M_most_22 : decode b_M_most 22 = .ok (.istore 4, 2) := by decide +kernel
theorem d_M_most_24 : decode b_M_most 24 = .ok (.iload 4, 2) := by decide +kernel
theorem d_M_most_26 : decode b_M_most 26 = .ok (.iload_n 2, 1) := by decide +kernel
theorem d_M_most_27 : decode b_M_most 27 = .ok (.if_icmp .le 8, 3) := by decide +kernel
theorem d_M_most_30 : decode b_M_most 30 = .ok (.iload 4, 2) := by decide +kernel
theorem d_M_most_32 : decode b_M_most 32 = .ok (.goto 4, 3) := by decide +kernel
theorem d_M_most_35 : decode b_M_most 35 = .ok (.iload_n 2, 1) := by decide +kernel
theorem d_M_most_36 : decode b_M_most 36 = .ok (.istore_n 2, 1) := by decide +kernel
theorem d_M_most_37 : decode b_M_most 37 = .ok (.iinc 3 1, 3) := by decide +kernel
theorem d_M_most_40 : decode b_M_most 40 = .ok (.goto (-36), 3) := by decide +kernel
theorem d_M_most_43 : decode b_M_most 43 = .ok (.iload_n 2, 1) := by decide +kernel
theorem d_M_most_44 : decode b_M_most 44 = .ok (.ireturn, 1) := by decide +kernel
abbrev w_M_times : List Cond := .code y_M_times b_M_times 4 (some .int) :: wA
abbrev rm_M_times : Room := { frames := 0, cells := 0, slots := 0, locals := 0 }
theorem d_M_times_0 : decode b_M_times 0 = .ok (.iconst 0, 1) := by decide +kernel
theorem d_M_times_1 : decode b_M_times 1 = .ok (.istore_n 2, 1) := by decide +kernel
theorem d_M_times_2 : decode b_M_times 2 = .ok (.iconst 0, 1) := by decide +kernel
theorem d_M_times_3 : decode b_M_times 3 = .ok (.istore_n 3, 1) := by decide +kernel
theorem d_M_times_4 : decode b_M_times 4 = .ok (.iload_n 3, 1) := by decide +kernel
theorem d_M_times_5 : decode b_M_times 5 = .ok (.iconst 4, 1) := by decide +kernel
theorem d_M_times_6 : decode b_M_times 6 = .ok (.if_icmp .ge 28, 3) := by decide +kernel
theorem d_M_times_9 : decode b_M_times 9 = .ok (.iload_n 2, 1) := by decide +kernel
theorem d_M_times_10 : decode b_M_times 10 = .ok (.iload_n 1, 1) := by decide +kernel
theorem d_M_times_11 : decode b_M_times 11 = .ok (.iload_n 3, 1) := by decide +kernel
theorem d_M_times_12 : decode b_M_times 12 = .ok (.ishr, 1) := by decide +kernel
theorem d_M_times_13 : decode b_M_times 13 = .ok (.iconst 1, 1) := by decide +kernel
theorem d_M_times_14 : decode b_M_times 14 = .ok (.iand, 1) := by decide +kernel
theorem d_M_times_15 : decode b_M_times 15 = .ok (.iconst 1, 1) := by decide +kernel
theorem d_M_times_16 : decode b_M_times 16 = .ok (.if_icmp .ne 9, 3) := by decide +kernel
theorem d_M_times_19 : decode b_M_times 19 = .ok (.iload_n 0, 1) := by decide +kernel
theorem d_M_times_20 : decode b_M_times 20 = .ok (.iload_n 3, 1) := by decide +kernel
theorem d_M_times_21 : decode b_M_times 21 = .ok (.ishl, 1) := by decide +kernel
theorem d_M_times_22 : decode b_M_times 22 = .ok (.goto 4, 3) := by decide +kernel
theorem d_M_times_25 : decode b_M_times 25 = .ok (.iconst 0, 1) := by decide +kernel
theorem d_M_times_26 : decode b_M_times 26 = .ok (.ixor, 1) := by decide +kernel
theorem d_M_times_27 : decode b_M_times 27 = .ok (.istore_n 2, 1) := by decide +kernel
theorem d_M_times_28 : decode b_M_times 28 = .ok (.iinc 3 1, 3) := by decide +kernel
theorem d_M_times_31 : decode b_M_times 31 = .ok (.goto (-27), 3) := by decide +kernel
theorem d_M_times_34 : decode b_M_times 34 = .ok (.bipush 6, 2) := by decide +kernel
theorem d_M_times_36 : decode b_M_times 36 = .ok (.istore_n 3, 1) := by decide +kernel
theorem d_M_times_37 : decode b_M_times 37 = .ok (.iload_n 3, 1) := by decide +kernel
theorem d_M_times_38 : decode b_M_times 38 = .ok (.iconst 3, 1) := by decide +kernel
theorem d_M_times_39 : decode b_M_times 39 = .ok (.if_icmp .le 31, 3) := by decide +kernel
theorem d_M_times_42 : decode b_M_times 42 = .ok (.iload_n 2, 1) := by decide +kernel
theorem d_M_times_43 : decode b_M_times 43 = .ok (.iload_n 2, 1) := by decide +kernel
theorem d_M_times_44 : decode b_M_times 44 = .ok (.iload_n 3, 1) := by decide +kernel
theorem d_M_times_45 : decode b_M_times 45 = .ok (.ishr, 1) := by decide +kernel
theorem d_M_times_46 : decode b_M_times 46 = .ok (.iconst 1, 1) := by decide +kernel
theorem d_M_times_47 : decode b_M_times 47 = .ok (.iand, 1) := by decide +kernel
theorem d_M_times_48 : decode b_M_times 48 = .ok (.iconst 1, 1) := by decide +kernel
theorem d_M_times_49 : decode b_M_times 49 = .ok (.if_icmp .ne 12, 3) := by decide +kernel
theorem d_M_times_52 : decode b_M_times 52 = .ok (.bipush 19, 2) := by decide +kernel
theorem d_M_times_54 : decode b_M_times 54 = .ok (.iload_n 3, 1) := by decide +kernel
theorem d_M_times_55 : decode b_M_times 55 = .ok (.iconst 4, 1) := by decide +kernel
theorem d_M_times_56 : decode b_M_times 56 = .ok (.isub, 1) := by decide +kernel
theorem d_M_times_57 : decode b_M_times 57 = .ok (.ishl, 1) := by decide +kernel
theorem d_M_times_58 : decode b_M_times 58 = .ok (.goto 4, 3) := by decide +kernel
theorem d_M_times_61 : decode b_M_times 61 = .ok (.iconst 0, 1) := by decide +kernel
theorem d_M_times_62 : decode b_M_times 62 = .ok (.ixor, 1) := by decide +kernel
theorem d_M_times_63 : decode b_M_times 63 = .ok (.istore_n 2, 1) := by decide +kernel
theorem d_M_times_64 : decode b_M_times 64 = .ok (.iinc 3 (-1), 3) := by decide +kernel
theorem d_M_times_67 : decode b_M_times 67 = .ok (.goto (-30), 3) := by decide +kernel
theorem d_M_times_70 : decode b_M_times 70 = .ok (.iload_n 2, 1) := by decide +kernel
theorem d_M_times_71 : decode b_M_times 71 = .ok (.ireturn, 1) := by decide +kernel
abbrev w_M_power : List Cond := .code y_M_power b_M_power 3 (some .int) :: wA
abbrev rm_M_power : Room := { frames := 1, cells := 0, slots := 0, locals := 23 }
theorem d_M_power_0 : decode b_M_power 0 = .ok (.iconst 1, 1) := by decide +kernel
theorem d_M_power_1 : decode b_M_power 1 = .ok (.istore_n 1, 1) := by decide +kernel
theorem d_M_power_2 : decode b_M_power 2 = .ok (.iconst 0, 1) := by decide +kernel
theorem d_M_power_3 : decode b_M_power 3 = .ok (.istore_n 2, 1) := by decide +kernel
theorem d_M_power_4 : decode b_M_power 4 = .ok (.iload_n 2, 1) := by decide +kernel
theorem d_M_power_5 : decode b_M_power 5 = .ok (.iload_n 0, 1) := by decide +kernel
theorem d_M_power_6 : decode b_M_power 6 = .ok (.if_icmp .ge 15, 3) := by decide +kernel
theorem d_M_power_9 : decode b_M_power 9 = .ok (.iload_n 1, 1) := by decide +kernel
theorem d_M_power_10 : decode b_M_power 10 = .ok (.iconst 2, 1) := by decide +kernel
theorem d_M_power_11 : decode b_M_power 11 = .ok (.invokestatic 65, 3) := by decide +kernel
theorem d_M_power_14 : decode b_M_power 14 = .ok (.istore_n 1, 1) := by decide +kernel
theorem d_M_power_15 : decode b_M_power 15 = .ok (.iinc 2 1, 3) := by decide +kernel
theorem d_M_power_18 : decode b_M_power 18 = .ok (.goto (-14), 3) := by decide +kernel
theorem d_M_power_21 : decode b_M_power 21 = .ok (.iload_n 1, 1) := by decide +kernel
theorem d_M_power_22 : decode b_M_power 22 = .ok (.ireturn, 1) := by decide +kernel
abbrev w_M_in : List Cond := .code y_M_in b_M_in 3 (some .boolean) :: wA
abbrev rm_M_in : Room := { frames := 0, cells := 0, slots := 0, locals := 0 }
theorem d_M_in_0 : decode b_M_in 0 = .ok (.iload_n 0, 1) := by decide +kernel
theorem d_M_in_1 : decode b_M_in 1 = .ok (.iload_n 1, 1) := by decide +kernel
theorem d_M_in_2 : decode b_M_in 2 = .ok (.if_icmp .lt 12, 3) := by decide +kernel
theorem d_M_in_5 : decode b_M_in 5 = .ok (.iload_n 0, 1) := by decide +kernel
theorem d_M_in_6 : decode b_M_in 6 = .ok (.iload_n 2, 1) := by decide +kernel
theorem d_M_in_7 : decode b_M_in 7 = .ok (.if_icmp .gt 7, 3) := by decide +kernel
theorem d_M_in_10 : decode b_M_in 10 = .ok (.iconst 1, 1) := by decide +kernel
theorem d_M_in_11 : decode b_M_in 11 = .ok (.goto 4, 3) := by decide +kernel
theorem d_M_in_14 : decode b_M_in 14 = .ok (.iconst 0, 1) := by decide +kernel
theorem d_M_in_15 : decode b_M_in 15 = .ok (.ireturn, 1) := by decide +kernel
abbrev w_M_has : List Cond := .code y_M_has b_M_has 3 (some .boolean) :: wA
abbrev rm_M_has : Room := { frames := 0, cells := 0, slots := 0, locals := 0 }
theorem d_M_has_0 : decode b_M_has 0 = .ok (.lload_n 0, 1) := by decide +kernel
theorem d_M_has_1 : decode b_M_has 1 = .ok (.iload_n 2, 1) := by decide +kernel
theorem d_M_has_2 : decode b_M_has 2 = .ok (.lshr, 1) := by decide +kernel
theorem d_M_has_3 : decode b_M_has 3 = .ok (.lconst 1, 1) := by decide +kernel
theorem d_M_has_4 : decode b_M_has 4 = .ok (.land, 1) := by decide +kernel
theorem d_M_has_5 : decode b_M_has 5 = .ok (.lconst 1, 1) := by decide +kernel
theorem d_M_has_6 : decode b_M_has 6 = .ok (.lcmp, 1) := by decide +kernel
theorem d_M_has_7 : decode b_M_has 7 = .ok (.ifCond .ne 7, 3) := by decide +kernel
theorem d_M_has_10 : decode b_M_has 10 = .ok (.iconst 1, 1) := by decide +kernel
theorem d_M_has_11 : decode b_M_has 11 = .ok (.goto 4, 3) := by decide +kernel
theorem d_M_has_14 : decode b_M_has 14 = .ok (.iconst 0, 1) := by decide +kernel
theorem d_M_has_15 : decode b_M_has 15 = .ok (.ireturn, 1) := by decide +kernel
abbrev w_M_all : List Cond := .code y_M_all b_M_all 1 (some .long) :: wA
abbrev rm_M_all : Room := { frames := 0, cells := 0, slots := 0, locals := 0 }
theorem d_M_all_0 : decode b_M_all 0 = .ok (.lconst 1, 1) := by decide +kernel
theorem d_M_all_1 : decode b_M_all 1 = .ok (.aload_n 0, 1) := by decide +kernel
theorem d_M_all_2 : decode b_M_all 2 = .ok (.getfield 34, 3) := by decide +kernel
theorem d_M_all_5 : decode b_M_all 5 = .ok (.lshl, 1) := by decide +kernel
theorem d_M_all_6 : decode b_M_all 6 = .ok (.lconst 1, 1) := by decide +kernel
theorem d_M_all_7 : decode b_M_all 7 = .ok (.lsub, 1) := by decide +kernel
theorem d_M_all_8 : decode b_M_all 8 = .ok (.lreturn, 1) := by decide +kernel
abbrev w_M_nibbles : List Cond := .code y_M_nibbles b_M_nibbles 1 (some .int) :: wA
abbrev rm_M_nibbles : Room := { frames := 0, cells := 0, slots := 0, locals := 0 }
theorem d_M_nibbles_0 : decode b_M_nibbles 0 = .ok (.aload_n 0, 1) := by decide +kernel
theorem d_M_nibbles_1 : decode b_M_nibbles 1 = .ok (.getfield 34, 3) := by decide +kernel
theorem d_M_nibbles_4 : decode b_M_nibbles 4 = .ok (.iconst 3, 1) := by decide +kernel
theorem d_M_nibbles_5 : decode b_M_nibbles 5 = .ok (.iadd, 1) := by decide +kernel
theorem d_M_nibbles_6 : decode b_M_nibbles 6 = .ok (.iconst 4, 1) := by decide +kernel
theorem d_M_nibbles_7 : decode b_M_nibbles 7 = .ok (.idiv, 1) := by decide +kernel
theorem d_M_nibbles_8 : decode b_M_nibbles 8 = .ok (.ireturn, 1) := by decide +kernel
abbrev w_M_folded : List Cond := .code y_M_folded b_M_folded 1 (some .int) :: wA
abbrev rm_M_folded : Room := { frames := 0, cells := 0, slots := 0, locals := 0 }
theorem d_M_folded_0 : decode b_M_folded 0 = .ok (.aload_n 0, 1) := by decide +kernel
theorem d_M_folded_1 : decode b_M_folded 1 = .ok (.getfield 89, 3) := by decide +kernel
theorem d_M_folded_4 : decode b_M_folded 4 = .ok (.ifCond .eq 10, 3) := by decide +kernel
theorem d_M_folded_7 : decode b_M_folded 7 = .ok (.aload_n 0, 1) := by decide +kernel
theorem d_M_folded_8 : decode b_M_folded 8 = .ok (.getfield 93, 3) := by decide +kernel
theorem d_M_folded_11 : decode b_M_folded 11 = .ok (.goto 4, 3) := by decide +kernel
theorem d_M_folded_14 : decode b_M_folded 14 = .ok (.iconst 0, 1) := by decide +kernel
theorem d_M_folded_15 : decode b_M_folded 15 = .ok (.ireturn, 1) := by decide +kernel
abbrev w_M_fails : List Cond := .code y_M_fails b_M_fails 3 (some .boolean) :: wA
abbrev rm_M_fails : Room := { frames := 0, cells := 0, slots := 0, locals := 0 }
theorem d_M_fails_0 : decode b_M_fails 0 = .ok (.aload_n 0, 1) := by decide +kernel
theorem d_M_fails_1 : decode b_M_fails 1 = .ok (.iload_n 1, 1) := by decide +kernel
theorem d_M_fails_2 : decode b_M_fails 2 = .ok (.ifCond .eq 7, 3) := by decide +kernel
theorem d_M_fails_5 : decode b_M_fails 5 = .ok (.iconst 1, 1) := by decide +kernel
theorem d_M_fails_6 : decode b_M_fails 6 = .ok (.goto 12, 3) := by decide +kernel
theorem d_M_fails_9 : decode b_M_fails 9 = .ok (.iload_n 2, 1) := by decide +kernel
theorem d_M_fails_10 : decode b_M_fails 10 = .ok (.ifCond .eq 7, 3) := by decide +kernel
theorem d_M_fails_13 : decode b_M_fails 13 = .ok (.iconst 2, 1) := by decide +kernel
theorem d_M_fails_14 : decode b_M_fails 14 = .ok (.goto 4, 3) := by decide +kernel
theorem d_M_fails_17 : decode b_M_fails 17 = .ok (.iconst 0, 1) := by decide +kernel
theorem d_M_fails_18 : decode b_M_fails 18 = .ok (.putfield 51, 3) := by decide +kernel
theorem d_M_fails_21 : decode b_M_fails 21 = .ok (.aload_n 0, 1) := by decide +kernel
theorem d_M_fails_22 : decode b_M_fails 22 = .ok (.getfield 51, 3) := by decide +kernel
theorem d_M_fails_25 : decode b_M_fails 25 = .ok (.ifCond .le 7, 3) := by decide +kernel
theorem d_M_fails_28 : decode b_M_fails 28 = .ok (.iconst 1, 1) := by decide +kernel
theorem d_M_fails_29 : decode b_M_fails 29 = .ok (.goto 4, 3) := by decide +kernel
theorem d_M_fails_32 : decode b_M_fails 32 = .ok (.iconst 0, 1) := by decide +kernel
theorem d_M_fails_33 : decode b_M_fails 33 = .ok (.ireturn, 1) := by decide +kernel
abbrev w_M_thrown : List Cond := .code y_M_thrown b_M_thrown 1 (some .int) :: wA
abbrev rm_M_thrown : Room := { frames := 0, cells := 0, slots := 0, locals := 0 }
theorem d_M_thrown_0 : decode b_M_thrown 0 = .ok (.aload_n 0, 1) := by decide +kernel
theorem d_M_thrown_1 : decode b_M_thrown 1 = .ok (.getfield 51, 3) := by decide +kernel
theorem d_M_thrown_4 : decode b_M_thrown 4 = .ok (.ireturn, 1) := by decide +kernel
abbrev w_M_word : List Cond := .code y_M_word b_M_word 1 (some .long) :: wA
abbrev rm_M_word : Room := { frames := 0, cells := 0, slots := 0, locals := 0 }
theorem d_M_word_0 : decode b_M_word 0 = .ok (.aload_n 0, 1) := by decide +kernel
theorem d_M_word_1 : decode b_M_word 1 = .ok (.iconst 0, 1) := by decide +kernel
theorem d_M_word_2 : decode b_M_word 2 = .ok (.putfield 51, 3) := by decide +kernel
theorem d_M_word_5 : decode b_M_word 5 = .ok (.aload_n 0, 1) := by decide +kernel
theorem d_M_word_6 : decode b_M_word 6 = .ok (.getfield 140, 3) := by decide +kernel
theorem d_M_word_9 : decode b_M_word 9 = .ok (.lreturn, 1) := by decide +kernel
abbrev w_M_checkRead : List Cond := .code y_M_checkRead b_M_checkRead 1 (some .int) :: wA
abbrev rm_M_checkRead : Room := { frames := 0, cells := 0, slots := 0, locals := 0 }
theorem d_M_checkRead_0 : decode b_M_checkRead 0 = .ok (.aload_n 0, 1) := by decide +kernel
theorem d_M_checkRead_1 : decode b_M_checkRead 1 = .ok (.iconst 0, 1) := by decide +kernel
theorem d_M_checkRead_2 : decode b_M_checkRead 2 = .ok (.putfield 51, 3) := by decide +kernel
theorem d_M_checkRead_5 : decode b_M_checkRead 5 = .ok (.aload_n 0, 1) := by decide +kernel
theorem d_M_checkRead_6 : decode b_M_checkRead 6 = .ok (.getfield 143, 3) := by decide +kernel
theorem d_M_checkRead_9 : decode b_M_checkRead 9 = .ok (.ireturn, 1) := by decide +kernel
abbrev w_M_turned : List Cond := .code y_M_turned b_M_turned 1 (some .int) :: wA
abbrev rm_M_turned : Room := { frames := 0, cells := 0, slots := 0, locals := 0 }
theorem d_M_turned_0 : decode b_M_turned 0 = .ok (.aload_n 0, 1) := by decide +kernel
theorem d_M_turned_1 : decode b_M_turned 1 = .ok (.iconst 0, 1) := by decide +kernel
theorem d_M_turned_2 : decode b_M_turned 2 = .ok (.putfield 51, 3) := by decide +kernel
theorem d_M_turned_5 : decode b_M_turned 5 = .ok (.aload_n 0, 1) := by decide +kernel
theorem d_M_turned_6 : decode b_M_turned 6 = .ok (.getfield 146, 3) := by decide +kernel
theorem d_M_turned_9 : decode b_M_turned 9 = .ok (.ireturn, 1) := by decide +kernel
abbrev w_M_plain : List Cond := .code y_M_plain b_M_plain 2 (some .boolean) :: wA
abbrev rm_M_plain : Room := { frames := 0, cells := 0, slots := 0, locals := 0 }
theorem d_M_plain_0 : decode b_M_plain 0 = .ok (.aload_n 0, 1) := by decide +kernel
theorem d_M_plain_1 : decode b_M_plain 1 = .ok (.iconst 0, 1) := by decide +kernel
theorem d_M_plain_2 : decode b_M_plain 2 = .ok (.putfield 51, 3) := by decide +kernel
theorem d_M_plain_5 : decode b_M_plain 5 = .ok (.aload_n 0, 1) := by decide +kernel
theorem d_M_plain_6 : decode b_M_plain 6 = .ok (.getfield 89, 3) := by decide +kernel
theorem d_M_plain_9 : decode b_M_plain 9 = .ok (.istore_n 1, 1) := by decide +kernel
theorem d_M_plain_10 : decode b_M_plain 10 = .ok (.aload_n 0, 1) := by decide +kernel
theorem d_M_plain_11 : decode b_M_plain 11 = .ok (.iconst 0, 1) := by decide +kernel
theorem d_M_plain_12 : decode b_M_plain 12 = .ok (.putfield 89, 3) := by decide +kernel
theorem d_M_plain_15 : decode b_M_plain 15 = .ok (.iload_n 1, 1) := by decide +kernel
theorem d_M_plain_16 : decode b_M_plain 16 = .ok (.ireturn, 1) := by decide +kernel
abbrev w_M_size : List Cond := .code y_M_size b_M_size 2 (some .int) :: wA
abbrev rm_M_size : Room := { frames := 0, cells := 0, slots := 0, locals := 0 }
theorem d_M_size_0 : decode b_M_size 0 = .ok (.aload_n 0, 1) := by decide +kernel
theorem d_M_size_1 : decode b_M_size 1 = .ok (.iconst 0, 1) := by decide +kernel
theorem d_M_size_2 : decode b_M_size 2 = .ok (.putfield 51, 3) := by decide +kernel
theorem d_M_size_5 : decode b_M_size 5 = .ok (.iload_n 1, 1) := by decide +kernel
theorem d_M_size_6 : decode b_M_size 6 = .ok (.ifCond .ne 10, 3) := by decide +kernel
theorem d_M_size_9 : decode b_M_size 9 = .ok (.aload_n 0, 1) := by decide +kernel
theorem d_M_size_10 : decode b_M_size 10 = .ok (.getfield 34, 3) := by decide +kernel
theorem d_M_size_13 : decode b_M_size 13 = .ok (.goto 40, 3) := by decide +kernel
theorem d_M_size_16 : decode b_M_size 16 = .ok (.iload_n 1, 1) := by decide +kernel
theorem d_M_size_17 : decode b_M_size 17 = .ok (.iconst 1, 1) := by decide +kernel
theorem d_M_size_18 : decode b_M_size 18 = .ok (.if_icmp .ne 10, 3) := by decide +kernel
theorem d_M_size_21 : decode b_M_size 21 = .ok (.aload_n 0, 1) := by decide +kernel
theorem d_M_size_22 : decode b_M_size 22 = .ok (.getfield 44, 3) := by decide +kernel
theorem d_M_size_25 : decode b_M_size 25 = .ok (.goto 28, 3) := by decide +kernel
theorem d_M_size_28 : decode b_M_size 28 = .ok (.iload_n 1, 1) := by decide +kernel
theorem d_M_size_29 : decode b_M_size 29 = .ok (.iconst 2, 1) := by decide +kernel
theorem d_M_size_30 : decode b_M_size 30 = .ok (.if_icmp .ne 10, 3) := by decide +kernel
theorem d_M_size_33 : decode b_M_size 33 = .ok (.aload_n 0, 1) := by decide +kernel
theorem d_M_size_34 : decode b_M_size 34 = .ok (.getfield 38, 3) := by decide +kernel
theorem d_M_size_37 : decode b_M_size 37 = .ok (.goto 16, 3) := by decide +kernel
theorem d_M_size_40 : decode b_M_size 40 = .ok (.iload_n 1, 1) := by decide +kernel
theorem d_M_size_41 : decode b_M_size 41 = .ok (.iconst 3, 1) := by decide +kernel
theorem d_M_size_42 : decode b_M_size 42 = .ok (.if_icmp .ne 10, 3) := by decide +kernel
theorem d_M_size_45 : decode b_M_size 45 = .ok (.aload_n 0, 1) := by decide +kernel
theorem d_M_size_46 : decode b_M_size 46 = .ok (.getfield 62, 3) := by decide +kernel
theorem d_M_size_49 : decode b_M_size 49 = .ok (.goto 4, 3) := by decide +kernel
theorem d_M_size_52 : decode b_M_size 52 = .ok (.iconst (-1), 1) := by decide +kernel
theorem d_M_size_53 : decode b_M_size 53 = .ok (.ireturn, 1) := by decide +kernel
set_option maxHeartbeats 4000000 in
set_option maxRecDepth 100000 in
theorem c_M_weight (l : Launch) (D : va_G) (g : Nat → ClassId) (sz : Nat) (ws : va_W) (a : Nat) (ha : a < 2 ^ 63) : Met l y_M_weight w_M_weight rm_M_weight (va_Pc [.long (lN a)] (pP D (tyl g) (ws) sz)) (va_Qi (fun (r : Int32) (u : Unit) => r = nI (pcn 64 a)) (fun u => qB D (va_A (ws) sz) (ws)) (va_A (ws) sz)) 0 0 (va_A (ws) sz) := by
  refine Met.ofW (cc := b_M_weight) (maxL := 4) (ret := (some .int)) (by decide +kernel) rfl ?_
  intro p e s m args below meth c s₁ Bq hml hv
  have hx := Bq.exec
  have hb := Bq.bytes
  have hr := Bq.returns
  have hts : ∀ w ∈ wA, w.before args s = true := fun w h => atoms_spec (ws := w_M_weight) Bq.pre w (List.mem_cons_of_mem _ h)
  have hown : s.vm.findClass R_M = some m.cls := findClass_of_methodNamed Bq.named
  have hlocks := Bq.notSynchronized
  obtain ⟨rfl, hsz, hP, hKK, hD0⟩ := hv
  have hK := hKK.1
  subst hsz
  have hD := hD0.self (sz := s.heap.size)
  generalize hAe : va_A (ws) s.heap.size = A at hD ⊢
  have hA : ∀ q : Nat, s.heap.size ≤ q → A q := fun q h => by rw [← hAe]; exact Or.inr h
  have hS : va_S A s.heap s.heap [] := va_S.rf
  have hl := lv_entry ([.long (lN a)]) (n := 4) (Nat.le_of_ble_eq_true rfl)
  rw [lg_entry_eq]
  generalize (lg_sl ([.long (lN a)]) ++ List.replicate (4 - (lg_sl ([.long (lN a)])).length) Slot.unset).toArray = ls at hl ⊢
  have hl : lv_has ls 4 [(0, .long (lN a))] := hl
  generalize hQ : MQ below (va_Qi (fun (r : Int32) (u : Unit) => r = nI (pcn 64 a)) (fun u => qB D (A) (ws)) (A)) [.long (lN a)].toArray s 0 0 A = Q
  have lp4 : ∀ (n : Nat) (k : Nat) (ls : Array Slot) (H : Heap) (locs : List Loc), (65 ≤ k + n) → (k ≤ 64) → lv_has ls 4 [(0, .long (lN a)), (2, .int (nI (wtl a k))), (3, .int (nI k))] → va_P D vwCl (ws) H → va_D A (ws) → va_S A s.heap H locs → W p l e (headSpec w_M_weight rm_M_weight).room s m [.long (lN a)].toArray below meth c H locs 0 0 Q (F0 m 4 ls []) := by
    intro n
    induction n with
    | zero => intro k ls H locs hfu hk _ _ _ _; exact absurd hfu (by omega)
    | succ n ih =>
      intro k ls H locs hfu hk hl hP hD hS
      refine lv_iload_n hx hb d_M_weight_4 rfl (lv_at hl 2 rfl) ?_
      refine lv_bipush (v := nI 64) hx hb d_M_weight_5 (by decide) ?_
      refine lx_icmp_ge (tgt := 25) hx hb d_M_weight_7 (by decide) (by omega) (by omega) (fun c7 => ?_) (fun c7 => ?_)
      · skip
        refine lv_iload_n hx hb d_M_weight_25 rfl (lv_at hl 1 rfl) ?_
        rw [← hQ]
        refine W.iret (v := nI (wtl a k)) hx hb hr ?_ hS.2.2 d_M_weight_26
        exact fun t ht hW => ⟨⟨nI (wtl a k), (), rfl, (by rw [show k = 64 by omega, wtl_eq]), by rw [ht]; exact hP, hD⟩, hS.F ht⟩
      · skip
        refine lv_iload_n hx hb d_M_weight_10 rfl (lv_at hl 1 rfl) ?_
        refine lv_lload_n hx hb d_M_weight_11 rfl (lv_at hl 0 rfl) ?_
        refine lv_iload_n hx hb d_M_weight_12 rfl (lv_at hl 2 rfl) ?_
        refine lv_lshr (v := lN (a >>> k)) hx hb d_M_weight_13 (xl_sshr ha (by omega)) ?_
        refine lv_lconst (v := lN 1) hx hb d_M_weight_14 (by decide) ?_
        refine lx_land (z := lN (a >>> k % 2)) hx hb d_M_weight_15 ((xl_and _ _).trans (by rw [Nat.and_one_is_mod])) ?_
        refine lv_l2i (v := nI (a >>> k % 2)) hx hb d_M_weight_16 (lN_i (a >>> k % 2)) ?_
        refine lx_iadd (z := nI (wtl a (k + 1))) hx hb d_M_weight_17 (nI_add _ _) ?_
        refine lv_istore_n (lv' := [(2, .int (nI (wtl a (k + 1)))), (0, .long (lN a)), (3, .int (nI k))]) hx hb d_M_weight_18 rfl hl (by decide) rfl (fun ls hl => ?_)
        refine lv_iinc (v := nI (k + 1)) (lv' := [(3, .int (nI (k + 1))), (2, .int (nI (wtl a (k + 1)))), (0, .long (lN a))]) hx hb d_M_weight_19 hl (k := 2) rfl (nI_1 k) (by decide) rfl (fun ls hl => ?_)
        refine lv_goto (tgt := 4) hx hb d_M_weight_22 (by decide) ?_
        exact ih (k + 1) _ _ _ (by omega) (by omega) (lv_sub hl [2, 1, 0] rfl) hP hD hS
  refine lv_iconst (v := nI 0) hx hb d_M_weight_0 (by decide) ?_
  refine lv_istore_n (lv' := [(2, .int (nI 0)), (0, .long (lN a))]) hx hb d_M_weight_1 rfl hl (by decide) rfl (fun ls hl => ?_)
  refine lv_iconst (v := nI 0) hx hb d_M_weight_2 (by decide) ?_
  refine lv_istore_n (lv' := [(3, .int (nI 0)), (2, .int (nI 0)), (0, .long (lN a))]) hx hb d_M_weight_3 rfl hl (by decide) rfl (fun ls hl => ?_)
  exact lp4 65 0 _ _ _ (by omega) (by omega) (lv_sub hl [2, 1, 0] rfl) hP hD hS
set_option maxHeartbeats 4000000 in
set_option maxRecDepth 100000 in
theorem c_M_times (l : Launch) (D : va_G) (g : Nat → ClassId) (sz : Nat) (ws : va_W) (a b : Nat) (ha : a < 16) (hb9 : b < 16) : Met l y_M_times w_M_times rm_M_times (va_Pc [.int (nI a), .int (nI b)] (pP D (tyl g) (ws) sz)) (va_Qi (fun (r : Int32) (u : Unit) => r = nI (tms a b)) (fun u => qB D (va_A (ws) sz) (ws)) (va_A (ws) sz)) 0 0 (va_A (ws) sz) := by
  refine Met.ofW (cc := b_M_times) (maxL := 4) (ret := (some .int)) (by decide +kernel) rfl ?_
  intro p e s m args below meth c s₁ Bq hml hv
  have hx := Bq.exec
  have hb := Bq.bytes
  have hr := Bq.returns
  have hts : ∀ w ∈ wA, w.before args s = true := fun w h => atoms_spec (ws := w_M_times) Bq.pre w (List.mem_cons_of_mem _ h)
  have hown : s.vm.findClass R_M = some m.cls := findClass_of_methodNamed Bq.named
  have hlocks := Bq.notSynchronized
  obtain ⟨rfl, hsz, hP, hKK, hD0⟩ := hv
  have hK := hKK.1
  subst hsz
  have hD := hD0.self (sz := s.heap.size)
  generalize hAe : va_A (ws) s.heap.size = A at hD ⊢
  have hA : ∀ q : Nat, s.heap.size ≤ q → A q := fun q h => by rw [← hAe]; exact Or.inr h
  have hS : va_S A s.heap s.heap [] := va_S.rf
  have hl := lv_entry ([.int (nI a), .int (nI b)]) (n := 4) (Nat.le_of_ble_eq_true rfl)
  rw [lg_entry_eq]
  generalize (lg_sl ([.int (nI a), .int (nI b)]) ++ List.replicate (4 - (lg_sl ([.int (nI a), .int (nI b)])).length) Slot.unset).toArray = ls at hl ⊢
  have hl : lv_has ls 4 [(0, .int (nI a)), (1, .int (nI b))] := hl
  generalize hQ : MQ below (va_Qi (fun (r : Int32) (u : Unit) => r = nI (tms a b)) (fun u => qB D (A) (ws)) (A)) [.int (nI a), .int (nI b)].toArray s 0 0 A = Q
  have h1 := tA_lt a ha b hb9
  have h2 := tB_lt (tA a b 4) (h1 4 (by decide))
  have lp37 : ∀ (n : Nat) (d : Nat) (ls : Array Slot) (H : Heap) (locs : List Loc), (4 ≤ d + n) → (d ≤ 3) → lv_has ls 4 [(2, .int (nI (tB (tA a b 4) d))), (3, .int (nI (6 - d)))] → va_P D vwCl (ws) H → va_D A (ws) → va_S A s.heap H locs → W p l e (headSpec w_M_times rm_M_times).room s m [.int (nI a), .int (nI b)].toArray below meth c H locs 0 0 Q (F0 m 37 ls []) := by
    intro n
    induction n with
    | zero => intro d ls H locs hfu hd9 _ _ _ _; exact absurd hfu (by omega)
    | succ n ih =>
      intro d ls H locs hfu hd9 hl hP hD hS
      refine lv_iload_n hx hb d_M_times_37 rfl (lv_at hl 1 rfl) ?_
      refine lv_iconst (v := nI 3) hx hb d_M_times_38 (by decide) ?_
      refine lx_icmp_le (tgt := 70) hx hb d_M_times_39 (by decide) (by omega) (by omega) (fun c39 => ?_) (fun c39 => ?_)
      · skip
        refine lv_iload_n hx hb d_M_times_70 rfl (lv_at hl 0 rfl) ?_
        rw [← hQ]
        refine W.iret (v := nI (tB (tA a b 4) d)) hx hb hr ?_ hS.2.2 d_M_times_71
        exact fun t ht hW => ⟨⟨nI (tB (tA a b 4) d), (), rfl, (by rw [show d = 3 by omega]; rfl), by rw [ht]; exact hP, hD⟩, hS.F ht⟩
      · skip
        have h3 := h2 d (by omega)
        refine lv_iload_n hx hb d_M_times_42 rfl (lv_at hl 0 rfl) ?_
        refine lv_iload_n hx hb d_M_times_43 rfl (lv_at hl 0 rfl) ?_
        refine lv_iload_n hx hb d_M_times_44 rfl (lv_at hl 1 rfl) ?_
        refine lx_ishr (z := nI (tB (tA a b 4) d >>> (6 - d))) hx hb d_M_times_45 (xn_sshr (by omega) (by omega)) ?_
        refine lv_iconst (v := nI 1) hx hb d_M_times_46 (by decide) ?_
        refine lx_iand (z := nI (tB (tA a b 4) d >>> (6 - d) % 2)) hx hb d_M_times_47 ((xn_and _ _).trans (by rw [Nat.and_one_is_mod])) ?_
        refine lv_iconst (v := nI 1) hx hb d_M_times_48 (by decide) ?_
        refine lx_icmp_ne (tgt := 61) hx hb d_M_times_49 (by decide) (by omega) (by omega) (fun c49 => ?_) (fun c49 => ?_)
        · skip
          refine lv_iconst (v := nI 0) hx hb d_M_times_61 (by decide) ?_
          refine lx_ixor (z := nI (tB (tA a b 4) (d + 1))) hx hb d_M_times_62 ((xn_xor _ _).trans (by show _ = nI (tB (tA a b 4) d ^^^ _); rw [if_neg c49])) ?_
          refine lv_istore_n (lv' := [(2, .int (nI (tB (tA a b 4) (d + 1)))), (3, .int (nI (6 - d)))]) hx hb d_M_times_63 rfl hl (by decide) rfl (fun ls hl => ?_)
          refine lv_iinc (v := nI (6 - (d + 1))) (lv' := [(3, .int (nI (6 - (d + 1)))), (2, .int (nI (tB (tA a b 4) (d + 1))))]) hx hb d_M_times_64 hl (k := 1) rfl (by rw [show 6 - d = 6 - (d + 1) + 1 by omega]; exact nI_dec _) (by decide) rfl (fun ls hl => ?_)
          refine lv_goto (tgt := 37) hx hb d_M_times_67 (by decide) ?_
          exact ih (d + 1) _ _ _ (by omega) (by omega) (lv_sub hl [1, 0] rfl) hP hD hS
        · skip
          refine lv_bipush (v := nI 19) hx hb d_M_times_52 (by decide) ?_
          refine lv_iload_n hx hb d_M_times_54 rfl (lv_at hl 1 rfl) ?_
          refine lv_iconst (v := nI 4) hx hb d_M_times_55 (by decide) ?_
          refine lx_isub (z := nI (2 - d)) hx hb d_M_times_56 ((pk_sub (by omega)).trans (by rw [show 6 - d - 4 = 2 - d by omega])) ?_
          refine lx_ishl (z := nI (19 <<< (2 - d))) hx hb d_M_times_57 (xn_shl _ (by omega)) ?_
          refine lv_goto (tgt := 62) hx hb d_M_times_58 (by decide) ?_
          refine lx_ixor (z := nI (tB (tA a b 4) (d + 1))) hx hb d_M_times_62 ((xn_xor _ _).trans (by show _ = nI (tB (tA a b 4) d ^^^ _); rw [if_pos c49])) ?_
          refine lv_istore_n (lv' := [(2, .int (nI (tB (tA a b 4) (d + 1)))), (3, .int (nI (6 - d)))]) hx hb d_M_times_63 rfl hl (by decide) rfl (fun ls hl => ?_)
          refine lv_iinc (v := nI (6 - (d + 1))) (lv' := [(3, .int (nI (6 - (d + 1)))), (2, .int (nI (tB (tA a b 4) (d + 1))))]) hx hb d_M_times_64 hl (k := 1) rfl (by rw [show 6 - d = 6 - (d + 1) + 1 by omega]; exact nI_dec _) (by decide) rfl (fun ls hl => ?_)
          refine lv_goto (tgt := 37) hx hb d_M_times_67 (by decide) ?_
          exact ih (d + 1) _ _ _ (by omega) (by omega) (lv_sub hl [1, 0] rfl) hP hD hS
  have lp4 : ∀ (n : Nat) (k : Nat) (ls : Array Slot) (H : Heap) (locs : List Loc), (5 ≤ k + n) → (k ≤ 4) → lv_has ls 4 [(0, .int (nI a)), (1, .int (nI b)), (2, .int (nI (tA a b k))), (3, .int (nI k))] → va_P D vwCl (ws) H → va_D A (ws) → va_S A s.heap H locs → W p l e (headSpec w_M_times rm_M_times).room s m [.int (nI a), .int (nI b)].toArray below meth c H locs 0 0 Q (F0 m 4 ls []) := by
    intro n
    induction n with
    | zero => intro k ls H locs hfu hk _ _ _ _; exact absurd hfu (by omega)
    | succ n ih =>
      intro k ls H locs hfu hk hl hP hD hS
      refine lv_iload_n hx hb d_M_times_4 rfl (lv_at hl 3 rfl) ?_
      refine lv_iconst (v := nI 4) hx hb d_M_times_5 (by decide) ?_
      refine lx_icmp_ge (tgt := 34) hx hb d_M_times_6 (by decide) (by omega) (by omega) (fun c6 => ?_) (fun c6 => ?_)
      · skip
        obtain rfl : k = 4 := by omega
        refine lv_bipush (v := nI 6) hx hb d_M_times_34 (by decide) ?_
        refine lv_istore_n (lv' := [(3, .int (nI 6)), (0, .int (nI a)), (1, .int (nI b)), (2, .int (nI (tA a b 4)))]) hx hb d_M_times_36 rfl hl (by decide) rfl (fun ls hl => ?_)
        have hl : lv_has ls 4 [(3, .int (nI 6)), (0, .int (nI a)), (1, .int (nI b)), (2, .int (nI (tA a b 4)))] := hl
        have hl : lv_has ls 4 [(3, .int (nI (6 - 0))), (0, .int (nI a)), (1, .int (nI b)), (2, .int (nI (tB (tA a b 4) 0)))] := hl
        exact lp37 4 0 _ _ _ (by omega) (by omega) (lv_sub hl [3, 0] rfl) hP hD hS
      · skip
        have h3 := h1 k (by omega)
        refine lv_iload_n hx hb d_M_times_9 rfl (lv_at hl 2 rfl) ?_
        refine lv_iload_n hx hb d_M_times_10 rfl (lv_at hl 1 rfl) ?_
        refine lv_iload_n hx hb d_M_times_11 rfl (lv_at hl 3 rfl) ?_
        refine lx_ishr (z := nI (b >>> k)) hx hb d_M_times_12 (xn_sshr (by omega) (by omega)) ?_
        refine lv_iconst (v := nI 1) hx hb d_M_times_13 (by decide) ?_
        refine lx_iand (z := nI (b >>> k % 2)) hx hb d_M_times_14 ((xn_and _ _).trans (by rw [Nat.and_one_is_mod])) ?_
        refine lv_iconst (v := nI 1) hx hb d_M_times_15 (by decide) ?_
        refine lx_icmp_ne (tgt := 25) hx hb d_M_times_16 (by decide) (by omega) (by omega) (fun c16 => ?_) (fun c16 => ?_)
        · skip
          refine lv_iconst (v := nI 0) hx hb d_M_times_25 (by decide) ?_
          refine lx_ixor (z := nI (tA a b (k + 1))) hx hb d_M_times_26 ((xn_xor _ _).trans (by show _ = nI (tA a b k ^^^ _); rw [if_neg c16])) ?_
          refine lv_istore_n (lv' := [(2, .int (nI (tA a b (k + 1)))), (0, .int (nI a)), (1, .int (nI b)), (3, .int (nI k))]) hx hb d_M_times_27 rfl hl (by decide) rfl (fun ls hl => ?_)
          refine lv_iinc (v := nI (k + 1)) (lv' := [(3, .int (nI (k + 1))), (2, .int (nI (tA a b (k + 1)))), (0, .int (nI a)), (1, .int (nI b))]) hx hb d_M_times_28 hl (k := 3) rfl (nI_1 k) (by decide) rfl (fun ls hl => ?_)
          refine lv_goto (tgt := 4) hx hb d_M_times_31 (by decide) ?_
          exact ih (k + 1) _ _ _ (by omega) (by omega) (lv_sub hl [2, 3, 1, 0] rfl) hP hD hS
        · skip
          refine lv_iload_n hx hb d_M_times_19 rfl (lv_at hl 0 rfl) ?_
          refine lv_iload_n hx hb d_M_times_20 rfl (lv_at hl 3 rfl) ?_
          refine lx_ishl (z := nI (a <<< k)) hx hb d_M_times_21 (xn_shl _ (by omega)) ?_
          refine lv_goto (tgt := 26) hx hb d_M_times_22 (by decide) ?_
          refine lx_ixor (z := nI (tA a b (k + 1))) hx hb d_M_times_26 ((xn_xor _ _).trans (by show _ = nI (tA a b k ^^^ _); rw [if_pos c16])) ?_
          refine lv_istore_n (lv' := [(2, .int (nI (tA a b (k + 1)))), (0, .int (nI a)), (1, .int (nI b)), (3, .int (nI k))]) hx hb d_M_times_27 rfl hl (by decide) rfl (fun ls hl => ?_)
          refine lv_iinc (v := nI (k + 1)) (lv' := [(3, .int (nI (k + 1))), (2, .int (nI (tA a b (k + 1)))), (0, .int (nI a)), (1, .int (nI b))]) hx hb d_M_times_28 hl (k := 3) rfl (nI_1 k) (by decide) rfl (fun ls hl => ?_)
          refine lv_goto (tgt := 4) hx hb d_M_times_31 (by decide) ?_
          exact ih (k + 1) _ _ _ (by omega) (by omega) (lv_sub hl [2, 3, 1, 0] rfl) hP hD hS
  refine lv_iconst (v := nI 0) hx hb d_M_times_0 (by decide) ?_
  refine lv_istore_n (lv' := [(2, .int (nI 0)), (0, .int (nI a)), (1, .int (nI b))]) hx hb d_M_times_1 rfl hl (by decide) rfl (fun ls hl => ?_)
  refine lv_iconst (v := nI 0) hx hb d_M_times_2 (by decide) ?_
  refine lv_istore_n (lv' := [(3, .int (nI 0)), (2, .int (nI 0)), (0, .int (nI a)), (1, .int (nI b))]) hx hb d_M_times_3 rfl hl (by decide) rfl (fun ls hl => ?_)
  exact lp4 5 0 _ _ _ (by omega) (by omega) (lv_sub hl [2, 3, 1, 0] rfl) hP hD hS
set_option maxHeartbeats 4000000 in
set_option maxRecDepth 100000 in
theorem c_M_power (l : Launch) (D : va_G) (g : Nat → ClassId) (sz : Nat) (ws : va_W) (j : Nat) (hj : j < 31) : Met l y_M_power w_M_power rm_M_power (va_Pc [.int (nI j)] (pP D (tyl g) (ws) sz)) (va_Qi (fun (r : Int32) (u : Unit) => r = nI (rz 1 j)) (fun u => qB D (va_A (ws) sz) (ws)) (va_A (ws) sz)) 0 0 (va_A (ws) sz) := by
  refine Met.ofW (cc := b_M_power) (maxL := 3) (ret := (some .int)) (by decide +kernel) rfl ?_
  intro p e s m args below meth c s₁ Bq hml hv
  have hx := Bq.exec
  have hb := Bq.bytes
  have hr := Bq.returns
  have hts : ∀ w ∈ wA, w.before args s = true := fun w h => atoms_spec (ws := w_M_power) Bq.pre w (List.mem_cons_of_mem _ h)
  have hown : s.vm.findClass R_M = some m.cls := findClass_of_methodNamed Bq.named
  have hlocks := Bq.notSynchronized
  obtain ⟨rfl, hsz, hP, hKK, hD0⟩ := hv
  have hK := hKK.1
  subst hsz
  have hD := hD0.self (sz := s.heap.size)
  generalize hAe : va_A (ws) s.heap.size = A at hD ⊢
  have hA : ∀ q : Nat, s.heap.size ≤ q → A q := fun q h => by rw [← hAe]; exact Or.inr h
  have hS : va_S A s.heap s.heap [] := va_S.rf
  have hl := lv_entry ([.int (nI j)]) (n := 3) (Nat.le_of_ble_eq_true rfl)
  rw [lg_entry_eq]
  generalize (lg_sl ([.int (nI j)]) ++ List.replicate (3 - (lg_sl ([.int (nI j)])).length) Slot.unset).toArray = ls at hl ⊢
  have hl : lv_has ls 3 [(0, .int (nI j))] := hl
  generalize hQ : MQ below (va_Qi (fun (r : Int32) (u : Unit) => r = nI (rz 1 j)) (fun u => qB D (A) (ws)) (A)) [.int (nI j)].toArray s 0 0 A = Q
  have lp4 : ∀ (n : Nat) (k : Nat) (ls : Array Slot) (H : Heap) (locs : List Loc), (j + 1 ≤ k + n) → (k ≤ j) → lv_has ls 3 [(0, .int (nI j)), (1, .int (nI (rz 1 k))), (2, .int (nI k))] → va_P D vwCl (ws) H → va_D A (ws) → va_S A s.heap H locs → W p l e (headSpec w_M_power rm_M_power).room s m [.int (nI j)].toArray below meth c H locs 0 0 Q (F0 m 4 ls []) := by
    intro n
    induction n with
    | zero => intro k ls H locs hfu hk _ _ _ _; exact absurd hfu (by omega)
    | succ n ih =>
      intro k ls H locs hfu hk hl hP hD hS
      refine lv_iload_n hx hb d_M_power_4 rfl (lv_at hl 2 rfl) ?_
      refine lv_iload_n hx hb d_M_power_5 rfl (lv_at hl 0 rfl) ?_
      refine lx_icmp_ge (tgt := 21) hx hb d_M_power_6 (by decide) (by omega) (by omega) (fun c6 => ?_) (fun c6 => ?_)
      · skip
        refine lv_iload_n hx hb d_M_power_21 rfl (lv_at hl 1 rfl) ?_
        rw [← hQ]
        refine W.iret (v := nI (rz 1 k)) hx hb hr ?_ hS.2.2 d_M_power_22
        exact fun t ht hW => ⟨⟨nI (rz 1 k), (), rfl, (by rw [show k = j by omega]), by rw [ht]; exact hP, hD⟩, hS.F ht⟩
      · skip
        have hr9 := rz_lt (e := 1) (by decide) k
        refine lv_iload_n hx hb d_M_power_9 rfl (lv_at hl 1 rfl) ?_
        refine lv_iconst (v := nI 2) hx hb d_M_power_10 (by decide) ?_
        refine lc_Si (As := [.int (nI (rz 1 k)), .int (nI 2)]) (rest := []) ⟨hx, hb, hml, hown, hts⟩ (c_M_times l D g _ ws (rz 1 k) 2 hr9 (by decide)) (kS 2 hts m_726 m_724 m_725 m_40 (by decide +kernel) ⟨Nat.le_of_ble_eq_true rfl, Nat.le_of_ble_eq_true rfl⟩) hKK hP hD hS hA hl.1 rfl rfl (Nat.le_of_ble_eq_true rfl) d_M_power_11 ⟨Nat.le_of_ble_eq_true rfl, Nat.le_of_ble_eq_true rfl⟩ (fun r1 u H locs e1 hP hD hS => ?_)
        obtain rfl : r1 = nI (rz 1 (k + 1)) := e1.trans (by rw [tms_2 _ hr9]; rfl)
        refine lv_istore_n (lv' := [(1, .int (nI (rz 1 (k + 1)))), (0, .int (nI j)), (2, .int (nI k))]) hx hb d_M_power_14 rfl hl (by decide) rfl (fun ls hl => ?_)
        refine lv_iinc (v := nI (k + 1)) (lv' := [(2, .int (nI (k + 1))), (1, .int (nI (rz 1 (k + 1)))), (0, .int (nI j))]) hx hb d_M_power_15 hl (k := 2) rfl (nI_1 k) (by decide) rfl (fun ls hl => ?_)
        refine lv_goto (tgt := 4) hx hb d_M_power_18 (by decide) ?_
        exact ih (k + 1) _ _ _ (by omega) (by omega) (lv_sub hl [2, 1, 0] rfl) hP hD hS
  refine lv_iconst (v := nI 1) hx hb d_M_power_0 (by decide) ?_
  refine lv_istore_n (lv' := [(1, .int (nI 1)), (0, .int (nI j))]) hx hb d_M_power_1 rfl hl (by decide) rfl (fun ls hl => ?_)
  refine lv_iconst (v := nI 0) hx hb d_M_power_2 (by decide) ?_
  refine lv_istore_n (lv' := [(2, .int (nI 0)), (1, .int (nI 1)), (0, .int (nI j))]) hx hb d_M_power_3 rfl hl (by decide) rfl (fun ls hl => ?_)
  exact lp4 (j + 1) 0 _ _ _ (by omega) (by omega) (lv_sub hl [2, 1, 0] rfl) hP hD hS
set_option maxHeartbeats 4000000 in
set_option maxRecDepth 100000 in
theorem c_M_in (l : Launch) (D : va_G) (g : Nat → ClassId) (sz : Nat) (ws : va_W) (v : Int32) (n0 : Nat) (hn0 : n0 < 2 ^ 31) (hn1 : 0 < n0) : Met l y_M_in w_M_in rm_M_in (va_Pc [.int (v), .int (nI 0), .int (nI (n0 - 1))] (pP D (tyl g) (ws) sz)) (va_Qi (fun (r : Int32) (u : Unit) => r = nI (inBb n0 v)) (fun u => qB D (va_A (ws) sz) (ws)) (va_A (ws) sz)) 0 0 (va_A (ws) sz) := by
  refine Met.ofW (cc := b_M_in) (maxL := 3) (ret := (some .boolean)) (by decide +kernel) rfl ?_
  intro p e s m args below meth c s₁ Bq hml hv
  have hx := Bq.exec
  have hb := Bq.bytes
  have hr := Bq.returns
  have hts : ∀ w ∈ wA, w.before args s = true := fun w h => atoms_spec (ws := w_M_in) Bq.pre w (List.mem_cons_of_mem _ h)
  have hown : s.vm.findClass R_M = some m.cls := findClass_of_methodNamed Bq.named
  have hlocks := Bq.notSynchronized
  obtain ⟨rfl, hsz, hP, hKK, hD0⟩ := hv
  have hK := hKK.1
  subst hsz
  have hD := hD0.self (sz := s.heap.size)
  generalize hAe : va_A (ws) s.heap.size = A at hD ⊢
  have hA : ∀ q : Nat, s.heap.size ≤ q → A q := fun q h => by rw [← hAe]; exact Or.inr h
  have hS : va_S A s.heap s.heap [] := va_S.rf
  have hl := lv_entry ([.int (v), .int (nI 0), .int (nI (n0 - 1))]) (n := 3) (Nat.le_of_ble_eq_true rfl)
  rw [lg_entry_eq]
  generalize (lg_sl ([.int (v), .int (nI 0), .int (nI (n0 - 1))]) ++ List.replicate (3 - (lg_sl ([.int (v), .int (nI 0), .int (nI (n0 - 1))])).length) Slot.unset).toArray = ls at hl ⊢
  have hl : lv_has ls 3 [(0, .int (v)), (1, .int (nI 0)), (2, .int (nI (n0 - 1)))] := hl
  generalize hQ : MQ below (va_Qi (fun (r : Int32) (u : Unit) => r = nI (inBb n0 v)) (fun u => qB D (A) (ws)) (A)) [.int (v), .int (nI 0), .int (nI (n0 - 1))].toArray s 0 0 A = Q
  refine lv_iload_n hx hb d_M_in_0 rfl (lv_at hl 0 rfl) ?_
  refine lv_iload_n hx hb d_M_in_1 rfl (lv_at hl 1 rfl) ?_
  refine lv_icmp_lt (tgt := 14) hx hb d_M_in_2 (by decide) (fun c2 => ?_) (fun c2 => ?_)
  · skip
    refine lv_iconst (v := nI 0) hx hb d_M_in_14 (by decide) ?_
    rw [← hQ]
    refine W.zret (v := nI 0) (ty := .boolean) hx hb hr (rfl) ?_ hS.2.2 d_M_in_15
    exact fun t ht hW => ⟨⟨nI 0, (), rfl, (by unfold inBb; rw [if_pos (by rw [← nI_0]; exact c2)]), by rw [ht]; exact hP, hD⟩, hS.F ht⟩
  · skip
    refine lv_iload_n hx hb d_M_in_5 rfl (lv_at hl 0 rfl) ?_
    refine lv_iload_n hx hb d_M_in_6 rfl (lv_at hl 2 rfl) ?_
    refine lv_icmp_gt (tgt := 14) hx hb d_M_in_7 (by decide) (fun c7 => ?_) (fun c7 => ?_)
    · skip
      refine lv_iconst (v := nI 0) hx hb d_M_in_14 (by decide) ?_
      rw [← hQ]
      refine W.zret (v := nI 0) (ty := .boolean) hx hb hr (rfl) ?_ hS.2.2 d_M_in_15
      exact fun t ht hW => ⟨⟨nI 0, (), rfl, (by rw [inBb_hi hn0 hn1 c7]), by rw [ht]; exact hP, hD⟩, hS.F ht⟩
    · skip
      refine lv_iconst (v := nI 1) hx hb d_M_in_10 (by decide) ?_
      refine lv_goto (tgt := 15) hx hb d_M_in_11 (by decide) ?_
      rw [← hQ]
      refine W.zret (v := nI 1) (ty := .boolean) hx hb hr (rfl) ?_ hS.2.2 d_M_in_15
      exact fun t ht hW => ⟨⟨nI 1, (), rfl, (by rw [inBb_lo hn0 hn1 c2 c7]), by rw [ht]; exact hP, hD⟩, hS.F ht⟩
set_option maxHeartbeats 4000000 in
set_option maxRecDepth 100000 in
theorem c_M_has (l : Launch) (D : va_G) (g : Nat → ClassId) (sz : Nat) (ws : va_W) (a k : Nat) (ha : a < 2 ^ 64) (hk : k < 64) : Met l y_M_has w_M_has rm_M_has (va_Pc [.long (lN a), .int (nI k)] (pP D (tyl g) (ws) sz)) (va_Qi (fun (r : Int32) (u : Unit) => r = nI (if a.testBit k then 1 else 0)) (fun u => qB D (va_A (ws) sz) (ws)) (va_A (ws) sz)) 0 0 (va_A (ws) sz) := by
  refine Met.ofW (cc := b_M_has) (maxL := 3) (ret := (some .boolean)) (by decide +kernel) rfl ?_
  intro p e s m args below meth c s₁ Bq hml hv
  have hx := Bq.exec
  have hb := Bq.bytes
  have hr := Bq.returns
  have hts : ∀ w ∈ wA, w.before args s = true := fun w h => atoms_spec (ws := w_M_has) Bq.pre w (List.mem_cons_of_mem _ h)
  have hown : s.vm.findClass R_M = some m.cls := findClass_of_methodNamed Bq.named
  have hlocks := Bq.notSynchronized
  obtain ⟨rfl, hsz, hP, hKK, hD0⟩ := hv
  have hK := hKK.1
  subst hsz
  have hD := hD0.self (sz := s.heap.size)
  generalize hAe : va_A (ws) s.heap.size = A at hD ⊢
  have hA : ∀ q : Nat, s.heap.size ≤ q → A q := fun q h => by rw [← hAe]; exact Or.inr h
  have hS : va_S A s.heap s.heap [] := va_S.rf
  have hl := lv_entry ([.long (lN a), .int (nI k)]) (n := 3) (Nat.le_of_ble_eq_true rfl)
  rw [lg_entry_eq]
  generalize (lg_sl ([.long (lN a), .int (nI k)]) ++ List.replicate (3 - (lg_sl ([.long (lN a), .int (nI k)])).length) Slot.unset).toArray = ls at hl ⊢
  have hl : lv_has ls 3 [(0, .long (lN a)), (2, .int (nI k))] := hl
  generalize hQ : MQ below (va_Qi (fun (r : Int32) (u : Unit) => r = nI (if a.testBit k then 1 else 0)) (fun u => qB D (A) (ws)) (A)) [.long (lN a), .int (nI k)].toArray s 0 0 A = Q
  refine lv_lload_n hx hb d_M_has_0 rfl (lv_at hl 0 rfl) ?_
  refine lv_iload_n hx hb d_M_has_1 rfl (lv_at hl 1 rfl) ?_
  refine lv_lshr (v := (lN a) >>> ((nI k).toInt64 &&& 63)) hx hb d_M_has_2 (rfl) ?_
  refine lv_lconst (v := lN 1) hx hb d_M_has_3 (by decide) ?_
  refine lx_land (z := lN (a >>> k % 2)) hx hb d_M_has_4 (xl_bit ha hk) ?_
  refine lv_lconst (v := lN 1) hx hb d_M_has_5 (by decide) ?_
  refine lx_lcmp_ne (tgt := 14) hx hb d_M_has_6 d_M_has_7 (by decide) (fun c6 => ?_) (fun c6 => ?_)
  · skip
    refine lv_iconst (v := nI 0) hx hb d_M_has_14 (by decide) ?_
    rw [← hQ]
    refine W.zret (v := nI 0) (ty := .boolean) hx hb hr (rfl) ?_ hS.2.2 d_M_has_15
    exact fun t ht hW => ⟨⟨nI 0, (), rfl, (by rw [xs_bit, decide_eq_false (fun q => c6 (by rw [q]))]; rfl), by rw [ht]; exact hP, hD⟩, hS.F ht⟩
  · skip
    refine lv_iconst (v := nI 1) hx hb d_M_has_10 (by decide) ?_
    refine lv_goto (tgt := 15) hx hb d_M_has_11 (by decide) ?_
    rw [← hQ]
    refine W.zret (v := nI 1) (ty := .boolean) hx hb hr (rfl) ?_ hS.2.2 d_M_has_15
    exact fun t ht hW => ⟨⟨nI 1, (), rfl, (by rw [xs_bit, decide_eq_true (xl_inj (by omega) (by decide) c6)]; rfl), by rw [ht]; exact hP, hD⟩, hS.F ht⟩
set_option maxHeartbeats 4000000 in
set_option maxRecDepth 100000 in
theorem c_M_all (l : Launch) (D : va_G) (g : Nat → ClassId) (sz : Nat) (wm : va_W) (mo wi ck fq co sq uq gq kd M ifo fl : Nat) (th mk bi ch9 tu9 : Int32) (ma wo9 : Int64) (fw fc ff fco fsq fu fg : Nat → Int32) (hM0 : 0 < M) (hM : M ≤ 57)  : Met l y_M_all w_M_all rm_M_all (va_Pc [.ref mo] (pP D (tyl g) ((mo, .inr (6, [.int (th), .int (nI M), .int (nI kd), .int (nI (ckb kd M)), .int (nI (nk kd)), .ref wi, .ref ck, .ref fq, .ref co, .int (nI (grsK kd M)), .int (nI ifo), .int (nI fl), .long (ma), .int (mk), .int (bi), .long (wo9), .int (ch9), .int (tu9), .ref sq, .ref uq, .ref gq])) :: (wi, .inl (g 0, 4, .inl (fw))) :: (ck, .inl (g 0, 4, .inl (fc))) :: (fq, .inl (g 0, 4, .inl (ff))) :: (co, .inl (g 0, 228, .inl (fco))) :: (sq, .inl (g 0, 8, .inl (fsq))) :: (uq, .inl (g 2, 128, .inl (fu))) :: (gq, .inl (g 0, 7, .inl (fg))) :: wm) sz)) (va_Ql (fun (r : Int64) (u : Unit) => r = lN (2 ^ M - 1)) (fun u => qB D (va_A ((mo, .inr (6, [.int (th), .int (nI M), .int (nI kd), .int (nI (ckb kd M)), .int (nI (nk kd)), .ref wi, .ref ck, .ref fq, .ref co, .int (nI (grsK kd M)), .int (nI ifo), .int (nI fl), .long (ma), .int (mk), .int (bi), .long (wo9), .int (ch9), .int (tu9), .ref sq, .ref uq, .ref gq])) :: (wi, .inl (g 0, 4, .inl (fw))) :: (ck, .inl (g 0, 4, .inl (fc))) :: (fq, .inl (g 0, 4, .inl (ff))) :: (co, .inl (g 0, 228, .inl (fco))) :: (sq, .inl (g 0, 8, .inl (fsq))) :: (uq, .inl (g 2, 128, .inl (fu))) :: (gq, .inl (g 0, 7, .inl (fg))) :: wm) sz) ((mo, .inr (6, [.int (th), .int (nI M), .int (nI kd), .int (nI (ckb kd M)), .int (nI (nk kd)), .ref wi, .ref ck, .ref fq, .ref co, .int (nI (grsK kd M)), .int (nI ifo), .int (nI fl), .long (ma), .int (mk), .int (bi), .long (wo9), .int (ch9), .int (tu9), .ref sq, .ref uq, .ref gq])) :: (wi, .inl (g 0, 4, .inl (fw))) :: (ck, .inl (g 0, 4, .inl (fc))) :: (fq, .inl (g 0, 4, .inl (ff))) :: (co, .inl (g 0, 228, .inl (fco))) :: (sq, .inl (g 0, 8, .inl (fsq))) :: (uq, .inl (g 2, 128, .inl (fu))) :: (gq, .inl (g 0, 7, .inl (fg))) :: wm)) (va_A ((mo, .inr (6, [.int (th), .int (nI M), .int (nI kd), .int (nI (ckb kd M)), .int (nI (nk kd)), .ref wi, .ref ck, .ref fq, .ref co, .int (nI (grsK kd M)), .int (nI ifo), .int (nI fl), .long (ma), .int (mk), .int (bi), .long (wo9), .int (ch9), .int (tu9), .ref sq, .ref uq, .ref gq])) :: (wi, .inl (g 0, 4, .inl (fw))) :: (ck, .inl (g 0, 4, .inl (fc))) :: (fq, .inl (g 0, 4, .inl (ff))) :: (co, .inl (g 0, 228, .inl (fco))) :: (sq, .inl (g 0, 8, .inl (fsq))) :: (uq, .inl (g 2, 128, .inl (fu))) :: (gq, .inl (g 0, 7, .inl (fg))) :: wm) sz)) 0 0 (va_A ((mo, .inr (6, [.int (th), .int (nI M), .int (nI kd), .int (nI (ckb kd M)), .int (nI (nk kd)), .ref wi, .ref ck, .ref fq, .ref co, .int (nI (grsK kd M)), .int (nI ifo), .int (nI fl), .long (ma), .int (mk), .int (bi), .long (wo9), .int (ch9), .int (tu9), .ref sq, .ref uq, .ref gq])) :: (wi, .inl (g 0, 4, .inl (fw))) :: (ck, .inl (g 0, 4, .inl (fc))) :: (fq, .inl (g 0, 4, .inl (ff))) :: (co, .inl (g 0, 228, .inl (fco))) :: (sq, .inl (g 0, 8, .inl (fsq))) :: (uq, .inl (g 2, 128, .inl (fu))) :: (gq, .inl (g 0, 7, .inl (fg))) :: wm) sz) := by
  refine Met.ofW (cc := b_M_all) (maxL := 1) (ret := (some .long)) (by decide +kernel) rfl ?_
  intro p e s m args below meth c s₁ Bq hml hv
  have hx := Bq.exec
  have hb := Bq.bytes
  have hr := Bq.returns
  have hts : ∀ w ∈ wA, w.before args s = true := fun w h => atoms_spec (ws := w_M_all) Bq.pre w (List.mem_cons_of_mem _ h)
  have hown : s.vm.findClass R_M = some m.cls := findClass_of_methodNamed Bq.named
  have hlocks := Bq.notSynchronized
  obtain ⟨rfl, hsz, hP, hKK, hD0⟩ := hv
  have hK := hKK.1
  subst hsz
  have hD := hD0.self (sz := s.heap.size)
  generalize hAe : va_A ((mo, .inr (6, [.int (th), .int (nI M), .int (nI kd), .int (nI (ckb kd M)), .int (nI (nk kd)), .ref wi, .ref ck, .ref fq, .ref co, .int (nI (grsK kd M)), .int (nI ifo), .int (nI fl), .long (ma), .int (mk), .int (bi), .long (wo9), .int (ch9), .int (tu9), .ref sq, .ref uq, .ref gq])) :: (wi, .inl (g 0, 4, .inl (fw))) :: (ck, .inl (g 0, 4, .inl (fc))) :: (fq, .inl (g 0, 4, .inl (ff))) :: (co, .inl (g 0, 228, .inl (fco))) :: (sq, .inl (g 0, 8, .inl (fsq))) :: (uq, .inl (g 2, 128, .inl (fu))) :: (gq, .inl (g 0, 7, .inl (fg))) :: wm) s.heap.size = A at hD ⊢
  have hA : ∀ q : Nat, s.heap.size ≤ q → A q := fun q h => by rw [← hAe]; exact Or.inr h
  have hS : va_S A s.heap s.heap [] := va_S.rf
  have hl := lv_entry ([.ref mo]) (n := 1) (Nat.le_of_ble_eq_true rfl)
  rw [lg_entry_eq]
  generalize (lg_sl ([.ref mo]) ++ List.replicate (1 - (lg_sl ([.ref mo])).length) Slot.unset).toArray = ls at hl ⊢
  have hl : lv_has ls 1 [(0, .ref mo)] := hl
  generalize hQ : MQ below (va_Ql (fun (r : Int64) (u : Unit) => r = lN (2 ^ M - 1)) (fun u => qB D (A) ((mo, .inr (6, [.int (th), .int (nI M), .int (nI kd), .int (nI (ckb kd M)), .int (nI (nk kd)), .ref wi, .ref ck, .ref fq, .ref co, .int (nI (grsK kd M)), .int (nI ifo), .int (nI fl), .long (ma), .int (mk), .int (bi), .long (wo9), .int (ch9), .int (tu9), .ref sq, .ref uq, .ref gq])) :: (wi, .inl (g 0, 4, .inl (fw))) :: (ck, .inl (g 0, 4, .inl (fc))) :: (fq, .inl (g 0, 4, .inl (ff))) :: (co, .inl (g 0, 228, .inl (fco))) :: (sq, .inl (g 0, 8, .inl (fsq))) :: (uq, .inl (g 2, 128, .inl (fu))) :: (gq, .inl (g 0, 7, .inl (fg))) :: wm)) (A)) [.ref mo].toArray s 0 0 A = Q
  have hp1 : 1 ≤ 2 ^ M := Nat.one_le_two_pow
  refine lv_lconst (v := lN 1) hx hb d_M_all_0 (by decide) ?_
  refine lv_aload_n hx hb d_M_all_1 rfl (lv_at hl 0 rfl) ?_
  refine va_get (D := D) (ci := 6) (v := .int (nI M)) (C := R_M) (T := F_M) (N := 21) hx hb hts i_M hown hK hP 0 rfl rfl 1 (by decide) (hts _ m_604) (fun _ h9 => h9) rfl d_M_all_2 ?_
  refine lv_lshl (v := lN (2 ^ M)) hx hb d_M_all_5 ((xl_shl 1 (by omega)).trans (by rw [Nat.one_shiftLeft])) ?_
  refine lv_lconst (v := lN 1) hx hb d_M_all_6 (by decide) ?_
  refine lx_lsub (z := lN (2 ^ M - 1)) hx hb d_M_all_7 (lN_sub hp1) ?_
  rw [← hQ]
  refine W.lret (v := lN (2 ^ M - 1)) hx hb hr ?_ hS.2.2 d_M_all_8
  exact fun t ht hW => ⟨⟨lN (2 ^ M - 1), (), rfl, rfl, by rw [ht]; exact hP, hD⟩, hS.F ht⟩
set_option maxHeartbeats 4000000 in
set_option maxRecDepth 100000 in
theorem c_M_nibbles (l : Launch) (D : va_G) (g : Nat → ClassId) (sz : Nat) (wm : va_W) (mo wi ck fq co sq uq gq kd M ifo fl : Nat) (th mk bi ch9 tu9 : Int32) (ma wo9 : Int64) (fw fc ff fco fsq fu fg : Nat → Int32) (hM0 : 0 < M) (hM : M ≤ 57)  : Met l y_M_nibbles w_M_nibbles rm_M_nibbles (va_Pc [.ref mo] (pP D (tyl g) ((mo, .inr (6, [.int (th), .int (nI M), .int (nI kd), .int (nI (ckb kd M)), .int (nI (nk kd)), .ref wi, .ref ck, .ref fq, .ref co, .int (nI (grsK kd M)), .int (nI ifo), .int (nI fl), .long (ma), .int (mk), .int (bi), .long (wo9), .int (ch9), .int (tu9), .ref sq, .ref uq, .ref gq])) :: (wi, .inl (g 0, 4, .inl (fw))) :: (ck, .inl (g 0, 4, .inl (fc))) :: (fq, .inl (g 0, 4, .inl (ff))) :: (co, .inl (g 0, 228, .inl (fco))) :: (sq, .inl (g 0, 8, .inl (fsq))) :: (uq, .inl (g 2, 128, .inl (fu))) :: (gq, .inl (g 0, 7, .inl (fg))) :: wm) sz)) (va_Qi (fun (r : Int32) (u : Unit) => r = nI ((M + 3) / 4)) (fun u => qB D (va_A ((mo, .inr (6, [.int (th), .int (nI M), .int (nI kd), .int (nI (ckb kd M)), .int (nI (nk kd)), .ref wi, .ref ck, .ref fq, .ref co, .int (nI (grsK kd M)), .int (nI ifo), .int (nI fl), .long (ma), .int (mk), .int (bi), .long (wo9), .int (ch9), .int (tu9), .ref sq, .ref uq, .ref gq])) :: (wi, .inl (g 0, 4, .inl (fw))) :: (ck, .inl (g 0, 4, .inl (fc))) :: (fq, .inl (g 0, 4, .inl (ff))) :: (co, .inl (g 0, 228, .inl (fco))) :: (sq, .inl (g 0, 8, .inl (fsq))) :: (uq, .inl (g 2, 128, .inl (fu))) :: (gq, .inl (g 0, 7, .inl (fg))) :: wm) sz) ((mo, .inr (6, [.int (th), .int (nI M), .int (nI kd), .int (nI (ckb kd M)), .int (nI (nk kd)), .ref wi, .ref ck, .ref fq, .ref co, .int (nI (grsK kd M)), .int (nI ifo), .int (nI fl), .long (ma), .int (mk), .int (bi), .long (wo9), .int (ch9), .int (tu9), .ref sq, .ref uq, .ref gq])) :: (wi, .inl (g 0, 4, .inl (fw))) :: (ck, .inl (g 0, 4, .inl (fc))) :: (fq, .inl (g 0, 4, .inl (ff))) :: (co, .inl (g 0, 228, .inl (fco))) :: (sq, .inl (g 0, 8, .inl (fsq))) :: (uq, .inl (g 2, 128, .inl (fu))) :: (gq, .inl (g 0, 7, .inl (fg))) :: wm)) (va_A ((mo, .inr (6, [.int (th), .int (nI M), .int (nI kd), .int (nI (ckb kd M)), .int (nI (nk kd)), .ref wi, .ref ck, .ref fq, .ref co, .int (nI (grsK kd M)), .int (nI ifo), .int (nI fl), .long (ma), .int (mk), .int (bi), .long (wo9), .int (ch9), .int (tu9), .ref sq, .ref uq, .ref gq])) :: (wi, .inl (g 0, 4, .inl (fw))) :: (ck, .inl (g 0, 4, .inl (fc))) :: (fq, .inl (g 0, 4, .inl (ff))) :: (co, .inl (g 0, 228, .inl (fco))) :: (sq, .inl (g 0, 8, .inl (fsq))) :: (uq, .inl (g 2, 128, .inl (fu))) :: (gq, .inl (g 0, 7, .inl (fg))) :: wm) sz)) 0 0 (va_A ((mo, .inr (6, [.int (th), .int (nI M), .int (nI kd), .int (nI (ckb kd M)), .int (nI (nk kd)), .ref wi, .ref ck, .ref fq, .ref co, .int (nI (grsK kd M)), .int (nI ifo), .int (nI fl), .long (ma), .int (mk), .int (bi), .long (wo9), .int (ch9), .int (tu9), .ref sq, .ref uq, .ref gq])) :: (wi, .inl (g 0, 4, .inl (fw))) :: (ck, .inl (g 0, 4, .inl (fc))) :: (fq, .inl (g 0, 4, .inl (ff))) :: (co, .inl (g 0, 228, .inl (fco))) :: (sq, .inl (g 0, 8, .inl (fsq))) :: (uq, .inl (g 2, 128, .inl (fu))) :: (gq, .inl (g 0, 7, .inl (fg))) :: wm) sz) := by
  refine Met.ofW (cc := b_M_nibbles) (maxL := 1) (ret := (some .int)) (by decide +kernel) rfl ?_
  intro p e s m args below meth c s₁ Bq hml hv
  have hx := Bq.exec
  have hb := Bq.bytes
  have hr := Bq.returns
  have hts : ∀ w ∈ wA, w.before args s = true := fun w h => atoms_spec (ws := w_M_nibbles) Bq.pre w (List.mem_cons_of_mem _ h)
  have hown : s.vm.findClass R_M = some m.cls := findClass_of_methodNamed Bq.named
  have hlocks := Bq.notSynchronized
  obtain ⟨rfl, hsz, hP, hKK, hD0⟩ := hv
  have hK := hKK.1
  subst hsz
  have hD := hD0.self (sz := s.heap.size)
  generalize hAe : va_A ((mo, .inr (6, [.int (th), .int (nI M), .int (nI kd), .int (nI (ckb kd M)), .int (nI (nk kd)), .ref wi, .ref ck, .ref fq, .ref co, .int (nI (grsK kd M)), .int (nI ifo), .int (nI fl), .long (ma), .int (mk), .int (bi), .long (wo9), .int (ch9), .int (tu9), .ref sq, .ref uq, .ref gq])) :: (wi, .inl (g 0, 4, .inl (fw))) :: (ck, .inl (g 0, 4, .inl (fc))) :: (fq, .inl (g 0, 4, .inl (ff))) :: (co, .inl (g 0, 228, .inl (fco))) :: (sq, .inl (g 0, 8, .inl (fsq))) :: (uq, .inl (g 2, 128, .inl (fu))) :: (gq, .inl (g 0, 7, .inl (fg))) :: wm) s.heap.size = A at hD ⊢
  have hA : ∀ q : Nat, s.heap.size ≤ q → A q := fun q h => by rw [← hAe]; exact Or.inr h
  have hS : va_S A s.heap s.heap [] := va_S.rf
  have hl := lv_entry ([.ref mo]) (n := 1) (Nat.le_of_ble_eq_true rfl)
  rw [lg_entry_eq]
  generalize (lg_sl ([.ref mo]) ++ List.replicate (1 - (lg_sl ([.ref mo])).length) Slot.unset).toArray = ls at hl ⊢
  have hl : lv_has ls 1 [(0, .ref mo)] := hl
  generalize hQ : MQ below (va_Qi (fun (r : Int32) (u : Unit) => r = nI ((M + 3) / 4)) (fun u => qB D (A) ((mo, .inr (6, [.int (th), .int (nI M), .int (nI kd), .int (nI (ckb kd M)), .int (nI (nk kd)), .ref wi, .ref ck, .ref fq, .ref co, .int (nI (grsK kd M)), .int (nI ifo), .int (nI fl), .long (ma), .int (mk), .int (bi), .long (wo9), .int (ch9), .int (tu9), .ref sq, .ref uq, .ref gq])) :: (wi, .inl (g 0, 4, .inl (fw))) :: (ck, .inl (g 0, 4, .inl (fc))) :: (fq, .inl (g 0, 4, .inl (ff))) :: (co, .inl (g 0, 228, .inl (fco))) :: (sq, .inl (g 0, 8, .inl (fsq))) :: (uq, .inl (g 2, 128, .inl (fu))) :: (gq, .inl (g 0, 7, .inl (fg))) :: wm)) (A)) [.ref mo].toArray s 0 0 A = Q
  refine lv_aload_n hx hb d_M_nibbles_0 rfl (lv_at hl 0 rfl) ?_
  refine va_get (D := D) (ci := 6) (v := .int (nI M)) (C := R_M) (T := F_M) (N := 21) hx hb hts i_M hown hK hP 0 rfl rfl 1 (by decide) (hts _ m_604) (fun _ h9 => h9) rfl d_M_nibbles_1 ?_
  refine lv_iconst (v := nI 3) hx hb d_M_nibbles_4 (by decide) ?_
  refine lx_iadd (z := nI (M + 3)) hx hb d_M_nibbles_5 (nI_add M 3) ?_
  refine lv_iconst (v := nI 4) hx hb d_M_nibbles_6 (by decide) ?_
  refine lx_idiv (z := nI ((M + 3) / 4)) hx hb d_M_nibbles_7 (nI_ne0 (by omega) (by omega)) (pk_div (by omega) (by omega) (by omega)) ?_
  rw [← hQ]
  refine W.iret (v := nI ((M + 3) / 4)) hx hb hr ?_ hS.2.2 d_M_nibbles_8
  exact fun t ht hW => ⟨⟨nI ((M + 3) / 4), (), rfl, rfl, by rw [ht]; exact hP, hD⟩, hS.F ht⟩
set_option maxHeartbeats 4000000 in
set_option maxRecDepth 100000 in
theorem c_M_folded (l : Launch) (D : va_G) (g : Nat → ClassId) (sz : Nat) (wm : va_W) (mo wi ck fq co sq uq gq kd M ifo fl : Nat) (th mk bi ch9 tu9 : Int32) (ma wo9 : Int64) (fw fc ff fco fsq fu fg : Nat → Int32) (hM0 : 0 < M) (hM : M ≤ 57) (hif : ifo ≤ 1) : Met l y_M_folded w_M_folded rm_M_folded (va_Pc [.ref mo] (pP D (tyl g) ((mo, .inr (6, [.int (th), .int (nI M), .int (nI kd), .int (nI (ckb kd M)), .int (nI (nk kd)), .ref wi, .ref ck, .ref fq, .ref co, .int (nI (grsK kd M)), .int (nI ifo), .int (nI fl), .long (ma), .int (mk), .int (bi), .long (wo9), .int (ch9), .int (tu9), .ref sq, .ref uq, .ref gq])) :: (wi, .inl (g 0, 4, .inl (fw))) :: (ck, .inl (g 0, 4, .inl (fc))) :: (fq, .inl (g 0, 4, .inl (ff))) :: (co, .inl (g 0, 228, .inl (fco))) :: (sq, .inl (g 0, 8, .inl (fsq))) :: (uq, .inl (g 2, 128, .inl (fu))) :: (gq, .inl (g 0, 7, .inl (fg))) :: wm) sz)) (va_Qi (fun (r : Int32) (u : Unit) => r = nI (if ifo = 1 then fl else 0)) (fun u => qB D (va_A ((mo, .inr (6, [.int (th), .int (nI M), .int (nI kd), .int (nI (ckb kd M)), .int (nI (nk kd)), .ref wi, .ref ck, .ref fq, .ref co, .int (nI (grsK kd M)), .int (nI ifo), .int (nI fl), .long (ma), .int (mk), .int (bi), .long (wo9), .int (ch9), .int (tu9), .ref sq, .ref uq, .ref gq])) :: (wi, .inl (g 0, 4, .inl (fw))) :: (ck, .inl (g 0, 4, .inl (fc))) :: (fq, .inl (g 0, 4, .inl (ff))) :: (co, .inl (g 0, 228, .inl (fco))) :: (sq, .inl (g 0, 8, .inl (fsq))) :: (uq, .inl (g 2, 128, .inl (fu))) :: (gq, .inl (g 0, 7, .inl (fg))) :: wm) sz) ((mo, .inr (6, [.int (th), .int (nI M), .int (nI kd), .int (nI (ckb kd M)), .int (nI (nk kd)), .ref wi, .ref ck, .ref fq, .ref co, .int (nI (grsK kd M)), .int (nI ifo), .int (nI fl), .long (ma), .int (mk), .int (bi), .long (wo9), .int (ch9), .int (tu9), .ref sq, .ref uq, .ref gq])) :: (wi, .inl (g 0, 4, .inl (fw))) :: (ck, .inl (g 0, 4, .inl (fc))) :: (fq, .inl (g 0, 4, .inl (ff))) :: (co, .inl (g 0, 228, .inl (fco))) :: (sq, .inl (g 0, 8, .inl (fsq))) :: (uq, .inl (g 2, 128, .inl (fu))) :: (gq, .inl (g 0, 7, .inl (fg))) :: wm)) (va_A ((mo, .inr (6, [.int (th), .int (nI M), .int (nI kd), .int (nI (ckb kd M)), .int (nI (nk kd)), .ref wi, .ref ck, .ref fq, .ref co, .int (nI (grsK kd M)), .int (nI ifo), .int (nI fl), .long (ma), .int (mk), .int (bi), .long (wo9), .int (ch9), .int (tu9), .ref sq, .ref uq, .ref gq])) :: (wi, .inl (g 0, 4, .inl (fw))) :: (ck, .inl (g 0, 4, .inl (fc))) :: (fq, .inl (g 0, 4, .inl (ff))) :: (co, .inl (g 0, 228, .inl (fco))) :: (sq, .inl (g 0, 8, .inl (fsq))) :: (uq, .inl (g 2, 128, .inl (fu))) :: (gq, .inl (g 0, 7, .inl (fg))) :: wm) sz)) 0 0 (va_A ((mo, .inr (6, [.int (th), .int (nI M), .int (nI kd), .int (nI (ckb kd M)), .int (nI (nk kd)), .ref wi, .ref ck, .ref fq, .ref co, .int (nI (grsK kd M)), .int (nI ifo), .int (nI fl), .long (ma), .int (mk), .int (bi), .long (wo9), .int (ch9), .int (tu9), .ref sq, .ref uq, .ref gq])) :: (wi, .inl (g 0, 4, .inl (fw))) :: (ck, .inl (g 0, 4, .inl (fc))) :: (fq, .inl (g 0, 4, .inl (ff))) :: (co, .inl (g 0, 228, .inl (fco))) :: (sq, .inl (g 0, 8, .inl (fsq))) :: (uq, .inl (g 2, 128, .inl (fu))) :: (gq, .inl (g 0, 7, .inl (fg))) :: wm) sz) := by
  refine Met.ofW (cc := b_M_folded) (maxL := 1) (ret := (some .int)) (by decide +kernel) rfl ?_
  intro p e s m args below meth c s₁ Bq hml hv
  have hx := Bq.exec
  have hb := Bq.bytes
  have hr := Bq.returns
  have hts : ∀ w ∈ wA, w.before args s = true := fun w h => atoms_spec (ws := w_M_folded) Bq.pre w (List.mem_cons_of_mem _ h)
  have hown : s.vm.findClass R_M = some m.cls := findClass_of_methodNamed Bq.named
  have hlocks := Bq.notSynchronized
  obtain ⟨rfl, hsz, hP, hKK, hD0⟩ := hv
  have hK := hKK.1
  subst hsz
  have hD := hD0.self (sz := s.heap.size)
  generalize hAe : va_A ((mo, .inr (6, [.int (th), .int (nI M), .int (nI kd), .int (nI (ckb kd M)), .int (nI (nk kd)), .ref wi, .ref ck, .ref fq, .ref co, .int (nI (grsK kd M)), .int (nI ifo), .int (nI fl), .long (ma), .int (mk), .int (bi), .long (wo9), .int (ch9), .int (tu9), .ref sq, .ref uq, .ref gq])) :: (wi, .inl (g 0, 4, .inl (fw))) :: (ck, .inl (g 0, 4, .inl (fc))) :: (fq, .inl (g 0, 4, .inl (ff))) :: (co, .inl (g 0, 228, .inl (fco))) :: (sq, .inl (g 0, 8, .inl (fsq))) :: (uq, .inl (g 2, 128, .inl (fu))) :: (gq, .inl (g 0, 7, .inl (fg))) :: wm) s.heap.size = A at hD ⊢
  have hA : ∀ q : Nat, s.heap.size ≤ q → A q := fun q h => by rw [← hAe]; exact Or.inr h
  have hS : va_S A s.heap s.heap [] := va_S.rf
  have hl := lv_entry ([.ref mo]) (n := 1) (Nat.le_of_ble_eq_true rfl)
  rw [lg_entry_eq]
  generalize (lg_sl ([.ref mo]) ++ List.replicate (1 - (lg_sl ([.ref mo])).length) Slot.unset).toArray = ls at hl ⊢
  have hl : lv_has ls 1 [(0, .ref mo)] := hl
  generalize hQ : MQ below (va_Qi (fun (r : Int32) (u : Unit) => r = nI (if ifo = 1 then fl else 0)) (fun u => qB D (A) ((mo, .inr (6, [.int (th), .int (nI M), .int (nI kd), .int (nI (ckb kd M)), .int (nI (nk kd)), .ref wi, .ref ck, .ref fq, .ref co, .int (nI (grsK kd M)), .int (nI ifo), .int (nI fl), .long (ma), .int (mk), .int (bi), .long (wo9), .int (ch9), .int (tu9), .ref sq, .ref uq, .ref gq])) :: (wi, .inl (g 0, 4, .inl (fw))) :: (ck, .inl (g 0, 4, .inl (fc))) :: (fq, .inl (g 0, 4, .inl (ff))) :: (co, .inl (g 0, 228, .inl (fco))) :: (sq, .inl (g 0, 8, .inl (fsq))) :: (uq, .inl (g 2, 128, .inl (fu))) :: (gq, .inl (g 0, 7, .inl (fg))) :: wm)) (A)) [.ref mo].toArray s 0 0 A = Q
  refine lv_aload_n hx hb d_M_folded_0 rfl (lv_at hl 0 rfl) ?_
  refine va_get (D := D) (ci := 6) (v := .int (nI ifo)) (C := R_M) (T := F_M) (N := 21) hx hb hts i_M hown hK hP 0 rfl rfl 10 (by decide) (hts _ m_613) (fun _ h9 => h9) rfl d_M_folded_1 ?_
  refine lx_if_eq (tgt := 14) hx hb d_M_folded_4 (by decide) (by omega) (fun c4 => ?_) (fun c4 => ?_)
  · skip
    refine lv_iconst (v := nI 0) hx hb d_M_folded_14 (by decide) ?_
    rw [← hQ]
    refine W.iret (v := nI 0) hx hb hr ?_ hS.2.2 d_M_folded_15
    exact fun t ht hW => ⟨⟨nI 0, (), rfl, (by rw [if_neg (by omega)]), by rw [ht]; exact hP, hD⟩, hS.F ht⟩
  · skip
    refine lv_aload_n hx hb d_M_folded_7 rfl (lv_at hl 0 rfl) ?_
    refine va_get (D := D) (ci := 6) (v := .int (nI fl)) (C := R_M) (T := F_M) (N := 21) hx hb hts i_M hown hK hP 0 rfl rfl 11 (by decide) (hts _ m_614) (fun _ h9 => h9) rfl d_M_folded_8 ?_
    refine lv_goto (tgt := 15) hx hb d_M_folded_11 (by decide) ?_
    rw [← hQ]
    refine W.iret (v := nI fl) hx hb hr ?_ hS.2.2 d_M_folded_15
    exact fun t ht hW => ⟨⟨nI fl, (), rfl, (by rw [if_pos (by omega)]), by rw [ht]; exact hP, hD⟩, hS.F ht⟩
set_option maxHeartbeats 4000000 in
set_option maxRecDepth 100000 in
theorem c_M_fails (l : Launch) (D : va_G) (g : Nat → ClassId) (sz : Nat) (wm : va_W) (mo wi ck fq co sq uq gq kd M ifo fl : Nat) (th mk bi ch9 tu9 : Int32) (ma wo9 : Int64) (fw fc ff fco fsq fu fg : Nat → Int32) (hM0 : 0 < M) (hM : M ≤ 57) (a b : Nat) (ha : a ≤ 1) (hb9 : b ≤ 1) : Met l y_M_fails w_M_fails rm_M_fails (va_Pc [.ref mo, .int (nI a), .int (nI b)] (pP D (tyl g) ((mo, .inr (6, [.int (th), .int (nI M), .int (nI kd), .int (nI (ckb kd M)), .int (nI (nk kd)), .ref wi, .ref ck, .ref fq, .ref co, .int (nI (grsK kd M)), .int (nI ifo), .int (nI fl), .long (ma), .int (mk), .int (bi), .long (wo9), .int (ch9), .int (tu9), .ref sq, .ref uq, .ref gq])) :: (wi, .inl (g 0, 4, .inl (fw))) :: (ck, .inl (g 0, 4, .inl (fc))) :: (fq, .inl (g 0, 4, .inl (ff))) :: (co, .inl (g 0, 228, .inl (fco))) :: (sq, .inl (g 0, 8, .inl (fsq))) :: (uq, .inl (g 2, 128, .inl (fu))) :: (gq, .inl (g 0, 7, .inl (fg))) :: wm) sz)) (va_Qi (fun (r : Int32) (u : Unit) => r = nI (if a = 1 ∨ b = 1 then 1 else 0)) (fun u => qB D (va_A ((mo, .inr (6, [.int (th), .int (nI M), .int (nI kd), .int (nI (ckb kd M)), .int (nI (nk kd)), .ref wi, .ref ck, .ref fq, .ref co, .int (nI (grsK kd M)), .int (nI ifo), .int (nI fl), .long (ma), .int (mk), .int (bi), .long (wo9), .int (ch9), .int (tu9), .ref sq, .ref uq, .ref gq])) :: (wi, .inl (g 0, 4, .inl (fw))) :: (ck, .inl (g 0, 4, .inl (fc))) :: (fq, .inl (g 0, 4, .inl (ff))) :: (co, .inl (g 0, 228, .inl (fco))) :: (sq, .inl (g 0, 8, .inl (fsq))) :: (uq, .inl (g 2, 128, .inl (fu))) :: (gq, .inl (g 0, 7, .inl (fg))) :: wm) sz) ((mo, .inr (6, [.int (nI (if a = 1 then 1 else if b = 1 then 2 else 0)), .int (nI M), .int (nI kd), .int (nI (ckb kd M)), .int (nI (nk kd)), .ref wi, .ref ck, .ref fq, .ref co, .int (nI (grsK kd M)), .int (nI ifo), .int (nI fl), .long (ma), .int (mk), .int (bi), .long (wo9), .int (ch9), .int (tu9), .ref sq, .ref uq, .ref gq])) :: (wi, .inl (g 0, 4, .inl (fw))) :: (ck, .inl (g 0, 4, .inl (fc))) :: (fq, .inl (g 0, 4, .inl (ff))) :: (co, .inl (g 0, 228, .inl (fco))) :: (sq, .inl (g 0, 8, .inl (fsq))) :: (uq, .inl (g 2, 128, .inl (fu))) :: (gq, .inl (g 0, 7, .inl (fg))) :: wm)) (va_A ((mo, .inr (6, [.int (th), .int (nI M), .int (nI kd), .int (nI (ckb kd M)), .int (nI (nk kd)), .ref wi, .ref ck, .ref fq, .ref co, .int (nI (grsK kd M)), .int (nI ifo), .int (nI fl), .long (ma), .int (mk), .int (bi), .long (wo9), .int (ch9), .int (tu9), .ref sq, .ref uq, .ref gq])) :: (wi, .inl (g 0, 4, .inl (fw))) :: (ck, .inl (g 0, 4, .inl (fc))) :: (fq, .inl (g 0, 4, .inl (ff))) :: (co, .inl (g 0, 228, .inl (fco))) :: (sq, .inl (g 0, 8, .inl (fsq))) :: (uq, .inl (g 2, 128, .inl (fu))) :: (gq, .inl (g 0, 7, .inl (fg))) :: wm) sz)) 0 0 (va_A ((mo, .inr (6, [.int (th), .int (nI M), .int (nI kd), .int (nI (ckb kd M)), .int (nI (nk kd)), .ref wi, .ref ck, .ref fq, .ref co, .int (nI (grsK kd M)), .int (nI ifo), .int (nI fl), .long (ma), .int (mk), .int (bi), .long (wo9), .int (ch9), .int (tu9), .ref sq, .ref uq, .ref gq])) :: (wi, .inl (g 0, 4, .inl (fw))) :: (ck, .inl (g 0, 4, .inl (fc))) :: (fq, .inl (g 0, 4, .inl (ff))) :: (co, .inl (g 0, 228, .inl (fco))) :: (sq, .inl (g 0, 8, .inl (fsq))) :: (uq, .inl (g 2, 128, .inl (fu))) :: (gq, .inl (g 0, 7, .inl (fg))) :: wm) sz) := by
  refine Met.ofW (cc := b_M_fails) (maxL := 3) (ret := (some .boolean)) (by decide +kernel) rfl ?_
  intro p e s m args below meth c s₁ Bq hml hv
  have hx := Bq.exec
  have hb := Bq.bytes
  have hr := Bq.returns
  have hts : ∀ w ∈ wA, w.before args s = true := fun w h => atoms_spec (ws := w_M_fails) Bq.pre w (List.mem_cons_of_mem _ h)
  have hown : s.vm.findClass R_M = some m.cls := findClass_of_methodNamed Bq.named
  have hlocks := Bq.notSynchronized
  obtain ⟨rfl, hsz, hP, hKK, hD0⟩ := hv
  have hK := hKK.1
  subst hsz
  have hD := hD0.self (sz := s.heap.size)
  generalize hAe : va_A ((mo, .inr (6, [.int (th), .int (nI M), .int (nI kd), .int (nI (ckb kd M)), .int (nI (nk kd)), .ref wi, .ref ck, .ref fq, .ref co, .int (nI (grsK kd M)), .int (nI ifo), .int (nI fl), .long (ma), .int (mk), .int (bi), .long (wo9), .int (ch9), .int (tu9), .ref sq, .ref uq, .ref gq])) :: (wi, .inl (g 0, 4, .inl (fw))) :: (ck, .inl (g 0, 4, .inl (fc))) :: (fq, .inl (g 0, 4, .inl (ff))) :: (co, .inl (g 0, 228, .inl (fco))) :: (sq, .inl (g 0, 8, .inl (fsq))) :: (uq, .inl (g 2, 128, .inl (fu))) :: (gq, .inl (g 0, 7, .inl (fg))) :: wm) s.heap.size = A at hD ⊢
  have hA : ∀ q : Nat, s.heap.size ≤ q → A q := fun q h => by rw [← hAe]; exact Or.inr h
  have hS : va_S A s.heap s.heap [] := va_S.rf
  have hl := lv_entry ([.ref mo, .int (nI a), .int (nI b)]) (n := 3) (Nat.le_of_ble_eq_true rfl)
  rw [lg_entry_eq]
  generalize (lg_sl ([.ref mo, .int (nI a), .int (nI b)]) ++ List.replicate (3 - (lg_sl ([.ref mo, .int (nI a), .int (nI b)])).length) Slot.unset).toArray = ls at hl ⊢
  have hl : lv_has ls 3 [(0, .ref mo), (1, .int (nI a)), (2, .int (nI b))] := hl
  generalize hQ : MQ below (va_Qi (fun (r : Int32) (u : Unit) => r = nI (if a = 1 ∨ b = 1 then 1 else 0)) (fun u => qB D (A) ((mo, .inr (6, [.int (nI (if a = 1 then 1 else if b = 1 then 2 else 0)), .int (nI M), .int (nI kd), .int (nI (ckb kd M)), .int (nI (nk kd)), .ref wi, .ref ck, .ref fq, .ref co, .int (nI (grsK kd M)), .int (nI ifo), .int (nI fl), .long (ma), .int (mk), .int (bi), .long (wo9), .int (ch9), .int (tu9), .ref sq, .ref uq, .ref gq])) :: (wi, .inl (g 0, 4, .inl (fw))) :: (ck, .inl (g 0, 4, .inl (fc))) :: (fq, .inl (g 0, 4, .inl (ff))) :: (co, .inl (g 0, 228, .inl (fco))) :: (sq, .inl (g 0, 8, .inl (fsq))) :: (uq, .inl (g 2, 128, .inl (fu))) :: (gq, .inl (g 0, 7, .inl (fg))) :: wm)) (A)) [.ref mo, .int (nI a), .int (nI b)].toArray s 0 0 A = Q
  refine lv_aload_n hx hb d_M_fails_0 rfl (lv_at hl 0 rfl) ?_
  refine lv_iload_n hx hb d_M_fails_1 rfl (lv_at hl 1 rfl) ?_
  refine lx_if_eq (tgt := 9) hx hb d_M_fails_2 (by decide) (by omega) (fun c2 => ?_) (fun c2 => ?_)
  · skip
    refine lv_iload_n hx hb d_M_fails_9 rfl (lv_at hl 2 rfl) ?_
    refine lx_if_eq (tgt := 17) hx hb d_M_fails_10 (by decide) (by omega) (fun c10 => ?_) (fun c10 => ?_)
    · skip
      refine lv_iconst (v := nI 0) hx hb d_M_fails_17 (by decide) ?_
      have et : (if a = 1 then 1 else if b = 1 then 2 else 0) = 0 := by rw [if_neg (by omega), if_neg (by omega)]
      refine lv_topi (fun y9 ey => ?_)
      obtain rfl : y9 = nI (if a = 1 then 1 else if b = 1 then 2 else 0) := ey.trans (by rw [et])
      refine va_put (D := D) (ci := 6) (v := .int (nI (if a = 1 then 1 else if b = 1 then 2 else 0))) (ty := .int) (C := R_M) (T := F_M) (N := 21) hx hb hts i_M tf_M tf_M_ok nf_M hown hK hP hD hS 0 rfl rfl 0 (by decide) (hts _ m_603) (fun _ h9 => h9) rfl (by decide +kernel) rfl rfl (Nat.le_of_ble_eq_true rfl) d_M_fails_18 (fun H locs hP hD hS => ?_)
      have hP : va_P D vwCl ((mo, .inr (6, [.int (nI (if a = 1 then 1 else if b = 1 then 2 else 0)), .int (nI M), .int (nI kd), .int (nI (ckb kd M)), .int (nI (nk kd)), .ref wi, .ref ck, .ref fq, .ref co, .int (nI (grsK kd M)), .int (nI ifo), .int (nI fl), .long (ma), .int (mk), .int (bi), .long (wo9), .int (ch9), .int (tu9), .ref sq, .ref uq, .ref gq])) :: (wi, .inl (g 0, 4, .inl (fw))) :: (ck, .inl (g 0, 4, .inl (fc))) :: (fq, .inl (g 0, 4, .inl (ff))) :: (co, .inl (g 0, 228, .inl (fco))) :: (sq, .inl (g 0, 8, .inl (fsq))) :: (uq, .inl (g 2, 128, .inl (fu))) :: (gq, .inl (g 0, 7, .inl (fg))) :: wm) H := hP
      have hD : va_D A ((mo, .inr (6, [.int (nI (if a = 1 then 1 else if b = 1 then 2 else 0)), .int (nI M), .int (nI kd), .int (nI (ckb kd M)), .int (nI (nk kd)), .ref wi, .ref ck, .ref fq, .ref co, .int (nI (grsK kd M)), .int (nI ifo), .int (nI fl), .long (ma), .int (mk), .int (bi), .long (wo9), .int (ch9), .int (tu9), .ref sq, .ref uq, .ref gq])) :: (wi, .inl (g 0, 4, .inl (fw))) :: (ck, .inl (g 0, 4, .inl (fc))) :: (fq, .inl (g 0, 4, .inl (ff))) :: (co, .inl (g 0, 228, .inl (fco))) :: (sq, .inl (g 0, 8, .inl (fsq))) :: (uq, .inl (g 2, 128, .inl (fu))) :: (gq, .inl (g 0, 7, .inl (fg))) :: wm) := hD
      refine lv_aload_n hx hb d_M_fails_21 rfl (lv_at hl 0 rfl) ?_
      refine va_get (D := D) (ci := 6) (v := .int (nI (if a = 1 then 1 else if b = 1 then 2 else 0))) (C := R_M) (T := F_M) (N := 21) hx hb hts i_M hown hK hP 0 rfl rfl 0 (by decide) (hts _ m_603) (fun _ h9 => h9) rfl d_M_fails_22 ?_
      refine lx_if_le (tgt := 32) hx hb d_M_fails_25 (by decide) (by omega) (fun c25 => ?_) (fun c25 => ?_)
      · skip
        refine lv_iconst (v := nI 0) hx hb d_M_fails_32 (by decide) ?_
        rw [← hQ]
        refine W.zret (v := nI 0) (ty := .boolean) hx hb hr (rfl) ?_ hS.2.2 d_M_fails_33
        exact fun t ht hW => ⟨⟨nI 0, (), rfl, (by rw [if_neg (by omega)]), by rw [ht]; exact hP, hD⟩, hS.F ht⟩
      · skip
        exact absurd c25 (by rw [et]; decide)
    · skip
      refine lv_iconst (v := nI 2) hx hb d_M_fails_13 (by decide) ?_
      refine lv_goto (tgt := 18) hx hb d_M_fails_14 (by decide) ?_
      have et : (if a = 1 then 1 else if b = 1 then 2 else 0) = 2 := by rw [if_neg (by omega), if_pos (by omega)]
      refine lv_topi (fun y9 ey => ?_)
      obtain rfl : y9 = nI (if a = 1 then 1 else if b = 1 then 2 else 0) := ey.trans (by rw [et])
      refine va_put (D := D) (ci := 6) (v := .int (nI (if a = 1 then 1 else if b = 1 then 2 else 0))) (ty := .int) (C := R_M) (T := F_M) (N := 21) hx hb hts i_M tf_M tf_M_ok nf_M hown hK hP hD hS 0 rfl rfl 0 (by decide) (hts _ m_603) (fun _ h9 => h9) rfl (by decide +kernel) rfl rfl (Nat.le_of_ble_eq_true rfl) d_M_fails_18 (fun H locs hP hD hS => ?_)
      have hP : va_P D vwCl ((mo, .inr (6, [.int (nI (if a = 1 then 1 else if b = 1 then 2 else 0)), .int (nI M), .int (nI kd), .int (nI (ckb kd M)), .int (nI (nk kd)), .ref wi, .ref ck, .ref fq, .ref co, .int (nI (grsK kd M)), .int (nI ifo), .int (nI fl), .long (ma), .int (mk), .int (bi), .long (wo9), .int (ch9), .int (tu9), .ref sq, .ref uq, .ref gq])) :: (wi, .inl (g 0, 4, .inl (fw))) :: (ck, .inl (g 0, 4, .inl (fc))) :: (fq, .inl (g 0, 4, .inl (ff))) :: (co, .inl (g 0, 228, .inl (fco))) :: (sq, .inl (g 0, 8, .inl (fsq))) :: (uq, .inl (g 2, 128, .inl (fu))) :: (gq, .inl (g 0, 7, .inl (fg))) :: wm) H := hP
      have hD : va_D A ((mo, .inr (6, [.int (nI (if a = 1 then 1 else if b = 1 then 2 else 0)), .int (nI M), .int (nI kd), .int (nI (ckb kd M)), .int (nI (nk kd)), .ref wi, .ref ck, .ref fq, .ref co, .int (nI (grsK kd M)), .int (nI ifo), .int (nI fl), .long (ma), .int (mk), .int (bi), .long (wo9), .int (ch9), .int (tu9), .ref sq, .ref uq, .ref gq])) :: (wi, .inl (g 0, 4, .inl (fw))) :: (ck, .inl (g 0, 4, .inl (fc))) :: (fq, .inl (g 0, 4, .inl (ff))) :: (co, .inl (g 0, 228, .inl (fco))) :: (sq, .inl (g 0, 8, .inl (fsq))) :: (uq, .inl (g 2, 128, .inl (fu))) :: (gq, .inl (g 0, 7, .inl (fg))) :: wm) := hD
      refine lv_aload_n hx hb d_M_fails_21 rfl (lv_at hl 0 rfl) ?_
      refine va_get (D := D) (ci := 6) (v := .int (nI (if a = 1 then 1 else if b = 1 then 2 else 0))) (C := R_M) (T := F_M) (N := 21) hx hb hts i_M hown hK hP 0 rfl rfl 0 (by decide) (hts _ m_603) (fun _ h9 => h9) rfl d_M_fails_22 ?_
      refine lx_if_le (tgt := 32) hx hb d_M_fails_25 (by decide) (by omega) (fun c25 => ?_) (fun c25 => ?_)
      · skip
        exact absurd c25 (by rw [et]; decide)
      · skip
        refine lv_iconst (v := nI 1) hx hb d_M_fails_28 (by decide) ?_
        refine lv_goto (tgt := 33) hx hb d_M_fails_29 (by decide) ?_
        rw [← hQ]
        refine W.zret (v := nI 1) (ty := .boolean) hx hb hr (rfl) ?_ hS.2.2 d_M_fails_33
        exact fun t ht hW => ⟨⟨nI 1, (), rfl, (by rw [if_pos (by omega)]), by rw [ht]; exact hP, hD⟩, hS.F ht⟩
  · skip
    refine lv_iconst (v := nI 1) hx hb d_M_fails_5 (by decide) ?_
    refine lv_goto (tgt := 18) hx hb d_M_fails_6 (by decide) ?_
    have et : (if a = 1 then 1 else if b = 1 then 2 else 0) = 1 := by rw [if_pos (by omega)]
    refine lv_topi (fun y9 ey => ?_)
    obtain rfl : y9 = nI (if a = 1 then 1 else if b = 1 then 2 else 0) := ey.trans (by rw [et])
    refine va_put (D := D) (ci := 6) (v := .int (nI (if a = 1 then 1 else if b = 1 then 2 else 0))) (ty := .int) (C := R_M) (T := F_M) (N := 21) hx hb hts i_M tf_M tf_M_ok nf_M hown hK hP hD hS 0 rfl rfl 0 (by decide) (hts _ m_603) (fun _ h9 => h9) rfl (by decide +kernel) rfl rfl (Nat.le_of_ble_eq_true rfl) d_M_fails_18 (fun H locs hP hD hS => ?_)
    have hP : va_P D vwCl ((mo, .inr (6, [.int (nI (if a = 1 then 1 else if b = 1 then 2 else 0)), .int (nI M), .int (nI kd), .int (nI (ckb kd M)), .int (nI (nk kd)), .ref wi, .ref ck, .ref fq, .ref co, .int (nI (grsK kd M)), .int (nI ifo), .int (nI fl), .long (ma), .int (mk), .int (bi), .long (wo9), .int (ch9), .int (tu9), .ref sq, .ref uq, .ref gq])) :: (wi, .inl (g 0, 4, .inl (fw))) :: (ck, .inl (g 0, 4, .inl (fc))) :: (fq, .inl (g 0, 4, .inl (ff))) :: (co, .inl (g 0, 228, .inl (fco))) :: (sq, .inl (g 0, 8, .inl (fsq))) :: (uq, .inl (g 2, 128, .inl (fu))) :: (gq, .inl (g 0, 7, .inl (fg))) :: wm) H := hP
    have hD : va_D A ((mo, .inr (6, [.int (nI (if a = 1 then 1 else if b = 1 then 2 else 0)), .int (nI M), .int (nI kd), .int (nI (ckb kd M)), .int (nI (nk kd)), .ref wi, .ref ck, .ref fq, .ref co, .int (nI (grsK kd M)), .int (nI ifo), .int (nI fl), .long (ma), .int (mk), .int (bi), .long (wo9), .int (ch9), .int (tu9), .ref sq, .ref uq, .ref gq])) :: (wi, .inl (g 0, 4, .inl (fw))) :: (ck, .inl (g 0, 4, .inl (fc))) :: (fq, .inl (g 0, 4, .inl (ff))) :: (co, .inl (g 0, 228, .inl (fco))) :: (sq, .inl (g 0, 8, .inl (fsq))) :: (uq, .inl (g 2, 128, .inl (fu))) :: (gq, .inl (g 0, 7, .inl (fg))) :: wm) := hD
    refine lv_aload_n hx hb d_M_fails_21 rfl (lv_at hl 0 rfl) ?_
    refine va_get (D := D) (ci := 6) (v := .int (nI (if a = 1 then 1 else if b = 1 then 2 else 0))) (C := R_M) (T := F_M) (N := 21) hx hb hts i_M hown hK hP 0 rfl rfl 0 (by decide) (hts _ m_603) (fun _ h9 => h9) rfl d_M_fails_22 ?_
    refine lx_if_le (tgt := 32) hx hb d_M_fails_25 (by decide) (by omega) (fun c25 => ?_) (fun c25 => ?_)
    · skip
      exact absurd c25 (by rw [et]; decide)
    · skip
      refine lv_iconst (v := nI 1) hx hb d_M_fails_28 (by decide) ?_
      refine lv_goto (tgt := 33) hx hb d_M_fails_29 (by decide) ?_
      rw [← hQ]
      refine W.zret (v := nI 1) (ty := .boolean) hx hb hr (rfl) ?_ hS.2.2 d_M_fails_33
      exact fun t ht hW => ⟨⟨nI 1, (), rfl, (by rw [if_pos (by omega)]), by rw [ht]; exact hP, hD⟩, hS.F ht⟩
set_option maxHeartbeats 4000000 in
set_option maxRecDepth 100000 in
theorem c_M_thrown (l : Launch) (D : va_G) (g : Nat → ClassId) (sz : Nat) (wm : va_W) (mo wi ck fq co sq uq gq kd M ifo fl : Nat) (th mk bi ch9 tu9 : Int32) (ma wo9 : Int64) (fw fc ff fco fsq fu fg : Nat → Int32) (hM0 : 0 < M) (hM : M ≤ 57)  : Met l y_M_thrown w_M_thrown rm_M_thrown (va_Pc [.ref mo] (pP D (tyl g) ((mo, .inr (6, [.int (th), .int (nI M), .int (nI kd), .int (nI (ckb kd M)), .int (nI (nk kd)), .ref wi, .ref ck, .ref fq, .ref co, .int (nI (grsK kd M)), .int (nI ifo), .int (nI fl), .long (ma), .int (mk), .int (bi), .long (wo9), .int (ch9), .int (tu9), .ref sq, .ref uq, .ref gq])) :: (wi, .inl (g 0, 4, .inl (fw))) :: (ck, .inl (g 0, 4, .inl (fc))) :: (fq, .inl (g 0, 4, .inl (ff))) :: (co, .inl (g 0, 228, .inl (fco))) :: (sq, .inl (g 0, 8, .inl (fsq))) :: (uq, .inl (g 2, 128, .inl (fu))) :: (gq, .inl (g 0, 7, .inl (fg))) :: wm) sz)) (va_Qi (fun (r : Int32) (u : Unit) => r = th) (fun u => qB D (va_A ((mo, .inr (6, [.int (th), .int (nI M), .int (nI kd), .int (nI (ckb kd M)), .int (nI (nk kd)), .ref wi, .ref ck, .ref fq, .ref co, .int (nI (grsK kd M)), .int (nI ifo), .int (nI fl), .long (ma), .int (mk), .int (bi), .long (wo9), .int (ch9), .int (tu9), .ref sq, .ref uq, .ref gq])) :: (wi, .inl (g 0, 4, .inl (fw))) :: (ck, .inl (g 0, 4, .inl (fc))) :: (fq, .inl (g 0, 4, .inl (ff))) :: (co, .inl (g 0, 228, .inl (fco))) :: (sq, .inl (g 0, 8, .inl (fsq))) :: (uq, .inl (g 2, 128, .inl (fu))) :: (gq, .inl (g 0, 7, .inl (fg))) :: wm) sz) ((mo, .inr (6, [.int (th), .int (nI M), .int (nI kd), .int (nI (ckb kd M)), .int (nI (nk kd)), .ref wi, .ref ck, .ref fq, .ref co, .int (nI (grsK kd M)), .int (nI ifo), .int (nI fl), .long (ma), .int (mk), .int (bi), .long (wo9), .int (ch9), .int (tu9), .ref sq, .ref uq, .ref gq])) :: (wi, .inl (g 0, 4, .inl (fw))) :: (ck, .inl (g 0, 4, .inl (fc))) :: (fq, .inl (g 0, 4, .inl (ff))) :: (co, .inl (g 0, 228, .inl (fco))) :: (sq, .inl (g 0, 8, .inl (fsq))) :: (uq, .inl (g 2, 128, .inl (fu))) :: (gq, .inl (g 0, 7, .inl (fg))) :: wm)) (va_A ((mo, .inr (6, [.int (th), .int (nI M), .int (nI kd), .int (nI (ckb kd M)), .int (nI (nk kd)), .ref wi, .ref ck, .ref fq, .ref co, .int (nI (grsK kd M)), .int (nI ifo), .int (nI fl), .long (ma), .int (mk), .int (bi), .long (wo9), .int (ch9), .int (tu9), .ref sq, .ref uq, .ref gq])) :: (wi, .inl (g 0, 4, .inl (fw))) :: (ck, .inl (g 0, 4, .inl (fc))) :: (fq, .inl (g 0, 4, .inl (ff))) :: (co, .inl (g 0, 228, .inl (fco))) :: (sq, .inl (g 0, 8, .inl (fsq))) :: (uq, .inl (g 2, 128, .inl (fu))) :: (gq, .inl (g 0, 7, .inl (fg))) :: wm) sz)) 0 0 (va_A ((mo, .inr (6, [.int (th), .int (nI M), .int (nI kd), .int (nI (ckb kd M)), .int (nI (nk kd)), .ref wi, .ref ck, .ref fq, .ref co, .int (nI (grsK kd M)), .int (nI ifo), .int (nI fl), .long (ma), .int (mk), .int (bi), .long (wo9), .int (ch9), .int (tu9), .ref sq, .ref uq, .ref gq])) :: (wi, .inl (g 0, 4, .inl (fw))) :: (ck, .inl (g 0, 4, .inl (fc))) :: (fq, .inl (g 0, 4, .inl (ff))) :: (co, .inl (g 0, 228, .inl (fco))) :: (sq, .inl (g 0, 8, .inl (fsq))) :: (uq, .inl (g 2, 128, .inl (fu))) :: (gq, .inl (g 0, 7, .inl (fg))) :: wm) sz) := by
  refine Met.ofW (cc := b_M_thrown) (maxL := 1) (ret := (some .int)) (by decide +kernel) rfl ?_
  intro p e s m args below meth c s₁ Bq hml hv
  have hx := Bq.exec
  have hb := Bq.bytes
  have hr := Bq.returns
  have hts : ∀ w ∈ wA, w.before args s = true := fun w h => atoms_spec (ws := w_M_thrown) Bq.pre w (List.mem_cons_of_mem _ h)
  have hown : s.vm.findClass R_M = some m.cls := findClass_of_methodNamed Bq.named
  have hlocks := Bq.notSynchronized
  obtain ⟨rfl, hsz, hP, hKK, hD0⟩ := hv
  have hK := hKK.1
  subst hsz
  have hD := hD0.self (sz := s.heap.size)
  generalize hAe : va_A ((mo, .inr (6, [.int (th), .int (nI M), .int (nI kd), .int (nI (ckb kd M)), .int (nI (nk kd)), .ref wi, .ref ck, .ref fq, .ref co, .int (nI (grsK kd M)), .int (nI ifo), .int (nI fl), .long (ma), .int (mk), .int (bi), .long (wo9), .int (ch9), .int (tu9), .ref sq, .ref uq, .ref gq])) :: (wi, .inl (g 0, 4, .inl (fw))) :: (ck, .inl (g 0, 4, .inl (fc))) :: (fq, .inl (g 0, 4, .inl (ff))) :: (co, .inl (g 0, 228, .inl (fco))) :: (sq, .inl (g 0, 8, .inl (fsq))) :: (uq, .inl (g 2, 128, .inl (fu))) :: (gq, .inl (g 0, 7, .inl (fg))) :: wm) s.heap.size = A at hD ⊢
  have hA : ∀ q : Nat, s.heap.size ≤ q → A q := fun q h => by rw [← hAe]; exact Or.inr h
  have hS : va_S A s.heap s.heap [] := va_S.rf
  have hl := lv_entry ([.ref mo]) (n := 1) (Nat.le_of_ble_eq_true rfl)
  rw [lg_entry_eq]
  generalize (lg_sl ([.ref mo]) ++ List.replicate (1 - (lg_sl ([.ref mo])).length) Slot.unset).toArray = ls at hl ⊢
  have hl : lv_has ls 1 [(0, .ref mo)] := hl
  generalize hQ : MQ below (va_Qi (fun (r : Int32) (u : Unit) => r = th) (fun u => qB D (A) ((mo, .inr (6, [.int (th), .int (nI M), .int (nI kd), .int (nI (ckb kd M)), .int (nI (nk kd)), .ref wi, .ref ck, .ref fq, .ref co, .int (nI (grsK kd M)), .int (nI ifo), .int (nI fl), .long (ma), .int (mk), .int (bi), .long (wo9), .int (ch9), .int (tu9), .ref sq, .ref uq, .ref gq])) :: (wi, .inl (g 0, 4, .inl (fw))) :: (ck, .inl (g 0, 4, .inl (fc))) :: (fq, .inl (g 0, 4, .inl (ff))) :: (co, .inl (g 0, 228, .inl (fco))) :: (sq, .inl (g 0, 8, .inl (fsq))) :: (uq, .inl (g 2, 128, .inl (fu))) :: (gq, .inl (g 0, 7, .inl (fg))) :: wm)) (A)) [.ref mo].toArray s 0 0 A = Q
  refine lv_aload_n hx hb d_M_thrown_0 rfl (lv_at hl 0 rfl) ?_
  refine va_get (D := D) (ci := 6) (v := .int (th)) (C := R_M) (T := F_M) (N := 21) hx hb hts i_M hown hK hP 0 rfl rfl 0 (by decide) (hts _ m_603) (fun _ h9 => h9) rfl d_M_thrown_1 ?_
  rw [← hQ]
  refine W.iret (v := th) hx hb hr ?_ hS.2.2 d_M_thrown_4
  exact fun t ht hW => ⟨⟨th, (), rfl, rfl, by rw [ht]; exact hP, hD⟩, hS.F ht⟩
set_option maxHeartbeats 4000000 in
set_option maxRecDepth 100000 in
theorem c_M_word (l : Launch) (D : va_G) (g : Nat → ClassId) (sz : Nat) (wm : va_W) (mo wi ck fq co sq uq gq kd M ifo fl : Nat) (th mk bi ch9 tu9 : Int32) (ma wo9 : Int64) (fw fc ff fco fsq fu fg : Nat → Int32) (hM0 : 0 < M) (hM : M ≤ 57)  : Met l y_M_word w_M_word rm_M_word (va_Pc [.ref mo] (pP D (tyl g) ((mo, .inr (6, [.int (th), .int (nI M), .int (nI kd), .int (nI (ckb kd M)), .int (nI (nk kd)), .ref wi, .ref ck, .ref fq, .ref co, .int (nI (grsK kd M)), .int (nI ifo), .int (nI fl), .long (ma), .int (mk), .int (bi), .long (wo9), .int (ch9), .int (tu9), .ref sq, .ref uq, .ref gq])) :: (wi, .inl (g 0, 4, .inl (fw))) :: (ck, .inl (g 0, 4, .inl (fc))) :: (fq, .inl (g 0, 4, .inl (ff))) :: (co, .inl (g 0, 228, .inl (fco))) :: (sq, .inl (g 0, 8, .inl (fsq))) :: (uq, .inl (g 2, 128, .inl (fu))) :: (gq, .inl (g 0, 7, .inl (fg))) :: wm) sz)) (va_Ql (fun (r : Int64) (u : Unit) => r = wo9) (fun u => qB D (va_A ((mo, .inr (6, [.int (th), .int (nI M), .int (nI kd), .int (nI (ckb kd M)), .int (nI (nk kd)), .ref wi, .ref ck, .ref fq, .ref co, .int (nI (grsK kd M)), .int (nI ifo), .int (nI fl), .long (ma), .int (mk), .int (bi), .long (wo9), .int (ch9), .int (tu9), .ref sq, .ref uq, .ref gq])) :: (wi, .inl (g 0, 4, .inl (fw))) :: (ck, .inl (g 0, 4, .inl (fc))) :: (fq, .inl (g 0, 4, .inl (ff))) :: (co, .inl (g 0, 228, .inl (fco))) :: (sq, .inl (g 0, 8, .inl (fsq))) :: (uq, .inl (g 2, 128, .inl (fu))) :: (gq, .inl (g 0, 7, .inl (fg))) :: wm) sz) ((mo, .inr (6, [.int (nI 0), .int (nI M), .int (nI kd), .int (nI (ckb kd M)), .int (nI (nk kd)), .ref wi, .ref ck, .ref fq, .ref co, .int (nI (grsK kd M)), .int (nI ifo), .int (nI fl), .long (ma), .int (mk), .int (bi), .long (wo9), .int (ch9), .int (tu9), .ref sq, .ref uq, .ref gq])) :: (wi, .inl (g 0, 4, .inl (fw))) :: (ck, .inl (g 0, 4, .inl (fc))) :: (fq, .inl (g 0, 4, .inl (ff))) :: (co, .inl (g 0, 228, .inl (fco))) :: (sq, .inl (g 0, 8, .inl (fsq))) :: (uq, .inl (g 2, 128, .inl (fu))) :: (gq, .inl (g 0, 7, .inl (fg))) :: wm)) (va_A ((mo, .inr (6, [.int (th), .int (nI M), .int (nI kd), .int (nI (ckb kd M)), .int (nI (nk kd)), .ref wi, .ref ck, .ref fq, .ref co, .int (nI (grsK kd M)), .int (nI ifo), .int (nI fl), .long (ma), .int (mk), .int (bi), .long (wo9), .int (ch9), .int (tu9), .ref sq, .ref uq, .ref gq])) :: (wi, .inl (g 0, 4, .inl (fw))) :: (ck, .inl (g 0, 4, .inl (fc))) :: (fq, .inl (g 0, 4, .inl (ff))) :: (co, .inl (g 0, 228, .inl (fco))) :: (sq, .inl (g 0, 8, .inl (fsq))) :: (uq, .inl (g 2, 128, .inl (fu))) :: (gq, .inl (g 0, 7, .inl (fg))) :: wm) sz)) 0 0 (va_A ((mo, .inr (6, [.int (th), .int (nI M), .int (nI kd), .int (nI (ckb kd M)), .int (nI (nk kd)), .ref wi, .ref ck, .ref fq, .ref co, .int (nI (grsK kd M)), .int (nI ifo), .int (nI fl), .long (ma), .int (mk), .int (bi), .long (wo9), .int (ch9), .int (tu9), .ref sq, .ref uq, .ref gq])) :: (wi, .inl (g 0, 4, .inl (fw))) :: (ck, .inl (g 0, 4, .inl (fc))) :: (fq, .inl (g 0, 4, .inl (ff))) :: (co, .inl (g 0, 228, .inl (fco))) :: (sq, .inl (g 0, 8, .inl (fsq))) :: (uq, .inl (g 2, 128, .inl (fu))) :: (gq, .inl (g 0, 7, .inl (fg))) :: wm) sz) := by
  refine Met.ofW (cc := b_M_word) (maxL := 1) (ret := (some .long)) (by decide +kernel) rfl ?_
  intro p e s m args below meth c s₁ Bq hml hv
  have hx := Bq.exec
  have hb := Bq.bytes
  have hr := Bq.returns
  have hts : ∀ w ∈ wA, w.before args s = true := fun w h => atoms_spec (ws := w_M_word) Bq.pre w (List.mem_cons_of_mem _ h)
  have hown : s.vm.findClass R_M = some m.cls := findClass_of_methodNamed Bq.named
  have hlocks := Bq.notSynchronized
  obtain ⟨rfl, hsz, hP, hKK, hD0⟩ := hv
  have hK := hKK.1
  subst hsz
  have hD := hD0.self (sz := s.heap.size)
  generalize hAe : va_A ((mo, .inr (6, [.int (th), .int (nI M), .int (nI kd), .int (nI (ckb kd M)), .int (nI (nk kd)), .ref wi, .ref ck, .ref fq, .ref co, .int (nI (grsK kd M)), .int (nI ifo), .int (nI fl), .long (ma), .int (mk), .int (bi), .long (wo9), .int (ch9), .int (tu9), .ref sq, .ref uq, .ref gq])) :: (wi, .inl (g 0, 4, .inl (fw))) :: (ck, .inl (g 0, 4, .inl (fc))) :: (fq, .inl (g 0, 4, .inl (ff))) :: (co, .inl (g 0, 228, .inl (fco))) :: (sq, .inl (g 0, 8, .inl (fsq))) :: (uq, .inl (g 2, 128, .inl (fu))) :: (gq, .inl (g 0, 7, .inl (fg))) :: wm) s.heap.size = A at hD ⊢
  have hA : ∀ q : Nat, s.heap.size ≤ q → A q := fun q h => by rw [← hAe]; exact Or.inr h
  have hS : va_S A s.heap s.heap [] := va_S.rf
  have hl := lv_entry ([.ref mo]) (n := 1) (Nat.le_of_ble_eq_true rfl)
  rw [lg_entry_eq]
  generalize (lg_sl ([.ref mo]) ++ List.replicate (1 - (lg_sl ([.ref mo])).length) Slot.unset).toArray = ls at hl ⊢
  have hl : lv_has ls 1 [(0, .ref mo)] := hl
  generalize hQ : MQ below (va_Ql (fun (r : Int64) (u : Unit) => r = wo9) (fun u => qB D (A) ((mo, .inr (6, [.int (nI 0), .int (nI M), .int (nI kd), .int (nI (ckb kd M)), .int (nI (nk kd)), .ref wi, .ref ck, .ref fq, .ref co, .int (nI (grsK kd M)), .int (nI ifo), .int (nI fl), .long (ma), .int (mk), .int (bi), .long (wo9), .int (ch9), .int (tu9), .ref sq, .ref uq, .ref gq])) :: (wi, .inl (g 0, 4, .inl (fw))) :: (ck, .inl (g 0, 4, .inl (fc))) :: (fq, .inl (g 0, 4, .inl (ff))) :: (co, .inl (g 0, 228, .inl (fco))) :: (sq, .inl (g 0, 8, .inl (fsq))) :: (uq, .inl (g 2, 128, .inl (fu))) :: (gq, .inl (g 0, 7, .inl (fg))) :: wm)) (A)) [.ref mo].toArray s 0 0 A = Q
  refine lv_aload_n hx hb d_M_word_0 rfl (lv_at hl 0 rfl) ?_
  refine lv_iconst (v := nI 0) hx hb d_M_word_1 (by decide) ?_
  refine va_put (D := D) (ci := 6) (v := .int (nI 0)) (ty := .int) (C := R_M) (T := F_M) (N := 21) hx hb hts i_M tf_M tf_M_ok nf_M hown hK hP hD hS 0 rfl rfl 0 (by decide) (hts _ m_603) (fun _ h9 => h9) rfl (by decide +kernel) rfl rfl (Nat.le_of_ble_eq_true rfl) d_M_word_2 (fun H locs hP hD hS => ?_)
  have hP : va_P D vwCl ((mo, .inr (6, [.int (nI 0), .int (nI M), .int (nI kd), .int (nI (ckb kd M)), .int (nI (nk kd)), .ref wi, .ref ck, .ref fq, .ref co, .int (nI (grsK kd M)), .int (nI ifo), .int (nI fl), .long (ma), .int (mk), .int (bi), .long (wo9), .int (ch9), .int (tu9), .ref sq, .ref uq, .ref gq])) :: (wi, .inl (g 0, 4, .inl (fw))) :: (ck, .inl (g 0, 4, .inl (fc))) :: (fq, .inl (g 0, 4, .inl (ff))) :: (co, .inl (g 0, 228, .inl (fco))) :: (sq, .inl (g 0, 8, .inl (fsq))) :: (uq, .inl (g 2, 128, .inl (fu))) :: (gq, .inl (g 0, 7, .inl (fg))) :: wm) H := hP
  have hD : va_D A ((mo, .inr (6, [.int (nI 0), .int (nI M), .int (nI kd), .int (nI (ckb kd M)), .int (nI (nk kd)), .ref wi, .ref ck, .ref fq, .ref co, .int (nI (grsK kd M)), .int (nI ifo), .int (nI fl), .long (ma), .int (mk), .int (bi), .long (wo9), .int (ch9), .int (tu9), .ref sq, .ref uq, .ref gq])) :: (wi, .inl (g 0, 4, .inl (fw))) :: (ck, .inl (g 0, 4, .inl (fc))) :: (fq, .inl (g 0, 4, .inl (ff))) :: (co, .inl (g 0, 228, .inl (fco))) :: (sq, .inl (g 0, 8, .inl (fsq))) :: (uq, .inl (g 2, 128, .inl (fu))) :: (gq, .inl (g 0, 7, .inl (fg))) :: wm) := hD
  refine lv_aload_n hx hb d_M_word_5 rfl (lv_at hl 0 rfl) ?_
  refine va_get (D := D) (ci := 6) (v := .long (wo9)) (C := R_M) (T := F_M) (N := 21) hx hb hts i_M hown hK hP 0 rfl rfl 15 (by decide) (hts _ m_618) (fun _ h9 => h9) rfl d_M_word_6 ?_
  rw [← hQ]
  refine W.lret (v := wo9) hx hb hr ?_ hS.2.2 d_M_word_9
  exact fun t ht hW => ⟨⟨wo9, (), rfl, rfl, by rw [ht]; exact hP, hD⟩, hS.F ht⟩
set_option maxHeartbeats 4000000 in
set_option maxRecDepth 100000 in
theorem c_M_checkRead (l : Launch) (D : va_G) (g : Nat → ClassId) (sz : Nat) (wm : va_W) (mo wi ck fq co sq uq gq kd M ifo fl : Nat) (th mk bi ch9 tu9 : Int32) (ma wo9 : Int64) (fw fc ff fco fsq fu fg : Nat → Int32) (hM0 : 0 < M) (hM : M ≤ 57)  : Met l y_M_checkRead w_M_checkRead rm_M_checkRead (va_Pc [.ref mo] (pP D (tyl g) ((mo, .inr (6, [.int (th), .int (nI M), .int (nI kd), .int (nI (ckb kd M)), .int (nI (nk kd)), .ref wi, .ref ck, .ref fq, .ref co, .int (nI (grsK kd M)), .int (nI ifo), .int (nI fl), .long (ma), .int (mk), .int (bi), .long (wo9), .int (ch9), .int (tu9), .ref sq, .ref uq, .ref gq])) :: (wi, .inl (g 0, 4, .inl (fw))) :: (ck, .inl (g 0, 4, .inl (fc))) :: (fq, .inl (g 0, 4, .inl (ff))) :: (co, .inl (g 0, 228, .inl (fco))) :: (sq, .inl (g 0, 8, .inl (fsq))) :: (uq, .inl (g 2, 128, .inl (fu))) :: (gq, .inl (g 0, 7, .inl (fg))) :: wm) sz)) (va_Qi (fun (r : Int32) (u : Unit) => r = ch9) (fun u => qB D (va_A ((mo, .inr (6, [.int (th), .int (nI M), .int (nI kd), .int (nI (ckb kd M)), .int (nI (nk kd)), .ref wi, .ref ck, .ref fq, .ref co, .int (nI (grsK kd M)), .int (nI ifo), .int (nI fl), .long (ma), .int (mk), .int (bi), .long (wo9), .int (ch9), .int (tu9), .ref sq, .ref uq, .ref gq])) :: (wi, .inl (g 0, 4, .inl (fw))) :: (ck, .inl (g 0, 4, .inl (fc))) :: (fq, .inl (g 0, 4, .inl (ff))) :: (co, .inl (g 0, 228, .inl (fco))) :: (sq, .inl (g 0, 8, .inl (fsq))) :: (uq, .inl (g 2, 128, .inl (fu))) :: (gq, .inl (g 0, 7, .inl (fg))) :: wm) sz) ((mo, .inr (6, [.int (nI 0), .int (nI M), .int (nI kd), .int (nI (ckb kd M)), .int (nI (nk kd)), .ref wi, .ref ck, .ref fq, .ref co, .int (nI (grsK kd M)), .int (nI ifo), .int (nI fl), .long (ma), .int (mk), .int (bi), .long (wo9), .int (ch9), .int (tu9), .ref sq, .ref uq, .ref gq])) :: (wi, .inl (g 0, 4, .inl (fw))) :: (ck, .inl (g 0, 4, .inl (fc))) :: (fq, .inl (g 0, 4, .inl (ff))) :: (co, .inl (g 0, 228, .inl (fco))) :: (sq, .inl (g 0, 8, .inl (fsq))) :: (uq, .inl (g 2, 128, .inl (fu))) :: (gq, .inl (g 0, 7, .inl (fg))) :: wm)) (va_A ((mo, .inr (6, [.int (th), .int (nI M), .int (nI kd), .int (nI (ckb kd M)), .int (nI (nk kd)), .ref wi, .ref ck, .ref fq, .ref co, .int (nI (grsK kd M)), .int (nI ifo), .int (nI fl), .long (ma), .int (mk), .int (bi), .long (wo9), .int (ch9), .int (tu9), .ref sq, .ref uq, .ref gq])) :: (wi, .inl (g 0, 4, .inl (fw))) :: (ck, .inl (g 0, 4, .inl (fc))) :: (fq, .inl (g 0, 4, .inl (ff))) :: (co, .inl (g 0, 228, .inl (fco))) :: (sq, .inl (g 0, 8, .inl (fsq))) :: (uq, .inl (g 2, 128, .inl (fu))) :: (gq, .inl (g 0, 7, .inl (fg))) :: wm) sz)) 0 0 (va_A ((mo, .inr (6, [.int (th), .int (nI M), .int (nI kd), .int (nI (ckb kd M)), .int (nI (nk kd)), .ref wi, .ref ck, .ref fq, .ref co, .int (nI (grsK kd M)), .int (nI ifo), .int (nI fl), .long (ma), .int (mk), .int (bi), .long (wo9), .int (ch9), .int (tu9), .ref sq, .ref uq, .ref gq])) :: (wi, .inl (g 0, 4, .inl (fw))) :: (ck, .inl (g 0, 4, .inl (fc))) :: (fq, .inl (g 0, 4, .inl (ff))) :: (co, .inl (g 0, 228, .inl (fco))) :: (sq, .inl (g 0, 8, .inl (fsq))) :: (uq, .inl (g 2, 128, .inl (fu))) :: (gq, .inl (g 0, 7, .inl (fg))) :: wm) sz) := by
  refine Met.ofW (cc := b_M_checkRead) (maxL := 1) (ret := (some .int)) (by decide +kernel) rfl ?_
  intro p e s m args below meth c s₁ Bq hml hv
  have hx := Bq.exec
  have hb := Bq.bytes
  have hr := Bq.returns
  have hts : ∀ w ∈ wA, w.before args s = true := fun w h => atoms_spec (ws := w_M_checkRead) Bq.pre w (List.mem_cons_of_mem _ h)
  have hown : s.vm.findClass R_M = some m.cls := findClass_of_methodNamed Bq.named
  have hlocks := Bq.notSynchronized
  obtain ⟨rfl, hsz, hP, hKK, hD0⟩ := hv
  have hK := hKK.1
  subst hsz
  have hD := hD0.self (sz := s.heap.size)
  generalize hAe : va_A ((mo, .inr (6, [.int (th), .int (nI M), .int (nI kd), .int (nI (ckb kd M)), .int (nI (nk kd)), .ref wi, .ref ck, .ref fq, .ref co, .int (nI (grsK kd M)), .int (nI ifo), .int (nI fl), .long (ma), .int (mk), .int (bi), .long (wo9), .int (ch9), .int (tu9), .ref sq, .ref uq, .ref gq])) :: (wi, .inl (g 0, 4, .inl (fw))) :: (ck, .inl (g 0, 4, .inl (fc))) :: (fq, .inl (g 0, 4, .inl (ff))) :: (co, .inl (g 0, 228, .inl (fco))) :: (sq, .inl (g 0, 8, .inl (fsq))) :: (uq, .inl (g 2, 128, .inl (fu))) :: (gq, .inl (g 0, 7, .inl (fg))) :: wm) s.heap.size = A at hD ⊢
  have hA : ∀ q : Nat, s.heap.size ≤ q → A q := fun q h => by rw [← hAe]; exact Or.inr h
  have hS : va_S A s.heap s.heap [] := va_S.rf
  have hl := lv_entry ([.ref mo]) (n := 1) (Nat.le_of_ble_eq_true rfl)
  rw [lg_entry_eq]
  generalize (lg_sl ([.ref mo]) ++ List.replicate (1 - (lg_sl ([.ref mo])).length) Slot.unset).toArray = ls at hl ⊢
  have hl : lv_has ls 1 [(0, .ref mo)] := hl
  generalize hQ : MQ below (va_Qi (fun (r : Int32) (u : Unit) => r = ch9) (fun u => qB D (A) ((mo, .inr (6, [.int (nI 0), .int (nI M), .int (nI kd), .int (nI (ckb kd M)), .int (nI (nk kd)), .ref wi, .ref ck, .ref fq, .ref co, .int (nI (grsK kd M)), .int (nI ifo), .int (nI fl), .long (ma), .int (mk), .int (bi), .long (wo9), .int (ch9), .int (tu9), .ref sq, .ref uq, .ref gq])) :: (wi, .inl (g 0, 4, .inl (fw))) :: (ck, .inl (g 0, 4, .inl (fc))) :: (fq, .inl (g 0, 4, .inl (ff))) :: (co, .inl (g 0, 228, .inl (fco))) :: (sq, .inl (g 0, 8, .inl (fsq))) :: (uq, .inl (g 2, 128, .inl (fu))) :: (gq, .inl (g 0, 7, .inl (fg))) :: wm)) (A)) [.ref mo].toArray s 0 0 A = Q
  refine lv_aload_n hx hb d_M_checkRead_0 rfl (lv_at hl 0 rfl) ?_
  refine lv_iconst (v := nI 0) hx hb d_M_checkRead_1 (by decide) ?_
  refine va_put (D := D) (ci := 6) (v := .int (nI 0)) (ty := .int) (C := R_M) (T := F_M) (N := 21) hx hb hts i_M tf_M tf_M_ok nf_M hown hK hP hD hS 0 rfl rfl 0 (by decide) (hts _ m_603) (fun _ h9 => h9) rfl (by decide +kernel) rfl rfl (Nat.le_of_ble_eq_true rfl) d_M_checkRead_2 (fun H locs hP hD hS => ?_)
  have hP : va_P D vwCl ((mo, .inr (6, [.int (nI 0), .int (nI M), .int (nI kd), .int (nI (ckb kd M)), .int (nI (nk kd)), .ref wi, .ref ck, .ref fq, .ref co, .int (nI (grsK kd M)), .int (nI ifo), .int (nI fl), .long (ma), .int (mk), .int (bi), .long (wo9), .int (ch9), .int (tu9), .ref sq, .ref uq, .ref gq])) :: (wi, .inl (g 0, 4, .inl (fw))) :: (ck, .inl (g 0, 4, .inl (fc))) :: (fq, .inl (g 0, 4, .inl (ff))) :: (co, .inl (g 0, 228, .inl (fco))) :: (sq, .inl (g 0, 8, .inl (fsq))) :: (uq, .inl (g 2, 128, .inl (fu))) :: (gq, .inl (g 0, 7, .inl (fg))) :: wm) H := hP
  have hD : va_D A ((mo, .inr (6, [.int (nI 0), .int (nI M), .int (nI kd), .int (nI (ckb kd M)), .int (nI (nk kd)), .ref wi, .ref ck, .ref fq, .ref co, .int (nI (grsK kd M)), .int (nI ifo), .int (nI fl), .long (ma), .int (mk), .int (bi), .long (wo9), .int (ch9), .int (tu9), .ref sq, .ref uq, .ref gq])) :: (wi, .inl (g 0, 4, .inl (fw))) :: (ck, .inl (g 0, 4, .inl (fc))) :: (fq, .inl (g 0, 4, .inl (ff))) :: (co, .inl (g 0, 228, .inl (fco))) :: (sq, .inl (g 0, 8, .inl (fsq))) :: (uq, .inl (g 2, 128, .inl (fu))) :: (gq, .inl (g 0, 7, .inl (fg))) :: wm) := hD
  refine lv_aload_n hx hb d_M_checkRead_5 rfl (lv_at hl 0 rfl) ?_
  refine va_get (D := D) (ci := 6) (v := .int (ch9)) (C := R_M) (T := F_M) (N := 21) hx hb hts i_M hown hK hP 0 rfl rfl 16 (by decide) (hts _ m_619) (fun _ h9 => h9) rfl d_M_checkRead_6 ?_
  rw [← hQ]
  refine W.iret (v := ch9) hx hb hr ?_ hS.2.2 d_M_checkRead_9
  exact fun t ht hW => ⟨⟨ch9, (), rfl, rfl, by rw [ht]; exact hP, hD⟩, hS.F ht⟩
set_option maxHeartbeats 4000000 in
set_option maxRecDepth 100000 in
theorem c_M_turned (l : Launch) (D : va_G) (g : Nat → ClassId) (sz : Nat) (wm : va_W) (mo wi ck fq co sq uq gq kd M ifo fl : Nat) (th mk bi ch9 tu9 : Int32) (ma wo9 : Int64) (fw fc ff fco fsq fu fg : Nat → Int32) (hM0 : 0 < M) (hM : M ≤ 57)  : Met l y_M_turned w_M_turned rm_M_turned (va_Pc [.ref mo] (pP D (tyl g) ((mo, .inr (6, [.int (th), .int (nI M), .int (nI kd), .int (nI (ckb kd M)), .int (nI (nk kd)), .ref wi, .ref ck, .ref fq, .ref co, .int (nI (grsK kd M)), .int (nI ifo), .int (nI fl), .long (ma), .int (mk), .int (bi), .long (wo9), .int (ch9), .int (tu9), .ref sq, .ref uq, .ref gq])) :: (wi, .inl (g 0, 4, .inl (fw))) :: (ck, .inl (g 0, 4, .inl (fc))) :: (fq, .inl (g 0, 4, .inl (ff))) :: (co, .inl (g 0, 228, .inl (fco))) :: (sq, .inl (g 0, 8, .inl (fsq))) :: (uq, .inl (g 2, 128, .inl (fu))) :: (gq, .inl (g 0, 7, .inl (fg))) :: wm) sz)) (va_Qi (fun (r : Int32) (u : Unit) => r = tu9) (fun u => qB D (va_A ((mo, .inr (6, [.int (th), .int (nI M), .int (nI kd), .int (nI (ckb kd M)), .int (nI (nk kd)), .ref wi, .ref ck, .ref fq, .ref co, .int (nI (grsK kd M)), .int (nI ifo), .int (nI fl), .long (ma), .int (mk), .int (bi), .long (wo9), .int (ch9), .int (tu9), .ref sq, .ref uq, .ref gq])) :: (wi, .inl (g 0, 4, .inl (fw))) :: (ck, .inl (g 0, 4, .inl (fc))) :: (fq, .inl (g 0, 4, .inl (ff))) :: (co, .inl (g 0, 228, .inl (fco))) :: (sq, .inl (g 0, 8, .inl (fsq))) :: (uq, .inl (g 2, 128, .inl (fu))) :: (gq, .inl (g 0, 7, .inl (fg))) :: wm) sz) ((mo, .inr (6, [.int (nI 0), .int (nI M), .int (nI kd), .int (nI (ckb kd M)), .int (nI (nk kd)), .ref wi, .ref ck, .ref fq, .ref co, .int (nI (grsK kd M)), .int (nI ifo), .int (nI fl), .long (ma), .int (mk), .int (bi), .long (wo9), .int (ch9), .int (tu9), .ref sq, .ref uq, .ref gq])) :: (wi, .inl (g 0, 4, .inl (fw))) :: (ck, .inl (g 0, 4, .inl (fc))) :: (fq, .inl (g 0, 4, .inl (ff))) :: (co, .inl (g 0, 228, .inl (fco))) :: (sq, .inl (g 0, 8, .inl (fsq))) :: (uq, .inl (g 2, 128, .inl (fu))) :: (gq, .inl (g 0, 7, .inl (fg))) :: wm)) (va_A ((mo, .inr (6, [.int (th), .int (nI M), .int (nI kd), .int (nI (ckb kd M)), .int (nI (nk kd)), .ref wi, .ref ck, .ref fq, .ref co, .int (nI (grsK kd M)), .int (nI ifo), .int (nI fl), .long (ma), .int (mk), .int (bi), .long (wo9), .int (ch9), .int (tu9), .ref sq, .ref uq, .ref gq])) :: (wi, .inl (g 0, 4, .inl (fw))) :: (ck, .inl (g 0, 4, .inl (fc))) :: (fq, .inl (g 0, 4, .inl (ff))) :: (co, .inl (g 0, 228, .inl (fco))) :: (sq, .inl (g 0, 8, .inl (fsq))) :: (uq, .inl (g 2, 128, .inl (fu))) :: (gq, .inl (g 0, 7, .inl (fg))) :: wm) sz)) 0 0 (va_A ((mo, .inr (6, [.int (th), .int (nI M), .int (nI kd), .int (nI (ckb kd M)), .int (nI (nk kd)), .ref wi, .ref ck, .ref fq, .ref co, .int (nI (grsK kd M)), .int (nI ifo), .int (nI fl), .long (ma), .int (mk), .int (bi), .long (wo9), .int (ch9), .int (tu9), .ref sq, .ref uq, .ref gq])) :: (wi, .inl (g 0, 4, .inl (fw))) :: (ck, .inl (g 0, 4, .inl (fc))) :: (fq, .inl (g 0, 4, .inl (ff))) :: (co, .inl (g 0, 228, .inl (fco))) :: (sq, .inl (g 0, 8, .inl (fsq))) :: (uq, .inl (g 2, 128, .inl (fu))) :: (gq, .inl (g 0, 7, .inl (fg))) :: wm) sz) := by
  refine Met.ofW (cc := b_M_turned) (maxL := 1) (ret := (some .int)) (by decide +kernel) rfl ?_
  intro p e s m args below meth c s₁ Bq hml hv
  have hx := Bq.exec
  have hb := Bq.bytes
  have hr := Bq.returns
  have hts : ∀ w ∈ wA, w.before args s = true := fun w h => atoms_spec (ws := w_M_turned) Bq.pre w (List.mem_cons_of_mem _ h)
  have hown : s.vm.findClass R_M = some m.cls := findClass_of_methodNamed Bq.named
  have hlocks := Bq.notSynchronized
  obtain ⟨rfl, hsz, hP, hKK, hD0⟩ := hv
  have hK := hKK.1
  subst hsz
  have hD := hD0.self (sz := s.heap.size)
  generalize hAe : va_A ((mo, .inr (6, [.int (th), .int (nI M), .int (nI kd), .int (nI (ckb kd M)), .int (nI (nk kd)), .ref wi, .ref ck, .ref fq, .ref co, .int (nI (grsK kd M)), .int (nI ifo), .int (nI fl), .long (ma), .int (mk), .int (bi), .long (wo9), .int (ch9), .int (tu9), .ref sq, .ref uq, .ref gq])) :: (wi, .inl (g 0, 4, .inl (fw))) :: (ck, .inl (g 0, 4, .inl (fc))) :: (fq, .inl (g 0, 4, .inl (ff))) :: (co, .inl (g 0, 228, .inl (fco))) :: (sq, .inl (g 0, 8, .inl (fsq))) :: (uq, .inl (g 2, 128, .inl (fu))) :: (gq, .inl (g 0, 7, .inl (fg))) :: wm) s.heap.size = A at hD ⊢
  have hA : ∀ q : Nat, s.heap.size ≤ q → A q := fun q h => by rw [← hAe]; exact Or.inr h
  have hS : va_S A s.heap s.heap [] := va_S.rf
  have hl := lv_entry ([.ref mo]) (n := 1) (Nat.le_of_ble_eq_true rfl)
  rw [lg_entry_eq]
  generalize (lg_sl ([.ref mo]) ++ List.replicate (1 - (lg_sl ([.ref mo])).length) Slot.unset).toArray = ls at hl ⊢
  have hl : lv_has ls 1 [(0, .ref mo)] := hl
  generalize hQ : MQ below (va_Qi (fun (r : Int32) (u : Unit) => r = tu9) (fun u => qB D (A) ((mo, .inr (6, [.int (nI 0), .int (nI M), .int (nI kd), .int (nI (ckb kd M)), .int (nI (nk kd)), .ref wi, .ref ck, .ref fq, .ref co, .int (nI (grsK kd M)), .int (nI ifo), .int (nI fl), .long (ma), .int (mk), .int (bi), .long (wo9), .int (ch9), .int (tu9), .ref sq, .ref uq, .ref gq])) :: (wi, .inl (g 0, 4, .inl (fw))) :: (ck, .inl (g 0, 4, .inl (fc))) :: (fq, .inl (g 0, 4, .inl (ff))) :: (co, .inl (g 0, 228, .inl (fco))) :: (sq, .inl (g 0, 8, .inl (fsq))) :: (uq, .inl (g 2, 128, .inl (fu))) :: (gq, .inl (g 0, 7, .inl (fg))) :: wm)) (A)) [.ref mo].toArray s 0 0 A = Q
  refine lv_aload_n hx hb d_M_turned_0 rfl (lv_at hl 0 rfl) ?_
  refine lv_iconst (v := nI 0) hx hb d_M_turned_1 (by decide) ?_
  refine va_put (D := D) (ci := 6) (v := .int (nI 0)) (ty := .int) (C := R_M) (T := F_M) (N := 21) hx hb hts i_M tf_M tf_M_ok nf_M hown hK hP hD hS 0 rfl rfl 0 (by decide) (hts _ m_603) (fun _ h9 => h9) rfl (by decide +kernel) rfl rfl (Nat.le_of_ble_eq_true rfl) d_M_turned_2 (fun H locs hP hD hS => ?_)
  have hP : va_P D vwCl ((mo, .inr (6, [.int (nI 0), .int (nI M), .int (nI kd), .int (nI (ckb kd M)), .int (nI (nk kd)), .ref wi, .ref ck, .ref fq, .ref co, .int (nI (grsK kd M)), .int (nI ifo), .int (nI fl), .long (ma), .int (mk), .int (bi), .long (wo9), .int (ch9), .int (tu9), .ref sq, .ref uq, .ref gq])) :: (wi, .inl (g 0, 4, .inl (fw))) :: (ck, .inl (g 0, 4, .inl (fc))) :: (fq, .inl (g 0, 4, .inl (ff))) :: (co, .inl (g 0, 228, .inl (fco))) :: (sq, .inl (g 0, 8, .inl (fsq))) :: (uq, .inl (g 2, 128, .inl (fu))) :: (gq, .inl (g 0, 7, .inl (fg))) :: wm) H := hP
  have hD : va_D A ((mo, .inr (6, [.int (nI 0), .int (nI M), .int (nI kd), .int (nI (ckb kd M)), .int (nI (nk kd)), .ref wi, .ref ck, .ref fq, .ref co, .int (nI (grsK kd M)), .int (nI ifo), .int (nI fl), .long (ma), .int (mk), .int (bi), .long (wo9), .int (ch9), .int (tu9), .ref sq, .ref uq, .ref gq])) :: (wi, .inl (g 0, 4, .inl (fw))) :: (ck, .inl (g 0, 4, .inl (fc))) :: (fq, .inl (g 0, 4, .inl (ff))) :: (co, .inl (g 0, 228, .inl (fco))) :: (sq, .inl (g 0, 8, .inl (fsq))) :: (uq, .inl (g 2, 128, .inl (fu))) :: (gq, .inl (g 0, 7, .inl (fg))) :: wm) := hD
  refine lv_aload_n hx hb d_M_turned_5 rfl (lv_at hl 0 rfl) ?_
  refine va_get (D := D) (ci := 6) (v := .int (tu9)) (C := R_M) (T := F_M) (N := 21) hx hb hts i_M hown hK hP 0 rfl rfl 17 (by decide) (hts _ m_620) (fun _ h9 => h9) rfl d_M_turned_6 ?_
  rw [← hQ]
  refine W.iret (v := tu9) hx hb hr ?_ hS.2.2 d_M_turned_9
  exact fun t ht hW => ⟨⟨tu9, (), rfl, rfl, by rw [ht]; exact hP, hD⟩, hS.F ht⟩
set_option maxHeartbeats 4000000 in
set_option maxRecDepth 100000 in
theorem c_M_plain (l : Launch) (D : va_G) (g : Nat → ClassId) (sz : Nat) (wm : va_W) (mo wi ck fq co sq uq gq kd M ifo fl : Nat) (th mk bi ch9 tu9 : Int32) (ma wo9 : Int64) (fw fc ff fco fsq fu fg : Nat → Int32) (hM0 : 0 < M) (hM : M ≤ 57) (hif : ifo ≤ 1) : Met l y_M_plain w_M_plain rm_M_plain (va_Pc [.ref mo] (pP D (tyl g) ((mo, .inr (6, [.int (th), .int (nI M), .int (nI kd), .int (nI (ckb kd M)), .int (nI (nk kd)), .ref wi, .ref ck, .ref fq, .ref co, .int (nI (grsK kd M)), .int (nI ifo), .int (nI fl), .long (ma), .int (mk), .int (bi), .long (wo9), .int (ch9), .int (tu9), .ref sq, .ref uq, .ref gq])) :: (wi, .inl (g 0, 4, .inl (fw))) :: (ck, .inl (g 0, 4, .inl (fc))) :: (fq, .inl (g 0, 4, .inl (ff))) :: (co, .inl (g 0, 228, .inl (fco))) :: (sq, .inl (g 0, 8, .inl (fsq))) :: (uq, .inl (g 2, 128, .inl (fu))) :: (gq, .inl (g 0, 7, .inl (fg))) :: wm) sz)) (va_Qi (fun (r : Int32) (u : Unit) => r = nI ifo) (fun u => qB D (va_A ((mo, .inr (6, [.int (th), .int (nI M), .int (nI kd), .int (nI (ckb kd M)), .int (nI (nk kd)), .ref wi, .ref ck, .ref fq, .ref co, .int (nI (grsK kd M)), .int (nI ifo), .int (nI fl), .long (ma), .int (mk), .int (bi), .long (wo9), .int (ch9), .int (tu9), .ref sq, .ref uq, .ref gq])) :: (wi, .inl (g 0, 4, .inl (fw))) :: (ck, .inl (g 0, 4, .inl (fc))) :: (fq, .inl (g 0, 4, .inl (ff))) :: (co, .inl (g 0, 228, .inl (fco))) :: (sq, .inl (g 0, 8, .inl (fsq))) :: (uq, .inl (g 2, 128, .inl (fu))) :: (gq, .inl (g 0, 7, .inl (fg))) :: wm) sz) ((mo, .inr (6, [.int (nI 0), .int (nI M), .int (nI kd), .int (nI (ckb kd M)), .int (nI (nk kd)), .ref wi, .ref ck, .ref fq, .ref co, .int (nI (grsK kd M)), .int (nI 0), .int (nI fl), .long (ma), .int (mk), .int (bi), .long (wo9), .int (ch9), .int (tu9), .ref sq, .ref uq, .ref gq])) :: (wi, .inl (g 0, 4, .inl (fw))) :: (ck, .inl (g 0, 4, .inl (fc))) :: (fq, .inl (g 0, 4, .inl (ff))) :: (co, .inl (g 0, 228, .inl (fco))) :: (sq, .inl (g 0, 8, .inl (fsq))) :: (uq, .inl (g 2, 128, .inl (fu))) :: (gq, .inl (g 0, 7, .inl (fg))) :: wm)) (va_A ((mo, .inr (6, [.int (th), .int (nI M), .int (nI kd), .int (nI (ckb kd M)), .int (nI (nk kd)), .ref wi, .ref ck, .ref fq, .ref co, .int (nI (grsK kd M)), .int (nI ifo), .int (nI fl), .long (ma), .int (mk), .int (bi), .long (wo9), .int (ch9), .int (tu9), .ref sq, .ref uq, .ref gq])) :: (wi, .inl (g 0, 4, .inl (fw))) :: (ck, .inl (g 0, 4, .inl (fc))) :: (fq, .inl (g 0, 4, .inl (ff))) :: (co, .inl (g 0, 228, .inl (fco))) :: (sq, .inl (g 0, 8, .inl (fsq))) :: (uq, .inl (g 2, 128, .inl (fu))) :: (gq, .inl (g 0, 7, .inl (fg))) :: wm) sz)) 0 0 (va_A ((mo, .inr (6, [.int (th), .int (nI M), .int (nI kd), .int (nI (ckb kd M)), .int (nI (nk kd)), .ref wi, .ref ck, .ref fq, .ref co, .int (nI (grsK kd M)), .int (nI ifo), .int (nI fl), .long (ma), .int (mk), .int (bi), .long (wo9), .int (ch9), .int (tu9), .ref sq, .ref uq, .ref gq])) :: (wi, .inl (g 0, 4, .inl (fw))) :: (ck, .inl (g 0, 4, .inl (fc))) :: (fq, .inl (g 0, 4, .inl (ff))) :: (co, .inl (g 0, 228, .inl (fco))) :: (sq, .inl (g 0, 8, .inl (fsq))) :: (uq, .inl (g 2, 128, .inl (fu))) :: (gq, .inl (g 0, 7, .inl (fg))) :: wm) sz) := by
  refine Met.ofW (cc := b_M_plain) (maxL := 2) (ret := (some .boolean)) (by decide +kernel) rfl ?_
  intro p e s m args below meth c s₁ Bq hml hv
  have hx := Bq.exec
  have hb := Bq.bytes
  have hr := Bq.returns
  have hts : ∀ w ∈ wA, w.before args s = true := fun w h => atoms_spec (ws := w_M_plain) Bq.pre w (List.mem_cons_of_mem _ h)
  have hown : s.vm.findClass R_M = some m.cls := findClass_of_methodNamed Bq.named
  have hlocks := Bq.notSynchronized
  obtain ⟨rfl, hsz, hP, hKK, hD0⟩ := hv
  have hK := hKK.1
  subst hsz
  have hD := hD0.self (sz := s.heap.size)
  generalize hAe : va_A ((mo, .inr (6, [.int (th), .int (nI M), .int (nI kd), .int (nI (ckb kd M)), .int (nI (nk kd)), .ref wi, .ref ck, .ref fq, .ref co, .int (nI (grsK kd M)), .int (nI ifo), .int (nI fl), .long (ma), .int (mk), .int (bi), .long (wo9), .int (ch9), .int (tu9), .ref sq, .ref uq, .ref gq])) :: (wi, .inl (g 0, 4, .inl (fw))) :: (ck, .inl (g 0, 4, .inl (fc))) :: (fq, .inl (g 0, 4, .inl (ff))) :: (co, .inl (g 0, 228, .inl (fco))) :: (sq, .inl (g 0, 8, .inl (fsq))) :: (uq, .inl (g 2, 128, .inl (fu))) :: (gq, .inl (g 0, 7, .inl (fg))) :: wm) s.heap.size = A at hD ⊢
  have hA : ∀ q : Nat, s.heap.size ≤ q → A q := fun q h => by rw [← hAe]; exact Or.inr h
  have hS : va_S A s.heap s.heap [] := va_S.rf
  have hl := lv_entry ([.ref mo]) (n := 2) (Nat.le_of_ble_eq_true rfl)
  rw [lg_entry_eq]
  generalize (lg_sl ([.ref mo]) ++ List.replicate (2 - (lg_sl ([.ref mo])).length) Slot.unset).toArray = ls at hl ⊢
  have hl : lv_has ls 2 [(0, .ref mo)] := hl
  generalize hQ : MQ below (va_Qi (fun (r : Int32) (u : Unit) => r = nI ifo) (fun u => qB D (A) ((mo, .inr (6, [.int (nI 0), .int (nI M), .int (nI kd), .int (nI (ckb kd M)), .int (nI (nk kd)), .ref wi, .ref ck, .ref fq, .ref co, .int (nI (grsK kd M)), .int (nI 0), .int (nI fl), .long (ma), .int (mk), .int (bi), .long (wo9), .int (ch9), .int (tu9), .ref sq, .ref uq, .ref gq])) :: (wi, .inl (g 0, 4, .inl (fw))) :: (ck, .inl (g 0, 4, .inl (fc))) :: (fq, .inl (g 0, 4, .inl (ff))) :: (co, .inl (g 0, 228, .inl (fco))) :: (sq, .inl (g 0, 8, .inl (fsq))) :: (uq, .inl (g 2, 128, .inl (fu))) :: (gq, .inl (g 0, 7, .inl (fg))) :: wm)) (A)) [.ref mo].toArray s 0 0 A = Q
  refine lv_aload_n hx hb d_M_plain_0 rfl (lv_at hl 0 rfl) ?_
  refine lv_iconst (v := nI 0) hx hb d_M_plain_1 (by decide) ?_
  refine va_put (D := D) (ci := 6) (v := .int (nI 0)) (ty := .int) (C := R_M) (T := F_M) (N := 21) hx hb hts i_M tf_M tf_M_ok nf_M hown hK hP hD hS 0 rfl rfl 0 (by decide) (hts _ m_603) (fun _ h9 => h9) rfl (by decide +kernel) rfl rfl (Nat.le_of_ble_eq_true rfl) d_M_plain_2 (fun H locs hP hD hS => ?_)
  have hP : va_P D vwCl ((mo, .inr (6, [.int (nI 0), .int (nI M), .int (nI kd), .int (nI (ckb kd M)), .int (nI (nk kd)), .ref wi, .ref ck, .ref fq, .ref co, .int (nI (grsK kd M)), .int (nI ifo), .int (nI fl), .long (ma), .int (mk), .int (bi), .long (wo9), .int (ch9), .int (tu9), .ref sq, .ref uq, .ref gq])) :: (wi, .inl (g 0, 4, .inl (fw))) :: (ck, .inl (g 0, 4, .inl (fc))) :: (fq, .inl (g 0, 4, .inl (ff))) :: (co, .inl (g 0, 228, .inl (fco))) :: (sq, .inl (g 0, 8, .inl (fsq))) :: (uq, .inl (g 2, 128, .inl (fu))) :: (gq, .inl (g 0, 7, .inl (fg))) :: wm) H := hP
  have hD : va_D A ((mo, .inr (6, [.int (nI 0), .int (nI M), .int (nI kd), .int (nI (ckb kd M)), .int (nI (nk kd)), .ref wi, .ref ck, .ref fq, .ref co, .int (nI (grsK kd M)), .int (nI ifo), .int (nI fl), .long (ma), .int (mk), .int (bi), .long (wo9), .int (ch9), .int (tu9), .ref sq, .ref uq, .ref gq])) :: (wi, .inl (g 0, 4, .inl (fw))) :: (ck, .inl (g 0, 4, .inl (fc))) :: (fq, .inl (g 0, 4, .inl (ff))) :: (co, .inl (g 0, 228, .inl (fco))) :: (sq, .inl (g 0, 8, .inl (fsq))) :: (uq, .inl (g 2, 128, .inl (fu))) :: (gq, .inl (g 0, 7, .inl (fg))) :: wm) := hD
  refine lv_aload_n hx hb d_M_plain_5 rfl (lv_at hl 0 rfl) ?_
  refine va_get (D := D) (ci := 6) (v := .int (nI ifo)) (C := R_M) (T := F_M) (N := 21) hx hb hts i_M hown hK hP 0 rfl rfl 10 (by decide) (hts _ m_613) (fun _ h9 => h9) rfl d_M_plain_6 ?_
  refine lv_istore_n (lv' := [(1, .int (nI ifo)), (0, .ref mo)]) hx hb d_M_plain_9 rfl hl (by decide) rfl (fun ls hl => ?_)
  refine lv_aload_n hx hb d_M_plain_10 rfl (lv_at hl 1 rfl) ?_
  refine lv_iconst (v := nI 0) hx hb d_M_plain_11 (by decide) ?_
  refine va_put (D := D) (ci := 6) (v := .int (nI 0)) (ty := .boolean) (C := R_M) (T := F_M) (N := 21) hx hb hts i_M tf_M tf_M_ok nf_M hown hK hP hD hS 0 rfl rfl 10 (by decide) (hts _ m_613) (fun _ h9 => h9) rfl (by decide +kernel) rfl rfl (Nat.le_of_ble_eq_true rfl) d_M_plain_12 (fun H locs hP hD hS => ?_)
  have hP : va_P D vwCl ((mo, .inr (6, [.int (nI 0), .int (nI M), .int (nI kd), .int (nI (ckb kd M)), .int (nI (nk kd)), .ref wi, .ref ck, .ref fq, .ref co, .int (nI (grsK kd M)), .int (nI 0), .int (nI fl), .long (ma), .int (mk), .int (bi), .long (wo9), .int (ch9), .int (tu9), .ref sq, .ref uq, .ref gq])) :: (wi, .inl (g 0, 4, .inl (fw))) :: (ck, .inl (g 0, 4, .inl (fc))) :: (fq, .inl (g 0, 4, .inl (ff))) :: (co, .inl (g 0, 228, .inl (fco))) :: (sq, .inl (g 0, 8, .inl (fsq))) :: (uq, .inl (g 2, 128, .inl (fu))) :: (gq, .inl (g 0, 7, .inl (fg))) :: wm) H := hP
  have hD : va_D A ((mo, .inr (6, [.int (nI 0), .int (nI M), .int (nI kd), .int (nI (ckb kd M)), .int (nI (nk kd)), .ref wi, .ref ck, .ref fq, .ref co, .int (nI (grsK kd M)), .int (nI 0), .int (nI fl), .long (ma), .int (mk), .int (bi), .long (wo9), .int (ch9), .int (tu9), .ref sq, .ref uq, .ref gq])) :: (wi, .inl (g 0, 4, .inl (fw))) :: (ck, .inl (g 0, 4, .inl (fc))) :: (fq, .inl (g 0, 4, .inl (ff))) :: (co, .inl (g 0, 228, .inl (fco))) :: (sq, .inl (g 0, 8, .inl (fsq))) :: (uq, .inl (g 2, 128, .inl (fu))) :: (gq, .inl (g 0, 7, .inl (fg))) :: wm) := hD
  refine lv_iload_n hx hb d_M_plain_15 rfl (lv_at hl 0 rfl) ?_
  rw [← hQ]
  refine W.zret (v := nI ifo) (ty := .boolean) hx hb hr (nar01 hif) ?_ hS.2.2 d_M_plain_16
  exact fun t ht hW => ⟨⟨nI ifo, (), rfl, rfl, by rw [ht]; exact hP, hD⟩, hS.F ht⟩
set_option maxHeartbeats 4000000 in
set_option maxRecDepth 100000 in
theorem c_M_size (l : Launch) (D : va_G) (g : Nat → ClassId) (sz : Nat) (wm : va_W) (mo wi ck fq co sq uq gq kd M ifo fl : Nat) (th mk bi ch9 tu9 : Int32) (ma wo9 : Int64) (fw fc ff fco fsq fu fg : Nat → Int32) (hM0 : 0 < M) (hM : M ≤ 57) (y : Int32) : Met l y_M_size w_M_size rm_M_size (va_Pc [.ref mo, .int (y)] (pP D (tyl g) ((mo, .inr (6, [.int (th), .int (nI M), .int (nI kd), .int (nI (ckb kd M)), .int (nI (nk kd)), .ref wi, .ref ck, .ref fq, .ref co, .int (nI (grsK kd M)), .int (nI ifo), .int (nI fl), .long (ma), .int (mk), .int (bi), .long (wo9), .int (ch9), .int (tu9), .ref sq, .ref uq, .ref gq])) :: (wi, .inl (g 0, 4, .inl (fw))) :: (ck, .inl (g 0, 4, .inl (fc))) :: (fq, .inl (g 0, 4, .inl (ff))) :: (co, .inl (g 0, 228, .inl (fco))) :: (sq, .inl (g 0, 8, .inl (fsq))) :: (uq, .inl (g 2, 128, .inl (fu))) :: (gq, .inl (g 0, 7, .inl (fg))) :: wm) sz)) (va_Qi (fun (r : Int32) (u : Unit) => r = szK kd M y) (fun u => qB D (va_A ((mo, .inr (6, [.int (th), .int (nI M), .int (nI kd), .int (nI (ckb kd M)), .int (nI (nk kd)), .ref wi, .ref ck, .ref fq, .ref co, .int (nI (grsK kd M)), .int (nI ifo), .int (nI fl), .long (ma), .int (mk), .int (bi), .long (wo9), .int (ch9), .int (tu9), .ref sq, .ref uq, .ref gq])) :: (wi, .inl (g 0, 4, .inl (fw))) :: (ck, .inl (g 0, 4, .inl (fc))) :: (fq, .inl (g 0, 4, .inl (ff))) :: (co, .inl (g 0, 228, .inl (fco))) :: (sq, .inl (g 0, 8, .inl (fsq))) :: (uq, .inl (g 2, 128, .inl (fu))) :: (gq, .inl (g 0, 7, .inl (fg))) :: wm) sz) ((mo, .inr (6, [.int (nI 0), .int (nI M), .int (nI kd), .int (nI (ckb kd M)), .int (nI (nk kd)), .ref wi, .ref ck, .ref fq, .ref co, .int (nI (grsK kd M)), .int (nI ifo), .int (nI fl), .long (ma), .int (mk), .int (bi), .long (wo9), .int (ch9), .int (tu9), .ref sq, .ref uq, .ref gq])) :: (wi, .inl (g 0, 4, .inl (fw))) :: (ck, .inl (g 0, 4, .inl (fc))) :: (fq, .inl (g 0, 4, .inl (ff))) :: (co, .inl (g 0, 228, .inl (fco))) :: (sq, .inl (g 0, 8, .inl (fsq))) :: (uq, .inl (g 2, 128, .inl (fu))) :: (gq, .inl (g 0, 7, .inl (fg))) :: wm)) (va_A ((mo, .inr (6, [.int (th), .int (nI M), .int (nI kd), .int (nI (ckb kd M)), .int (nI (nk kd)), .ref wi, .ref ck, .ref fq, .ref co, .int (nI (grsK kd M)), .int (nI ifo), .int (nI fl), .long (ma), .int (mk), .int (bi), .long (wo9), .int (ch9), .int (tu9), .ref sq, .ref uq, .ref gq])) :: (wi, .inl (g 0, 4, .inl (fw))) :: (ck, .inl (g 0, 4, .inl (fc))) :: (fq, .inl (g 0, 4, .inl (ff))) :: (co, .inl (g 0, 228, .inl (fco))) :: (sq, .inl (g 0, 8, .inl (fsq))) :: (uq, .inl (g 2, 128, .inl (fu))) :: (gq, .inl (g 0, 7, .inl (fg))) :: wm) sz)) 0 0 (va_A ((mo, .inr (6, [.int (th), .int (nI M), .int (nI kd), .int (nI (ckb kd M)), .int (nI (nk kd)), .ref wi, .ref ck, .ref fq, .ref co, .int (nI (grsK kd M)), .int (nI ifo), .int (nI fl), .long (ma), .int (mk), .int (bi), .long (wo9), .int (ch9), .int (tu9), .ref sq, .ref uq, .ref gq])) :: (wi, .inl (g 0, 4, .inl (fw))) :: (ck, .inl (g 0, 4, .inl (fc))) :: (fq, .inl (g 0, 4, .inl (ff))) :: (co, .inl (g 0, 228, .inl (fco))) :: (sq, .inl (g 0, 8, .inl (fsq))) :: (uq, .inl (g 2, 128, .inl (fu))) :: (gq, .inl (g 0, 7, .inl (fg))) :: wm) sz) := by
  refine Met.ofW (cc := b_M_size) (maxL := 2) (ret := (some .int)) (by decide +kernel) rfl ?_
  intro p e s m args below meth c s₁ Bq hml hv
  have hx := Bq.exec
  have hb := Bq.bytes
  have hr := Bq.returns
  have hts : ∀ w ∈ wA, w.before args s = true := fun w h => atoms_spec (ws := w_M_size) Bq.pre w (List.mem_cons_of_mem _ h)
  have hown : s.vm.findClass R_M = some m.cls := findClass_of_methodNamed Bq.named
  have hlocks := Bq.notSynchronized
  obtain ⟨rfl, hsz, hP, hKK, hD0⟩ := hv
  have hK := hKK.1
  subst hsz
  have hD := hD0.self (sz := s.heap.size)
  generalize hAe : va_A ((mo, .inr (6, [.int (th), .int (nI M), .int (nI kd), .int (nI (ckb kd M)), .int (nI (nk kd)), .ref wi, .ref ck, .ref fq, .ref co, .int (nI (grsK kd M)), .int (nI ifo), .int (nI fl), .long (ma), .int (mk), .int (bi), .long (wo9), .int (ch9), .int (tu9), .ref sq, .ref uq, .ref gq])) :: (wi, .inl (g 0, 4, .inl (fw))) :: (ck, .inl (g 0, 4, .inl (fc))) :: (fq, .inl (g 0, 4, .inl (ff))) :: (co, .inl (g 0, 228, .inl (fco))) :: (sq, .inl (g 0, 8, .inl (fsq))) :: (uq, .inl (g 2, 128, .inl (fu))) :: (gq, .inl (g 0, 7, .inl (fg))) :: wm) s.heap.size = A at hD ⊢
  have hA : ∀ q : Nat, s.heap.size ≤ q → A q := fun q h => by rw [← hAe]; exact Or.inr h
  have hS : va_S A s.heap s.heap [] := va_S.rf
  have hl := lv_entry ([.ref mo, .int (y)]) (n := 2) (Nat.le_of_ble_eq_true rfl)
  rw [lg_entry_eq]
  generalize (lg_sl ([.ref mo, .int (y)]) ++ List.replicate (2 - (lg_sl ([.ref mo, .int (y)])).length) Slot.unset).toArray = ls at hl ⊢
  have hl : lv_has ls 2 [(0, .ref mo), (1, .int (y))] := hl
  generalize hQ : MQ below (va_Qi (fun (r : Int32) (u : Unit) => r = szK kd M y) (fun u => qB D (A) ((mo, .inr (6, [.int (nI 0), .int (nI M), .int (nI kd), .int (nI (ckb kd M)), .int (nI (nk kd)), .ref wi, .ref ck, .ref fq, .ref co, .int (nI (grsK kd M)), .int (nI ifo), .int (nI fl), .long (ma), .int (mk), .int (bi), .long (wo9), .int (ch9), .int (tu9), .ref sq, .ref uq, .ref gq])) :: (wi, .inl (g 0, 4, .inl (fw))) :: (ck, .inl (g 0, 4, .inl (fc))) :: (fq, .inl (g 0, 4, .inl (ff))) :: (co, .inl (g 0, 228, .inl (fco))) :: (sq, .inl (g 0, 8, .inl (fsq))) :: (uq, .inl (g 2, 128, .inl (fu))) :: (gq, .inl (g 0, 7, .inl (fg))) :: wm)) (A)) [.ref mo, .int (y)].toArray s 0 0 A = Q
  refine lv_aload_n hx hb d_M_size_0 rfl (lv_at hl 0 rfl) ?_
  refine lv_iconst (v := nI 0) hx hb d_M_size_1 (by decide) ?_
  refine va_put (D := D) (ci := 6) (v := .int (nI 0)) (ty := .int) (C := R_M) (T := F_M) (N := 21) hx hb hts i_M tf_M tf_M_ok nf_M hown hK hP hD hS 0 rfl rfl 0 (by decide) (hts _ m_603) (fun _ h9 => h9) rfl (by decide +kernel) rfl rfl (Nat.le_of_ble_eq_true rfl) d_M_size_2 (fun H locs hP hD hS => ?_)
  have hP : va_P D vwCl ((mo, .inr (6, [.int (nI 0), .int (nI M), .int (nI kd), .int (nI (ckb kd M)), .int (nI (nk kd)), .ref wi, .ref ck, .ref fq, .ref co, .int (nI (grsK kd M)), .int (nI ifo), .int (nI fl), .long (ma), .int (mk), .int (bi), .long (wo9), .int (ch9), .int (tu9), .ref sq, .ref uq, .ref gq])) :: (wi, .inl (g 0, 4, .inl (fw))) :: (ck, .inl (g 0, 4, .inl (fc))) :: (fq, .inl (g 0, 4, .inl (ff))) :: (co, .inl (g 0, 228, .inl (fco))) :: (sq, .inl (g 0, 8, .inl (fsq))) :: (uq, .inl (g 2, 128, .inl (fu))) :: (gq, .inl (g 0, 7, .inl (fg))) :: wm) H := hP
  have hD : va_D A ((mo, .inr (6, [.int (nI 0), .int (nI M), .int (nI kd), .int (nI (ckb kd M)), .int (nI (nk kd)), .ref wi, .ref ck, .ref fq, .ref co, .int (nI (grsK kd M)), .int (nI ifo), .int (nI fl), .long (ma), .int (mk), .int (bi), .long (wo9), .int (ch9), .int (tu9), .ref sq, .ref uq, .ref gq])) :: (wi, .inl (g 0, 4, .inl (fw))) :: (ck, .inl (g 0, 4, .inl (fc))) :: (fq, .inl (g 0, 4, .inl (ff))) :: (co, .inl (g 0, 228, .inl (fco))) :: (sq, .inl (g 0, 8, .inl (fsq))) :: (uq, .inl (g 2, 128, .inl (fu))) :: (gq, .inl (g 0, 7, .inl (fg))) :: wm) := hD
  refine lv_iload_n hx hb d_M_size_5 rfl (lv_at hl 1 rfl) ?_
  refine lv_if_ne (tgt := 16) hx hb d_M_size_6 (by decide) (fun c6 => ?_) (fun c6 => ?_)
  · skip
    refine lv_iload_n hx hb d_M_size_16 rfl (lv_at hl 1 rfl) ?_
    refine lv_iconst (v := nI 1) hx hb d_M_size_17 (by decide) ?_
    refine lv_icmp_ne (tgt := 28) hx hb d_M_size_18 (by decide) (fun c18 => ?_) (fun c18 => ?_)
    · skip
      refine lv_iload_n hx hb d_M_size_28 rfl (lv_at hl 1 rfl) ?_
      refine lv_iconst (v := nI 2) hx hb d_M_size_29 (by decide) ?_
      refine lv_icmp_ne (tgt := 40) hx hb d_M_size_30 (by decide) (fun c30 => ?_) (fun c30 => ?_)
      · skip
        refine lv_iload_n hx hb d_M_size_40 rfl (lv_at hl 1 rfl) ?_
        refine lv_iconst (v := nI 3) hx hb d_M_size_41 (by decide) ?_
        refine lv_icmp_ne (tgt := 52) hx hb d_M_size_42 (by decide) (fun c42 => ?_) (fun c42 => ?_)
        · skip
          refine lv_iconst (v := (-1)) hx hb d_M_size_52 (by decide) ?_
          rw [← hQ]
          refine W.iret (v := (-1)) hx hb hr ?_ hS.2.2 d_M_size_53
          exact fun t ht hW => ⟨⟨(-1), (), rfl, (by unfold szK; rw [if_neg (fun q => c6 (q.trans nI_0)), if_neg c18, if_neg c30, if_neg c42]), by rw [ht]; exact hP, hD⟩, hS.F ht⟩
        · skip
          refine lv_aload_n hx hb d_M_size_45 rfl (lv_at hl 0 rfl) ?_
          refine va_get (D := D) (ci := 6) (v := .int (nI (grsK kd M))) (C := R_M) (T := F_M) (N := 21) hx hb hts i_M hown hK hP 0 rfl rfl 9 (by decide) (hts _ m_612) (fun _ h9 => h9) rfl d_M_size_46 ?_
          refine lv_goto (tgt := 53) hx hb d_M_size_49 (by decide) ?_
          rw [← hQ]
          refine W.iret (v := nI (grsK kd M)) hx hb hr ?_ hS.2.2 d_M_size_53
          exact fun t ht hW => ⟨⟨nI (grsK kd M), (), rfl, (by unfold szK; rw [if_neg (fun q => c6 (q.trans nI_0)), if_neg c18, if_neg c30, if_pos c42]), by rw [ht]; exact hP, hD⟩, hS.F ht⟩
      · skip
        refine lv_aload_n hx hb d_M_size_33 rfl (lv_at hl 0 rfl) ?_
        refine va_get (D := D) (ci := 6) (v := .int (nI kd)) (C := R_M) (T := F_M) (N := 21) hx hb hts i_M hown hK hP 0 rfl rfl 2 (by decide) (hts _ m_605) (fun _ h9 => h9) rfl d_M_size_34 ?_
        refine lv_goto (tgt := 53) hx hb d_M_size_37 (by decide) ?_
        rw [← hQ]
        refine W.iret (v := nI kd) hx hb hr ?_ hS.2.2 d_M_size_53
        exact fun t ht hW => ⟨⟨nI kd, (), rfl, (by unfold szK; rw [if_neg (fun q => c6 (q.trans nI_0)), if_neg c18, if_pos c30]), by rw [ht]; exact hP, hD⟩, hS.F ht⟩
    · skip
      refine lv_aload_n hx hb d_M_size_21 rfl (lv_at hl 0 rfl) ?_
      refine va_get (D := D) (ci := 6) (v := .int (nI (ckb kd M))) (C := R_M) (T := F_M) (N := 21) hx hb hts i_M hown hK hP 0 rfl rfl 3 (by decide) (hts _ m_606) (fun _ h9 => h9) rfl d_M_size_22 ?_
      refine lv_goto (tgt := 53) hx hb d_M_size_25 (by decide) ?_
      rw [← hQ]
      refine W.iret (v := nI (ckb kd M)) hx hb hr ?_ hS.2.2 d_M_size_53
      exact fun t ht hW => ⟨⟨nI (ckb kd M), (), rfl, (by unfold szK; rw [if_neg (fun q => c6 (q.trans nI_0)), if_pos c18]), by rw [ht]; exact hP, hD⟩, hS.F ht⟩
  · skip
    refine lv_aload_n hx hb d_M_size_9 rfl (lv_at hl 0 rfl) ?_
    refine va_get (D := D) (ci := 6) (v := .int (nI M)) (C := R_M) (T := F_M) (N := 21) hx hb hts i_M hown hK hP 0 rfl rfl 1 (by decide) (hts _ m_604) (fun _ h9 => h9) rfl d_M_size_10 ?_
    refine lv_goto (tgt := 53) hx hb d_M_size_13 (by decide) ?_
    rw [← hQ]
    refine W.iret (v := nI M) hx hb hr ?_ hS.2.2 d_M_size_53
    exact fun t ht hW => ⟨⟨nI M, (), rfl, (by unfold szK; rw [if_pos (c6.trans nI_0.symm)]), by rw [ht]; exact hP, hD⟩, hS.F ht⟩
