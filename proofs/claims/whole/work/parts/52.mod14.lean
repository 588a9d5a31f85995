set_option maxRecDepth 20000 in
theorem m_686 : Cond.code y_M_fails b_M_fails 3 (some .boolean) ∈ wA := in_wA (List.mem_of_getElem? (i := 686) rfl) rfl
set_option maxRecDepth 20000 in
theorem m_683 : Cond.methodLink R_M 135 y_M_fails ∈ wA := in_wA (List.mem_of_getElem? (i := 683) rfl) rfl
set_option maxRecDepth 20000 in
theorem m_685 : Cond.instanceMethod y_M_fails ∈ wA := in_wA (List.mem_of_getElem? (i := 685) rfl) rfl
set_option maxRecDepth 20000 in
theorem m_15 : Cond.selects R_M y_M_fails y_M_fails ∈ wA := in_wA (List.mem_of_getElem? (i := 15) rfl) rfl
set_option maxRecDepth 20000 in
theorem m_682 : Cond.code y_M_in b_M_in 3 (some .boolean) ∈ wA := in_wA (List.mem_of_getElem? (i := 682) rfl) rfl
set_option maxRecDepth 20000 in
theorem m_680 : Cond.methodLink R_M 131 y_M_in ∈ wA := in_wA (List.mem_of_getElem? (i := 680) rfl) rfl
set_option maxRecDepth 20000 in
theorem m_681 : Cond.static y_M_in ∈ wA := in_wA (List.mem_of_getElem? (i := 681) rfl) rfl
set_option maxRecDepth 20000 in
theorem m_770 : Cond.code y_M_answerOf b_M_answerOf 6 (some .int) ∈ wA := in_wA (List.mem_of_getElem? (i := 770) rfl) rfl
set_option maxRecDepth 20000 in
theorem m_767 : Cond.methodLink R_M 149 y_M_answerOf ∈ wA := in_wA (List.mem_of_getElem? (i := 767) rfl) rfl
set_option maxRecDepth 20000 in
theorem m_769 : Cond.instanceMethod y_M_answerOf ∈ wA := in_wA (List.mem_of_getElem? (i := 769) rfl) rfl
set_option maxRecDepth 20000 in
theorem m_25 : Cond.selects R_M y_M_answerOf y_M_answerOf ∈ wA := in_wA (List.mem_of_getElem? (i := 25) rfl) rfl
set_option maxRecDepth 20000 in
theorem m_691 : Cond.constant R_M 139 65535 ∈ wA := in_wA (List.mem_of_getElem? (i := 691) rfl) rfl
abbrev w_M_check : List Cond := .code y_M_check b_M_check 3 (some .int) :: wA
abbrev rm_M_check : Room := { frames := 4, cells := 0, slots := 0, locals := 96 }
theorem d_M_check_0 : decode b_M_check 0 = .ok (.aload_n 0, 1) := by decide +kernel
theorem d_M_check_1 : decode b_M_check 1 = .ok (.iconst 0, 1) := by decide +kernel
theorem d_M_check_2 : decode b_M_check 2 = .ok (.putfield 51, 3) := by decide +kernel
theorem d_M_check_5 : decode b_M_check 5 = .ok (.aload_n 0, 1) := by decide +kernel
theorem d_M_check_6 : decode b_M_check 6 = .ok (.invokevirtual 111, 3) := by decide +kernel
theorem d_M_check_9 : decode b_M_check 9 = .ok (.aload_n 0, 1) := by decide +kernel
theorem d_M_check_10 : decode b_M_check 10 = .ok (.lload_n 1, 1) := by decide +kernel
theorem d_M_check_11 : decode b_M_check 11 = .ok (.invokevirtual 114, 3) := by decide +kernel
theorem d_M_check_14 : decode b_M_check 14 = .ok (.ixor, 1) := by decide +kernel
theorem d_M_check_15 : decode b_M_check 15 = .ok (.ireturn, 1) := by decide +kernel
abbrev w_M_read : List Cond := .code y_M_read b_M_read 5 (some .int) :: wA
abbrev rm_M_read : Room := { frames := 5, cells := 0, slots := 0, locals := 120 }
theorem d_M_read_0 : decode b_M_read 0 = .ok (.aload_n 0, 1) := by decide +kernel
theorem d_M_read_1 : decode b_M_read 1 = .ok (.iload_n 3, 1) := by decide +kernel
theorem d_M_read_2 : decode b_M_read 2 = .ok (.ifCond .lt 12, 3) := by decide +kernel
theorem d_M_read_5 : decode b_M_read 5 = .ok (.iload_n 3, 1) := by decide +kernel
theorem d_M_read_6 : decode b_M_read 6 = .ok (.aload_n 0, 1) := by decide +kernel
theorem d_M_read_7 : decode b_M_read 7 = .ok (.getfield 44, 3) := by decide +kernel
theorem d_M_read_10 : decode b_M_read 10 = .ok (.ishr, 1) := by decide +kernel
theorem d_M_read_11 : decode b_M_read 11 = .ok (.ifCond .eq 7, 3) := by decide +kernel
theorem d_M_read_14 : decode b_M_read 14 = .ok (.iconst 1, 1) := by decide +kernel
theorem d_M_read_15 : decode b_M_read 15 = .ok (.goto 4, 3) := by decide +kernel
theorem d_M_read_18 : decode b_M_read 18 = .ok (.iconst 0, 1) := by decide +kernel
theorem d_M_read_19 : decode b_M_read 19 = .ok (.iconst 0, 1) := by decide +kernel
theorem d_M_read_20 : decode b_M_read 20 = .ok (.invokevirtual 135, 3) := by decide +kernel
theorem d_M_read_23 : decode b_M_read 23 = .ok (.ifCond .eq 5, 3) := by decide +kernel
theorem d_M_read_26 : decode b_M_read 26 = .ok (.iconst 0, 1) := by decide +kernel
theorem d_M_read_27 : decode b_M_read 27 = .ok (.ireturn, 1) := by decide +kernel
theorem d_M_read_28 : decode b_M_read 28 = .ok (.aload_n 0, 1) := by decide +kernel
theorem d_M_read_29 : decode b_M_read 29 = .ok (.lload_n 1, 1) := by decide +kernel
theorem d_M_read_30 : decode b_M_read 30 = .ok (.aload_n 0, 1) := by decide +kernel
theorem d_M_read_31 : decode b_M_read 31 = .ok (.invokevirtual 78, 3) := by decide +kernel
theorem d_M_read_34 : decode b_M_read 34 = .ok (.land, 1) := by decide +kernel
theorem d_M_read_35 : decode b_M_read 35 = .ok (.iload_n 3, 1) := by decide +kernel
theorem d_M_read_36 : decode b_M_read 36 = .ok (.invokevirtual 128, 3) := by decide +kernel
theorem d_M_read_39 : decode b_M_read 39 = .ok (.istore 4, 2) := by decide +kernel
theorem d_M_read_41 : decode b_M_read 41 = .ok (.aload_n 0, 1) := by decide +kernel
theorem d_M_read_42 : decode b_M_read 42 = .ok (.aload_n 0, 1) := by decide +kernel
theorem d_M_read_43 : decode b_M_read 43 = .ok (.getfield 96, 3) := by decide +kernel
theorem d_M_read_46 : decode b_M_read 46 = .ok (.putfield 140, 3) := by decide +kernel
theorem d_M_read_49 : decode b_M_read 49 = .ok (.aload_n 0, 1) := by decide +kernel
theorem d_M_read_50 : decode b_M_read 50 = .ok (.aload_n 0, 1) := by decide +kernel
theorem d_M_read_51 : decode b_M_read 51 = .ok (.getfield 100, 3) := by decide +kernel
theorem d_M_read_54 : decode b_M_read 54 = .ok (.putfield 143, 3) := by decide +kernel
theorem d_M_read_57 : decode b_M_read 57 = .ok (.aload_n 0, 1) := by decide +kernel
theorem d_M_read_58 : decode b_M_read 58 = .ok (.aload_n 0, 1) := by decide +kernel
theorem d_M_read_59 : decode b_M_read 59 = .ok (.getfield 103, 3) := by decide +kernel
theorem d_M_read_62 : decode b_M_read 62 = .ok (.putfield 146, 3) := by decide +kernel
theorem d_M_read_65 : decode b_M_read 65 = .ok (.iload 4, 2) := by decide +kernel
theorem d_M_read_67 : decode b_M_read 67 = .ok (.ireturn, 1) := by decide +kernel
abbrev w_M_flips : List Cond := .code y_M_flips b_M_flips 3 (some .int) :: wA
abbrev rm_M_flips : Room := { frames := 7, cells := 0, slots := 0, locals := 170 }
theorem d_M_flips_0 : decode b_M_flips 0 = .ok (.aload_n 0, 1) := by decide +kernel
theorem d_M_flips_1 : decode b_M_flips 1 = .ok (.iload_n 1, 1) := by decide +kernel
theorem d_M_flips_2 : decode b_M_flips 2 = .ok (.iconst 0, 1) := by decide +kernel
theorem d_M_flips_3 : decode b_M_flips 3 = .ok (.aload_n 0, 1) := by decide +kernel
theorem d_M_flips_4 : decode b_M_flips 4 = .ok (.getfield 34, 3) := by decide +kernel
theorem d_M_flips_7 : decode b_M_flips 7 = .ok (.aload_n 0, 1) := by decide +kernel
theorem d_M_flips_8 : decode b_M_flips 8 = .ok (.getfield 44, 3) := by decide +kernel
theorem d_M_flips_11 : decode b_M_flips 11 = .ok (.iadd, 1) := by decide +kernel
theorem d_M_flips_12 : decode b_M_flips 12 = .ok (.iconst 1, 1) := by decide +kernel
theorem d_M_flips_13 : decode b_M_flips 13 = .ok (.isub, 1) := by decide +kernel
theorem d_M_flips_14 : decode b_M_flips 14 = .ok (.invokestatic 131, 3) := by decide +kernel
theorem d_M_flips_17 : decode b_M_flips 17 = .ok (.ifCond .eq 22, 3) := by decide +kernel
theorem d_M_flips_20 : decode b_M_flips 20 = .ok (.iload_n 2, 1) := by decide +kernel
theorem d_M_flips_21 : decode b_M_flips 21 = .ok (.iconst 0, 1) := by decide +kernel
theorem d_M_flips_22 : decode b_M_flips 22 = .ok (.aload_n 0, 1) := by decide +kernel
theorem d_M_flips_23 : decode b_M_flips 23 = .ok (.getfield 34, 3) := by decide +kernel
theorem d_M_flips_26 : decode b_M_flips 26 = .ok (.aload_n 0, 1) := by decide +kernel
theorem d_M_flips_27 : decode b_M_flips 27 = .ok (.getfield 44, 3) := by decide +kernel
theorem d_M_flips_30 : decode b_M_flips 30 = .ok (.iadd, 1) := by decide +kernel
theorem d_M_flips_31 : decode b_M_flips 31 = .ok (.iconst 1, 1) := by decide +kernel
theorem d_M_flips_32 : decode b_M_flips 32 = .ok (.isub, 1) := by decide +kernel
theorem d_M_flips_33 : decode b_M_flips 33 = .ok (.invokestatic 131, 3) := by decide +kernel
theorem d_M_flips_36 : decode b_M_flips 36 = .ok (.ifCond .ne 7, 3) := by decide +kernel
theorem d_M_flips_39 : decode b_M_flips 39 = .ok (.iconst 1, 1) := by decide +kernel
theorem d_M_flips_40 : decode b_M_flips 40 = .ok (.goto 4, 3) := by decide +kernel
theorem d_M_flips_43 : decode b_M_flips 43 = .ok (.iconst 0, 1) := by decide +kernel
theorem d_M_flips_44 : decode b_M_flips 44 = .ok (.iconst 0, 1) := by decide +kernel
theorem d_M_flips_45 : decode b_M_flips 45 = .ok (.invokevirtual 135, 3) := by decide +kernel
theorem d_M_flips_48 : decode b_M_flips 48 = .ok (.ifCond .eq 7, 3) := by decide +kernel
theorem d_M_flips_51 : decode b_M_flips 51 = .ok (.iconst 0, 1) := by decide +kernel
theorem d_M_flips_52 : decode b_M_flips 52 = .ok (.goto 9, 3) := by decide +kernel
theorem d_M_flips_55 : decode b_M_flips 55 = .ok (.aload_n 0, 1) := by decide +kernel
theorem d_M_flips_56 : decode b_M_flips 56 = .ok (.iload_n 1, 1) := by decide +kernel
theorem d_M_flips_57 : decode b_M_flips 57 = .ok (.iload_n 2, 1) := by decide +kernel
theorem d_M_flips_58 : decode b_M_flips 58 = .ok (.invokevirtual 149, 3) := by decide +kernel
theorem d_M_flips_61 : decode b_M_flips 61 = .ok (.ireturn, 1) := by decide +kernel
abbrev w_M_address : List Cond := .code y_M_address b_M_address 5 (some .boolean) :: wA
abbrev rm_M_address : Room := { frames := 1, cells := 0, slots := 0, locals := 22 }
theorem d_M_address_0 : decode b_M_address 0 = .ok (.aload_n 0, 1) := by decide +kernel
theorem d_M_address_1 : decode b_M_address 1 = .ok (.aload_n 0, 1) := by decide +kernel
theorem d_M_address_2 : decode b_M_address 2 = .ok (.getfield 38, 3) := by decide +kernel
theorem d_M_address_5 : decode b_M_address 5 = .ok (.iconst 1, 1) := by decide +kernel
theorem d_M_address_6 : decode b_M_address 6 = .ok (.if_icmp .eq 11, 3) := by decide +kernel
theorem d_M_address_9 : decode b_M_address 9 = .ok (.aload_n 0, 1) := by decide +kernel
theorem d_M_address_10 : decode b_M_address 10 = .ok (.getfield 38, 3) := by decide +kernel
theorem d_M_address_13 : decode b_M_address 13 = .ok (.iconst 2, 1) := by decide +kernel
theorem d_M_address_14 : decode b_M_address 14 = .ok (.if_icmp .ne 7, 3) := by decide +kernel
theorem d_M_address_17 : decode b_M_address 17 = .ok (.iconst 1, 1) := by decide +kernel
theorem d_M_address_18 : decode b_M_address 18 = .ok (.goto 4, 3) := by decide +kernel
theorem d_M_address_21 : decode b_M_address 21 = .ok (.iconst 0, 1) := by decide +kernel
theorem d_M_address_22 : decode b_M_address 22 = .ok (.iconst 0, 1) := by decide +kernel
theorem d_M_address_23 : decode b_M_address 23 = .ok (.invokevirtual 135, 3) := by decide +kernel
theorem d_M_address_26 : decode b_M_address 26 = .ok (.ifCond .eq 5, 3) := by decide +kernel
theorem d_M_address_29 : decode b_M_address 29 = .ok (.iconst 0, 1) := by decide +kernel
theorem d_M_address_30 : decode b_M_address 30 = .ok (.ireturn, 1) := by decide +kernel
theorem d_M_address_31 : decode b_M_address 31 = .ok (.iload_n 1, 1) := by decide +kernel
theorem d_M_address_32 : decode b_M_address 32 = .ok (.iload_n 1, 1) := by decide +kernel
theorem d_M_address_33 : decode b_M_address 33 = .ok (.bipush 16, 2) := by decide +kernel
theorem d_M_address_35 : decode b_M_address 35 = .ok (.iushr, 1) := by decide +kernel
theorem d_M_address_36 : decode b_M_address 36 = .ok (.ixor, 1) := by decide +kernel
theorem d_M_address_37 : decode b_M_address 37 = .ok (.ldc 139, 2) := by decide +kernel
theorem d_M_address_39 : decode b_M_address 39 = .ok (.iand, 1) := by decide +kernel
theorem d_M_address_40 : decode b_M_address 40 = .ok (.istore_n 2, 1) := by decide +kernel
theorem d_M_address_41 : decode b_M_address 41 = .ok (.iload_n 2, 1) := by decide +kernel
theorem d_M_address_42 : decode b_M_address 42 = .ok (.iconst 3, 1) := by decide +kernel
theorem d_M_address_43 : decode b_M_address 43 = .ok (.ishl, 1) := by decide +kernel
theorem d_M_address_44 : decode b_M_address 44 = .ok (.iload_n 2, 1) := by decide +kernel
theorem d_M_address_45 : decode b_M_address 45 = .ok (.bipush 13, 2) := by decide +kernel
theorem d_M_address_47 : decode b_M_address 47 = .ok (.ishr, 1) := by decide +kernel
theorem d_M_address_48 : decode b_M_address 48 = .ok (.ior, 1) := by decide +kernel
theorem d_M_address_49 : decode b_M_address 49 = .ok (.ldc 139, 2) := by decide +kernel
theorem d_M_address_51 : decode b_M_address 51 = .ok (.iand, 1) := by decide +kernel
theorem d_M_address_52 : decode b_M_address 52 = .ok (.istore_n 3, 1) := by decide +kernel
theorem d_M_address_53 : decode b_M_address 53 = .ok (.aload_n 0, 1) := by decide +kernel
theorem d_M_address_54 : decode b_M_address 54 = .ok (.getfield 89, 3) := by decide +kernel
theorem d_M_address_57 : decode b_M_address 57 = .ok (.istore 4, 2) := by decide +kernel
theorem d_M_address_59 : decode b_M_address 59 = .ok (.aload_n 0, 1) := by decide +kernel
theorem d_M_address_60 : decode b_M_address 60 = .ok (.iconst 1, 1) := by decide +kernel
theorem d_M_address_61 : decode b_M_address 61 = .ok (.putfield 89, 3) := by decide +kernel
theorem d_M_address_64 : decode b_M_address 64 = .ok (.aload_n 0, 1) := by decide +kernel
theorem d_M_address_65 : decode b_M_address 65 = .ok (.iload_n 3, 1) := by decide +kernel
theorem d_M_address_66 : decode b_M_address 66 = .ok (.iconst 1, 1) := by decide +kernel
theorem d_M_address_67 : decode b_M_address 67 = .ok (.aload_n 0, 1) := by decide +kernel
theorem d_M_address_68 : decode b_M_address 68 = .ok (.getfield 44, 3) := by decide +kernel
theorem d_M_address_71 : decode b_M_address 71 = .ok (.ishl, 1) := by decide +kernel
theorem d_M_address_72 : decode b_M_address 72 = .ok (.iconst 1, 1) := by decide +kernel
theorem d_M_address_73 : decode b_M_address 73 = .ok (.isub, 1) := by decide +kernel
theorem d_M_address_74 : decode b_M_address 74 = .ok (.iand, 1) := by decide +kernel
theorem d_M_address_75 : decode b_M_address 75 = .ok (.putfield 93, 3) := by decide +kernel
theorem d_M_address_78 : decode b_M_address 78 = .ok (.iload 4, 2) := by decide +kernel
theorem d_M_address_80 : decode b_M_address 80 = .ok (.ireturn, 1) := by decide +kernel
set_option maxHeartbeats 4000000 in
set_option maxRecDepth 100000 in
theorem c_M_check (l : Launch) (D : va_G) (g : Nat → ClassId) (sz : Nat) (wm : va_W) (mo wi ck fq co sq uq gq kd M ifo fl : Nat) (th mk bi ch9 tu9 : Int32) (ma wo9 : Int64) (fw fc ff fco fsq fu fg : Nat → Int32) (hM0 : 0 < M) (hM : M ≤ 57) (v : Nat) (hv : v < 2 ^ 64) (hif : ifo ≤ 1) (hkd : kd ≤ 3) (hmw : MWF kd M fw fc ff fco) : Met l y_M_check w_M_check rm_M_check (va_Pc [.ref mo, .long (lN v)] (pP D (tyl g) ((mo, .inr (6, [.int (th), .int (nI M), .int (nI kd), .int (nI (ckb kd M)), .int (nI (nk kd)), .ref wi, .ref ck, .ref fq, .ref co, .int (nI (grsK kd M)), .int (nI ifo), .int (nI fl), .long (ma), .int (mk), .int (bi), .long (wo9), .int (ch9), .int (tu9), .ref sq, .ref uq, .ref gq])) :: (wi, .inl (g 0, 4, .inl (fw))) :: (ck, .inl (g 0, 4, .inl (fc))) :: (fq, .inl (g 0, 4, .inl (ff))) :: (co, .inl (g 0, 228, .inl (fco))) :: (sq, .inl (g 0, 8, .inl (fsq))) :: (uq, .inl (g 2, 128, .inl (fu))) :: (gq, .inl (g 0, 7, .inl (fg))) :: wm) sz)) (va_Qi (fun (r : Int32) (u : Unit) => r = nI (xs (mrk kd M) v M ^^^ (if ifo = 1 then fl else 0))) (fun u => qB D (va_A ((mo, .inr (6, [.int (th), .int (nI M), .int (nI kd), .int (nI (ckb kd M)), .int (nI (nk kd)), .ref wi, .ref ck, .ref fq, .ref co, .int (nI (grsK kd M)), .int (nI ifo), .int (nI fl), .long (ma), .int (mk), .int (bi), .long (wo9), .int (ch9), .int (tu9), .ref sq, .ref uq, .ref gq])) :: (wi, .inl (g 0, 4, .inl (fw))) :: (ck, .inl (g 0, 4, .inl (fc))) :: (fq, .inl (g 0, 4, .inl (ff))) :: (co, .inl (g 0, 228, .inl (fco))) :: (sq, .inl (g 0, 8, .inl (fsq))) :: (uq, .inl (g 2, 128, .inl (fu))) :: (gq, .inl (g 0, 7, .inl (fg))) :: wm) sz) ((mo, .inr (6, [.int (nI 0), .int (nI M), .int (nI kd), .int (nI (ckb kd M)), .int (nI (nk kd)), .ref wi, .ref ck, .ref fq, .ref co, .int (nI (grsK kd M)), .int (nI ifo), .int (nI fl), .long (ma), .int (mk), .int (bi), .long (wo9), .int (ch9), .int (tu9), .ref sq, .ref uq, .ref gq])) :: (wi, .inl (g 0, 4, .inl (fw))) :: (ck, .inl (g 0, 4, .inl (fc))) :: (fq, .inl (g 0, 4, .inl (ff))) :: (co, .inl (g 0, 228, .inl (fco))) :: (sq, .inl (g 0, 8, .inl (fsq))) :: (uq, .inl (g 2, 128, .inl (fu))) :: (gq, .inl (g 0, 7, .inl (fg))) :: wm)) (va_A ((mo, .inr (6, [.int (th), .int (nI M), .int (nI kd), .int (nI (ckb kd M)), .int (nI (nk kd)), .ref wi, .ref ck, .ref fq, .ref co, .int (nI (grsK kd M)), .int (nI ifo), .int (nI fl), .long (ma), .int (mk), .int (bi), .long (wo9), .int (ch9), .int (tu9), .ref sq, .ref uq, .ref gq])) :: (wi, .inl (g 0, 4, .inl (fw))) :: (ck, .inl (g 0, 4, .inl (fc))) :: (fq, .inl (g 0, 4, .inl (ff))) :: (co, .inl (g 0, 228, .inl (fco))) :: (sq, .inl (g 0, 8, .inl (fsq))) :: (uq, .inl (g 2, 128, .inl (fu))) :: (gq, .inl (g 0, 7, .inl (fg))) :: wm) sz)) 0 0 (va_A ((mo, .inr (6, [.int (th), .int (nI M), .int (nI kd), .int (nI (ckb kd M)), .int (nI (nk kd)), .ref wi, .ref ck, .ref fq, .ref co, .int (nI (grsK kd M)), .int (nI ifo), .int (nI fl), .long (ma), .int (mk), .int (bi), .long (wo9), .int (ch9), .int (tu9), .ref sq, .ref uq, .ref gq])) :: (wi, .inl (g 0, 4, .inl (fw))) :: (ck, .inl (g 0, 4, .inl (fc))) :: (fq, .inl (g 0, 4, .inl (ff))) :: (co, .inl (g 0, 228, .inl (fco))) :: (sq, .inl (g 0, 8, .inl (fsq))) :: (uq, .inl (g 2, 128, .inl (fu))) :: (gq, .inl (g 0, 7, .inl (fg))) :: wm) sz) := by
  refine Met.ofW (cc := b_M_check) (maxL := 3) (ret := (some .int)) (by decide +kernel) rfl ?_
  intro p e s m args below meth c s₁ Bq hml hv
  have hx := Bq.exec
  have hb := Bq.bytes
  have hr := Bq.returns
  have hts : ∀ w ∈ wA, w.before args s = true := fun w h => atoms_spec (ws := w_M_check) Bq.pre w (List.mem_cons_of_mem _ h)
  have hown : s.vm.findClass R_M = some m.cls := findClass_of_methodNamed Bq.named
  have hlocks := Bq.notSynchronized
  obtain ⟨rfl, hsz, hP, hKK, hD0⟩ := hv
  have hK := hKK.1
  subst hsz
  have hD := hD0.self (sz := s.heap.size)
  generalize hAe : va_A ((mo, .inr (6, [.int (th), .int (nI M), .int (nI kd), .int (nI (ckb kd M)), .int (nI (nk kd)), .ref wi, .ref ck, .ref fq, .ref co, .int (nI (grsK kd M)), .int (nI ifo), .int (nI fl), .long (ma), .int (mk), .int (bi), .long (wo9), .int (ch9), .int (tu9), .ref sq, .ref uq, .ref gq])) :: (wi, .inl (g 0, 4, .inl (fw))) :: (ck, .inl (g 0, 4, .inl (fc))) :: (fq, .inl (g 0, 4, .inl (ff))) :: (co, .inl (g 0, 228, .inl (fco))) :: (sq, .inl (g 0, 8, .inl (fsq))) :: (uq, .inl (g 2, 128, .inl (fu))) :: (gq, .inl (g 0, 7, .inl (fg))) :: wm) s.heap.size = A at hD ⊢
  have hA : ∀ q : Nat, s.heap.size ≤ q → A q := fun q h => by rw [← hAe]; exact Or.inr h
  have hS : va_S A s.heap s.heap [] := va_S.rf
  have hl := lv_entry ([.ref mo, .long (lN v)]) (n := 3) (Nat.le_of_ble_eq_true rfl)
  rw [lg_entry_eq]
  generalize (lg_sl ([.ref mo, .long (lN v)]) ++ List.replicate (3 - (lg_sl ([.ref mo, .long (lN v)])).length) Slot.unset).toArray = ls at hl ⊢
  have hl : lv_has ls 3 [(0, .ref mo), (1, .long (lN v))] := hl
  generalize hQ : MQ below (va_Qi (fun (r : Int32) (u : Unit) => r = nI (xs (mrk kd M) v M ^^^ (if ifo = 1 then fl else 0))) (fun u => qB D (A) ((mo, .inr (6, [.int (nI 0), .int (nI M), .int (nI kd), .int (nI (ckb kd M)), .int (nI (nk kd)), .ref wi, .ref ck, .ref fq, .ref co, .int (nI (grsK kd M)), .int (nI ifo), .int (nI fl), .long (ma), .int (mk), .int (bi), .long (wo9), .int (ch9), .int (tu9), .ref sq, .ref uq, .ref gq])) :: (wi, .inl (g 0, 4, .inl (fw))) :: (ck, .inl (g 0, 4, .inl (fc))) :: (fq, .inl (g 0, 4, .inl (ff))) :: (co, .inl (g 0, 228, .inl (fco))) :: (sq, .inl (g 0, 8, .inl (fsq))) :: (uq, .inl (g 2, 128, .inl (fu))) :: (gq, .inl (g 0, 7, .inl (fg))) :: wm)) (A)) [.ref mo, .long (lN v)].toArray s 0 0 A = Q
  refine lv_aload_n hx hb d_M_check_0 rfl (lv_at hl 0 rfl) ?_
  refine lv_iconst (v := nI 0) hx hb d_M_check_1 (by decide) ?_
  refine va_put (D := D) (ci := 6) (v := .int (nI 0)) (ty := .int) (C := R_M) (T := F_M) (N := 21) hx hb hts i_M tf_M tf_M_ok nf_M hown hK hP hD hS 0 rfl rfl 0 (by decide) (hts _ m_603) (fun _ h9 => h9) rfl (by decide +kernel) rfl rfl (Nat.le_of_ble_eq_true rfl) d_M_check_2 (fun H locs hP hD hS => ?_)
  have hP : va_P D vwCl ((mo, .inr (6, [.int (nI 0), .int (nI M), .int (nI kd), .int (nI (ckb kd M)), .int (nI (nk kd)), .ref wi, .ref ck, .ref fq, .ref co, .int (nI (grsK kd M)), .int (nI ifo), .int (nI fl), .long (ma), .int (mk), .int (bi), .long (wo9), .int (ch9), .int (tu9), .ref sq, .ref uq, .ref gq])) :: (wi, .inl (g 0, 4, .inl (fw))) :: (ck, .inl (g 0, 4, .inl (fc))) :: (fq, .inl (g 0, 4, .inl (ff))) :: (co, .inl (g 0, 228, .inl (fco))) :: (sq, .inl (g 0, 8, .inl (fsq))) :: (uq, .inl (g 2, 128, .inl (fu))) :: (gq, .inl (g 0, 7, .inl (fg))) :: wm) H := hP
  have hD : va_D A ((mo, .inr (6, [.int (nI 0), .int (nI M), .int (nI kd), .int (nI (ckb kd M)), .int (nI (nk kd)), .ref wi, .ref ck, .ref fq, .ref co, .int (nI (grsK kd M)), .int (nI ifo), .int (nI fl), .long (ma), .int (mk), .int (bi), .long (wo9), .int (ch9), .int (tu9), .ref sq, .ref uq, .ref gq])) :: (wi, .inl (g 0, 4, .inl (fw))) :: (ck, .inl (g 0, 4, .inl (fc))) :: (fq, .inl (g 0, 4, .inl (ff))) :: (co, .inl (g 0, 228, .inl (fco))) :: (sq, .inl (g 0, 8, .inl (fsq))) :: (uq, .inl (g 2, 128, .inl (fu))) :: (gq, .inl (g 0, 7, .inl (fg))) :: wm) := hD
  refine lv_aload_n hx hb d_M_check_5 rfl (lv_at hl 0 rfl) ?_
  refine lc_Vi (b := mo) (As := []) (rest := []) ⟨hx, hb, hml, hown, hts⟩ (c_M_folded l D g _ wm mo wi ck fq co sq uq gq kd M ifo fl (nI 0) mk bi ch9 tu9 ma wo9 fw fc ff fco fsq fu fg hM0 hM hif) (kV 0 hts m_703 m_700 m_702 m_16 m_40 (by decide +kernel) ⟨Nat.le_of_ble_eq_true rfl, Nat.le_of_ble_eq_true rfl⟩) (va_recv hK hP (ci := 6) (q0 := 0) rfl rfl) hKK hP hD hS hA hl.1 rfl rfl (Nat.le_of_ble_eq_true rfl) d_M_check_6 ⟨Nat.le_of_ble_eq_true rfl, Nat.le_of_ble_eq_true rfl⟩ (fun r1 u1 H locs e1 hP hD hS => ?_)
  obtain rfl : r1 = nI (if ifo = 1 then fl else 0) := e1
  refine lv_aload_n hx hb d_M_check_9 rfl (lv_at hl 0 rfl) ?_
  refine lv_lload_n hx hb d_M_check_10 rfl (lv_at hl 1 rfl) ?_
  refine lc_Vi (b := mo) (As := [.long (lN v)]) (rest := [.int (nI (if ifo = 1 then fl else 0))]) ⟨hx, hb, hml, hown, hts⟩ (c_M_plainCheck l D g _ wm mo wi ck fq co sq uq gq kd M ifo fl (nI 0) mk bi ch9 tu9 ma wo9 fw fc ff fco fsq fu fg hM0 hM v hv hkd hmw) (kV 1 hts m_707 m_704 m_706 m_17 m_40 (by decide +kernel) ⟨Nat.le_of_ble_eq_true rfl, Nat.le_of_ble_eq_true rfl⟩) (va_recv hK hP (ci := 6) (q0 := 0) rfl rfl) hKK hP hD hS hA hl.1 rfl rfl (Nat.le_of_ble_eq_true rfl) d_M_check_11 ⟨Nat.le_of_ble_eq_true rfl, Nat.le_of_ble_eq_true rfl⟩ (fun r2 u2 H locs e2 hP hD hS => ?_)
  obtain rfl : r2 = nI (xs (mrk kd M) v M) := e2
  refine lx_ixor (z := nI (xs (mrk kd M) v M ^^^ (if ifo = 1 then fl else 0))) hx hb d_M_check_14 ((xn_xor _ _).trans (by rw [Nat.xor_comm])) ?_
  rw [← hQ]
  refine W.iret (v := nI (xs (mrk kd M) v M ^^^ (if ifo = 1 then fl else 0))) hx hb hr ?_ hS.2.2 d_M_check_15
  exact fun t ht hW => ⟨⟨nI (xs (mrk kd M) v M ^^^ (if ifo = 1 then fl else 0)), (), rfl, rfl, by rw [ht]; exact hP, hD⟩, hS.F ht⟩
set_option maxHeartbeats 4000000 in
set_option maxRecDepth 100000 in
theorem c_M_read (l : Launch) (D : va_G) (g : Nat → ClassId) (sz : Nat) (wm : va_W) (mo wi ck fq co sq uq gq kd M ifo fl : Nat) (th mk bi ch9 tu9 : Int32) (ma wo9 : Int64) (fw fc ff fco fsq fu fg : Nat → Int32) (hM0 : 0 < M) (hM : M ≤ 57) (v y : Nat) (hv : v < 2 ^ 64) (hy : y < 2 ^ ckb kd M) (hif : ifo ≤ 1) (hfl : fl < 2 ^ ckb kd M) (hkd : kd ≤ 3) (hmw : MWF kd M fw fc ff fco) : Met l y_M_read w_M_read rm_M_read (va_Pc [.ref mo, .long (lN v), .int (nI y)] (pP D (tyl g) ((mo, .inr (6, [.int (th), .int (nI M), .int (nI kd), .int (nI (ckb kd M)), .int (nI (nk kd)), .ref wi, .ref ck, .ref fq, .ref co, .int (nI (grsK kd M)), .int (nI ifo), .int (nI fl), .long (ma), .int (mk), .int (bi), .long (wo9), .int (ch9), .int (tu9), .ref sq, .ref uq, .ref gq])) :: (wi, .inl (g 0, 4, .inl (fw))) :: (ck, .inl (g 0, 4, .inl (fc))) :: (fq, .inl (g 0, 4, .inl (ff))) :: (co, .inl (g 0, 228, .inl (fco))) :: (sq, .inl (g 0, 8, .inl (fsq))) :: (uq, .inl (g 2, 128, .inl (fu))) :: (gq, .inl (g 0, 7, .inl (fg))) :: wm) sz)) (va_Qi (fun (r : Int32) (u : Unit) => r = nI (jd kd M ((y ^^^ xs (mrk kd M) v M) ^^^ (if ifo = 1 then fl else 0))).1) (fun u => qB D (va_A ((mo, .inr (6, [.int (th), .int (nI M), .int (nI kd), .int (nI (ckb kd M)), .int (nI (nk kd)), .ref wi, .ref ck, .ref fq, .ref co, .int (nI (grsK kd M)), .int (nI ifo), .int (nI fl), .long (ma), .int (mk), .int (bi), .long (wo9), .int (ch9), .int (tu9), .ref sq, .ref uq, .ref gq])) :: (wi, .inl (g 0, 4, .inl (fw))) :: (ck, .inl (g 0, 4, .inl (fc))) :: (fq, .inl (g 0, 4, .inl (ff))) :: (co, .inl (g 0, 228, .inl (fco))) :: (sq, .inl (g 0, 8, .inl (fsq))) :: (uq, .inl (g 2, 128, .inl (fu))) :: (gq, .inl (g 0, 7, .inl (fg))) :: wm) sz) ((mo, .inr (6, [.int (nI 0), .int (nI M), .int (nI kd), .int (nI (ckb kd M)), .int (nI (nk kd)), .ref wi, .ref ck, .ref fq, .ref co, .int (nI (grsK kd M)), .int (nI ifo), .int (nI fl), .long (lN (v % 2 ^ M ^^^ (jd kd M ((y ^^^ xs (mrk kd M) v M) ^^^ (if ifo = 1 then fl else 0))).2.1)), .int (nI (y ^^^ (jd kd M ((y ^^^ xs (mrk kd M) v M) ^^^ (if ifo = 1 then fl else 0))).2.2)), .int (nI (pcn 64 (jd kd M ((y ^^^ xs (mrk kd M) v M) ^^^ (if ifo = 1 then fl else 0))).2.1 + pcn 32 (jd kd M ((y ^^^ xs (mrk kd M) v M) ^^^ (if ifo = 1 then fl else 0))).2.2)), .long (lN (v % 2 ^ M ^^^ (jd kd M ((y ^^^ xs (mrk kd M) v M) ^^^ (if ifo = 1 then fl else 0))).2.1)), .int (nI (y ^^^ (jd kd M ((y ^^^ xs (mrk kd M) v M) ^^^ (if ifo = 1 then fl else 0))).2.2)), .int (nI (pcn 64 (jd kd M ((y ^^^ xs (mrk kd M) v M) ^^^ (if ifo = 1 then fl else 0))).2.1 + pcn 32 (jd kd M ((y ^^^ xs (mrk kd M) v M) ^^^ (if ifo = 1 then fl else 0))).2.2)), .ref sq, .ref uq, .ref gq])) :: (wi, .inl (g 0, 4, .inl (fw))) :: (ck, .inl (g 0, 4, .inl (fc))) :: (fq, .inl (g 0, 4, .inl (ff))) :: (co, .inl (g 0, 228, .inl (fco))) :: (sq, .inl (g 0, 8, .inl (fsq))) :: (uq, .inl (g 2, 128, .inl (fu))) :: (gq, .inl (g 0, 7, .inl (fg))) :: wm)) (va_A ((mo, .inr (6, [.int (th), .int (nI M), .int (nI kd), .int (nI (ckb kd M)), .int (nI (nk kd)), .ref wi, .ref ck, .ref fq, .ref co, .int (nI (grsK kd M)), .int (nI ifo), .int (nI fl), .long (ma), .int (mk), .int (bi), .long (wo9), .int (ch9), .int (tu9), .ref sq, .ref uq, .ref gq])) :: (wi, .inl (g 0, 4, .inl (fw))) :: (ck, .inl (g 0, 4, .inl (fc))) :: (fq, .inl (g 0, 4, .inl (ff))) :: (co, .inl (g 0, 228, .inl (fco))) :: (sq, .inl (g 0, 8, .inl (fsq))) :: (uq, .inl (g 2, 128, .inl (fu))) :: (gq, .inl (g 0, 7, .inl (fg))) :: wm) sz)) 0 0 (va_A ((mo, .inr (6, [.int (th), .int (nI M), .int (nI kd), .int (nI (ckb kd M)), .int (nI (nk kd)), .ref wi, .ref ck, .ref fq, .ref co, .int (nI (grsK kd M)), .int (nI ifo), .int (nI fl), .long (ma), .int (mk), .int (bi), .long (wo9), .int (ch9), .int (tu9), .ref sq, .ref uq, .ref gq])) :: (wi, .inl (g 0, 4, .inl (fw))) :: (ck, .inl (g 0, 4, .inl (fc))) :: (fq, .inl (g 0, 4, .inl (ff))) :: (co, .inl (g 0, 228, .inl (fco))) :: (sq, .inl (g 0, 8, .inl (fsq))) :: (uq, .inl (g 2, 128, .inl (fu))) :: (gq, .inl (g 0, 7, .inl (fg))) :: wm) sz) := by
  refine Met.ofW (cc := b_M_read) (maxL := 5) (ret := (some .int)) (by decide +kernel) rfl ?_
  intro p e s m args below meth c s₁ Bq hml hv
  have hx := Bq.exec
  have hb := Bq.bytes
  have hr := Bq.returns
  have hts : ∀ w ∈ wA, w.before args s = true := fun w h => atoms_spec (ws := w_M_read) Bq.pre w (List.mem_cons_of_mem _ h)
  have hown : s.vm.findClass R_M = some m.cls := findClass_of_methodNamed Bq.named
  have hlocks := Bq.notSynchronized
  obtain ⟨rfl, hsz, hP, hKK, hD0⟩ := hv
  have hK := hKK.1
  subst hsz
  have hD := hD0.self (sz := s.heap.size)
  generalize hAe : va_A ((mo, .inr (6, [.int (th), .int (nI M), .int (nI kd), .int (nI (ckb kd M)), .int (nI (nk kd)), .ref wi, .ref ck, .ref fq, .ref co, .int (nI (grsK kd M)), .int (nI ifo), .int (nI fl), .long (ma), .int (mk), .int (bi), .long (wo9), .int (ch9), .int (tu9), .ref sq, .ref uq, .ref gq])) :: (wi, .inl (g 0, 4, .inl (fw))) :: (ck, .inl (g 0, 4, .inl (fc))) :: (fq, .inl (g 0, 4, .inl (ff))) :: (co, .inl (g 0, 228, .inl (fco))) :: (sq, .inl (g 0, 8, .inl (fsq))) :: (uq, .inl (g 2, 128, .inl (fu))) :: (gq, .inl (g 0, 7, .inl (fg))) :: wm) s.heap.size = A at hD ⊢
  have hA : ∀ q : Nat, s.heap.size ≤ q → A q := fun q h => by rw [← hAe]; exact Or.inr h
  have hS : va_S A s.heap s.heap [] := va_S.rf
  have hl := lv_entry ([.ref mo, .long (lN v), .int (nI y)]) (n := 5) (Nat.le_of_ble_eq_true rfl)
  rw [lg_entry_eq]
  generalize (lg_sl ([.ref mo, .long (lN v), .int (nI y)]) ++ List.replicate (5 - (lg_sl ([.ref mo, .long (lN v), .int (nI y)])).length) Slot.unset).toArray = ls at hl ⊢
  have hl : lv_has ls 5 [(0, .ref mo), (1, .long (lN v)), (3, .int (nI y))] := hl
  generalize hQ : MQ below (va_Qi (fun (r : Int32) (u : Unit) => r = nI (jd kd M ((y ^^^ xs (mrk kd M) v M) ^^^ (if ifo = 1 then fl else 0))).1) (fun u => qB D (A) ((mo, .inr (6, [.int (nI 0), .int (nI M), .int (nI kd), .int (nI (ckb kd M)), .int (nI (nk kd)), .ref wi, .ref ck, .ref fq, .ref co, .int (nI (grsK kd M)), .int (nI ifo), .int (nI fl), .long (lN (v % 2 ^ M ^^^ (jd kd M ((y ^^^ xs (mrk kd M) v M) ^^^ (if ifo = 1 then fl else 0))).2.1)), .int (nI (y ^^^ (jd kd M ((y ^^^ xs (mrk kd M) v M) ^^^ (if ifo = 1 then fl else 0))).2.2)), .int (nI (pcn 64 (jd kd M ((y ^^^ xs (mrk kd M) v M) ^^^ (if ifo = 1 then fl else 0))).2.1 + pcn 32 (jd kd M ((y ^^^ xs (mrk kd M) v M) ^^^ (if ifo = 1 then fl else 0))).2.2)), .long (lN (v % 2 ^ M ^^^ (jd kd M ((y ^^^ xs (mrk kd M) v M) ^^^ (if ifo = 1 then fl else 0))).2.1)), .int (nI (y ^^^ (jd kd M ((y ^^^ xs (mrk kd M) v M) ^^^ (if ifo = 1 then fl else 0))).2.2)), .int (nI (pcn 64 (jd kd M ((y ^^^ xs (mrk kd M) v M) ^^^ (if ifo = 1 then fl else 0))).2.1 + pcn 32 (jd kd M ((y ^^^ xs (mrk kd M) v M) ^^^ (if ifo = 1 then fl else 0))).2.2)), .ref sq, .ref uq, .ref gq])) :: (wi, .inl (g 0, 4, .inl (fw))) :: (ck, .inl (g 0, 4, .inl (fc))) :: (fq, .inl (g 0, 4, .inl (ff))) :: (co, .inl (g 0, 228, .inl (fco))) :: (sq, .inl (g 0, 8, .inl (fsq))) :: (uq, .inl (g 2, 128, .inl (fu))) :: (gq, .inl (g 0, 7, .inl (fg))) :: wm)) (A)) [.ref mo, .long (lN v), .int (nI y)].toArray s 0 0 A = Q
  have hck := ckb_le kd M
  have hpw := ckb_pow kd M
  have h57 : v % 2 ^ M < 2 ^ 57 := Nat.lt_of_lt_of_le (Nat.mod_lt _ (Nat.two_pow_pos M)) (Nat.pow_le_pow_right (by decide) hM)
  have ey : (y ^^^ (if ifo = 1 then fl else 0)) ^^^ xs (mrk kd M) (v % 2 ^ M) M = (y ^^^ xs (mrk kd M) v M) ^^^ (if ifo = 1 then fl else 0) := by rw [xs_mod M (Nat.le_refl M), Nat.xor_assoc, Nat.xor_assoc, Nat.xor_comm (if ifo = 1 then fl else 0)]
  refine lv_aload_n hx hb d_M_read_0 rfl (lv_at hl 0 rfl) ?_
  refine lv_iload_n hx hb d_M_read_1 rfl (lv_at hl 2 rfl) ?_
  refine lx_if_lt (tgt := 14) hx hb d_M_read_2 (by decide) (by omega) ?_
  refine lv_iload_n hx hb d_M_read_5 rfl (lv_at hl 2 rfl) ?_
  refine lv_aload_n hx hb d_M_read_6 rfl (lv_at hl 0 rfl) ?_
  refine va_get (D := D) (ci := 6) (v := .int (nI (ckb kd M))) (C := R_M) (T := F_M) (N := 21) hx hb hts i_M hown hK hP 0 rfl rfl 3 (by decide) (hts _ m_606) (fun _ h9 => h9) rfl d_M_read_7 ?_
  refine lx_ishr (z := nI 0) hx hb d_M_read_10 ((xn_sshr (by omega) (by omega)).trans (by rw [Nat.shiftRight_eq_div_pow, Nat.div_eq_of_lt hy])) ?_
  refine lx_if_eq (tgt := 18) hx hb d_M_read_11 (by decide) (by omega) (fun k11 => ?_) (fun k11 => ?_)
  · skip
    refine lv_iconst (v := nI 0) hx hb d_M_read_18 (by decide) ?_
    refine lv_iconst (v := nI 0) hx hb d_M_read_19 (by decide) ?_
    refine lc_Vi (b := mo) (As := [.int (nI 0), .int (nI 0)]) (rest := []) ⟨hx, hb, hml, hown, hts⟩ (c_M_fails l D g _ wm mo wi ck fq co sq uq gq kd M ifo fl th mk bi ch9 tu9 ma wo9 fw fc ff fco fsq fu fg hM0 hM 0 0 (by decide) (by decide)) (kV 2 hts m_686 m_683 m_685 m_15 m_40 (by decide +kernel) ⟨Nat.le_of_ble_eq_true rfl, Nat.le_of_ble_eq_true rfl⟩) (va_recv hK hP (ci := 6) (q0 := 0) rfl rfl) hKK hP hD hS hA hl.1 rfl rfl (Nat.le_of_ble_eq_true rfl) d_M_read_20 ⟨Nat.le_of_ble_eq_true rfl, Nat.le_of_ble_eq_true rfl⟩ (fun rf uf H locs ef hP hD hS => ?_)
    have hP : va_P D vwCl ((mo, .inr (6, [.int (nI 0), .int (nI M), .int (nI kd), .int (nI (ckb kd M)), .int (nI (nk kd)), .ref wi, .ref ck, .ref fq, .ref co, .int (nI (grsK kd M)), .int (nI ifo), .int (nI fl), .long (ma), .int (mk), .int (bi), .long (wo9), .int (ch9), .int (tu9), .ref sq, .ref uq, .ref gq])) :: (wi, .inl (g 0, 4, .inl (fw))) :: (ck, .inl (g 0, 4, .inl (fc))) :: (fq, .inl (g 0, 4, .inl (ff))) :: (co, .inl (g 0, 228, .inl (fco))) :: (sq, .inl (g 0, 8, .inl (fsq))) :: (uq, .inl (g 2, 128, .inl (fu))) :: (gq, .inl (g 0, 7, .inl (fg))) :: wm) H := hP
    have hD : va_D A ((mo, .inr (6, [.int (nI 0), .int (nI M), .int (nI kd), .int (nI (ckb kd M)), .int (nI (nk kd)), .ref wi, .ref ck, .ref fq, .ref co, .int (nI (grsK kd M)), .int (nI ifo), .int (nI fl), .long (ma), .int (mk), .int (bi), .long (wo9), .int (ch9), .int (tu9), .ref sq, .ref uq, .ref gq])) :: (wi, .inl (g 0, 4, .inl (fw))) :: (ck, .inl (g 0, 4, .inl (fc))) :: (fq, .inl (g 0, 4, .inl (ff))) :: (co, .inl (g 0, 228, .inl (fco))) :: (sq, .inl (g 0, 8, .inl (fsq))) :: (uq, .inl (g 2, 128, .inl (fu))) :: (gq, .inl (g 0, 7, .inl (fg))) :: wm) := hD
    obtain rfl : rf = nI 0 := ef
    refine lx_if_eq (tgt := 28) hx hb d_M_read_23 (by decide) (by omega) (fun c23 => ?_) (fun c23 => ?_)
    · skip
      refine lv_aload_n hx hb d_M_read_28 rfl (lv_at hl 0 rfl) ?_
      refine lv_lload_n hx hb d_M_read_29 rfl (lv_at hl 1 rfl) ?_
      refine lv_aload_n hx hb d_M_read_30 rfl (lv_at hl 0 rfl) ?_
      refine lc_Vl (b := mo) (As := []) (rest := [.long (lN v), .ref mo]) ⟨hx, hb, hml, hown, hts⟩ (c_M_all l D g _ wm mo wi ck fq co sq uq gq kd M ifo fl (nI 0) mk bi ch9 tu9 ma wo9 fw fc ff fco fsq fu fg hM0 hM) (kV 0 hts m_711 m_708 m_710 m_18 m_40 (by decide +kernel) ⟨Nat.le_of_ble_eq_true rfl, Nat.le_of_ble_eq_true rfl⟩) (va_recv hK hP (ci := 6) (q0 := 0) rfl rfl) hKK hP hD hS hA hl.1 rfl rfl (Nat.le_of_ble_eq_true rfl) d_M_read_31 ⟨Nat.le_of_ble_eq_true rfl, Nat.le_of_ble_eq_true rfl⟩ (fun r3 u3 H locs e3 hP hD hS => ?_)
      obtain rfl : r3 = lN (2 ^ M - 1) := e3
      refine lx_land (z := lN (v % 2 ^ M)) hx hb d_M_read_34 ((xl_and _ _).trans (by rw [Nat.and_two_pow_sub_one_eq_mod])) ?_
      refine lv_iload_n hx hb d_M_read_35 rfl (lv_at hl 2 rfl) ?_
      refine lc_Vi (b := mo) (As := [.long (lN (v % 2 ^ M)), .int (nI y)]) (rest := []) ⟨hx, hb, hml, hown, hts⟩ (c_M_reading l D g _ wm mo wi ck fq co sq uq gq kd M ifo fl (nI 0) mk bi ch9 tu9 ma wo9 fw fc ff fco fsq fu fg hM0 hM (v % 2 ^ M) y (by omega) hy hif hfl hkd hmw) (kV 2 hts m_737 m_734 m_736 m_21 m_40 (by decide +kernel) ⟨Nat.le_of_ble_eq_true rfl, Nat.le_of_ble_eq_true rfl⟩) (va_recv hK hP (ci := 6) (q0 := 0) rfl rfl) hKK hP hD hS hA hl.1 rfl rfl (Nat.le_of_ble_eq_true rfl) d_M_read_36 ⟨Nat.le_of_ble_eq_true rfl, Nat.le_of_ble_eq_true rfl⟩ (fun r4 u4 H locs e4 hP hD hS => ?_)
      have hP : va_P D vwCl ((mo, .inr (6, [.int (nI 0), .int (nI M), .int (nI kd), .int (nI (ckb kd M)), .int (nI (nk kd)), .ref wi, .ref ck, .ref fq, .ref co, .int (nI (grsK kd M)), .int (nI ifo), .int (nI fl), .long (lN (v % 2 ^ M ^^^ (jd kd M ((y ^^^ (if ifo = 1 then fl else 0)) ^^^ xs (mrk kd M) (v % 2 ^ M) M)).2.1)), .int (nI (y ^^^ (jd kd M ((y ^^^ (if ifo = 1 then fl else 0)) ^^^ xs (mrk kd M) (v % 2 ^ M) M)).2.2)), .int (nI (pcn 64 (jd kd M ((y ^^^ (if ifo = 1 then fl else 0)) ^^^ xs (mrk kd M) (v % 2 ^ M) M)).2.1 + pcn 32 (jd kd M ((y ^^^ (if ifo = 1 then fl else 0)) ^^^ xs (mrk kd M) (v % 2 ^ M) M)).2.2)), .long (wo9), .int (ch9), .int (tu9), .ref sq, .ref uq, .ref gq])) :: (wi, .inl (g 0, 4, .inl (fw))) :: (ck, .inl (g 0, 4, .inl (fc))) :: (fq, .inl (g 0, 4, .inl (ff))) :: (co, .inl (g 0, 228, .inl (fco))) :: (sq, .inl (g 0, 8, .inl (fsq))) :: (uq, .inl (g 2, 128, .inl (fu))) :: (gq, .inl (g 0, 7, .inl (fg))) :: wm) H := hP
      have hD : va_D A ((mo, .inr (6, [.int (nI 0), .int (nI M), .int (nI kd), .int (nI (ckb kd M)), .int (nI (nk kd)), .ref wi, .ref ck, .ref fq, .ref co, .int (nI (grsK kd M)), .int (nI ifo), .int (nI fl), .long (lN (v % 2 ^ M ^^^ (jd kd M ((y ^^^ (if ifo = 1 then fl else 0)) ^^^ xs (mrk kd M) (v % 2 ^ M) M)).2.1)), .int (nI (y ^^^ (jd kd M ((y ^^^ (if ifo = 1 then fl else 0)) ^^^ xs (mrk kd M) (v % 2 ^ M) M)).2.2)), .int (nI (pcn 64 (jd kd M ((y ^^^ (if ifo = 1 then fl else 0)) ^^^ xs (mrk kd M) (v % 2 ^ M) M)).2.1 + pcn 32 (jd kd M ((y ^^^ (if ifo = 1 then fl else 0)) ^^^ xs (mrk kd M) (v % 2 ^ M) M)).2.2)), .long (wo9), .int (ch9), .int (tu9), .ref sq, .ref uq, .ref gq])) :: (wi, .inl (g 0, 4, .inl (fw))) :: (ck, .inl (g 0, 4, .inl (fc))) :: (fq, .inl (g 0, 4, .inl (ff))) :: (co, .inl (g 0, 228, .inl (fco))) :: (sq, .inl (g 0, 8, .inl (fsq))) :: (uq, .inl (g 2, 128, .inl (fu))) :: (gq, .inl (g 0, 7, .inl (fg))) :: wm) := hD
      rw [ey] at e4 hP hD
      have hP : va_P D vwCl ((mo, .inr (6, [.int (nI 0), .int (nI M), .int (nI kd), .int (nI (ckb kd M)), .int (nI (nk kd)), .ref wi, .ref ck, .ref fq, .ref co, .int (nI (grsK kd M)), .int (nI ifo), .int (nI fl), .long (lN (v % 2 ^ M ^^^ (jd kd M ((y ^^^ xs (mrk kd M) v M) ^^^ (if ifo = 1 then fl else 0))).2.1)), .int (nI (y ^^^ (jd kd M ((y ^^^ xs (mrk kd M) v M) ^^^ (if ifo = 1 then fl else 0))).2.2)), .int (nI (pcn 64 (jd kd M ((y ^^^ xs (mrk kd M) v M) ^^^ (if ifo = 1 then fl else 0))).2.1 + pcn 32 (jd kd M ((y ^^^ xs (mrk kd M) v M) ^^^ (if ifo = 1 then fl else 0))).2.2)), .long (wo9), .int (ch9), .int (tu9), .ref sq, .ref uq, .ref gq])) :: (wi, .inl (g 0, 4, .inl (fw))) :: (ck, .inl (g 0, 4, .inl (fc))) :: (fq, .inl (g 0, 4, .inl (ff))) :: (co, .inl (g 0, 228, .inl (fco))) :: (sq, .inl (g 0, 8, .inl (fsq))) :: (uq, .inl (g 2, 128, .inl (fu))) :: (gq, .inl (g 0, 7, .inl (fg))) :: wm) H := hP
      have hD : va_D A ((mo, .inr (6, [.int (nI 0), .int (nI M), .int (nI kd), .int (nI (ckb kd M)), .int (nI (nk kd)), .ref wi, .ref ck, .ref fq, .ref co, .int (nI (grsK kd M)), .int (nI ifo), .int (nI fl), .long (lN (v % 2 ^ M ^^^ (jd kd M ((y ^^^ xs (mrk kd M) v M) ^^^ (if ifo = 1 then fl else 0))).2.1)), .int (nI (y ^^^ (jd kd M ((y ^^^ xs (mrk kd M) v M) ^^^ (if ifo = 1 then fl else 0))).2.2)), .int (nI (pcn 64 (jd kd M ((y ^^^ xs (mrk kd M) v M) ^^^ (if ifo = 1 then fl else 0))).2.1 + pcn 32 (jd kd M ((y ^^^ xs (mrk kd M) v M) ^^^ (if ifo = 1 then fl else 0))).2.2)), .long (wo9), .int (ch9), .int (tu9), .ref sq, .ref uq, .ref gq])) :: (wi, .inl (g 0, 4, .inl (fw))) :: (ck, .inl (g 0, 4, .inl (fc))) :: (fq, .inl (g 0, 4, .inl (ff))) :: (co, .inl (g 0, 228, .inl (fco))) :: (sq, .inl (g 0, 8, .inl (fsq))) :: (uq, .inl (g 2, 128, .inl (fu))) :: (gq, .inl (g 0, 7, .inl (fg))) :: wm) := hD
      obtain rfl : r4 = nI (jd kd M ((y ^^^ xs (mrk kd M) v M) ^^^ (if ifo = 1 then fl else 0))).1 := e4
      refine lv_istore (lv' := [(4, .int (nI (jd kd M ((y ^^^ xs (mrk kd M) v M) ^^^ (if ifo = 1 then fl else 0))).1)), (0, .ref mo), (1, .long (lN v)), (3, .int (nI y))]) hx hb d_M_read_39 hl (by decide) rfl (fun ls hl => ?_)
      refine lv_aload_n hx hb d_M_read_41 rfl (lv_at hl 1 rfl) ?_
      refine lv_aload_n hx hb d_M_read_42 rfl (lv_at hl 1 rfl) ?_
      refine va_get (D := D) (ci := 6) (v := .long (lN (v % 2 ^ M ^^^ (jd kd M ((y ^^^ xs (mrk kd M) v M) ^^^ (if ifo = 1 then fl else 0))).2.1))) (C := R_M) (T := F_M) (N := 21) hx hb hts i_M hown hK hP 0 rfl rfl 12 (by decide) (hts _ m_615) (fun _ h9 => h9) rfl d_M_read_43 ?_
      refine va_put (D := D) (ci := 6) (v := .long (lN (v % 2 ^ M ^^^ (jd kd M ((y ^^^ xs (mrk kd M) v M) ^^^ (if ifo = 1 then fl else 0))).2.1))) (ty := .long) (C := R_M) (T := F_M) (N := 21) hx hb hts i_M tf_M tf_M_ok nf_M hown hK hP hD hS 0 rfl rfl 15 (by decide) (hts _ m_618) (fun _ h9 => h9) rfl (by decide +kernel) rfl rfl (Nat.le_of_ble_eq_true rfl) d_M_read_46 (fun H locs hP hD hS => ?_)
      have hP : va_P D vwCl ((mo, .inr (6, [.int (nI 0), .int (nI M), .int (nI kd), .int (nI (ckb kd M)), .int (nI (nk kd)), .ref wi, .ref ck, .ref fq, .ref co, .int (nI (grsK kd M)), .int (nI ifo), .int (nI fl), .long (lN (v % 2 ^ M ^^^ (jd kd M ((y ^^^ xs (mrk kd M) v M) ^^^ (if ifo = 1 then fl else 0))).2.1)), .int (nI (y ^^^ (jd kd M ((y ^^^ xs (mrk kd M) v M) ^^^ (if ifo = 1 then fl else 0))).2.2)), .int (nI (pcn 64 (jd kd M ((y ^^^ xs (mrk kd M) v M) ^^^ (if ifo = 1 then fl else 0))).2.1 + pcn 32 (jd kd M ((y ^^^ xs (mrk kd M) v M) ^^^ (if ifo = 1 then fl else 0))).2.2)), .long (lN (v % 2 ^ M ^^^ (jd kd M ((y ^^^ xs (mrk kd M) v M) ^^^ (if ifo = 1 then fl else 0))).2.1)), .int (ch9), .int (tu9), .ref sq, .ref uq, .ref gq])) :: (wi, .inl (g 0, 4, .inl (fw))) :: (ck, .inl (g 0, 4, .inl (fc))) :: (fq, .inl (g 0, 4, .inl (ff))) :: (co, .inl (g 0, 228, .inl (fco))) :: (sq, .inl (g 0, 8, .inl (fsq))) :: (uq, .inl (g 2, 128, .inl (fu))) :: (gq, .inl (g 0, 7, .inl (fg))) :: wm) H := hP
      have hD : va_D A ((mo, .inr (6, [.int (nI 0), .int (nI M), .int (nI kd), .int (nI (ckb kd M)), .int (nI (nk kd)), .ref wi, .ref ck, .ref fq, .ref co, .int (nI (grsK kd M)), .int (nI ifo), .int (nI fl), .long (lN (v % 2 ^ M ^^^ (jd kd M ((y ^^^ xs (mrk kd M) v M) ^^^ (if ifo = 1 then fl else 0))).2.1)), .int (nI (y ^^^ (jd kd M ((y ^^^ xs (mrk kd M) v M) ^^^ (if ifo = 1 then fl else 0))).2.2)), .int (nI (pcn 64 (jd kd M ((y ^^^ xs (mrk kd M) v M) ^^^ (if ifo = 1 then fl else 0))).2.1 + pcn 32 (jd kd M ((y ^^^ xs (mrk kd M) v M) ^^^ (if ifo = 1 then fl else 0))).2.2)), .long (lN (v % 2 ^ M ^^^ (jd kd M ((y ^^^ xs (mrk kd M) v M) ^^^ (if ifo = 1 then fl else 0))).2.1)), .int (ch9), .int (tu9), .ref sq, .ref uq, .ref gq])) :: (wi, .inl (g 0, 4, .inl (fw))) :: (ck, .inl (g 0, 4, .inl (fc))) :: (fq, .inl (g 0, 4, .inl (ff))) :: (co, .inl (g 0, 228, .inl (fco))) :: (sq, .inl (g 0, 8, .inl (fsq))) :: (uq, .inl (g 2, 128, .inl (fu))) :: (gq, .inl (g 0, 7, .inl (fg))) :: wm) := hD
      refine lv_aload_n hx hb d_M_read_49 rfl (lv_at hl 1 rfl) ?_
      refine lv_aload_n hx hb d_M_read_50 rfl (lv_at hl 1 rfl) ?_
      refine va_get (D := D) (ci := 6) (v := .int (nI (y ^^^ (jd kd M ((y ^^^ xs (mrk kd M) v M) ^^^ (if ifo = 1 then fl else 0))).2.2))) (C := R_M) (T := F_M) (N := 21) hx hb hts i_M hown hK hP 0 rfl rfl 13 (by decide) (hts _ m_616) (fun _ h9 => h9) rfl d_M_read_51 ?_
      refine va_put (D := D) (ci := 6) (v := .int (nI (y ^^^ (jd kd M ((y ^^^ xs (mrk kd M) v M) ^^^ (if ifo = 1 then fl else 0))).2.2))) (ty := .int) (C := R_M) (T := F_M) (N := 21) hx hb hts i_M tf_M tf_M_ok nf_M hown hK hP hD hS 0 rfl rfl 16 (by decide) (hts _ m_619) (fun _ h9 => h9) rfl (by decide +kernel) rfl rfl (Nat.le_of_ble_eq_true rfl) d_M_read_54 (fun H locs hP hD hS => ?_)
      have hP : va_P D vwCl ((mo, .inr (6, [.int (nI 0), .int (nI M), .int (nI kd), .int (nI (ckb kd M)), .int (nI (nk kd)), .ref wi, .ref ck, .ref fq, .ref co, .int (nI (grsK kd M)), .int (nI ifo), .int (nI fl), .long (lN (v % 2 ^ M ^^^ (jd kd M ((y ^^^ xs (mrk kd M) v M) ^^^ (if ifo = 1 then fl else 0))).2.1)), .int (nI (y ^^^ (jd kd M ((y ^^^ xs (mrk kd M) v M) ^^^ (if ifo = 1 then fl else 0))).2.2)), .int (nI (pcn 64 (jd kd M ((y ^^^ xs (mrk kd M) v M) ^^^ (if ifo = 1 then fl else 0))).2.1 + pcn 32 (jd kd M ((y ^^^ xs (mrk kd M) v M) ^^^ (if ifo = 1 then fl else 0))).2.2)), .long (lN (v % 2 ^ M ^^^ (jd kd M ((y ^^^ xs (mrk kd M) v M) ^^^ (if ifo = 1 then fl else 0))).2.1)), .int (nI (y ^^^ (jd kd M ((y ^^^ xs (mrk kd M) v M) ^^^ (if ifo = 1 then fl else 0))).2.2)), .int (tu9), .ref sq, .ref uq, .ref gq])) :: (wi, .inl (g 0, 4, .inl (fw))) :: (ck, .inl (g 0, 4, .inl (fc))) :: (fq, .inl (g 0, 4, .inl (ff))) :: (co, .inl (g 0, 228, .inl (fco))) :: (sq, .inl (g 0, 8, .inl (fsq))) :: (uq, .inl (g 2, 128, .inl (fu))) :: (gq, .inl (g 0, 7, .inl (fg))) :: wm) H := hP
      have hD : va_D A ((mo, .inr (6, [.int (nI 0), .int (nI M), .int (nI kd), .int (nI (ckb kd M)), .int (nI (nk kd)), .ref wi, .ref ck, .ref fq, .ref co, .int (nI (grsK kd M)), .int (nI ifo), .int (nI fl), .long (lN (v % 2 ^ M ^^^ (jd kd M ((y ^^^ xs (mrk kd M) v M) ^^^ (if ifo = 1 then fl else 0))).2.1)), .int (nI (y ^^^ (jd kd M ((y ^^^ xs (mrk kd M) v M) ^^^ (if ifo = 1 then fl else 0))).2.2)), .int (nI (pcn 64 (jd kd M ((y ^^^ xs (mrk kd M) v M) ^^^ (if ifo = 1 then fl else 0))).2.1 + pcn 32 (jd kd M ((y ^^^ xs (mrk kd M) v M) ^^^ (if ifo = 1 then fl else 0))).2.2)), .long (lN (v % 2 ^ M ^^^ (jd kd M ((y ^^^ xs (mrk kd M) v M) ^^^ (if ifo = 1 then fl else 0))).2.1)), .int (nI (y ^^^ (jd kd M ((y ^^^ xs (mrk kd M) v M) ^^^ (if ifo = 1 then fl else 0))).2.2)), .int (tu9), .ref sq, .ref uq, .ref gq])) :: (wi, .inl (g 0, 4, .inl (fw))) :: (ck, .inl (g 0, 4, .inl (fc))) :: (fq, .inl (g 0, 4, .inl (ff))) :: (co, .inl (g 0, 228, .inl (fco))) :: (sq, .inl (g 0, 8, .inl (fsq))) :: (uq, .inl (g 2, 128, .inl (fu))) :: (gq, .inl (g 0, 7, .inl (fg))) :: wm) := hD
      refine lv_aload_n hx hb d_M_read_57 rfl (lv_at hl 1 rfl) ?_
      refine lv_aload_n hx hb d_M_read_58 rfl (lv_at hl 1 rfl) ?_
      refine va_get (D := D) (ci := 6) (v := .int (nI (pcn 64 (jd kd M ((y ^^^ xs (mrk kd M) v M) ^^^ (if ifo = 1 then fl else 0))).2.1 + pcn 32 (jd kd M ((y ^^^ xs (mrk kd M) v M) ^^^ (if ifo = 1 then fl else 0))).2.2))) (C := R_M) (T := F_M) (N := 21) hx hb hts i_M hown hK hP 0 rfl rfl 14 (by decide) (hts _ m_617) (fun _ h9 => h9) rfl d_M_read_59 ?_
      refine va_put (D := D) (ci := 6) (v := .int (nI (pcn 64 (jd kd M ((y ^^^ xs (mrk kd M) v M) ^^^ (if ifo = 1 then fl else 0))).2.1 + pcn 32 (jd kd M ((y ^^^ xs (mrk kd M) v M) ^^^ (if ifo = 1 then fl else 0))).2.2))) (ty := .int) (C := R_M) (T := F_M) (N := 21) hx hb hts i_M tf_M tf_M_ok nf_M hown hK hP hD hS 0 rfl rfl 17 (by decide) (hts _ m_620) (fun _ h9 => h9) rfl (by decide +kernel) rfl rfl (Nat.le_of_ble_eq_true rfl) d_M_read_62 (fun H locs hP hD hS => ?_)
      have hP : va_P D vwCl ((mo, .inr (6, [.int (nI 0), .int (nI M), .int (nI kd), .int (nI (ckb kd M)), .int (nI (nk kd)), .ref wi, .ref ck, .ref fq, .ref co, .int (nI (grsK kd M)), .int (nI ifo), .int (nI fl), .long (lN (v % 2 ^ M ^^^ (jd kd M ((y ^^^ xs (mrk kd M) v M) ^^^ (if ifo = 1 then fl else 0))).2.1)), .int (nI (y ^^^ (jd kd M ((y ^^^ xs (mrk kd M) v M) ^^^ (if ifo = 1 then fl else 0))).2.2)), .int (nI (pcn 64 (jd kd M ((y ^^^ xs (mrk kd M) v M) ^^^ (if ifo = 1 then fl else 0))).2.1 + pcn 32 (jd kd M ((y ^^^ xs (mrk kd M) v M) ^^^ (if ifo = 1 then fl else 0))).2.2)), .long (lN (v % 2 ^ M ^^^ (jd kd M ((y ^^^ xs (mrk kd M) v M) ^^^ (if ifo = 1 then fl else 0))).2.1)), .int (nI (y ^^^ (jd kd M ((y ^^^ xs (mrk kd M) v M) ^^^ (if ifo = 1 then fl else 0))).2.2)), .int (nI (pcn 64 (jd kd M ((y ^^^ xs (mrk kd M) v M) ^^^ (if ifo = 1 then fl else 0))).2.1 + pcn 32 (jd kd M ((y ^^^ xs (mrk kd M) v M) ^^^ (if ifo = 1 then fl else 0))).2.2)), .ref sq, .ref uq, .ref gq])) :: (wi, .inl (g 0, 4, .inl (fw))) :: (ck, .inl (g 0, 4, .inl (fc))) :: (fq, .inl (g 0, 4, .inl (ff))) :: (co, .inl (g 0, 228, .inl (fco))) :: (sq, .inl (g 0, 8, .inl (fsq))) :: (uq, .inl (g 2, 128, .inl (fu))) :: (gq, .inl (g 0, 7, .inl (fg))) :: wm) H := hP
      have hD : va_D A ((mo, .inr (6, [.int (nI 0), .int (nI M), .int (nI kd), .int (nI (ckb kd M)), .int (nI (nk kd)), .ref wi, .ref ck, .ref fq, .ref co, .int (nI (grsK kd M)), .int (nI ifo), .int (nI fl), .long (lN (v % 2 ^ M ^^^ (jd kd M ((y ^^^ xs (mrk kd M) v M) ^^^ (if ifo = 1 then fl else 0))).2.1)), .int (nI (y ^^^ (jd kd M ((y ^^^ xs (mrk kd M) v M) ^^^ (if ifo = 1 then fl else 0))).2.2)), .int (nI (pcn 64 (jd kd M ((y ^^^ xs (mrk kd M) v M) ^^^ (if ifo = 1 then fl else 0))).2.1 + pcn 32 (jd kd M ((y ^^^ xs (mrk kd M) v M) ^^^ (if ifo = 1 then fl else 0))).2.2)), .long (lN (v % 2 ^ M ^^^ (jd kd M ((y ^^^ xs (mrk kd M) v M) ^^^ (if ifo = 1 then fl else 0))).2.1)), .int (nI (y ^^^ (jd kd M ((y ^^^ xs (mrk kd M) v M) ^^^ (if ifo = 1 then fl else 0))).2.2)), .int (nI (pcn 64 (jd kd M ((y ^^^ xs (mrk kd M) v M) ^^^ (if ifo = 1 then fl else 0))).2.1 + pcn 32 (jd kd M ((y ^^^ xs (mrk kd M) v M) ^^^ (if ifo = 1 then fl else 0))).2.2)), .ref sq, .ref uq, .ref gq])) :: (wi, .inl (g 0, 4, .inl (fw))) :: (ck, .inl (g 0, 4, .inl (fc))) :: (fq, .inl (g 0, 4, .inl (ff))) :: (co, .inl (g 0, 228, .inl (fco))) :: (sq, .inl (g 0, 8, .inl (fsq))) :: (uq, .inl (g 2, 128, .inl (fu))) :: (gq, .inl (g 0, 7, .inl (fg))) :: wm) := hD
      refine lv_iload hx hb d_M_read_65 (lv_at hl 0 rfl) ?_
      rw [← hQ]
      refine W.iret (v := nI (jd kd M ((y ^^^ xs (mrk kd M) v M) ^^^ (if ifo = 1 then fl else 0))).1) hx hb hr ?_ hS.2.2 d_M_read_67
      exact fun t ht hW => ⟨⟨nI (jd kd M ((y ^^^ xs (mrk kd M) v M) ^^^ (if ifo = 1 then fl else 0))).1, (), rfl, rfl, by rw [ht]; exact hP, hD⟩, hS.F ht⟩
    · skip
      exact absurd rfl c23
  · skip
    exact absurd rfl k11
set_option maxHeartbeats 4000000 in
set_option maxRecDepth 100000 in
theorem t_M_read (l : Launch) (D : va_G) (g : Nat → ClassId) (sz : Nat) (wm : va_W) (mo wi ck fq co sq uq gq kd M ifo fl : Nat) (th mk bi ch9 tu9 : Int32) (ma wo9 : Int64) (fw fc ff fco fsq fu fg : Nat → Int32) (hM0 : 0 < M) (hM : M ≤ 57) (wv : Int64) (y : Nat) (hy : y < 2 ^ 32) (hy9 : 2 ^ ckb kd M ≤ y) : Met l y_M_read w_M_read rm_M_read (va_Pc [.ref mo, .long (wv), .int (nI y)] (pP D (tyl g) ((mo, .inr (6, [.int (th), .int (nI M), .int (nI kd), .int (nI (ckb kd M)), .int (nI (nk kd)), .ref wi, .ref ck, .ref fq, .ref co, .int (nI (grsK kd M)), .int (nI ifo), .int (nI fl), .long (ma), .int (mk), .int (bi), .long (wo9), .int (ch9), .int (tu9), .ref sq, .ref uq, .ref gq])) :: (wi, .inl (g 0, 4, .inl (fw))) :: (ck, .inl (g 0, 4, .inl (fc))) :: (fq, .inl (g 0, 4, .inl (ff))) :: (co, .inl (g 0, 228, .inl (fco))) :: (sq, .inl (g 0, 8, .inl (fsq))) :: (uq, .inl (g 2, 128, .inl (fu))) :: (gq, .inl (g 0, 7, .inl (fg))) :: wm) sz)) (va_Qi (fun (r : Int32) (u : Unit) => r = nI 0) (fun u => qB D (va_A ((mo, .inr (6, [.int (th), .int (nI M), .int (nI kd), .int (nI (ckb kd M)), .int (nI (nk kd)), .ref wi, .ref ck, .ref fq, .ref co, .int (nI (grsK kd M)), .int (nI ifo), .int (nI fl), .long (ma), .int (mk), .int (bi), .long (wo9), .int (ch9), .int (tu9), .ref sq, .ref uq, .ref gq])) :: (wi, .inl (g 0, 4, .inl (fw))) :: (ck, .inl (g 0, 4, .inl (fc))) :: (fq, .inl (g 0, 4, .inl (ff))) :: (co, .inl (g 0, 228, .inl (fco))) :: (sq, .inl (g 0, 8, .inl (fsq))) :: (uq, .inl (g 2, 128, .inl (fu))) :: (gq, .inl (g 0, 7, .inl (fg))) :: wm) sz) ((mo, .inr (6, [.int (nI 1), .int (nI M), .int (nI kd), .int (nI (ckb kd M)), .int (nI (nk kd)), .ref wi, .ref ck, .ref fq, .ref co, .int (nI (grsK kd M)), .int (nI ifo), .int (nI fl), .long (ma), .int (mk), .int (bi), .long (wo9), .int (ch9), .int (tu9), .ref sq, .ref uq, .ref gq])) :: (wi, .inl (g 0, 4, .inl (fw))) :: (ck, .inl (g 0, 4, .inl (fc))) :: (fq, .inl (g 0, 4, .inl (ff))) :: (co, .inl (g 0, 228, .inl (fco))) :: (sq, .inl (g 0, 8, .inl (fsq))) :: (uq, .inl (g 2, 128, .inl (fu))) :: (gq, .inl (g 0, 7, .inl (fg))) :: wm)) (va_A ((mo, .inr (6, [.int (th), .int (nI M), .int (nI kd), .int (nI (ckb kd M)), .int (nI (nk kd)), .ref wi, .ref ck, .ref fq, .ref co, .int (nI (grsK kd M)), .int (nI ifo), .int (nI fl), .long (ma), .int (mk), .int (bi), .long (wo9), .int (ch9), .int (tu9), .ref sq, .ref uq, .ref gq])) :: (wi, .inl (g 0, 4, .inl (fw))) :: (ck, .inl (g 0, 4, .inl (fc))) :: (fq, .inl (g 0, 4, .inl (ff))) :: (co, .inl (g 0, 228, .inl (fco))) :: (sq, .inl (g 0, 8, .inl (fsq))) :: (uq, .inl (g 2, 128, .inl (fu))) :: (gq, .inl (g 0, 7, .inl (fg))) :: wm) sz)) 0 0 (va_A ((mo, .inr (6, [.int (th), .int (nI M), .int (nI kd), .int (nI (ckb kd M)), .int (nI (nk kd)), .ref wi, .ref ck, .ref fq, .ref co, .int (nI (grsK kd M)), .int (nI ifo), .int (nI fl), .long (ma), .int (mk), .int (bi), .long (wo9), .int (ch9), .int (tu9), .ref sq, .ref uq, .ref gq])) :: (wi, .inl (g 0, 4, .inl (fw))) :: (ck, .inl (g 0, 4, .inl (fc))) :: (fq, .inl (g 0, 4, .inl (ff))) :: (co, .inl (g 0, 228, .inl (fco))) :: (sq, .inl (g 0, 8, .inl (fsq))) :: (uq, .inl (g 2, 128, .inl (fu))) :: (gq, .inl (g 0, 7, .inl (fg))) :: wm) sz) := by
  refine Met.ofW (cc := b_M_read) (maxL := 5) (ret := (some .int)) (by decide +kernel) rfl ?_
  intro p e s m args below meth c s₁ Bq hml hv
  have hx := Bq.exec
  have hb := Bq.bytes
  have hr := Bq.returns
  have hts : ∀ w ∈ wA, w.before args s = true := fun w h => atoms_spec (ws := w_M_read) Bq.pre w (List.mem_cons_of_mem _ h)
  have hown : s.vm.findClass R_M = some m.cls := findClass_of_methodNamed Bq.named
  have hlocks := Bq.notSynchronized
  obtain ⟨rfl, hsz, hP, hKK, hD0⟩ := hv
  have hK := hKK.1
  subst hsz
  have hD := hD0.self (sz := s.heap.size)
  generalize hAe : va_A ((mo, .inr (6, [.int (th), .int (nI M), .int (nI kd), .int (nI (ckb kd M)), .int (nI (nk kd)), .ref wi, .ref ck, .ref fq, .ref co, .int (nI (grsK kd M)), .int (nI ifo), .int (nI fl), .long (ma), .int (mk), .int (bi), .long (wo9), .int (ch9), .int (tu9), .ref sq, .ref uq, .ref gq])) :: (wi, .inl (g 0, 4, .inl (fw))) :: (ck, .inl (g 0, 4, .inl (fc))) :: (fq, .inl (g 0, 4, .inl (ff))) :: (co, .inl (g 0, 228, .inl (fco))) :: (sq, .inl (g 0, 8, .inl (fsq))) :: (uq, .inl (g 2, 128, .inl (fu))) :: (gq, .inl (g 0, 7, .inl (fg))) :: wm) s.heap.size = A at hD ⊢
  have hA : ∀ q : Nat, s.heap.size ≤ q → A q := fun q h => by rw [← hAe]; exact Or.inr h
  have hS : va_S A s.heap s.heap [] := va_S.rf
  have hl := lv_entry ([.ref mo, .long (wv), .int (nI y)]) (n := 5) (Nat.le_of_ble_eq_true rfl)
  rw [lg_entry_eq]
  generalize (lg_sl ([.ref mo, .long (wv), .int (nI y)]) ++ List.replicate (5 - (lg_sl ([.ref mo, .long (wv), .int (nI y)])).length) Slot.unset).toArray = ls at hl ⊢
  have hl : lv_has ls 5 [(0, .ref mo), (1, .long (wv)), (3, .int (nI y))] := hl
  generalize hQ : MQ below (va_Qi (fun (r : Int32) (u : Unit) => r = nI 0) (fun u => qB D (A) ((mo, .inr (6, [.int (nI 1), .int (nI M), .int (nI kd), .int (nI (ckb kd M)), .int (nI (nk kd)), .ref wi, .ref ck, .ref fq, .ref co, .int (nI (grsK kd M)), .int (nI ifo), .int (nI fl), .long (ma), .int (mk), .int (bi), .long (wo9), .int (ch9), .int (tu9), .ref sq, .ref uq, .ref gq])) :: (wi, .inl (g 0, 4, .inl (fw))) :: (ck, .inl (g 0, 4, .inl (fc))) :: (fq, .inl (g 0, 4, .inl (ff))) :: (co, .inl (g 0, 228, .inl (fco))) :: (sq, .inl (g 0, 8, .inl (fsq))) :: (uq, .inl (g 2, 128, .inl (fu))) :: (gq, .inl (g 0, 7, .inl (fg))) :: wm)) (A)) [.ref mo, .long (wv), .int (nI y)].toArray s 0 0 A = Q
  have hck := ckb_le kd M
  refine lv_aload_n hx hb d_M_read_0 rfl (lv_at hl 0 rfl) ?_
  refine lv_iload_n hx hb d_M_read_1 rfl (lv_at hl 2 rfl) ?_
  refine lv_if_lt (tgt := 14) hx hb d_M_read_2 (by decide) (fun k2 => ?_) (fun k2 => ?_)
  · skip
    refine lv_iconst (v := nI 1) hx hb d_M_read_14 (by decide) ?_
    refine lv_goto (tgt := 19) hx hb d_M_read_15 (by decide) ?_
    refine lv_iconst (v := nI 0) hx hb d_M_read_19 (by decide) ?_
    refine lc_Vi (b := mo) (As := [.int (nI 1), .int (nI 0)]) (rest := []) ⟨hx, hb, hml, hown, hts⟩ (c_M_fails l D g _ wm mo wi ck fq co sq uq gq kd M ifo fl th mk bi ch9 tu9 ma wo9 fw fc ff fco fsq fu fg hM0 hM 1 0 (by decide) (by decide)) (kV 2 hts m_686 m_683 m_685 m_15 m_40 (by decide +kernel) ⟨Nat.le_of_ble_eq_true rfl, Nat.le_of_ble_eq_true rfl⟩) (va_recv hK hP (ci := 6) (q0 := 0) rfl rfl) hKK hP hD hS hA hl.1 rfl rfl (Nat.le_of_ble_eq_true rfl) d_M_read_20 ⟨Nat.le_of_ble_eq_true rfl, Nat.le_of_ble_eq_true rfl⟩ (fun rf uf H locs ef hP hD hS => ?_)
    have hP : va_P D vwCl ((mo, .inr (6, [.int (nI 1), .int (nI M), .int (nI kd), .int (nI (ckb kd M)), .int (nI (nk kd)), .ref wi, .ref ck, .ref fq, .ref co, .int (nI (grsK kd M)), .int (nI ifo), .int (nI fl), .long (ma), .int (mk), .int (bi), .long (wo9), .int (ch9), .int (tu9), .ref sq, .ref uq, .ref gq])) :: (wi, .inl (g 0, 4, .inl (fw))) :: (ck, .inl (g 0, 4, .inl (fc))) :: (fq, .inl (g 0, 4, .inl (ff))) :: (co, .inl (g 0, 228, .inl (fco))) :: (sq, .inl (g 0, 8, .inl (fsq))) :: (uq, .inl (g 2, 128, .inl (fu))) :: (gq, .inl (g 0, 7, .inl (fg))) :: wm) H := hP
    have hD : va_D A ((mo, .inr (6, [.int (nI 1), .int (nI M), .int (nI kd), .int (nI (ckb kd M)), .int (nI (nk kd)), .ref wi, .ref ck, .ref fq, .ref co, .int (nI (grsK kd M)), .int (nI ifo), .int (nI fl), .long (ma), .int (mk), .int (bi), .long (wo9), .int (ch9), .int (tu9), .ref sq, .ref uq, .ref gq])) :: (wi, .inl (g 0, 4, .inl (fw))) :: (ck, .inl (g 0, 4, .inl (fc))) :: (fq, .inl (g 0, 4, .inl (ff))) :: (co, .inl (g 0, 228, .inl (fco))) :: (sq, .inl (g 0, 8, .inl (fsq))) :: (uq, .inl (g 2, 128, .inl (fu))) :: (gq, .inl (g 0, 7, .inl (fg))) :: wm) := hD
    obtain rfl : rf = nI 1 := ef
    refine lx_if_eq (tgt := 28) hx hb d_M_read_23 (by decide) (by omega) (fun c23 => ?_) (fun c23 => ?_)
    · skip
      exact absurd c23 (by decide)
    · skip
      refine lv_iconst (v := nI 0) hx hb d_M_read_26 (by decide) ?_
      rw [← hQ]
      refine W.iret (v := nI 0) hx hb hr ?_ hS.2.2 d_M_read_27
      exact fun t ht hW => ⟨⟨nI 0, (), rfl, rfl, by rw [ht]; exact hP, hD⟩, hS.F ht⟩
  · skip
    have hy31 := nI_pos9 hy k2
    have hsl : y >>> ckb kd M < 2 ^ 31 := Nat.lt_of_le_of_lt (Nat.shiftRight_le _ _) hy31
    refine lv_iload_n hx hb d_M_read_5 rfl (lv_at hl 2 rfl) ?_
    refine lv_aload_n hx hb d_M_read_6 rfl (lv_at hl 0 rfl) ?_
    refine va_get (D := D) (ci := 6) (v := .int (nI (ckb kd M))) (C := R_M) (T := F_M) (N := 21) hx hb hts i_M hown hK hP 0 rfl rfl 3 (by decide) (hts _ m_606) (fun _ h9 => h9) rfl d_M_read_7 ?_
    refine lx_ishr (z := nI (y >>> ckb kd M)) hx hb d_M_read_10 (xn_sshr hy31 (by omega)) ?_
    refine lx_if_eq (tgt := 18) hx hb d_M_read_11 (by decide) (by omega) (fun k11 => ?_) (fun k11 => ?_)
    · skip
      exact absurd hy9 (by rw [Nat.shiftRight_eq_div_pow] at k11; have := (Nat.div_eq_zero_iff_lt (Nat.two_pow_pos _)).mp k11; omega)
    · skip
      refine lv_iconst (v := nI 1) hx hb d_M_read_14 (by decide) ?_
      refine lv_goto (tgt := 19) hx hb d_M_read_15 (by decide) ?_
      refine lv_iconst (v := nI 0) hx hb d_M_read_19 (by decide) ?_
      refine lc_Vi (b := mo) (As := [.int (nI 1), .int (nI 0)]) (rest := []) ⟨hx, hb, hml, hown, hts⟩ (c_M_fails l D g _ wm mo wi ck fq co sq uq gq kd M ifo fl th mk bi ch9 tu9 ma wo9 fw fc ff fco fsq fu fg hM0 hM 1 0 (by decide) (by decide)) (kV 2 hts m_686 m_683 m_685 m_15 m_40 (by decide +kernel) ⟨Nat.le_of_ble_eq_true rfl, Nat.le_of_ble_eq_true rfl⟩) (va_recv hK hP (ci := 6) (q0 := 0) rfl rfl) hKK hP hD hS hA hl.1 rfl rfl (Nat.le_of_ble_eq_true rfl) d_M_read_20 ⟨Nat.le_of_ble_eq_true rfl, Nat.le_of_ble_eq_true rfl⟩ (fun rf uf H locs ef hP hD hS => ?_)
      have hP : va_P D vwCl ((mo, .inr (6, [.int (nI 1), .int (nI M), .int (nI kd), .int (nI (ckb kd M)), .int (nI (nk kd)), .ref wi, .ref ck, .ref fq, .ref co, .int (nI (grsK kd M)), .int (nI ifo), .int (nI fl), .long (ma), .int (mk), .int (bi), .long (wo9), .int (ch9), .int (tu9), .ref sq, .ref uq, .ref gq])) :: (wi, .inl (g 0, 4, .inl (fw))) :: (ck, .inl (g 0, 4, .inl (fc))) :: (fq, .inl (g 0, 4, .inl (ff))) :: (co, .inl (g 0, 228, .inl (fco))) :: (sq, .inl (g 0, 8, .inl (fsq))) :: (uq, .inl (g 2, 128, .inl (fu))) :: (gq, .inl (g 0, 7, .inl (fg))) :: wm) H := hP
      have hD : va_D A ((mo, .inr (6, [.int (nI 1), .int (nI M), .int (nI kd), .int (nI (ckb kd M)), .int (nI (nk kd)), .ref wi, .ref ck, .ref fq, .ref co, .int (nI (grsK kd M)), .int (nI ifo), .int (nI fl), .long (ma), .int (mk), .int (bi), .long (wo9), .int (ch9), .int (tu9), .ref sq, .ref uq, .ref gq])) :: (wi, .inl (g 0, 4, .inl (fw))) :: (ck, .inl (g 0, 4, .inl (fc))) :: (fq, .inl (g 0, 4, .inl (ff))) :: (co, .inl (g 0, 228, .inl (fco))) :: (sq, .inl (g 0, 8, .inl (fsq))) :: (uq, .inl (g 2, 128, .inl (fu))) :: (gq, .inl (g 0, 7, .inl (fg))) :: wm) := hD
      obtain rfl : rf = nI 1 := ef
      refine lx_if_eq (tgt := 28) hx hb d_M_read_23 (by decide) (by omega) (fun c23 => ?_) (fun c23 => ?_)
      · skip
        exact absurd c23 (by decide)
      · skip
        refine lv_iconst (v := nI 0) hx hb d_M_read_26 (by decide) ?_
        rw [← hQ]
        refine W.iret (v := nI 0) hx hb hr ?_ hS.2.2 d_M_read_27
        exact fun t ht hW => ⟨⟨nI 0, (), rfl, rfl, by rw [ht]; exact hP, hD⟩, hS.F ht⟩
set_option maxHeartbeats 4000000 in
set_option maxRecDepth 100000 in
theorem c_M_flips (l : Launch) (D : va_G) (g : Nat → ClassId) (sz : Nat) (wm : va_W) (mo wi ck fq co sq uq gq kd M ifo fl : Nat) (th mk bi ch9 tu9 : Int32) (ma wo9 : Int64) (fw fc ff fco fsq fu fg : Nat → Int32) (hM0 : 0 < M) (hM : M ≤ 57) (a b : Nat) (ha9 : a < M + ckb kd M) (hb9 : b < M + ckb kd M) (hif : ifo ≤ 1) (hfl : fl < 2 ^ ckb kd M) (hkd : kd ≤ 3) (hmw : MWF kd M fw fc ff fco) : Met l y_M_flips w_M_flips rm_M_flips (va_Pc [.ref mo, .int (nI a), .int (nI b)] (pP D (tyl g) ((mo, .inr (6, [.int (th), .int (nI M), .int (nI kd), .int (nI (ckb kd M)), .int (nI (nk kd)), .ref wi, .ref ck, .ref fq, .ref co, .int (nI (grsK kd M)), .int (nI ifo), .int (nI fl), .long (ma), .int (mk), .int (bi), .long (wo9), .int (ch9), .int (tu9), .ref sq, .ref uq, .ref gq])) :: (wi, .inl (g 0, 4, .inl (fw))) :: (ck, .inl (g 0, 4, .inl (fc))) :: (fq, .inl (g 0, 4, .inl (ff))) :: (co, .inl (g 0, 228, .inl (fco))) :: (sq, .inl (g 0, 8, .inl (fsq))) :: (uq, .inl (g 2, 128, .inl (fu))) :: (gq, .inl (g 0, 7, .inl (fg))) :: wm) sz)) (va_Qi (fun (r : Int32) (u : (Int64 × Int32 × Int32)) => r = nI (pairA kd M a b)) (fun u => qB D (va_A ((mo, .inr (6, [.int (th), .int (nI M), .int (nI kd), .int (nI (ckb kd M)), .int (nI (nk kd)), .ref wi, .ref ck, .ref fq, .ref co, .int (nI (grsK kd M)), .int (nI ifo), .int (nI fl), .long (ma), .int (mk), .int (bi), .long (wo9), .int (ch9), .int (tu9), .ref sq, .ref uq, .ref gq])) :: (wi, .inl (g 0, 4, .inl (fw))) :: (ck, .inl (g 0, 4, .inl (fc))) :: (fq, .inl (g 0, 4, .inl (ff))) :: (co, .inl (g 0, 228, .inl (fco))) :: (sq, .inl (g 0, 8, .inl (fsq))) :: (uq, .inl (g 2, 128, .inl (fu))) :: (gq, .inl (g 0, 7, .inl (fg))) :: wm) sz) ((mo, .inr (6, [.int (nI 0), .int (nI M), .int (nI kd), .int (nI (ckb kd M)), .int (nI (nk kd)), .ref wi, .ref ck, .ref fq, .ref co, .int (nI (grsK kd M)), .int (nI ifo), .int (nI fl), .long (u.1), .int (u.2.1), .int (u.2.2), .long (wo9), .int (ch9), .int (tu9), .ref sq, .ref uq, .ref gq])) :: (wi, .inl (g 0, 4, .inl (fw))) :: (ck, .inl (g 0, 4, .inl (fc))) :: (fq, .inl (g 0, 4, .inl (ff))) :: (co, .inl (g 0, 228, .inl (fco))) :: (sq, .inl (g 0, 8, .inl (fsq))) :: (uq, .inl (g 2, 128, .inl (fu))) :: (gq, .inl (g 0, 7, .inl (fg))) :: wm)) (va_A ((mo, .inr (6, [.int (th), .int (nI M), .int (nI kd), .int (nI (ckb kd M)), .int (nI (nk kd)), .ref wi, .ref ck, .ref fq, .ref co, .int (nI (grsK kd M)), .int (nI ifo), .int (nI fl), .long (ma), .int (mk), .int (bi), .long (wo9), .int (ch9), .int (tu9), .ref sq, .ref uq, .ref gq])) :: (wi, .inl (g 0, 4, .inl (fw))) :: (ck, .inl (g 0, 4, .inl (fc))) :: (fq, .inl (g 0, 4, .inl (ff))) :: (co, .inl (g 0, 228, .inl (fco))) :: (sq, .inl (g 0, 8, .inl (fsq))) :: (uq, .inl (g 2, 128, .inl (fu))) :: (gq, .inl (g 0, 7, .inl (fg))) :: wm) sz)) 0 0 (va_A ((mo, .inr (6, [.int (th), .int (nI M), .int (nI kd), .int (nI (ckb kd M)), .int (nI (nk kd)), .ref wi, .ref ck, .ref fq, .ref co, .int (nI (grsK kd M)), .int (nI ifo), .int (nI fl), .long (ma), .int (mk), .int (bi), .long (wo9), .int (ch9), .int (tu9), .ref sq, .ref uq, .ref gq])) :: (wi, .inl (g 0, 4, .inl (fw))) :: (ck, .inl (g 0, 4, .inl (fc))) :: (fq, .inl (g 0, 4, .inl (ff))) :: (co, .inl (g 0, 228, .inl (fco))) :: (sq, .inl (g 0, 8, .inl (fsq))) :: (uq, .inl (g 2, 128, .inl (fu))) :: (gq, .inl (g 0, 7, .inl (fg))) :: wm) sz) := by
  refine Met.ofW (cc := b_M_flips) (maxL := 3) (ret := (some .int)) (by decide +kernel) rfl ?_
  intro p e s m args below meth c s₁ Bq hml hv
  have hx := Bq.exec
  have hb := Bq.bytes
  have hr := Bq.returns
  have hts : ∀ w ∈ wA, w.before args s = true := fun w h => atoms_spec (ws := w_M_flips) Bq.pre w (List.mem_cons_of_mem _ h)
  have hown : s.vm.findClass R_M = some m.cls := findClass_of_methodNamed Bq.named
  have hlocks := Bq.notSynchronized
  obtain ⟨rfl, hsz, hP, hKK, hD0⟩ := hv
  have hK := hKK.1
  subst hsz
  have hD := hD0.self (sz := s.heap.size)
  generalize hAe : va_A ((mo, .inr (6, [.int (th), .int (nI M), .int (nI kd), .int (nI (ckb kd M)), .int (nI (nk kd)), .ref wi, .ref ck, .ref fq, .ref co, .int (nI (grsK kd M)), .int (nI ifo), .int (nI fl), .long (ma), .int (mk), .int (bi), .long (wo9), .int (ch9), .int (tu9), .ref sq, .ref uq, .ref gq])) :: (wi, .inl (g 0, 4, .inl (fw))) :: (ck, .inl (g 0, 4, .inl (fc))) :: (fq, .inl (g 0, 4, .inl (ff))) :: (co, .inl (g 0, 228, .inl (fco))) :: (sq, .inl (g 0, 8, .inl (fsq))) :: (uq, .inl (g 2, 128, .inl (fu))) :: (gq, .inl (g 0, 7, .inl (fg))) :: wm) s.heap.size = A at hD ⊢
  have hA : ∀ q : Nat, s.heap.size ≤ q → A q := fun q h => by rw [← hAe]; exact Or.inr h
  have hS : va_S A s.heap s.heap [] := va_S.rf
  have hl := lv_entry ([.ref mo, .int (nI a), .int (nI b)]) (n := 3) (Nat.le_of_ble_eq_true rfl)
  rw [lg_entry_eq]
  generalize (lg_sl ([.ref mo, .int (nI a), .int (nI b)]) ++ List.replicate (3 - (lg_sl ([.ref mo, .int (nI a), .int (nI b)])).length) Slot.unset).toArray = ls at hl ⊢
  have hl : lv_has ls 3 [(0, .ref mo), (1, .int (nI a)), (2, .int (nI b))] := hl
  generalize hQ : MQ below (va_Qi (fun (r : Int32) (u : (Int64 × Int32 × Int32)) => r = nI (pairA kd M a b)) (fun u => qB D (A) ((mo, .inr (6, [.int (nI 0), .int (nI M), .int (nI kd), .int (nI (ckb kd M)), .int (nI (nk kd)), .ref wi, .ref ck, .ref fq, .ref co, .int (nI (grsK kd M)), .int (nI ifo), .int (nI fl), .long (u.1), .int (u.2.1), .int (u.2.2), .long (wo9), .int (ch9), .int (tu9), .ref sq, .ref uq, .ref gq])) :: (wi, .inl (g 0, 4, .inl (fw))) :: (ck, .inl (g 0, 4, .inl (fc))) :: (fq, .inl (g 0, 4, .inl (ff))) :: (co, .inl (g 0, 228, .inl (fco))) :: (sq, .inl (g 0, 8, .inl (fsq))) :: (uq, .inl (g 2, 128, .inl (fu))) :: (gq, .inl (g 0, 7, .inl (fg))) :: wm)) (A)) [.ref mo, .int (nI a), .int (nI b)].toArray s 0 0 A = Q
  have hck := ckb_le kd M
  refine lv_aload_n hx hb d_M_flips_0 rfl (lv_at hl 0 rfl) ?_
  refine lv_iload_n hx hb d_M_flips_1 rfl (lv_at hl 1 rfl) ?_
  refine lv_iconst (v := nI 0) hx hb d_M_flips_2 (by decide) ?_
  refine lv_aload_n hx hb d_M_flips_3 rfl (lv_at hl 0 rfl) ?_
  refine va_get (D := D) (ci := 6) (v := .int (nI M)) (C := R_M) (T := F_M) (N := 21) hx hb hts i_M hown hK hP 0 rfl rfl 1 (by decide) (hts _ m_604) (fun _ h9 => h9) rfl d_M_flips_4 ?_
  refine lv_aload_n hx hb d_M_flips_7 rfl (lv_at hl 0 rfl) ?_
  refine va_get (D := D) (ci := 6) (v := .int (nI (ckb kd M))) (C := R_M) (T := F_M) (N := 21) hx hb hts i_M hown hK hP 0 rfl rfl 3 (by decide) (hts _ m_606) (fun _ h9 => h9) rfl d_M_flips_8 ?_
  refine lx_iadd (z := nI (M + (ckb kd M))) hx hb d_M_flips_11 (nI_add M (ckb kd M)) ?_
  refine lv_iconst (v := nI 1) hx hb d_M_flips_12 (by decide) ?_
  refine lx_isub (z := nI (M + ckb kd M - 1)) hx hb d_M_flips_13 (pk_sub (by omega)) ?_
  refine lc_Si (As := [.int (nI a), .int (nI 0), .int (nI (M + ckb kd M - 1))]) (rest := [.ref mo]) ⟨hx, hb, hml, hown, hts⟩ (c_M_in l D g _ _ (nI a) (M + ckb kd M) (by omega) (by omega)) (kS 3 hts m_682 m_680 m_681 m_40 (by decide +kernel) ⟨Nat.le_of_ble_eq_true rfl, Nat.le_of_ble_eq_true rfl⟩) hKK hP hD hS hA hl.1 rfl rfl (Nat.le_of_ble_eq_true rfl) d_M_flips_14 ⟨Nat.le_of_ble_eq_true rfl, Nat.le_of_ble_eq_true rfl⟩ (fun r1 ur1 H locs er1 hP hD hS => ?_)
  obtain rfl : r1 = nI 1 := er1.trans (by rw [inBb_nI (by omega) ha9])
  refine lx_if_eq (tgt := 39) hx hb d_M_flips_17 (by decide) (by omega) (fun c17 => ?_) (fun c17 => ?_)
  · skip
    exact absurd c17 (by decide)
  · skip
    refine lv_iload_n hx hb d_M_flips_20 rfl (lv_at hl 2 rfl) ?_
    refine lv_iconst (v := nI 0) hx hb d_M_flips_21 (by decide) ?_
    refine lv_aload_n hx hb d_M_flips_22 rfl (lv_at hl 0 rfl) ?_
    refine va_get (D := D) (ci := 6) (v := .int (nI M)) (C := R_M) (T := F_M) (N := 21) hx hb hts i_M hown hK hP 0 rfl rfl 1 (by decide) (hts _ m_604) (fun _ h9 => h9) rfl d_M_flips_23 ?_
    refine lv_aload_n hx hb d_M_flips_26 rfl (lv_at hl 0 rfl) ?_
    refine va_get (D := D) (ci := 6) (v := .int (nI (ckb kd M))) (C := R_M) (T := F_M) (N := 21) hx hb hts i_M hown hK hP 0 rfl rfl 3 (by decide) (hts _ m_606) (fun _ h9 => h9) rfl d_M_flips_27 ?_
    refine lx_iadd (z := nI (M + (ckb kd M))) hx hb d_M_flips_30 (nI_add M (ckb kd M)) ?_
    refine lv_iconst (v := nI 1) hx hb d_M_flips_31 (by decide) ?_
    refine lx_isub (z := nI (M + ckb kd M - 1)) hx hb d_M_flips_32 (pk_sub (by omega)) ?_
    refine lc_Si (As := [.int (nI b), .int (nI 0), .int (nI (M + ckb kd M - 1))]) (rest := [.ref mo]) ⟨hx, hb, hml, hown, hts⟩ (c_M_in l D g _ _ (nI b) (M + ckb kd M) (by omega) (by omega)) (kS 3 hts m_682 m_680 m_681 m_40 (by decide +kernel) ⟨Nat.le_of_ble_eq_true rfl, Nat.le_of_ble_eq_true rfl⟩) hKK hP hD hS hA hl.1 rfl rfl (Nat.le_of_ble_eq_true rfl) d_M_flips_33 ⟨Nat.le_of_ble_eq_true rfl, Nat.le_of_ble_eq_true rfl⟩ (fun r2 ur2 H locs er2 hP hD hS => ?_)
    obtain rfl : r2 = nI 1 := er2.trans (by rw [inBb_nI (by omega) hb9])
    refine lx_if_ne (tgt := 43) hx hb d_M_flips_36 (by decide) (by omega) (fun c36 => ?_) (fun c36 => ?_)
    · skip
      refine lv_iconst (v := nI 0) hx hb d_M_flips_43 (by decide) ?_
      refine lv_iconst (v := nI 0) hx hb d_M_flips_44 (by decide) ?_
      refine lc_Vi (b := mo) (As := [.int (nI 0), .int (nI 0)]) (rest := []) ⟨hx, hb, hml, hown, hts⟩ (c_M_fails l D g _ wm mo wi ck fq co sq uq gq kd M ifo fl th mk bi ch9 tu9 ma wo9 fw fc ff fco fsq fu fg hM0 hM 0 0 (by decide) (by decide)) (kV 2 hts m_686 m_683 m_685 m_15 m_40 (by decide +kernel) ⟨Nat.le_of_ble_eq_true rfl, Nat.le_of_ble_eq_true rfl⟩) (va_recv hK hP (ci := 6) (q0 := 0) rfl rfl) hKK hP hD hS hA hl.1 rfl rfl (Nat.le_of_ble_eq_true rfl) d_M_flips_45 ⟨Nat.le_of_ble_eq_true rfl, Nat.le_of_ble_eq_true rfl⟩ (fun rf uf H locs ef hP hD hS => ?_)
      have hP : va_P D vwCl ((mo, .inr (6, [.int (nI 0), .int (nI M), .int (nI kd), .int (nI (ckb kd M)), .int (nI (nk kd)), .ref wi, .ref ck, .ref fq, .ref co, .int (nI (grsK kd M)), .int (nI ifo), .int (nI fl), .long (ma), .int (mk), .int (bi), .long (wo9), .int (ch9), .int (tu9), .ref sq, .ref uq, .ref gq])) :: (wi, .inl (g 0, 4, .inl (fw))) :: (ck, .inl (g 0, 4, .inl (fc))) :: (fq, .inl (g 0, 4, .inl (ff))) :: (co, .inl (g 0, 228, .inl (fco))) :: (sq, .inl (g 0, 8, .inl (fsq))) :: (uq, .inl (g 2, 128, .inl (fu))) :: (gq, .inl (g 0, 7, .inl (fg))) :: wm) H := hP
      have hD : va_D A ((mo, .inr (6, [.int (nI 0), .int (nI M), .int (nI kd), .int (nI (ckb kd M)), .int (nI (nk kd)), .ref wi, .ref ck, .ref fq, .ref co, .int (nI (grsK kd M)), .int (nI ifo), .int (nI fl), .long (ma), .int (mk), .int (bi), .long (wo9), .int (ch9), .int (tu9), .ref sq, .ref uq, .ref gq])) :: (wi, .inl (g 0, 4, .inl (fw))) :: (ck, .inl (g 0, 4, .inl (fc))) :: (fq, .inl (g 0, 4, .inl (ff))) :: (co, .inl (g 0, 228, .inl (fco))) :: (sq, .inl (g 0, 8, .inl (fsq))) :: (uq, .inl (g 2, 128, .inl (fu))) :: (gq, .inl (g 0, 7, .inl (fg))) :: wm) := hD
      obtain rfl : rf = nI 0 := ef
      refine lx_if_eq (tgt := 55) hx hb d_M_flips_48 (by decide) (by omega) (fun c48 => ?_) (fun c48 => ?_)
      · skip
        refine lv_aload_n hx hb d_M_flips_55 rfl (lv_at hl 0 rfl) ?_
        refine lv_iload_n hx hb d_M_flips_56 rfl (lv_at hl 1 rfl) ?_
        refine lv_iload_n hx hb d_M_flips_57 rfl (lv_at hl 2 rfl) ?_
        refine lc_Vi (b := mo) (As := [.int (nI a), .int (nI b)]) (rest := []) ⟨hx, hb, hml, hown, hts⟩ (c_M_answerOf l D g _ wm mo wi ck fq co sq uq gq kd M ifo fl (nI 0) mk bi ch9 tu9 ma wo9 fw fc ff fco fsq fu fg hM0 hM a b ha9 hb9 hif hfl hkd hmw) (kV 2 hts m_770 m_767 m_769 m_25 m_40 (by decide +kernel) ⟨Nat.le_of_ble_eq_true rfl, Nat.le_of_ble_eq_true rfl⟩) (va_recv hK hP (ci := 6) (q0 := 0) rfl rfl) hKK hP hD hS hA hl.1 rfl rfl (Nat.le_of_ble_eq_true rfl) d_M_flips_58 ⟨Nat.le_of_ble_eq_true rfl, Nat.le_of_ble_eq_true rfl⟩ (fun rr u H locs er hP hD hS => ?_)
        have hP : va_P D vwCl ((mo, .inr (6, [.int (nI 0), .int (nI M), .int (nI kd), .int (nI (ckb kd M)), .int (nI (nk kd)), .ref wi, .ref ck, .ref fq, .ref co, .int (nI (grsK kd M)), .int (nI ifo), .int (nI fl), .long (u.1), .int (u.2.1), .int (u.2.2), .long (wo9), .int (ch9), .int (tu9), .ref sq, .ref uq, .ref gq])) :: (wi, .inl (g 0, 4, .inl (fw))) :: (ck, .inl (g 0, 4, .inl (fc))) :: (fq, .inl (g 0, 4, .inl (ff))) :: (co, .inl (g 0, 228, .inl (fco))) :: (sq, .inl (g 0, 8, .inl (fsq))) :: (uq, .inl (g 2, 128, .inl (fu))) :: (gq, .inl (g 0, 7, .inl (fg))) :: wm) H := hP
        have hD : va_D A ((mo, .inr (6, [.int (nI 0), .int (nI M), .int (nI kd), .int (nI (ckb kd M)), .int (nI (nk kd)), .ref wi, .ref ck, .ref fq, .ref co, .int (nI (grsK kd M)), .int (nI ifo), .int (nI fl), .long (u.1), .int (u.2.1), .int (u.2.2), .long (wo9), .int (ch9), .int (tu9), .ref sq, .ref uq, .ref gq])) :: (wi, .inl (g 0, 4, .inl (fw))) :: (ck, .inl (g 0, 4, .inl (fc))) :: (fq, .inl (g 0, 4, .inl (ff))) :: (co, .inl (g 0, 228, .inl (fco))) :: (sq, .inl (g 0, 8, .inl (fsq))) :: (uq, .inl (g 2, 128, .inl (fu))) :: (gq, .inl (g 0, 7, .inl (fg))) :: wm) := hD
        rw [← hQ]
        refine W.iret (v := rr) hx hb hr ?_ hS.2.2 d_M_flips_61
        exact fun t ht hW => ⟨⟨rr, u, rfl, er, by rw [ht]; exact hP, hD⟩, hS.F ht⟩
      · skip
        exact absurd rfl c48
    · skip
      exact absurd c36 (by decide)
set_option maxHeartbeats 4000000 in
set_option maxRecDepth 100000 in
theorem t_M_flips (l : Launch) (D : va_G) (g : Nat → ClassId) (sz : Nat) (wm : va_W) (mo wi ck fq co sq uq gq kd M ifo fl : Nat) (th mk bi ch9 tu9 : Int32) (ma wo9 : Int64) (fw fc ff fco fsq fu fg : Nat → Int32) (hM0 : 0 < M) (hM : M ≤ 57) (v v2 : Int32) (hv9 : inBb (M + ckb kd M) v = 0 ∨ inBb (M + ckb kd M) v2 = 0) : Met l y_M_flips w_M_flips rm_M_flips (va_Pc [.ref mo, .int (v), .int (v2)] (pP D (tyl g) ((mo, .inr (6, [.int (th), .int (nI M), .int (nI kd), .int (nI (ckb kd M)), .int (nI (nk kd)), .ref wi, .ref ck, .ref fq, .ref co, .int (nI (grsK kd M)), .int (nI ifo), .int (nI fl), .long (ma), .int (mk), .int (bi), .long (wo9), .int (ch9), .int (tu9), .ref sq, .ref uq, .ref gq])) :: (wi, .inl (g 0, 4, .inl (fw))) :: (ck, .inl (g 0, 4, .inl (fc))) :: (fq, .inl (g 0, 4, .inl (ff))) :: (co, .inl (g 0, 228, .inl (fco))) :: (sq, .inl (g 0, 8, .inl (fsq))) :: (uq, .inl (g 2, 128, .inl (fu))) :: (gq, .inl (g 0, 7, .inl (fg))) :: wm) sz)) (va_Qi (fun (r : Int32) (u : Unit) => r = nI 0) (fun u => qB D (va_A ((mo, .inr (6, [.int (th), .int (nI M), .int (nI kd), .int (nI (ckb kd M)), .int (nI (nk kd)), .ref wi, .ref ck, .ref fq, .ref co, .int (nI (grsK kd M)), .int (nI ifo), .int (nI fl), .long (ma), .int (mk), .int (bi), .long (wo9), .int (ch9), .int (tu9), .ref sq, .ref uq, .ref gq])) :: (wi, .inl (g 0, 4, .inl (fw))) :: (ck, .inl (g 0, 4, .inl (fc))) :: (fq, .inl (g 0, 4, .inl (ff))) :: (co, .inl (g 0, 228, .inl (fco))) :: (sq, .inl (g 0, 8, .inl (fsq))) :: (uq, .inl (g 2, 128, .inl (fu))) :: (gq, .inl (g 0, 7, .inl (fg))) :: wm) sz) ((mo, .inr (6, [.int (nI 1), .int (nI M), .int (nI kd), .int (nI (ckb kd M)), .int (nI (nk kd)), .ref wi, .ref ck, .ref fq, .ref co, .int (nI (grsK kd M)), .int (nI ifo), .int (nI fl), .long (ma), .int (mk), .int (bi), .long (wo9), .int (ch9), .int (tu9), .ref sq, .ref uq, .ref gq])) :: (wi, .inl (g 0, 4, .inl (fw))) :: (ck, .inl (g 0, 4, .inl (fc))) :: (fq, .inl (g 0, 4, .inl (ff))) :: (co, .inl (g 0, 228, .inl (fco))) :: (sq, .inl (g 0, 8, .inl (fsq))) :: (uq, .inl (g 2, 128, .inl (fu))) :: (gq, .inl (g 0, 7, .inl (fg))) :: wm)) (va_A ((mo, .inr (6, [.int (th), .int (nI M), .int (nI kd), .int (nI (ckb kd M)), .int (nI (nk kd)), .ref wi, .ref ck, .ref fq, .ref co, .int (nI (grsK kd M)), .int (nI ifo), .int (nI fl), .long (ma), .int (mk), .int (bi), .long (wo9), .int (ch9), .int (tu9), .ref sq, .ref uq, .ref gq])) :: (wi, .inl (g 0, 4, .inl (fw))) :: (ck, .inl (g 0, 4, .inl (fc))) :: (fq, .inl (g 0, 4, .inl (ff))) :: (co, .inl (g 0, 228, .inl (fco))) :: (sq, .inl (g 0, 8, .inl (fsq))) :: (uq, .inl (g 2, 128, .inl (fu))) :: (gq, .inl (g 0, 7, .inl (fg))) :: wm) sz)) 0 0 (va_A ((mo, .inr (6, [.int (th), .int (nI M), .int (nI kd), .int (nI (ckb kd M)), .int (nI (nk kd)), .ref wi, .ref ck, .ref fq, .ref co, .int (nI (grsK kd M)), .int (nI ifo), .int (nI fl), .long (ma), .int (mk), .int (bi), .long (wo9), .int (ch9), .int (tu9), .ref sq, .ref uq, .ref gq])) :: (wi, .inl (g 0, 4, .inl (fw))) :: (ck, .inl (g 0, 4, .inl (fc))) :: (fq, .inl (g 0, 4, .inl (ff))) :: (co, .inl (g 0, 228, .inl (fco))) :: (sq, .inl (g 0, 8, .inl (fsq))) :: (uq, .inl (g 2, 128, .inl (fu))) :: (gq, .inl (g 0, 7, .inl (fg))) :: wm) sz) := by
  refine Met.ofW (cc := b_M_flips) (maxL := 3) (ret := (some .int)) (by decide +kernel) rfl ?_
  intro p e s m args below meth c s₁ Bq hml hv
  have hx := Bq.exec
  have hb := Bq.bytes
  have hr := Bq.returns
  have hts : ∀ w ∈ wA, w.before args s = true := fun w h => atoms_spec (ws := w_M_flips) Bq.pre w (List.mem_cons_of_mem _ h)
  have hown : s.vm.findClass R_M = some m.cls := findClass_of_methodNamed Bq.named
  have hlocks := Bq.notSynchronized
  obtain ⟨rfl, hsz, hP, hKK, hD0⟩ := hv
  have hK := hKK.1
  subst hsz
  have hD := hD0.self (sz := s.heap.size)
  generalize hAe : va_A ((mo, .inr (6, [.int (th), .int (nI M), .int (nI kd), .int (nI (ckb kd M)), .int (nI (nk kd)), .ref wi, .ref ck, .ref fq, .ref co, .int (nI (grsK kd M)), .int (nI ifo), .int (nI fl), .long (ma), .int (mk), .int (bi), .long (wo9), .int (ch9), .int (tu9), .ref sq, .ref uq, .ref gq])) :: (wi, .inl (g 0, 4, .inl (fw))) :: (ck, .inl (g 0, 4, .inl (fc))) :: (fq, .inl (g 0, 4, .inl (ff))) :: (co, .inl (g 0, 228, .inl (fco))) :: (sq, .inl (g 0, 8, .inl (fsq))) :: (uq, .inl (g 2, 128, .inl (fu))) :: (gq, .inl (g 0, 7, .inl (fg))) :: wm) s.heap.size = A at hD ⊢
  have hA : ∀ q : Nat, s.heap.size ≤ q → A q := fun q h => by rw [← hAe]; exact Or.inr h
  have hS : va_S A s.heap s.heap [] := va_S.rf
  have hl := lv_entry ([.ref mo, .int (v), .int (v2)]) (n := 3) (Nat.le_of_ble_eq_true rfl)
  rw [lg_entry_eq]
  generalize (lg_sl ([.ref mo, .int (v), .int (v2)]) ++ List.replicate (3 - (lg_sl ([.ref mo, .int (v), .int (v2)])).length) Slot.unset).toArray = ls at hl ⊢
  have hl : lv_has ls 3 [(0, .ref mo), (1, .int (v)), (2, .int (v2))] := hl
  generalize hQ : MQ below (va_Qi (fun (r : Int32) (u : Unit) => r = nI 0) (fun u => qB D (A) ((mo, .inr (6, [.int (nI 1), .int (nI M), .int (nI kd), .int (nI (ckb kd M)), .int (nI (nk kd)), .ref wi, .ref ck, .ref fq, .ref co, .int (nI (grsK kd M)), .int (nI ifo), .int (nI fl), .long (ma), .int (mk), .int (bi), .long (wo9), .int (ch9), .int (tu9), .ref sq, .ref uq, .ref gq])) :: (wi, .inl (g 0, 4, .inl (fw))) :: (ck, .inl (g 0, 4, .inl (fc))) :: (fq, .inl (g 0, 4, .inl (ff))) :: (co, .inl (g 0, 228, .inl (fco))) :: (sq, .inl (g 0, 8, .inl (fsq))) :: (uq, .inl (g 2, 128, .inl (fu))) :: (gq, .inl (g 0, 7, .inl (fg))) :: wm)) (A)) [.ref mo, .int (v), .int (v2)].toArray s 0 0 A = Q
  have hck := ckb_le kd M
  have hi1 := inBb_le (M + ckb kd M) v
  have hi2 := inBb_le (M + ckb kd M) v2
  refine lv_aload_n hx hb d_M_flips_0 rfl (lv_at hl 0 rfl) ?_
  refine lv_iload_n hx hb d_M_flips_1 rfl (lv_at hl 1 rfl) ?_
  refine lv_iconst (v := nI 0) hx hb d_M_flips_2 (by decide) ?_
  refine lv_aload_n hx hb d_M_flips_3 rfl (lv_at hl 0 rfl) ?_
  refine va_get (D := D) (ci := 6) (v := .int (nI M)) (C := R_M) (T := F_M) (N := 21) hx hb hts i_M hown hK hP 0 rfl rfl 1 (by decide) (hts _ m_604) (fun _ h9 => h9) rfl d_M_flips_4 ?_
  refine lv_aload_n hx hb d_M_flips_7 rfl (lv_at hl 0 rfl) ?_
  refine va_get (D := D) (ci := 6) (v := .int (nI (ckb kd M))) (C := R_M) (T := F_M) (N := 21) hx hb hts i_M hown hK hP 0 rfl rfl 3 (by decide) (hts _ m_606) (fun _ h9 => h9) rfl d_M_flips_8 ?_
  refine lx_iadd (z := nI (M + (ckb kd M))) hx hb d_M_flips_11 (nI_add M (ckb kd M)) ?_
  refine lv_iconst (v := nI 1) hx hb d_M_flips_12 (by decide) ?_
  refine lx_isub (z := nI (M + ckb kd M - 1)) hx hb d_M_flips_13 (pk_sub (by omega)) ?_
  refine lc_Si (As := [.int (v), .int (nI 0), .int (nI (M + ckb kd M - 1))]) (rest := [.ref mo]) ⟨hx, hb, hml, hown, hts⟩ (c_M_in l D g _ _ v (M + ckb kd M) (by omega) (by omega)) (kS 3 hts m_682 m_680 m_681 m_40 (by decide +kernel) ⟨Nat.le_of_ble_eq_true rfl, Nat.le_of_ble_eq_true rfl⟩) hKK hP hD hS hA hl.1 rfl rfl (Nat.le_of_ble_eq_true rfl) d_M_flips_14 ⟨Nat.le_of_ble_eq_true rfl, Nat.le_of_ble_eq_true rfl⟩ (fun r1 ur1 H locs er1 hP hD hS => ?_)
  obtain rfl : r1 = nI (inBb (M + ckb kd M) v) := er1
  refine lx_if_eq (tgt := 39) hx hb d_M_flips_17 (by decide) (by omega) (fun c17 => ?_) (fun c17 => ?_)
  · skip
    refine lv_iconst (v := nI 1) hx hb d_M_flips_39 (by decide) ?_
    refine lv_goto (tgt := 44) hx hb d_M_flips_40 (by decide) ?_
    refine lv_iconst (v := nI 0) hx hb d_M_flips_44 (by decide) ?_
    refine lc_Vi (b := mo) (As := [.int (nI 1), .int (nI 0)]) (rest := []) ⟨hx, hb, hml, hown, hts⟩ (c_M_fails l D g _ wm mo wi ck fq co sq uq gq kd M ifo fl th mk bi ch9 tu9 ma wo9 fw fc ff fco fsq fu fg hM0 hM 1 0 (by decide) (by decide)) (kV 2 hts m_686 m_683 m_685 m_15 m_40 (by decide +kernel) ⟨Nat.le_of_ble_eq_true rfl, Nat.le_of_ble_eq_true rfl⟩) (va_recv hK hP (ci := 6) (q0 := 0) rfl rfl) hKK hP hD hS hA hl.1 rfl rfl (Nat.le_of_ble_eq_true rfl) d_M_flips_45 ⟨Nat.le_of_ble_eq_true rfl, Nat.le_of_ble_eq_true rfl⟩ (fun rf uf H locs ef hP hD hS => ?_)
    have hP : va_P D vwCl ((mo, .inr (6, [.int (nI 1), .int (nI M), .int (nI kd), .int (nI (ckb kd M)), .int (nI (nk kd)), .ref wi, .ref ck, .ref fq, .ref co, .int (nI (grsK kd M)), .int (nI ifo), .int (nI fl), .long (ma), .int (mk), .int (bi), .long (wo9), .int (ch9), .int (tu9), .ref sq, .ref uq, .ref gq])) :: (wi, .inl (g 0, 4, .inl (fw))) :: (ck, .inl (g 0, 4, .inl (fc))) :: (fq, .inl (g 0, 4, .inl (ff))) :: (co, .inl (g 0, 228, .inl (fco))) :: (sq, .inl (g 0, 8, .inl (fsq))) :: (uq, .inl (g 2, 128, .inl (fu))) :: (gq, .inl (g 0, 7, .inl (fg))) :: wm) H := hP
    have hD : va_D A ((mo, .inr (6, [.int (nI 1), .int (nI M), .int (nI kd), .int (nI (ckb kd M)), .int (nI (nk kd)), .ref wi, .ref ck, .ref fq, .ref co, .int (nI (grsK kd M)), .int (nI ifo), .int (nI fl), .long (ma), .int (mk), .int (bi), .long (wo9), .int (ch9), .int (tu9), .ref sq, .ref uq, .ref gq])) :: (wi, .inl (g 0, 4, .inl (fw))) :: (ck, .inl (g 0, 4, .inl (fc))) :: (fq, .inl (g 0, 4, .inl (ff))) :: (co, .inl (g 0, 228, .inl (fco))) :: (sq, .inl (g 0, 8, .inl (fsq))) :: (uq, .inl (g 2, 128, .inl (fu))) :: (gq, .inl (g 0, 7, .inl (fg))) :: wm) := hD
    obtain rfl : rf = nI 1 := ef
    refine lx_if_eq (tgt := 55) hx hb d_M_flips_48 (by decide) (by omega) (fun c48 => ?_) (fun c48 => ?_)
    · skip
      exact absurd c48 (by decide)
    · skip
      refine lv_iconst (v := nI 0) hx hb d_M_flips_51 (by decide) ?_
      refine lv_goto (tgt := 61) hx hb d_M_flips_52 (by decide) ?_
      rw [← hQ]
      refine W.iret (v := nI 0) hx hb hr ?_ hS.2.2 d_M_flips_61
      exact fun t ht hW => ⟨⟨nI 0, (), rfl, rfl, by rw [ht]; exact hP, hD⟩, hS.F ht⟩
  · skip
    refine lv_iload_n hx hb d_M_flips_20 rfl (lv_at hl 2 rfl) ?_
    refine lv_iconst (v := nI 0) hx hb d_M_flips_21 (by decide) ?_
    refine lv_aload_n hx hb d_M_flips_22 rfl (lv_at hl 0 rfl) ?_
    refine va_get (D := D) (ci := 6) (v := .int (nI M)) (C := R_M) (T := F_M) (N := 21) hx hb hts i_M hown hK hP 0 rfl rfl 1 (by decide) (hts _ m_604) (fun _ h9 => h9) rfl d_M_flips_23 ?_
    refine lv_aload_n hx hb d_M_flips_26 rfl (lv_at hl 0 rfl) ?_
    refine va_get (D := D) (ci := 6) (v := .int (nI (ckb kd M))) (C := R_M) (T := F_M) (N := 21) hx hb hts i_M hown hK hP 0 rfl rfl 3 (by decide) (hts _ m_606) (fun _ h9 => h9) rfl d_M_flips_27 ?_
    refine lx_iadd (z := nI (M + (ckb kd M))) hx hb d_M_flips_30 (nI_add M (ckb kd M)) ?_
    refine lv_iconst (v := nI 1) hx hb d_M_flips_31 (by decide) ?_
    refine lx_isub (z := nI (M + ckb kd M - 1)) hx hb d_M_flips_32 (pk_sub (by omega)) ?_
    refine lc_Si (As := [.int (v2), .int (nI 0), .int (nI (M + ckb kd M - 1))]) (rest := [.ref mo]) ⟨hx, hb, hml, hown, hts⟩ (c_M_in l D g _ _ v2 (M + ckb kd M) (by omega) (by omega)) (kS 3 hts m_682 m_680 m_681 m_40 (by decide +kernel) ⟨Nat.le_of_ble_eq_true rfl, Nat.le_of_ble_eq_true rfl⟩) hKK hP hD hS hA hl.1 rfl rfl (Nat.le_of_ble_eq_true rfl) d_M_flips_33 ⟨Nat.le_of_ble_eq_true rfl, Nat.le_of_ble_eq_true rfl⟩ (fun r2 ur2 H locs er2 hP hD hS => ?_)
    obtain rfl : r2 = nI (inBb (M + ckb kd M) v2) := er2
    refine lx_if_ne (tgt := 43) hx hb d_M_flips_36 (by decide) (by omega) (fun c36 => ?_) (fun c36 => ?_)
    · skip
      exact absurd hv9 (by omega)
    · skip
      refine lv_iconst (v := nI 1) hx hb d_M_flips_39 (by decide) ?_
      refine lv_goto (tgt := 44) hx hb d_M_flips_40 (by decide) ?_
      refine lv_iconst (v := nI 0) hx hb d_M_flips_44 (by decide) ?_
      refine lc_Vi (b := mo) (As := [.int (nI 1), .int (nI 0)]) (rest := []) ⟨hx, hb, hml, hown, hts⟩ (c_M_fails l D g _ wm mo wi ck fq co sq uq gq kd M ifo fl th mk bi ch9 tu9 ma wo9 fw fc ff fco fsq fu fg hM0 hM 1 0 (by decide) (by decide)) (kV 2 hts m_686 m_683 m_685 m_15 m_40 (by decide +kernel) ⟨Nat.le_of_ble_eq_true rfl, Nat.le_of_ble_eq_true rfl⟩) (va_recv hK hP (ci := 6) (q0 := 0) rfl rfl) hKK hP hD hS hA hl.1 rfl rfl (Nat.le_of_ble_eq_true rfl) d_M_flips_45 ⟨Nat.le_of_ble_eq_true rfl, Nat.le_of_ble_eq_true rfl⟩ (fun rf uf H locs ef hP hD hS => ?_)
      have hP : va_P D vwCl ((mo, .inr (6, [.int (nI 1), .int (nI M), .int (nI kd), .int (nI (ckb kd M)), .int (nI (nk kd)), .ref wi, .ref ck, .ref fq, .ref co, .int (nI (grsK kd M)), .int (nI ifo), .int (nI fl), .long (ma), .int (mk), .int (bi), .long (wo9), .int (ch9), .int (tu9), .ref sq, .ref uq, .ref gq])) :: (wi, .inl (g 0, 4, .inl (fw))) :: (ck, .inl (g 0, 4, .inl (fc))) :: (fq, .inl (g 0, 4, .inl (ff))) :: (co, .inl (g 0, 228, .inl (fco))) :: (sq, .inl (g 0, 8, .inl (fsq))) :: (uq, .inl (g 2, 128, .inl (fu))) :: (gq, .inl (g 0, 7, .inl (fg))) :: wm) H := hP
      have hD : va_D A ((mo, .inr (6, [.int (nI 1), .int (nI M), .int (nI kd), .int (nI (ckb kd M)), .int (nI (nk kd)), .ref wi, .ref ck, .ref fq, .ref co, .int (nI (grsK kd M)), .int (nI ifo), .int (nI fl), .long (ma), .int (mk), .int (bi), .long (wo9), .int (ch9), .int (tu9), .ref sq, .ref uq, .ref gq])) :: (wi, .inl (g 0, 4, .inl (fw))) :: (ck, .inl (g 0, 4, .inl (fc))) :: (fq, .inl (g 0, 4, .inl (ff))) :: (co, .inl (g 0, 228, .inl (fco))) :: (sq, .inl (g 0, 8, .inl (fsq))) :: (uq, .inl (g 2, 128, .inl (fu))) :: (gq, .inl (g 0, 7, .inl (fg))) :: wm) := hD
      obtain rfl : rf = nI 1 := ef
      refine lx_if_eq (tgt := 55) hx hb d_M_flips_48 (by decide) (by omega) (fun c48 => ?_) (fun c48 => ?_)
      · skip
        exact absurd c48 (by decide)
      · skip
        refine lv_iconst (v := nI 0) hx hb d_M_flips_51 (by decide) ?_
        refine lv_goto (tgt := 61) hx hb d_M_flips_52 (by decide) ?_
        rw [← hQ]
        refine W.iret (v := nI 0) hx hb hr ?_ hS.2.2 d_M_flips_61
        exact fun t ht hW => ⟨⟨nI 0, (), rfl, rfl, by rw [ht]; exact hP, hD⟩, hS.F ht⟩
set_option maxHeartbeats 4000000 in
set_option maxRecDepth 100000 in
theorem c_M_address (l : Launch) (D : va_G) (g : Nat → ClassId) (sz : Nat) (wm : va_W) (mo wi ck fq co sq uq gq kd M ifo fl : Nat) (th mk bi ch9 tu9 : Int32) (ma wo9 : Int64) (fw fc ff fco fsq fu fg : Nat → Int32) (hM0 : 0 < M) (hM : M ≤ 57) (a : Nat) (ha9 : a < 2 ^ 32) (hif : ifo ≤ 1) (hk1 : kd ≠ 1) (hk2 : kd ≠ 2) (hkd : kd ≤ 3) : Met l y_M_address w_M_address rm_M_address (va_Pc [.ref mo, .int (nI a)] (pP D (tyl g) ((mo, .inr (6, [.int (th), .int (nI M), .int (nI kd), .int (nI (ckb kd M)), .int (nI (nk kd)), .ref wi, .ref ck, .ref fq, .ref co, .int (nI (grsK kd M)), .int (nI ifo), .int (nI fl), .long (ma), .int (mk), .int (bi), .long (wo9), .int (ch9), .int (tu9), .ref sq, .ref uq, .ref gq])) :: (wi, .inl (g 0, 4, .inl (fw))) :: (ck, .inl (g 0, 4, .inl (fc))) :: (fq, .inl (g 0, 4, .inl (ff))) :: (co, .inl (g 0, 228, .inl (fco))) :: (sq, .inl (g 0, 8, .inl (fsq))) :: (uq, .inl (g 2, 128, .inl (fu))) :: (gq, .inl (g 0, 7, .inl (fg))) :: wm) sz)) (va_Qi (fun (r : Int32) (u : Unit) => r = nI ifo) (fun u => qB D (va_A ((mo, .inr (6, [.int (th), .int (nI M), .int (nI kd), .int (nI (ckb kd M)), .int (nI (nk kd)), .ref wi, .ref ck, .ref fq, .ref co, .int (nI (grsK kd M)), .int (nI ifo), .int (nI fl), .long (ma), .int (mk), .int (bi), .long (wo9), .int (ch9), .int (tu9), .ref sq, .ref uq, .ref gq])) :: (wi, .inl (g 0, 4, .inl (fw))) :: (ck, .inl (g 0, 4, .inl (fc))) :: (fq, .inl (g 0, 4, .inl (ff))) :: (co, .inl (g 0, 228, .inl (fco))) :: (sq, .inl (g 0, 8, .inl (fsq))) :: (uq, .inl (g 2, 128, .inl (fu))) :: (gq, .inl (g 0, 7, .inl (fg))) :: wm) sz) ((mo, .inr (6, [.int (nI 0), .int (nI M), .int (nI kd), .int (nI (ckb kd M)), .int (nI (nk kd)), .ref wi, .ref ck, .ref fq, .ref co, .int (nI (grsK kd M)), .int (nI 1), .int (nI (fold a % 2 ^ ckb kd M)), .long (ma), .int (mk), .int (bi), .long (wo9), .int (ch9), .int (tu9), .ref sq, .ref uq, .ref gq])) :: (wi, .inl (g 0, 4, .inl (fw))) :: (ck, .inl (g 0, 4, .inl (fc))) :: (fq, .inl (g 0, 4, .inl (ff))) :: (co, .inl (g 0, 228, .inl (fco))) :: (sq, .inl (g 0, 8, .inl (fsq))) :: (uq, .inl (g 2, 128, .inl (fu))) :: (gq, .inl (g 0, 7, .inl (fg))) :: wm)) (va_A ((mo, .inr (6, [.int (th), .int (nI M), .int (nI kd), .int (nI (ckb kd M)), .int (nI (nk kd)), .ref wi, .ref ck, .ref fq, .ref co, .int (nI (grsK kd M)), .int (nI ifo), .int (nI fl), .long (ma), .int (mk), .int (bi), .long (wo9), .int (ch9), .int (tu9), .ref sq, .ref uq, .ref gq])) :: (wi, .inl (g 0, 4, .inl (fw))) :: (ck, .inl (g 0, 4, .inl (fc))) :: (fq, .inl (g 0, 4, .inl (ff))) :: (co, .inl (g 0, 228, .inl (fco))) :: (sq, .inl (g 0, 8, .inl (fsq))) :: (uq, .inl (g 2, 128, .inl (fu))) :: (gq, .inl (g 0, 7, .inl (fg))) :: wm) sz)) 0 0 (va_A ((mo, .inr (6, [.int (th), .int (nI M), .int (nI kd), .int (nI (ckb kd M)), .int (nI (nk kd)), .ref wi, .ref ck, .ref fq, .ref co, .int (nI (grsK kd M)), .int (nI ifo), .int (nI fl), .long (ma), .int (mk), .int (bi), .long (wo9), .int (ch9), .int (tu9), .ref sq, .ref uq, .ref gq])) :: (wi, .inl (g 0, 4, .inl (fw))) :: (ck, .inl (g 0, 4, .inl (fc))) :: (fq, .inl (g 0, 4, .inl (ff))) :: (co, .inl (g 0, 228, .inl (fco))) :: (sq, .inl (g 0, 8, .inl (fsq))) :: (uq, .inl (g 2, 128, .inl (fu))) :: (gq, .inl (g 0, 7, .inl (fg))) :: wm) sz) := by
  refine Met.ofW (cc := b_M_address) (maxL := 5) (ret := (some .boolean)) (by decide +kernel) rfl ?_
  intro p e s m args below meth c s₁ Bq hml hv
  have hx := Bq.exec
  have hb := Bq.bytes
  have hr := Bq.returns
  have hts : ∀ w ∈ wA, w.before args s = true := fun w h => atoms_spec (ws := w_M_address) Bq.pre w (List.mem_cons_of_mem _ h)
  have hown : s.vm.findClass R_M = some m.cls := findClass_of_methodNamed Bq.named
  have hlocks := Bq.notSynchronized
  obtain ⟨rfl, hsz, hP, hKK, hD0⟩ := hv
  have hK := hKK.1
  subst hsz
  have hD := hD0.self (sz := s.heap.size)
  generalize hAe : va_A ((mo, .inr (6, [.int (th), .int (nI M), .int (nI kd), .int (nI (ckb kd M)), .int (nI (nk kd)), .ref wi, .ref ck, .ref fq, .ref co, .int (nI (grsK kd M)), .int (nI ifo), .int (nI fl), .long (ma), .int (mk), .int (bi), .long (wo9), .int (ch9), .int (tu9), .ref sq, .ref uq, .ref gq])) :: (wi, .inl (g 0, 4, .inl (fw))) :: (ck, .inl (g 0, 4, .inl (fc))) :: (fq, .inl (g 0, 4, .inl (ff))) :: (co, .inl (g 0, 228, .inl (fco))) :: (sq, .inl (g 0, 8, .inl (fsq))) :: (uq, .inl (g 2, 128, .inl (fu))) :: (gq, .inl (g 0, 7, .inl (fg))) :: wm) s.heap.size = A at hD ⊢
  have hA : ∀ q : Nat, s.heap.size ≤ q → A q := fun q h => by rw [← hAe]; exact Or.inr h
  have hS : va_S A s.heap s.heap [] := va_S.rf
  have hl := lv_entry ([.ref mo, .int (nI a)]) (n := 5) (Nat.le_of_ble_eq_true rfl)
  rw [lg_entry_eq]
  generalize (lg_sl ([.ref mo, .int (nI a)]) ++ List.replicate (5 - (lg_sl ([.ref mo, .int (nI a)])).length) Slot.unset).toArray = ls at hl ⊢
  have hl : lv_has ls 5 [(0, .ref mo), (1, .int (nI a))] := hl
  generalize hQ : MQ below (va_Qi (fun (r : Int32) (u : Unit) => r = nI ifo) (fun u => qB D (A) ((mo, .inr (6, [.int (nI 0), .int (nI M), .int (nI kd), .int (nI (ckb kd M)), .int (nI (nk kd)), .ref wi, .ref ck, .ref fq, .ref co, .int (nI (grsK kd M)), .int (nI 1), .int (nI (fold a % 2 ^ ckb kd M)), .long (ma), .int (mk), .int (bi), .long (wo9), .int (ch9), .int (tu9), .ref sq, .ref uq, .ref gq])) :: (wi, .inl (g 0, 4, .inl (fw))) :: (ck, .inl (g 0, 4, .inl (fc))) :: (fq, .inl (g 0, 4, .inl (ff))) :: (co, .inl (g 0, 228, .inl (fco))) :: (sq, .inl (g 0, 8, .inl (fsq))) :: (uq, .inl (g 2, 128, .inl (fu))) :: (gq, .inl (g 0, 7, .inl (fg))) :: wm)) (A)) [.ref mo, .int (nI a)].toArray s 0 0 A = Q
  have hck := ckb_le kd M
  have hh : (a >>> 16 ^^^ a) % 65536 < 65536 := Nat.mod_lt _ (by decide)
  refine lv_aload_n hx hb d_M_address_0 rfl (lv_at hl 0 rfl) ?_
  refine lv_aload_n hx hb d_M_address_1 rfl (lv_at hl 0 rfl) ?_
  refine va_get (D := D) (ci := 6) (v := .int (nI kd)) (C := R_M) (T := F_M) (N := 21) hx hb hts i_M hown hK hP 0 rfl rfl 2 (by decide) (hts _ m_605) (fun _ h9 => h9) rfl d_M_address_2 ?_
  refine lv_iconst (v := nI 1) hx hb d_M_address_5 (by decide) ?_
  refine lx_icmp_eq (tgt := 17) hx hb d_M_address_6 (by decide) (by omega) (by omega) (fun c6 => ?_) (fun c6 => ?_)
  · skip
    exact absurd c6 hk1
  · skip
    refine lv_aload_n hx hb d_M_address_9 rfl (lv_at hl 0 rfl) ?_
    refine va_get (D := D) (ci := 6) (v := .int (nI kd)) (C := R_M) (T := F_M) (N := 21) hx hb hts i_M hown hK hP 0 rfl rfl 2 (by decide) (hts _ m_605) (fun _ h9 => h9) rfl d_M_address_10 ?_
    refine lv_iconst (v := nI 2) hx hb d_M_address_13 (by decide) ?_
    refine lx_icmp_ne (tgt := 21) hx hb d_M_address_14 (by decide) (by omega) (by omega) (fun c14 => ?_) (fun c14 => ?_)
    · skip
      refine lv_iconst (v := nI 0) hx hb d_M_address_21 (by decide) ?_
      refine lv_iconst (v := nI 0) hx hb d_M_address_22 (by decide) ?_
      refine lc_Vi (b := mo) (As := [.int (nI 0), .int (nI 0)]) (rest := []) ⟨hx, hb, hml, hown, hts⟩ (c_M_fails l D g _ wm mo wi ck fq co sq uq gq kd M ifo fl th mk bi ch9 tu9 ma wo9 fw fc ff fco fsq fu fg hM0 hM 0 0 (by decide) (by decide)) (kV 2 hts m_686 m_683 m_685 m_15 m_40 (by decide +kernel) ⟨Nat.le_of_ble_eq_true rfl, Nat.le_of_ble_eq_true rfl⟩) (va_recv hK hP (ci := 6) (q0 := 0) rfl rfl) hKK hP hD hS hA hl.1 rfl rfl (Nat.le_of_ble_eq_true rfl) d_M_address_23 ⟨Nat.le_of_ble_eq_true rfl, Nat.le_of_ble_eq_true rfl⟩ (fun rf uf H locs ef hP hD hS => ?_)
      have hP : va_P D vwCl ((mo, .inr (6, [.int (nI 0), .int (nI M), .int (nI kd), .int (nI (ckb kd M)), .int (nI (nk kd)), .ref wi, .ref ck, .ref fq, .ref co, .int (nI (grsK kd M)), .int (nI ifo), .int (nI fl), .long (ma), .int (mk), .int (bi), .long (wo9), .int (ch9), .int (tu9), .ref sq, .ref uq, .ref gq])) :: (wi, .inl (g 0, 4, .inl (fw))) :: (ck, .inl (g 0, 4, .inl (fc))) :: (fq, .inl (g 0, 4, .inl (ff))) :: (co, .inl (g 0, 228, .inl (fco))) :: (sq, .inl (g 0, 8, .inl (fsq))) :: (uq, .inl (g 2, 128, .inl (fu))) :: (gq, .inl (g 0, 7, .inl (fg))) :: wm) H := hP
      have hD : va_D A ((mo, .inr (6, [.int (nI 0), .int (nI M), .int (nI kd), .int (nI (ckb kd M)), .int (nI (nk kd)), .ref wi, .ref ck, .ref fq, .ref co, .int (nI (grsK kd M)), .int (nI ifo), .int (nI fl), .long (ma), .int (mk), .int (bi), .long (wo9), .int (ch9), .int (tu9), .ref sq, .ref uq, .ref gq])) :: (wi, .inl (g 0, 4, .inl (fw))) :: (ck, .inl (g 0, 4, .inl (fc))) :: (fq, .inl (g 0, 4, .inl (ff))) :: (co, .inl (g 0, 228, .inl (fco))) :: (sq, .inl (g 0, 8, .inl (fsq))) :: (uq, .inl (g 2, 128, .inl (fu))) :: (gq, .inl (g 0, 7, .inl (fg))) :: wm) := hD
      obtain rfl : rf = nI 0 := ef
      refine lx_if_eq (tgt := 31) hx hb d_M_address_26 (by decide) (by omega) (fun c26 => ?_) (fun c26 => ?_)
      · skip
        refine lv_iload_n hx hb d_M_address_31 rfl (lv_at hl 1 rfl) ?_
        refine lv_iload_n hx hb d_M_address_32 rfl (lv_at hl 1 rfl) ?_
        refine lv_bipush (v := nI 16) hx hb d_M_address_33 (by decide) ?_
        refine lv_iushr (v := nI (a >>> 16)) hx hb d_M_address_35 (xn_ushr ha9 (by decide)) ?_
        refine lx_ixor (z := nI (a >>> 16 ^^^ a)) hx hb d_M_address_36 ((xn_xor _ _).trans (by rw [Nat.xor_comm])) ?_
        refine lv_ldc (v := 65535) hx hb hown (hts _ m_691) d_M_address_37 ?_
        refine lv_topi (fun y1 ey1 => ?_)
        obtain rfl : y1 = nI 65535 := ey1.trans (by decide)
        refine lx_iand (z := nI ((a >>> 16 ^^^ a) % 65536)) hx hb d_M_address_39 ((xn_and _ _).trans (by rw [show 65535 = 2 ^ 16 - 1 from rfl, Nat.and_two_pow_sub_one_eq_mod])) ?_
        refine lv_istore_n (lv' := [(2, .int (nI ((a >>> 16 ^^^ a) % 65536))), (0, .ref mo), (1, .int (nI a))]) hx hb d_M_address_40 rfl hl (by decide) rfl (fun ls hl => ?_)
        refine lv_iload_n hx hb d_M_address_41 rfl (lv_at hl 0 rfl) ?_
        refine lv_iconst (v := nI 3) hx hb d_M_address_42 (by decide) ?_
        refine lx_ishl (z := nI (((a >>> 16 ^^^ a) % 65536) <<< 3)) hx hb d_M_address_43 (xn_shl _ (by decide)) ?_
        refine lv_iload_n hx hb d_M_address_44 rfl (lv_at hl 0 rfl) ?_
        refine lv_bipush (v := nI 13) hx hb d_M_address_45 (by decide) ?_
        refine lx_ishr (z := nI (((a >>> 16 ^^^ a) % 65536) >>> 13)) hx hb d_M_address_47 (xn_sshr (by omega) (by decide)) ?_
        refine lx_ior (z := nI ((((a >>> 16 ^^^ a) % 65536) <<< 3) ||| (((a >>> 16 ^^^ a) % 65536) >>> 13))) hx hb d_M_address_48 (xn_or (((a >>> 16 ^^^ a) % 65536) <<< 3) (((a >>> 16 ^^^ a) % 65536) >>> 13)) ?_
        refine lv_ldc (v := 65535) hx hb hown (hts _ m_691) d_M_address_49 ?_
        refine lv_topi (fun y2 ey2 => ?_)
        obtain rfl : y2 = nI 65535 := ey2.trans (by decide)
        refine lx_iand (z := nI (fold a)) hx hb d_M_address_51 ((xn_and _ _).trans (by rw [show 65535 = 2 ^ 16 - 1 from rfl, Nat.and_two_pow_sub_one_eq_mod]; rfl)) ?_
        refine lv_istore_n (lv' := [(3, .int (nI (fold a))), (2, .int (nI ((a >>> 16 ^^^ a) % 65536))), (0, .ref mo), (1, .int (nI a))]) hx hb d_M_address_52 rfl hl (by decide) rfl (fun ls hl => ?_)
        refine lv_aload_n hx hb d_M_address_53 rfl (lv_at hl 2 rfl) ?_
        refine va_get (D := D) (ci := 6) (v := .int (nI ifo)) (C := R_M) (T := F_M) (N := 21) hx hb hts i_M hown hK hP 0 rfl rfl 10 (by decide) (hts _ m_613) (fun _ h9 => h9) rfl d_M_address_54 ?_
        refine lv_istore (lv' := [(4, .int (nI ifo)), (3, .int (nI (fold a))), (2, .int (nI ((a >>> 16 ^^^ a) % 65536))), (0, .ref mo), (1, .int (nI a))]) hx hb d_M_address_57 hl (by decide) rfl (fun ls hl => ?_)
        refine lv_aload_n hx hb d_M_address_59 rfl (lv_at hl 3 rfl) ?_
        refine lv_iconst (v := nI 1) hx hb d_M_address_60 (by decide) ?_
        refine va_put (D := D) (ci := 6) (v := .int (nI 1)) (ty := .boolean) (C := R_M) (T := F_M) (N := 21) hx hb hts i_M tf_M tf_M_ok nf_M hown hK hP hD hS 0 rfl rfl 10 (by decide) (hts _ m_613) (fun _ h9 => h9) rfl (by decide +kernel) rfl rfl (Nat.le_of_ble_eq_true rfl) d_M_address_61 (fun H locs hP hD hS => ?_)
        have hP : va_P D vwCl ((mo, .inr (6, [.int (nI 0), .int (nI M), .int (nI kd), .int (nI (ckb kd M)), .int (nI (nk kd)), .ref wi, .ref ck, .ref fq, .ref co, .int (nI (grsK kd M)), .int (nI 1), .int (nI fl), .long (ma), .int (mk), .int (bi), .long (wo9), .int (ch9), .int (tu9), .ref sq, .ref uq, .ref gq])) :: (wi, .inl (g 0, 4, .inl (fw))) :: (ck, .inl (g 0, 4, .inl (fc))) :: (fq, .inl (g 0, 4, .inl (ff))) :: (co, .inl (g 0, 228, .inl (fco))) :: (sq, .inl (g 0, 8, .inl (fsq))) :: (uq, .inl (g 2, 128, .inl (fu))) :: (gq, .inl (g 0, 7, .inl (fg))) :: wm) H := hP
        have hD : va_D A ((mo, .inr (6, [.int (nI 0), .int (nI M), .int (nI kd), .int (nI (ckb kd M)), .int (nI (nk kd)), .ref wi, .ref ck, .ref fq, .ref co, .int (nI (grsK kd M)), .int (nI 1), .int (nI fl), .long (ma), .int (mk), .int (bi), .long (wo9), .int (ch9), .int (tu9), .ref sq, .ref uq, .ref gq])) :: (wi, .inl (g 0, 4, .inl (fw))) :: (ck, .inl (g 0, 4, .inl (fc))) :: (fq, .inl (g 0, 4, .inl (ff))) :: (co, .inl (g 0, 228, .inl (fco))) :: (sq, .inl (g 0, 8, .inl (fsq))) :: (uq, .inl (g 2, 128, .inl (fu))) :: (gq, .inl (g 0, 7, .inl (fg))) :: wm) := hD
        refine lv_aload_n hx hb d_M_address_64 rfl (lv_at hl 3 rfl) ?_
        refine lv_iload_n hx hb d_M_address_65 rfl (lv_at hl 1 rfl) ?_
        refine lv_iconst (v := nI 1) hx hb d_M_address_66 (by decide) ?_
        refine lv_aload_n hx hb d_M_address_67 rfl (lv_at hl 3 rfl) ?_
        refine va_get (D := D) (ci := 6) (v := .int (nI (ckb kd M))) (C := R_M) (T := F_M) (N := 21) hx hb hts i_M hown hK hP 0 rfl rfl 3 (by decide) (hts _ m_606) (fun _ h9 => h9) rfl d_M_address_68 ?_
        refine lx_ishl (z := nI (2 ^ ckb kd M)) hx hb d_M_address_71 ((xn_shl 1 (by omega)).trans (by rw [Nat.one_shiftLeft])) ?_
        refine lv_iconst (v := nI 1) hx hb d_M_address_72 (by decide) ?_
        refine lx_isub (z := nI (2 ^ ckb kd M - 1)) hx hb d_M_address_73 (pk_sub Nat.one_le_two_pow) ?_
        refine lx_iand (z := nI (fold a % 2 ^ ckb kd M)) hx hb d_M_address_74 ((xn_and _ _).trans (by rw [Nat.and_two_pow_sub_one_eq_mod])) ?_
        refine va_put (D := D) (ci := 6) (v := .int (nI (fold a % 2 ^ ckb kd M))) (ty := .int) (C := R_M) (T := F_M) (N := 21) hx hb hts i_M tf_M tf_M_ok nf_M hown hK hP hD hS 0 rfl rfl 11 (by decide) (hts _ m_614) (fun _ h9 => h9) rfl (by decide +kernel) rfl rfl (Nat.le_of_ble_eq_true rfl) d_M_address_75 (fun H locs hP hD hS => ?_)
        have hP : va_P D vwCl ((mo, .inr (6, [.int (nI 0), .int (nI M), .int (nI kd), .int (nI (ckb kd M)), .int (nI (nk kd)), .ref wi, .ref ck, .ref fq, .ref co, .int (nI (grsK kd M)), .int (nI 1), .int (nI (fold a % 2 ^ ckb kd M)), .long (ma), .int (mk), .int (bi), .long (wo9), .int (ch9), .int (tu9), .ref sq, .ref uq, .ref gq])) :: (wi, .inl (g 0, 4, .inl (fw))) :: (ck, .inl (g 0, 4, .inl (fc))) :: (fq, .inl (g 0, 4, .inl (ff))) :: (co, .inl (g 0, 228, .inl (fco))) :: (sq, .inl (g 0, 8, .inl (fsq))) :: (uq, .inl (g 2, 128, .inl (fu))) :: (gq, .inl (g 0, 7, .inl (fg))) :: wm) H := hP
        have hD : va_D A ((mo, .inr (6, [.int (nI 0), .int (nI M), .int (nI kd), .int (nI (ckb kd M)), .int (nI (nk kd)), .ref wi, .ref ck, .ref fq, .ref co, .int (nI (grsK kd M)), .int (nI 1), .int (nI (fold a % 2 ^ ckb kd M)), .long (ma), .int (mk), .int (bi), .long (wo9), .int (ch9), .int (tu9), .ref sq, .ref uq, .ref gq])) :: (wi, .inl (g 0, 4, .inl (fw))) :: (ck, .inl (g 0, 4, .inl (fc))) :: (fq, .inl (g 0, 4, .inl (ff))) :: (co, .inl (g 0, 228, .inl (fco))) :: (sq, .inl (g 0, 8, .inl (fsq))) :: (uq, .inl (g 2, 128, .inl (fu))) :: (gq, .inl (g 0, 7, .inl (fg))) :: wm) := hD
        refine lv_iload hx hb d_M_address_78 (lv_at hl 0 rfl) ?_
        rw [← hQ]
        refine W.zret (v := nI ifo) (ty := .boolean) hx hb hr (nar01 hif) ?_ hS.2.2 d_M_address_80
        exact fun t ht hW => ⟨⟨nI ifo, (), rfl, rfl, by rw [ht]; exact hP, hD⟩, hS.F ht⟩
      · skip
        exact absurd rfl c26
    · skip
      exact absurd c14 hk2
set_option maxHeartbeats 4000000 in
set_option maxRecDepth 100000 in
theorem u_M_address (l : Launch) (D : va_G) (g : Nat → ClassId) (sz : Nat) (wm : va_W) (mo wi ck fq co sq uq gq kd M ifo fl : Nat) (th mk bi ch9 tu9 : Int32) (ma wo9 : Int64) (fw fc ff fco fsq fu fg : Nat → Int32) (hM0 : 0 < M) (hM : M ≤ 57) (v : Int32) (hk9 : kd = 1 ∨ kd = 2) : Met l y_M_address w_M_address rm_M_address (va_Pc [.ref mo, .int (v)] (pP D (tyl g) ((mo, .inr (6, [.int (th), .int (nI M), .int (nI kd), .int (nI (ckb kd M)), .int (nI (nk kd)), .ref wi, .ref ck, .ref fq, .ref co, .int (nI (grsK kd M)), .int (nI ifo), .int (nI fl), .long (ma), .int (mk), .int (bi), .long (wo9), .int (ch9), .int (tu9), .ref sq, .ref uq, .ref gq])) :: (wi, .inl (g 0, 4, .inl (fw))) :: (ck, .inl (g 0, 4, .inl (fc))) :: (fq, .inl (g 0, 4, .inl (ff))) :: (co, .inl (g 0, 228, .inl (fco))) :: (sq, .inl (g 0, 8, .inl (fsq))) :: (uq, .inl (g 2, 128, .inl (fu))) :: (gq, .inl (g 0, 7, .inl (fg))) :: wm) sz)) (va_Qi (fun (r : Int32) (u : Unit) => r = nI 0) (fun u => qB D (va_A ((mo, .inr (6, [.int (th), .int (nI M), .int (nI kd), .int (nI (ckb kd M)), .int (nI (nk kd)), .ref wi, .ref ck, .ref fq, .ref co, .int (nI (grsK kd M)), .int (nI ifo), .int (nI fl), .long (ma), .int (mk), .int (bi), .long (wo9), .int (ch9), .int (tu9), .ref sq, .ref uq, .ref gq])) :: (wi, .inl (g 0, 4, .inl (fw))) :: (ck, .inl (g 0, 4, .inl (fc))) :: (fq, .inl (g 0, 4, .inl (ff))) :: (co, .inl (g 0, 228, .inl (fco))) :: (sq, .inl (g 0, 8, .inl (fsq))) :: (uq, .inl (g 2, 128, .inl (fu))) :: (gq, .inl (g 0, 7, .inl (fg))) :: wm) sz) ((mo, .inr (6, [.int (nI 1), .int (nI M), .int (nI kd), .int (nI (ckb kd M)), .int (nI (nk kd)), .ref wi, .ref ck, .ref fq, .ref co, .int (nI (grsK kd M)), .int (nI ifo), .int (nI fl), .long (ma), .int (mk), .int (bi), .long (wo9), .int (ch9), .int (tu9), .ref sq, .ref uq, .ref gq])) :: (wi, .inl (g 0, 4, .inl (fw))) :: (ck, .inl (g 0, 4, .inl (fc))) :: (fq, .inl (g 0, 4, .inl (ff))) :: (co, .inl (g 0, 228, .inl (fco))) :: (sq, .inl (g 0, 8, .inl (fsq))) :: (uq, .inl (g 2, 128, .inl (fu))) :: (gq, .inl (g 0, 7, .inl (fg))) :: wm)) (va_A ((mo, .inr (6, [.int (th), .int (nI M), .int (nI kd), .int (nI (ckb kd M)), .int (nI (nk kd)), .ref wi, .ref ck, .ref fq, .ref co, .int (nI (grsK kd M)), .int (nI ifo), .int (nI fl), .long (ma), .int (mk), .int (bi), .long (wo9), .int (ch9), .int (tu9), .ref sq, .ref uq, .ref gq])) :: (wi, .inl (g 0, 4, .inl (fw))) :: (ck, .inl (g 0, 4, .inl (fc))) :: (fq, .inl (g 0, 4, .inl (ff))) :: (co, .inl (g 0, 228, .inl (fco))) :: (sq, .inl (g 0, 8, .inl (fsq))) :: (uq, .inl (g 2, 128, .inl (fu))) :: (gq, .inl (g 0, 7, .inl (fg))) :: wm) sz)) 0 0 (va_A ((mo, .inr (6, [.int (th), .int (nI M), .int (nI kd), .int (nI (ckb kd M)), .int (nI (nk kd)), .ref wi, .ref ck, .ref fq, .ref co, .int (nI (grsK kd M)), .int (nI ifo), .int (nI fl), .long (ma), .int (mk), .int (bi), .long (wo9), .int (ch9), .int (tu9), .ref sq, .ref uq, .ref gq])) :: (wi, .inl (g 0, 4, .inl (fw))) :: (ck, .inl (g 0, 4, .inl (fc))) :: (fq, .inl (g 0, 4, .inl (ff))) :: (co, .inl (g 0, 228, .inl (fco))) :: (sq, .inl (g 0, 8, .inl (fsq))) :: (uq, .inl (g 2, 128, .inl (fu))) :: (gq, .inl (g 0, 7, .inl (fg))) :: wm) sz) := by
  refine Met.ofW (cc := b_M_address) (maxL := 5) (ret := (some .boolean)) (by decide +kernel) rfl ?_
  intro p e s m args below meth c s₁ Bq hml hv
  have hx := Bq.exec
  have hb := Bq.bytes
  have hr := Bq.returns
  have hts : ∀ w ∈ wA, w.before args s = true := fun w h => atoms_spec (ws := w_M_address) Bq.pre w (List.mem_cons_of_mem _ h)
  have hown : s.vm.findClass R_M = some m.cls := findClass_of_methodNamed Bq.named
  have hlocks := Bq.notSynchronized
  obtain ⟨rfl, hsz, hP, hKK, hD0⟩ := hv
  have hK := hKK.1
  subst hsz
  have hD := hD0.self (sz := s.heap.size)
  generalize hAe : va_A ((mo, .inr (6, [.int (th), .int (nI M), .int (nI kd), .int (nI (ckb kd M)), .int (nI (nk kd)), .ref wi, .ref ck, .ref fq, .ref co, .int (nI (grsK kd M)), .int (nI ifo), .int (nI fl), .long (ma), .int (mk), .int (bi), .long (wo9), .int (ch9), .int (tu9), .ref sq, .ref uq, .ref gq])) :: (wi, .inl (g 0, 4, .inl (fw))) :: (ck, .inl (g 0, 4, .inl (fc))) :: (fq, .inl (g 0, 4, .inl (ff))) :: (co, .inl (g 0, 228, .inl (fco))) :: (sq, .inl (g 0, 8, .inl (fsq))) :: (uq, .inl (g 2, 128, .inl (fu))) :: (gq, .inl (g 0, 7, .inl (fg))) :: wm) s.heap.size = A at hD ⊢
  have hA : ∀ q : Nat, s.heap.size ≤ q → A q := fun q h => by rw [← hAe]; exact Or.inr h
  have hS : va_S A s.heap s.heap [] := va_S.rf
  have hl := lv_entry ([.ref mo, .int (v)]) (n := 5) (Nat.le_of_ble_eq_true rfl)
  rw [lg_entry_eq]
  generalize (lg_sl ([.ref mo, .int (v)]) ++ List.replicate (5 - (lg_sl ([.ref mo, .int (v)])).length) Slot.unset).toArray = ls at hl ⊢
  have hl : lv_has ls 5 [(0, .ref mo), (1, .int (v))] := hl
  generalize hQ : MQ below (va_Qi (fun (r : Int32) (u : Unit) => r = nI 0) (fun u => qB D (A) ((mo, .inr (6, [.int (nI 1), .int (nI M), .int (nI kd), .int (nI (ckb kd M)), .int (nI (nk kd)), .ref wi, .ref ck, .ref fq, .ref co, .int (nI (grsK kd M)), .int (nI ifo), .int (nI fl), .long (ma), .int (mk), .int (bi), .long (wo9), .int (ch9), .int (tu9), .ref sq, .ref uq, .ref gq])) :: (wi, .inl (g 0, 4, .inl (fw))) :: (ck, .inl (g 0, 4, .inl (fc))) :: (fq, .inl (g 0, 4, .inl (ff))) :: (co, .inl (g 0, 228, .inl (fco))) :: (sq, .inl (g 0, 8, .inl (fsq))) :: (uq, .inl (g 2, 128, .inl (fu))) :: (gq, .inl (g 0, 7, .inl (fg))) :: wm)) (A)) [.ref mo, .int (v)].toArray s 0 0 A = Q
  refine lv_aload_n hx hb d_M_address_0 rfl (lv_at hl 0 rfl) ?_
  refine lv_aload_n hx hb d_M_address_1 rfl (lv_at hl 0 rfl) ?_
  refine va_get (D := D) (ci := 6) (v := .int (nI kd)) (C := R_M) (T := F_M) (N := 21) hx hb hts i_M hown hK hP 0 rfl rfl 2 (by decide) (hts _ m_605) (fun _ h9 => h9) rfl d_M_address_2 ?_
  refine lv_iconst (v := nI 1) hx hb d_M_address_5 (by decide) ?_
  refine lx_icmp_eq (tgt := 17) hx hb d_M_address_6 (by decide) (by omega) (by omega) (fun c6 => ?_) (fun c6 => ?_)
  · skip
    refine lv_iconst (v := nI 1) hx hb d_M_address_17 (by decide) ?_
    refine lv_goto (tgt := 22) hx hb d_M_address_18 (by decide) ?_
    refine lv_iconst (v := nI 0) hx hb d_M_address_22 (by decide) ?_
    refine lc_Vi (b := mo) (As := [.int (nI 1), .int (nI 0)]) (rest := []) ⟨hx, hb, hml, hown, hts⟩ (c_M_fails l D g _ wm mo wi ck fq co sq uq gq kd M ifo fl th mk bi ch9 tu9 ma wo9 fw fc ff fco fsq fu fg hM0 hM 1 0 (by decide) (by decide)) (kV 2 hts m_686 m_683 m_685 m_15 m_40 (by decide +kernel) ⟨Nat.le_of_ble_eq_true rfl, Nat.le_of_ble_eq_true rfl⟩) (va_recv hK hP (ci := 6) (q0 := 0) rfl rfl) hKK hP hD hS hA hl.1 rfl rfl (Nat.le_of_ble_eq_true rfl) d_M_address_23 ⟨Nat.le_of_ble_eq_true rfl, Nat.le_of_ble_eq_true rfl⟩ (fun rf uf H locs ef hP hD hS => ?_)
    have hP : va_P D vwCl ((mo, .inr (6, [.int (nI 1), .int (nI M), .int (nI kd), .int (nI (ckb kd M)), .int (nI (nk kd)), .ref wi, .ref ck, .ref fq, .ref co, .int (nI (grsK kd M)), .int (nI ifo), .int (nI fl), .long (ma), .int (mk), .int (bi), .long (wo9), .int (ch9), .int (tu9), .ref sq, .ref uq, .ref gq])) :: (wi, .inl (g 0, 4, .inl (fw))) :: (ck, .inl (g 0, 4, .inl (fc))) :: (fq, .inl (g 0, 4, .inl (ff))) :: (co, .inl (g 0, 228, .inl (fco))) :: (sq, .inl (g 0, 8, .inl (fsq))) :: (uq, .inl (g 2, 128, .inl (fu))) :: (gq, .inl (g 0, 7, .inl (fg))) :: wm) H := hP
    have hD : va_D A ((mo, .inr (6, [.int (nI 1), .int (nI M), .int (nI kd), .int (nI (ckb kd M)), .int (nI (nk kd)), .ref wi, .ref ck, .ref fq, .ref co, .int (nI (grsK kd M)), .int (nI ifo), .int (nI fl), .long (ma), .int (mk), .int (bi), .long (wo9), .int (ch9), .int (tu9), .ref sq, .ref uq, .ref gq])) :: (wi, .inl (g 0, 4, .inl (fw))) :: (ck, .inl (g 0, 4, .inl (fc))) :: (fq, .inl (g 0, 4, .inl (ff))) :: (co, .inl (g 0, 228, .inl (fco))) :: (sq, .inl (g 0, 8, .inl (fsq))) :: (uq, .inl (g 2, 128, .inl (fu))) :: (gq, .inl (g 0, 7, .inl (fg))) :: wm) := hD
    obtain rfl : rf = nI 1 := ef
    refine lx_if_eq (tgt := 31) hx hb d_M_address_26 (by decide) (by omega) (fun c26 => ?_) (fun c26 => ?_)
    · skip
      exact absurd c26 (by decide)
    · skip
      refine lv_iconst (v := nI 0) hx hb d_M_address_29 (by decide) ?_
      rw [← hQ]
      refine W.zret (v := nI 0) (ty := .boolean) hx hb hr (rfl) ?_ hS.2.2 d_M_address_30
      exact fun t ht hW => ⟨⟨nI 0, (), rfl, rfl, by rw [ht]; exact hP, hD⟩, hS.F ht⟩
  · skip
    refine lv_aload_n hx hb d_M_address_9 rfl (lv_at hl 0 rfl) ?_
    refine va_get (D := D) (ci := 6) (v := .int (nI kd)) (C := R_M) (T := F_M) (N := 21) hx hb hts i_M hown hK hP 0 rfl rfl 2 (by decide) (hts _ m_605) (fun _ h9 => h9) rfl d_M_address_10 ?_
    refine lv_iconst (v := nI 2) hx hb d_M_address_13 (by decide) ?_
    refine lx_icmp_ne (tgt := 21) hx hb d_M_address_14 (by decide) (by omega) (by omega) (fun c14 => ?_) (fun c14 => ?_)
    · skip
      exact (hk9.elim c6 c14).elim
    · skip
      refine lv_iconst (v := nI 1) hx hb d_M_address_17 (by decide) ?_
      refine lv_goto (tgt := 22) hx hb d_M_address_18 (by decide) ?_
      refine lv_iconst (v := nI 0) hx hb d_M_address_22 (by decide) ?_
      refine lc_Vi (b := mo) (As := [.int (nI 1), .int (nI 0)]) (rest := []) ⟨hx, hb, hml, hown, hts⟩ (c_M_fails l D g _ wm mo wi ck fq co sq uq gq kd M ifo fl th mk bi ch9 tu9 ma wo9 fw fc ff fco fsq fu fg hM0 hM 1 0 (by decide) (by decide)) (kV 2 hts m_686 m_683 m_685 m_15 m_40 (by decide +kernel) ⟨Nat.le_of_ble_eq_true rfl, Nat.le_of_ble_eq_true rfl⟩) (va_recv hK hP (ci := 6) (q0 := 0) rfl rfl) hKK hP hD hS hA hl.1 rfl rfl (Nat.le_of_ble_eq_true rfl) d_M_address_23 ⟨Nat.le_of_ble_eq_true rfl, Nat.le_of_ble_eq_true rfl⟩ (fun rf uf H locs ef hP hD hS => ?_)
      have hP : va_P D vwCl ((mo, .inr (6, [.int (nI 1), .int (nI M), .int (nI kd), .int (nI (ckb kd M)), .int (nI (nk kd)), .ref wi, .ref ck, .ref fq, .ref co, .int (nI (grsK kd M)), .int (nI ifo), .int (nI fl), .long (ma), .int (mk), .int (bi), .long (wo9), .int (ch9), .int (tu9), .ref sq, .ref uq, .ref gq])) :: (wi, .inl (g 0, 4, .inl (fw))) :: (ck, .inl (g 0, 4, .inl (fc))) :: (fq, .inl (g 0, 4, .inl (ff))) :: (co, .inl (g 0, 228, .inl (fco))) :: (sq, .inl (g 0, 8, .inl (fsq))) :: (uq, .inl (g 2, 128, .inl (fu))) :: (gq, .inl (g 0, 7, .inl (fg))) :: wm) H := hP
      have hD : va_D A ((mo, .inr (6, [.int (nI 1), .int (nI M), .int (nI kd), .int (nI (ckb kd M)), .int (nI (nk kd)), .ref wi, .ref ck, .ref fq, .ref co, .int (nI (grsK kd M)), .int (nI ifo), .int (nI fl), .long (ma), .int (mk), .int (bi), .long (wo9), .int (ch9), .int (tu9), .ref sq, .ref uq, .ref gq])) :: (wi, .inl (g 0, 4, .inl (fw))) :: (ck, .inl (g 0, 4, .inl (fc))) :: (fq, .inl (g 0, 4, .inl (ff))) :: (co, .inl (g 0, 228, .inl (fco))) :: (sq, .inl (g 0, 8, .inl (fsq))) :: (uq, .inl (g 2, 128, .inl (fu))) :: (gq, .inl (g 0, 7, .inl (fg))) :: wm) := hD
      obtain rfl : rf = nI 1 := ef
      refine lx_if_eq (tgt := 31) hx hb d_M_address_26 (by decide) (by omega) (fun c26 => ?_) (fun c26 => ?_)
      · skip
        exact absurd c26 (by decide)
      · skip
        refine lv_iconst (v := nI 0) hx hb d_M_address_29 (by decide) ?_
        rw [← hQ]
        refine W.zret (v := nI 0) (ty := .boolean) hx hb hr (rfl) ?_ hS.2.2 d_M_address_30
        exact fun t ht hW => ⟨⟨nI 0, (), rfl, rfl, by rw [ht]; exact hP, hD⟩, hS.F ht⟩
