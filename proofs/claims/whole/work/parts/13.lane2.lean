set_option maxRecDepth 20000 in
theorem m_91 : Cond.constant R_JI 265 1431655765 ∈ wA := in_wA (List.mem_of_getElem? (i := 91) rfl) rfl
set_option maxRecDepth 20000 in
theorem m_92 : Cond.constant R_JI 266 858993459 ∈ wA := in_wA (List.mem_of_getElem? (i := 92) rfl) rfl
set_option maxRecDepth 20000 in
theorem m_93 : Cond.constant R_JI 267 252645135 ∈ wA := in_wA (List.mem_of_getElem? (i := 93) rfl) rfl
set_option maxRecDepth 20000 in
theorem m_90 : Cond.code y_JI_bitCount b_JI_bitCount 1 (some .int) ∈ wA := in_wA (List.mem_of_getElem? (i := 90) rfl) rfl
set_option maxRecDepth 20000 in
theorem m_88 : Cond.methodLink R_L 49 y_JI_bitCount ∈ wA := in_wA (List.mem_of_getElem? (i := 88) rfl) rfl
set_option maxRecDepth 20000 in
theorem m_89 : Cond.static y_JI_bitCount ∈ wA := in_wA (List.mem_of_getElem? (i := 89) rfl) rfl
set_option maxRecDepth 20000 in
theorem m_36 : Cond.initialized R_JI ∈ wA := in_wA (List.mem_of_getElem? (i := 36) rfl) rfl
set_option maxRecDepth 20000 in
theorem m_96 : Cond.code y_L_greatestSumWith b_L_greatestSumWith 5 (some .int) ∈ wA := in_wA (List.mem_of_getElem? (i := 96) rfl) rfl
set_option maxRecDepth 20000 in
theorem m_94 : Cond.methodLink R_L 52 y_L_greatestSumWith ∈ wA := in_wA (List.mem_of_getElem? (i := 94) rfl) rfl
set_option maxRecDepth 20000 in
theorem m_95 : Cond.static y_L_greatestSumWith ∈ wA := in_wA (List.mem_of_getElem? (i := 95) rfl) rfl
set_option maxRecDepth 20000 in
theorem m_34 : Cond.initialized R_L ∈ wA := in_wA (List.mem_of_getElem? (i := 34) rfl) rfl
set_option maxRecDepth 20000 in
theorem m_87 : Cond.constant R_L 48 2147483647 ∈ wA := in_wA (List.mem_of_getElem? (i := 87) rfl) rfl
set_option maxRecDepth 20000 in
theorem m_86 : Cond.code y_L_bestColumnOfWeight b_L_bestColumnOfWeight 7 (some .int) ∈ wA := in_wA (List.mem_of_getElem? (i := 86) rfl) rfl
set_option maxRecDepth 20000 in
theorem m_84 : Cond.methodLink R_L 42 y_L_bestColumnOfWeight ∈ wA := in_wA (List.mem_of_getElem? (i := 84) rfl) rfl
set_option maxRecDepth 20000 in
theorem m_85 : Cond.static y_L_bestColumnOfWeight ∈ wA := in_wA (List.mem_of_getElem? (i := 85) rfl) rfl
abbrev w_JI_bitCount : List Cond := .code y_JI_bitCount b_JI_bitCount 1 (some .int) :: wA
abbrev rm_JI_bitCount : Room := { frames := 0, cells := 0, slots := 0, locals := 0 }
theorem d_JI_bitCount_0 : decode b_JI_bitCount 0 = .ok (.iload_n 0, 1) := by decide +kernel
theorem d_JI_bitCount_1 : decode b_JI_bitCount 1 = .ok (.iload_n 0, 1) := by decide +kernel
theorem d_JI_bitCount_2 : decode b_JI_bitCount 2 = .ok (.iconst 1, 1) := by decide +kernel
theorem d_JI_bitCount_3 : decode b_JI_bitCount 3 = .ok (.iushr, 1) := by decide +kernel
theorem d_JI_bitCount_4 : decode b_JI_bitCount 4 = .ok (.ldc_w 265, 3) := by decide +kernel
theorem d_JI_bitCount_7 : decode b_JI_bitCount 7 = .ok (.iand, 1) := by decide +kernel
theorem d_JI_bitCount_8 : decode b_JI_bitCount 8 = .ok (.isub, 1) := by decide +kernel
theorem d_JI_bitCount_9 : decode b_JI_bitCount 9 = .ok (.istore_n 0, 1) := by decide +kernel
theorem d_JI_bitCount_10 : decode b_JI_bitCount 10 = .ok (.iload_n 0, 1) := by decide +kernel
theorem d_JI_bitCount_11 : decode b_JI_bitCount 11 = .ok (.ldc_w 266, 3) := by decide +kernel
theorem d_JI_bitCount_14 : decode b_JI_bitCount 14 = .ok (.iand, 1) := by decide +kernel
theorem d_JI_bitCount_15 : decode b_JI_bitCount 15 = .ok (.iload_n 0, 1) := by decide +kernel
theorem d_JI_bitCount_16 : decode b_JI_bitCount 16 = .ok (.iconst 2, 1) := by decide +kernel
theorem d_JI_bitCount_17 : decode b_JI_bitCount 17 = .ok (.iushr, 1) := by decide +kernel
theorem d_JI_bitCount_18 : decode b_JI_bitCount 18 = .ok (.ldc_w 266, 3) := by decide +kernel
theorem d_JI_bitCount_21 : decode b_JI_bitCount 21 = .ok (.iand, 1) := by decide +kernel
theorem d_JI_bitCount_22 : decode b_JI_bitCount 22 = .ok (.iadd, 1) := by decide +kernel
theorem d_JI_bitCount_23 : decode b_JI_bitCount 23 = .ok (.istore_n 0, 1) := by decide +kernel
theorem d_JI_bitCount_24 : decode b_JI_bitCount 24 = .ok (.iload_n 0, 1) := by decide +kernel
theorem d_JI_bitCount_25 : decode b_JI_bitCount 25 = .ok (.iload_n 0, 1) := by decide +kernel
theorem d_JI_bitCount_26 : decode b_JI_bitCount 26 = .ok (.iconst 4, 1) := by decide +kernel
theorem d_JI_bitCount_27 : decode b_JI_bitCount 27 = .ok (.iushr, 1) := by decide +kernel
theorem d_JI_bitCount_28 : decode b_JI_bitCount 28 = .ok (.iadd, 1) := by decide +kernel
theorem d_JI_bitCount_29 : decode b_JI_bitCount 29 = .ok (.ldc_w 267, 3) := by decide +kernel
theorem d_JI_bitCount_32 : decode b_JI_bitCount 32 = .ok (.iand, 1) := by decide +kernel
theorem d_JI_bitCount_33 : decode b_JI_bitCount 33 = .ok (.istore_n 0, 1) := by decide +kernel
theorem d_JI_bitCount_34 : decode b_JI_bitCount 34 = .ok (.iload_n 0, 1) := by decide +kernel
theorem d_JI_bitCount_35 : decode b_JI_bitCount 35 = .ok (.iload_n 0, 1) := by decide +kernel
theorem d_JI_bitCount_36 : decode b_JI_bitCount 36 = .ok (.bipush 8, 2) := by decide +kernel
theorem d_JI_bitCount_38 : decode b_JI_bitCount 38 = .ok (.iushr, 1) := by decide +kernel
theorem d_JI_bitCount_39 : decode b_JI_bitCount 39 = .ok (.iadd, 1) := by decide +kernel
theorem d_JI_bitCount_40 : decode b_JI_bitCount 40 = .ok (.istore_n 0, 1) := by decide +kernel
theorem d_JI_bitCount_41 : decode b_JI_bitCount 41 = .ok (.iload_n 0, 1) := by decide +kernel
theorem d_JI_bitCount_42 : decode b_JI_bitCount 42 = .ok (.iload_n 0, 1) := by decide +kernel
theorem d_JI_bitCount_43 : decode b_JI_bitCount 43 = .ok (.bipush 16, 2) := by decide +kernel
theorem d_JI_bitCount_45 : decode b_JI_bitCount 45 = .ok (.iushr, 1) := by decide +kernel
theorem d_JI_bitCount_46 : decode b_JI_bitCount 46 = .ok (.iadd, 1) := by decide +kernel
theorem d_JI_bitCount_47 : decode b_JI_bitCount 47 = .ok (.istore_n 0, 1) := by decide +kernel
theorem d_JI_bitCount_48 : decode b_JI_bitCount 48 = .ok (.iload_n 0, 1) := by decide +kernel
theorem d_JI_bitCount_49 : decode b_JI_bitCount 49 = .ok (.bipush 63, 2) := by decide +kernel
theorem d_JI_bitCount_51 : decode b_JI_bitCount 51 = .ok (.iand, 1) := by decide +kernel
theorem d_JI_bitCount_52 : decode b_JI_bitCount 52 = .ok (.ireturn, 1) := by decide +kernel
abbrev w_L_bestColumnOfWeight : List Cond := .code y_L_bestColumnOfWeight b_L_bestColumnOfWeight 7 (some .int) :: wA
abbrev rm_L_bestColumnOfWeight : Room := { frames := 1, cells := 0, slots := 0, locals := 24 }
theorem d_L_bestColumnOfWeight_0 : decode b_L_bestColumnOfWeight 0 = .ok (.iconst (-1), 1) := by decide +kernel
theorem d_L_bestColumnOfWeight_1 : decode b_L_bestColumnOfWeight 1 = .ok (.istore_n 3, 1) := by decide +kernel
theorem d_L_bestColumnOfWeight_2 : decode b_L_bestColumnOfWeight 2 = .ok (.ldc 48, 2) := by decide +kernel
theorem d_L_bestColumnOfWeight_4 : decode b_L_bestColumnOfWeight 4 = .ok (.istore 4, 2) := by decide +kernel
theorem d_L_bestColumnOfWeight_6 : decode b_L_bestColumnOfWeight 6 = .ok (.iconst 0, 1) := by decide +kernel
theorem d_L_bestColumnOfWeight_7 : decode b_L_bestColumnOfWeight 7 = .ok (.istore 5, 2) := by decide +kernel
theorem d_L_bestColumnOfWeight_9 : decode b_L_bestColumnOfWeight 9 = .ok (.iload 5, 2) := by decide +kernel
theorem d_L_bestColumnOfWeight_11 : decode b_L_bestColumnOfWeight 11 = .ok (.aload_n 1, 1) := by decide +kernel
theorem d_L_bestColumnOfWeight_12 : decode b_L_bestColumnOfWeight 12 = .ok (.arraylength, 1) := by decide +kernel
theorem d_L_bestColumnOfWeight_13 : decode b_L_bestColumnOfWeight 13 = .ok (.if_icmp .ge 48, 3) := by decide +kernel
theorem d_L_bestColumnOfWeight_16 : decode b_L_bestColumnOfWeight 16 = .ok (.aload_n 1, 1) := by decide +kernel
theorem d_L_bestColumnOfWeight_17 : decode b_L_bestColumnOfWeight 17 = .ok (.iload 5, 2) := by decide +kernel
theorem d_L_bestColumnOfWeight_19 : decode b_L_bestColumnOfWeight 19 = .ok (.iaload, 1) := by decide +kernel
theorem d_L_bestColumnOfWeight_20 : decode b_L_bestColumnOfWeight 20 = .ok (.iconst (-1), 1) := by decide +kernel
theorem d_L_bestColumnOfWeight_21 : decode b_L_bestColumnOfWeight 21 = .ok (.if_icmp .ne 34, 3) := by decide +kernel
theorem d_L_bestColumnOfWeight_24 : decode b_L_bestColumnOfWeight 24 = .ok (.iload 5, 2) := by decide +kernel
theorem d_L_bestColumnOfWeight_26 : decode b_L_bestColumnOfWeight 26 = .ok (.invokestatic 49, 3) := by decide +kernel
theorem d_L_bestColumnOfWeight_29 : decode b_L_bestColumnOfWeight 29 = .ok (.iload_n 0, 1) := by decide +kernel
theorem d_L_bestColumnOfWeight_30 : decode b_L_bestColumnOfWeight 30 = .ok (.if_icmp .ne 25, 3) := by decide +kernel
theorem d_L_bestColumnOfWeight_33 : decode b_L_bestColumnOfWeight 33 = .ok (.aload_n 2, 1) := by decide +kernel
theorem d_L_bestColumnOfWeight_34 : decode b_L_bestColumnOfWeight 34 = .ok (.iload 5, 2) := by decide +kernel
theorem d_L_bestColumnOfWeight_36 : decode b_L_bestColumnOfWeight 36 = .ok (.invokestatic 52, 3) := by decide +kernel
theorem d_L_bestColumnOfWeight_39 : decode b_L_bestColumnOfWeight 39 = .ok (.istore 6, 2) := by decide +kernel
theorem d_L_bestColumnOfWeight_41 : decode b_L_bestColumnOfWeight 41 = .ok (.iload 6, 2) := by decide +kernel
theorem d_L_bestColumnOfWeight_43 : decode b_L_bestColumnOfWeight 43 = .ok (.iload 4, 2) := by decide +kernel
theorem d_L_bestColumnOfWeight_45 : decode b_L_bestColumnOfWeight 45 = .ok (.if_icmp .ge 10, 3) := by decide +kernel
theorem d_L_bestColumnOfWeight_48 : decode b_L_bestColumnOfWeight 48 = .ok (.iload 6, 2) := by decide +kernel
theorem d_L_bestColumnOfWeight_50 : decode b_L_bestColumnOfWeight 50 = .ok (.istore 4, 2) := by decide +kernel
theorem d_L_bestColumnOfWeight_52 : decode b_L_bestColumnOfWeight 52 = .ok (.iload 5, 2) := by decide +kernel
theorem d_L_bestColumnOfWeight_54 : decode b_L_bestColumnOfWeight 54 = .ok (.istore_n 3, 1) := by decide +kernel
theorem d_L_bestColumnOfWeight_55 : decode b_L_bestColumnOfWeight 55 = .ok (.iinc 5 1, 3) := by decide +kernel
theorem d_L_bestColumnOfWeight_58 : decode b_L_bestColumnOfWeight 58 = .ok (.goto (-49), 3) := by decide +kernel
theorem d_L_bestColumnOfWeight_61 : decode b_L_bestColumnOfWeight 61 = .ok (.iload_n 3, 1) := by decide +kernel
theorem d_L_bestColumnOfWeight_62 : decode b_L_bestColumnOfWeight 62 = .ok (.ireturn, 1) := by decide +kernel
abbrev w_L_bestColumn : List Cond := .code y_L_bestColumn b_L_bestColumn 4 (some .int) :: wA
abbrev rm_L_bestColumn : Room := { frames := 2, cells := 0, slots := 0, locals := 50 }
theorem d_L_bestColumn_0 : decode b_L_bestColumn 0 = .ok (.iconst 3, 1) := by decide +kernel
theorem d_L_bestColumn_1 : decode b_L_bestColumn 1 = .ok (.istore_n 2, 1) := by decide +kernel
theorem d_L_bestColumn_2 : decode b_L_bestColumn 2 = .ok (.iload_n 2, 1) := by decide +kernel
theorem d_L_bestColumn_3 : decode b_L_bestColumn 3 = .ok (.aload_n 1, 1) := by decide +kernel
theorem d_L_bestColumn_4 : decode b_L_bestColumn 4 = .ok (.arraylength, 1) := by decide +kernel
theorem d_L_bestColumn_5 : decode b_L_bestColumn 5 = .ok (.if_icmp .gt 23, 3) := by decide +kernel
theorem d_L_bestColumn_8 : decode b_L_bestColumn 8 = .ok (.iload_n 2, 1) := by decide +kernel
theorem d_L_bestColumn_9 : decode b_L_bestColumn 9 = .ok (.aload_n 0, 1) := by decide +kernel
theorem d_L_bestColumn_10 : decode b_L_bestColumn 10 = .ok (.aload_n 1, 1) := by decide +kernel
theorem d_L_bestColumn_11 : decode b_L_bestColumn 11 = .ok (.invokestatic 42, 3) := by decide +kernel
theorem d_L_bestColumn_14 : decode b_L_bestColumn 14 = .ok (.istore_n 3, 1) := by decide +kernel
theorem d_L_bestColumn_15 : decode b_L_bestColumn 15 = .ok (.iload_n 3, 1) := by decide +kernel
theorem d_L_bestColumn_16 : decode b_L_bestColumn 16 = .ok (.iconst (-1), 1) := by decide +kernel
theorem d_L_bestColumn_17 : decode b_L_bestColumn 17 = .ok (.if_icmp .eq 5, 3) := by decide +kernel
theorem d_L_bestColumn_20 : decode b_L_bestColumn 20 = .ok (.iload_n 3, 1) := by decide +kernel
theorem d_L_bestColumn_21 : decode b_L_bestColumn 21 = .ok (.ireturn, 1) := by decide +kernel
theorem d_L_bestColumn_22 : decode b_L_bestColumn 22 = .ok (.iinc 2 2, 3) := by decide +kernel
theorem d_L_bestColumn_25 : decode b_L_bestColumn 25 = .ok (.goto (-23), 3) := by decide +kernel
theorem d_L_bestColumn_28 : decode b_L_bestColumn 28 = .ok (.iconst (-1), 1) := by decide +kernel
theorem d_L_bestColumn_29 : decode b_L_bestColumn 29 = .ok (.ireturn, 1) := by decide +kernel
set_option maxHeartbeats 4000000 in
set_option maxRecDepth 100000 in
theorem c_JI_bitCount (l : Launch) (D : va_G) (g : Nat → ClassId) (sz : Nat) (ws : va_W) (a : Nat) (ha : a < 2 ^ 32) : Met l y_JI_bitCount w_JI_bitCount rm_JI_bitCount (va_Pc [.int (nI a)] (pP D (tyl g) (ws) sz)) (va_Qi (fun (r : Int32) (u : Unit) => r = nI (bc32 a)) (fun u => qB D (va_A (ws) sz) (ws)) (va_A (ws) sz)) 0 0 (va_A (ws) sz) := by
  refine va_MetF (cc := b_JI_bitCount) (maxL := 1) (ret := (some .int)) (by decide +kernel) rfl ?_
  intro p e s m args below meth c s₁ Bq hml hv
  have hx := Bq.exec
  have hb := Bq.bytes
  have hr := Bq.returns
  have hts : ∀ w ∈ wA, w.before args s = true := fun w h => atoms_spec (ws := w_JI_bitCount) Bq.pre w (List.mem_cons_of_mem _ h)
  have hown : s.vm.findClass R_JI = some m.cls := findClass_of_methodNamed Bq.named
  have hlocks := Bq.notSynchronized
  obtain ⟨rfl, hsz, hP, hKK, hD0⟩ := hv
  have hK := hKK.1
  subst hsz
  have hD := hD0.self (sz := s.heap.size)
  generalize hAe : va_A (ws) s.heap.size = A at hD ⊢
  have hA : ∀ q : Nat, s.heap.size ≤ q → A q := fun q h => by rw [← hAe]; exact Or.inr h
  have hS : va_S A s.heap s.heap [] := va_S.rf
  have hl := lv_entry ([.int (nI a)]) (n := 1) (Nat.le_of_ble_eq_true rfl)
  rw [lg_entry_eq]
  generalize (lg_sl ([.int (nI a)]) ++ List.replicate (1 - (lg_sl ([.int (nI a)])).length) Slot.unset).toArray = ls at hl ⊢
  have hl : lv_has ls 1 [(0, .int (nI a))] := hl
  generalize hQ : MQ below (va_Qi (fun (r : Int32) (u : Unit) => r = nI (bc32 a)) (fun u => qB D (A) (ws)) (A)) [.int (nI a)].toArray s 0 0 A = Q
  have b1 := bc1_lt ha
  have b2 := bc2_lt a
  have b3 := bc3_lt a
  have b4 := bc4_lt a
  have b5 := bc5_lt a
  refine lv_iload_n hx hb d_JI_bitCount_0 rfl (lv_at hl 0 rfl) ?_
  refine lv_iload_n hx hb d_JI_bitCount_1 rfl (lv_at hl 0 rfl) ?_
  refine lv_iconst (v := nI 1) hx hb d_JI_bitCount_2 (by decide) ?_
  refine lv_iushr (v := nI (a >>> 1)) hx hb d_JI_bitCount_3 (xn_ushr ha (by decide)) ?_
  refine lv_ldcw (v := 1431655765) hx hb hown (hts _ m_91) d_JI_bitCount_4 ?_
  refine lv_topi (fun y1 ey1 => ?_)
  obtain rfl : y1 = nI 1431655765 := ey1.trans (by decide)
  refine lx_iand (z := nI ((a >>> 1) &&& 1431655765)) hx hb d_JI_bitCount_7 (xn_and (a >>> 1) 1431655765) ?_
  refine lx_isub (z := nI (bc1 a)) hx hb d_JI_bitCount_8 (pk_sub (bc1_le a)) ?_
  refine lv_istore_n (lv' := [(0, .int (nI (bc1 a)))]) hx hb d_JI_bitCount_9 rfl hl (by decide) rfl (fun ls hl => ?_)
  refine lv_iload_n hx hb d_JI_bitCount_10 rfl (lv_at hl 0 rfl) ?_
  refine lv_ldcw (v := 858993459) hx hb hown (hts _ m_92) d_JI_bitCount_11 ?_
  refine lv_topi (fun y2 ey2 => ?_)
  obtain rfl : y2 = nI 858993459 := ey2.trans (by decide)
  refine lx_iand (z := nI ((bc1 a) &&& 858993459)) hx hb d_JI_bitCount_14 (xn_and (bc1 a) 858993459) ?_
  refine lv_iload_n hx hb d_JI_bitCount_15 rfl (lv_at hl 0 rfl) ?_
  refine lv_iconst (v := nI 2) hx hb d_JI_bitCount_16 (by decide) ?_
  refine lv_iushr (v := nI (bc1 a >>> 2)) hx hb d_JI_bitCount_17 (xn_ushr b1 (by decide)) ?_
  refine lv_ldcw (v := 858993459) hx hb hown (hts _ m_92) d_JI_bitCount_18 ?_
  refine lv_topi (fun y3 ey3 => ?_)
  obtain rfl : y3 = nI 858993459 := ey3.trans (by decide)
  refine lx_iand (z := nI ((bc1 a >>> 2) &&& 858993459)) hx hb d_JI_bitCount_21 (xn_and (bc1 a >>> 2) 858993459) ?_
  refine lx_iadd (z := nI (bc2 a)) hx hb d_JI_bitCount_22 (nI_add _ _) ?_
  refine lv_istore_n (lv' := [(0, .int (nI (bc2 a)))]) hx hb d_JI_bitCount_23 rfl hl (by decide) rfl (fun ls hl => ?_)
  refine lv_iload_n hx hb d_JI_bitCount_24 rfl (lv_at hl 0 rfl) ?_
  refine lv_iload_n hx hb d_JI_bitCount_25 rfl (lv_at hl 0 rfl) ?_
  refine lv_iconst (v := nI 4) hx hb d_JI_bitCount_26 (by decide) ?_
  refine lv_iushr (v := nI (bc2 a >>> 4)) hx hb d_JI_bitCount_27 (xn_ushr (by omega) (by decide)) ?_
  refine lx_iadd (z := nI (bc2 a + (bc2 a >>> 4))) hx hb d_JI_bitCount_28 (nI_add (bc2 a) (bc2 a >>> 4)) ?_
  refine lv_ldcw (v := 252645135) hx hb hown (hts _ m_93) d_JI_bitCount_29 ?_
  refine lv_topi (fun y4 ey4 => ?_)
  obtain rfl : y4 = nI 252645135 := ey4.trans (by decide)
  refine lx_iand (z := nI (bc3 a)) hx hb d_JI_bitCount_32 (xn_and _ _) ?_
  refine lv_istore_n (lv' := [(0, .int (nI (bc3 a)))]) hx hb d_JI_bitCount_33 rfl hl (by decide) rfl (fun ls hl => ?_)
  refine lv_iload_n hx hb d_JI_bitCount_34 rfl (lv_at hl 0 rfl) ?_
  refine lv_iload_n hx hb d_JI_bitCount_35 rfl (lv_at hl 0 rfl) ?_
  refine lv_bipush (v := nI 8) hx hb d_JI_bitCount_36 (by decide) ?_
  refine lv_iushr (v := nI (bc3 a >>> 8)) hx hb d_JI_bitCount_38 (xn_ushr (by omega) (by decide)) ?_
  refine lx_iadd (z := nI (bc4 a)) hx hb d_JI_bitCount_39 (nI_add _ _) ?_
  refine lv_istore_n (lv' := [(0, .int (nI (bc4 a)))]) hx hb d_JI_bitCount_40 rfl hl (by decide) rfl (fun ls hl => ?_)
  refine lv_iload_n hx hb d_JI_bitCount_41 rfl (lv_at hl 0 rfl) ?_
  refine lv_iload_n hx hb d_JI_bitCount_42 rfl (lv_at hl 0 rfl) ?_
  refine lv_bipush (v := nI 16) hx hb d_JI_bitCount_43 (by decide) ?_
  refine lv_iushr (v := nI (bc4 a >>> 16)) hx hb d_JI_bitCount_45 (xn_ushr (by omega) (by decide)) ?_
  refine lx_iadd (z := nI (bc5 a)) hx hb d_JI_bitCount_46 (nI_add _ _) ?_
  refine lv_istore_n (lv' := [(0, .int (nI (bc5 a)))]) hx hb d_JI_bitCount_47 rfl hl (by decide) rfl (fun ls hl => ?_)
  refine lv_iload_n hx hb d_JI_bitCount_48 rfl (lv_at hl 0 rfl) ?_
  refine lv_bipush (v := nI 63) hx hb d_JI_bitCount_49 (by decide) ?_
  refine lx_iand (z := nI (bc32 a)) hx hb d_JI_bitCount_51 (xn_and _ _) ?_
  rw [← hQ]
  refine W.iret (v := nI (bc32 a)) hx hb hr ?_ hS.2.2 d_JI_bitCount_52
  exact fun t ht hW => ⟨⟨nI (bc32 a), (), rfl, rfl, by rw [ht]; exact hP, hD⟩, hS.F ht⟩
set_option maxHeartbeats 4000000 in
set_option maxRecDepth 100000 in
theorem c_L_bestColumnOfWeight (l : Launch) (D : va_G) (g : Nat → ClassId) (sz : Nat) (ws : va_W) (k1 k2 a1 a2 nb R wt : Nat) (B : Nat → Option Nat) (f : Nat → Nat) (h1 : ws[k1]? = some (a1, .inl (g 0, nb, .inl (fun s => oI (B s))))) (h2 : ws[k2]? = some (a2, .inl (g 0, R, .inl (fun r => nI (f r))))) (hB : ∀ s k, B s = some k → k < 2 ^ 31) (hf : ∀ k, k < R → f k < 2 ^ 20) (hR : R ≤ 32) (hnb : nb ≤ 128) (hwt : wt < 64) : Met l y_L_bestColumnOfWeight w_L_bestColumnOfWeight rm_L_bestColumnOfWeight (va_Pc [.int (nI wt), .ref a1, .ref a2] (pP D (tyl g) (ws) sz)) (va_Qi (fun (r : Int32) (u : Unit) => r = oI ((bw (fun s => (B s).isNone) f R wt nb).map (fun q => q.1))) (fun u => qB D (va_A (ws) sz) (ws)) (va_A (ws) sz)) 0 0 (va_A (ws) sz) := by
  refine Met.ofW (cc := b_L_bestColumnOfWeight) (maxL := 7) (ret := (some .int)) (by decide +kernel) rfl ?_
  intro p e s m args below meth c s₁ Bq hml hv
  have hx := Bq.exec
  have hb := Bq.bytes
  have hr := Bq.returns
  have hts : ∀ w ∈ wA, w.before args s = true := fun w h => atoms_spec (ws := w_L_bestColumnOfWeight) Bq.pre w (List.mem_cons_of_mem _ h)
  have hown : s.vm.findClass R_L = some m.cls := findClass_of_methodNamed Bq.named
  have hlocks := Bq.notSynchronized
  obtain ⟨rfl, hsz, hP, hKK, hD0⟩ := hv
  have hK := hKK.1
  subst hsz
  have hD := hD0.self (sz := s.heap.size)
  generalize hAe : va_A (ws) s.heap.size = A at hD ⊢
  have hA : ∀ q : Nat, s.heap.size ≤ q → A q := fun q h => by rw [← hAe]; exact Or.inr h
  have hS : va_S A s.heap s.heap [] := va_S.rf
  have hl := lv_entry ([.int (nI wt), .ref a1, .ref a2]) (n := 7) (Nat.le_of_ble_eq_true rfl)
  rw [lg_entry_eq]
  generalize (lg_sl ([.int (nI wt), .ref a1, .ref a2]) ++ List.replicate (7 - (lg_sl ([.int (nI wt), .ref a1, .ref a2])).length) Slot.unset).toArray = ls at hl ⊢
  have hl : lv_has ls 7 [(0, .int (nI wt)), (1, .ref a1), (2, .ref a2)] := hl
  generalize hQ : MQ below (va_Qi (fun (r : Int32) (u : Unit) => r = oI ((bw (fun s => (B s).isNone) f R wt nb).map (fun q => q.1))) (fun u => qB D (A) (ws)) (A)) [.int (nI wt), .ref a1, .ref a2].toArray s 0 0 A = Q
  have lp9 : ∀ (n : Nat) (k : Nat) (ls : Array Slot) (H : Heap) (locs : List Loc), (nb + 1 ≤ k + n) → (k ≤ nb) → lv_has ls 7 [(0, .int (nI wt)), (1, .ref a1), (2, .ref a2), (3, .int (oI ((bw (fun s => (B s).isNone) f R wt k).map (fun q => q.1)))), (4, .int (nI (bwL (bw (fun s => (B s).isNone) f R wt k)))), (5, .int (nI k))] → va_P D vwCl (ws) H → va_D A (ws) → va_S A s.heap H locs → W p l e (headSpec w_L_bestColumnOfWeight rm_L_bestColumnOfWeight).room s m [.int (nI wt), .ref a1, .ref a2].toArray below meth c H locs 0 0 Q (F0 m 9 ls []) := by
    intro n
    induction n with
    | zero => intro k ls H locs hfu hk _ _ _ _; exact absurd hfu (by omega)
    | succ n ih =>
      intro k ls H locs hfu hk hl hP hD hS
      refine lv_iload hx hb d_L_bestColumnOfWeight_9 (lv_at hl 5 rfl) ?_
      refine lv_aload_n hx hb d_L_bestColumnOfWeight_11 rfl (lv_at hl 1 rfl) ?_
      refine va_alen hx hb hK hP k1 0 h1 (v := nI nb) rfl (rfl) d_L_bestColumnOfWeight_12 ?_
      refine lx_icmp_ge (tgt := 61) hx hb d_L_bestColumnOfWeight_13 (by decide) (by omega) (by omega) (fun c13 => ?_) (fun c13 => ?_)
      · skip
        obtain rfl : k = nb := by omega
        refine lv_iload_n hx hb d_L_bestColumnOfWeight_61 rfl (lv_at hl 3 rfl) ?_
        rw [← hQ]
        refine W.iret (v := oI ((bw (fun s => (B s).isNone) f R wt k).map (fun q => q.1))) hx hb hr ?_ hS.2.2 d_L_bestColumnOfWeight_62
        exact fun t ht hW => ⟨⟨oI ((bw (fun s => (B s).isNone) f R wt k).map (fun q => q.1)), (), rfl, rfl, by rw [ht]; exact hP, hD⟩, hS.F ht⟩
      · skip
        have hg : gs f k R < 2 ^ 21 := gs_lt hf
        have hbl : bwL (bw (fun s => (B s).isNone) f R wt k) < 2 ^ 31 := bwL_lt hf k
        have hbc := bc32_lt k
        have j55 : ∀  (ls : Array Slot) (H : Heap) (locs : List Loc), lv_has ls 7 [(0, .int (nI wt)), (1, .ref a1), (2, .ref a2), (3, .int (oI ((bw (fun s => (B s).isNone) f R wt (k + 1)).map (fun q => q.1)))), (4, .int (nI (bwL (bw (fun s => (B s).isNone) f R wt (k + 1))))), (5, .int (nI k))] → va_P D vwCl (ws) H → va_D A (ws) → va_S A s.heap H locs → W p l e (headSpec w_L_bestColumnOfWeight rm_L_bestColumnOfWeight).room s m [.int (nI wt), .ref a1, .ref a2].toArray below meth c H locs 0 0 Q (F0 m 55 ls []) := by
          intro  ls H locs  hl hP hD hS
          refine lv_iinc (v := nI (k + 1)) (lv' := [(5, .int (nI (k + 1))), (0, .int (nI wt)), (1, .ref a1), (2, .ref a2), (3, .int (oI ((bw (fun s => (B s).isNone) f R wt (k + 1)).map (fun q => q.1)))), (4, .int (nI (bwL (bw (fun s => (B s).isNone) f R wt (k + 1)))))]) hx hb d_L_bestColumnOfWeight_55 hl (k := 5) rfl (nI_1 k) (by decide) rfl (fun ls hl => ?_)
          refine lv_goto (tgt := 9) hx hb d_L_bestColumnOfWeight_58 (by decide) ?_
          exact ih (k + 1) _ _ _ (by omega) (by omega) (lv_sub hl [1, 2, 3, 4, 5, 0] rfl) hP hD hS
        refine lv_aload_n hx hb d_L_bestColumnOfWeight_16 rfl (lv_at hl 1 rfl) ?_
        refine lv_iload hx hb d_L_bestColumnOfWeight_17 (lv_at hl 5 rfl) ?_
        refine lx_iald (v := oI (B k)) hx hb hK hP k1 0 h1 rfl (j := k) (by omega) (by omega) (rfl) d_L_bestColumnOfWeight_19 ?_
        refine lv_iconst (v := (-1)) hx hb d_L_bestColumnOfWeight_20 (by decide) ?_
        refine lv_icmp_ne (tgt := 55) hx hb d_L_bestColumnOfWeight_21 (by decide) (fun c21 => ?_) (fun c21 => ?_)
        · skip
          have e9 : bw (fun s => (B s).isNone) f R wt (k + 1) = bw (fun s => (B s).isNone) f R wt k := bw_no (fun z => c21 ((oI_none (hB k)).mpr (Option.isNone_iff_eq_none.mp z.2.1))) (by omega)
          have hl : lv_has ls 7 [(0, .int (nI wt)), (1, .ref a1), (2, .ref a2), (3, .int (oI ((bw (fun s => (B s).isNone) f R wt (k + 1)).map (fun q => q.1)))), (4, .int (nI (bwL (bw (fun s => (B s).isNone) f R wt (k + 1))))), (5, .int (nI k))] := by rw [e9]; exact hl
          exact j55  _ _ _  (lv_sub hl [0, 1, 2, 3, 4, 5] rfl) hP hD hS
        · skip
          refine lv_iload hx hb d_L_bestColumnOfWeight_24 (lv_at hl 5 rfl) ?_
          refine lc_Si (As := [.int (nI k)]) (rest := []) ⟨hx, hb, hml, hown, hts⟩ (c_JI_bitCount l D g _ ws k (by omega)) (kS 1 hts m_90 m_88 m_89 m_36 (by decide +kernel) ⟨Nat.le_of_ble_eq_true rfl, Nat.le_of_ble_eq_true rfl⟩) hKK hP hD hS hA hl.1 rfl rfl (Nat.le_of_ble_eq_true rfl) d_L_bestColumnOfWeight_26 ⟨Nat.le_of_ble_eq_true rfl, Nat.le_of_ble_eq_true rfl⟩ (fun r1 u H locs e1 hP hD hS => ?_)
          obtain rfl : r1 = nI (bc32 k) := e1
          refine lv_iload_n hx hb d_L_bestColumnOfWeight_29 rfl (lv_at hl 0 rfl) ?_
          refine lx_icmp_ne (tgt := 55) hx hb d_L_bestColumnOfWeight_30 (by decide) (by omega) (by omega) (fun c30 => ?_) (fun c30 => ?_)
          · skip
            have e9 : bw (fun s => (B s).isNone) f R wt (k + 1) = bw (fun s => (B s).isNone) f R wt k := bw_no (fun z => c30 z.1) (by omega)
            have hl : lv_has ls 7 [(0, .int (nI wt)), (1, .ref a1), (2, .ref a2), (3, .int (oI ((bw (fun s => (B s).isNone) f R wt (k + 1)).map (fun q => q.1)))), (4, .int (nI (bwL (bw (fun s => (B s).isNone) f R wt (k + 1))))), (5, .int (nI k))] := by rw [e9]; exact hl
            exact j55  _ _ _  (lv_sub hl [0, 1, 2, 3, 4, 5] rfl) hP hD hS
          · skip
            refine lv_aload_n hx hb d_L_bestColumnOfWeight_33 rfl (lv_at hl 2 rfl) ?_
            refine lv_iload hx hb d_L_bestColumnOfWeight_34 (lv_at hl 5 rfl) ?_
            refine lc_Si (As := [.ref a2, .int (nI k)]) (rest := []) ⟨hx, hb, hml, hown, hts⟩ (c_L_greatestSumWith l D g _ ws k2 a2 R f k h2 hR hf (by omega)) (kS 2 hts m_96 m_94 m_95 m_34 (by decide +kernel) ⟨Nat.le_of_ble_eq_true rfl, Nat.le_of_ble_eq_true rfl⟩) hKK hP hD hS hA hl.1 rfl rfl (Nat.le_of_ble_eq_true rfl) d_L_bestColumnOfWeight_36 ⟨Nat.le_of_ble_eq_true rfl, Nat.le_of_ble_eq_true rfl⟩ (fun r2 u H locs e2 hP hD hS => ?_)
            obtain rfl : r2 = nI (gs f k R) := e2
            refine lv_istore (lv' := [(6, .int (nI (gs f k R))), (0, .int (nI wt)), (1, .ref a1), (2, .ref a2), (3, .int (oI ((bw (fun s => (B s).isNone) f R wt k).map (fun q => q.1)))), (4, .int (nI (bwL (bw (fun s => (B s).isNone) f R wt k)))), (5, .int (nI k))]) hx hb d_L_bestColumnOfWeight_39 hl (by decide) rfl (fun ls hl => ?_)
            refine lv_iload hx hb d_L_bestColumnOfWeight_41 (lv_at hl 0 rfl) ?_
            refine lv_iload hx hb d_L_bestColumnOfWeight_43 (lv_at hl 5 rfl) ?_
            refine lx_icmp_ge (tgt := 55) hx hb d_L_bestColumnOfWeight_45 (by decide) (by omega) (by omega) (fun c45 => ?_) (fun c45 => ?_)
            · skip
              have e9 : bw (fun s => (B s).isNone) f R wt (k + 1) = bw (fun s => (B s).isNone) f R wt k := bw_no (fun z => by have := z.2.2; omega) (by omega)
              have hl : lv_has ls 7 [(6, .int (nI (gs f k R))), (0, .int (nI wt)), (1, .ref a1), (2, .ref a2), (3, .int (oI ((bw (fun s => (B s).isNone) f R wt (k + 1)).map (fun q => q.1)))), (4, .int (nI (bwL (bw (fun s => (B s).isNone) f R wt (k + 1))))), (5, .int (nI k))] := by rw [e9]; exact hl
              exact j55  _ _ _  (lv_sub hl [1, 2, 3, 4, 5, 6] rfl) hP hD hS
            · skip
              have e9 : bw (fun s => (B s).isNone) f R wt (k + 1) = some (k, gs f k R) := bw_yes c30 (by rw [(oI_none (hB k)).mp c21]; rfl) (by omega)
              refine lv_iload hx hb d_L_bestColumnOfWeight_48 (lv_at hl 0 rfl) ?_
              refine lv_istore (lv' := [(4, .int (nI (gs f k R))), (6, .int (nI (gs f k R))), (0, .int (nI wt)), (1, .ref a1), (2, .ref a2), (3, .int (oI ((bw (fun s => (B s).isNone) f R wt k).map (fun q => q.1)))), (5, .int (nI k))]) hx hb d_L_bestColumnOfWeight_50 hl (by decide) rfl (fun ls hl => ?_)
              refine lv_iload hx hb d_L_bestColumnOfWeight_52 (lv_at hl 6 rfl) ?_
              refine lv_istore_n (lv' := [(3, .int (nI k)), (4, .int (nI (gs f k R))), (6, .int (nI (gs f k R))), (0, .int (nI wt)), (1, .ref a1), (2, .ref a2), (5, .int (nI k))]) hx hb d_L_bestColumnOfWeight_54 rfl hl (by decide) rfl (fun ls hl => ?_)
              have hl : lv_has ls 7 [(3, .int (oI ((bw (fun s => (B s).isNone) f R wt (k + 1)).map (fun q => q.1)))), (4, .int (nI (bwL (bw (fun s => (B s).isNone) f R wt (k + 1))))), (6, .int (nI (gs f k R))), (0, .int (nI wt)), (1, .ref a1), (2, .ref a2), (5, .int (nI k))] := by rw [e9]; exact hl
              exact j55  _ _ _  (lv_sub hl [3, 4, 5, 0, 1, 6] rfl) hP hD hS
  refine lv_iconst (v := (-1)) hx hb d_L_bestColumnOfWeight_0 (by decide) ?_
  refine lv_istore_n (lv' := [(3, .int ((-1))), (0, .int (nI wt)), (1, .ref a1), (2, .ref a2)]) hx hb d_L_bestColumnOfWeight_1 rfl hl (by decide) rfl (fun ls hl => ?_)
  refine lv_ldc (v := 2147483647) hx hb hown (hts _ m_87) d_L_bestColumnOfWeight_2 ?_
  refine lv_topi (fun y1 ey1 => ?_)
  obtain rfl : y1 = nI 2147483647 := ey1.trans (by decide)
  refine lv_istore (lv' := [(4, .int (nI 2147483647)), (3, .int ((-1))), (0, .int (nI wt)), (1, .ref a1), (2, .ref a2)]) hx hb d_L_bestColumnOfWeight_4 hl (by decide) rfl (fun ls hl => ?_)
  refine lv_iconst (v := nI 0) hx hb d_L_bestColumnOfWeight_6 (by decide) ?_
  refine lv_istore (lv' := [(5, .int (nI 0)), (4, .int (nI 2147483647)), (3, .int ((-1))), (0, .int (nI wt)), (1, .ref a1), (2, .ref a2)]) hx hb d_L_bestColumnOfWeight_7 hl (by decide) rfl (fun ls hl => ?_)
  exact lp9 (nb + 1) 0 _ _ _ (by omega) (by omega) (lv_sub hl [3, 4, 5, 2, 1, 0] rfl) hP hD hS
set_option maxHeartbeats 4000000 in
set_option maxRecDepth 100000 in
theorem c_L_bestColumn (l : Launch) (D : va_G) (g : Nat → ClassId) (sz : Nat) (ws : va_W) (k1 k2 a1 a2 nb R : Nat) (B : Nat → Option Nat) (f : Nat → Nat) (h1 : ws[k1]? = some (a1, .inl (g 0, nb, .inl (fun s => oI (B s))))) (h2 : ws[k2]? = some (a2, .inl (g 0, R, .inl (fun r => nI (f r))))) (hB : ∀ s k, B s = some k → k < 2 ^ 31) (hf : ∀ k, k < R → f k < 2 ^ 20) (hR : R ≤ 7) (hnb : nb ≤ 128) : Met l y_L_bestColumn w_L_bestColumn rm_L_bestColumn (va_Pc [.ref a1, .ref a2] (pP D (tyl g) (ws) sz)) (va_Qi (fun (r : Int32) (u : Unit) => r = oI (bcol (fun s => (B s).isNone) f R nb 4 3)) (fun u => qB D (va_A (ws) sz) (ws)) (va_A (ws) sz)) 0 0 (va_A (ws) sz) := by
  refine Met.ofW (cc := b_L_bestColumn) (maxL := 4) (ret := (some .int)) (by decide +kernel) rfl ?_
  intro p e s m args below meth c s₁ Bq hml hv
  have hx := Bq.exec
  have hb := Bq.bytes
  have hr := Bq.returns
  have hts : ∀ w ∈ wA, w.before args s = true := fun w h => atoms_spec (ws := w_L_bestColumn) Bq.pre w (List.mem_cons_of_mem _ h)
  have hown : s.vm.findClass R_L = some m.cls := findClass_of_methodNamed Bq.named
  have hlocks := Bq.notSynchronized
  obtain ⟨rfl, hsz, hP, hKK, hD0⟩ := hv
  have hK := hKK.1
  subst hsz
  have hD := hD0.self (sz := s.heap.size)
  generalize hAe : va_A (ws) s.heap.size = A at hD ⊢
  have hA : ∀ q : Nat, s.heap.size ≤ q → A q := fun q h => by rw [← hAe]; exact Or.inr h
  have hS : va_S A s.heap s.heap [] := va_S.rf
  have hl := lv_entry ([.ref a1, .ref a2]) (n := 4) (Nat.le_of_ble_eq_true rfl)
  rw [lg_entry_eq]
  generalize (lg_sl ([.ref a1, .ref a2]) ++ List.replicate (4 - (lg_sl ([.ref a1, .ref a2])).length) Slot.unset).toArray = ls at hl ⊢
  have hl : lv_has ls 4 [(0, .ref a1), (1, .ref a2)] := hl
  generalize hQ : MQ below (va_Qi (fun (r : Int32) (u : Unit) => r = oI (bcol (fun s => (B s).isNone) f R nb 4 3)) (fun u => qB D (A) (ws)) (A)) [.ref a1, .ref a2].toArray s 0 0 A = Q
  have lp2 : ∀ (n wt : Nat) (ls : Array Slot) (H : Heap) (locs : List Loc), R < wt + 2 * n → wt < 20 → bcol (fun s => (B s).isNone) f R nb n wt = bcol (fun s => (B s).isNone) f R nb 4 3 → lv_has ls 4 [(0, .ref a1), (1, .ref a2), (2, .int (nI wt))] → va_P D vwCl ws H → va_D A ws → va_S A s.heap H locs → W p l e (headSpec w_L_bestColumn rm_L_bestColumn).room s m [.ref a1, .ref a2].toArray below meth c H locs 0 0 Q (F0 m 2 ls []) := by
    intro n
    induction n with
    | zero =>
      intro wt ls H locs hfu hwt hbc hl hP hD hS
      refine lv_iload_n hx hb d_L_bestColumn_2 rfl (lv_at hl 2 rfl) ?_
      refine lv_aload_n hx hb d_L_bestColumn_3 rfl (lv_at hl 1 rfl) ?_
      refine va_alen hx hb hK hP k2 0 h2 (v := nI R) rfl (rfl) d_L_bestColumn_4 ?_
      refine lx_icmp_gt (tgt := 28) hx hb d_L_bestColumn_5 (by decide) (by omega) (by omega) (fun c5 => ?_) (fun c5 => ?_)
      · skip
        refine lv_iconst (v := (-1)) hx hb d_L_bestColumn_28 (by decide) ?_
        rw [← hQ]
        refine W.iret (v := (-1)) hx hb hr ?_ hS.2.2 d_L_bestColumn_29
        exact fun t ht hW => ⟨⟨(-1), (), rfl, (by rw [← hbc]; rfl), by rw [ht]; exact hP, hD⟩, hS.F ht⟩
      · skip
        exact absurd c5 (by omega)
    | succ n ih =>
      intro wt ls H locs hfu hwt hbc hl hP hD hS
      refine lv_iload_n hx hb d_L_bestColumn_2 rfl (lv_at hl 2 rfl) ?_
      refine lv_aload_n hx hb d_L_bestColumn_3 rfl (lv_at hl 1 rfl) ?_
      refine va_alen hx hb hK hP k2 0 h2 (v := nI R) rfl (rfl) d_L_bestColumn_4 ?_
      refine lx_icmp_gt (tgt := 28) hx hb d_L_bestColumn_5 (by decide) (by omega) (by omega) (fun c5 => ?_) (fun c5 => ?_)
      · skip
        refine lv_iconst (v := (-1)) hx hb d_L_bestColumn_28 (by decide) ?_
        rw [← hQ]
        refine W.iret (v := (-1)) hx hb hr ?_ hS.2.2 d_L_bestColumn_29
        exact fun t ht hW => ⟨⟨(-1), (), rfl, (by rw [← hbc]; exact bcol_end c5), by rw [ht]; exact hP, hD⟩, hS.F ht⟩
      · skip
        refine lv_iload_n hx hb d_L_bestColumn_8 rfl (lv_at hl 2 rfl) ?_
        refine lv_aload_n hx hb d_L_bestColumn_9 rfl (lv_at hl 0 rfl) ?_
        refine lv_aload_n hx hb d_L_bestColumn_10 rfl (lv_at hl 1 rfl) ?_
        refine lc_Si (As := [.int (nI wt), .ref a1, .ref a2]) (rest := []) ⟨hx, hb, hml, hown, hts⟩ (c_L_bestColumnOfWeight l D g _ ws k1 k2 a1 a2 nb R wt B f h1 h2 hB hf (by omega) hnb (by omega)) (kS 3 hts m_86 m_84 m_85 m_34 (by decide +kernel) ⟨Nat.le_of_ble_eq_true rfl, Nat.le_of_ble_eq_true rfl⟩) hKK hP hD hS hA hl.1 rfl rfl (Nat.le_of_ble_eq_true rfl) d_L_bestColumn_11 ⟨Nat.le_of_ble_eq_true rfl, Nat.le_of_ble_eq_true rfl⟩ (fun r1 u H locs e1 hP hD hS => ?_)
        obtain rfl : r1 = oI ((bw (fun s => (B s).isNone) f R wt nb).map (fun q => q.1)) := e1
        have hb9 : ∀ k, (bw (fun s => (B s).isNone) f R wt nb).map (fun q => q.1) = some k → k < 2 ^ 31 := bw_lt hnb
        refine lv_istore_n (lv' := [(3, .int (oI ((bw (fun s => (B s).isNone) f R wt nb).map (fun q => q.1)))), (0, .ref a1), (1, .ref a2), (2, .int (nI wt))]) hx hb d_L_bestColumn_14 rfl hl (by decide) rfl (fun ls hl => ?_)
        refine lv_iload_n hx hb d_L_bestColumn_15 rfl (lv_at hl 0 rfl) ?_
        refine lv_iconst (v := (-1)) hx hb d_L_bestColumn_16 (by decide) ?_
        refine lv_icmp_eq (tgt := 22) hx hb d_L_bestColumn_17 (by decide) (fun c17 => ?_) (fun c17 => ?_)
        · skip
          have e9 : bw (fun s => (B s).isNone) f R wt nb = none := by have := (oI_none hb9).mp c17; simpa using this
          refine lv_iinc (v := nI (wt + 2)) (lv' := [(2, .int (nI (wt + 2))), (3, .int (oI ((bw (fun s => (B s).isNone) f R wt nb).map (fun q => q.1)))), (0, .ref a1), (1, .ref a2)]) hx hb d_L_bestColumn_22 hl (k := 3) rfl (nI_add wt 2) (by decide) rfl (fun ls hl => ?_)
          refine lv_goto (tgt := 2) hx hb d_L_bestColumn_25 (by decide) ?_
          exact ih (wt + 2) _ _ _ (by omega) (by omega) (by rw [← hbc]; exact (bcol_no e9 (by omega)).symm) (lv_sub hl [2, 3, 0] rfl) hP hD hS
        · skip
          refine lv_iload_n hx hb d_L_bestColumn_20 rfl (lv_at hl 0 rfl) ?_
          rw [← hQ]
          refine W.iret (v := oI ((bw (fun s => (B s).isNone) f R wt nb).map (fun q => q.1))) hx hb hr ?_ hS.2.2 d_L_bestColumn_21
          exact fun t ht hW => ⟨⟨oI ((bw (fun s => (B s).isNone) f R wt nb).map (fun q => q.1)), (), rfl, (by rw [← hbc]; exact bcol_yes (fun q => c17 (by rw [q]; rfl)) (by omega)), by rw [ht]; exact hP, hD⟩, hS.F ht⟩
  refine lv_iconst (v := nI 3) hx hb d_L_bestColumn_0 (by decide) ?_
  refine lv_istore_n (lv' := [(2, .int (nI 3)), (0, .ref a1), (1, .ref a2)]) hx hb d_L_bestColumn_1 rfl hl (by decide) rfl (fun ls hl => ?_)
  exact lp2 4 3 _ _ _ (by omega) (by omega) (rfl) (lv_sub hl [1, 2, 0] rfl) hP hD hS
