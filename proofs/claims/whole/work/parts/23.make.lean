set_option maxRecDepth 20000 in
theorem m_66 : Cond.classLink R_C 173 R_S ∈ wA := in_wA (List.mem_of_getElem? (i := 66) rfl) rfl
set_option maxRecDepth 20000 in
theorem m_67 : Cond.instantiable R_S 4 ∈ wA := in_wA (List.mem_of_getElem? (i := 67) rfl) rfl
set_option maxRecDepth 20000 in
theorem m_118 : Cond.code y_S_init b_S_init 3 none ∈ wA := in_wA (List.mem_of_getElem? (i := 118) rfl) rfl
set_option maxRecDepth 20000 in
theorem m_116 : Cond.methodLink R_C 180 y_S_init ∈ wA := in_wA (List.mem_of_getElem? (i := 116) rfl) rfl
set_option maxRecDepth 20000 in
theorem m_117 : Cond.instanceMethod y_S_init ∈ wA := in_wA (List.mem_of_getElem? (i := 117) rfl) rfl
set_option maxRecDepth 20000 in
theorem m_149 : Cond.classLink R_C 183 R_P ∈ wA := in_wA (List.mem_of_getElem? (i := 149) rfl) rfl
set_option maxRecDepth 20000 in
theorem m_150 : Cond.instantiable R_P 3 ∈ wA := in_wA (List.mem_of_getElem? (i := 150) rfl) rfl
set_option maxRecDepth 20000 in
theorem m_153 : Cond.code y_JM_min b_JM_min 2 (some .int) ∈ wA := in_wA (List.mem_of_getElem? (i := 153) rfl) rfl
set_option maxRecDepth 20000 in
theorem m_151 : Cond.methodLink R_C 185 y_JM_min ∈ wA := in_wA (List.mem_of_getElem? (i := 151) rfl) rfl
set_option maxRecDepth 20000 in
theorem m_152 : Cond.static y_JM_min ∈ wA := in_wA (List.mem_of_getElem? (i := 152) rfl) rfl
set_option maxRecDepth 20000 in
theorem m_156 : Cond.code y_P_init b_P_init 3 none ∈ wA := in_wA (List.mem_of_getElem? (i := 156) rfl) rfl
set_option maxRecDepth 20000 in
theorem m_154 : Cond.methodLink R_C 188 y_P_init ∈ wA := in_wA (List.mem_of_getElem? (i := 154) rfl) rfl
set_option maxRecDepth 20000 in
theorem m_155 : Cond.instanceMethod y_P_init ∈ wA := in_wA (List.mem_of_getElem? (i := 155) rfl) rfl
set_option maxRecDepth 20000 in
theorem m_165 : Cond.classLink R_C 191 R_N ∈ wA := in_wA (List.mem_of_getElem? (i := 165) rfl) rfl
set_option maxRecDepth 20000 in
theorem m_166 : Cond.instantiable R_N 3 ∈ wA := in_wA (List.mem_of_getElem? (i := 166) rfl) rfl
set_option maxRecDepth 20000 in
theorem m_169 : Cond.code y_N_init b_N_init 2 none ∈ wA := in_wA (List.mem_of_getElem? (i := 169) rfl) rfl
set_option maxRecDepth 20000 in
theorem m_167 : Cond.methodLink R_C 193 y_N_init ∈ wA := in_wA (List.mem_of_getElem? (i := 167) rfl) rfl
set_option maxRecDepth 20000 in
theorem m_168 : Cond.instanceMethod y_N_init ∈ wA := in_wA (List.mem_of_getElem? (i := 168) rfl) rfl
set_option maxRecDepth 20000 in
theorem m_186 : Cond.code y_C_lanesOfKind3 b_C_lanesOfKind3 3 (some (.array (.object "CheckCodes$Lane"))) ∈ wA := in_wA (List.mem_of_getElem? (i := 186) rfl) rfl
set_option maxRecDepth 20000 in
theorem m_184 : Cond.methodLink R_C 194 y_C_lanesOfKind3 ∈ wA := in_wA (List.mem_of_getElem? (i := 184) rfl) rfl
set_option maxRecDepth 20000 in
theorem m_185 : Cond.static y_C_lanesOfKind3 ∈ wA := in_wA (List.mem_of_getElem? (i := 185) rfl) rfl
set_option maxRecDepth 20000 in
theorem m_30 : Cond.initialized R_C ∈ wA := in_wA (List.mem_of_getElem? (i := 30) rfl) rfl
set_option maxRecDepth 20000 in
theorem m_192 : Cond.methodLink R_T 1 objectInit ∈ wA := in_wA (List.mem_of_getElem? (i := 192) rfl) rfl
abbrev w_JM_floorMod : List Cond := .code y_JM_floorMod b_JM_floorMod 6 (some .long) :: wA
abbrev rm_JM_floorMod : Room := { frames := 0, cells := 0, slots := 0, locals := 0 }
theorem d_JM_floorMod_0 : decode b_JM_floorMod 0 = .ok (.lload_n 0, 1) := by decide +kernel
theorem d_JM_floorMod_1 : decode b_JM_floorMod 1 = .ok (.lload_n 2, 1) := by decide +kernel
theorem d_JM_floorMod_2 : decode b_JM_floorMod 2 = .ok (.lrem, 1) := by decide +kernel
theorem d_JM_floorMod_3 : decode b_JM_floorMod 3 = .ok (.lstore 4, 2) := by decide +kernel
theorem d_JM_floorMod_5 : decode b_JM_floorMod 5 = .ok (.lload_n 0, 1) := by decide +kernel
theorem d_JM_floorMod_6 : decode b_JM_floorMod 6 = .ok (.lload_n 2, 1) := by decide +kernel
theorem d_JM_floorMod_7 : decode b_JM_floorMod 7 = .ok (.lxor, 1) := by decide +kernel
theorem d_JM_floorMod_8 : decode b_JM_floorMod 8 = .ok (.lconst 0, 1) := by decide +kernel
theorem d_JM_floorMod_9 : decode b_JM_floorMod 9 = .ok (.lcmp, 1) := by decide +kernel
theorem d_JM_floorMod_10 : decode b_JM_floorMod 10 = .ok (.ifCond .ge 15, 3) := by decide +kernel
theorem d_JM_floorMod_13 : decode b_JM_floorMod 13 = .ok (.lload 4, 2) := by decide +kernel
theorem d_JM_floorMod_15 : decode b_JM_floorMod 15 = .ok (.lconst 0, 1) := by decide +kernel
theorem d_JM_floorMod_16 : decode b_JM_floorMod 16 = .ok (.lcmp, 1) := by decide +kernel
theorem d_JM_floorMod_17 : decode b_JM_floorMod 17 = .ok (.ifCond .eq 8, 3) := by decide +kernel
theorem d_JM_floorMod_20 : decode b_JM_floorMod 20 = .ok (.lload 4, 2) := by decide +kernel
theorem d_JM_floorMod_22 : decode b_JM_floorMod 22 = .ok (.lload_n 2, 1) := by decide +kernel
theorem d_JM_floorMod_23 : decode b_JM_floorMod 23 = .ok (.ladd, 1) := by decide +kernel
theorem d_JM_floorMod_24 : decode b_JM_floorMod 24 = .ok (.lreturn, 1) := by decide +kernel
theorem d_JM_floorMod_25 : decode b_JM_floorMod 25 = .ok (.lload 4, 2) := by decide +kernel
theorem d_JM_floorMod_27 : decode b_JM_floorMod 27 = .ok (.lreturn, 1) := by decide +kernel
abbrev w_JM_floorMod2 : List Cond := .code y_JM_floorMod2 b_JM_floorMod2 3 (some .int) :: wA
abbrev rm_JM_floorMod2 : Room := { frames := 0, cells := 0, slots := 0, locals := 0 }
theorem d_JM_floorMod2_0 : decode b_JM_floorMod2 0 = .ok (.iload_n 0, 1) := by decide +kernel
theorem d_JM_floorMod2_1 : decode b_JM_floorMod2 1 = .ok (.iload_n 1, 1) := by decide +kernel
theorem d_JM_floorMod2_2 : decode b_JM_floorMod2 2 = .ok (.irem, 1) := by decide +kernel
theorem d_JM_floorMod2_3 : decode b_JM_floorMod2 3 = .ok (.istore_n 2, 1) := by decide +kernel
theorem d_JM_floorMod2_4 : decode b_JM_floorMod2 4 = .ok (.iload_n 0, 1) := by decide +kernel
theorem d_JM_floorMod2_5 : decode b_JM_floorMod2 5 = .ok (.iload_n 1, 1) := by decide +kernel
theorem d_JM_floorMod2_6 : decode b_JM_floorMod2 6 = .ok (.ixor, 1) := by decide +kernel
theorem d_JM_floorMod2_7 : decode b_JM_floorMod2 7 = .ok (.ifCond .ge 11, 3) := by decide +kernel
theorem d_JM_floorMod2_10 : decode b_JM_floorMod2 10 = .ok (.iload_n 2, 1) := by decide +kernel
theorem d_JM_floorMod2_11 : decode b_JM_floorMod2 11 = .ok (.ifCond .eq 7, 3) := by decide +kernel
theorem d_JM_floorMod2_14 : decode b_JM_floorMod2 14 = .ok (.iload_n 2, 1) := by decide +kernel
theorem d_JM_floorMod2_15 : decode b_JM_floorMod2 15 = .ok (.iload_n 1, 1) := by decide +kernel
theorem d_JM_floorMod2_16 : decode b_JM_floorMod2 16 = .ok (.iadd, 1) := by decide +kernel
theorem d_JM_floorMod2_17 : decode b_JM_floorMod2 17 = .ok (.ireturn, 1) := by decide +kernel
theorem d_JM_floorMod2_18 : decode b_JM_floorMod2 18 = .ok (.iload_n 2, 1) := by decide +kernel
theorem d_JM_floorMod2_19 : decode b_JM_floorMod2 19 = .ok (.ireturn, 1) := by decide +kernel
abbrev w_C_codeOf : List Cond := .code y_C_codeOf b_C_codeOf 2 (some (.object "CheckCodes$Code")) :: wA
abbrev rm_C_codeOf : Room := { frames := 5, cells := 19, slots := 849, locals := 118 }
theorem d_C_codeOf_0 : decode b_C_codeOf 0 = .ok (.iload_n 0, 1) := by decide +kernel
theorem d_C_codeOf_1 : decode b_C_codeOf 1 = .ok (.tableswitch 74 0 2 #[27, 51, 65], 27) := by decide +kernel
theorem d_C_codeOf_28 : decode b_C_codeOf 28 = .ok (.new 173, 3) := by decide +kernel
theorem d_C_codeOf_31 : decode b_C_codeOf 31 = .ok (.dup, 1) := by decide +kernel
theorem d_C_codeOf_32 : decode b_C_codeOf 32 = .ok (.iload_n 1, 1) := by decide +kernel
theorem d_C_codeOf_33 : decode b_C_codeOf 33 = .ok (.iconst 1, 1) := by decide +kernel
theorem d_C_codeOf_34 : decode b_C_codeOf 34 = .ok (.anewarray 175, 3) := by decide +kernel
theorem d_C_codeOf_37 : decode b_C_codeOf 37 = .ok (.dup, 1) := by decide +kernel
theorem d_C_codeOf_38 : decode b_C_codeOf 38 = .ok (.iconst 0, 1) := by decide +kernel
theorem d_C_codeOf_39 : decode b_C_codeOf 39 = .ok (.new 175, 3) := by decide +kernel
theorem d_C_codeOf_42 : decode b_C_codeOf 42 = .ok (.dup, 1) := by decide +kernel
theorem d_C_codeOf_43 : decode b_C_codeOf 43 = .ok (.iload_n 1, 1) := by decide +kernel
theorem d_C_codeOf_44 : decode b_C_codeOf 44 = .ok (.invokespecial 177, 3) := by decide +kernel
theorem d_C_codeOf_47 : decode b_C_codeOf 47 = .ok (.aastore, 1) := by decide +kernel
theorem d_C_codeOf_48 : decode b_C_codeOf 48 = .ok (.invokespecial 180, 3) := by decide +kernel
theorem d_C_codeOf_51 : decode b_C_codeOf 51 = .ok (.areturn, 1) := by decide +kernel
theorem d_C_codeOf_52 : decode b_C_codeOf 52 = .ok (.new 183, 3) := by decide +kernel
theorem d_C_codeOf_55 : decode b_C_codeOf 55 = .ok (.dup, 1) := by decide +kernel
theorem d_C_codeOf_56 : decode b_C_codeOf 56 = .ok (.iload_n 1, 1) := by decide +kernel
theorem d_C_codeOf_57 : decode b_C_codeOf 57 = .ok (.iload_n 1, 1) := by decide +kernel
theorem d_C_codeOf_58 : decode b_C_codeOf 58 = .ok (.iconst 4, 1) := by decide +kernel
theorem d_C_codeOf_59 : decode b_C_codeOf 59 = .ok (.invokestatic 185, 3) := by decide +kernel
theorem d_C_codeOf_62 : decode b_C_codeOf 62 = .ok (.invokespecial 188, 3) := by decide +kernel
theorem d_C_codeOf_65 : decode b_C_codeOf 65 = .ok (.areturn, 1) := by decide +kernel
theorem d_C_codeOf_66 : decode b_C_codeOf 66 = .ok (.new 191, 3) := by decide +kernel
theorem d_C_codeOf_69 : decode b_C_codeOf 69 = .ok (.dup, 1) := by decide +kernel
theorem d_C_codeOf_70 : decode b_C_codeOf 70 = .ok (.iload_n 1, 1) := by decide +kernel
theorem d_C_codeOf_71 : decode b_C_codeOf 71 = .ok (.invokespecial 193, 3) := by decide +kernel
theorem d_C_codeOf_74 : decode b_C_codeOf 74 = .ok (.areturn, 1) := by decide +kernel
theorem d_C_codeOf_75 : decode b_C_codeOf 75 = .ok (.new 173, 3) := by decide +kernel
theorem d_C_codeOf_78 : decode b_C_codeOf 78 = .ok (.dup, 1) := by decide +kernel
theorem d_C_codeOf_79 : decode b_C_codeOf 79 = .ok (.iload_n 1, 1) := by decide +kernel
theorem d_C_codeOf_80 : decode b_C_codeOf 80 = .ok (.iload_n 1, 1) := by decide +kernel
theorem d_C_codeOf_81 : decode b_C_codeOf 81 = .ok (.invokestatic 194, 3) := by decide +kernel
theorem d_C_codeOf_84 : decode b_C_codeOf 84 = .ok (.invokespecial 180, 3) := by decide +kernel
theorem d_C_codeOf_87 : decode b_C_codeOf 87 = .ok (.areturn, 1) := by decide +kernel
abbrev w_T_init : List Cond := .code y_T_init b_T_init 1 none :: wA
abbrev rm_T_init : Room := { frames := 1, cells := 0, slots := 0, locals := 12 }
theorem d_T_init_0 : decode b_T_init 0 = .ok (.aload_n 0, 1) := by decide +kernel
theorem d_T_init_1 : decode b_T_init 1 = .ok (.invokespecial 1, 3) := by decide +kernel
theorem d_T_init_4 : decode b_T_init 4 = .ok (.return_, 1) := by decide +kernel
set_option maxHeartbeats 4000000 in
set_option maxRecDepth 100000 in
theorem c_JM_floorMod (l : Launch) (D : va_G) (g : Nat → ClassId) (sz : Nat) (ws : va_W) (x : Int64) (q1 : -2 ^ 40 ≤ x.toInt) (q2 : x.toInt < 2 ^ 40) : Met l y_JM_floorMod w_JM_floorMod rm_JM_floorMod (va_Pc [.long (x), .long (lN 57)] (pP D (tyl g) (ws) sz)) (va_Ql (fun (r : Int64) (u : Unit) => r = lN (x.toInt % 57).toNat) (fun u => qB D (va_A (ws) sz) (ws)) (va_A (ws) sz)) 0 0 (va_A (ws) sz) := by
  refine va_MetF (cc := b_JM_floorMod) (maxL := 6) (ret := (some .long)) (by decide +kernel) rfl ?_
  intro p e s m args below meth c s₁ Bq hml hv
  have hx := Bq.exec
  have hb := Bq.bytes
  have hr := Bq.returns
  have hts : ∀ w ∈ wA, w.before args s = true := fun w h => atoms_spec (ws := w_JM_floorMod) Bq.pre w (List.mem_cons_of_mem _ h)
  have hown : s.vm.findClass R_JM = some m.cls := findClass_of_methodNamed Bq.named
  have hlocks := Bq.notSynchronized
  obtain ⟨rfl, hsz, hP, hKK, hD0⟩ := hv
  have hK := hKK.1
  subst hsz
  have hD := hD0.self (sz := s.heap.size)
  generalize hAe : va_A (ws) s.heap.size = A at hD ⊢
  have hA : ∀ q : Nat, s.heap.size ≤ q → A q := fun q h => by rw [← hAe]; exact Or.inr h
  have hS : va_S A s.heap s.heap [] := va_S.rf
  have hl := lv_entry ([.long (x), .long (lN 57)]) (n := 6) (Nat.le_of_ble_eq_true rfl)
  rw [lg_entry_eq]
  generalize (lg_sl ([.long (x), .long (lN 57)]) ++ List.replicate (6 - (lg_sl ([.long (x), .long (lN 57)])).length) Slot.unset).toArray = ls at hl ⊢
  have hl : lv_has ls 6 [(0, .long (x)), (2, .long (lN 57))] := hl
  generalize hQ : MQ below (va_Ql (fun (r : Int64) (u : Unit) => r = lN (x.toInt % 57).toNat) (fun u => qB D (A) (ws)) (A)) [.long (x), .long (lN 57)].toArray s 0 0 A = Q
  have hrm := rem57 q1 q2
  generalize hmm : x - x / lN 57 * lN 57 = mm at hrm
  have hb1 : x.toInt.tmod 57 < 57 := Int.tmod_lt_of_pos _ (by decide)
  have hb2 : -57 < x.toInt.tmod 57 := Int.lt_tmod_of_pos _ (by decide)
  have e57 : (lN 57).toInt = 57 := by decide
  have e00 : (lN 0).toInt = 0 := by decide
  refine lv_lload_n hx hb d_JM_floorMod_0 rfl (lv_at hl 0 rfl) ?_
  refine lv_lload_n hx hb d_JM_floorMod_1 rfl (lv_at hl 1 rfl) ?_
  refine lx_lrem (z := mm) hx hb d_JM_floorMod_2 (by decide) (hmm) ?_
  refine lv_lstore (lv' := [(4, .long (mm)), (0, .long (x)), (2, .long (lN 57))]) hx hb d_JM_floorMod_3 hl (by decide) rfl (fun ls hl => ?_)
  refine lv_lload_n hx hb d_JM_floorMod_5 rfl (lv_at hl 1 rfl) ?_
  refine lv_lload_n hx hb d_JM_floorMod_6 rfl (lv_at hl 2 rfl) ?_
  refine lx_lxor (z := x ^^^ lN 57) hx hb d_JM_floorMod_7 (rfl) ?_
  refine lv_lconst (v := lN 0) hx hb d_JM_floorMod_8 (by decide) ?_
  refine lx_lcmp_ge (tgt := 25) hx hb d_JM_floorMod_9 d_JM_floorMod_10 (by decide) (fun c10 => ?_) (fun c10 => ?_)
  · skip
    refine lv_lload hx hb d_JM_floorMod_25 (lv_at hl 0 rfl) ?_
    rw [← hQ]
    refine W.lret (v := mm) hx hb hr ?_ hS.2.2 d_JM_floorMod_27
    exact fun t ht hW => ⟨⟨mm, (), rfl, (lN_of (by rw [hrm, Int.tmod_eq_emod_of_nonneg ((sg57 x).mp c10)]; omega) (by omega)), by rw [ht]; exact hP, hD⟩, hS.F ht⟩
  · skip
    refine lv_lload hx hb d_JM_floorMod_13 (lv_at hl 0 rfl) ?_
    refine lv_lconst (v := lN 0) hx hb d_JM_floorMod_15 (by decide) ?_
    refine lx_lcmp_eq (tgt := 25) hx hb d_JM_floorMod_16 d_JM_floorMod_17 (by decide) (fun c17 => ?_) (fun c17 => ?_)
    · skip
      refine lv_lload hx hb d_JM_floorMod_25 (lv_at hl 0 rfl) ?_
      have h9 : x.toInt.tmod 57 = 0 := by rw [← hrm, c17, e00]
      rw [← hQ]
      refine W.lret (v := mm) hx hb hr ?_ hS.2.2 d_JM_floorMod_27
      exact fun t ht hW => ⟨⟨mm, (), rfl, (lN_of (by rw [hrm, h9, fm_zero h9]; rfl) (by omega)), by rw [ht]; exact hP, hD⟩, hS.F ht⟩
    · skip
      refine lv_lload hx hb d_JM_floorMod_20 (lv_at hl 0 rfl) ?_
      refine lv_lload_n hx hb d_JM_floorMod_22 rfl (lv_at hl 2 rfl) ?_
      refine lx_ladd (z := mm + lN 57) hx hb d_JM_floorMod_23 (rfl) ?_
      rw [← hQ]
      refine W.lret (v := mm + lN 57) hx hb hr ?_ hS.2.2 d_JM_floorMod_24
      exact fun t ht hW => ⟨⟨mm + lN 57, (), rfl, (lN_of (by rw [Int64.toInt_add, hrm, e57, Int.bmod_eq_of_le_mul_two (by omega) (by omega), fm_neg (by decide) (Int.not_le.mp (fun q => c10 ((sg57 x).mpr q))) (fun q => c17 (Int64.toInt_inj.mp (by rw [hrm, q, e00])))]; omega) (by omega)), by rw [ht]; exact hP, hD⟩, hS.F ht⟩
set_option maxHeartbeats 4000000 in
set_option maxRecDepth 100000 in
theorem c_JM_floorMod2 (l : Launch) (D : va_G) (g : Nat → ClassId) (sz : Nat) (ws : va_W) (x : Int32) : Met l y_JM_floorMod2 w_JM_floorMod2 rm_JM_floorMod2 (va_Pc [.int (x), .int (nI 4)] (pP D (tyl g) (ws) sz)) (va_Qi (fun (r : Int32) (u : Unit) => r = nI (kdOf x)) (fun u => qB D (va_A (ws) sz) (ws)) (va_A (ws) sz)) 0 0 (va_A (ws) sz) := by
  refine va_MetF (cc := b_JM_floorMod2) (maxL := 3) (ret := (some .int)) (by decide +kernel) rfl ?_
  intro p e s m args below meth c s₁ Bq hml hv
  have hx := Bq.exec
  have hb := Bq.bytes
  have hr := Bq.returns
  have hts : ∀ w ∈ wA, w.before args s = true := fun w h => atoms_spec (ws := w_JM_floorMod2) Bq.pre w (List.mem_cons_of_mem _ h)
  have hown : s.vm.findClass R_JM = some m.cls := findClass_of_methodNamed Bq.named
  have hlocks := Bq.notSynchronized
  obtain ⟨rfl, hsz, hP, hKK, hD0⟩ := hv
  have hK := hKK.1
  subst hsz
  have hD := hD0.self (sz := s.heap.size)
  generalize hAe : va_A (ws) s.heap.size = A at hD ⊢
  have hA : ∀ q : Nat, s.heap.size ≤ q → A q := fun q h => by rw [← hAe]; exact Or.inr h
  have hS : va_S A s.heap s.heap [] := va_S.rf
  have hl := lv_entry ([.int (x), .int (nI 4)]) (n := 3) (Nat.le_of_ble_eq_true rfl)
  rw [lg_entry_eq]
  generalize (lg_sl ([.int (x), .int (nI 4)]) ++ List.replicate (3 - (lg_sl ([.int (x), .int (nI 4)])).length) Slot.unset).toArray = ls at hl ⊢
  have hl : lv_has ls 3 [(0, .int (x)), (1, .int (nI 4))] := hl
  generalize hQ : MQ below (va_Qi (fun (r : Int32) (u : Unit) => r = nI (kdOf x)) (fun u => qB D (A) (ws)) (A)) [.int (x), .int (nI 4)].toArray s 0 0 A = Q
  have hrm := rem4 x
  generalize hmm : x - x / nI 4 * nI 4 = mm at hrm
  have hb1 : x.toInt.tmod 4 < 4 := Int.tmod_lt_of_pos _ (by decide)
  have hb2 : -4 < x.toInt.tmod 4 := Int.lt_tmod_of_pos _ (by decide)
  have e4 : (nI 4).toInt = 4 := by decide
  have e00 : (0 : Int32).toInt = 0 := by decide
  refine lv_iload_n hx hb d_JM_floorMod2_0 rfl (lv_at hl 0 rfl) ?_
  refine lv_iload_n hx hb d_JM_floorMod2_1 rfl (lv_at hl 1 rfl) ?_
  refine lx_irem (z := mm) hx hb d_JM_floorMod2_2 (by decide) (hmm) ?_
  refine lv_istore_n (lv' := [(2, .int (mm)), (0, .int (x)), (1, .int (nI 4))]) hx hb d_JM_floorMod2_3 rfl hl (by decide) rfl (fun ls hl => ?_)
  refine lv_iload_n hx hb d_JM_floorMod2_4 rfl (lv_at hl 1 rfl) ?_
  refine lv_iload_n hx hb d_JM_floorMod2_5 rfl (lv_at hl 2 rfl) ?_
  refine lx_ixor (z := x ^^^ nI 4) hx hb d_JM_floorMod2_6 (rfl) ?_
  refine lv_if_ge (tgt := 18) hx hb d_JM_floorMod2_7 (by decide) (fun c7 => ?_) (fun c7 => ?_)
  · skip
    refine lv_iload_n hx hb d_JM_floorMod2_18 rfl (lv_at hl 0 rfl) ?_
    rw [← hQ]
    refine W.iret (v := mm) hx hb hr ?_ hS.2.2 d_JM_floorMod2_19
    exact fun t ht hW => ⟨⟨mm, (), rfl, (nI_of9 (by rw [hrm, Int.tmod_eq_emod_of_nonneg ((sg4 x).mp c7)]; unfold kdOf; omega) (by unfold kdOf; omega)), by rw [ht]; exact hP, hD⟩, hS.F ht⟩
  · skip
    refine lv_iload_n hx hb d_JM_floorMod2_10 rfl (lv_at hl 0 rfl) ?_
    refine lv_if_eq (tgt := 18) hx hb d_JM_floorMod2_11 (by decide) (fun c11 => ?_) (fun c11 => ?_)
    · skip
      refine lv_iload_n hx hb d_JM_floorMod2_18 rfl (lv_at hl 0 rfl) ?_
      have h9 : x.toInt.tmod 4 = 0 := by rw [← hrm, c11, e00]
      rw [← hQ]
      refine W.iret (v := mm) hx hb hr ?_ hS.2.2 d_JM_floorMod2_19
      exact fun t ht hW => ⟨⟨mm, (), rfl, (nI_of9 (by unfold kdOf; rw [hrm, h9, fm_zero h9]; rfl) (by unfold kdOf; omega)), by rw [ht]; exact hP, hD⟩, hS.F ht⟩
    · skip
      refine lv_iload_n hx hb d_JM_floorMod2_14 rfl (lv_at hl 0 rfl) ?_
      refine lv_iload_n hx hb d_JM_floorMod2_15 rfl (lv_at hl 2 rfl) ?_
      refine lx_iadd (z := mm + nI 4) hx hb d_JM_floorMod2_16 (rfl) ?_
      rw [← hQ]
      refine W.iret (v := mm + nI 4) hx hb hr ?_ hS.2.2 d_JM_floorMod2_17
      exact fun t ht hW => ⟨⟨mm + nI 4, (), rfl, (nI_of9 (by rw [Int32.toInt_add, hrm, e4, Int.bmod_eq_of_le_mul_two (by omega) (by omega), fm_neg (by decide) (Int.not_le.mp (fun q => c7 ((sg4 x).mpr q))) (fun q => c11 (Int32.toInt_inj.mp (by rw [hrm, q, e00])))]; unfold kdOf; omega) (by unfold kdOf; omega)), by rw [ht]; exact hP, hD⟩, hS.F ht⟩
set_option maxHeartbeats 4000000 in
set_option maxRecDepth 100000 in
theorem c_C_codeOf_0 (l : Launch) (D : va_G) (g : Nat → ClassId) (sz : Nat) (wr : va_W) (M : Nat) (hM : 0 < M) (hM57 : M ≤ 57) : Met l y_C_codeOf w_C_codeOf rm_C_codeOf (va_Pc [.int (nI 0), .int (nI M)] (pP D (tyl g) (wr) sz)) (va_Qr (fun (u : ((Nat → Nat) × Nat × Nat)) => True) (fun u (a : Nat) => qB D (va_A (wr) sz) ((a, .inr (1, [.int (nI M), .int (nI (frm M 1 1)), .ref u.2.2, .ref u.2.1])) :: (u.2.2, .inl (g 0, M, .inl (fun k => nI (mkS M 1 k)))) :: (u.1 3, .inl (g 0, 2 ^ lr (wid M 1 0), .inl (fun s => oI (ba (lr (wid M 1 0)) (wid M 1 0) (wid M 1 0) s)))) :: (u.1 2, .inl (g 0, lr (wid M 1 0), .inl (fun r => nI (rsf (lr (wid M 1 0)) (wid M 1 0) r)))) :: (u.1 1, .inl (g 0, (wid M 1 0), .inl (fun j => nI (if j < wid M 1 0 then cc_ (lr (wid M 1 0)) j else 0)))) :: (u.1 0, .inr (4, [.int (nI (lr (wid M 1 0))), .ref (u.1 1), .ref (u.1 2), .ref (u.1 3)])) :: (u.2.1, .inl (g 3, 1, .inr (.inr (.inr (.inr (fun i => some (u.1 (4 * i)))))))) :: wr)) (va_A (wr) sz)) 19 849 (va_A (wr) sz) := by
  refine Met.ofW (cc := b_C_codeOf) (maxL := 2) (ret := (some (.object "CheckCodes$Code"))) (by decide +kernel) rfl ?_
  intro p e s m args below meth c s₁ Bq hml hv
  have hx := Bq.exec
  have hb := Bq.bytes
  have hr := Bq.returns
  have hts : ∀ w ∈ wA, w.before args s = true := fun w h => atoms_spec (ws := w_C_codeOf) Bq.pre w (List.mem_cons_of_mem _ h)
  have hown : s.vm.findClass R_C = some m.cls := findClass_of_methodNamed Bq.named
  have hlocks := Bq.notSynchronized
  obtain ⟨rfl, hsz, hP, hKK, hD0⟩ := hv
  have hK := hKK.1
  subst hsz
  have hD := hD0.self (sz := s.heap.size)
  generalize hAe : va_A (wr) s.heap.size = A at hD ⊢
  have hA : ∀ q : Nat, s.heap.size ≤ q → A q := fun q h => by rw [← hAe]; exact Or.inr h
  have hS : va_S A s.heap s.heap [] := va_S.rf
  have hl := lv_entry ([.int (nI 0), .int (nI M)]) (n := 2) (Nat.le_of_ble_eq_true rfl)
  rw [lg_entry_eq]
  generalize (lg_sl ([.int (nI 0), .int (nI M)]) ++ List.replicate (2 - (lg_sl ([.int (nI 0), .int (nI M)])).length) Slot.unset).toArray = ls at hl ⊢
  have hl : lv_has ls 2 [(0, .int (nI 0)), (1, .int (nI M))] := hl
  generalize hQ : MQ below (va_Qr (fun (u : ((Nat → Nat) × Nat × Nat)) => True) (fun u (a : Nat) => qB D (A) ((a, .inr (1, [.int (nI M), .int (nI (frm M 1 1)), .ref u.2.2, .ref u.2.1])) :: (u.2.2, .inl (g 0, M, .inl (fun k => nI (mkS M 1 k)))) :: (u.1 3, .inl (g 0, 2 ^ lr (wid M 1 0), .inl (fun s => oI (ba (lr (wid M 1 0)) (wid M 1 0) (wid M 1 0) s)))) :: (u.1 2, .inl (g 0, lr (wid M 1 0), .inl (fun r => nI (rsf (lr (wid M 1 0)) (wid M 1 0) r)))) :: (u.1 1, .inl (g 0, (wid M 1 0), .inl (fun j => nI (if j < wid M 1 0 then cc_ (lr (wid M 1 0)) j else 0)))) :: (u.1 0, .inr (4, [.int (nI (lr (wid M 1 0))), .ref (u.1 1), .ref (u.1 2), .ref (u.1 3)])) :: (u.2.1, .inl (g 3, 1, .inr (.inr (.inr (.inr (fun i => some (u.1 (4 * i)))))))) :: wr)) (A)) [.int (nI 0), .int (nI M)].toArray s 19 849 A = Q
  have hRc : (headSpec w_C_codeOf rm_C_codeOf).room.cells = 19 := rfl
  have hRs : (headSpec w_C_codeOf rm_C_codeOf).room.slots = 849 := rfl
  refine lv_iload_n hx hb d_C_codeOf_0 rfl (lv_at hl 0 rfl) ?_
  refine lv_tableIn (off := 27) (tgt := 28) hx hb d_C_codeOf_1 (by decide) (by decide) (by decide) (by decide) ?_
  refine lx_new (ci := 1) (fs := [.int (nI 0), .int (nI 0), .null, .null]) (C := R_S) (T := F_S) (N := 4) hx hb hts i_S tf_S tf_S_ok hown (hts _ m_66) (hts _ m_67) (hts _ m_33) hK hP hD hS hA rfl (by decide +kernel) (Nat.le_of_ble_eq_true rfl) (Nat.le_of_ble_eq_true rfl) d_C_codeOf_28 (fun o H hP hD hS => ?_)
  refine W.widen (k := 1) (n := 4) (by omega) (by omega) ?_
  have hP : va_P D vwCl ((o, .inr (1, [.int (nI 0), .int (nI 0), .null, .null])) :: wr) H := hP
  have hD : va_D A ((o, .inr (1, [.int (nI 0), .int (nI 0), .null, .null])) :: wr) := hD
  refine lv_dup hx hb d_C_codeOf_31 rfl ?_
  refine lv_iload_n hx hb d_C_codeOf_32 rfl (lv_at hl 1 rfl) ?_
  refine lv_iconst (v := nI 1) hx hb d_C_codeOf_33 (by decide) ?_
  refine lx_newq (N := 1) hx hb hown (hts _ m_68) hKK.2.1 hK hP hD hS hA (by omega) (Nat.le_of_ble_eq_true rfl) (Nat.le_of_ble_eq_true rfl) d_C_codeOf_34 (fun al H hP hD hS => ?_)
  refine W.widen (k := 1 + 1) (n := 4 + 1) (by omega) (by omega) ?_
  have hP : va_P D vwCl ((al, .inl (g 3, 1, .inr (.inr (.inr (.inr (fun _ => none)))))) :: (o, .inr (1, [.int (nI 0), .int (nI 0), .null, .null])) :: wr) H := hP
  have hD : va_D A ((al, .inl (g 3, 1, .inr (.inr (.inr (.inr (fun _ => none)))))) :: (o, .inr (1, [.int (nI 0), .int (nI 0), .null, .null])) :: wr) := hD
  refine lv_dup hx hb d_C_codeOf_37 rfl ?_
  refine lv_iconst (v := nI 0) hx hb d_C_codeOf_38 (by decide) ?_
  refine lx_new (ci := 4) (fs := [.int (nI 0), .null, .null, .null]) (C := R_L) (T := F_L) (N := 4) hx hb hts i_L tf_L tf_L_ok hown (hts _ m_68) (hts _ m_70) (hts _ m_34) hK hP hD hS hA rfl (by decide +kernel) (by first | omega | exact Nat.le_of_ble_eq_true rfl) (by first | omega | exact Nat.le_of_ble_eq_true rfl) d_C_codeOf_39 (fun o0 H hP hD hS => ?_)
  refine W.widen (k := 1 + 1 + 1) (n := 4 + 1 + 4) (by omega) (by omega) ?_
  have hP : va_P D vwCl ((o0, .inr (4, [.int (nI 0), .null, .null, .null])) :: (al, .inl (g 3, 1, .inr (.inr (.inr (.inr (fun _ => none)))))) :: (o, .inr (1, [.int (nI 0), .int (nI 0), .null, .null])) :: wr) H := hP
  have hD : va_D A ((o0, .inr (4, [.int (nI 0), .null, .null, .null])) :: (al, .inl (g 3, 1, .inr (.inr (.inr (.inr (fun _ => none)))))) :: (o, .inr (1, [.int (nI 0), .int (nI 0), .null, .null])) :: wr) := hD
  refine lv_dup hx hb d_C_codeOf_42 rfl ?_
  refine lv_iload_n hx hb d_C_codeOf_43 rfl (lv_at hl 1 rfl) ?_
  have hw0 : wid M 1 0 ≤ 57 := wid_le hM57 (by decide)
  refine lv_topi (fun y1 ey1 => ?_)
  obtain rfl : y1 = nI (wid M 1 0) := ey1.trans (congrArg nI (wid_one M).symm)
  refine lc_Iv (b := o0) (As := [.int (nI (wid M 1 0))]) (rest := [.ref o0, .int (nI 0), .ref al, .ref al, .int (nI M), .ref o, .ref o]) ⟨hx, hb, hml, hown, hts⟩ (c_L_init l D g _ _ o0 (wid M 1 0) hw0) (kI 1 hts m_73 m_71 m_72 m_34 rfl (by decide +kernel) ⟨Nat.le_of_ble_eq_true rfl, Nat.le_of_ble_eq_true rfl⟩) hKK hP hD hS hA hl.1 rfl rfl (Nat.le_of_ble_eq_true rfl) d_C_codeOf_44 ⟨by first | omega | exact Nat.le_of_ble_eq_true rfl, by first | omega | exact Nat.le_of_ble_eq_true rfl⟩ (fun v0 H locs _ hP hD hS => ?_)
  refine W.widen (k := 1 + 1 + 1 + 3) (n := 4 + 1 + 4 + 192) (by omega) (by omega) ?_
  have hP : va_P D vwCl ((v0.2.2, .inl (g 0, 2 ^ lr (wid M 1 0), .inl (fun s => oI (ba (lr (wid M 1 0)) (wid M 1 0) (wid M 1 0) s)))) :: (v0.2.1, .inl (g 0, lr (wid M 1 0), .inl (fun r => nI (rsf (lr (wid M 1 0)) (wid M 1 0) r)))) :: (v0.1, .inl (g 0, (wid M 1 0), .inl (fun j => nI (if j < wid M 1 0 then cc_ (lr (wid M 1 0)) j else 0)))) :: (o0, .inr (4, [.int (nI (lr (wid M 1 0))), .ref v0.1, .ref v0.2.1, .ref v0.2.2])) :: (al, .inl (g 3, 1, .inr (.inr (.inr (.inr (fun _ => none)))))) :: (o, .inr (1, [.int (nI 0), .int (nI 0), .null, .null])) :: wr) H := hP
  have hD : va_D A ((v0.2.2, .inl (g 0, 2 ^ lr (wid M 1 0), .inl (fun s => oI (ba (lr (wid M 1 0)) (wid M 1 0) (wid M 1 0) s)))) :: (v0.2.1, .inl (g 0, lr (wid M 1 0), .inl (fun r => nI (rsf (lr (wid M 1 0)) (wid M 1 0) r)))) :: (v0.1, .inl (g 0, (wid M 1 0), .inl (fun j => nI (if j < wid M 1 0 then cc_ (lr (wid M 1 0)) j else 0)))) :: (o0, .inr (4, [.int (nI (lr (wid M 1 0))), .ref v0.1, .ref v0.2.1, .ref v0.2.2])) :: (al, .inl (g 3, 1, .inr (.inr (.inr (.inr (fun _ => none)))))) :: (o, .inr (1, [.int (nI 0), .int (nI 0), .null, .null])) :: wr) := hD
  refine lx_aast (f' := va_up (fun _ => none) 0 (some o0)) hx hb hK hP hD hS 4 3 3 4 rfl rfl rfl rfl (j := 0) (by omega) (by omega) (rfl) d_C_codeOf_47 (fun H locs hP hD hS => ?_)
  have hP : va_P D vwCl ((v0.2.2, .inl (g 0, 2 ^ lr (wid M 1 0), .inl (fun s => oI (ba (lr (wid M 1 0)) (wid M 1 0) (wid M 1 0) s)))) :: (v0.2.1, .inl (g 0, lr (wid M 1 0), .inl (fun r => nI (rsf (lr (wid M 1 0)) (wid M 1 0) r)))) :: (v0.1, .inl (g 0, (wid M 1 0), .inl (fun j => nI (if j < wid M 1 0 then cc_ (lr (wid M 1 0)) j else 0)))) :: (o0, .inr (4, [.int (nI (lr (wid M 1 0))), .ref v0.1, .ref v0.2.1, .ref v0.2.2])) :: (al, .inl (g 3, 1, .inr (.inr (.inr (.inr (va_up (fun _ => none) 0 (some o0))))))) :: (o, .inr (1, [.int (nI 0), .int (nI 0), .null, .null])) :: wr) H := hP
  have hD : va_D A ((v0.2.2, .inl (g 0, 2 ^ lr (wid M 1 0), .inl (fun s => oI (ba (lr (wid M 1 0)) (wid M 1 0) (wid M 1 0) s)))) :: (v0.2.1, .inl (g 0, lr (wid M 1 0), .inl (fun r => nI (rsf (lr (wid M 1 0)) (wid M 1 0) r)))) :: (v0.1, .inl (g 0, (wid M 1 0), .inl (fun j => nI (if j < wid M 1 0 then cc_ (lr (wid M 1 0)) j else 0)))) :: (o0, .inr (4, [.int (nI (lr (wid M 1 0))), .ref v0.1, .ref v0.2.1, .ref v0.2.2])) :: (al, .inl (g 3, 1, .inr (.inr (.inr (.inr (va_up (fun _ => none) 0 (some o0))))))) :: (o, .inr (1, [.int (nI 0), .int (nI 0), .null, .null])) :: wr) := hD
  have hP : va_P D vwCl ((v0.2.2, .inl (g 0, 2 ^ lr (wid M 1 0), .inl (fun s => oI (ba (lr (wid M 1 0)) (wid M 1 0) (wid M 1 0) s)))) :: (v0.2.1, .inl (g 0, lr (wid M 1 0), .inl (fun r => nI (rsf (lr (wid M 1 0)) (wid M 1 0) r)))) :: (v0.1, .inl (g 0, (wid M 1 0), .inl (fun j => nI (if j < wid M 1 0 then cc_ (lr (wid M 1 0)) j else 0)))) :: (o0, .inr (4, [.int (nI (lr (wid M 1 0))), .ref v0.1, .ref v0.2.1, .ref v0.2.2])) :: (al, .inl (g 3, 1, .inr (.inr (.inr (.inr (fun i => some ((fun k => ([o0, v0.1, v0.2.1, v0.2.2] : List Nat).getD k 0) (4 * i)))))))) :: (o, .inr (1, [.int (nI 0), .int (nI 0), .null, .null])) :: wr) H := wp_atq 4 hP rfl (fun j hj => by obtain rfl : j = 0 := (by omega); rfl)
  have hD : va_D A ((v0.2.2, .inl (g 0, 2 ^ lr (wid M 1 0), .inl (fun s => oI (ba (lr (wid M 1 0)) (wid M 1 0) (wid M 1 0) s)))) :: (v0.2.1, .inl (g 0, lr (wid M 1 0), .inl (fun r => nI (rsf (lr (wid M 1 0)) (wid M 1 0) r)))) :: (v0.1, .inl (g 0, (wid M 1 0), .inl (fun j => nI (if j < wid M 1 0 then cc_ (lr (wid M 1 0)) j else 0)))) :: (o0, .inr (4, [.int (nI (lr (wid M 1 0))), .ref v0.1, .ref v0.2.1, .ref v0.2.2])) :: (al, .inl (g 3, 1, .inr (.inr (.inr (.inr (fun i => some ((fun k => ([o0, v0.1, v0.2.1, v0.2.2] : List Nat).getD k 0) (4 * i)))))))) :: (o, .inr (1, [.int (nI 0), .int (nI 0), .null, .null])) :: wr) := hD.set (p := 4) rfl
  have hP : va_P D vwCl (((fun k => ([o0, v0.1, v0.2.1, v0.2.2] : List Nat).getD k 0) 3, .inl (g 0, 2 ^ lr (wid M 1 0), .inl (fun s => oI (ba (lr (wid M 1 0)) (wid M 1 0) (wid M 1 0) s)))) :: ((fun k => ([o0, v0.1, v0.2.1, v0.2.2] : List Nat).getD k 0) 2, .inl (g 0, lr (wid M 1 0), .inl (fun r => nI (rsf (lr (wid M 1 0)) (wid M 1 0) r)))) :: ((fun k => ([o0, v0.1, v0.2.1, v0.2.2] : List Nat).getD k 0) 1, .inl (g 0, (wid M 1 0), .inl (fun j => nI (if j < wid M 1 0 then cc_ (lr (wid M 1 0)) j else 0)))) :: ((fun k => ([o0, v0.1, v0.2.1, v0.2.2] : List Nat).getD k 0) 0, .inr (4, [.int (nI (lr (wid M 1 0))), .ref ((fun k => ([o0, v0.1, v0.2.1, v0.2.2] : List Nat).getD k 0) 1), .ref ((fun k => ([o0, v0.1, v0.2.1, v0.2.2] : List Nat).getD k 0) 2), .ref ((fun k => ([o0, v0.1, v0.2.1, v0.2.2] : List Nat).getD k 0) 3)])) :: (al, .inl (g 3, 1, .inr (.inr (.inr (.inr (fun i => some ((fun k => ([o0, v0.1, v0.2.1, v0.2.2] : List Nat).getD k 0) (4 * i)))))))) :: (o, .inr (1, [.int (nI 0), .int (nI 0), .null, .null])) :: wr) H := hP
  have hD : va_D A (((fun k => ([o0, v0.1, v0.2.1, v0.2.2] : List Nat).getD k 0) 3, .inl (g 0, 2 ^ lr (wid M 1 0), .inl (fun s => oI (ba (lr (wid M 1 0)) (wid M 1 0) (wid M 1 0) s)))) :: ((fun k => ([o0, v0.1, v0.2.1, v0.2.2] : List Nat).getD k 0) 2, .inl (g 0, lr (wid M 1 0), .inl (fun r => nI (rsf (lr (wid M 1 0)) (wid M 1 0) r)))) :: ((fun k => ([o0, v0.1, v0.2.1, v0.2.2] : List Nat).getD k 0) 1, .inl (g 0, (wid M 1 0), .inl (fun j => nI (if j < wid M 1 0 then cc_ (lr (wid M 1 0)) j else 0)))) :: ((fun k => ([o0, v0.1, v0.2.1, v0.2.2] : List Nat).getD k 0) 0, .inr (4, [.int (nI (lr (wid M 1 0))), .ref ((fun k => ([o0, v0.1, v0.2.1, v0.2.2] : List Nat).getD k 0) 1), .ref ((fun k => ([o0, v0.1, v0.2.1, v0.2.2] : List Nat).getD k 0) 2), .ref ((fun k => ([o0, v0.1, v0.2.1, v0.2.2] : List Nat).getD k 0) 3)])) :: (al, .inl (g 3, 1, .inr (.inr (.inr (.inr (fun i => some ((fun k => ([o0, v0.1, v0.2.1, v0.2.2] : List Nat).getD k 0) (4 * i)))))))) :: (o, .inr (1, [.int (nI 0), .int (nI 0), .null, .null])) :: wr) := hD
  have hP : va_P D vwCl ((o, .inr (1, [.int (nI 0), .int (nI 0), .null, .null])) :: ((fun k => ([o0, v0.1, v0.2.1, v0.2.2] : List Nat).getD k 0) 3, .inl (g 0, 2 ^ lr (wid M 1 0), .inl (fun s => oI (ba (lr (wid M 1 0)) (wid M 1 0) (wid M 1 0) s)))) :: ((fun k => ([o0, v0.1, v0.2.1, v0.2.2] : List Nat).getD k 0) 2, .inl (g 0, lr (wid M 1 0), .inl (fun r => nI (rsf (lr (wid M 1 0)) (wid M 1 0) r)))) :: ((fun k => ([o0, v0.1, v0.2.1, v0.2.2] : List Nat).getD k 0) 1, .inl (g 0, (wid M 1 0), .inl (fun j => nI (if j < wid M 1 0 then cc_ (lr (wid M 1 0)) j else 0)))) :: ((fun k => ([o0, v0.1, v0.2.1, v0.2.2] : List Nat).getD k 0) 0, .inr (4, [.int (nI (lr (wid M 1 0))), .ref ((fun k => ([o0, v0.1, v0.2.1, v0.2.2] : List Nat).getD k 0) 1), .ref ((fun k => ([o0, v0.1, v0.2.1, v0.2.2] : List Nat).getD k 0) 2), .ref ((fun k => ([o0, v0.1, v0.2.1, v0.2.2] : List Nat).getD k 0) 3)])) :: (al, .inl (g 3, 1, .inr (.inr (.inr (.inr (fun i => some ((fun k => ([o0, v0.1, v0.2.1, v0.2.2] : List Nat).getD k 0) (4 * i)))))))) :: wr) H := wp_pull [((fun k => ([o0, v0.1, v0.2.1, v0.2.2] : List Nat).getD k 0) 3, .inl (g 0, 2 ^ lr (wid M 1 0), .inl (fun s => oI (ba (lr (wid M 1 0)) (wid M 1 0) (wid M 1 0) s)))), ((fun k => ([o0, v0.1, v0.2.1, v0.2.2] : List Nat).getD k 0) 2, .inl (g 0, lr (wid M 1 0), .inl (fun r => nI (rsf (lr (wid M 1 0)) (wid M 1 0) r)))), ((fun k => ([o0, v0.1, v0.2.1, v0.2.2] : List Nat).getD k 0) 1, .inl (g 0, (wid M 1 0), .inl (fun j => nI (if j < wid M 1 0 then cc_ (lr (wid M 1 0)) j else 0)))), ((fun k => ([o0, v0.1, v0.2.1, v0.2.2] : List Nat).getD k 0) 0, .inr (4, [.int (nI (lr (wid M 1 0))), .ref ((fun k => ([o0, v0.1, v0.2.1, v0.2.2] : List Nat).getD k 0) 1), .ref ((fun k => ([o0, v0.1, v0.2.1, v0.2.2] : List Nat).getD k 0) 2), .ref ((fun k => ([o0, v0.1, v0.2.1, v0.2.2] : List Nat).getD k 0) 3)])), (al, .inl (g 3, 1, .inr (.inr (.inr (.inr (fun i => some ((fun k => ([o0, v0.1, v0.2.1, v0.2.2] : List Nat).getD k 0) (4 * i))))))))] hP
  have hD : va_D A ((o, .inr (1, [.int (nI 0), .int (nI 0), .null, .null])) :: ((fun k => ([o0, v0.1, v0.2.1, v0.2.2] : List Nat).getD k 0) 3, .inl (g 0, 2 ^ lr (wid M 1 0), .inl (fun s => oI (ba (lr (wid M 1 0)) (wid M 1 0) (wid M 1 0) s)))) :: ((fun k => ([o0, v0.1, v0.2.1, v0.2.2] : List Nat).getD k 0) 2, .inl (g 0, lr (wid M 1 0), .inl (fun r => nI (rsf (lr (wid M 1 0)) (wid M 1 0) r)))) :: ((fun k => ([o0, v0.1, v0.2.1, v0.2.2] : List Nat).getD k 0) 1, .inl (g 0, (wid M 1 0), .inl (fun j => nI (if j < wid M 1 0 then cc_ (lr (wid M 1 0)) j else 0)))) :: ((fun k => ([o0, v0.1, v0.2.1, v0.2.2] : List Nat).getD k 0) 0, .inr (4, [.int (nI (lr (wid M 1 0))), .ref ((fun k => ([o0, v0.1, v0.2.1, v0.2.2] : List Nat).getD k 0) 1), .ref ((fun k => ([o0, v0.1, v0.2.1, v0.2.2] : List Nat).getD k 0) 2), .ref ((fun k => ([o0, v0.1, v0.2.1, v0.2.2] : List Nat).getD k 0) 3)])) :: (al, .inl (g 3, 1, .inr (.inr (.inr (.inr (fun i => some ((fun k => ([o0, v0.1, v0.2.1, v0.2.2] : List Nat).getD k 0) (4 * i)))))))) :: wr) := wd_pull [((fun k => ([o0, v0.1, v0.2.1, v0.2.2] : List Nat).getD k 0) 3, .inl (g 0, 2 ^ lr (wid M 1 0), .inl (fun s => oI (ba (lr (wid M 1 0)) (wid M 1 0) (wid M 1 0) s)))), ((fun k => ([o0, v0.1, v0.2.1, v0.2.2] : List Nat).getD k 0) 2, .inl (g 0, lr (wid M 1 0), .inl (fun r => nI (rsf (lr (wid M 1 0)) (wid M 1 0) r)))), ((fun k => ([o0, v0.1, v0.2.1, v0.2.2] : List Nat).getD k 0) 1, .inl (g 0, (wid M 1 0), .inl (fun j => nI (if j < wid M 1 0 then cc_ (lr (wid M 1 0)) j else 0)))), ((fun k => ([o0, v0.1, v0.2.1, v0.2.2] : List Nat).getD k 0) 0, .inr (4, [.int (nI (lr (wid M 1 0))), .ref ((fun k => ([o0, v0.1, v0.2.1, v0.2.2] : List Nat).getD k 0) 1), .ref ((fun k => ([o0, v0.1, v0.2.1, v0.2.2] : List Nat).getD k 0) 2), .ref ((fun k => ([o0, v0.1, v0.2.1, v0.2.2] : List Nat).getD k 0) 3)])), (al, .inl (g 3, 1, .inr (.inr (.inr (.inr (fun i => some ((fun k => ([o0, v0.1, v0.2.1, v0.2.2] : List Nat).getD k 0) (4 * i))))))))] hD
  refine lc_Iv (b := o) (As := [.int (nI M), .ref al]) (rest := [.ref o]) ⟨hx, hb, hml, hown, hts⟩ (c_S_init l D g _ _ M 1 o hM57 (by decide) 4 al (fun i => some ((fun k => ([o0, v0.1, v0.2.1, v0.2.2] : List Nat).getD k 0) (4 * i))) (fun _ => 3) (fun _ => 2) (fun _ => 1) (fun _ => 0) (fun i => (fun k => ([o0, v0.1, v0.2.1, v0.2.2] : List Nat).getD k 0) (4 * i)) (fun i => (fun k => ([o0, v0.1, v0.2.1, v0.2.2] : List Nat).getD k 0) (4 * i + 1)) (fun i => (fun k => ([o0, v0.1, v0.2.1, v0.2.2] : List Nat).getD k 0) (4 * i + 2)) (fun i => (fun k => ([o0, v0.1, v0.2.1, v0.2.2] : List Nat).getD k 0) (4 * i + 3)) rfl (fun i _ => rfl) (fun i hi => by obtain rfl : i = 0 := (by omega); rfl) (fun i hi => by obtain rfl : i = 0 := (by omega); rfl)) (kI 2 hts m_118 m_116 m_117 m_33 rfl (by decide +kernel) ⟨Nat.le_of_ble_eq_true rfl, Nat.le_of_ble_eq_true rfl⟩) hKK hP hD hS hA hl.1 rfl rfl (Nat.le_of_ble_eq_true rfl) d_C_codeOf_48 ⟨by first | omega | exact Nat.le_of_ble_eq_true rfl, by first | omega | exact Nat.le_of_ble_eq_true rfl⟩ (fun am H locs _ hP hD hS => ?_)
  refine W.widen (k := 1 + 1 + 1 + 3 + 1) (n := 4 + 1 + 4 + 192 + 57) (by omega) (by omega) ?_
  have hP : va_P D vwCl ((o, .inr (1, [.int (nI M), .int (nI (frm M 1 1)), .ref am, .ref al])) :: (am, .inl (g 0, M, .inl (fun k => nI (mkS M 1 k)))) :: ((fun k => ([o0, v0.1, v0.2.1, v0.2.2] : List Nat).getD k 0) 3, .inl (g 0, 2 ^ lr (wid M 1 0), .inl (fun s => oI (ba (lr (wid M 1 0)) (wid M 1 0) (wid M 1 0) s)))) :: ((fun k => ([o0, v0.1, v0.2.1, v0.2.2] : List Nat).getD k 0) 2, .inl (g 0, lr (wid M 1 0), .inl (fun r => nI (rsf (lr (wid M 1 0)) (wid M 1 0) r)))) :: ((fun k => ([o0, v0.1, v0.2.1, v0.2.2] : List Nat).getD k 0) 1, .inl (g 0, (wid M 1 0), .inl (fun j => nI (if j < wid M 1 0 then cc_ (lr (wid M 1 0)) j else 0)))) :: ((fun k => ([o0, v0.1, v0.2.1, v0.2.2] : List Nat).getD k 0) 0, .inr (4, [.int (nI (lr (wid M 1 0))), .ref ((fun k => ([o0, v0.1, v0.2.1, v0.2.2] : List Nat).getD k 0) 1), .ref ((fun k => ([o0, v0.1, v0.2.1, v0.2.2] : List Nat).getD k 0) 2), .ref ((fun k => ([o0, v0.1, v0.2.1, v0.2.2] : List Nat).getD k 0) 3)])) :: (al, .inl (g 3, 1, .inr (.inr (.inr (.inr (fun i => some ((fun k => ([o0, v0.1, v0.2.1, v0.2.2] : List Nat).getD k 0) (4 * i)))))))) :: wr) H := hP
  have hD : va_D A ((o, .inr (1, [.int (nI M), .int (nI (frm M 1 1)), .ref am, .ref al])) :: (am, .inl (g 0, M, .inl (fun k => nI (mkS M 1 k)))) :: ((fun k => ([o0, v0.1, v0.2.1, v0.2.2] : List Nat).getD k 0) 3, .inl (g 0, 2 ^ lr (wid M 1 0), .inl (fun s => oI (ba (lr (wid M 1 0)) (wid M 1 0) (wid M 1 0) s)))) :: ((fun k => ([o0, v0.1, v0.2.1, v0.2.2] : List Nat).getD k 0) 2, .inl (g 0, lr (wid M 1 0), .inl (fun r => nI (rsf (lr (wid M 1 0)) (wid M 1 0) r)))) :: ((fun k => ([o0, v0.1, v0.2.1, v0.2.2] : List Nat).getD k 0) 1, .inl (g 0, (wid M 1 0), .inl (fun j => nI (if j < wid M 1 0 then cc_ (lr (wid M 1 0)) j else 0)))) :: ((fun k => ([o0, v0.1, v0.2.1, v0.2.2] : List Nat).getD k 0) 0, .inr (4, [.int (nI (lr (wid M 1 0))), .ref ((fun k => ([o0, v0.1, v0.2.1, v0.2.2] : List Nat).getD k 0) 1), .ref ((fun k => ([o0, v0.1, v0.2.1, v0.2.2] : List Nat).getD k 0) 2), .ref ((fun k => ([o0, v0.1, v0.2.1, v0.2.2] : List Nat).getD k 0) 3)])) :: (al, .inl (g 3, 1, .inr (.inr (.inr (.inr (fun i => some ((fun k => ([o0, v0.1, v0.2.1, v0.2.2] : List Nat).getD k 0) (4 * i)))))))) :: wr) := hD
  refine W.widen (k := 19) (n := 849) (by omega) (by omega) ?_
  rw [← hQ]
  refine W.aret (v := .ref o) hx hb hr (by first | exact Or.inl ⟨_, rfl⟩ | exact Or.inr ⟨_, rfl⟩) (Or.inr ⟨_, rfl⟩) ?_ hS.2.2 d_C_codeOf_51
  exact fun t ht hW => ⟨⟨((fun k => ([o0, v0.1, v0.2.1, v0.2.2] : List Nat).getD k 0), al, am), o, rfl, trivial, by rw [ht]; exact hP, hD⟩, hS.F ht⟩
set_option maxHeartbeats 4000000 in
set_option maxRecDepth 100000 in
theorem c_C_codeOf_1 (l : Launch) (D : va_G) (g : Nat → ClassId) (sz : Nat) (wr : va_W) (M : Nat) (hM : 0 < M) (hM57 : M ≤ 57) : Met l y_C_codeOf w_C_codeOf rm_C_codeOf (va_Pc [.int (nI 1), .int (nI M)] (pP D (tyl g) (wr) sz)) (va_Qr (fun (u : Nat) => True) (fun u (a : Nat) => qB D (va_A (wr) sz) ((a, .inr (2, [.int (nI M), .int (nI (min M 4)), .ref u])) :: (u, .inl (g 0, M, .inl (fun j => nI (if j < M then mkP (min M 4) j else 0)))) :: wr)) (va_A (wr) sz)) 19 849 (va_A (wr) sz) := by
  refine Met.ofW (cc := b_C_codeOf) (maxL := 2) (ret := (some (.object "CheckCodes$Code"))) (by decide +kernel) rfl ?_
  intro p e s m args below meth c s₁ Bq hml hv
  have hx := Bq.exec
  have hb := Bq.bytes
  have hr := Bq.returns
  have hts : ∀ w ∈ wA, w.before args s = true := fun w h => atoms_spec (ws := w_C_codeOf) Bq.pre w (List.mem_cons_of_mem _ h)
  have hown : s.vm.findClass R_C = some m.cls := findClass_of_methodNamed Bq.named
  have hlocks := Bq.notSynchronized
  obtain ⟨rfl, hsz, hP, hKK, hD0⟩ := hv
  have hK := hKK.1
  subst hsz
  have hD := hD0.self (sz := s.heap.size)
  generalize hAe : va_A (wr) s.heap.size = A at hD ⊢
  have hA : ∀ q : Nat, s.heap.size ≤ q → A q := fun q h => by rw [← hAe]; exact Or.inr h
  have hS : va_S A s.heap s.heap [] := va_S.rf
  have hl := lv_entry ([.int (nI 1), .int (nI M)]) (n := 2) (Nat.le_of_ble_eq_true rfl)
  rw [lg_entry_eq]
  generalize (lg_sl ([.int (nI 1), .int (nI M)]) ++ List.replicate (2 - (lg_sl ([.int (nI 1), .int (nI M)])).length) Slot.unset).toArray = ls at hl ⊢
  have hl : lv_has ls 2 [(0, .int (nI 1)), (1, .int (nI M))] := hl
  generalize hQ : MQ below (va_Qr (fun (u : Nat) => True) (fun u (a : Nat) => qB D (A) ((a, .inr (2, [.int (nI M), .int (nI (min M 4)), .ref u])) :: (u, .inl (g 0, M, .inl (fun j => nI (if j < M then mkP (min M 4) j else 0)))) :: wr)) (A)) [.int (nI 1), .int (nI M)].toArray s 19 849 A = Q
  have hRc : (headSpec w_C_codeOf rm_C_codeOf).room.cells = 19 := rfl
  have hRs : (headSpec w_C_codeOf rm_C_codeOf).room.slots = 849 := rfl
  refine lv_iload_n hx hb d_C_codeOf_0 rfl (lv_at hl 0 rfl) ?_
  refine lv_tableIn (off := 51) (tgt := 52) hx hb d_C_codeOf_1 (by decide) (by decide) (by decide) (by decide) ?_
  refine lx_new (ci := 2) (fs := [.int (nI 0), .int (nI 0), .null]) (C := R_P) (T := F_P) (N := 3) hx hb hts i_P tf_P tf_P_ok hown (hts _ m_149) (hts _ m_150) (hts _ m_37) hK hP hD hS hA rfl (by decide +kernel) (Nat.le_of_ble_eq_true rfl) (Nat.le_of_ble_eq_true rfl) d_C_codeOf_52 (fun o H hP hD hS => ?_)
  refine W.widen (k := 1) (n := 3) (by omega) (by omega) ?_
  have hP : va_P D vwCl ((o, .inr (2, [.int (nI 0), .int (nI 0), .null])) :: wr) H := hP
  have hD : va_D A ((o, .inr (2, [.int (nI 0), .int (nI 0), .null])) :: wr) := hD
  refine lv_dup hx hb d_C_codeOf_55 rfl ?_
  refine lv_iload_n hx hb d_C_codeOf_56 rfl (lv_at hl 1 rfl) ?_
  refine lv_iload_n hx hb d_C_codeOf_57 rfl (lv_at hl 1 rfl) ?_
  refine lv_iconst (v := nI 4) hx hb d_C_codeOf_58 (by decide) ?_
  refine lc_Si (As := [.int (nI M), .int (nI 4)]) (rest := [.int (nI M), .ref o, .ref o]) ⟨hx, hb, hml, hown, hts⟩ (c_JM_min l D g _ _ M 4 (by omega) (by decide)) (kS 2 hts m_153 m_151 m_152 m_31 (by decide +kernel) ⟨Nat.le_of_ble_eq_true rfl, Nat.le_of_ble_eq_true rfl⟩) hKK hP hD hS hA hl.1 rfl rfl (Nat.le_of_ble_eq_true rfl) d_C_codeOf_59 ⟨Nat.le_of_ble_eq_true rfl, Nat.le_of_ble_eq_true rfl⟩ (fun r1 u H locs e1 hP hD hS => ?_)
  obtain rfl : r1 = nI (min M 4) := e1
  refine lc_Iv (b := o) (As := [.int (nI M), .int (nI (min M 4))]) (rest := [.ref o]) ⟨hx, hb, hml, hown, hts⟩ (c_P_init l D g _ _ M (min M 4) o hM57 (by omega)) (kI 2 hts m_156 m_154 m_155 m_37 rfl (by decide +kernel) ⟨Nat.le_of_ble_eq_true rfl, Nat.le_of_ble_eq_true rfl⟩) hKK hP hD hS hA hl.1 rfl rfl (Nat.le_of_ble_eq_true rfl) d_C_codeOf_62 ⟨Nat.le_of_ble_eq_true rfl, Nat.le_of_ble_eq_true rfl⟩ (fun am H locs _ hP hD hS => ?_)
  refine W.widen (k := 1 + 1) (n := 3 + 57) (by omega) (by omega) ?_
  have hP : va_P D vwCl ((o, .inr (2, [.int (nI M), .int (nI (min M 4)), .ref am])) :: (am, .inl (g 0, M, .inl (fun j => nI (if j < M then mkP (min M 4) j else 0)))) :: wr) H := hP
  have hD : va_D A ((o, .inr (2, [.int (nI M), .int (nI (min M 4)), .ref am])) :: (am, .inl (g 0, M, .inl (fun j => nI (if j < M then mkP (min M 4) j else 0)))) :: wr) := hD
  refine W.widen (k := 19) (n := 849) (by omega) (by omega) ?_
  rw [← hQ]
  refine W.aret (v := .ref o) hx hb hr (by first | exact Or.inl ⟨_, rfl⟩ | exact Or.inr ⟨_, rfl⟩) (Or.inr ⟨_, rfl⟩) ?_ hS.2.2 d_C_codeOf_65
  exact fun t ht hW => ⟨⟨am, o, rfl, trivial, by rw [ht]; exact hP, hD⟩, hS.F ht⟩
set_option maxHeartbeats 4000000 in
set_option maxRecDepth 100000 in
theorem c_C_codeOf_2 (l : Launch) (D : va_G) (g : Nat → ClassId) (sz : Nat) (wr : va_W) (M : Nat) (hM : 0 < M) (hM57 : M ≤ 57) : Met l y_C_codeOf w_C_codeOf rm_C_codeOf (va_Pc [.int (nI 2), .int (nI M)] (pP D (tyl g) (wr) sz)) (va_Qr (fun (u : Nat) => True) (fun u (a : Nat) => qB D (va_A (wr) sz) ((a, .inr (3, [.int (nI M), .int (nI 12), .ref u])) :: (u, .inl (g 0, M, .inl (fun j => nI (if j < M then mkN j else 0)))) :: wr)) (va_A (wr) sz)) 19 849 (va_A (wr) sz) := by
  refine Met.ofW (cc := b_C_codeOf) (maxL := 2) (ret := (some (.object "CheckCodes$Code"))) (by decide +kernel) rfl ?_
  intro p e s m args below meth c s₁ Bq hml hv
  have hx := Bq.exec
  have hb := Bq.bytes
  have hr := Bq.returns
  have hts : ∀ w ∈ wA, w.before args s = true := fun w h => atoms_spec (ws := w_C_codeOf) Bq.pre w (List.mem_cons_of_mem _ h)
  have hown : s.vm.findClass R_C = some m.cls := findClass_of_methodNamed Bq.named
  have hlocks := Bq.notSynchronized
  obtain ⟨rfl, hsz, hP, hKK, hD0⟩ := hv
  have hK := hKK.1
  subst hsz
  have hD := hD0.self (sz := s.heap.size)
  generalize hAe : va_A (wr) s.heap.size = A at hD ⊢
  have hA : ∀ q : Nat, s.heap.size ≤ q → A q := fun q h => by rw [← hAe]; exact Or.inr h
  have hS : va_S A s.heap s.heap [] := va_S.rf
  have hl := lv_entry ([.int (nI 2), .int (nI M)]) (n := 2) (Nat.le_of_ble_eq_true rfl)
  rw [lg_entry_eq]
  generalize (lg_sl ([.int (nI 2), .int (nI M)]) ++ List.replicate (2 - (lg_sl ([.int (nI 2), .int (nI M)])).length) Slot.unset).toArray = ls at hl ⊢
  have hl : lv_has ls 2 [(0, .int (nI 2)), (1, .int (nI M))] := hl
  generalize hQ : MQ below (va_Qr (fun (u : Nat) => True) (fun u (a : Nat) => qB D (A) ((a, .inr (3, [.int (nI M), .int (nI 12), .ref u])) :: (u, .inl (g 0, M, .inl (fun j => nI (if j < M then mkN j else 0)))) :: wr)) (A)) [.int (nI 2), .int (nI M)].toArray s 19 849 A = Q
  have hRc : (headSpec w_C_codeOf rm_C_codeOf).room.cells = 19 := rfl
  have hRs : (headSpec w_C_codeOf rm_C_codeOf).room.slots = 849 := rfl
  refine lv_iload_n hx hb d_C_codeOf_0 rfl (lv_at hl 0 rfl) ?_
  refine lv_tableIn (off := 65) (tgt := 66) hx hb d_C_codeOf_1 (by decide) (by decide) (by decide) (by decide) ?_
  refine lx_new (ci := 3) (fs := [.int (nI 0), .int (nI 0), .null]) (C := R_N) (T := F_N) (N := 3) hx hb hts i_N tf_N tf_N_ok hown (hts _ m_165) (hts _ m_166) (hts _ m_38) hK hP hD hS hA rfl (by decide +kernel) (Nat.le_of_ble_eq_true rfl) (Nat.le_of_ble_eq_true rfl) d_C_codeOf_66 (fun o H hP hD hS => ?_)
  refine W.widen (k := 1) (n := 3) (by omega) (by omega) ?_
  have hP : va_P D vwCl ((o, .inr (3, [.int (nI 0), .int (nI 0), .null])) :: wr) H := hP
  have hD : va_D A ((o, .inr (3, [.int (nI 0), .int (nI 0), .null])) :: wr) := hD
  refine lv_dup hx hb d_C_codeOf_69 rfl ?_
  refine lv_iload_n hx hb d_C_codeOf_70 rfl (lv_at hl 1 rfl) ?_
  refine lc_Iv (b := o) (As := [.int (nI M)]) (rest := [.ref o]) ⟨hx, hb, hml, hown, hts⟩ (c_N_init l D g _ _ M o hM57) (kI 1 hts m_169 m_167 m_168 m_38 rfl (by decide +kernel) ⟨Nat.le_of_ble_eq_true rfl, Nat.le_of_ble_eq_true rfl⟩) hKK hP hD hS hA hl.1 rfl rfl (Nat.le_of_ble_eq_true rfl) d_C_codeOf_71 ⟨Nat.le_of_ble_eq_true rfl, Nat.le_of_ble_eq_true rfl⟩ (fun am H locs _ hP hD hS => ?_)
  refine W.widen (k := 1 + 1) (n := 3 + 57) (by omega) (by omega) ?_
  have hP : va_P D vwCl ((o, .inr (3, [.int (nI M), .int (nI 12), .ref am])) :: (am, .inl (g 0, M, .inl (fun j => nI (if j < M then mkN j else 0)))) :: wr) H := hP
  have hD : va_D A ((o, .inr (3, [.int (nI M), .int (nI 12), .ref am])) :: (am, .inl (g 0, M, .inl (fun j => nI (if j < M then mkN j else 0)))) :: wr) := hD
  refine W.widen (k := 19) (n := 849) (by omega) (by omega) ?_
  rw [← hQ]
  refine W.aret (v := .ref o) hx hb hr (by first | exact Or.inl ⟨_, rfl⟩ | exact Or.inr ⟨_, rfl⟩) (Or.inr ⟨_, rfl⟩) ?_ hS.2.2 d_C_codeOf_74
  exact fun t ht hW => ⟨⟨am, o, rfl, trivial, by rw [ht]; exact hP, hD⟩, hS.F ht⟩
set_option maxHeartbeats 4000000 in
set_option maxRecDepth 100000 in
theorem c_C_codeOf_3 (l : Launch) (D : va_G) (g : Nat → ClassId) (sz : Nat) (wr : va_W) (M : Nat) (hM : 0 < M) (hM57 : M ≤ 57) : Met l y_C_codeOf w_C_codeOf rm_C_codeOf (va_Pc [.int (nI 3), .int (nI M)] (pP D (tyl g) (wr) sz)) (va_Qr (fun (u : ((Nat → Nat) × Nat × Nat)) => True) (fun u (a : Nat) => qB D (va_A (wr) sz) ((a, .inr (1, [.int (nI M), .int (nI (frm M 4 4)), .ref u.2.2, .ref u.2.1])) :: (u.2.2, .inl (g 0, M, .inl (fun k => nI (mkS M 4 k)))) :: (u.1 15, .inl (g 0, 2 ^ lr (wid M 4 3), .inl (fun s => oI (ba (lr (wid M 4 3)) (wid M 4 3) (wid M 4 3) s)))) :: (u.1 14, .inl (g 0, lr (wid M 4 3), .inl (fun r => nI (rsf (lr (wid M 4 3)) (wid M 4 3) r)))) :: (u.1 13, .inl (g 0, (wid M 4 3), .inl (fun j => nI (if j < wid M 4 3 then cc_ (lr (wid M 4 3)) j else 0)))) :: (u.1 12, .inr (4, [.int (nI (lr (wid M 4 3))), .ref (u.1 13), .ref (u.1 14), .ref (u.1 15)])) :: (u.1 11, .inl (g 0, 2 ^ lr (wid M 4 2), .inl (fun s => oI (ba (lr (wid M 4 2)) (wid M 4 2) (wid M 4 2) s)))) :: (u.1 10, .inl (g 0, lr (wid M 4 2), .inl (fun r => nI (rsf (lr (wid M 4 2)) (wid M 4 2) r)))) :: (u.1 9, .inl (g 0, (wid M 4 2), .inl (fun j => nI (if j < wid M 4 2 then cc_ (lr (wid M 4 2)) j else 0)))) :: (u.1 8, .inr (4, [.int (nI (lr (wid M 4 2))), .ref (u.1 9), .ref (u.1 10), .ref (u.1 11)])) :: (u.1 7, .inl (g 0, 2 ^ lr (wid M 4 1), .inl (fun s => oI (ba (lr (wid M 4 1)) (wid M 4 1) (wid M 4 1) s)))) :: (u.1 6, .inl (g 0, lr (wid M 4 1), .inl (fun r => nI (rsf (lr (wid M 4 1)) (wid M 4 1) r)))) :: (u.1 5, .inl (g 0, (wid M 4 1), .inl (fun j => nI (if j < wid M 4 1 then cc_ (lr (wid M 4 1)) j else 0)))) :: (u.1 4, .inr (4, [.int (nI (lr (wid M 4 1))), .ref (u.1 5), .ref (u.1 6), .ref (u.1 7)])) :: (u.1 3, .inl (g 0, 2 ^ lr (wid M 4 0), .inl (fun s => oI (ba (lr (wid M 4 0)) (wid M 4 0) (wid M 4 0) s)))) :: (u.1 2, .inl (g 0, lr (wid M 4 0), .inl (fun r => nI (rsf (lr (wid M 4 0)) (wid M 4 0) r)))) :: (u.1 1, .inl (g 0, (wid M 4 0), .inl (fun j => nI (if j < wid M 4 0 then cc_ (lr (wid M 4 0)) j else 0)))) :: (u.1 0, .inr (4, [.int (nI (lr (wid M 4 0))), .ref (u.1 1), .ref (u.1 2), .ref (u.1 3)])) :: (u.2.1, .inl (g 3, 4, .inr (.inr (.inr (.inr (fun i => some (u.1 (4 * i)))))))) :: wr)) (va_A (wr) sz)) 19 849 (va_A (wr) sz) := by
  refine Met.ofW (cc := b_C_codeOf) (maxL := 2) (ret := (some (.object "CheckCodes$Code"))) (by decide +kernel) rfl ?_
  intro p e s m args below meth c s₁ Bq hml hv
  have hx := Bq.exec
  have hb := Bq.bytes
  have hr := Bq.returns
  have hts : ∀ w ∈ wA, w.before args s = true := fun w h => atoms_spec (ws := w_C_codeOf) Bq.pre w (List.mem_cons_of_mem _ h)
  have hown : s.vm.findClass R_C = some m.cls := findClass_of_methodNamed Bq.named
  have hlocks := Bq.notSynchronized
  obtain ⟨rfl, hsz, hP, hKK, hD0⟩ := hv
  have hK := hKK.1
  subst hsz
  have hD := hD0.self (sz := s.heap.size)
  generalize hAe : va_A (wr) s.heap.size = A at hD ⊢
  have hA : ∀ q : Nat, s.heap.size ≤ q → A q := fun q h => by rw [← hAe]; exact Or.inr h
  have hS : va_S A s.heap s.heap [] := va_S.rf
  have hl := lv_entry ([.int (nI 3), .int (nI M)]) (n := 2) (Nat.le_of_ble_eq_true rfl)
  rw [lg_entry_eq]
  generalize (lg_sl ([.int (nI 3), .int (nI M)]) ++ List.replicate (2 - (lg_sl ([.int (nI 3), .int (nI M)])).length) Slot.unset).toArray = ls at hl ⊢
  have hl : lv_has ls 2 [(0, .int (nI 3)), (1, .int (nI M))] := hl
  generalize hQ : MQ below (va_Qr (fun (u : ((Nat → Nat) × Nat × Nat)) => True) (fun u (a : Nat) => qB D (A) ((a, .inr (1, [.int (nI M), .int (nI (frm M 4 4)), .ref u.2.2, .ref u.2.1])) :: (u.2.2, .inl (g 0, M, .inl (fun k => nI (mkS M 4 k)))) :: (u.1 15, .inl (g 0, 2 ^ lr (wid M 4 3), .inl (fun s => oI (ba (lr (wid M 4 3)) (wid M 4 3) (wid M 4 3) s)))) :: (u.1 14, .inl (g 0, lr (wid M 4 3), .inl (fun r => nI (rsf (lr (wid M 4 3)) (wid M 4 3) r)))) :: (u.1 13, .inl (g 0, (wid M 4 3), .inl (fun j => nI (if j < wid M 4 3 then cc_ (lr (wid M 4 3)) j else 0)))) :: (u.1 12, .inr (4, [.int (nI (lr (wid M 4 3))), .ref (u.1 13), .ref (u.1 14), .ref (u.1 15)])) :: (u.1 11, .inl (g 0, 2 ^ lr (wid M 4 2), .inl (fun s => oI (ba (lr (wid M 4 2)) (wid M 4 2) (wid M 4 2) s)))) :: (u.1 10, .inl (g 0, lr (wid M 4 2), .inl (fun r => nI (rsf (lr (wid M 4 2)) (wid M 4 2) r)))) :: (u.1 9, .inl (g 0, (wid M 4 2), .inl (fun j => nI (if j < wid M 4 2 then cc_ (lr (wid M 4 2)) j else 0)))) :: (u.1 8, .inr (4, [.int (nI (lr (wid M 4 2))), .ref (u.1 9), .ref (u.1 10), .ref (u.1 11)])) :: (u.1 7, .inl (g 0, 2 ^ lr (wid M 4 1), .inl (fun s => oI (ba (lr (wid M 4 1)) (wid M 4 1) (wid M 4 1) s)))) :: (u.1 6, .inl (g 0, lr (wid M 4 1), .inl (fun r => nI (rsf (lr (wid M 4 1)) (wid M 4 1) r)))) :: (u.1 5, .inl (g 0, (wid M 4 1), .inl (fun j => nI (if j < wid M 4 1 then cc_ (lr (wid M 4 1)) j else 0)))) :: (u.1 4, .inr (4, [.int (nI (lr (wid M 4 1))), .ref (u.1 5), .ref (u.1 6), .ref (u.1 7)])) :: (u.1 3, .inl (g 0, 2 ^ lr (wid M 4 0), .inl (fun s => oI (ba (lr (wid M 4 0)) (wid M 4 0) (wid M 4 0) s)))) :: (u.1 2, .inl (g 0, lr (wid M 4 0), .inl (fun r => nI (rsf (lr (wid M 4 0)) (wid M 4 0) r)))) :: (u.1 1, .inl (g 0, (wid M 4 0), .inl (fun j => nI (if j < wid M 4 0 then cc_ (lr (wid M 4 0)) j else 0)))) :: (u.1 0, .inr (4, [.int (nI (lr (wid M 4 0))), .ref (u.1 1), .ref (u.1 2), .ref (u.1 3)])) :: (u.2.1, .inl (g 3, 4, .inr (.inr (.inr (.inr (fun i => some (u.1 (4 * i)))))))) :: wr)) (A)) [.int (nI 3), .int (nI M)].toArray s 19 849 A = Q
  have hRc : (headSpec w_C_codeOf rm_C_codeOf).room.cells = 19 := rfl
  have hRs : (headSpec w_C_codeOf rm_C_codeOf).room.slots = 849 := rfl
  refine lv_iload_n hx hb d_C_codeOf_0 rfl (lv_at hl 0 rfl) ?_
  refine lv_tableOut (tgt := 75) hx hb d_C_codeOf_1 (by decide) (by decide) ?_
  refine lx_new (ci := 1) (fs := [.int (nI 0), .int (nI 0), .null, .null]) (C := R_S) (T := F_S) (N := 4) hx hb hts i_S tf_S tf_S_ok hown (hts _ m_66) (hts _ m_67) (hts _ m_33) hK hP hD hS hA rfl (by decide +kernel) (Nat.le_of_ble_eq_true rfl) (Nat.le_of_ble_eq_true rfl) d_C_codeOf_75 (fun o H hP hD hS => ?_)
  refine W.widen (k := 1) (n := 4) (by omega) (by omega) ?_
  have hP : va_P D vwCl ((o, .inr (1, [.int (nI 0), .int (nI 0), .null, .null])) :: wr) H := hP
  have hD : va_D A ((o, .inr (1, [.int (nI 0), .int (nI 0), .null, .null])) :: wr) := hD
  refine lv_dup hx hb d_C_codeOf_78 rfl ?_
  refine lv_iload_n hx hb d_C_codeOf_79 rfl (lv_at hl 1 rfl) ?_
  refine lv_iload_n hx hb d_C_codeOf_80 rfl (lv_at hl 1 rfl) ?_
  refine lc_Sr (As := [.int (nI M)]) (rest := [.int (nI M), .ref o, .ref o]) ⟨hx, hb, hml, hown, hts⟩ (c_C_lanesOf_4 l D g _ _ M hM hM57) (kS 1 hts m_186 m_184 m_185 m_30 (by decide +kernel) ⟨Nat.le_of_ble_eq_true rfl, Nat.le_of_ble_eq_true rfl⟩) hKK hP hD hS hA hl.1 rfl rfl (Nat.le_of_ble_eq_true rfl) d_C_codeOf_81 ⟨Nat.le_of_ble_eq_true rfl, Nat.le_of_ble_eq_true rfl⟩ (fun u1 al H locs _ hP hD hS => ?_)
  refine W.widen (k := 1 + 17) (n := 4 + 788) (by omega) (by omega) ?_
  have hP : va_P D vwCl ((u1 15, .inl (g 0, 2 ^ lr (wid M 4 3), .inl (fun s => oI (ba (lr (wid M 4 3)) (wid M 4 3) (wid M 4 3) s)))) :: (u1 14, .inl (g 0, lr (wid M 4 3), .inl (fun r => nI (rsf (lr (wid M 4 3)) (wid M 4 3) r)))) :: (u1 13, .inl (g 0, (wid M 4 3), .inl (fun j => nI (if j < wid M 4 3 then cc_ (lr (wid M 4 3)) j else 0)))) :: (u1 12, .inr (4, [.int (nI (lr (wid M 4 3))), .ref (u1 13), .ref (u1 14), .ref (u1 15)])) :: (u1 11, .inl (g 0, 2 ^ lr (wid M 4 2), .inl (fun s => oI (ba (lr (wid M 4 2)) (wid M 4 2) (wid M 4 2) s)))) :: (u1 10, .inl (g 0, lr (wid M 4 2), .inl (fun r => nI (rsf (lr (wid M 4 2)) (wid M 4 2) r)))) :: (u1 9, .inl (g 0, (wid M 4 2), .inl (fun j => nI (if j < wid M 4 2 then cc_ (lr (wid M 4 2)) j else 0)))) :: (u1 8, .inr (4, [.int (nI (lr (wid M 4 2))), .ref (u1 9), .ref (u1 10), .ref (u1 11)])) :: (u1 7, .inl (g 0, 2 ^ lr (wid M 4 1), .inl (fun s => oI (ba (lr (wid M 4 1)) (wid M 4 1) (wid M 4 1) s)))) :: (u1 6, .inl (g 0, lr (wid M 4 1), .inl (fun r => nI (rsf (lr (wid M 4 1)) (wid M 4 1) r)))) :: (u1 5, .inl (g 0, (wid M 4 1), .inl (fun j => nI (if j < wid M 4 1 then cc_ (lr (wid M 4 1)) j else 0)))) :: (u1 4, .inr (4, [.int (nI (lr (wid M 4 1))), .ref (u1 5), .ref (u1 6), .ref (u1 7)])) :: (u1 3, .inl (g 0, 2 ^ lr (wid M 4 0), .inl (fun s => oI (ba (lr (wid M 4 0)) (wid M 4 0) (wid M 4 0) s)))) :: (u1 2, .inl (g 0, lr (wid M 4 0), .inl (fun r => nI (rsf (lr (wid M 4 0)) (wid M 4 0) r)))) :: (u1 1, .inl (g 0, (wid M 4 0), .inl (fun j => nI (if j < wid M 4 0 then cc_ (lr (wid M 4 0)) j else 0)))) :: (u1 0, .inr (4, [.int (nI (lr (wid M 4 0))), .ref (u1 1), .ref (u1 2), .ref (u1 3)])) :: (al, .inl (g 3, 4, .inr (.inr (.inr (.inr (fun i => some (u1 (4 * i)))))))) :: (o, .inr (1, [.int (nI 0), .int (nI 0), .null, .null])) :: wr) H := hP
  have hD : va_D A ((u1 15, .inl (g 0, 2 ^ lr (wid M 4 3), .inl (fun s => oI (ba (lr (wid M 4 3)) (wid M 4 3) (wid M 4 3) s)))) :: (u1 14, .inl (g 0, lr (wid M 4 3), .inl (fun r => nI (rsf (lr (wid M 4 3)) (wid M 4 3) r)))) :: (u1 13, .inl (g 0, (wid M 4 3), .inl (fun j => nI (if j < wid M 4 3 then cc_ (lr (wid M 4 3)) j else 0)))) :: (u1 12, .inr (4, [.int (nI (lr (wid M 4 3))), .ref (u1 13), .ref (u1 14), .ref (u1 15)])) :: (u1 11, .inl (g 0, 2 ^ lr (wid M 4 2), .inl (fun s => oI (ba (lr (wid M 4 2)) (wid M 4 2) (wid M 4 2) s)))) :: (u1 10, .inl (g 0, lr (wid M 4 2), .inl (fun r => nI (rsf (lr (wid M 4 2)) (wid M 4 2) r)))) :: (u1 9, .inl (g 0, (wid M 4 2), .inl (fun j => nI (if j < wid M 4 2 then cc_ (lr (wid M 4 2)) j else 0)))) :: (u1 8, .inr (4, [.int (nI (lr (wid M 4 2))), .ref (u1 9), .ref (u1 10), .ref (u1 11)])) :: (u1 7, .inl (g 0, 2 ^ lr (wid M 4 1), .inl (fun s => oI (ba (lr (wid M 4 1)) (wid M 4 1) (wid M 4 1) s)))) :: (u1 6, .inl (g 0, lr (wid M 4 1), .inl (fun r => nI (rsf (lr (wid M 4 1)) (wid M 4 1) r)))) :: (u1 5, .inl (g 0, (wid M 4 1), .inl (fun j => nI (if j < wid M 4 1 then cc_ (lr (wid M 4 1)) j else 0)))) :: (u1 4, .inr (4, [.int (nI (lr (wid M 4 1))), .ref (u1 5), .ref (u1 6), .ref (u1 7)])) :: (u1 3, .inl (g 0, 2 ^ lr (wid M 4 0), .inl (fun s => oI (ba (lr (wid M 4 0)) (wid M 4 0) (wid M 4 0) s)))) :: (u1 2, .inl (g 0, lr (wid M 4 0), .inl (fun r => nI (rsf (lr (wid M 4 0)) (wid M 4 0) r)))) :: (u1 1, .inl (g 0, (wid M 4 0), .inl (fun j => nI (if j < wid M 4 0 then cc_ (lr (wid M 4 0)) j else 0)))) :: (u1 0, .inr (4, [.int (nI (lr (wid M 4 0))), .ref (u1 1), .ref (u1 2), .ref (u1 3)])) :: (al, .inl (g 3, 4, .inr (.inr (.inr (.inr (fun i => some (u1 (4 * i)))))))) :: (o, .inr (1, [.int (nI 0), .int (nI 0), .null, .null])) :: wr) := hD
  have hP : va_P D vwCl ((o, .inr (1, [.int (nI 0), .int (nI 0), .null, .null])) :: (u1 15, .inl (g 0, 2 ^ lr (wid M 4 3), .inl (fun s => oI (ba (lr (wid M 4 3)) (wid M 4 3) (wid M 4 3) s)))) :: (u1 14, .inl (g 0, lr (wid M 4 3), .inl (fun r => nI (rsf (lr (wid M 4 3)) (wid M 4 3) r)))) :: (u1 13, .inl (g 0, (wid M 4 3), .inl (fun j => nI (if j < wid M 4 3 then cc_ (lr (wid M 4 3)) j else 0)))) :: (u1 12, .inr (4, [.int (nI (lr (wid M 4 3))), .ref (u1 13), .ref (u1 14), .ref (u1 15)])) :: (u1 11, .inl (g 0, 2 ^ lr (wid M 4 2), .inl (fun s => oI (ba (lr (wid M 4 2)) (wid M 4 2) (wid M 4 2) s)))) :: (u1 10, .inl (g 0, lr (wid M 4 2), .inl (fun r => nI (rsf (lr (wid M 4 2)) (wid M 4 2) r)))) :: (u1 9, .inl (g 0, (wid M 4 2), .inl (fun j => nI (if j < wid M 4 2 then cc_ (lr (wid M 4 2)) j else 0)))) :: (u1 8, .inr (4, [.int (nI (lr (wid M 4 2))), .ref (u1 9), .ref (u1 10), .ref (u1 11)])) :: (u1 7, .inl (g 0, 2 ^ lr (wid M 4 1), .inl (fun s => oI (ba (lr (wid M 4 1)) (wid M 4 1) (wid M 4 1) s)))) :: (u1 6, .inl (g 0, lr (wid M 4 1), .inl (fun r => nI (rsf (lr (wid M 4 1)) (wid M 4 1) r)))) :: (u1 5, .inl (g 0, (wid M 4 1), .inl (fun j => nI (if j < wid M 4 1 then cc_ (lr (wid M 4 1)) j else 0)))) :: (u1 4, .inr (4, [.int (nI (lr (wid M 4 1))), .ref (u1 5), .ref (u1 6), .ref (u1 7)])) :: (u1 3, .inl (g 0, 2 ^ lr (wid M 4 0), .inl (fun s => oI (ba (lr (wid M 4 0)) (wid M 4 0) (wid M 4 0) s)))) :: (u1 2, .inl (g 0, lr (wid M 4 0), .inl (fun r => nI (rsf (lr (wid M 4 0)) (wid M 4 0) r)))) :: (u1 1, .inl (g 0, (wid M 4 0), .inl (fun j => nI (if j < wid M 4 0 then cc_ (lr (wid M 4 0)) j else 0)))) :: (u1 0, .inr (4, [.int (nI (lr (wid M 4 0))), .ref (u1 1), .ref (u1 2), .ref (u1 3)])) :: (al, .inl (g 3, 4, .inr (.inr (.inr (.inr (fun i => some (u1 (4 * i)))))))) :: wr) H := wp_pull [(u1 15, .inl (g 0, 2 ^ lr (wid M 4 3), .inl (fun s => oI (ba (lr (wid M 4 3)) (wid M 4 3) (wid M 4 3) s)))), (u1 14, .inl (g 0, lr (wid M 4 3), .inl (fun r => nI (rsf (lr (wid M 4 3)) (wid M 4 3) r)))), (u1 13, .inl (g 0, (wid M 4 3), .inl (fun j => nI (if j < wid M 4 3 then cc_ (lr (wid M 4 3)) j else 0)))), (u1 12, .inr (4, [.int (nI (lr (wid M 4 3))), .ref (u1 13), .ref (u1 14), .ref (u1 15)])), (u1 11, .inl (g 0, 2 ^ lr (wid M 4 2), .inl (fun s => oI (ba (lr (wid M 4 2)) (wid M 4 2) (wid M 4 2) s)))), (u1 10, .inl (g 0, lr (wid M 4 2), .inl (fun r => nI (rsf (lr (wid M 4 2)) (wid M 4 2) r)))), (u1 9, .inl (g 0, (wid M 4 2), .inl (fun j => nI (if j < wid M 4 2 then cc_ (lr (wid M 4 2)) j else 0)))), (u1 8, .inr (4, [.int (nI (lr (wid M 4 2))), .ref (u1 9), .ref (u1 10), .ref (u1 11)])), (u1 7, .inl (g 0, 2 ^ lr (wid M 4 1), .inl (fun s => oI (ba (lr (wid M 4 1)) (wid M 4 1) (wid M 4 1) s)))), (u1 6, .inl (g 0, lr (wid M 4 1), .inl (fun r => nI (rsf (lr (wid M 4 1)) (wid M 4 1) r)))), (u1 5, .inl (g 0, (wid M 4 1), .inl (fun j => nI (if j < wid M 4 1 then cc_ (lr (wid M 4 1)) j else 0)))), (u1 4, .inr (4, [.int (nI (lr (wid M 4 1))), .ref (u1 5), .ref (u1 6), .ref (u1 7)])), (u1 3, .inl (g 0, 2 ^ lr (wid M 4 0), .inl (fun s => oI (ba (lr (wid M 4 0)) (wid M 4 0) (wid M 4 0) s)))), (u1 2, .inl (g 0, lr (wid M 4 0), .inl (fun r => nI (rsf (lr (wid M 4 0)) (wid M 4 0) r)))), (u1 1, .inl (g 0, (wid M 4 0), .inl (fun j => nI (if j < wid M 4 0 then cc_ (lr (wid M 4 0)) j else 0)))), (u1 0, .inr (4, [.int (nI (lr (wid M 4 0))), .ref (u1 1), .ref (u1 2), .ref (u1 3)])), (al, .inl (g 3, 4, .inr (.inr (.inr (.inr (fun i => some (u1 (4 * i))))))))] hP
  have hD : va_D A ((o, .inr (1, [.int (nI 0), .int (nI 0), .null, .null])) :: (u1 15, .inl (g 0, 2 ^ lr (wid M 4 3), .inl (fun s => oI (ba (lr (wid M 4 3)) (wid M 4 3) (wid M 4 3) s)))) :: (u1 14, .inl (g 0, lr (wid M 4 3), .inl (fun r => nI (rsf (lr (wid M 4 3)) (wid M 4 3) r)))) :: (u1 13, .inl (g 0, (wid M 4 3), .inl (fun j => nI (if j < wid M 4 3 then cc_ (lr (wid M 4 3)) j else 0)))) :: (u1 12, .inr (4, [.int (nI (lr (wid M 4 3))), .ref (u1 13), .ref (u1 14), .ref (u1 15)])) :: (u1 11, .inl (g 0, 2 ^ lr (wid M 4 2), .inl (fun s => oI (ba (lr (wid M 4 2)) (wid M 4 2) (wid M 4 2) s)))) :: (u1 10, .inl (g 0, lr (wid M 4 2), .inl (fun r => nI (rsf (lr (wid M 4 2)) (wid M 4 2) r)))) :: (u1 9, .inl (g 0, (wid M 4 2), .inl (fun j => nI (if j < wid M 4 2 then cc_ (lr (wid M 4 2)) j else 0)))) :: (u1 8, .inr (4, [.int (nI (lr (wid M 4 2))), .ref (u1 9), .ref (u1 10), .ref (u1 11)])) :: (u1 7, .inl (g 0, 2 ^ lr (wid M 4 1), .inl (fun s => oI (ba (lr (wid M 4 1)) (wid M 4 1) (wid M 4 1) s)))) :: (u1 6, .inl (g 0, lr (wid M 4 1), .inl (fun r => nI (rsf (lr (wid M 4 1)) (wid M 4 1) r)))) :: (u1 5, .inl (g 0, (wid M 4 1), .inl (fun j => nI (if j < wid M 4 1 then cc_ (lr (wid M 4 1)) j else 0)))) :: (u1 4, .inr (4, [.int (nI (lr (wid M 4 1))), .ref (u1 5), .ref (u1 6), .ref (u1 7)])) :: (u1 3, .inl (g 0, 2 ^ lr (wid M 4 0), .inl (fun s => oI (ba (lr (wid M 4 0)) (wid M 4 0) (wid M 4 0) s)))) :: (u1 2, .inl (g 0, lr (wid M 4 0), .inl (fun r => nI (rsf (lr (wid M 4 0)) (wid M 4 0) r)))) :: (u1 1, .inl (g 0, (wid M 4 0), .inl (fun j => nI (if j < wid M 4 0 then cc_ (lr (wid M 4 0)) j else 0)))) :: (u1 0, .inr (4, [.int (nI (lr (wid M 4 0))), .ref (u1 1), .ref (u1 2), .ref (u1 3)])) :: (al, .inl (g 3, 4, .inr (.inr (.inr (.inr (fun i => some (u1 (4 * i)))))))) :: wr) := wd_pull [(u1 15, .inl (g 0, 2 ^ lr (wid M 4 3), .inl (fun s => oI (ba (lr (wid M 4 3)) (wid M 4 3) (wid M 4 3) s)))), (u1 14, .inl (g 0, lr (wid M 4 3), .inl (fun r => nI (rsf (lr (wid M 4 3)) (wid M 4 3) r)))), (u1 13, .inl (g 0, (wid M 4 3), .inl (fun j => nI (if j < wid M 4 3 then cc_ (lr (wid M 4 3)) j else 0)))), (u1 12, .inr (4, [.int (nI (lr (wid M 4 3))), .ref (u1 13), .ref (u1 14), .ref (u1 15)])), (u1 11, .inl (g 0, 2 ^ lr (wid M 4 2), .inl (fun s => oI (ba (lr (wid M 4 2)) (wid M 4 2) (wid M 4 2) s)))), (u1 10, .inl (g 0, lr (wid M 4 2), .inl (fun r => nI (rsf (lr (wid M 4 2)) (wid M 4 2) r)))), (u1 9, .inl (g 0, (wid M 4 2), .inl (fun j => nI (if j < wid M 4 2 then cc_ (lr (wid M 4 2)) j else 0)))), (u1 8, .inr (4, [.int (nI (lr (wid M 4 2))), .ref (u1 9), .ref (u1 10), .ref (u1 11)])), (u1 7, .inl (g 0, 2 ^ lr (wid M 4 1), .inl (fun s => oI (ba (lr (wid M 4 1)) (wid M 4 1) (wid M 4 1) s)))), (u1 6, .inl (g 0, lr (wid M 4 1), .inl (fun r => nI (rsf (lr (wid M 4 1)) (wid M 4 1) r)))), (u1 5, .inl (g 0, (wid M 4 1), .inl (fun j => nI (if j < wid M 4 1 then cc_ (lr (wid M 4 1)) j else 0)))), (u1 4, .inr (4, [.int (nI (lr (wid M 4 1))), .ref (u1 5), .ref (u1 6), .ref (u1 7)])), (u1 3, .inl (g 0, 2 ^ lr (wid M 4 0), .inl (fun s => oI (ba (lr (wid M 4 0)) (wid M 4 0) (wid M 4 0) s)))), (u1 2, .inl (g 0, lr (wid M 4 0), .inl (fun r => nI (rsf (lr (wid M 4 0)) (wid M 4 0) r)))), (u1 1, .inl (g 0, (wid M 4 0), .inl (fun j => nI (if j < wid M 4 0 then cc_ (lr (wid M 4 0)) j else 0)))), (u1 0, .inr (4, [.int (nI (lr (wid M 4 0))), .ref (u1 1), .ref (u1 2), .ref (u1 3)])), (al, .inl (g 3, 4, .inr (.inr (.inr (.inr (fun i => some (u1 (4 * i))))))))] hD
  refine lc_Iv (b := o) (As := [.int (nI M), .ref al]) (rest := [.ref o]) ⟨hx, hb, hml, hown, hts⟩ (c_S_init l D g _ _ M 4 o hM57 (by decide) 16 al (fun i => some (u1 (4 * i))) (fun i => 12 - 4 * i + 3) (fun i => 12 - 4 * i + 2) (fun i => 12 - 4 * i + 1) (fun i => 12 - 4 * i + 0) (fun i => u1 (4 * i)) (fun i => u1 (4 * i + 1)) (fun i => u1 (4 * i + 2)) (fun i => u1 (4 * i + 3)) rfl (fun i _ => rfl) (fun i hi => by rcases (show i = 0 ∨ i = 1 ∨ i = 2 ∨ i = 3 by omega) with rfl | rfl | rfl | rfl <;> rfl) (fun i hi => by rcases (show i = 0 ∨ i = 1 ∨ i = 2 ∨ i = 3 by omega) with rfl | rfl | rfl | rfl <;> rfl)) (kI 2 hts m_118 m_116 m_117 m_33 rfl (by decide +kernel) ⟨Nat.le_of_ble_eq_true rfl, Nat.le_of_ble_eq_true rfl⟩) hKK hP hD hS hA hl.1 rfl rfl (Nat.le_of_ble_eq_true rfl) d_C_codeOf_84 ⟨by first | omega | exact Nat.le_of_ble_eq_true rfl, by first | omega | exact Nat.le_of_ble_eq_true rfl⟩ (fun am H locs _ hP hD hS => ?_)
  refine W.widen (k := 1 + 17 + 1) (n := 4 + 788 + 57) (by omega) (by omega) ?_
  have hP : va_P D vwCl ((o, .inr (1, [.int (nI M), .int (nI (frm M 4 4)), .ref am, .ref al])) :: (am, .inl (g 0, M, .inl (fun k => nI (mkS M 4 k)))) :: (u1 15, .inl (g 0, 2 ^ lr (wid M 4 3), .inl (fun s => oI (ba (lr (wid M 4 3)) (wid M 4 3) (wid M 4 3) s)))) :: (u1 14, .inl (g 0, lr (wid M 4 3), .inl (fun r => nI (rsf (lr (wid M 4 3)) (wid M 4 3) r)))) :: (u1 13, .inl (g 0, (wid M 4 3), .inl (fun j => nI (if j < wid M 4 3 then cc_ (lr (wid M 4 3)) j else 0)))) :: (u1 12, .inr (4, [.int (nI (lr (wid M 4 3))), .ref (u1 13), .ref (u1 14), .ref (u1 15)])) :: (u1 11, .inl (g 0, 2 ^ lr (wid M 4 2), .inl (fun s => oI (ba (lr (wid M 4 2)) (wid M 4 2) (wid M 4 2) s)))) :: (u1 10, .inl (g 0, lr (wid M 4 2), .inl (fun r => nI (rsf (lr (wid M 4 2)) (wid M 4 2) r)))) :: (u1 9, .inl (g 0, (wid M 4 2), .inl (fun j => nI (if j < wid M 4 2 then cc_ (lr (wid M 4 2)) j else 0)))) :: (u1 8, .inr (4, [.int (nI (lr (wid M 4 2))), .ref (u1 9), .ref (u1 10), .ref (u1 11)])) :: (u1 7, .inl (g 0, 2 ^ lr (wid M 4 1), .inl (fun s => oI (ba (lr (wid M 4 1)) (wid M 4 1) (wid M 4 1) s)))) :: (u1 6, .inl (g 0, lr (wid M 4 1), .inl (fun r => nI (rsf (lr (wid M 4 1)) (wid M 4 1) r)))) :: (u1 5, .inl (g 0, (wid M 4 1), .inl (fun j => nI (if j < wid M 4 1 then cc_ (lr (wid M 4 1)) j else 0)))) :: (u1 4, .inr (4, [.int (nI (lr (wid M 4 1))), .ref (u1 5), .ref (u1 6), .ref (u1 7)])) :: (u1 3, .inl (g 0, 2 ^ lr (wid M 4 0), .inl (fun s => oI (ba (lr (wid M 4 0)) (wid M 4 0) (wid M 4 0) s)))) :: (u1 2, .inl (g 0, lr (wid M 4 0), .inl (fun r => nI (rsf (lr (wid M 4 0)) (wid M 4 0) r)))) :: (u1 1, .inl (g 0, (wid M 4 0), .inl (fun j => nI (if j < wid M 4 0 then cc_ (lr (wid M 4 0)) j else 0)))) :: (u1 0, .inr (4, [.int (nI (lr (wid M 4 0))), .ref (u1 1), .ref (u1 2), .ref (u1 3)])) :: (al, .inl (g 3, 4, .inr (.inr (.inr (.inr (fun i => some (u1 (4 * i)))))))) :: wr) H := hP
  have hD : va_D A ((o, .inr (1, [.int (nI M), .int (nI (frm M 4 4)), .ref am, .ref al])) :: (am, .inl (g 0, M, .inl (fun k => nI (mkS M 4 k)))) :: (u1 15, .inl (g 0, 2 ^ lr (wid M 4 3), .inl (fun s => oI (ba (lr (wid M 4 3)) (wid M 4 3) (wid M 4 3) s)))) :: (u1 14, .inl (g 0, lr (wid M 4 3), .inl (fun r => nI (rsf (lr (wid M 4 3)) (wid M 4 3) r)))) :: (u1 13, .inl (g 0, (wid M 4 3), .inl (fun j => nI (if j < wid M 4 3 then cc_ (lr (wid M 4 3)) j else 0)))) :: (u1 12, .inr (4, [.int (nI (lr (wid M 4 3))), .ref (u1 13), .ref (u1 14), .ref (u1 15)])) :: (u1 11, .inl (g 0, 2 ^ lr (wid M 4 2), .inl (fun s => oI (ba (lr (wid M 4 2)) (wid M 4 2) (wid M 4 2) s)))) :: (u1 10, .inl (g 0, lr (wid M 4 2), .inl (fun r => nI (rsf (lr (wid M 4 2)) (wid M 4 2) r)))) :: (u1 9, .inl (g 0, (wid M 4 2), .inl (fun j => nI (if j < wid M 4 2 then cc_ (lr (wid M 4 2)) j else 0)))) :: (u1 8, .inr (4, [.int (nI (lr (wid M 4 2))), .ref (u1 9), .ref (u1 10), .ref (u1 11)])) :: (u1 7, .inl (g 0, 2 ^ lr (wid M 4 1), .inl (fun s => oI (ba (lr (wid M 4 1)) (wid M 4 1) (wid M 4 1) s)))) :: (u1 6, .inl (g 0, lr (wid M 4 1), .inl (fun r => nI (rsf (lr (wid M 4 1)) (wid M 4 1) r)))) :: (u1 5, .inl (g 0, (wid M 4 1), .inl (fun j => nI (if j < wid M 4 1 then cc_ (lr (wid M 4 1)) j else 0)))) :: (u1 4, .inr (4, [.int (nI (lr (wid M 4 1))), .ref (u1 5), .ref (u1 6), .ref (u1 7)])) :: (u1 3, .inl (g 0, 2 ^ lr (wid M 4 0), .inl (fun s => oI (ba (lr (wid M 4 0)) (wid M 4 0) (wid M 4 0) s)))) :: (u1 2, .inl (g 0, lr (wid M 4 0), .inl (fun r => nI (rsf (lr (wid M 4 0)) (wid M 4 0) r)))) :: (u1 1, .inl (g 0, (wid M 4 0), .inl (fun j => nI (if j < wid M 4 0 then cc_ (lr (wid M 4 0)) j else 0)))) :: (u1 0, .inr (4, [.int (nI (lr (wid M 4 0))), .ref (u1 1), .ref (u1 2), .ref (u1 3)])) :: (al, .inl (g 3, 4, .inr (.inr (.inr (.inr (fun i => some (u1 (4 * i)))))))) :: wr) := hD
  refine W.widen (k := 19) (n := 849) (by omega) (by omega) ?_
  rw [← hQ]
  refine W.aret (v := .ref o) hx hb hr (by first | exact Or.inl ⟨_, rfl⟩ | exact Or.inr ⟨_, rfl⟩) (Or.inr ⟨_, rfl⟩) ?_ hS.2.2 d_C_codeOf_87
  exact fun t ht hW => ⟨⟨(u1, al, am), o, rfl, trivial, by rw [ht]; exact hP, hD⟩, hS.F ht⟩
set_option maxHeartbeats 4000000 in
set_option maxRecDepth 100000 in
theorem c_T_init (l : Launch) (D : va_G) (g : Nat → ClassId) (sz : Nat) (wr : va_W) (o : Nat) : Met l y_T_init w_T_init rm_T_init (va_Pc [.ref o] (pP D (tyl g) ((o, .inr (5, [.long (lN 0), .int (nI 0)])) :: wr) sz)) (va_Qv (fun (u : Unit) => True) (fun u => qB D (va_A ((o, .inr (5, [.long (lN 0), .int (nI 0)])) :: wr) sz) ((o, .inr (5, [.long (lN 0), .int (nI 0)])) :: wr)) (va_A ((o, .inr (5, [.long (lN 0), .int (nI 0)])) :: wr) sz)) 0 0 (va_A ((o, .inr (5, [.long (lN 0), .int (nI 0)])) :: wr) sz) := by
  refine Met.ofW (cc := b_T_init) (maxL := 1) (ret := none) (by decide +kernel) rfl ?_
  intro p e s m args below meth c s₁ Bq hml hv
  have hx := Bq.exec
  have hb := Bq.bytes
  have hr := Bq.returns
  have hts : ∀ w ∈ wA, w.before args s = true := fun w h => atoms_spec (ws := w_T_init) Bq.pre w (List.mem_cons_of_mem _ h)
  have hown : s.vm.findClass R_T = some m.cls := findClass_of_methodNamed Bq.named
  have hlocks := Bq.notSynchronized
  have hin : meth.name = "<init>" := (name_of_methodNamed Bq.named Bq.method).1
  obtain ⟨rfl, hsz, hP, hKK, hD0⟩ := hv
  have hK := hKK.1
  subst hsz
  have hD := hD0.self (sz := s.heap.size)
  generalize hAe : va_A ((o, .inr (5, [.long (lN 0), .int (nI 0)])) :: wr) s.heap.size = A at hD ⊢
  have hA : ∀ q : Nat, s.heap.size ≤ q → A q := fun q h => by rw [← hAe]; exact Or.inr h
  have hS : va_S A s.heap s.heap [] := va_S.rf
  have hl := lv_entry ([.ref o]) (n := 1) (Nat.le_of_ble_eq_true rfl)
  rw [lg_entry_eq]
  generalize (lg_sl ([.ref o]) ++ List.replicate (1 - (lg_sl ([.ref o])).length) Slot.unset).toArray = ls at hl ⊢
  have hl : lv_has ls 1 [(0, .ref o)] := hl
  generalize hQ : MQ below (va_Qv (fun (u : Unit) => True) (fun u => qB D (A) ((o, .inr (5, [.long (lN 0), .int (nI 0)])) :: wr)) (A)) [.ref o].toArray s 0 0 A = Q
  refine lv_aload_n hx hb d_T_init_0 rfl (lv_at hl 0 rfl) ?_
  refine W.objInit hx hb hown (hts _ m_192) (hts _ m_54) (hts _ m_55) rfl (by rw [hml]; exact hl.1) rfl d_T_init_1 (Nat.le_of_ble_eq_true rfl) (Nat.le_of_ble_eq_true rfl) ?_
  refine W.eq (g2 := F0 m 4 ls []) rfl ?_
  rw [← hQ]
  refine W.vret hx hb hr ?_ hS.2.2 d_T_init_4
  exact fun t ht hW => ⟨⟨(), rfl, trivial, by rw [ht]; exact hP, hD⟩, hS.F ht⟩
