set_option maxRecDepth 20000 in
theorem m_132 : Cond.methodLink R_K 1 objectInit ∈ wA := in_wA (List.mem_of_getElem? (i := 132) rfl) rfl
set_option maxRecDepth 20000 in
theorem m_137 : Cond.fieldLink R_K 13 R_K "checkBits" "I" ∈ wA := in_wA (List.mem_of_getElem? (i := 137) rfl) rfl
set_option maxRecDepth 20000 in
theorem m_68 : Cond.classLink R_C 175 R_L ∈ wA := in_wA (List.mem_of_getElem? (i := 68) rfl) rfl
set_option maxRecDepth 20000 in
theorem m_70 : Cond.instantiable R_L 4 ∈ wA := in_wA (List.mem_of_getElem? (i := 70) rfl) rfl
set_option maxRecDepth 20000 in
theorem m_73 : Cond.code y_L_init b_L_init 4 none ∈ wA := in_wA (List.mem_of_getElem? (i := 73) rfl) rfl
set_option maxRecDepth 20000 in
theorem m_71 : Cond.methodLink R_C 177 y_L_init ∈ wA := in_wA (List.mem_of_getElem? (i := 71) rfl) rfl
set_option maxRecDepth 20000 in
theorem m_72 : Cond.instanceMethod y_L_init ∈ wA := in_wA (List.mem_of_getElem? (i := 72) rfl) rfl
set_option maxRecDepth 20000 in
theorem m_101 : Cond.fieldLink R_S 23 R_L "checkBits" "I" ∈ wA := in_wA (List.mem_of_getElem? (i := 101) rfl) rfl
set_option maxRecDepth 20000 in
theorem m_128 : Cond.code y_L_columnAt b_L_columnAt 2 (some .int) ∈ wA := in_wA (List.mem_of_getElem? (i := 128) rfl) rfl
set_option maxRecDepth 20000 in
theorem m_125 : Cond.methodLink R_S 29 y_L_columnAt ∈ wA := in_wA (List.mem_of_getElem? (i := 125) rfl) rfl
set_option maxRecDepth 20000 in
theorem m_126 : Cond.instanceMethod y_L_columnAt ∈ wA := in_wA (List.mem_of_getElem? (i := 126) rfl) rfl
set_option maxRecDepth 20000 in
theorem m_127 : Cond.selects R_L y_L_columnAt y_L_columnAt ∈ wA := in_wA (List.mem_of_getElem? (i := 127) rfl) rfl
set_option maxRecDepth 20000 in
theorem m_121 : Cond.code y_S_checkBitsOf b_S_checkBitsOf 6 (some .int) ∈ wA := in_wA (List.mem_of_getElem? (i := 121) rfl) rfl
set_option maxRecDepth 20000 in
theorem m_119 : Cond.methodLink R_S 3 y_S_checkBitsOf ∈ wA := in_wA (List.mem_of_getElem? (i := 119) rfl) rfl
set_option maxRecDepth 20000 in
theorem m_120 : Cond.static y_S_checkBitsOf ∈ wA := in_wA (List.mem_of_getElem? (i := 120) rfl) rfl
set_option maxRecDepth 20000 in
theorem m_33 : Cond.initialized R_S ∈ wA := in_wA (List.mem_of_getElem? (i := 33) rfl) rfl
set_option maxRecDepth 20000 in
theorem m_124 : Cond.code y_S_marksOf b_S_marksOf 6 (some (.array .int)) ∈ wA := in_wA (List.mem_of_getElem? (i := 124) rfl) rfl
set_option maxRecDepth 20000 in
theorem m_122 : Cond.methodLink R_S 9 y_S_marksOf ∈ wA := in_wA (List.mem_of_getElem? (i := 122) rfl) rfl
set_option maxRecDepth 20000 in
theorem m_123 : Cond.static y_S_marksOf ∈ wA := in_wA (List.mem_of_getElem? (i := 123) rfl) rfl
set_option maxRecDepth 20000 in
theorem m_131 : Cond.code y_K_init b_K_init 4 none ∈ wA := in_wA (List.mem_of_getElem? (i := 131) rfl) rfl
set_option maxRecDepth 20000 in
theorem m_129 : Cond.methodLink R_S 13 y_K_init ∈ wA := in_wA (List.mem_of_getElem? (i := 129) rfl) rfl
set_option maxRecDepth 20000 in
theorem m_130 : Cond.instanceMethod y_K_init ∈ wA := in_wA (List.mem_of_getElem? (i := 130) rfl) rfl
set_option maxRecDepth 20000 in
theorem m_32 : Cond.initialized R_K ∈ wA := in_wA (List.mem_of_getElem? (i := 32) rfl) rfl
set_option maxRecDepth 20000 in
theorem m_133 : Cond.fieldLink R_S 19 R_S "lanes" "[LCheckCodes$Lane;" ∈ wA := in_wA (List.mem_of_getElem? (i := 133) rfl) rfl
abbrev w_K_init : List Cond := .code y_K_init b_K_init 4 none :: wA
abbrev rm_K_init : Room := { frames := 1, cells := 0, slots := 0, locals := 12 }
theorem d_K_init_0 : decode b_K_init 0 = .ok (.aload_n 0, 1) := by decide +kernel
theorem d_K_init_1 : decode b_K_init 1 = .ok (.invokespecial 1, 3) := by decide +kernel
theorem d_K_init_4 : decode b_K_init 4 = .ok (.aload_n 0, 1) := by decide +kernel
theorem d_K_init_5 : decode b_K_init 5 = .ok (.iload_n 1, 1) := by decide +kernel
theorem d_K_init_6 : decode b_K_init 6 = .ok (.putfield 7, 3) := by decide +kernel
theorem d_K_init_9 : decode b_K_init 9 = .ok (.aload_n 0, 1) := by decide +kernel
theorem d_K_init_10 : decode b_K_init 10 = .ok (.iload_n 2, 1) := by decide +kernel
theorem d_K_init_11 : decode b_K_init 11 = .ok (.putfield 13, 3) := by decide +kernel
theorem d_K_init_14 : decode b_K_init 14 = .ok (.aload_n 0, 1) := by decide +kernel
theorem d_K_init_15 : decode b_K_init 15 = .ok (.aload_n 3, 1) := by decide +kernel
theorem d_K_init_16 : decode b_K_init 16 = .ok (.putfield 16, 3) := by decide +kernel
theorem d_K_init_19 : decode b_K_init 19 = .ok (.return_, 1) := by decide +kernel
abbrev w_C_lanesOfKind3 : List Cond := .code y_C_lanesOfKind3 b_C_lanesOfKind3 3 (some (.array (.object "CheckCodes$Lane"))) :: wA
abbrev rm_C_lanesOfKind3 : Room := { frames := 4, cells := 17, slots := 788, locals := 96 }
theorem d_C_lanesOfKind3_0 : decode b_C_lanesOfKind3 0 = .ok (.iconst 4, 1) := by decide +kernel
theorem d_C_lanesOfKind3_1 : decode b_C_lanesOfKind3 1 = .ok (.anewarray 175, 3) := by decide +kernel
theorem d_C_lanesOfKind3_4 : decode b_C_lanesOfKind3 4 = .ok (.astore_n 1, 1) := by decide +kernel
theorem d_C_lanesOfKind3_5 : decode b_C_lanesOfKind3 5 = .ok (.iconst 0, 1) := by decide +kernel
theorem d_C_lanesOfKind3_6 : decode b_C_lanesOfKind3 6 = .ok (.istore_n 2, 1) := by decide +kernel
theorem d_C_lanesOfKind3_7 : decode b_C_lanesOfKind3 7 = .ok (.iload_n 2, 1) := by decide +kernel
theorem d_C_lanesOfKind3_8 : decode b_C_lanesOfKind3 8 = .ok (.aload_n 1, 1) := by decide +kernel
theorem d_C_lanesOfKind3_9 : decode b_C_lanesOfKind3 9 = .ok (.arraylength, 1) := by decide +kernel
theorem d_C_lanesOfKind3_10 : decode b_C_lanesOfKind3 10 = .ok (.if_icmp .ge 28, 3) := by decide +kernel
theorem d_C_lanesOfKind3_13 : decode b_C_lanesOfKind3 13 = .ok (.aload_n 1, 1) := by decide +kernel
theorem d_C_lanesOfKind3_14 : decode b_C_lanesOfKind3 14 = .ok (.iload_n 2, 1) := by decide +kernel
theorem d_C_lanesOfKind3_15 : decode b_C_lanesOfKind3 15 = .ok (.new 175, 3) := by decide +kernel
theorem d_C_lanesOfKind3_18 : decode b_C_lanesOfKind3 18 = .ok (.dup, 1) := by decide +kernel
theorem d_C_lanesOfKind3_19 : decode b_C_lanesOfKind3 19 = .ok (.iload_n 0, 1) := by decide +kernel
theorem d_C_lanesOfKind3_20 : decode b_C_lanesOfKind3 20 = .ok (.iconst 4, 1) := by decide +kernel
theorem d_C_lanesOfKind3_21 : decode b_C_lanesOfKind3 21 = .ok (.iadd, 1) := by decide +kernel
theorem d_C_lanesOfKind3_22 : decode b_C_lanesOfKind3 22 = .ok (.iconst 1, 1) := by decide +kernel
theorem d_C_lanesOfKind3_23 : decode b_C_lanesOfKind3 23 = .ok (.isub, 1) := by decide +kernel
theorem d_C_lanesOfKind3_24 : decode b_C_lanesOfKind3 24 = .ok (.iload_n 2, 1) := by decide +kernel
theorem d_C_lanesOfKind3_25 : decode b_C_lanesOfKind3 25 = .ok (.isub, 1) := by decide +kernel
theorem d_C_lanesOfKind3_26 : decode b_C_lanesOfKind3 26 = .ok (.iconst 4, 1) := by decide +kernel
theorem d_C_lanesOfKind3_27 : decode b_C_lanesOfKind3 27 = .ok (.idiv, 1) := by decide +kernel
theorem d_C_lanesOfKind3_28 : decode b_C_lanesOfKind3 28 = .ok (.invokespecial 177, 3) := by decide +kernel
theorem d_C_lanesOfKind3_31 : decode b_C_lanesOfKind3 31 = .ok (.aastore, 1) := by decide +kernel
theorem d_C_lanesOfKind3_32 : decode b_C_lanesOfKind3 32 = .ok (.iinc 2 1, 3) := by decide +kernel
theorem d_C_lanesOfKind3_35 : decode b_C_lanesOfKind3 35 = .ok (.goto (-28), 3) := by decide +kernel
theorem d_C_lanesOfKind3_38 : decode b_C_lanesOfKind3 38 = .ok (.aload_n 1, 1) := by decide +kernel
theorem d_C_lanesOfKind3_39 : decode b_C_lanesOfKind3 39 = .ok (.areturn, 1) := by decide +kernel
abbrev w_S_checkBitsOf : List Cond := .code y_S_checkBitsOf b_S_checkBitsOf 6 (some .int) :: wA
abbrev rm_S_checkBitsOf : Room := { frames := 0, cells := 0, slots := 0, locals := 0 }
theorem d_S_checkBitsOf_0 : decode b_S_checkBitsOf 0 = .ok (.iconst 0, 1) := by decide +kernel
theorem d_S_checkBitsOf_1 : decode b_S_checkBitsOf 1 = .ok (.istore_n 1, 1) := by decide +kernel
theorem d_S_checkBitsOf_2 : decode b_S_checkBitsOf 2 = .ok (.aload_n 0, 1) := by decide +kernel
theorem d_S_checkBitsOf_3 : decode b_S_checkBitsOf 3 = .ok (.astore_n 2, 1) := by decide +kernel
theorem d_S_checkBitsOf_4 : decode b_S_checkBitsOf 4 = .ok (.aload_n 2, 1) := by decide +kernel
theorem d_S_checkBitsOf_5 : decode b_S_checkBitsOf 5 = .ok (.arraylength, 1) := by decide +kernel
theorem d_S_checkBitsOf_6 : decode b_S_checkBitsOf 6 = .ok (.istore_n 3, 1) := by decide +kernel
theorem d_S_checkBitsOf_7 : decode b_S_checkBitsOf 7 = .ok (.iconst 0, 1) := by decide +kernel
theorem d_S_checkBitsOf_8 : decode b_S_checkBitsOf 8 = .ok (.istore 4, 2) := by decide +kernel
theorem d_S_checkBitsOf_10 : decode b_S_checkBitsOf 10 = .ok (.iload 4, 2) := by decide +kernel
theorem d_S_checkBitsOf_12 : decode b_S_checkBitsOf 12 = .ok (.iload_n 3, 1) := by decide +kernel
theorem d_S_checkBitsOf_13 : decode b_S_checkBitsOf 13 = .ok (.if_icmp .ge 23, 3) := by decide +kernel
theorem d_S_checkBitsOf_16 : decode b_S_checkBitsOf 16 = .ok (.aload_n 2, 1) := by decide +kernel
theorem d_S_checkBitsOf_17 : decode b_S_checkBitsOf 17 = .ok (.iload 4, 2) := by decide +kernel
theorem d_S_checkBitsOf_19 : decode b_S_checkBitsOf 19 = .ok (.aaload, 1) := by decide +kernel
theorem d_S_checkBitsOf_20 : decode b_S_checkBitsOf 20 = .ok (.astore 5, 2) := by decide +kernel
theorem d_S_checkBitsOf_22 : decode b_S_checkBitsOf 22 = .ok (.iload_n 1, 1) := by decide +kernel
theorem d_S_checkBitsOf_23 : decode b_S_checkBitsOf 23 = .ok (.aload 5, 2) := by decide +kernel
theorem d_S_checkBitsOf_25 : decode b_S_checkBitsOf 25 = .ok (.getfield 23, 3) := by decide +kernel
theorem d_S_checkBitsOf_28 : decode b_S_checkBitsOf 28 = .ok (.iadd, 1) := by decide +kernel
theorem d_S_checkBitsOf_29 : decode b_S_checkBitsOf 29 = .ok (.istore_n 1, 1) := by decide +kernel
theorem d_S_checkBitsOf_30 : decode b_S_checkBitsOf 30 = .ok (.iinc 4 1, 3) := by decide +kernel
theorem d_S_checkBitsOf_33 : decode b_S_checkBitsOf 33 = .ok (.goto (-23), 3) := by decide +kernel
theorem d_S_checkBitsOf_36 : decode b_S_checkBitsOf 36 = .ok (.iload_n 1, 1) := by decide +kernel
theorem d_S_checkBitsOf_37 : decode b_S_checkBitsOf 37 = .ok (.ireturn, 1) := by decide +kernel
abbrev w_S_marksOf : List Cond := .code y_S_marksOf b_S_marksOf 6 (some (.array .int)) :: wA
abbrev rm_S_marksOf : Room := { frames := 1, cells := 1, slots := 57, locals := 21 }
theorem d_S_marksOf_0 : decode b_S_marksOf 0 = .ok (.iload_n 0, 1) := by decide +kernel
theorem d_S_marksOf_1 : decode b_S_marksOf 1 = .ok (.newarray .int, 2) := by decide +kernel
theorem d_S_marksOf_3 : decode b_S_marksOf 3 = .ok (.astore_n 2, 1) := by decide +kernel
theorem d_S_marksOf_4 : decode b_S_marksOf 4 = .ok (.iconst 0, 1) := by decide +kernel
theorem d_S_marksOf_5 : decode b_S_marksOf 5 = .ok (.istore_n 3, 1) := by decide +kernel
theorem d_S_marksOf_6 : decode b_S_marksOf 6 = .ok (.iconst 0, 1) := by decide +kernel
theorem d_S_marksOf_7 : decode b_S_marksOf 7 = .ok (.istore 4, 2) := by decide +kernel
theorem d_S_marksOf_9 : decode b_S_marksOf 9 = .ok (.iload 4, 2) := by decide +kernel
theorem d_S_marksOf_11 : decode b_S_marksOf 11 = .ok (.aload_n 1, 1) := by decide +kernel
theorem d_S_marksOf_12 : decode b_S_marksOf 12 = .ok (.arraylength, 1) := by decide +kernel
theorem d_S_marksOf_13 : decode b_S_marksOf 13 = .ok (.if_icmp .ge 58, 3) := by decide +kernel
theorem d_S_marksOf_16 : decode b_S_marksOf 16 = .ok (.iload 4, 2) := by decide +kernel
theorem d_S_marksOf_18 : decode b_S_marksOf 18 = .ok (.istore 5, 2) := by decide +kernel
theorem d_S_marksOf_20 : decode b_S_marksOf 20 = .ok (.iload 5, 2) := by decide +kernel
theorem d_S_marksOf_22 : decode b_S_marksOf 22 = .ok (.aload_n 2, 1) := by decide +kernel
theorem d_S_marksOf_23 : decode b_S_marksOf 23 = .ok (.arraylength, 1) := by decide +kernel
theorem d_S_marksOf_24 : decode b_S_marksOf 24 = .ok (.if_icmp .ge 31, 3) := by decide +kernel
theorem d_S_marksOf_27 : decode b_S_marksOf 27 = .ok (.aload_n 2, 1) := by decide +kernel
theorem d_S_marksOf_28 : decode b_S_marksOf 28 = .ok (.iload 5, 2) := by decide +kernel
theorem d_S_marksOf_30 : decode b_S_marksOf 30 = .ok (.aload_n 1, 1) := by decide +kernel
theorem d_S_marksOf_31 : decode b_S_marksOf 31 = .ok (.iload 4, 2) := by decide +kernel
theorem d_S_marksOf_33 : decode b_S_marksOf 33 = .ok (.aaload, 1) := by decide +kernel
theorem d_S_marksOf_34 : decode b_S_marksOf 34 = .ok (.iload 5, 2) := by decide +kernel
theorem d_S_marksOf_36 : decode b_S_marksOf 36 = .ok (.aload_n 1, 1) := by decide +kernel
theorem d_S_marksOf_37 : decode b_S_marksOf 37 = .ok (.arraylength, 1) := by decide +kernel
theorem d_S_marksOf_38 : decode b_S_marksOf 38 = .ok (.idiv, 1) := by decide +kernel
theorem d_S_marksOf_39 : decode b_S_marksOf 39 = .ok (.invokevirtual 29, 3) := by decide +kernel
theorem d_S_marksOf_42 : decode b_S_marksOf 42 = .ok (.iload_n 3, 1) := by decide +kernel
theorem d_S_marksOf_43 : decode b_S_marksOf 43 = .ok (.ishl, 1) := by decide +kernel
theorem d_S_marksOf_44 : decode b_S_marksOf 44 = .ok (.iastore, 1) := by decide +kernel
theorem d_S_marksOf_45 : decode b_S_marksOf 45 = .ok (.iload 5, 2) := by decide +kernel
theorem d_S_marksOf_47 : decode b_S_marksOf 47 = .ok (.aload_n 1, 1) := by decide +kernel
theorem d_S_marksOf_48 : decode b_S_marksOf 48 = .ok (.arraylength, 1) := by decide +kernel
theorem d_S_marksOf_49 : decode b_S_marksOf 49 = .ok (.iadd, 1) := by decide +kernel
theorem d_S_marksOf_50 : decode b_S_marksOf 50 = .ok (.istore 5, 2) := by decide +kernel
theorem d_S_marksOf_52 : decode b_S_marksOf 52 = .ok (.goto (-32), 3) := by decide +kernel
theorem d_S_marksOf_55 : decode b_S_marksOf 55 = .ok (.iload_n 3, 1) := by decide +kernel
theorem d_S_marksOf_56 : decode b_S_marksOf 56 = .ok (.aload_n 1, 1) := by decide +kernel
theorem d_S_marksOf_57 : decode b_S_marksOf 57 = .ok (.iload 4, 2) := by decide +kernel
theorem d_S_marksOf_59 : decode b_S_marksOf 59 = .ok (.aaload, 1) := by decide +kernel
theorem d_S_marksOf_60 : decode b_S_marksOf 60 = .ok (.getfield 23, 3) := by decide +kernel
theorem d_S_marksOf_63 : decode b_S_marksOf 63 = .ok (.iadd, 1) := by decide +kernel
theorem d_S_marksOf_64 : decode b_S_marksOf 64 = .ok (.istore_n 3, 1) := by decide +kernel
theorem d_S_marksOf_65 : decode b_S_marksOf 65 = .ok (.iinc 4 1, 3) := by decide +kernel
theorem d_S_marksOf_68 : decode b_S_marksOf 68 = .ok (.goto (-59), 3) := by decide +kernel
theorem d_S_marksOf_71 : decode b_S_marksOf 71 = .ok (.aload_n 2, 1) := by decide +kernel
theorem d_S_marksOf_72 : decode b_S_marksOf 72 = .ok (.areturn, 1) := by decide +kernel
abbrev w_S_init : List Cond := .code y_S_init b_S_init 3 none :: wA
abbrev rm_S_init : Room := { frames := 2, cells := 1, slots := 57, locals := 46 }
theorem d_S_init_0 : decode b_S_init 0 = .ok (.aload_n 0, 1) := by decide +kernel
theorem d_S_init_1 : decode b_S_init 1 = .ok (.iload_n 1, 1) := by decide +kernel
theorem d_S_init_2 : decode b_S_init 2 = .ok (.aload_n 2, 1) := by decide +kernel
theorem d_S_init_3 : decode b_S_init 3 = .ok (.invokestatic 3, 3) := by decide +kernel
theorem d_S_init_6 : decode b_S_init 6 = .ok (.iload_n 1, 1) := by decide +kernel
theorem d_S_init_7 : decode b_S_init 7 = .ok (.aload_n 2, 1) := by decide +kernel
theorem d_S_init_8 : decode b_S_init 8 = .ok (.invokestatic 9, 3) := by decide +kernel
theorem d_S_init_11 : decode b_S_init 11 = .ok (.invokespecial 13, 3) := by decide +kernel
theorem d_S_init_14 : decode b_S_init 14 = .ok (.aload_n 0, 1) := by decide +kernel
theorem d_S_init_15 : decode b_S_init 15 = .ok (.aload_n 2, 1) := by decide +kernel
theorem d_S_init_16 : decode b_S_init 16 = .ok (.putfield 19, 3) := by decide +kernel
theorem d_S_init_19 : decode b_S_init 19 = .ok (.return_, 1) := by decide +kernel
set_option maxHeartbeats 4000000 in
set_option maxRecDepth 100000 in
theorem c_K_init_S (l : Launch) (D : va_G) (g : Nat → ClassId) (sz : Nat) (wr : va_W) (o a : Nat) (x1 x2 : Int32) : Met l y_K_init w_K_init rm_K_init (va_Pc [.ref o, .int (x1), .int (x2), .ref a] (pP D (tyl g) ((o, .inr (1, [.int (nI 0), .int (nI 0), .null, .null])) :: wr) sz)) (va_Qv (fun (u : Unit) => True) (fun u => qB D (va_A ((o, .inr (1, [.int (nI 0), .int (nI 0), .null, .null])) :: wr) sz) ((o, .inr (1, [.int (x1), .int (x2), .ref a, .null])) :: wr)) (va_A ((o, .inr (1, [.int (nI 0), .int (nI 0), .null, .null])) :: wr) sz)) 0 0 (va_A ((o, .inr (1, [.int (nI 0), .int (nI 0), .null, .null])) :: wr) sz) := by
  refine Met.ofW (cc := b_K_init) (maxL := 4) (ret := none) (by decide +kernel) rfl ?_
  intro p e s m args below meth c s₁ Bq hml hv
  have hx := Bq.exec
  have hb := Bq.bytes
  have hr := Bq.returns
  have hts : ∀ w ∈ wA, w.before args s = true := fun w h => atoms_spec (ws := w_K_init) Bq.pre w (List.mem_cons_of_mem _ h)
  have hown : s.vm.findClass R_K = some m.cls := findClass_of_methodNamed Bq.named
  have hlocks := Bq.notSynchronized
  have hin : meth.name = "<init>" := (name_of_methodNamed Bq.named Bq.method).1
  obtain ⟨rfl, hsz, hP, hKK, hD0⟩ := hv
  have hK := hKK.1
  subst hsz
  have hD := hD0.self (sz := s.heap.size)
  generalize hAe : va_A ((o, .inr (1, [.int (nI 0), .int (nI 0), .null, .null])) :: wr) s.heap.size = A at hD ⊢
  have hA : ∀ q : Nat, s.heap.size ≤ q → A q := fun q h => by rw [← hAe]; exact Or.inr h
  have hS : va_S A s.heap s.heap [] := va_S.rf
  have hl := lv_entry ([.ref o, .int (x1), .int (x2), .ref a]) (n := 4) (Nat.le_of_ble_eq_true rfl)
  rw [lg_entry_eq]
  generalize (lg_sl ([.ref o, .int (x1), .int (x2), .ref a]) ++ List.replicate (4 - (lg_sl ([.ref o, .int (x1), .int (x2), .ref a])).length) Slot.unset).toArray = ls at hl ⊢
  have hl : lv_has ls 4 [(0, .ref o), (1, .int (x1)), (2, .int (x2)), (3, .ref a)] := hl
  generalize hQ : MQ below (va_Qv (fun (u : Unit) => True) (fun u => qB D (A) ((o, .inr (1, [.int (x1), .int (x2), .ref a, .null])) :: wr)) (A)) [.ref o, .int (x1), .int (x2), .ref a].toArray s 0 0 A = Q
  refine lv_aload_n hx hb d_K_init_0 rfl (lv_at hl 0 rfl) ?_
  refine W.objInit hx hb hown (hts _ m_132) (hts _ m_54) (hts _ m_55) rfl (by rw [hml]; exact hl.1) rfl d_K_init_1 (Nat.le_of_ble_eq_true rfl) (Nat.le_of_ble_eq_true rfl) ?_
  refine W.eq (g2 := F0 m 4 ls []) rfl ?_
  refine lv_aload_n hx hb d_K_init_4 rfl (lv_at hl 0 rfl) ?_
  refine lv_iload_n hx hb d_K_init_5 rfl (lv_at hl 1 rfl) ?_
  refine va_putF (D := D) (ci := 1) (v := .int (x1)) (ty := .int) (C := R_S) (T := F_S) (N := 4) hx hb hts i_S tf_S tf_S_ok nf_S hown hK hP hD hS 0 rfl rfl 0 (by decide) (hts _ m_134) (fun _ h9 => h9) rfl hin rfl (by decide +kernel) rfl rfl (Nat.le_of_ble_eq_true rfl) d_K_init_6 (fun H locs hP hD hS => ?_)
  have hP : va_P D vwCl ((o, .inr (1, [.int (x1), .int (nI 0), .null, .null])) :: wr) H := hP
  have hD : va_D A ((o, .inr (1, [.int (x1), .int (nI 0), .null, .null])) :: wr) := hD
  refine lv_aload_n hx hb d_K_init_9 rfl (lv_at hl 0 rfl) ?_
  refine lv_iload_n hx hb d_K_init_10 rfl (lv_at hl 2 rfl) ?_
  refine va_putF (D := D) (ci := 1) (v := .int (x2)) (ty := .int) (C := R_S) (T := F_S) (N := 4) hx hb hts i_S tf_S tf_S_ok nf_S hown hK hP hD hS 0 rfl rfl 1 (by decide) (hts _ m_137) (fun _ h9 => h9) rfl hin rfl (by decide +kernel) rfl rfl (Nat.le_of_ble_eq_true rfl) d_K_init_11 (fun H locs hP hD hS => ?_)
  have hP : va_P D vwCl ((o, .inr (1, [.int (x1), .int (x2), .null, .null])) :: wr) H := hP
  have hD : va_D A ((o, .inr (1, [.int (x1), .int (x2), .null, .null])) :: wr) := hD
  refine lv_aload_n hx hb d_K_init_14 rfl (lv_at hl 0 rfl) ?_
  refine lv_aload_n hx hb d_K_init_15 rfl (lv_at hl 3 rfl) ?_
  refine va_putF (D := D) (ci := 1) (v := .ref a) (ty := .array .int) (C := R_S) (T := F_S) (N := 4) hx hb hts i_S tf_S tf_S_ok nf_S hown hK hP hD hS 0 rfl rfl 2 (by decide) (hts _ m_139) (fun _ h9 => h9) rfl hin rfl (by decide +kernel) rfl rfl (Nat.le_of_ble_eq_true rfl) d_K_init_16 (fun H locs hP hD hS => ?_)
  have hP : va_P D vwCl ((o, .inr (1, [.int (x1), .int (x2), .ref a, .null])) :: wr) H := hP
  have hD : va_D A ((o, .inr (1, [.int (x1), .int (x2), .ref a, .null])) :: wr) := hD
  rw [← hQ]
  refine W.vret hx hb hr ?_ hS.2.2 d_K_init_19
  exact fun t ht hW => ⟨⟨(), rfl, trivial, by rw [ht]; exact hP, hD⟩, hS.F ht⟩
set_option maxHeartbeats 4000000 in
set_option maxRecDepth 100000 in
theorem c_K_init_P (l : Launch) (D : va_G) (g : Nat → ClassId) (sz : Nat) (wr : va_W) (o a : Nat) (x1 x2 : Int32) : Met l y_K_init w_K_init rm_K_init (va_Pc [.ref o, .int (x1), .int (x2), .ref a] (pP D (tyl g) ((o, .inr (2, [.int (nI 0), .int (nI 0), .null])) :: wr) sz)) (va_Qv (fun (u : Unit) => True) (fun u => qB D (va_A ((o, .inr (2, [.int (nI 0), .int (nI 0), .null])) :: wr) sz) ((o, .inr (2, [.int (x1), .int (x2), .ref a])) :: wr)) (va_A ((o, .inr (2, [.int (nI 0), .int (nI 0), .null])) :: wr) sz)) 0 0 (va_A ((o, .inr (2, [.int (nI 0), .int (nI 0), .null])) :: wr) sz) := by
  refine Met.ofW (cc := b_K_init) (maxL := 4) (ret := none) (by decide +kernel) rfl ?_
  intro p e s m args below meth c s₁ Bq hml hv
  have hx := Bq.exec
  have hb := Bq.bytes
  have hr := Bq.returns
  have hts : ∀ w ∈ wA, w.before args s = true := fun w h => atoms_spec (ws := w_K_init) Bq.pre w (List.mem_cons_of_mem _ h)
  have hown : s.vm.findClass R_K = some m.cls := findClass_of_methodNamed Bq.named
  have hlocks := Bq.notSynchronized
  have hin : meth.name = "<init>" := (name_of_methodNamed Bq.named Bq.method).1
  obtain ⟨rfl, hsz, hP, hKK, hD0⟩ := hv
  have hK := hKK.1
  subst hsz
  have hD := hD0.self (sz := s.heap.size)
  generalize hAe : va_A ((o, .inr (2, [.int (nI 0), .int (nI 0), .null])) :: wr) s.heap.size = A at hD ⊢
  have hA : ∀ q : Nat, s.heap.size ≤ q → A q := fun q h => by rw [← hAe]; exact Or.inr h
  have hS : va_S A s.heap s.heap [] := va_S.rf
  have hl := lv_entry ([.ref o, .int (x1), .int (x2), .ref a]) (n := 4) (Nat.le_of_ble_eq_true rfl)
  rw [lg_entry_eq]
  generalize (lg_sl ([.ref o, .int (x1), .int (x2), .ref a]) ++ List.replicate (4 - (lg_sl ([.ref o, .int (x1), .int (x2), .ref a])).length) Slot.unset).toArray = ls at hl ⊢
  have hl : lv_has ls 4 [(0, .ref o), (1, .int (x1)), (2, .int (x2)), (3, .ref a)] := hl
  generalize hQ : MQ below (va_Qv (fun (u : Unit) => True) (fun u => qB D (A) ((o, .inr (2, [.int (x1), .int (x2), .ref a])) :: wr)) (A)) [.ref o, .int (x1), .int (x2), .ref a].toArray s 0 0 A = Q
  refine lv_aload_n hx hb d_K_init_0 rfl (lv_at hl 0 rfl) ?_
  refine W.objInit hx hb hown (hts _ m_132) (hts _ m_54) (hts _ m_55) rfl (by rw [hml]; exact hl.1) rfl d_K_init_1 (Nat.le_of_ble_eq_true rfl) (Nat.le_of_ble_eq_true rfl) ?_
  refine W.eq (g2 := F0 m 4 ls []) rfl ?_
  refine lv_aload_n hx hb d_K_init_4 rfl (lv_at hl 0 rfl) ?_
  refine lv_iload_n hx hb d_K_init_5 rfl (lv_at hl 1 rfl) ?_
  refine va_putF (D := D) (ci := 2) (v := .int (x1)) (ty := .int) (C := R_P) (T := F_P) (N := 3) hx hb hts i_P tf_P tf_P_ok nf_P hown hK hP hD hS 0 rfl rfl 0 (by decide) (hts _ m_134) (fun _ h9 => h9) rfl hin rfl (by decide +kernel) rfl rfl (Nat.le_of_ble_eq_true rfl) d_K_init_6 (fun H locs hP hD hS => ?_)
  have hP : va_P D vwCl ((o, .inr (2, [.int (x1), .int (nI 0), .null])) :: wr) H := hP
  have hD : va_D A ((o, .inr (2, [.int (x1), .int (nI 0), .null])) :: wr) := hD
  refine lv_aload_n hx hb d_K_init_9 rfl (lv_at hl 0 rfl) ?_
  refine lv_iload_n hx hb d_K_init_10 rfl (lv_at hl 2 rfl) ?_
  refine va_putF (D := D) (ci := 2) (v := .int (x2)) (ty := .int) (C := R_P) (T := F_P) (N := 3) hx hb hts i_P tf_P tf_P_ok nf_P hown hK hP hD hS 0 rfl rfl 1 (by decide) (hts _ m_137) (fun _ h9 => h9) rfl hin rfl (by decide +kernel) rfl rfl (Nat.le_of_ble_eq_true rfl) d_K_init_11 (fun H locs hP hD hS => ?_)
  have hP : va_P D vwCl ((o, .inr (2, [.int (x1), .int (x2), .null])) :: wr) H := hP
  have hD : va_D A ((o, .inr (2, [.int (x1), .int (x2), .null])) :: wr) := hD
  refine lv_aload_n hx hb d_K_init_14 rfl (lv_at hl 0 rfl) ?_
  refine lv_aload_n hx hb d_K_init_15 rfl (lv_at hl 3 rfl) ?_
  refine va_putF (D := D) (ci := 2) (v := .ref a) (ty := .array .int) (C := R_P) (T := F_P) (N := 3) hx hb hts i_P tf_P tf_P_ok nf_P hown hK hP hD hS 0 rfl rfl 2 (by decide) (hts _ m_139) (fun _ h9 => h9) rfl hin rfl (by decide +kernel) rfl rfl (Nat.le_of_ble_eq_true rfl) d_K_init_16 (fun H locs hP hD hS => ?_)
  have hP : va_P D vwCl ((o, .inr (2, [.int (x1), .int (x2), .ref a])) :: wr) H := hP
  have hD : va_D A ((o, .inr (2, [.int (x1), .int (x2), .ref a])) :: wr) := hD
  rw [← hQ]
  refine W.vret hx hb hr ?_ hS.2.2 d_K_init_19
  exact fun t ht hW => ⟨⟨(), rfl, trivial, by rw [ht]; exact hP, hD⟩, hS.F ht⟩
set_option maxHeartbeats 4000000 in
set_option maxRecDepth 100000 in
theorem c_K_init_N (l : Launch) (D : va_G) (g : Nat → ClassId) (sz : Nat) (wr : va_W) (o a : Nat) (x1 x2 : Int32) : Met l y_K_init w_K_init rm_K_init (va_Pc [.ref o, .int (x1), .int (x2), .ref a] (pP D (tyl g) ((o, .inr (3, [.int (nI 0), .int (nI 0), .null])) :: wr) sz)) (va_Qv (fun (u : Unit) => True) (fun u => qB D (va_A ((o, .inr (3, [.int (nI 0), .int (nI 0), .null])) :: wr) sz) ((o, .inr (3, [.int (x1), .int (x2), .ref a])) :: wr)) (va_A ((o, .inr (3, [.int (nI 0), .int (nI 0), .null])) :: wr) sz)) 0 0 (va_A ((o, .inr (3, [.int (nI 0), .int (nI 0), .null])) :: wr) sz) := by
  refine Met.ofW (cc := b_K_init) (maxL := 4) (ret := none) (by decide +kernel) rfl ?_
  intro p e s m args below meth c s₁ Bq hml hv
  have hx := Bq.exec
  have hb := Bq.bytes
  have hr := Bq.returns
  have hts : ∀ w ∈ wA, w.before args s = true := fun w h => atoms_spec (ws := w_K_init) Bq.pre w (List.mem_cons_of_mem _ h)
  have hown : s.vm.findClass R_K = some m.cls := findClass_of_methodNamed Bq.named
  have hlocks := Bq.notSynchronized
  have hin : meth.name = "<init>" := (name_of_methodNamed Bq.named Bq.method).1
  obtain ⟨rfl, hsz, hP, hKK, hD0⟩ := hv
  have hK := hKK.1
  subst hsz
  have hD := hD0.self (sz := s.heap.size)
  generalize hAe : va_A ((o, .inr (3, [.int (nI 0), .int (nI 0), .null])) :: wr) s.heap.size = A at hD ⊢
  have hA : ∀ q : Nat, s.heap.size ≤ q → A q := fun q h => by rw [← hAe]; exact Or.inr h
  have hS : va_S A s.heap s.heap [] := va_S.rf
  have hl := lv_entry ([.ref o, .int (x1), .int (x2), .ref a]) (n := 4) (Nat.le_of_ble_eq_true rfl)
  rw [lg_entry_eq]
  generalize (lg_sl ([.ref o, .int (x1), .int (x2), .ref a]) ++ List.replicate (4 - (lg_sl ([.ref o, .int (x1), .int (x2), .ref a])).length) Slot.unset).toArray = ls at hl ⊢
  have hl : lv_has ls 4 [(0, .ref o), (1, .int (x1)), (2, .int (x2)), (3, .ref a)] := hl
  generalize hQ : MQ below (va_Qv (fun (u : Unit) => True) (fun u => qB D (A) ((o, .inr (3, [.int (x1), .int (x2), .ref a])) :: wr)) (A)) [.ref o, .int (x1), .int (x2), .ref a].toArray s 0 0 A = Q
  refine lv_aload_n hx hb d_K_init_0 rfl (lv_at hl 0 rfl) ?_
  refine W.objInit hx hb hown (hts _ m_132) (hts _ m_54) (hts _ m_55) rfl (by rw [hml]; exact hl.1) rfl d_K_init_1 (Nat.le_of_ble_eq_true rfl) (Nat.le_of_ble_eq_true rfl) ?_
  refine W.eq (g2 := F0 m 4 ls []) rfl ?_
  refine lv_aload_n hx hb d_K_init_4 rfl (lv_at hl 0 rfl) ?_
  refine lv_iload_n hx hb d_K_init_5 rfl (lv_at hl 1 rfl) ?_
  refine va_putF (D := D) (ci := 3) (v := .int (x1)) (ty := .int) (C := R_N) (T := F_N) (N := 3) hx hb hts i_N tf_N tf_N_ok nf_N hown hK hP hD hS 0 rfl rfl 0 (by decide) (hts _ m_134) (fun _ h9 => h9) rfl hin rfl (by decide +kernel) rfl rfl (Nat.le_of_ble_eq_true rfl) d_K_init_6 (fun H locs hP hD hS => ?_)
  have hP : va_P D vwCl ((o, .inr (3, [.int (x1), .int (nI 0), .null])) :: wr) H := hP
  have hD : va_D A ((o, .inr (3, [.int (x1), .int (nI 0), .null])) :: wr) := hD
  refine lv_aload_n hx hb d_K_init_9 rfl (lv_at hl 0 rfl) ?_
  refine lv_iload_n hx hb d_K_init_10 rfl (lv_at hl 2 rfl) ?_
  refine va_putF (D := D) (ci := 3) (v := .int (x2)) (ty := .int) (C := R_N) (T := F_N) (N := 3) hx hb hts i_N tf_N tf_N_ok nf_N hown hK hP hD hS 0 rfl rfl 1 (by decide) (hts _ m_137) (fun _ h9 => h9) rfl hin rfl (by decide +kernel) rfl rfl (Nat.le_of_ble_eq_true rfl) d_K_init_11 (fun H locs hP hD hS => ?_)
  have hP : va_P D vwCl ((o, .inr (3, [.int (x1), .int (x2), .null])) :: wr) H := hP
  have hD : va_D A ((o, .inr (3, [.int (x1), .int (x2), .null])) :: wr) := hD
  refine lv_aload_n hx hb d_K_init_14 rfl (lv_at hl 0 rfl) ?_
  refine lv_aload_n hx hb d_K_init_15 rfl (lv_at hl 3 rfl) ?_
  refine va_putF (D := D) (ci := 3) (v := .ref a) (ty := .array .int) (C := R_N) (T := F_N) (N := 3) hx hb hts i_N tf_N tf_N_ok nf_N hown hK hP hD hS 0 rfl rfl 2 (by decide) (hts _ m_139) (fun _ h9 => h9) rfl hin rfl (by decide +kernel) rfl rfl (Nat.le_of_ble_eq_true rfl) d_K_init_16 (fun H locs hP hD hS => ?_)
  have hP : va_P D vwCl ((o, .inr (3, [.int (x1), .int (x2), .ref a])) :: wr) H := hP
  have hD : va_D A ((o, .inr (3, [.int (x1), .int (x2), .ref a])) :: wr) := hD
  rw [← hQ]
  refine W.vret hx hb hr ?_ hS.2.2 d_K_init_19
  exact fun t ht hW => ⟨⟨(), rfl, trivial, by rw [ht]; exact hP, hD⟩, hS.F ht⟩
set_option maxHeartbeats 4000000 in
set_option maxRecDepth 100000 in
theorem c_C_lanesOf_4 (l : Launch) (D : va_G) (g : Nat → ClassId) (sz : Nat) (wr : va_W) (M : Nat) (hM : 0 < M) (hM57 : M ≤ 57) : Met l y_C_lanesOfKind3 w_C_lanesOfKind3 rm_C_lanesOfKind3 (va_Pc [.int (nI M)] (pP D (tyl g) (wr) sz)) (va_Qr (fun (u : (Nat → Nat)) => True) (fun u (a : Nat) => qB D (va_A (wr) sz) ((u 15, .inl (g 0, 2 ^ lr (wid M 4 3), .inl (fun s => oI (ba (lr (wid M 4 3)) (wid M 4 3) (wid M 4 3) s)))) :: (u 14, .inl (g 0, lr (wid M 4 3), .inl (fun r => nI (rsf (lr (wid M 4 3)) (wid M 4 3) r)))) :: (u 13, .inl (g 0, (wid M 4 3), .inl (fun j => nI (if j < wid M 4 3 then cc_ (lr (wid M 4 3)) j else 0)))) :: (u 12, .inr (4, [.int (nI (lr (wid M 4 3))), .ref (u 13), .ref (u 14), .ref (u 15)])) :: (u 11, .inl (g 0, 2 ^ lr (wid M 4 2), .inl (fun s => oI (ba (lr (wid M 4 2)) (wid M 4 2) (wid M 4 2) s)))) :: (u 10, .inl (g 0, lr (wid M 4 2), .inl (fun r => nI (rsf (lr (wid M 4 2)) (wid M 4 2) r)))) :: (u 9, .inl (g 0, (wid M 4 2), .inl (fun j => nI (if j < wid M 4 2 then cc_ (lr (wid M 4 2)) j else 0)))) :: (u 8, .inr (4, [.int (nI (lr (wid M 4 2))), .ref (u 9), .ref (u 10), .ref (u 11)])) :: (u 7, .inl (g 0, 2 ^ lr (wid M 4 1), .inl (fun s => oI (ba (lr (wid M 4 1)) (wid M 4 1) (wid M 4 1) s)))) :: (u 6, .inl (g 0, lr (wid M 4 1), .inl (fun r => nI (rsf (lr (wid M 4 1)) (wid M 4 1) r)))) :: (u 5, .inl (g 0, (wid M 4 1), .inl (fun j => nI (if j < wid M 4 1 then cc_ (lr (wid M 4 1)) j else 0)))) :: (u 4, .inr (4, [.int (nI (lr (wid M 4 1))), .ref (u 5), .ref (u 6), .ref (u 7)])) :: (u 3, .inl (g 0, 2 ^ lr (wid M 4 0), .inl (fun s => oI (ba (lr (wid M 4 0)) (wid M 4 0) (wid M 4 0) s)))) :: (u 2, .inl (g 0, lr (wid M 4 0), .inl (fun r => nI (rsf (lr (wid M 4 0)) (wid M 4 0) r)))) :: (u 1, .inl (g 0, (wid M 4 0), .inl (fun j => nI (if j < wid M 4 0 then cc_ (lr (wid M 4 0)) j else 0)))) :: (u 0, .inr (4, [.int (nI (lr (wid M 4 0))), .ref (u 1), .ref (u 2), .ref (u 3)])) :: (a, .inl (g 3, 4, .inr (.inr (.inr (.inr (fun i => some (u (4 * i)))))))) :: wr)) (va_A (wr) sz)) 17 788 (va_A (wr) sz) := by
  refine Met.ofW (cc := b_C_lanesOfKind3) (maxL := 3) (ret := (some (.array (.object "CheckCodes$Lane")))) (by decide +kernel) rfl ?_
  intro p e s m args below meth c s₁ Bq hml hv
  have hx := Bq.exec
  have hb := Bq.bytes
  have hr := Bq.returns
  have hts : ∀ w ∈ wA, w.before args s = true := fun w h => atoms_spec (ws := w_C_lanesOfKind3) Bq.pre w (List.mem_cons_of_mem _ h)
  have hown : s.vm.findClass R_C = some m.cls := findClass_of_methodNamed Bq.named
  have hlocks := Bq.notSynchronized
  obtain ⟨rfl, hsz, hP, hKK, hD0⟩ := hv
  have hK := hKK.1
  subst hsz
  have hD := hD0.self (sz := s.heap.size)
  generalize hAe : va_A (wr) s.heap.size = A at hD ⊢
  have hA : ∀ q : Nat, s.heap.size ≤ q → A q := fun q h => by rw [← hAe]; exact Or.inr h
  have hS : va_S A s.heap s.heap [] := va_S.rf
  have hl := lv_entry ([.int (nI M)]) (n := 3) (Nat.le_of_ble_eq_true rfl)
  rw [lg_entry_eq]
  generalize (lg_sl ([.int (nI M)]) ++ List.replicate (3 - (lg_sl ([.int (nI M)])).length) Slot.unset).toArray = ls at hl ⊢
  have hl : lv_has ls 3 [(0, .int (nI M))] := hl
  generalize hQ : MQ below (va_Qr (fun (u : (Nat → Nat)) => True) (fun u (a : Nat) => qB D (A) ((u 15, .inl (g 0, 2 ^ lr (wid M 4 3), .inl (fun s => oI (ba (lr (wid M 4 3)) (wid M 4 3) (wid M 4 3) s)))) :: (u 14, .inl (g 0, lr (wid M 4 3), .inl (fun r => nI (rsf (lr (wid M 4 3)) (wid M 4 3) r)))) :: (u 13, .inl (g 0, (wid M 4 3), .inl (fun j => nI (if j < wid M 4 3 then cc_ (lr (wid M 4 3)) j else 0)))) :: (u 12, .inr (4, [.int (nI (lr (wid M 4 3))), .ref (u 13), .ref (u 14), .ref (u 15)])) :: (u 11, .inl (g 0, 2 ^ lr (wid M 4 2), .inl (fun s => oI (ba (lr (wid M 4 2)) (wid M 4 2) (wid M 4 2) s)))) :: (u 10, .inl (g 0, lr (wid M 4 2), .inl (fun r => nI (rsf (lr (wid M 4 2)) (wid M 4 2) r)))) :: (u 9, .inl (g 0, (wid M 4 2), .inl (fun j => nI (if j < wid M 4 2 then cc_ (lr (wid M 4 2)) j else 0)))) :: (u 8, .inr (4, [.int (nI (lr (wid M 4 2))), .ref (u 9), .ref (u 10), .ref (u 11)])) :: (u 7, .inl (g 0, 2 ^ lr (wid M 4 1), .inl (fun s => oI (ba (lr (wid M 4 1)) (wid M 4 1) (wid M 4 1) s)))) :: (u 6, .inl (g 0, lr (wid M 4 1), .inl (fun r => nI (rsf (lr (wid M 4 1)) (wid M 4 1) r)))) :: (u 5, .inl (g 0, (wid M 4 1), .inl (fun j => nI (if j < wid M 4 1 then cc_ (lr (wid M 4 1)) j else 0)))) :: (u 4, .inr (4, [.int (nI (lr (wid M 4 1))), .ref (u 5), .ref (u 6), .ref (u 7)])) :: (u 3, .inl (g 0, 2 ^ lr (wid M 4 0), .inl (fun s => oI (ba (lr (wid M 4 0)) (wid M 4 0) (wid M 4 0) s)))) :: (u 2, .inl (g 0, lr (wid M 4 0), .inl (fun r => nI (rsf (lr (wid M 4 0)) (wid M 4 0) r)))) :: (u 1, .inl (g 0, (wid M 4 0), .inl (fun j => nI (if j < wid M 4 0 then cc_ (lr (wid M 4 0)) j else 0)))) :: (u 0, .inr (4, [.int (nI (lr (wid M 4 0))), .ref (u 1), .ref (u 2), .ref (u 3)])) :: (a, .inl (g 3, 4, .inr (.inr (.inr (.inr (fun i => some (u (4 * i)))))))) :: wr)) (A)) [.int (nI M)].toArray s 17 788 A = Q
  have hRc : (headSpec w_C_lanesOfKind3 rm_C_lanesOfKind3).room.cells = 17 := rfl
  have hRs : (headSpec w_C_lanesOfKind3 rm_C_lanesOfKind3).room.slots = 788 := rfl
  refine lv_iconst (v := nI 4) hx hb d_C_lanesOfKind3_0 (by decide) ?_
  refine lx_newq (N := 4) hx hb hown (hts _ m_68) hKK.2.1 hK hP hD hS hA (by omega) (Nat.le_of_ble_eq_true rfl) (Nat.le_of_ble_eq_true rfl) d_C_lanesOfKind3_1 (fun qa H hP hD hS => ?_)
  refine W.widen (k := 1) (n := 4) (by omega) (by omega) ?_
  have hP : va_P D vwCl ((qa, .inl (g 3, 4, .inr (.inr (.inr (.inr (fun _ => none)))))) :: wr) H := hP
  have hD : va_D A ((qa, .inl (g 3, 4, .inr (.inr (.inr (.inr (fun _ => none)))))) :: wr) := hD
  refine lv_astore_n (lv' := [(1, .ref qa), (0, .int (nI M))]) hx hb d_C_lanesOfKind3_4 rfl hl (by decide) rfl (fun ls hl => ?_)
  refine lv_iconst (v := nI 0) hx hb d_C_lanesOfKind3_5 (by decide) ?_
  refine lv_istore_n (lv' := [(2, .int (nI 0)), (1, .ref qa), (0, .int (nI M))]) hx hb d_C_lanesOfKind3_6 rfl hl (by decide) rfl (fun ls hl => ?_)
  have hw0 : wid M 4 0 ≤ 57 := wid_le hM57 (by decide)
  refine lv_iload_n hx hb d_C_lanesOfKind3_7 rfl (lv_at hl 0 rfl) ?_
  refine lv_aload_n hx hb d_C_lanesOfKind3_8 rfl (lv_at hl 1 rfl) ?_
  refine va_alen hx hb hK hP 0 3 rfl (v := nI 4) rfl (rfl) d_C_lanesOfKind3_9 ?_
  refine lx_icmp_ge (tgt := 38) hx hb d_C_lanesOfKind3_10 (by decide) (by omega) (by omega) (fun c9_0 => ?_) (fun c9_0 => ?_)
  · skip
    exact absurd c9_0 (by decide)
  · skip
    refine lv_aload_n hx hb d_C_lanesOfKind3_13 rfl (lv_at hl 1 rfl) ?_
    refine lv_iload_n hx hb d_C_lanesOfKind3_14 rfl (lv_at hl 0 rfl) ?_
    refine lx_new (ci := 4) (fs := [.int (nI 0), .null, .null, .null]) (C := R_L) (T := F_L) (N := 4) hx hb hts i_L tf_L tf_L_ok hown (hts _ m_68) (hts _ m_70) (hts _ m_34) hK hP hD hS hA rfl (by decide +kernel) (Nat.le_of_ble_eq_true rfl) (Nat.le_of_ble_eq_true rfl) d_C_lanesOfKind3_15 (fun o0 H hP hD hS => ?_)
    refine W.widen (k := 1 + 1) (n := 4 + 4) (by omega) (by omega) ?_
    have hP : va_P D vwCl ((o0, .inr (4, [.int (nI 0), .null, .null, .null])) :: (qa, .inl (g 3, 4, .inr (.inr (.inr (.inr (fun _ => none)))))) :: wr) H := hP
    have hD : va_D A ((o0, .inr (4, [.int (nI 0), .null, .null, .null])) :: (qa, .inl (g 3, 4, .inr (.inr (.inr (.inr (fun _ => none)))))) :: wr) := hD
    refine lv_dup hx hb d_C_lanesOfKind3_18 rfl ?_
    refine lv_iload_n hx hb d_C_lanesOfKind3_19 rfl (lv_at hl 2 rfl) ?_
    refine lv_iconst (v := nI 4) hx hb d_C_lanesOfKind3_20 (by decide) ?_
    refine lx_iadd (z := nI (M + 4)) hx hb d_C_lanesOfKind3_21 (nI_add M 4) ?_
    refine lv_iconst (v := nI 1) hx hb d_C_lanesOfKind3_22 (by decide) ?_
    refine lx_isub (z := nI (M + 4 - 1)) hx hb d_C_lanesOfKind3_23 (pk_sub (by omega)) ?_
    refine lv_iload_n hx hb d_C_lanesOfKind3_24 rfl (lv_at hl 0 rfl) ?_
    refine lx_isub (z := nI (M + 4 - 0 - 1)) hx hb d_C_lanesOfKind3_25 ((pk_sub (by omega)).trans (congrArg nI (by omega))) ?_
    refine lv_iconst (v := nI 4) hx hb d_C_lanesOfKind3_26 (by decide) ?_
    refine lx_idiv (z := nI (wid M 4 0)) hx hb d_C_lanesOfKind3_27 (by decide) (pk_div (by omega) (by decide) (by decide)) ?_
    refine lc_Iv (b := o0) (As := [.int (nI (wid M 4 0))]) (rest := [.ref o0, .int (nI 0), .ref qa]) ⟨hx, hb, hml, hown, hts⟩ (c_L_init l D g _ _ o0 (wid M 4 0) hw0) (kI 1 hts m_73 m_71 m_72 m_34 rfl (by decide +kernel) ⟨Nat.le_of_ble_eq_true rfl, Nat.le_of_ble_eq_true rfl⟩) hKK hP hD hS hA hl.1 rfl rfl (Nat.le_of_ble_eq_true rfl) d_C_lanesOfKind3_28 ⟨by first | omega | exact Nat.le_of_ble_eq_true rfl, by first | omega | exact Nat.le_of_ble_eq_true rfl⟩ (fun u0 H locs _ hP hD hS => ?_)
    refine W.widen (k := 1 + 1 + 3) (n := 4 + 4 + 192) (by omega) (by omega) ?_
    have hP : va_P D vwCl ((u0.2.2, .inl (g 0, 2 ^ lr (wid M 4 0), .inl (fun s => oI (ba (lr (wid M 4 0)) (wid M 4 0) (wid M 4 0) s)))) :: (u0.2.1, .inl (g 0, lr (wid M 4 0), .inl (fun r => nI (rsf (lr (wid M 4 0)) (wid M 4 0) r)))) :: (u0.1, .inl (g 0, (wid M 4 0), .inl (fun j => nI (if j < wid M 4 0 then cc_ (lr (wid M 4 0)) j else 0)))) :: (o0, .inr (4, [.int (nI (lr (wid M 4 0))), .ref u0.1, .ref u0.2.1, .ref u0.2.2])) :: (qa, .inl (g 3, 4, .inr (.inr (.inr (.inr (fun _ => none)))))) :: wr) H := hP
    have hD : va_D A ((u0.2.2, .inl (g 0, 2 ^ lr (wid M 4 0), .inl (fun s => oI (ba (lr (wid M 4 0)) (wid M 4 0) (wid M 4 0) s)))) :: (u0.2.1, .inl (g 0, lr (wid M 4 0), .inl (fun r => nI (rsf (lr (wid M 4 0)) (wid M 4 0) r)))) :: (u0.1, .inl (g 0, (wid M 4 0), .inl (fun j => nI (if j < wid M 4 0 then cc_ (lr (wid M 4 0)) j else 0)))) :: (o0, .inr (4, [.int (nI (lr (wid M 4 0))), .ref u0.1, .ref u0.2.1, .ref u0.2.2])) :: (qa, .inl (g 3, 4, .inr (.inr (.inr (.inr (fun _ => none)))))) :: wr) := hD
    refine lx_aast (f' := va_up (fun _ => none) 0 (some o0)) hx hb hK hP hD hS 4 3 3 4 rfl rfl rfl rfl (j := 0) (by omega) (by omega) (rfl) d_C_lanesOfKind3_31 (fun H locs hP hD hS => ?_)
    have hP : va_P D vwCl ((u0.2.2, .inl (g 0, 2 ^ lr (wid M 4 0), .inl (fun s => oI (ba (lr (wid M 4 0)) (wid M 4 0) (wid M 4 0) s)))) :: (u0.2.1, .inl (g 0, lr (wid M 4 0), .inl (fun r => nI (rsf (lr (wid M 4 0)) (wid M 4 0) r)))) :: (u0.1, .inl (g 0, (wid M 4 0), .inl (fun j => nI (if j < wid M 4 0 then cc_ (lr (wid M 4 0)) j else 0)))) :: (o0, .inr (4, [.int (nI (lr (wid M 4 0))), .ref u0.1, .ref u0.2.1, .ref u0.2.2])) :: (qa, .inl (g 3, 4, .inr (.inr (.inr (.inr (va_up (fun _ => none) 0 (some o0))))))) :: wr) H := hP
    have hD : va_D A ((u0.2.2, .inl (g 0, 2 ^ lr (wid M 4 0), .inl (fun s => oI (ba (lr (wid M 4 0)) (wid M 4 0) (wid M 4 0) s)))) :: (u0.2.1, .inl (g 0, lr (wid M 4 0), .inl (fun r => nI (rsf (lr (wid M 4 0)) (wid M 4 0) r)))) :: (u0.1, .inl (g 0, (wid M 4 0), .inl (fun j => nI (if j < wid M 4 0 then cc_ (lr (wid M 4 0)) j else 0)))) :: (o0, .inr (4, [.int (nI (lr (wid M 4 0))), .ref u0.1, .ref u0.2.1, .ref u0.2.2])) :: (qa, .inl (g 3, 4, .inr (.inr (.inr (.inr (va_up (fun _ => none) 0 (some o0))))))) :: wr) := hD
    refine lv_iinc (v := nI 1) (lv' := [(2, .int (nI 1)), (1, .ref qa), (0, .int (nI M))]) hx hb d_C_lanesOfKind3_32 hl (k := 0) rfl (by decide) (by decide) rfl (fun ls hl => ?_)
    refine lv_goto (tgt := 7) hx hb d_C_lanesOfKind3_35 (by decide) ?_
    have hw1 : wid M 4 1 ≤ 57 := wid_le hM57 (by decide)
    refine lv_iload_n hx hb d_C_lanesOfKind3_7 rfl (lv_at hl 0 rfl) ?_
    refine lv_aload_n hx hb d_C_lanesOfKind3_8 rfl (lv_at hl 1 rfl) ?_
    refine va_alen hx hb hK hP 4 3 rfl (v := nI 4) rfl (rfl) d_C_lanesOfKind3_9 ?_
    refine lx_icmp_ge (tgt := 38) hx hb d_C_lanesOfKind3_10 (by decide) (by omega) (by omega) (fun c9_1 => ?_) (fun c9_1 => ?_)
    · skip
      exact absurd c9_1 (by decide)
    · skip
      refine lv_aload_n hx hb d_C_lanesOfKind3_13 rfl (lv_at hl 1 rfl) ?_
      refine lv_iload_n hx hb d_C_lanesOfKind3_14 rfl (lv_at hl 0 rfl) ?_
      refine lx_new (ci := 4) (fs := [.int (nI 0), .null, .null, .null]) (C := R_L) (T := F_L) (N := 4) hx hb hts i_L tf_L tf_L_ok hown (hts _ m_68) (hts _ m_70) (hts _ m_34) hK hP hD hS hA rfl (by decide +kernel) (by first | omega | exact Nat.le_of_ble_eq_true rfl) (by first | omega | exact Nat.le_of_ble_eq_true rfl) d_C_lanesOfKind3_15 (fun o1 H hP hD hS => ?_)
      refine W.widen (k := 1 + 1 + 3 + 1) (n := 4 + 4 + 192 + 4) (by omega) (by omega) ?_
      have hP : va_P D vwCl ((o1, .inr (4, [.int (nI 0), .null, .null, .null])) :: (u0.2.2, .inl (g 0, 2 ^ lr (wid M 4 0), .inl (fun s => oI (ba (lr (wid M 4 0)) (wid M 4 0) (wid M 4 0) s)))) :: (u0.2.1, .inl (g 0, lr (wid M 4 0), .inl (fun r => nI (rsf (lr (wid M 4 0)) (wid M 4 0) r)))) :: (u0.1, .inl (g 0, (wid M 4 0), .inl (fun j => nI (if j < wid M 4 0 then cc_ (lr (wid M 4 0)) j else 0)))) :: (o0, .inr (4, [.int (nI (lr (wid M 4 0))), .ref u0.1, .ref u0.2.1, .ref u0.2.2])) :: (qa, .inl (g 3, 4, .inr (.inr (.inr (.inr (va_up (fun _ => none) 0 (some o0))))))) :: wr) H := hP
      have hD : va_D A ((o1, .inr (4, [.int (nI 0), .null, .null, .null])) :: (u0.2.2, .inl (g 0, 2 ^ lr (wid M 4 0), .inl (fun s => oI (ba (lr (wid M 4 0)) (wid M 4 0) (wid M 4 0) s)))) :: (u0.2.1, .inl (g 0, lr (wid M 4 0), .inl (fun r => nI (rsf (lr (wid M 4 0)) (wid M 4 0) r)))) :: (u0.1, .inl (g 0, (wid M 4 0), .inl (fun j => nI (if j < wid M 4 0 then cc_ (lr (wid M 4 0)) j else 0)))) :: (o0, .inr (4, [.int (nI (lr (wid M 4 0))), .ref u0.1, .ref u0.2.1, .ref u0.2.2])) :: (qa, .inl (g 3, 4, .inr (.inr (.inr (.inr (va_up (fun _ => none) 0 (some o0))))))) :: wr) := hD
      refine lv_dup hx hb d_C_lanesOfKind3_18 rfl ?_
      refine lv_iload_n hx hb d_C_lanesOfKind3_19 rfl (lv_at hl 2 rfl) ?_
      refine lv_iconst (v := nI 4) hx hb d_C_lanesOfKind3_20 (by decide) ?_
      refine lx_iadd (z := nI (M + 4)) hx hb d_C_lanesOfKind3_21 (nI_add M 4) ?_
      refine lv_iconst (v := nI 1) hx hb d_C_lanesOfKind3_22 (by decide) ?_
      refine lx_isub (z := nI (M + 4 - 1)) hx hb d_C_lanesOfKind3_23 (pk_sub (by omega)) ?_
      refine lv_iload_n hx hb d_C_lanesOfKind3_24 rfl (lv_at hl 0 rfl) ?_
      refine lx_isub (z := nI (M + 4 - 1 - 1)) hx hb d_C_lanesOfKind3_25 ((pk_sub (by omega)).trans (congrArg nI (by omega))) ?_
      refine lv_iconst (v := nI 4) hx hb d_C_lanesOfKind3_26 (by decide) ?_
      refine lx_idiv (z := nI (wid M 4 1)) hx hb d_C_lanesOfKind3_27 (by decide) (pk_div (by omega) (by decide) (by decide)) ?_
      refine lc_Iv (b := o1) (As := [.int (nI (wid M 4 1))]) (rest := [.ref o1, .int (nI 1), .ref qa]) ⟨hx, hb, hml, hown, hts⟩ (c_L_init l D g _ _ o1 (wid M 4 1) hw1) (kI 1 hts m_73 m_71 m_72 m_34 rfl (by decide +kernel) ⟨Nat.le_of_ble_eq_true rfl, Nat.le_of_ble_eq_true rfl⟩) hKK hP hD hS hA hl.1 rfl rfl (Nat.le_of_ble_eq_true rfl) d_C_lanesOfKind3_28 ⟨by first | omega | exact Nat.le_of_ble_eq_true rfl, by first | omega | exact Nat.le_of_ble_eq_true rfl⟩ (fun u1 H locs _ hP hD hS => ?_)
      refine W.widen (k := 1 + 1 + 3 + 1 + 3) (n := 4 + 4 + 192 + 4 + 192) (by omega) (by omega) ?_
      have hP : va_P D vwCl ((u1.2.2, .inl (g 0, 2 ^ lr (wid M 4 1), .inl (fun s => oI (ba (lr (wid M 4 1)) (wid M 4 1) (wid M 4 1) s)))) :: (u1.2.1, .inl (g 0, lr (wid M 4 1), .inl (fun r => nI (rsf (lr (wid M 4 1)) (wid M 4 1) r)))) :: (u1.1, .inl (g 0, (wid M 4 1), .inl (fun j => nI (if j < wid M 4 1 then cc_ (lr (wid M 4 1)) j else 0)))) :: (o1, .inr (4, [.int (nI (lr (wid M 4 1))), .ref u1.1, .ref u1.2.1, .ref u1.2.2])) :: (u0.2.2, .inl (g 0, 2 ^ lr (wid M 4 0), .inl (fun s => oI (ba (lr (wid M 4 0)) (wid M 4 0) (wid M 4 0) s)))) :: (u0.2.1, .inl (g 0, lr (wid M 4 0), .inl (fun r => nI (rsf (lr (wid M 4 0)) (wid M 4 0) r)))) :: (u0.1, .inl (g 0, (wid M 4 0), .inl (fun j => nI (if j < wid M 4 0 then cc_ (lr (wid M 4 0)) j else 0)))) :: (o0, .inr (4, [.int (nI (lr (wid M 4 0))), .ref u0.1, .ref u0.2.1, .ref u0.2.2])) :: (qa, .inl (g 3, 4, .inr (.inr (.inr (.inr (va_up (fun _ => none) 0 (some o0))))))) :: wr) H := hP
      have hD : va_D A ((u1.2.2, .inl (g 0, 2 ^ lr (wid M 4 1), .inl (fun s => oI (ba (lr (wid M 4 1)) (wid M 4 1) (wid M 4 1) s)))) :: (u1.2.1, .inl (g 0, lr (wid M 4 1), .inl (fun r => nI (rsf (lr (wid M 4 1)) (wid M 4 1) r)))) :: (u1.1, .inl (g 0, (wid M 4 1), .inl (fun j => nI (if j < wid M 4 1 then cc_ (lr (wid M 4 1)) j else 0)))) :: (o1, .inr (4, [.int (nI (lr (wid M 4 1))), .ref u1.1, .ref u1.2.1, .ref u1.2.2])) :: (u0.2.2, .inl (g 0, 2 ^ lr (wid M 4 0), .inl (fun s => oI (ba (lr (wid M 4 0)) (wid M 4 0) (wid M 4 0) s)))) :: (u0.2.1, .inl (g 0, lr (wid M 4 0), .inl (fun r => nI (rsf (lr (wid M 4 0)) (wid M 4 0) r)))) :: (u0.1, .inl (g 0, (wid M 4 0), .inl (fun j => nI (if j < wid M 4 0 then cc_ (lr (wid M 4 0)) j else 0)))) :: (o0, .inr (4, [.int (nI (lr (wid M 4 0))), .ref u0.1, .ref u0.2.1, .ref u0.2.2])) :: (qa, .inl (g 3, 4, .inr (.inr (.inr (.inr (va_up (fun _ => none) 0 (some o0))))))) :: wr) := hD
      refine lx_aast (f' := va_up (va_up (fun _ => none) 0 (some o0)) 1 (some o1)) hx hb hK hP hD hS 8 3 3 4 rfl rfl rfl rfl (j := 1) (by omega) (by omega) (rfl) d_C_lanesOfKind3_31 (fun H locs hP hD hS => ?_)
      have hP : va_P D vwCl ((u1.2.2, .inl (g 0, 2 ^ lr (wid M 4 1), .inl (fun s => oI (ba (lr (wid M 4 1)) (wid M 4 1) (wid M 4 1) s)))) :: (u1.2.1, .inl (g 0, lr (wid M 4 1), .inl (fun r => nI (rsf (lr (wid M 4 1)) (wid M 4 1) r)))) :: (u1.1, .inl (g 0, (wid M 4 1), .inl (fun j => nI (if j < wid M 4 1 then cc_ (lr (wid M 4 1)) j else 0)))) :: (o1, .inr (4, [.int (nI (lr (wid M 4 1))), .ref u1.1, .ref u1.2.1, .ref u1.2.2])) :: (u0.2.2, .inl (g 0, 2 ^ lr (wid M 4 0), .inl (fun s => oI (ba (lr (wid M 4 0)) (wid M 4 0) (wid M 4 0) s)))) :: (u0.2.1, .inl (g 0, lr (wid M 4 0), .inl (fun r => nI (rsf (lr (wid M 4 0)) (wid M 4 0) r)))) :: (u0.1, .inl (g 0, (wid M 4 0), .inl (fun j => nI (if j < wid M 4 0 then cc_ (lr (wid M 4 0)) j else 0)))) :: (o0, .inr (4, [.int (nI (lr (wid M 4 0))), .ref u0.1, .ref u0.2.1, .ref u0.2.2])) :: (qa, .inl (g 3, 4, .inr (.inr (.inr (.inr (va_up (va_up (fun _ => none) 0 (some o0)) 1 (some o1))))))) :: wr) H := hP
      have hD : va_D A ((u1.2.2, .inl (g 0, 2 ^ lr (wid M 4 1), .inl (fun s => oI (ba (lr (wid M 4 1)) (wid M 4 1) (wid M 4 1) s)))) :: (u1.2.1, .inl (g 0, lr (wid M 4 1), .inl (fun r => nI (rsf (lr (wid M 4 1)) (wid M 4 1) r)))) :: (u1.1, .inl (g 0, (wid M 4 1), .inl (fun j => nI (if j < wid M 4 1 then cc_ (lr (wid M 4 1)) j else 0)))) :: (o1, .inr (4, [.int (nI (lr (wid M 4 1))), .ref u1.1, .ref u1.2.1, .ref u1.2.2])) :: (u0.2.2, .inl (g 0, 2 ^ lr (wid M 4 0), .inl (fun s => oI (ba (lr (wid M 4 0)) (wid M 4 0) (wid M 4 0) s)))) :: (u0.2.1, .inl (g 0, lr (wid M 4 0), .inl (fun r => nI (rsf (lr (wid M 4 0)) (wid M 4 0) r)))) :: (u0.1, .inl (g 0, (wid M 4 0), .inl (fun j => nI (if j < wid M 4 0 then cc_ (lr (wid M 4 0)) j else 0)))) :: (o0, .inr (4, [.int (nI (lr (wid M 4 0))), .ref u0.1, .ref u0.2.1, .ref u0.2.2])) :: (qa, .inl (g 3, 4, .inr (.inr (.inr (.inr (va_up (va_up (fun _ => none) 0 (some o0)) 1 (some o1))))))) :: wr) := hD
      refine lv_iinc (v := nI 2) (lv' := [(2, .int (nI 2)), (1, .ref qa), (0, .int (nI M))]) hx hb d_C_lanesOfKind3_32 hl (k := 0) rfl (by decide) (by decide) rfl (fun ls hl => ?_)
      refine lv_goto (tgt := 7) hx hb d_C_lanesOfKind3_35 (by decide) ?_
      have hw2 : wid M 4 2 ≤ 57 := wid_le hM57 (by decide)
      refine lv_iload_n hx hb d_C_lanesOfKind3_7 rfl (lv_at hl 0 rfl) ?_
      refine lv_aload_n hx hb d_C_lanesOfKind3_8 rfl (lv_at hl 1 rfl) ?_
      refine va_alen hx hb hK hP 8 3 rfl (v := nI 4) rfl (rfl) d_C_lanesOfKind3_9 ?_
      refine lx_icmp_ge (tgt := 38) hx hb d_C_lanesOfKind3_10 (by decide) (by omega) (by omega) (fun c9_2 => ?_) (fun c9_2 => ?_)
      · skip
        exact absurd c9_2 (by decide)
      · skip
        refine lv_aload_n hx hb d_C_lanesOfKind3_13 rfl (lv_at hl 1 rfl) ?_
        refine lv_iload_n hx hb d_C_lanesOfKind3_14 rfl (lv_at hl 0 rfl) ?_
        refine lx_new (ci := 4) (fs := [.int (nI 0), .null, .null, .null]) (C := R_L) (T := F_L) (N := 4) hx hb hts i_L tf_L tf_L_ok hown (hts _ m_68) (hts _ m_70) (hts _ m_34) hK hP hD hS hA rfl (by decide +kernel) (by first | omega | exact Nat.le_of_ble_eq_true rfl) (by first | omega | exact Nat.le_of_ble_eq_true rfl) d_C_lanesOfKind3_15 (fun o2 H hP hD hS => ?_)
        refine W.widen (k := 1 + 1 + 3 + 1 + 3 + 1) (n := 4 + 4 + 192 + 4 + 192 + 4) (by omega) (by omega) ?_
        have hP : va_P D vwCl ((o2, .inr (4, [.int (nI 0), .null, .null, .null])) :: (u1.2.2, .inl (g 0, 2 ^ lr (wid M 4 1), .inl (fun s => oI (ba (lr (wid M 4 1)) (wid M 4 1) (wid M 4 1) s)))) :: (u1.2.1, .inl (g 0, lr (wid M 4 1), .inl (fun r => nI (rsf (lr (wid M 4 1)) (wid M 4 1) r)))) :: (u1.1, .inl (g 0, (wid M 4 1), .inl (fun j => nI (if j < wid M 4 1 then cc_ (lr (wid M 4 1)) j else 0)))) :: (o1, .inr (4, [.int (nI (lr (wid M 4 1))), .ref u1.1, .ref u1.2.1, .ref u1.2.2])) :: (u0.2.2, .inl (g 0, 2 ^ lr (wid M 4 0), .inl (fun s => oI (ba (lr (wid M 4 0)) (wid M 4 0) (wid M 4 0) s)))) :: (u0.2.1, .inl (g 0, lr (wid M 4 0), .inl (fun r => nI (rsf (lr (wid M 4 0)) (wid M 4 0) r)))) :: (u0.1, .inl (g 0, (wid M 4 0), .inl (fun j => nI (if j < wid M 4 0 then cc_ (lr (wid M 4 0)) j else 0)))) :: (o0, .inr (4, [.int (nI (lr (wid M 4 0))), .ref u0.1, .ref u0.2.1, .ref u0.2.2])) :: (qa, .inl (g 3, 4, .inr (.inr (.inr (.inr (va_up (va_up (fun _ => none) 0 (some o0)) 1 (some o1))))))) :: wr) H := hP
        have hD : va_D A ((o2, .inr (4, [.int (nI 0), .null, .null, .null])) :: (u1.2.2, .inl (g 0, 2 ^ lr (wid M 4 1), .inl (fun s => oI (ba (lr (wid M 4 1)) (wid M 4 1) (wid M 4 1) s)))) :: (u1.2.1, .inl (g 0, lr (wid M 4 1), .inl (fun r => nI (rsf (lr (wid M 4 1)) (wid M 4 1) r)))) :: (u1.1, .inl (g 0, (wid M 4 1), .inl (fun j => nI (if j < wid M 4 1 then cc_ (lr (wid M 4 1)) j else 0)))) :: (o1, .inr (4, [.int (nI (lr (wid M 4 1))), .ref u1.1, .ref u1.2.1, .ref u1.2.2])) :: (u0.2.2, .inl (g 0, 2 ^ lr (wid M 4 0), .inl (fun s => oI (ba (lr (wid M 4 0)) (wid M 4 0) (wid M 4 0) s)))) :: (u0.2.1, .inl (g 0, lr (wid M 4 0), .inl (fun r => nI (rsf (lr (wid M 4 0)) (wid M 4 0) r)))) :: (u0.1, .inl (g 0, (wid M 4 0), .inl (fun j => nI (if j < wid M 4 0 then cc_ (lr (wid M 4 0)) j else 0)))) :: (o0, .inr (4, [.int (nI (lr (wid M 4 0))), .ref u0.1, .ref u0.2.1, .ref u0.2.2])) :: (qa, .inl (g 3, 4, .inr (.inr (.inr (.inr (va_up (va_up (fun _ => none) 0 (some o0)) 1 (some o1))))))) :: wr) := hD
        refine lv_dup hx hb d_C_lanesOfKind3_18 rfl ?_
        refine lv_iload_n hx hb d_C_lanesOfKind3_19 rfl (lv_at hl 2 rfl) ?_
        refine lv_iconst (v := nI 4) hx hb d_C_lanesOfKind3_20 (by decide) ?_
        refine lx_iadd (z := nI (M + 4)) hx hb d_C_lanesOfKind3_21 (nI_add M 4) ?_
        refine lv_iconst (v := nI 1) hx hb d_C_lanesOfKind3_22 (by decide) ?_
        refine lx_isub (z := nI (M + 4 - 1)) hx hb d_C_lanesOfKind3_23 (pk_sub (by omega)) ?_
        refine lv_iload_n hx hb d_C_lanesOfKind3_24 rfl (lv_at hl 0 rfl) ?_
        refine lx_isub (z := nI (M + 4 - 2 - 1)) hx hb d_C_lanesOfKind3_25 ((pk_sub (by omega)).trans (congrArg nI (by omega))) ?_
        refine lv_iconst (v := nI 4) hx hb d_C_lanesOfKind3_26 (by decide) ?_
        refine lx_idiv (z := nI (wid M 4 2)) hx hb d_C_lanesOfKind3_27 (by decide) (pk_div (by omega) (by decide) (by decide)) ?_
        refine lc_Iv (b := o2) (As := [.int (nI (wid M 4 2))]) (rest := [.ref o2, .int (nI 2), .ref qa]) ⟨hx, hb, hml, hown, hts⟩ (c_L_init l D g _ _ o2 (wid M 4 2) hw2) (kI 1 hts m_73 m_71 m_72 m_34 rfl (by decide +kernel) ⟨Nat.le_of_ble_eq_true rfl, Nat.le_of_ble_eq_true rfl⟩) hKK hP hD hS hA hl.1 rfl rfl (Nat.le_of_ble_eq_true rfl) d_C_lanesOfKind3_28 ⟨by first | omega | exact Nat.le_of_ble_eq_true rfl, by first | omega | exact Nat.le_of_ble_eq_true rfl⟩ (fun u2 H locs _ hP hD hS => ?_)
        refine W.widen (k := 1 + 1 + 3 + 1 + 3 + 1 + 3) (n := 4 + 4 + 192 + 4 + 192 + 4 + 192) (by omega) (by omega) ?_
        have hP : va_P D vwCl ((u2.2.2, .inl (g 0, 2 ^ lr (wid M 4 2), .inl (fun s => oI (ba (lr (wid M 4 2)) (wid M 4 2) (wid M 4 2) s)))) :: (u2.2.1, .inl (g 0, lr (wid M 4 2), .inl (fun r => nI (rsf (lr (wid M 4 2)) (wid M 4 2) r)))) :: (u2.1, .inl (g 0, (wid M 4 2), .inl (fun j => nI (if j < wid M 4 2 then cc_ (lr (wid M 4 2)) j else 0)))) :: (o2, .inr (4, [.int (nI (lr (wid M 4 2))), .ref u2.1, .ref u2.2.1, .ref u2.2.2])) :: (u1.2.2, .inl (g 0, 2 ^ lr (wid M 4 1), .inl (fun s => oI (ba (lr (wid M 4 1)) (wid M 4 1) (wid M 4 1) s)))) :: (u1.2.1, .inl (g 0, lr (wid M 4 1), .inl (fun r => nI (rsf (lr (wid M 4 1)) (wid M 4 1) r)))) :: (u1.1, .inl (g 0, (wid M 4 1), .inl (fun j => nI (if j < wid M 4 1 then cc_ (lr (wid M 4 1)) j else 0)))) :: (o1, .inr (4, [.int (nI (lr (wid M 4 1))), .ref u1.1, .ref u1.2.1, .ref u1.2.2])) :: (u0.2.2, .inl (g 0, 2 ^ lr (wid M 4 0), .inl (fun s => oI (ba (lr (wid M 4 0)) (wid M 4 0) (wid M 4 0) s)))) :: (u0.2.1, .inl (g 0, lr (wid M 4 0), .inl (fun r => nI (rsf (lr (wid M 4 0)) (wid M 4 0) r)))) :: (u0.1, .inl (g 0, (wid M 4 0), .inl (fun j => nI (if j < wid M 4 0 then cc_ (lr (wid M 4 0)) j else 0)))) :: (o0, .inr (4, [.int (nI (lr (wid M 4 0))), .ref u0.1, .ref u0.2.1, .ref u0.2.2])) :: (qa, .inl (g 3, 4, .inr (.inr (.inr (.inr (va_up (va_up (fun _ => none) 0 (some o0)) 1 (some o1))))))) :: wr) H := hP
        have hD : va_D A ((u2.2.2, .inl (g 0, 2 ^ lr (wid M 4 2), .inl (fun s => oI (ba (lr (wid M 4 2)) (wid M 4 2) (wid M 4 2) s)))) :: (u2.2.1, .inl (g 0, lr (wid M 4 2), .inl (fun r => nI (rsf (lr (wid M 4 2)) (wid M 4 2) r)))) :: (u2.1, .inl (g 0, (wid M 4 2), .inl (fun j => nI (if j < wid M 4 2 then cc_ (lr (wid M 4 2)) j else 0)))) :: (o2, .inr (4, [.int (nI (lr (wid M 4 2))), .ref u2.1, .ref u2.2.1, .ref u2.2.2])) :: (u1.2.2, .inl (g 0, 2 ^ lr (wid M 4 1), .inl (fun s => oI (ba (lr (wid M 4 1)) (wid M 4 1) (wid M 4 1) s)))) :: (u1.2.1, .inl (g 0, lr (wid M 4 1), .inl (fun r => nI (rsf (lr (wid M 4 1)) (wid M 4 1) r)))) :: (u1.1, .inl (g 0, (wid M 4 1), .inl (fun j => nI (if j < wid M 4 1 then cc_ (lr (wid M 4 1)) j else 0)))) :: (o1, .inr (4, [.int (nI (lr (wid M 4 1))), .ref u1.1, .ref u1.2.1, .ref u1.2.2])) :: (u0.2.2, .inl (g 0, 2 ^ lr (wid M 4 0), .inl (fun s => oI (ba (lr (wid M 4 0)) (wid M 4 0) (wid M 4 0) s)))) :: (u0.2.1, .inl (g 0, lr (wid M 4 0), .inl (fun r => nI (rsf (lr (wid M 4 0)) (wid M 4 0) r)))) :: (u0.1, .inl (g 0, (wid M 4 0), .inl (fun j => nI (if j < wid M 4 0 then cc_ (lr (wid M 4 0)) j else 0)))) :: (o0, .inr (4, [.int (nI (lr (wid M 4 0))), .ref u0.1, .ref u0.2.1, .ref u0.2.2])) :: (qa, .inl (g 3, 4, .inr (.inr (.inr (.inr (va_up (va_up (fun _ => none) 0 (some o0)) 1 (some o1))))))) :: wr) := hD
        refine lx_aast (f' := va_up (va_up (va_up (fun _ => none) 0 (some o0)) 1 (some o1)) 2 (some o2)) hx hb hK hP hD hS 12 3 3 4 rfl rfl rfl rfl (j := 2) (by omega) (by omega) (rfl) d_C_lanesOfKind3_31 (fun H locs hP hD hS => ?_)
        have hP : va_P D vwCl ((u2.2.2, .inl (g 0, 2 ^ lr (wid M 4 2), .inl (fun s => oI (ba (lr (wid M 4 2)) (wid M 4 2) (wid M 4 2) s)))) :: (u2.2.1, .inl (g 0, lr (wid M 4 2), .inl (fun r => nI (rsf (lr (wid M 4 2)) (wid M 4 2) r)))) :: (u2.1, .inl (g 0, (wid M 4 2), .inl (fun j => nI (if j < wid M 4 2 then cc_ (lr (wid M 4 2)) j else 0)))) :: (o2, .inr (4, [.int (nI (lr (wid M 4 2))), .ref u2.1, .ref u2.2.1, .ref u2.2.2])) :: (u1.2.2, .inl (g 0, 2 ^ lr (wid M 4 1), .inl (fun s => oI (ba (lr (wid M 4 1)) (wid M 4 1) (wid M 4 1) s)))) :: (u1.2.1, .inl (g 0, lr (wid M 4 1), .inl (fun r => nI (rsf (lr (wid M 4 1)) (wid M 4 1) r)))) :: (u1.1, .inl (g 0, (wid M 4 1), .inl (fun j => nI (if j < wid M 4 1 then cc_ (lr (wid M 4 1)) j else 0)))) :: (o1, .inr (4, [.int (nI (lr (wid M 4 1))), .ref u1.1, .ref u1.2.1, .ref u1.2.2])) :: (u0.2.2, .inl (g 0, 2 ^ lr (wid M 4 0), .inl (fun s => oI (ba (lr (wid M 4 0)) (wid M 4 0) (wid M 4 0) s)))) :: (u0.2.1, .inl (g 0, lr (wid M 4 0), .inl (fun r => nI (rsf (lr (wid M 4 0)) (wid M 4 0) r)))) :: (u0.1, .inl (g 0, (wid M 4 0), .inl (fun j => nI (if j < wid M 4 0 then cc_ (lr (wid M 4 0)) j else 0)))) :: (o0, .inr (4, [.int (nI (lr (wid M 4 0))), .ref u0.1, .ref u0.2.1, .ref u0.2.2])) :: (qa, .inl (g 3, 4, .inr (.inr (.inr (.inr (va_up (va_up (va_up (fun _ => none) 0 (some o0)) 1 (some o1)) 2 (some o2))))))) :: wr) H := hP
        have hD : va_D A ((u2.2.2, .inl (g 0, 2 ^ lr (wid M 4 2), .inl (fun s => oI (ba (lr (wid M 4 2)) (wid M 4 2) (wid M 4 2) s)))) :: (u2.2.1, .inl (g 0, lr (wid M 4 2), .inl (fun r => nI (rsf (lr (wid M 4 2)) (wid M 4 2) r)))) :: (u2.1, .inl (g 0, (wid M 4 2), .inl (fun j => nI (if j < wid M 4 2 then cc_ (lr (wid M 4 2)) j else 0)))) :: (o2, .inr (4, [.int (nI (lr (wid M 4 2))), .ref u2.1, .ref u2.2.1, .ref u2.2.2])) :: (u1.2.2, .inl (g 0, 2 ^ lr (wid M 4 1), .inl (fun s => oI (ba (lr (wid M 4 1)) (wid M 4 1) (wid M 4 1) s)))) :: (u1.2.1, .inl (g 0, lr (wid M 4 1), .inl (fun r => nI (rsf (lr (wid M 4 1)) (wid M 4 1) r)))) :: (u1.1, .inl (g 0, (wid M 4 1), .inl (fun j => nI (if j < wid M 4 1 then cc_ (lr (wid M 4 1)) j else 0)))) :: (o1, .inr (4, [.int (nI (lr (wid M 4 1))), .ref u1.1, .ref u1.2.1, .ref u1.2.2])) :: (u0.2.2, .inl (g 0, 2 ^ lr (wid M 4 0), .inl (fun s => oI (ba (lr (wid M 4 0)) (wid M 4 0) (wid M 4 0) s)))) :: (u0.2.1, .inl (g 0, lr (wid M 4 0), .inl (fun r => nI (rsf (lr (wid M 4 0)) (wid M 4 0) r)))) :: (u0.1, .inl (g 0, (wid M 4 0), .inl (fun j => nI (if j < wid M 4 0 then cc_ (lr (wid M 4 0)) j else 0)))) :: (o0, .inr (4, [.int (nI (lr (wid M 4 0))), .ref u0.1, .ref u0.2.1, .ref u0.2.2])) :: (qa, .inl (g 3, 4, .inr (.inr (.inr (.inr (va_up (va_up (va_up (fun _ => none) 0 (some o0)) 1 (some o1)) 2 (some o2))))))) :: wr) := hD
        refine lv_iinc (v := nI 3) (lv' := [(2, .int (nI 3)), (1, .ref qa), (0, .int (nI M))]) hx hb d_C_lanesOfKind3_32 hl (k := 0) rfl (by decide) (by decide) rfl (fun ls hl => ?_)
        refine lv_goto (tgt := 7) hx hb d_C_lanesOfKind3_35 (by decide) ?_
        have hw3 : wid M 4 3 ≤ 57 := wid_le hM57 (by decide)
        refine lv_iload_n hx hb d_C_lanesOfKind3_7 rfl (lv_at hl 0 rfl) ?_
        refine lv_aload_n hx hb d_C_lanesOfKind3_8 rfl (lv_at hl 1 rfl) ?_
        refine va_alen hx hb hK hP 12 3 rfl (v := nI 4) rfl (rfl) d_C_lanesOfKind3_9 ?_
        refine lx_icmp_ge (tgt := 38) hx hb d_C_lanesOfKind3_10 (by decide) (by omega) (by omega) (fun c9_3 => ?_) (fun c9_3 => ?_)
        · skip
          exact absurd c9_3 (by decide)
        · skip
          refine lv_aload_n hx hb d_C_lanesOfKind3_13 rfl (lv_at hl 1 rfl) ?_
          refine lv_iload_n hx hb d_C_lanesOfKind3_14 rfl (lv_at hl 0 rfl) ?_
          refine lx_new (ci := 4) (fs := [.int (nI 0), .null, .null, .null]) (C := R_L) (T := F_L) (N := 4) hx hb hts i_L tf_L tf_L_ok hown (hts _ m_68) (hts _ m_70) (hts _ m_34) hK hP hD hS hA rfl (by decide +kernel) (by first | omega | exact Nat.le_of_ble_eq_true rfl) (by first | omega | exact Nat.le_of_ble_eq_true rfl) d_C_lanesOfKind3_15 (fun o3 H hP hD hS => ?_)
          refine W.widen (k := 1 + 1 + 3 + 1 + 3 + 1 + 3 + 1) (n := 4 + 4 + 192 + 4 + 192 + 4 + 192 + 4) (by omega) (by omega) ?_
          have hP : va_P D vwCl ((o3, .inr (4, [.int (nI 0), .null, .null, .null])) :: (u2.2.2, .inl (g 0, 2 ^ lr (wid M 4 2), .inl (fun s => oI (ba (lr (wid M 4 2)) (wid M 4 2) (wid M 4 2) s)))) :: (u2.2.1, .inl (g 0, lr (wid M 4 2), .inl (fun r => nI (rsf (lr (wid M 4 2)) (wid M 4 2) r)))) :: (u2.1, .inl (g 0, (wid M 4 2), .inl (fun j => nI (if j < wid M 4 2 then cc_ (lr (wid M 4 2)) j else 0)))) :: (o2, .inr (4, [.int (nI (lr (wid M 4 2))), .ref u2.1, .ref u2.2.1, .ref u2.2.2])) :: (u1.2.2, .inl (g 0, 2 ^ lr (wid M 4 1), .inl (fun s => oI (ba (lr (wid M 4 1)) (wid M 4 1) (wid M 4 1) s)))) :: (u1.2.1, .inl (g 0, lr (wid M 4 1), .inl (fun r => nI (rsf (lr (wid M 4 1)) (wid M 4 1) r)))) :: (u1.1, .inl (g 0, (wid M 4 1), .inl (fun j => nI (if j < wid M 4 1 then cc_ (lr (wid M 4 1)) j else 0)))) :: (o1, .inr (4, [.int (nI (lr (wid M 4 1))), .ref u1.1, .ref u1.2.1, .ref u1.2.2])) :: (u0.2.2, .inl (g 0, 2 ^ lr (wid M 4 0), .inl (fun s => oI (ba (lr (wid M 4 0)) (wid M 4 0) (wid M 4 0) s)))) :: (u0.2.1, .inl (g 0, lr (wid M 4 0), .inl (fun r => nI (rsf (lr (wid M 4 0)) (wid M 4 0) r)))) :: (u0.1, .inl (g 0, (wid M 4 0), .inl (fun j => nI (if j < wid M 4 0 then cc_ (lr (wid M 4 0)) j else 0)))) :: (o0, .inr (4, [.int (nI (lr (wid M 4 0))), .ref u0.1, .ref u0.2.1, .ref u0.2.2])) :: (qa, .inl (g 3, 4, .inr (.inr (.inr (.inr (va_up (va_up (va_up (fun _ => none) 0 (some o0)) 1 (some o1)) 2 (some o2))))))) :: wr) H := hP
          have hD : va_D A ((o3, .inr (4, [.int (nI 0), .null, .null, .null])) :: (u2.2.2, .inl (g 0, 2 ^ lr (wid M 4 2), .inl (fun s => oI (ba (lr (wid M 4 2)) (wid M 4 2) (wid M 4 2) s)))) :: (u2.2.1, .inl (g 0, lr (wid M 4 2), .inl (fun r => nI (rsf (lr (wid M 4 2)) (wid M 4 2) r)))) :: (u2.1, .inl (g 0, (wid M 4 2), .inl (fun j => nI (if j < wid M 4 2 then cc_ (lr (wid M 4 2)) j else 0)))) :: (o2, .inr (4, [.int (nI (lr (wid M 4 2))), .ref u2.1, .ref u2.2.1, .ref u2.2.2])) :: (u1.2.2, .inl (g 0, 2 ^ lr (wid M 4 1), .inl (fun s => oI (ba (lr (wid M 4 1)) (wid M 4 1) (wid M 4 1) s)))) :: (u1.2.1, .inl (g 0, lr (wid M 4 1), .inl (fun r => nI (rsf (lr (wid M 4 1)) (wid M 4 1) r)))) :: (u1.1, .inl (g 0, (wid M 4 1), .inl (fun j => nI (if j < wid M 4 1 then cc_ (lr (wid M 4 1)) j else 0)))) :: (o1, .inr (4, [.int (nI (lr (wid M 4 1))), .ref u1.1, .ref u1.2.1, .ref u1.2.2])) :: (u0.2.2, .inl (g 0, 2 ^ lr (wid M 4 0), .inl (fun s => oI (ba (lr (wid M 4 0)) (wid M 4 0) (wid M 4 0) s)))) :: (u0.2.1, .inl (g 0, lr (wid M 4 0), .inl (fun r => nI (rsf (lr (wid M 4 0)) (wid M 4 0) r)))) :: (u0.1, .inl (g 0, (wid M 4 0), .inl (fun j => nI (if j < wid M 4 0 then cc_ (lr (wid M 4 0)) j else 0)))) :: (o0, .inr (4, [.int (nI (lr (wid M 4 0))), .ref u0.1, .ref u0.2.1, .ref u0.2.2])) :: (qa, .inl (g 3, 4, .inr (.inr (.inr (.inr (va_up (va_up (va_up (fun _ => none) 0 (some o0)) 1 (some o1)) 2 (some o2))))))) :: wr) := hD
          refine lv_dup hx hb d_C_lanesOfKind3_18 rfl ?_
          refine lv_iload_n hx hb d_C_lanesOfKind3_19 rfl (lv_at hl 2 rfl) ?_
          refine lv_iconst (v := nI 4) hx hb d_C_lanesOfKind3_20 (by decide) ?_
          refine lx_iadd (z := nI (M + 4)) hx hb d_C_lanesOfKind3_21 (nI_add M 4) ?_
          refine lv_iconst (v := nI 1) hx hb d_C_lanesOfKind3_22 (by decide) ?_
          refine lx_isub (z := nI (M + 4 - 1)) hx hb d_C_lanesOfKind3_23 (pk_sub (by omega)) ?_
          refine lv_iload_n hx hb d_C_lanesOfKind3_24 rfl (lv_at hl 0 rfl) ?_
          refine lx_isub (z := nI (M + 4 - 3 - 1)) hx hb d_C_lanesOfKind3_25 ((pk_sub (by omega)).trans (congrArg nI (by omega))) ?_
          refine lv_iconst (v := nI 4) hx hb d_C_lanesOfKind3_26 (by decide) ?_
          refine lx_idiv (z := nI (wid M 4 3)) hx hb d_C_lanesOfKind3_27 (by decide) (pk_div (by omega) (by decide) (by decide)) ?_
          refine lc_Iv (b := o3) (As := [.int (nI (wid M 4 3))]) (rest := [.ref o3, .int (nI 3), .ref qa]) ⟨hx, hb, hml, hown, hts⟩ (c_L_init l D g _ _ o3 (wid M 4 3) hw3) (kI 1 hts m_73 m_71 m_72 m_34 rfl (by decide +kernel) ⟨Nat.le_of_ble_eq_true rfl, Nat.le_of_ble_eq_true rfl⟩) hKK hP hD hS hA hl.1 rfl rfl (Nat.le_of_ble_eq_true rfl) d_C_lanesOfKind3_28 ⟨by first | omega | exact Nat.le_of_ble_eq_true rfl, by first | omega | exact Nat.le_of_ble_eq_true rfl⟩ (fun u3 H locs _ hP hD hS => ?_)
          refine W.widen (k := 1 + 1 + 3 + 1 + 3 + 1 + 3 + 1 + 3) (n := 4 + 4 + 192 + 4 + 192 + 4 + 192 + 4 + 192) (by omega) (by omega) ?_
          have hP : va_P D vwCl ((u3.2.2, .inl (g 0, 2 ^ lr (wid M 4 3), .inl (fun s => oI (ba (lr (wid M 4 3)) (wid M 4 3) (wid M 4 3) s)))) :: (u3.2.1, .inl (g 0, lr (wid M 4 3), .inl (fun r => nI (rsf (lr (wid M 4 3)) (wid M 4 3) r)))) :: (u3.1, .inl (g 0, (wid M 4 3), .inl (fun j => nI (if j < wid M 4 3 then cc_ (lr (wid M 4 3)) j else 0)))) :: (o3, .inr (4, [.int (nI (lr (wid M 4 3))), .ref u3.1, .ref u3.2.1, .ref u3.2.2])) :: (u2.2.2, .inl (g 0, 2 ^ lr (wid M 4 2), .inl (fun s => oI (ba (lr (wid M 4 2)) (wid M 4 2) (wid M 4 2) s)))) :: (u2.2.1, .inl (g 0, lr (wid M 4 2), .inl (fun r => nI (rsf (lr (wid M 4 2)) (wid M 4 2) r)))) :: (u2.1, .inl (g 0, (wid M 4 2), .inl (fun j => nI (if j < wid M 4 2 then cc_ (lr (wid M 4 2)) j else 0)))) :: (o2, .inr (4, [.int (nI (lr (wid M 4 2))), .ref u2.1, .ref u2.2.1, .ref u2.2.2])) :: (u1.2.2, .inl (g 0, 2 ^ lr (wid M 4 1), .inl (fun s => oI (ba (lr (wid M 4 1)) (wid M 4 1) (wid M 4 1) s)))) :: (u1.2.1, .inl (g 0, lr (wid M 4 1), .inl (fun r => nI (rsf (lr (wid M 4 1)) (wid M 4 1) r)))) :: (u1.1, .inl (g 0, (wid M 4 1), .inl (fun j => nI (if j < wid M 4 1 then cc_ (lr (wid M 4 1)) j else 0)))) :: (o1, .inr (4, [.int (nI (lr (wid M 4 1))), .ref u1.1, .ref u1.2.1, .ref u1.2.2])) :: (u0.2.2, .inl (g 0, 2 ^ lr (wid M 4 0), .inl (fun s => oI (ba (lr (wid M 4 0)) (wid M 4 0) (wid M 4 0) s)))) :: (u0.2.1, .inl (g 0, lr (wid M 4 0), .inl (fun r => nI (rsf (lr (wid M 4 0)) (wid M 4 0) r)))) :: (u0.1, .inl (g 0, (wid M 4 0), .inl (fun j => nI (if j < wid M 4 0 then cc_ (lr (wid M 4 0)) j else 0)))) :: (o0, .inr (4, [.int (nI (lr (wid M 4 0))), .ref u0.1, .ref u0.2.1, .ref u0.2.2])) :: (qa, .inl (g 3, 4, .inr (.inr (.inr (.inr (va_up (va_up (va_up (fun _ => none) 0 (some o0)) 1 (some o1)) 2 (some o2))))))) :: wr) H := hP
          have hD : va_D A ((u3.2.2, .inl (g 0, 2 ^ lr (wid M 4 3), .inl (fun s => oI (ba (lr (wid M 4 3)) (wid M 4 3) (wid M 4 3) s)))) :: (u3.2.1, .inl (g 0, lr (wid M 4 3), .inl (fun r => nI (rsf (lr (wid M 4 3)) (wid M 4 3) r)))) :: (u3.1, .inl (g 0, (wid M 4 3), .inl (fun j => nI (if j < wid M 4 3 then cc_ (lr (wid M 4 3)) j else 0)))) :: (o3, .inr (4, [.int (nI (lr (wid M 4 3))), .ref u3.1, .ref u3.2.1, .ref u3.2.2])) :: (u2.2.2, .inl (g 0, 2 ^ lr (wid M 4 2), .inl (fun s => oI (ba (lr (wid M 4 2)) (wid M 4 2) (wid M 4 2) s)))) :: (u2.2.1, .inl (g 0, lr (wid M 4 2), .inl (fun r => nI (rsf (lr (wid M 4 2)) (wid M 4 2) r)))) :: (u2.1, .inl (g 0, (wid M 4 2), .inl (fun j => nI (if j < wid M 4 2 then cc_ (lr (wid M 4 2)) j else 0)))) :: (o2, .inr (4, [.int (nI (lr (wid M 4 2))), .ref u2.1, .ref u2.2.1, .ref u2.2.2])) :: (u1.2.2, .inl (g 0, 2 ^ lr (wid M 4 1), .inl (fun s => oI (ba (lr (wid M 4 1)) (wid M 4 1) (wid M 4 1) s)))) :: (u1.2.1, .inl (g 0, lr (wid M 4 1), .inl (fun r => nI (rsf (lr (wid M 4 1)) (wid M 4 1) r)))) :: (u1.1, .inl (g 0, (wid M 4 1), .inl (fun j => nI (if j < wid M 4 1 then cc_ (lr (wid M 4 1)) j else 0)))) :: (o1, .inr (4, [.int (nI (lr (wid M 4 1))), .ref u1.1, .ref u1.2.1, .ref u1.2.2])) :: (u0.2.2, .inl (g 0, 2 ^ lr (wid M 4 0), .inl (fun s => oI (ba (lr (wid M 4 0)) (wid M 4 0) (wid M 4 0) s)))) :: (u0.2.1, .inl (g 0, lr (wid M 4 0), .inl (fun r => nI (rsf (lr (wid M 4 0)) (wid M 4 0) r)))) :: (u0.1, .inl (g 0, (wid M 4 0), .inl (fun j => nI (if j < wid M 4 0 then cc_ (lr (wid M 4 0)) j else 0)))) :: (o0, .inr (4, [.int (nI (lr (wid M 4 0))), .ref u0.1, .ref u0.2.1, .ref u0.2.2])) :: (qa, .inl (g 3, 4, .inr (.inr (.inr (.inr (va_up (va_up (va_up (fun _ => none) 0 (some o0)) 1 (some o1)) 2 (some o2))))))) :: wr) := hD
          refine lx_aast (f' := va_up (va_up (va_up (va_up (fun _ => none) 0 (some o0)) 1 (some o1)) 2 (some o2)) 3 (some o3)) hx hb hK hP hD hS 16 3 3 4 rfl rfl rfl rfl (j := 3) (by omega) (by omega) (rfl) d_C_lanesOfKind3_31 (fun H locs hP hD hS => ?_)
          have hP : va_P D vwCl ((u3.2.2, .inl (g 0, 2 ^ lr (wid M 4 3), .inl (fun s => oI (ba (lr (wid M 4 3)) (wid M 4 3) (wid M 4 3) s)))) :: (u3.2.1, .inl (g 0, lr (wid M 4 3), .inl (fun r => nI (rsf (lr (wid M 4 3)) (wid M 4 3) r)))) :: (u3.1, .inl (g 0, (wid M 4 3), .inl (fun j => nI (if j < wid M 4 3 then cc_ (lr (wid M 4 3)) j else 0)))) :: (o3, .inr (4, [.int (nI (lr (wid M 4 3))), .ref u3.1, .ref u3.2.1, .ref u3.2.2])) :: (u2.2.2, .inl (g 0, 2 ^ lr (wid M 4 2), .inl (fun s => oI (ba (lr (wid M 4 2)) (wid M 4 2) (wid M 4 2) s)))) :: (u2.2.1, .inl (g 0, lr (wid M 4 2), .inl (fun r => nI (rsf (lr (wid M 4 2)) (wid M 4 2) r)))) :: (u2.1, .inl (g 0, (wid M 4 2), .inl (fun j => nI (if j < wid M 4 2 then cc_ (lr (wid M 4 2)) j else 0)))) :: (o2, .inr (4, [.int (nI (lr (wid M 4 2))), .ref u2.1, .ref u2.2.1, .ref u2.2.2])) :: (u1.2.2, .inl (g 0, 2 ^ lr (wid M 4 1), .inl (fun s => oI (ba (lr (wid M 4 1)) (wid M 4 1) (wid M 4 1) s)))) :: (u1.2.1, .inl (g 0, lr (wid M 4 1), .inl (fun r => nI (rsf (lr (wid M 4 1)) (wid M 4 1) r)))) :: (u1.1, .inl (g 0, (wid M 4 1), .inl (fun j => nI (if j < wid M 4 1 then cc_ (lr (wid M 4 1)) j else 0)))) :: (o1, .inr (4, [.int (nI (lr (wid M 4 1))), .ref u1.1, .ref u1.2.1, .ref u1.2.2])) :: (u0.2.2, .inl (g 0, 2 ^ lr (wid M 4 0), .inl (fun s => oI (ba (lr (wid M 4 0)) (wid M 4 0) (wid M 4 0) s)))) :: (u0.2.1, .inl (g 0, lr (wid M 4 0), .inl (fun r => nI (rsf (lr (wid M 4 0)) (wid M 4 0) r)))) :: (u0.1, .inl (g 0, (wid M 4 0), .inl (fun j => nI (if j < wid M 4 0 then cc_ (lr (wid M 4 0)) j else 0)))) :: (o0, .inr (4, [.int (nI (lr (wid M 4 0))), .ref u0.1, .ref u0.2.1, .ref u0.2.2])) :: (qa, .inl (g 3, 4, .inr (.inr (.inr (.inr (va_up (va_up (va_up (va_up (fun _ => none) 0 (some o0)) 1 (some o1)) 2 (some o2)) 3 (some o3))))))) :: wr) H := hP
          have hD : va_D A ((u3.2.2, .inl (g 0, 2 ^ lr (wid M 4 3), .inl (fun s => oI (ba (lr (wid M 4 3)) (wid M 4 3) (wid M 4 3) s)))) :: (u3.2.1, .inl (g 0, lr (wid M 4 3), .inl (fun r => nI (rsf (lr (wid M 4 3)) (wid M 4 3) r)))) :: (u3.1, .inl (g 0, (wid M 4 3), .inl (fun j => nI (if j < wid M 4 3 then cc_ (lr (wid M 4 3)) j else 0)))) :: (o3, .inr (4, [.int (nI (lr (wid M 4 3))), .ref u3.1, .ref u3.2.1, .ref u3.2.2])) :: (u2.2.2, .inl (g 0, 2 ^ lr (wid M 4 2), .inl (fun s => oI (ba (lr (wid M 4 2)) (wid M 4 2) (wid M 4 2) s)))) :: (u2.2.1, .inl (g 0, lr (wid M 4 2), .inl (fun r => nI (rsf (lr (wid M 4 2)) (wid M 4 2) r)))) :: (u2.1, .inl (g 0, (wid M 4 2), .inl (fun j => nI (if j < wid M 4 2 then cc_ (lr (wid M 4 2)) j else 0)))) :: (o2, .inr (4, [.int (nI (lr (wid M 4 2))), .ref u2.1, .ref u2.2.1, .ref u2.2.2])) :: (u1.2.2, .inl (g 0, 2 ^ lr (wid M 4 1), .inl (fun s => oI (ba (lr (wid M 4 1)) (wid M 4 1) (wid M 4 1) s)))) :: (u1.2.1, .inl (g 0, lr (wid M 4 1), .inl (fun r => nI (rsf (lr (wid M 4 1)) (wid M 4 1) r)))) :: (u1.1, .inl (g 0, (wid M 4 1), .inl (fun j => nI (if j < wid M 4 1 then cc_ (lr (wid M 4 1)) j else 0)))) :: (o1, .inr (4, [.int (nI (lr (wid M 4 1))), .ref u1.1, .ref u1.2.1, .ref u1.2.2])) :: (u0.2.2, .inl (g 0, 2 ^ lr (wid M 4 0), .inl (fun s => oI (ba (lr (wid M 4 0)) (wid M 4 0) (wid M 4 0) s)))) :: (u0.2.1, .inl (g 0, lr (wid M 4 0), .inl (fun r => nI (rsf (lr (wid M 4 0)) (wid M 4 0) r)))) :: (u0.1, .inl (g 0, (wid M 4 0), .inl (fun j => nI (if j < wid M 4 0 then cc_ (lr (wid M 4 0)) j else 0)))) :: (o0, .inr (4, [.int (nI (lr (wid M 4 0))), .ref u0.1, .ref u0.2.1, .ref u0.2.2])) :: (qa, .inl (g 3, 4, .inr (.inr (.inr (.inr (va_up (va_up (va_up (va_up (fun _ => none) 0 (some o0)) 1 (some o1)) 2 (some o2)) 3 (some o3))))))) :: wr) := hD
          refine lv_iinc (v := nI 4) (lv' := [(2, .int (nI 4)), (1, .ref qa), (0, .int (nI M))]) hx hb d_C_lanesOfKind3_32 hl (k := 0) rfl (by decide) (by decide) rfl (fun ls hl => ?_)
          refine lv_goto (tgt := 7) hx hb d_C_lanesOfKind3_35 (by decide) ?_
          refine lv_iload_n hx hb d_C_lanesOfKind3_7 rfl (lv_at hl 0 rfl) ?_
          refine lv_aload_n hx hb d_C_lanesOfKind3_8 rfl (lv_at hl 1 rfl) ?_
          refine va_alen hx hb hK hP 16 3 rfl (v := nI 4) rfl (rfl) d_C_lanesOfKind3_9 ?_
          refine lx_icmp_ge (tgt := 38) hx hb d_C_lanesOfKind3_10 (by decide) (by omega) (by omega) (fun c9_4 => ?_) (fun c9_4 => ?_)
          · skip
            have hP : va_P D vwCl ((u3.2.2, .inl (g 0, 2 ^ lr (wid M 4 3), .inl (fun s => oI (ba (lr (wid M 4 3)) (wid M 4 3) (wid M 4 3) s)))) :: (u3.2.1, .inl (g 0, lr (wid M 4 3), .inl (fun r => nI (rsf (lr (wid M 4 3)) (wid M 4 3) r)))) :: (u3.1, .inl (g 0, (wid M 4 3), .inl (fun j => nI (if j < wid M 4 3 then cc_ (lr (wid M 4 3)) j else 0)))) :: (o3, .inr (4, [.int (nI (lr (wid M 4 3))), .ref u3.1, .ref u3.2.1, .ref u3.2.2])) :: (u2.2.2, .inl (g 0, 2 ^ lr (wid M 4 2), .inl (fun s => oI (ba (lr (wid M 4 2)) (wid M 4 2) (wid M 4 2) s)))) :: (u2.2.1, .inl (g 0, lr (wid M 4 2), .inl (fun r => nI (rsf (lr (wid M 4 2)) (wid M 4 2) r)))) :: (u2.1, .inl (g 0, (wid M 4 2), .inl (fun j => nI (if j < wid M 4 2 then cc_ (lr (wid M 4 2)) j else 0)))) :: (o2, .inr (4, [.int (nI (lr (wid M 4 2))), .ref u2.1, .ref u2.2.1, .ref u2.2.2])) :: (u1.2.2, .inl (g 0, 2 ^ lr (wid M 4 1), .inl (fun s => oI (ba (lr (wid M 4 1)) (wid M 4 1) (wid M 4 1) s)))) :: (u1.2.1, .inl (g 0, lr (wid M 4 1), .inl (fun r => nI (rsf (lr (wid M 4 1)) (wid M 4 1) r)))) :: (u1.1, .inl (g 0, (wid M 4 1), .inl (fun j => nI (if j < wid M 4 1 then cc_ (lr (wid M 4 1)) j else 0)))) :: (o1, .inr (4, [.int (nI (lr (wid M 4 1))), .ref u1.1, .ref u1.2.1, .ref u1.2.2])) :: (u0.2.2, .inl (g 0, 2 ^ lr (wid M 4 0), .inl (fun s => oI (ba (lr (wid M 4 0)) (wid M 4 0) (wid M 4 0) s)))) :: (u0.2.1, .inl (g 0, lr (wid M 4 0), .inl (fun r => nI (rsf (lr (wid M 4 0)) (wid M 4 0) r)))) :: (u0.1, .inl (g 0, (wid M 4 0), .inl (fun j => nI (if j < wid M 4 0 then cc_ (lr (wid M 4 0)) j else 0)))) :: (o0, .inr (4, [.int (nI (lr (wid M 4 0))), .ref u0.1, .ref u0.2.1, .ref u0.2.2])) :: (qa, .inl (g 3, 4, .inr (.inr (.inr (.inr (fun i => some ((fun k => ([o0, u0.1, u0.2.1, u0.2.2, o1, u1.1, u1.2.1, u1.2.2, o2, u2.1, u2.2.1, u2.2.2, o3, u3.1, u3.2.1, u3.2.2] : List Nat).getD k 0) (4 * i)))))))) :: wr) H := wp_atq 16 hP rfl (fun j hj => by rcases (show j = 0 ∨ j = 1 ∨ j = 2 ∨ j = 3 by omega) with rfl | rfl | rfl | rfl <;> rfl)
            have hD : va_D A ((u3.2.2, .inl (g 0, 2 ^ lr (wid M 4 3), .inl (fun s => oI (ba (lr (wid M 4 3)) (wid M 4 3) (wid M 4 3) s)))) :: (u3.2.1, .inl (g 0, lr (wid M 4 3), .inl (fun r => nI (rsf (lr (wid M 4 3)) (wid M 4 3) r)))) :: (u3.1, .inl (g 0, (wid M 4 3), .inl (fun j => nI (if j < wid M 4 3 then cc_ (lr (wid M 4 3)) j else 0)))) :: (o3, .inr (4, [.int (nI (lr (wid M 4 3))), .ref u3.1, .ref u3.2.1, .ref u3.2.2])) :: (u2.2.2, .inl (g 0, 2 ^ lr (wid M 4 2), .inl (fun s => oI (ba (lr (wid M 4 2)) (wid M 4 2) (wid M 4 2) s)))) :: (u2.2.1, .inl (g 0, lr (wid M 4 2), .inl (fun r => nI (rsf (lr (wid M 4 2)) (wid M 4 2) r)))) :: (u2.1, .inl (g 0, (wid M 4 2), .inl (fun j => nI (if j < wid M 4 2 then cc_ (lr (wid M 4 2)) j else 0)))) :: (o2, .inr (4, [.int (nI (lr (wid M 4 2))), .ref u2.1, .ref u2.2.1, .ref u2.2.2])) :: (u1.2.2, .inl (g 0, 2 ^ lr (wid M 4 1), .inl (fun s => oI (ba (lr (wid M 4 1)) (wid M 4 1) (wid M 4 1) s)))) :: (u1.2.1, .inl (g 0, lr (wid M 4 1), .inl (fun r => nI (rsf (lr (wid M 4 1)) (wid M 4 1) r)))) :: (u1.1, .inl (g 0, (wid M 4 1), .inl (fun j => nI (if j < wid M 4 1 then cc_ (lr (wid M 4 1)) j else 0)))) :: (o1, .inr (4, [.int (nI (lr (wid M 4 1))), .ref u1.1, .ref u1.2.1, .ref u1.2.2])) :: (u0.2.2, .inl (g 0, 2 ^ lr (wid M 4 0), .inl (fun s => oI (ba (lr (wid M 4 0)) (wid M 4 0) (wid M 4 0) s)))) :: (u0.2.1, .inl (g 0, lr (wid M 4 0), .inl (fun r => nI (rsf (lr (wid M 4 0)) (wid M 4 0) r)))) :: (u0.1, .inl (g 0, (wid M 4 0), .inl (fun j => nI (if j < wid M 4 0 then cc_ (lr (wid M 4 0)) j else 0)))) :: (o0, .inr (4, [.int (nI (lr (wid M 4 0))), .ref u0.1, .ref u0.2.1, .ref u0.2.2])) :: (qa, .inl (g 3, 4, .inr (.inr (.inr (.inr (fun i => some ((fun k => ([o0, u0.1, u0.2.1, u0.2.2, o1, u1.1, u1.2.1, u1.2.2, o2, u2.1, u2.2.1, u2.2.2, o3, u3.1, u3.2.1, u3.2.2] : List Nat).getD k 0) (4 * i)))))))) :: wr) := hD.set (p := 16) rfl
            refine lv_aload_n hx hb d_C_lanesOfKind3_38 rfl (lv_at hl 1 rfl) ?_
            refine W.widen (k := 17) (n := 788) (by omega) (by omega) ?_
            rw [← hQ]
            refine W.aret (v := .ref qa) hx hb hr (by first | exact Or.inl ⟨_, rfl⟩ | exact Or.inr ⟨_, rfl⟩) (Or.inr ⟨_, rfl⟩) ?_ hS.2.2 d_C_lanesOfKind3_39
            exact fun t ht hW => ⟨⟨(fun k => ([o0, u0.1, u0.2.1, u0.2.2, o1, u1.1, u1.2.1, u1.2.2, o2, u2.1, u2.2.1, u2.2.2, o3, u3.1, u3.2.1, u3.2.2] : List Nat).getD k 0), qa, rfl, trivial, by rw [ht]; exact hP, hD⟩, hS.F ht⟩
          · skip
            exact absurd c9_4 (by decide)
set_option maxHeartbeats 4000000 in
set_option maxRecDepth 100000 in
theorem c_S_checkBitsOf (l : Launch) (D : va_G) (g : Nat → ClassId) (sz : Nat) (ws : va_W) (M n0 : Nat) (hn0 : n0 ≤ 4) (kl al : Nat) (lf : Nat → Option Nat) (kL kc kr kb la ca ra ba9 : Nat → Nat) (ql : ws[kl]? = some (al, .inl (g 3, n0, .inr (.inr (.inr (.inr (lf))))))) (qf : ∀ i, i < n0 → lf i = some (la i)) (qL : ∀ i, i < n0 → ws[kL i]? = some (la i, .inr (4, [.int (nI (lr (wid M n0 i))), .ref (ca i), .ref (ra i), .ref (ba9 i)]))) : Met l y_S_checkBitsOf w_S_checkBitsOf rm_S_checkBitsOf (va_Pc [.ref al] (pP D (tyl g) (ws) sz)) (va_Qi (fun (r : Int32) (u : Unit) => r = nI (frm M n0 n0)) (fun u => qB D (va_A (ws) sz) (ws)) (va_A (ws) sz)) 0 0 (va_A (ws) sz) := by
  refine Met.ofW (cc := b_S_checkBitsOf) (maxL := 6) (ret := (some .int)) (by decide +kernel) rfl ?_
  intro p e s m args below meth c s₁ Bq hml hv
  have hx := Bq.exec
  have hb := Bq.bytes
  have hr := Bq.returns
  have hts : ∀ w ∈ wA, w.before args s = true := fun w h => atoms_spec (ws := w_S_checkBitsOf) Bq.pre w (List.mem_cons_of_mem _ h)
  have hown : s.vm.findClass R_S = some m.cls := findClass_of_methodNamed Bq.named
  have hlocks := Bq.notSynchronized
  obtain ⟨rfl, hsz, hP, hKK, hD0⟩ := hv
  have hK := hKK.1
  subst hsz
  have hD := hD0.self (sz := s.heap.size)
  generalize hAe : va_A (ws) s.heap.size = A at hD ⊢
  have hA : ∀ q : Nat, s.heap.size ≤ q → A q := fun q h => by rw [← hAe]; exact Or.inr h
  have hS : va_S A s.heap s.heap [] := va_S.rf
  have hl := lv_entry ([.ref al]) (n := 6) (Nat.le_of_ble_eq_true rfl)
  rw [lg_entry_eq]
  generalize (lg_sl ([.ref al]) ++ List.replicate (6 - (lg_sl ([.ref al])).length) Slot.unset).toArray = ls at hl ⊢
  have hl : lv_has ls 6 [(0, .ref al)] := hl
  generalize hQ : MQ below (va_Qi (fun (r : Int32) (u : Unit) => r = nI (frm M n0 n0)) (fun u => qB D (A) (ws)) (A)) [.ref al].toArray s 0 0 A = Q
  have lp10 : ∀ (n : Nat) (k : Nat) (ls : Array Slot) (H : Heap) (locs : List Loc), (n0 + 1 ≤ k + n) → (k ≤ n0) → lv_has ls 6 [(1, .int (nI (frm M n0 k))), (2, .ref al), (3, .int (nI n0)), (4, .int (nI k))] → va_P D vwCl (ws) H → va_D A (ws) → va_S A s.heap H locs → W p l e (headSpec w_S_checkBitsOf rm_S_checkBitsOf).room s m [.ref al].toArray below meth c H locs 0 0 Q (F0 m 10 ls []) := by
    intro n
    induction n with
    | zero => intro k ls H locs hfu hk _ _ _ _; exact absurd hfu (by omega)
    | succ n ih =>
      intro k ls H locs hfu hk hl hP hD hS
      refine lv_iload hx hb d_S_checkBitsOf_10 (lv_at hl 3 rfl) ?_
      refine lv_iload_n hx hb d_S_checkBitsOf_12 rfl (lv_at hl 2 rfl) ?_
      refine lx_icmp_ge (tgt := 36) hx hb d_S_checkBitsOf_13 (by decide) (by omega) (by omega) (fun c13 => ?_) (fun c13 => ?_)
      · skip
        refine lv_iload_n hx hb d_S_checkBitsOf_36 rfl (lv_at hl 0 rfl) ?_
        rw [← hQ]
        refine W.iret (v := nI (frm M n0 k)) hx hb hr ?_ hS.2.2 d_S_checkBitsOf_37
        exact fun t ht hW => ⟨⟨nI (frm M n0 k), (), rfl, (by rw [show k = n0 by omega]), by rw [ht]; exact hP, hD⟩, hS.F ht⟩
      · skip
        refine lv_aload_n hx hb d_S_checkBitsOf_16 rfl (lv_at hl 1 rfl) ?_
        refine lv_iload hx hb d_S_checkBitsOf_17 (lv_at hl 3 rfl) ?_
        refine lx_aald (v := la k) hx hb hK hP kl 3 ql rfl (j := k) (by omega) (by omega) (qf k c13) d_S_checkBitsOf_19 ?_
        refine lv_astore (lv' := [(5, .ref (la k)), (1, .int (nI (frm M n0 k))), (2, .ref al), (3, .int (nI n0)), (4, .int (nI k))]) hx hb d_S_checkBitsOf_20 hl (by decide) rfl (fun ls hl => ?_)
        refine lv_iload_n hx hb d_S_checkBitsOf_22 rfl (lv_at hl 1 rfl) ?_
        refine lv_aload hx hb d_S_checkBitsOf_23 (lv_at hl 0 rfl) ?_
        refine va_get (D := D) (ci := 4) (v := .int (nI (lr (wid M n0 k)))) (C := R_L) (T := F_L) (N := 4) hx hb hts i_L hown hK hP (kL k) (qL k c13) rfl 0 (by decide) (hts _ m_101) (fun _ h9 => h9) rfl d_S_checkBitsOf_25 ?_
        refine lx_iadd (z := nI (frm M n0 (k + 1))) hx hb d_S_checkBitsOf_28 (nI_add _ _) ?_
        refine lv_istore_n (lv' := [(1, .int (nI (frm M n0 (k + 1)))), (5, .ref (la k)), (2, .ref al), (3, .int (nI n0)), (4, .int (nI k))]) hx hb d_S_checkBitsOf_29 rfl hl (by decide) rfl (fun ls hl => ?_)
        refine lv_iinc (v := nI (k + 1)) (lv' := [(4, .int (nI (k + 1))), (1, .int (nI (frm M n0 (k + 1)))), (5, .ref (la k)), (2, .ref al), (3, .int (nI n0))]) hx hb d_S_checkBitsOf_30 hl (k := 4) rfl (nI_1 k) (by decide) rfl (fun ls hl => ?_)
        refine lv_goto (tgt := 10) hx hb d_S_checkBitsOf_33 (by decide) ?_
        exact ih (k + 1) _ _ _ (by omega) (by omega) (lv_sub hl [1, 3, 4, 0] rfl) hP hD hS
  refine lv_iconst (v := nI 0) hx hb d_S_checkBitsOf_0 (by decide) ?_
  refine lv_istore_n (lv' := [(1, .int (nI 0)), (0, .ref al)]) hx hb d_S_checkBitsOf_1 rfl hl (by decide) rfl (fun ls hl => ?_)
  refine lv_aload_n hx hb d_S_checkBitsOf_2 rfl (lv_at hl 1 rfl) ?_
  refine lv_astore_n (lv' := [(2, .ref al), (1, .int (nI 0)), (0, .ref al)]) hx hb d_S_checkBitsOf_3 rfl hl (by decide) rfl (fun ls hl => ?_)
  refine lv_aload_n hx hb d_S_checkBitsOf_4 rfl (lv_at hl 0 rfl) ?_
  refine va_alen hx hb hK hP kl 3 ql (v := nI n0) rfl (rfl) d_S_checkBitsOf_5 ?_
  refine lv_istore_n (lv' := [(3, .int (nI n0)), (2, .ref al), (1, .int (nI 0)), (0, .ref al)]) hx hb d_S_checkBitsOf_6 rfl hl (by decide) rfl (fun ls hl => ?_)
  refine lv_iconst (v := nI 0) hx hb d_S_checkBitsOf_7 (by decide) ?_
  refine lv_istore (lv' := [(4, .int (nI 0)), (3, .int (nI n0)), (2, .ref al), (1, .int (nI 0)), (0, .ref al)]) hx hb d_S_checkBitsOf_8 hl (by decide) rfl (fun ls hl => ?_)
  exact lp10 (n0 + 1) 0 _ _ _ (by omega) (by omega) (lv_sub hl [3, 2, 1, 0] rfl) hP hD hS
set_option maxHeartbeats 4000000 in
set_option maxRecDepth 100000 in
theorem c_S_marksOf (l : Launch) (D : va_G) (g : Nat → ClassId) (sz : Nat) (ws : va_W) (M n0 : Nat) (hM57 : M ≤ 57) (hn0 : n0 = 1 ∨ n0 = 4) (kl al : Nat) (lf : Nat → Option Nat) (kL kc kr kb la ca ra ba9 : Nat → Nat) (ql : ws[kl]? = some (al, .inl (g 3, n0, .inr (.inr (.inr (.inr (lf))))))) (qf : ∀ i, i < n0 → lf i = some (la i)) (qL : ∀ i, i < n0 → ws[kL i]? = some (la i, .inr (4, [.int (nI (lr (wid M n0 i))), .ref (ca i), .ref (ra i), .ref (ba9 i)]))) (qc : ∀ i, i < n0 → ws[kc i]? = some (ca i, .inl (g 0, wid M n0 i, .inl (fun j => nI (if j < wid M n0 i then cc_ (lr (wid M n0 i)) j else 0))))) : Met l y_S_marksOf w_S_marksOf rm_S_marksOf (va_Pc [.int (nI M), .ref al] (pP D (tyl g) (ws) sz)) (va_Qr (fun (u : Unit) => True) (fun u (a : Nat) => qB D (va_A (ws) sz) ((a, .inl (g 0, M, .inl (fun k => nI (mkS M n0 k)))) :: ws)) (va_A (ws) sz)) 1 57 (va_A (ws) sz) := by
  refine Met.ofW (cc := b_S_marksOf) (maxL := 6) (ret := (some (.array .int))) (by decide +kernel) rfl ?_
  intro p e s m args below meth c s₁ Bq hml hv
  have hx := Bq.exec
  have hb := Bq.bytes
  have hr := Bq.returns
  have hts : ∀ w ∈ wA, w.before args s = true := fun w h => atoms_spec (ws := w_S_marksOf) Bq.pre w (List.mem_cons_of_mem _ h)
  have hown : s.vm.findClass R_S = some m.cls := findClass_of_methodNamed Bq.named
  have hlocks := Bq.notSynchronized
  obtain ⟨rfl, hsz, hP, hKK, hD0⟩ := hv
  have hK := hKK.1
  subst hsz
  have hD := hD0.self (sz := s.heap.size)
  generalize hAe : va_A (ws) s.heap.size = A at hD ⊢
  have hA : ∀ q : Nat, s.heap.size ≤ q → A q := fun q h => by rw [← hAe]; exact Or.inr h
  have hS : va_S A s.heap s.heap [] := va_S.rf
  have hl := lv_entry ([.int (nI M), .ref al]) (n := 6) (Nat.le_of_ble_eq_true rfl)
  rw [lg_entry_eq]
  generalize (lg_sl ([.int (nI M), .ref al]) ++ List.replicate (6 - (lg_sl ([.int (nI M), .ref al])).length) Slot.unset).toArray = ls at hl ⊢
  have hl : lv_has ls 6 [(0, .int (nI M)), (1, .ref al)] := hl
  generalize hQ : MQ below (va_Qr (fun (u : Unit) => True) (fun u (a : Nat) => qB D (A) ((a, .inl (g 0, M, .inl (fun k => nI (mkS M n0 k)))) :: ws)) (A)) [.int (nI M), .ref al].toArray s 1 57 A = Q
  have hRc : (headSpec w_S_marksOf rm_S_marksOf).room.cells = 1 := rfl
  have hRs : (headSpec w_S_marksOf rm_S_marksOf).room.slots = 57 := rfl
  refine lv_iload_n hx hb d_S_marksOf_0 rfl (lv_at hl 0 rfl) ?_
  refine lx_newi (N := M) hx hb (hts _ m_115) hK hP hD hS hA (by omega) (Nat.le_of_ble_eq_true rfl) (by first | omega | exact Nat.le_of_ble_eq_true rfl) d_S_marksOf_1 (fun am H hP hD hS => ?_)
  refine W.widen (k := 1) (n := M) (by omega) (by omega) ?_
  have hP : va_P D vwCl ((am, .inl (g 0, M, .inl (fun _ => nI 0))) :: ws) H := hP
  have hD : va_D A ((am, .inl (g 0, M, .inl (fun _ => nI 0))) :: ws) := hD
  have hP : va_P D vwCl ((am, .inl (g 0, M, .inl (fun k => nI (mkp M n0 0 0 k)))) :: ws) H := wp_at 0 hP rfl (fun j hj => mkp_0 M n0 j)
  have hD : va_D A ((am, .inl (g 0, M, .inl (fun k => nI (mkp M n0 0 0 k)))) :: ws) := hD.set (p := 0) rfl
  have h4 : n0 ≤ 4 := by omega
  have lp9 : ∀ (n : Nat) (i : Nat) (ls : Array Slot) (H : Heap) (locs : List Loc), (n0 + 1 ≤ i + n) → (i ≤ n0) → lv_has ls 6 [(0, .int (nI M)), (1, .ref al), (2, .ref am), (3, .int (nI (frm M n0 i))), (4, .int (nI i))] → va_P D vwCl ((am, .inl (g 0, M, .inl (fun k => nI (mkp M n0 i 0 k)))) :: ws) H → va_D A ((am, .inl (g 0, M, .inl (fun k => nI (mkp M n0 i 0 k)))) :: ws) → va_S A s.heap H locs → W p l e (headSpec w_S_marksOf rm_S_marksOf).room s m [.int (nI M), .ref al].toArray below meth c H locs 1 M Q (F0 m 9 ls []) := by
    intro n
    induction n with
    | zero => intro i ls H locs hfu hio _ _ _ _; exact absurd hfu (by omega)
    | succ n ih =>
      intro i ls H locs hfu hio hl hP hD hS
      refine lv_iload hx hb d_S_marksOf_9 (lv_at hl 4 rfl) ?_
      refine lv_aload_n hx hb d_S_marksOf_11 rfl (lv_at hl 1 rfl) ?_
      refine va_alen hx hb hK hP (kl + 1) 3 ql (v := nI n0) rfl (rfl) d_S_marksOf_12 ?_
      refine lx_icmp_ge (tgt := 71) hx hb d_S_marksOf_13 (by decide) (by omega) (by omega) (fun c13 => ?_) (fun c13 => ?_)
      · skip
        obtain rfl : i = n0 := by omega
        have hn1 := hn0
        have hP : va_P D vwCl ((am, .inl (g 0, M, .inl (fun k => nI (mkS M i k)))) :: ws) H := wp_at 0 hP rfl (fun j hj => mkp_end hn1 j)
        have hD : va_D A ((am, .inl (g 0, M, .inl (fun k => nI (mkS M i k)))) :: ws) := hD.set (p := 0) rfl
        refine lv_aload_n hx hb d_S_marksOf_71 rfl (lv_at hl 2 rfl) ?_
        refine W.widen (k := 1) (n := 57) (by omega) (by omega) ?_
        rw [← hQ]
        refine W.aret (v := .ref am) hx hb hr (by first | exact Or.inl ⟨_, rfl⟩ | exact Or.inr ⟨_, rfl⟩) (Or.inr ⟨_, rfl⟩) ?_ hS.2.2 d_S_marksOf_72
        exact fun t ht hW => ⟨⟨(), am, rfl, trivial, by rw [ht]; exact hP, hD⟩, hS.F ht⟩
      · skip
        have hi : i < n0 := c13
        have hwi : wid M n0 i ≤ 57 := wid_le hM57 hn0
        have lp20 : ∀ (n2 : Nat) (b : Nat) (ls : Array Slot) (H : Heap) (locs : List Loc), (wid M n0 i + 1 ≤ b + n2) → (b ≤ wid M n0 i) → lv_has ls 6 [(0, .int (nI M)), (1, .ref al), (2, .ref am), (3, .int (nI (frm M n0 i))), (4, .int (nI i)), (5, .int (nI (b * n0 + i)))] → va_P D vwCl ((am, .inl (g 0, M, .inl (fun k => nI (mkp M n0 i b k)))) :: ws) H → va_D A ((am, .inl (g 0, M, .inl (fun k => nI (mkp M n0 i b k)))) :: ws) → va_S A s.heap H locs → W p l e (headSpec w_S_marksOf rm_S_marksOf).room s m [.int (nI M), .ref al].toArray below meth c H locs 1 M Q (F0 m 20 ls []) := by
          intro n2
          induction n2 with
          | zero => intro b ls H locs hfu hb9 _ _ _ _; exact absurd hfu (by omega)
          | succ n2 ih2 =>
            intro b ls H locs hfu2 hb9 hl hP hD hS
            have hbd := ln_bd hM57 hn0 hi hb9
            refine lv_iload hx hb d_S_marksOf_20 (lv_at hl 5 rfl) ?_
            refine lv_aload_n hx hb d_S_marksOf_22 rfl (lv_at hl 2 rfl) ?_
            refine va_alen hx hb hK hP 0 0 rfl (v := nI M) rfl (rfl) d_S_marksOf_23 ?_
            refine lx_icmp_ge (tgt := 55) hx hb d_S_marksOf_24 (by decide) (by omega) (by omega) (fun c24 => ?_) (fun c24 => ?_)
            · skip
              obtain rfl : b = wid M n0 i := by have q : ¬ b < wid M n0 i := fun q => (by have := wid_at hn0 hi q; omega); omega
              have hP : va_P D vwCl ((am, .inl (g 0, M, .inl (fun k => nI (mkp M n0 (i + 1) 0 k)))) :: ws) H := wp_at 0 hP rfl (fun j hj => mkp_next hn0 j hj)
              have hD : va_D A ((am, .inl (g 0, M, .inl (fun k => nI (mkp M n0 (i + 1) 0 k)))) :: ws) := hD.set (p := 0) rfl
              refine lv_iload_n hx hb d_S_marksOf_55 rfl (lv_at hl 3 rfl) ?_
              refine lv_aload_n hx hb d_S_marksOf_56 rfl (lv_at hl 1 rfl) ?_
              refine lv_iload hx hb d_S_marksOf_57 (lv_at hl 4 rfl) ?_
              refine lx_aald (v := la i) hx hb hK hP (kl + 1) 3 ql rfl (j := i) (by omega) (by omega) (qf i hi) d_S_marksOf_59 ?_
              refine va_get (D := D) (ci := 4) (v := .int (nI (lr (wid M n0 i)))) (C := R_L) (T := F_L) (N := 4) hx hb hts i_L hown hK hP (kL i + 1) (qL i hi) rfl 0 (by decide) (hts _ m_101) (fun _ h9 => h9) rfl d_S_marksOf_60 ?_
              refine lx_iadd (z := nI (frm M n0 (i + 1))) hx hb d_S_marksOf_63 (nI_add _ _) ?_
              refine lv_istore_n (lv' := [(3, .int (nI (frm M n0 (i + 1)))), (0, .int (nI M)), (1, .ref al), (2, .ref am), (4, .int (nI i)), (5, .int (nI (wid M n0 i * n0 + i)))]) hx hb d_S_marksOf_64 rfl hl (by decide) rfl (fun ls hl => ?_)
              refine lv_iinc (v := nI (i + 1)) (lv' := [(4, .int (nI (i + 1))), (3, .int (nI (frm M n0 (i + 1)))), (0, .int (nI M)), (1, .ref al), (2, .ref am), (5, .int (nI (wid M n0 i * n0 + i)))]) hx hb d_S_marksOf_65 hl (k := 4) rfl (nI_1 i) (by decide) rfl (fun ls hl => ?_)
              refine lv_goto (tgt := 9) hx hb d_S_marksOf_68 (by decide) ?_
              exact ih (i + 1) _ _ _ (by omega) (by omega) (lv_sub hl [2, 3, 4, 1, 0] rfl) hP hD hS
            · skip
              have hlt9 := ln_lt hn0 hi c24
              have hfr := frm_le (M := M) (n := n0) i
              refine lv_aload_n hx hb d_S_marksOf_27 rfl (lv_at hl 2 rfl) ?_
              refine lv_iload hx hb d_S_marksOf_28 (lv_at hl 5 rfl) ?_
              refine lv_aload_n hx hb d_S_marksOf_30 rfl (lv_at hl 1 rfl) ?_
              refine lv_iload hx hb d_S_marksOf_31 (lv_at hl 4 rfl) ?_
              refine lx_aald (v := la i) hx hb hK hP (kl + 1) 3 ql rfl (j := i) (by omega) (by omega) (qf i hi) d_S_marksOf_33 ?_
              refine lv_iload hx hb d_S_marksOf_34 (lv_at hl 5 rfl) ?_
              refine lv_aload_n hx hb d_S_marksOf_36 rfl (lv_at hl 1 rfl) ?_
              refine va_alen hx hb hK hP (kl + 1) 3 ql (v := nI n0) rfl (rfl) d_S_marksOf_37 ?_
              refine lx_idiv (z := nI b) hx hb d_S_marksOf_38 (nI_ne0 (by omega) (by omega)) ((pk_div (by omega) (by omega) (by omega)).trans (by rw [ln_div hn0 hi])) ?_
              refine lc_Vi (b := la i) (As := [.int (nI b)]) (rest := [.int (nI (b * n0 + i)), .ref am]) ⟨hx, hb, hml, hown, hts⟩ (c_L_columnAt l D g _ _ (kL (i) + 1) (kc (i) + 1) (la (i)) (ca (i)) (ra (i)) (ba9 (i)) (wid M n0 (i)) (nI (lr (wid M n0 (i)))) (fun j9 => if j9 < wid M n0 (i) then cc_ (lr (wid M n0 (i))) j9 else 0) (b) (qL (i) hi) (qc (i) hi) (by omega) hlt9) (kV 1 hts m_128 m_125 m_126 m_127 m_34 (by decide +kernel) ⟨Nat.le_of_ble_eq_true rfl, Nat.le_of_ble_eq_true rfl⟩) (va_recv hK hP (ci := 4) (q0 := kL i + 1) rfl (qL i hi)) hKK hP hD hS hA hl.1 rfl rfl (Nat.le_of_ble_eq_true rfl) d_S_marksOf_39 ⟨Nat.le_of_ble_eq_true rfl, by first | omega | exact Nat.le_of_ble_eq_true rfl⟩ (fun r1 u H locs e1 hP hD hS => ?_)
              obtain rfl : r1 = nI (cc_ (lr (wid M n0 i)) b) := e1.trans (by rw [if_pos hlt9])
              refine lv_iload_n hx hb d_S_marksOf_42 rfl (lv_at hl 3 rfl) ?_
              refine lx_ishl (z := nI (cc_ (lr (wid M n0 i)) b <<< frm M n0 i)) hx hb d_S_marksOf_43 (xn_shl _ (by omega)) ?_
              refine lx_iast (f' := fun k => nI (mkp M n0 i (b + 1) k)) hx hb hK hP hD hS 0 0 rfl rfl (j := b * n0 + i) (by omega) (by omega) (mkp_upd hn0 hi) d_S_marksOf_44 (fun H locs hP hD hS => ?_)
              have hP : va_P D vwCl ((am, .inl (g 0, M, .inl (fun k => nI (mkp M n0 i (b + 1) k)))) :: ws) H := hP
              have hD : va_D A ((am, .inl (g 0, M, .inl (fun k => nI (mkp M n0 i (b + 1) k)))) :: ws) := hD
              refine lv_iload hx hb d_S_marksOf_45 (lv_at hl 5 rfl) ?_
              refine lv_aload_n hx hb d_S_marksOf_47 rfl (lv_at hl 1 rfl) ?_
              refine va_alen hx hb hK hP (kl + 1) 3 ql (v := nI n0) rfl (rfl) d_S_marksOf_48 ?_
              refine lx_iadd (z := nI ((b + 1) * n0 + i)) hx hb d_S_marksOf_49 ((nI_add _ _).trans (by rw [ln_next])) ?_
              refine lv_istore (lv' := [(5, .int (nI ((b + 1) * n0 + i))), (0, .int (nI M)), (1, .ref al), (2, .ref am), (3, .int (nI (frm M n0 i))), (4, .int (nI i))]) hx hb d_S_marksOf_50 hl (by decide) rfl (fun ls hl => ?_)
              refine lv_goto (tgt := 20) hx hb d_S_marksOf_52 (by decide) ?_
              exact ih2 (b + 1) _ _ _ (by omega) (by omega) (lv_sub hl [1, 2, 3, 4, 5, 0] rfl) hP hD hS
        refine lv_iload hx hb d_S_marksOf_16 (lv_at hl 4 rfl) ?_
        refine lv_istore (lv' := [(5, .int (nI i)), (0, .int (nI M)), (1, .ref al), (2, .ref am), (3, .int (nI (frm M n0 i))), (4, .int (nI i))]) hx hb d_S_marksOf_18 hl (by decide) rfl (fun ls hl => ?_)
        have hl : lv_has ls 6 [(5, .int (nI (0 * n0 + i))), (0, .int (nI M)), (1, .ref al), (2, .ref am), (3, .int (nI (frm M n0 i))), (4, .int (nI i))] := by rw [show 0 * n0 + i = i by rw [Nat.zero_mul, Nat.zero_add]]; exact hl
        exact lp20 (wid M n0 i + 1) 0 _ _ _ (by omega) (by omega) (lv_sub hl [1, 2, 3, 4, 5, 0] rfl) hP hD hS
  refine lv_astore_n (lv' := [(2, .ref am), (0, .int (nI M)), (1, .ref al)]) hx hb d_S_marksOf_3 rfl hl (by decide) rfl (fun ls hl => ?_)
  refine lv_iconst (v := nI 0) hx hb d_S_marksOf_4 (by decide) ?_
  refine lv_istore_n (lv' := [(3, .int (nI 0)), (2, .ref am), (0, .int (nI M)), (1, .ref al)]) hx hb d_S_marksOf_5 rfl hl (by decide) rfl (fun ls hl => ?_)
  refine lv_iconst (v := nI 0) hx hb d_S_marksOf_6 (by decide) ?_
  refine lv_istore (lv' := [(4, .int (nI 0)), (3, .int (nI 0)), (2, .ref am), (0, .int (nI M)), (1, .ref al)]) hx hb d_S_marksOf_7 hl (by decide) rfl (fun ls hl => ?_)
  exact lp9 (n0 + 1) 0 _ _ _ (by omega) (by omega) (lv_sub hl [3, 4, 2, 1, 0] rfl) hP hD hS
set_option maxHeartbeats 4000000 in
set_option maxRecDepth 100000 in
theorem c_S_init (l : Launch) (D : va_G) (g : Nat → ClassId) (sz : Nat) (ws : va_W) (M n0 o : Nat) (hM57 : M ≤ 57) (hn0 : n0 = 1 ∨ n0 = 4) (kl al : Nat) (lf : Nat → Option Nat) (kL kc kr kb la ca ra ba9 : Nat → Nat) (ql : ws[kl]? = some (al, .inl (g 3, n0, .inr (.inr (.inr (.inr (lf))))))) (qf : ∀ i, i < n0 → lf i = some (la i)) (qL : ∀ i, i < n0 → ws[kL i]? = some (la i, .inr (4, [.int (nI (lr (wid M n0 i))), .ref (ca i), .ref (ra i), .ref (ba9 i)]))) (qc : ∀ i, i < n0 → ws[kc i]? = some (ca i, .inl (g 0, wid M n0 i, .inl (fun j => nI (if j < wid M n0 i then cc_ (lr (wid M n0 i)) j else 0))))) : Met l y_S_init w_S_init rm_S_init (va_Pc [.ref o, .int (nI M), .ref al] (pP D (tyl g) ((o, .inr (1, [.int (nI 0), .int (nI 0), .null, .null])) :: ws) sz)) (va_Qv (fun (u : Nat) => True) (fun u => qB D (va_A ((o, .inr (1, [.int (nI 0), .int (nI 0), .null, .null])) :: ws) sz) ((o, .inr (1, [.int (nI M), .int (nI (frm M n0 n0)), .ref u, .ref al])) :: (u, .inl (g 0, M, .inl (fun k => nI (mkS M n0 k)))) :: ws)) (va_A ((o, .inr (1, [.int (nI 0), .int (nI 0), .null, .null])) :: ws) sz)) 1 57 (va_A ((o, .inr (1, [.int (nI 0), .int (nI 0), .null, .null])) :: ws) sz) := by
  refine Met.ofW (cc := b_S_init) (maxL := 3) (ret := none) (by decide +kernel) rfl ?_
  intro p e s m args below meth c s₁ Bq hml hv
  have hx := Bq.exec
  have hb := Bq.bytes
  have hr := Bq.returns
  have hts : ∀ w ∈ wA, w.before args s = true := fun w h => atoms_spec (ws := w_S_init) Bq.pre w (List.mem_cons_of_mem _ h)
  have hown : s.vm.findClass R_S = some m.cls := findClass_of_methodNamed Bq.named
  have hlocks := Bq.notSynchronized
  have hin : meth.name = "<init>" := (name_of_methodNamed Bq.named Bq.method).1
  obtain ⟨rfl, hsz, hP, hKK, hD0⟩ := hv
  have hK := hKK.1
  subst hsz
  have hD := hD0.self (sz := s.heap.size)
  generalize hAe : va_A ((o, .inr (1, [.int (nI 0), .int (nI 0), .null, .null])) :: ws) s.heap.size = A at hD ⊢
  have hA : ∀ q : Nat, s.heap.size ≤ q → A q := fun q h => by rw [← hAe]; exact Or.inr h
  have hS : va_S A s.heap s.heap [] := va_S.rf
  have hl := lv_entry ([.ref o, .int (nI M), .ref al]) (n := 3) (Nat.le_of_ble_eq_true rfl)
  rw [lg_entry_eq]
  generalize (lg_sl ([.ref o, .int (nI M), .ref al]) ++ List.replicate (3 - (lg_sl ([.ref o, .int (nI M), .ref al])).length) Slot.unset).toArray = ls at hl ⊢
  have hl : lv_has ls 3 [(0, .ref o), (1, .int (nI M)), (2, .ref al)] := hl
  generalize hQ : MQ below (va_Qv (fun (u : Nat) => True) (fun u => qB D (A) ((o, .inr (1, [.int (nI M), .int (nI (frm M n0 n0)), .ref u, .ref al])) :: (u, .inl (g 0, M, .inl (fun k => nI (mkS M n0 k)))) :: ws)) (A)) [.ref o, .int (nI M), .ref al].toArray s 1 57 A = Q
  have hRc : (headSpec w_S_init rm_S_init).room.cells = 1 := rfl
  have hRs : (headSpec w_S_init rm_S_init).room.slots = 57 := rfl
  refine lv_aload_n hx hb d_S_init_0 rfl (lv_at hl 0 rfl) ?_
  refine lv_iload_n hx hb d_S_init_1 rfl (lv_at hl 1 rfl) ?_
  refine lv_aload_n hx hb d_S_init_2 rfl (lv_at hl 2 rfl) ?_
  refine lc_Si (As := [.ref al]) (rest := [.int (nI M), .ref o]) ⟨hx, hb, hml, hown, hts⟩ (c_S_checkBitsOf l D g _ _ M n0 (by omega) (kl + 1) al lf (fun i => kL i + 1) (fun i => kc i + 1) kr kb la ca ra ba9 ql qf qL) (kS 1 hts m_121 m_119 m_120 m_33 (by decide +kernel) ⟨Nat.le_of_ble_eq_true rfl, Nat.le_of_ble_eq_true rfl⟩) hKK hP hD hS hA hl.1 rfl rfl (Nat.le_of_ble_eq_true rfl) d_S_init_3 ⟨Nat.le_of_ble_eq_true rfl, Nat.le_of_ble_eq_true rfl⟩ (fun r1 u H locs e1 hP hD hS => ?_)
  obtain rfl : r1 = nI (frm M n0 n0) := e1
  refine lv_iload_n hx hb d_S_init_6 rfl (lv_at hl 1 rfl) ?_
  refine lv_aload_n hx hb d_S_init_7 rfl (lv_at hl 2 rfl) ?_
  refine lc_Sr (As := [.int (nI M), .ref al]) (rest := [.int (nI (frm M n0 n0)), .int (nI M), .ref o]) ⟨hx, hb, hml, hown, hts⟩ (c_S_marksOf l D g _ _ M n0 hM57 hn0 (kl + 1) al lf (fun i => kL i + 1) (fun i => kc i + 1) kr kb la ca ra ba9 ql qf qL qc) (kS 2 hts m_124 m_122 m_123 m_33 (by decide +kernel) ⟨Nat.le_of_ble_eq_true rfl, Nat.le_of_ble_eq_true rfl⟩) hKK hP hD hS hA hl.1 rfl rfl (Nat.le_of_ble_eq_true rfl) d_S_init_8 ⟨Nat.le_of_ble_eq_true rfl, Nat.le_of_ble_eq_true rfl⟩ (fun u am H locs _ hP hD hS => ?_)
  refine W.widen (k := 1) (n := 57) (by omega) (by omega) ?_
  have hP : va_P D vwCl ((am, .inl (g 0, M, .inl (fun k => nI (mkS M n0 k)))) :: (o, .inr (1, [.int (nI 0), .int (nI 0), .null, .null])) :: ws) H := hP
  have hD : va_D A ((am, .inl (g 0, M, .inl (fun k => nI (mkS M n0 k)))) :: (o, .inr (1, [.int (nI 0), .int (nI 0), .null, .null])) :: ws) := hD
  have hP : va_P D vwCl ((o, .inr (1, [.int (nI 0), .int (nI 0), .null, .null])) :: (am, .inl (g 0, M, .inl (fun k => nI (mkS M n0 k)))) :: ws) H := wp_pull [(am, .inl (g 0, M, .inl (fun k => nI (mkS M n0 k))))] hP
  have hD : va_D A ((o, .inr (1, [.int (nI 0), .int (nI 0), .null, .null])) :: (am, .inl (g 0, M, .inl (fun k => nI (mkS M n0 k)))) :: ws) := wd_pull [(am, .inl (g 0, M, .inl (fun k => nI (mkS M n0 k))))] hD
  refine lc_Iv (b := o) (As := [.int (nI M), .int (nI (frm M n0 n0)), .ref am]) (rest := []) ⟨hx, hb, hml, hown, hts⟩ (c_K_init_S l D g _ _ o am (nI M) (nI (frm M n0 n0))) (kI 3 hts m_131 m_129 m_130 m_32 rfl (by decide +kernel) ⟨Nat.le_of_ble_eq_true rfl, Nat.le_of_ble_eq_true rfl⟩) hKK hP hD hS hA hl.1 rfl rfl (Nat.le_of_ble_eq_true rfl) d_S_init_11 ⟨Nat.le_of_ble_eq_true rfl, Nat.le_of_ble_eq_true rfl⟩ (fun u H locs _ hP hD hS => ?_)
  have hP : va_P D vwCl ((o, .inr (1, [.int (nI M), .int (nI (frm M n0 n0)), .ref am, .null])) :: (am, .inl (g 0, M, .inl (fun k => nI (mkS M n0 k)))) :: ws) H := hP
  have hD : va_D A ((o, .inr (1, [.int (nI M), .int (nI (frm M n0 n0)), .ref am, .null])) :: (am, .inl (g 0, M, .inl (fun k => nI (mkS M n0 k)))) :: ws) := hD
  refine lv_aload_n hx hb d_S_init_14 rfl (lv_at hl 0 rfl) ?_
  refine lv_aload_n hx hb d_S_init_15 rfl (lv_at hl 2 rfl) ?_
  refine va_putF (D := D) (ci := 1) (v := .ref al) (ty := .array (.object "CheckCodes$Lane")) (C := R_S) (T := F_S) (N := 4) hx hb hts i_S tf_S tf_S_ok nf_S hown hK hP hD hS 0 rfl rfl 3 (by decide) (hts _ m_133) (fun _ h9 => h9) rfl hin rfl (by decide +kernel) rfl rfl (Nat.le_of_ble_eq_true rfl) d_S_init_16 (fun H locs hP hD hS => ?_)
  have hP : va_P D vwCl ((o, .inr (1, [.int (nI M), .int (nI (frm M n0 n0)), .ref am, .ref al])) :: (am, .inl (g 0, M, .inl (fun k => nI (mkS M n0 k)))) :: ws) H := hP
  have hD : va_D A ((o, .inr (1, [.int (nI M), .int (nI (frm M n0 n0)), .ref am, .ref al])) :: (am, .inl (g 0, M, .inl (fun k => nI (mkS M n0 k)))) :: ws) := hD
  rw [← hQ]
  refine W.vret hx hb hr ?_ hS.2.2 d_S_init_19
  exact fun t ht hW => ⟨⟨am, rfl, trivial, by rw [ht]; exact hP, hD⟩, hS.F ht⟩
