set_option maxRecDepth 20000 in
theorem m_273 : Cond.code y_L_greatestSum b_L_greatestSum 1 (some .int) ∈ wA := in_wA (List.mem_of_getElem? (i := 273) rfl) rfl
set_option maxRecDepth 20000 in
theorem m_270 : Cond.methodLink R_S 33 y_L_greatestSum ∈ wA := in_wA (List.mem_of_getElem? (i := 270) rfl) rfl
set_option maxRecDepth 20000 in
theorem m_271 : Cond.instanceMethod y_L_greatestSum ∈ wA := in_wA (List.mem_of_getElem? (i := 271) rfl) rfl
set_option maxRecDepth 20000 in
theorem m_272 : Cond.selects R_L y_L_greatestSum y_L_greatestSum ∈ wA := in_wA (List.mem_of_getElem? (i := 272) rfl) rfl
set_option maxRecDepth 20000 in
theorem m_276 : Cond.code y_JM_max b_JM_max 2 (some .int) ∈ wA := in_wA (List.mem_of_getElem? (i := 276) rfl) rfl
set_option maxRecDepth 20000 in
theorem m_274 : Cond.methodLink R_S 37 y_JM_max ∈ wA := in_wA (List.mem_of_getElem? (i := 274) rfl) rfl
set_option maxRecDepth 20000 in
theorem m_275 : Cond.static y_JM_max ∈ wA := in_wA (List.mem_of_getElem? (i := 275) rfl) rfl
set_option maxRecDepth 20000 in
theorem m_31 : Cond.initialized R_JM ∈ wA := in_wA (List.mem_of_getElem? (i := 31) rfl) rfl
set_option maxRecDepth 20000 in
theorem m_467 : Cond.methodLink R_S 43 y_T_clear ∈ wA := in_wA (List.mem_of_getElem? (i := 467) rfl) rfl
set_option maxRecDepth 20000 in
theorem m_471 : Cond.code y_L_bitFor b_L_bitFor 2 (some .int) ∈ wA := in_wA (List.mem_of_getElem? (i := 471) rfl) rfl
set_option maxRecDepth 20000 in
theorem m_468 : Cond.methodLink R_S 49 y_L_bitFor ∈ wA := in_wA (List.mem_of_getElem? (i := 468) rfl) rfl
set_option maxRecDepth 20000 in
theorem m_469 : Cond.instanceMethod y_L_bitFor ∈ wA := in_wA (List.mem_of_getElem? (i := 469) rfl) rfl
set_option maxRecDepth 20000 in
theorem m_470 : Cond.selects R_L y_L_bitFor y_L_bitFor ∈ wA := in_wA (List.mem_of_getElem? (i := 470) rfl) rfl
set_option maxRecDepth 20000 in
theorem m_103 : Cond.fieldLink R_S 52 R_L "columns" "[I" ∈ wA := in_wA (List.mem_of_getElem? (i := 103) rfl) rfl
set_option maxRecDepth 20000 in
theorem m_199 : Cond.fieldLink R_S 60 R_T "checkFlips" "I" ∈ wA := in_wA (List.mem_of_getElem? (i := 199) rfl) rfl
set_option maxRecDepth 20000 in
theorem m_195 : Cond.fieldLink R_S 56 R_T "wordFlips" "J" ∈ wA := in_wA (List.mem_of_getElem? (i := 195) rfl) rfl
abbrev w_S_columnOf : List Cond := .code y_S_columnOf b_S_columnOf 2 (some .int) :: wA
abbrev rm_S_columnOf : Room := { frames := 1, cells := 0, slots := 0, locals := 21 }
theorem d_S_columnOf_0 : decode b_S_columnOf 0 = .ok (.iload_n 1, 1) := by decide +kernel
theorem d_S_columnOf_1 : decode b_S_columnOf 1 = .ok (.ifCond .lt 11, 3) := by decide +kernel
theorem d_S_columnOf_4 : decode b_S_columnOf 4 = .ok (.aload_n 0, 1) := by decide +kernel
theorem d_S_columnOf_5 : decode b_S_columnOf 5 = .ok (.getfield 19, 3) := by decide +kernel
theorem d_S_columnOf_8 : decode b_S_columnOf 8 = .ok (.arraylength, 1) := by decide +kernel
theorem d_S_columnOf_9 : decode b_S_columnOf 9 = .ok (.ifCond .ne 5, 3) := by decide +kernel
theorem d_S_columnOf_12 : decode b_S_columnOf 12 = .ok (.iconst 0, 1) := by decide +kernel
theorem d_S_columnOf_13 : decode b_S_columnOf 13 = .ok (.ireturn, 1) := by decide +kernel
theorem d_S_columnOf_14 : decode b_S_columnOf 14 = .ok (.aload_n 0, 1) := by decide +kernel
theorem d_S_columnOf_15 : decode b_S_columnOf 15 = .ok (.getfield 19, 3) := by decide +kernel
theorem d_S_columnOf_18 : decode b_S_columnOf 18 = .ok (.iload_n 1, 1) := by decide +kernel
theorem d_S_columnOf_19 : decode b_S_columnOf 19 = .ok (.aload_n 0, 1) := by decide +kernel
theorem d_S_columnOf_20 : decode b_S_columnOf 20 = .ok (.getfield 19, 3) := by decide +kernel
theorem d_S_columnOf_23 : decode b_S_columnOf 23 = .ok (.arraylength, 1) := by decide +kernel
theorem d_S_columnOf_24 : decode b_S_columnOf 24 = .ok (.irem, 1) := by decide +kernel
theorem d_S_columnOf_25 : decode b_S_columnOf 25 = .ok (.aaload, 1) := by decide +kernel
theorem d_S_columnOf_26 : decode b_S_columnOf 26 = .ok (.iload_n 1, 1) := by decide +kernel
theorem d_S_columnOf_27 : decode b_S_columnOf 27 = .ok (.aload_n 0, 1) := by decide +kernel
theorem d_S_columnOf_28 : decode b_S_columnOf 28 = .ok (.getfield 19, 3) := by decide +kernel
theorem d_S_columnOf_31 : decode b_S_columnOf 31 = .ok (.arraylength, 1) := by decide +kernel
theorem d_S_columnOf_32 : decode b_S_columnOf 32 = .ok (.idiv, 1) := by decide +kernel
theorem d_S_columnOf_33 : decode b_S_columnOf 33 = .ok (.invokevirtual 29, 3) := by decide +kernel
theorem d_S_columnOf_36 : decode b_S_columnOf 36 = .ok (.ireturn, 1) := by decide +kernel
abbrev w_S_greatestRowSum : List Cond := .code y_S_greatestRowSum b_S_greatestRowSum 6 (some .int) :: wA
abbrev rm_S_greatestRowSum : Room := { frames := 2, cells := 0, slots := 0, locals := 44 }
theorem d_S_greatestRowSum_0 : decode b_S_greatestRowSum 0 = .ok (.iconst 0, 1) := by decide +kernel
theorem d_S_greatestRowSum_1 : decode b_S_greatestRowSum 1 = .ok (.istore_n 1, 1) := by decide +kernel
theorem d_S_greatestRowSum_2 : decode b_S_greatestRowSum 2 = .ok (.aload_n 0, 1) := by decide +kernel
theorem d_S_greatestRowSum_3 : decode b_S_greatestRowSum 3 = .ok (.getfield 19, 3) := by decide +kernel
theorem d_S_greatestRowSum_6 : decode b_S_greatestRowSum 6 = .ok (.astore_n 2, 1) := by decide +kernel
theorem d_S_greatestRowSum_7 : decode b_S_greatestRowSum 7 = .ok (.aload_n 2, 1) := by decide +kernel
theorem d_S_greatestRowSum_8 : decode b_S_greatestRowSum 8 = .ok (.arraylength, 1) := by decide +kernel
theorem d_S_greatestRowSum_9 : decode b_S_greatestRowSum 9 = .ok (.istore_n 3, 1) := by decide +kernel
theorem d_S_greatestRowSum_10 : decode b_S_greatestRowSum 10 = .ok (.iconst 0, 1) := by decide +kernel
theorem d_S_greatestRowSum_11 : decode b_S_greatestRowSum 11 = .ok (.istore 4, 2) := by decide +kernel
theorem d_S_greatestRowSum_13 : decode b_S_greatestRowSum 13 = .ok (.iload 4, 2) := by decide +kernel
theorem d_S_greatestRowSum_15 : decode b_S_greatestRowSum 15 = .ok (.iload_n 3, 1) := by decide +kernel
theorem d_S_greatestRowSum_16 : decode b_S_greatestRowSum 16 = .ok (.if_icmp .ge 25, 3) := by decide +kernel
theorem d_S_greatestRowSum_19 : decode b_S_greatestRowSum 19 = .ok (.aload_n 2, 1) := by decide +kernel
theorem d_S_greatestRowSum_20 : decode b_S_greatestRowSum 20 = .ok (.iload 4, 2) := by decide +kernel
theorem d_S_greatestRowSum_22 : decode b_S_greatestRowSum 22 = .ok (.aaload, 1) := by decide +kernel
theorem d_S_greatestRowSum_23 : decode b_S_greatestRowSum 23 = .ok (.astore 5, 2) := by decide +kernel
theorem d_S_greatestRowSum_25 : decode b_S_greatestRowSum 25 = .ok (.iload_n 1, 1) := by decide +kernel
theorem d_S_greatestRowSum_26 : decode b_S_greatestRowSum 26 = .ok (.aload 5, 2) := by decide +kernel
theorem d_S_greatestRowSum_28 : decode b_S_greatestRowSum 28 = .ok (.invokevirtual 33, 3) := by decide +kernel
theorem d_S_greatestRowSum_31 : decode b_S_greatestRowSum 31 = .ok (.invokestatic 37, 3) := by decide +kernel
theorem d_S_greatestRowSum_34 : decode b_S_greatestRowSum 34 = .ok (.istore_n 1, 1) := by decide +kernel
theorem d_S_greatestRowSum_35 : decode b_S_greatestRowSum 35 = .ok (.iinc 4 1, 3) := by decide +kernel
theorem d_S_greatestRowSum_38 : decode b_S_greatestRowSum 38 = .ok (.goto (-25), 3) := by decide +kernel
theorem d_S_greatestRowSum_41 : decode b_S_greatestRowSum 41 = .ok (.iload_n 1, 1) := by decide +kernel
theorem d_S_greatestRowSum_42 : decode b_S_greatestRowSum 42 = .ok (.ireturn, 1) := by decide +kernel
abbrev w_S_judge : List Cond := .code y_S_judge b_S_judge 10 (some .int) :: wA
abbrev rm_S_judge : Room := { frames := 1, cells := 0, slots := 0, locals := 21 }
theorem d_S_judge_0 : decode b_S_judge 0 = .ok (.aload_n 2, 1) := by decide +kernel
theorem d_S_judge_1 : decode b_S_judge 1 = .ok (.invokevirtual 43, 3) := by decide +kernel
theorem d_S_judge_4 : decode b_S_judge 4 = .ok (.iconst 0, 1) := by decide +kernel
theorem d_S_judge_5 : decode b_S_judge 5 = .ok (.istore_n 3, 1) := by decide +kernel
theorem d_S_judge_6 : decode b_S_judge 6 = .ok (.iconst 0, 1) := by decide +kernel
theorem d_S_judge_7 : decode b_S_judge 7 = .ok (.istore 4, 2) := by decide +kernel
theorem d_S_judge_9 : decode b_S_judge 9 = .ok (.iconst 0, 1) := by decide +kernel
theorem d_S_judge_10 : decode b_S_judge 10 = .ok (.istore 5, 2) := by decide +kernel
theorem d_S_judge_12 : decode b_S_judge 12 = .ok (.iload 5, 2) := by decide +kernel
theorem d_S_judge_14 : decode b_S_judge 14 = .ok (.aload_n 0, 1) := by decide +kernel
theorem d_S_judge_15 : decode b_S_judge 15 = .ok (.getfield 19, 3) := by decide +kernel
theorem d_S_judge_18 : decode b_S_judge 18 = .ok (.arraylength, 1) := by decide +kernel
theorem d_S_judge_19 : decode b_S_judge 19 = .ok (.if_icmp .ge 131, 3) := by decide +kernel
theorem d_S_judge_22 : decode b_S_judge 22 = .ok (.aload_n 0, 1) := by decide +kernel
theorem d_S_judge_23 : decode b_S_judge 23 = .ok (.getfield 19, 3) := by decide +kernel
theorem d_S_judge_26 : decode b_S_judge 26 = .ok (.iload 5, 2) := by decide +kernel
theorem d_S_judge_28 : decode b_S_judge 28 = .ok (.aaload, 1) := by decide +kernel
theorem d_S_judge_29 : decode b_S_judge 29 = .ok (.astore 6, 2) := by decide +kernel
theorem d_S_judge_31 : decode b_S_judge 31 = .ok (.iload_n 1, 1) := by decide +kernel
theorem d_S_judge_32 : decode b_S_judge 32 = .ok (.iload 4, 2) := by decide +kernel
theorem d_S_judge_34 : decode b_S_judge 34 = .ok (.iushr, 1) := by decide +kernel
theorem d_S_judge_35 : decode b_S_judge 35 = .ok (.iconst 1, 1) := by decide +kernel
theorem d_S_judge_36 : decode b_S_judge 36 = .ok (.aload 6, 2) := by decide +kernel
theorem d_S_judge_38 : decode b_S_judge 38 = .ok (.getfield 23, 3) := by decide +kernel
theorem d_S_judge_41 : decode b_S_judge 41 = .ok (.ishl, 1) := by decide +kernel
theorem d_S_judge_42 : decode b_S_judge 42 = .ok (.iconst 1, 1) := by decide +kernel
theorem d_S_judge_43 : decode b_S_judge 43 = .ok (.isub, 1) := by decide +kernel
theorem d_S_judge_44 : decode b_S_judge 44 = .ok (.iand, 1) := by decide +kernel
theorem d_S_judge_45 : decode b_S_judge 45 = .ok (.istore 7, 2) := by decide +kernel
theorem d_S_judge_47 : decode b_S_judge 47 = .ok (.iload 7, 2) := by decide +kernel
theorem d_S_judge_49 : decode b_S_judge 49 = .ok (.ifCond .eq 85, 3) := by decide +kernel
theorem d_S_judge_52 : decode b_S_judge 52 = .ok (.aload 6, 2) := by decide +kernel
theorem d_S_judge_54 : decode b_S_judge 54 = .ok (.iload 7, 2) := by decide +kernel
theorem d_S_judge_56 : decode b_S_judge 56 = .ok (.invokevirtual 49, 3) := by decide +kernel
theorem d_S_judge_59 : decode b_S_judge 59 = .ok (.istore 8, 2) := by decide +kernel
theorem d_S_judge_61 : decode b_S_judge 61 = .ok (.iload 8, 2) := by decide +kernel
theorem d_S_judge_63 : decode b_S_judge 63 = .ok (.iconst (-1), 1) := by decide +kernel
theorem d_S_judge_64 : decode b_S_judge 64 = .ok (.if_icmp .ne 9, 3) := by decide +kernel
theorem d_S_judge_67 : decode b_S_judge 67 = .ok (.aload_n 2, 1) := by decide +kernel
theorem d_S_judge_68 : decode b_S_judge 68 = .ok (.invokevirtual 43, 3) := by decide +kernel
theorem d_S_judge_71 : decode b_S_judge 71 = .ok (.iconst 2, 1) := by decide +kernel
theorem d_S_judge_72 : decode b_S_judge 72 = .ok (.ireturn, 1) := by decide +kernel
theorem d_S_judge_73 : decode b_S_judge 73 = .ok (.iconst 1, 1) := by decide +kernel
theorem d_S_judge_74 : decode b_S_judge 74 = .ok (.istore_n 3, 1) := by decide +kernel
theorem d_S_judge_75 : decode b_S_judge 75 = .ok (.aload 6, 2) := by decide +kernel
theorem d_S_judge_77 : decode b_S_judge 77 = .ok (.getfield 52, 3) := by decide +kernel
theorem d_S_judge_80 : decode b_S_judge 80 = .ok (.arraylength, 1) := by decide +kernel
theorem d_S_judge_81 : decode b_S_judge 81 = .ok (.istore 9, 2) := by decide +kernel
theorem d_S_judge_83 : decode b_S_judge 83 = .ok (.iload 8, 2) := by decide +kernel
theorem d_S_judge_85 : decode b_S_judge 85 = .ok (.iload 9, 2) := by decide +kernel
theorem d_S_judge_87 : decode b_S_judge 87 = .ok (.if_icmp .ge 28, 3) := by decide +kernel
theorem d_S_judge_90 : decode b_S_judge 90 = .ok (.aload_n 2, 1) := by decide +kernel
theorem d_S_judge_91 : decode b_S_judge 91 = .ok (.dup, 1) := by decide +kernel
theorem d_S_judge_92 : decode b_S_judge 92 = .ok (.getfield 56, 3) := by decide +kernel
theorem d_S_judge_95 : decode b_S_judge 95 = .ok (.lconst 1, 1) := by decide +kernel
theorem d_S_judge_96 : decode b_S_judge 96 = .ok (.iload 8, 2) := by decide +kernel
theorem d_S_judge_98 : decode b_S_judge 98 = .ok (.aload_n 0, 1) := by decide +kernel
theorem d_S_judge_99 : decode b_S_judge 99 = .ok (.getfield 19, 3) := by decide +kernel
theorem d_S_judge_102 : decode b_S_judge 102 = .ok (.arraylength, 1) := by decide +kernel
theorem d_S_judge_103 : decode b_S_judge 103 = .ok (.imul, 1) := by decide +kernel
theorem d_S_judge_104 : decode b_S_judge 104 = .ok (.iload 5, 2) := by decide +kernel
theorem d_S_judge_106 : decode b_S_judge 106 = .ok (.iadd, 1) := by decide +kernel
theorem d_S_judge_107 : decode b_S_judge 107 = .ok (.lshl, 1) := by decide +kernel
theorem d_S_judge_108 : decode b_S_judge 108 = .ok (.lor, 1) := by decide +kernel
theorem d_S_judge_109 : decode b_S_judge 109 = .ok (.putfield 56, 3) := by decide +kernel
theorem d_S_judge_112 : decode b_S_judge 112 = .ok (.goto 22, 3) := by decide +kernel
theorem d_S_judge_115 : decode b_S_judge 115 = .ok (.aload_n 2, 1) := by decide +kernel
theorem d_S_judge_116 : decode b_S_judge 116 = .ok (.dup, 1) := by decide +kernel
theorem d_S_judge_117 : decode b_S_judge 117 = .ok (.getfield 60, 3) := by decide +kernel
theorem d_S_judge_120 : decode b_S_judge 120 = .ok (.iconst 1, 1) := by decide +kernel
theorem d_S_judge_121 : decode b_S_judge 121 = .ok (.iload 4, 2) := by decide +kernel
theorem d_S_judge_123 : decode b_S_judge 123 = .ok (.iload 8, 2) := by decide +kernel
theorem d_S_judge_125 : decode b_S_judge 125 = .ok (.iadd, 1) := by decide +kernel
theorem d_S_judge_126 : decode b_S_judge 126 = .ok (.iload 9, 2) := by decide +kernel
theorem d_S_judge_128 : decode b_S_judge 128 = .ok (.isub, 1) := by decide +kernel
theorem d_S_judge_129 : decode b_S_judge 129 = .ok (.ishl, 1) := by decide +kernel
theorem d_S_judge_130 : decode b_S_judge 130 = .ok (.ior, 1) := by decide +kernel
theorem d_S_judge_131 : decode b_S_judge 131 = .ok (.putfield 60, 3) := by decide +kernel
theorem d_S_judge_134 : decode b_S_judge 134 = .ok (.iload 4, 2) := by decide +kernel
theorem d_S_judge_136 : decode b_S_judge 136 = .ok (.aload 6, 2) := by decide +kernel
theorem d_S_judge_138 : decode b_S_judge 138 = .ok (.getfield 23, 3) := by decide +kernel
theorem d_S_judge_141 : decode b_S_judge 141 = .ok (.iadd, 1) := by decide +kernel
theorem d_S_judge_142 : decode b_S_judge 142 = .ok (.istore 4, 2) := by decide +kernel
theorem d_S_judge_144 : decode b_S_judge 144 = .ok (.iinc 5 1, 3) := by decide +kernel
theorem d_S_judge_147 : decode b_S_judge 147 = .ok (.goto (-135), 3) := by decide +kernel
theorem d_S_judge_150 : decode b_S_judge 150 = .ok (.iload_n 3, 1) := by decide +kernel
theorem d_S_judge_151 : decode b_S_judge 151 = .ok (.ireturn, 1) := by decide +kernel
set_option maxHeartbeats 4000000 in
set_option maxRecDepth 100000 in
theorem c_S_columnOf (l : Launch) (D : va_G) (g : Nat → ClassId) (sz : Nat) (ws : va_W) (M n0 j : Nat) (hM57 : M ≤ 57) (hn0 : n0 = 1 ∨ n0 = 4) (kl al : Nat) (lf : Nat → Option Nat) (kL kc kr kb la ca ra ba9 : Nat → Nat) (ql : ws[kl]? = some (al, .inl (g 3, n0, .inr (.inr (.inr (.inr (lf))))))) (qf : ∀ i, i < n0 → lf i = some (la i)) (qL : ∀ i, i < n0 → ws[kL i]? = some (la i, .inr (4, [.int (nI (lr (wid M n0 i))), .ref (ca i), .ref (ra i), .ref (ba9 i)]))) (qc : ∀ i, i < n0 → ws[kc i]? = some (ca i, .inl (g 0, wid M n0 i, .inl (fun j => nI (if j < wid M n0 i then cc_ (lr (wid M n0 i)) j else 0))))) (k0 o x2 : Nat) (x1 : Int32) (h0 : ws[k0]? = some (o, .inr (1, [.int (nI M), .int (x1), .ref x2, .ref al]))) (hj : j < M) : Met l y_S_columnOf w_S_columnOf rm_S_columnOf (va_Pc [.ref o, .int (nI j)] (pP D (tyl g) (ws) sz)) (va_Qi (fun (r : Int32) (u : Unit) => r = nI (cc_ (lr (wid M n0 (j % n0))) (j / n0))) (fun u => qB D (va_A (ws) sz) (ws)) (va_A (ws) sz)) 0 0 (va_A (ws) sz) := by
  refine Met.ofW (cc := b_S_columnOf) (maxL := 2) (ret := (some .int)) (by decide +kernel) rfl ?_
  intro p e s m args below meth c s₁ Bq hml hv
  have hx := Bq.exec
  have hb := Bq.bytes
  have hr := Bq.returns
  have hts : ∀ w ∈ wA, w.before args s = true := fun w h => atoms_spec (ws := w_S_columnOf) Bq.pre w (List.mem_cons_of_mem _ h)
  have hown : s.vm.findClass R_S = some m.cls := findClass_of_methodNamed Bq.named
  have hlocks := Bq.notSynchronized
  obtain ⟨rfl, hsz, hP, hKK, hD0⟩ := hv
  have hK := hKK.1
  subst hsz
  have hD := hD0.self (sz := s.heap.size)
  generalize hAe : va_A (ws) s.heap.size = A at hD ⊢
  have hA : ∀ q : Nat, s.heap.size ≤ q → A q := fun q h => by rw [← hAe]; exact Or.inr h
  have hS : va_S A s.heap s.heap [] := va_S.rf
  have hl := lv_entry ([.ref o, .int (nI j)]) (n := 2) (Nat.le_of_ble_eq_true rfl)
  rw [lg_entry_eq]
  generalize (lg_sl ([.ref o, .int (nI j)]) ++ List.replicate (2 - (lg_sl ([.ref o, .int (nI j)])).length) Slot.unset).toArray = ls at hl ⊢
  have hl : lv_has ls 2 [(0, .ref o), (1, .int (nI j))] := hl
  generalize hQ : MQ below (va_Qi (fun (r : Int32) (u : Unit) => r = nI (cc_ (lr (wid M n0 (j % n0))) (j / n0))) (fun u => qB D (A) (ws)) (A)) [.ref o, .int (nI j)].toArray s 0 0 A = Q
  refine lv_iload_n hx hb d_S_columnOf_0 rfl (lv_at hl 1 rfl) ?_
  refine lx_if_lt (tgt := 12) hx hb d_S_columnOf_1 (by decide) (by omega) ?_
  have hm : j % n0 < n0 := Nat.mod_lt _ (by omega)
  have hd := wid_of hn0 hj
  have hwl := wid_le (i := j % n0) hM57 hn0
  have hjn : j / n0 < 2 ^ 31 := Nat.lt_of_le_of_lt (Nat.div_le_self _ _) (by omega)
  refine lv_aload_n hx hb d_S_columnOf_4 rfl (lv_at hl 0 rfl) ?_
  refine va_get (D := D) (ci := 1) (v := .ref al) (C := R_S) (T := F_S) (N := 4) hx hb hts i_S hown hK hP k0 h0 rfl 3 (by decide) (hts _ m_133) (fun _ h9 => h9) rfl d_S_columnOf_5 ?_
  refine va_alen hx hb hK hP kl 3 ql (v := nI n0) rfl (rfl) d_S_columnOf_8 ?_
  refine lx_if_ne (tgt := 14) hx hb d_S_columnOf_9 (by decide) (by omega) (fun c9 => ?_) (fun c9 => ?_)
  · skip
    refine lv_aload_n hx hb d_S_columnOf_14 rfl (lv_at hl 0 rfl) ?_
    refine va_get (D := D) (ci := 1) (v := .ref al) (C := R_S) (T := F_S) (N := 4) hx hb hts i_S hown hK hP k0 h0 rfl 3 (by decide) (hts _ m_133) (fun _ h9 => h9) rfl d_S_columnOf_15 ?_
    refine lv_iload_n hx hb d_S_columnOf_18 rfl (lv_at hl 1 rfl) ?_
    refine lv_aload_n hx hb d_S_columnOf_19 rfl (lv_at hl 0 rfl) ?_
    refine va_get (D := D) (ci := 1) (v := .ref al) (C := R_S) (T := F_S) (N := 4) hx hb hts i_S hown hK hP k0 h0 rfl 3 (by decide) (hts _ m_133) (fun _ h9 => h9) rfl d_S_columnOf_20 ?_
    refine va_alen hx hb hK hP kl 3 ql (v := nI n0) rfl (rfl) d_S_columnOf_23 ?_
    refine lx_irem (z := nI (j % n0)) hx hb d_S_columnOf_24 (nI_ne0 (by omega) (by omega)) (pk_rem (by omega) (by omega) (by omega)) ?_
    refine lx_aald (v := la (j % n0)) hx hb hK hP kl 3 ql rfl (j := j % n0) (by omega) (by omega) (qf _ hm) d_S_columnOf_25 ?_
    refine lv_iload_n hx hb d_S_columnOf_26 rfl (lv_at hl 1 rfl) ?_
    refine lv_aload_n hx hb d_S_columnOf_27 rfl (lv_at hl 0 rfl) ?_
    refine va_get (D := D) (ci := 1) (v := .ref al) (C := R_S) (T := F_S) (N := 4) hx hb hts i_S hown hK hP k0 h0 rfl 3 (by decide) (hts _ m_133) (fun _ h9 => h9) rfl d_S_columnOf_28 ?_
    refine va_alen hx hb hK hP kl 3 ql (v := nI n0) rfl (rfl) d_S_columnOf_31 ?_
    refine lx_idiv (z := nI (j / n0)) hx hb d_S_columnOf_32 (nI_ne0 (by omega) (by omega)) (pk_div (by omega) (by omega) (by omega)) ?_
    refine lc_Vi (b := la (j % n0)) (As := [.int (nI (j / n0))]) (rest := []) ⟨hx, hb, hml, hown, hts⟩ (c_L_columnAt l D g _ _ (kL (j % n0)) (kc (j % n0)) (la (j % n0)) (ca (j % n0)) (ra (j % n0)) (ba9 (j % n0)) (wid M n0 (j % n0)) (nI (lr (wid M n0 (j % n0)))) (fun j9 => if j9 < wid M n0 (j % n0) then cc_ (lr (wid M n0 (j % n0))) j9 else 0) (j / n0) (qL (j % n0) hm) (qc (j % n0) hm) (by omega) hd) (kV 1 hts m_128 m_125 m_126 m_127 m_34 (by decide +kernel) ⟨Nat.le_of_ble_eq_true rfl, Nat.le_of_ble_eq_true rfl⟩) (va_recv hK hP (ci := 4) (q0 := kL (j % n0)) rfl (qL _ hm)) hKK hP hD hS hA hl.1 rfl rfl (Nat.le_of_ble_eq_true rfl) d_S_columnOf_33 ⟨Nat.le_of_ble_eq_true rfl, Nat.le_of_ble_eq_true rfl⟩ (fun r1 u H locs e1 hP hD hS => ?_)
    obtain rfl : r1 = nI (cc_ (lr (wid M n0 (j % n0))) (j / n0)) := e1.trans (by rw [if_pos hd])
    rw [← hQ]
    refine W.iret (v := nI (cc_ (lr (wid M n0 (j % n0))) (j / n0))) hx hb hr ?_ hS.2.2 d_S_columnOf_36
    exact fun t ht hW => ⟨⟨nI (cc_ (lr (wid M n0 (j % n0))) (j / n0)), (), rfl, rfl, by rw [ht]; exact hP, hD⟩, hS.F ht⟩
  · skip
    exact absurd c9 (by omega)
set_option maxHeartbeats 4000000 in
set_option maxRecDepth 100000 in
theorem c_S_greatestRowSum (l : Launch) (D : va_G) (g : Nat → ClassId) (sz : Nat) (ws : va_W) (M n0 : Nat) (hM57 : M ≤ 57) (hn0 : n0 = 1 ∨ n0 = 4) (kl al : Nat) (lf : Nat → Option Nat) (kL kc kr kb la ca ra ba9 : Nat → Nat) (ql : ws[kl]? = some (al, .inl (g 3, n0, .inr (.inr (.inr (.inr (lf))))))) (qf : ∀ i, i < n0 → lf i = some (la i)) (qL : ∀ i, i < n0 → ws[kL i]? = some (la i, .inr (4, [.int (nI (lr (wid M n0 i))), .ref (ca i), .ref (ra i), .ref (ba9 i)]))) (qr : ∀ i, i < n0 → ws[kr i]? = some (ra i, .inl (g 0, lr (wid M n0 i), .inl (fun r => nI (rsf (lr (wid M n0 i)) (wid M n0 i) r))))) (k0 o x2 : Nat) (x1 : Int32) (h0 : ws[k0]? = some (o, .inr (1, [.int (nI M), .int (x1), .ref x2, .ref al]))) : Met l y_S_greatestRowSum w_S_greatestRowSum rm_S_greatestRowSum (va_Pc [.ref o] (pP D (tyl g) (ws) sz)) (va_Qi (fun (r : Int32) (u : Unit) => r = nI (grs M n0 n0)) (fun u => qB D (va_A (ws) sz) (ws)) (va_A (ws) sz)) 0 0 (va_A (ws) sz) := by
  refine Met.ofW (cc := b_S_greatestRowSum) (maxL := 6) (ret := (some .int)) (by decide +kernel) rfl ?_
  intro p e s m args below meth c s₁ Bq hml hv
  have hx := Bq.exec
  have hb := Bq.bytes
  have hr := Bq.returns
  have hts : ∀ w ∈ wA, w.before args s = true := fun w h => atoms_spec (ws := w_S_greatestRowSum) Bq.pre w (List.mem_cons_of_mem _ h)
  have hown : s.vm.findClass R_S = some m.cls := findClass_of_methodNamed Bq.named
  have hlocks := Bq.notSynchronized
  obtain ⟨rfl, hsz, hP, hKK, hD0⟩ := hv
  have hK := hKK.1
  subst hsz
  have hD := hD0.self (sz := s.heap.size)
  generalize hAe : va_A (ws) s.heap.size = A at hD ⊢
  have hA : ∀ q : Nat, s.heap.size ≤ q → A q := fun q h => by rw [← hAe]; exact Or.inr h
  have hS : va_S A s.heap s.heap [] := va_S.rf
  have hl := lv_entry ([.ref o]) (n := 6) (Nat.le_of_ble_eq_true rfl)
  rw [lg_entry_eq]
  generalize (lg_sl ([.ref o]) ++ List.replicate (6 - (lg_sl ([.ref o])).length) Slot.unset).toArray = ls at hl ⊢
  have hl : lv_has ls 6 [(0, .ref o)] := hl
  generalize hQ : MQ below (va_Qi (fun (r : Int32) (u : Unit) => r = nI (grs M n0 n0)) (fun u => qB D (A) (ws)) (A)) [.ref o].toArray s 0 0 A = Q
  have h4 : n0 ≤ 4 := by omega
  have lp13 : ∀ (n : Nat) (k : Nat) (ls : Array Slot) (H : Heap) (locs : List Loc), (n0 + 1 ≤ k + n) → (k ≤ n0) → lv_has ls 6 [(1, .int (nI (grs M n0 k))), (2, .ref al), (3, .int (nI n0)), (4, .int (nI k))] → va_P D vwCl (ws) H → va_D A (ws) → va_S A s.heap H locs → W p l e (headSpec w_S_greatestRowSum rm_S_greatestRowSum).room s m [.ref o].toArray below meth c H locs 0 0 Q (F0 m 13 ls []) := by
    intro n
    induction n with
    | zero => intro k ls H locs hfu hk _ _ _ _; exact absurd hfu (by omega)
    | succ n ih =>
      intro k ls H locs hfu hk hl hP hD hS
      refine lv_iload hx hb d_S_greatestRowSum_13 (lv_at hl 3 rfl) ?_
      refine lv_iload_n hx hb d_S_greatestRowSum_15 rfl (lv_at hl 2 rfl) ?_
      refine lx_icmp_ge (tgt := 41) hx hb d_S_greatestRowSum_16 (by decide) (by omega) (by omega) (fun c16 => ?_) (fun c16 => ?_)
      · skip
        refine lv_iload_n hx hb d_S_greatestRowSum_41 rfl (lv_at hl 0 rfl) ?_
        rw [← hQ]
        refine W.iret (v := nI (grs M n0 k)) hx hb hr ?_ hS.2.2 d_S_greatestRowSum_42
        exact fun t ht hW => ⟨⟨nI (grs M n0 k), (), rfl, (by rw [show k = n0 by omega]), by rw [ht]; exact hP, hD⟩, hS.F ht⟩
      · skip
        have hwl := wid_le (i := k) hM57 hn0
        have hl7 := lr_le (wid M n0 k)
        have hf9 : ∀ j, j < lr (wid M n0 k) → rsf (lr (wid M n0 k)) (wid M n0 k) j < 2 ^ 20 := fun j _ => by have := rsf_le (R := lr (wid M n0 k)) (wid M n0 k) j; omega
        have hg1 : gs (rsf (lr (wid M n0 k)) (wid M n0 k)) 0 (lr (wid M n0 k)) < 2 ^ 21 := gs_lt hf9
        have hg2 := grs_lt hM57 hn0 k
        refine lv_aload_n hx hb d_S_greatestRowSum_19 rfl (lv_at hl 1 rfl) ?_
        refine lv_iload hx hb d_S_greatestRowSum_20 (lv_at hl 3 rfl) ?_
        refine lx_aald (v := la k) hx hb hK hP kl 3 ql rfl (j := k) (by omega) (by omega) (qf k c16) d_S_greatestRowSum_22 ?_
        refine lv_astore (lv' := [(5, .ref (la k)), (1, .int (nI (grs M n0 k))), (2, .ref al), (3, .int (nI n0)), (4, .int (nI k))]) hx hb d_S_greatestRowSum_23 hl (by decide) rfl (fun ls hl => ?_)
        refine lv_iload_n hx hb d_S_greatestRowSum_25 rfl (lv_at hl 1 rfl) ?_
        refine lv_aload hx hb d_S_greatestRowSum_26 (lv_at hl 0 rfl) ?_
        refine lc_Vi (b := la k) (As := []) (rest := [.int (nI (grs M n0 k))]) ⟨hx, hb, hml, hown, hts⟩ (c_L_greatestSum l D g _ _ (kL k) (kr k) (la k) (ra k) (ca k) (ba9 k) (lr (wid M n0 k)) (nI (lr (wid M n0 k))) (rsf (lr (wid M n0 k)) (wid M n0 k)) (qL k c16) (qr k c16) (by omega) hf9) (kV 0 hts m_273 m_270 m_271 m_272 m_34 (by decide +kernel) ⟨Nat.le_of_ble_eq_true rfl, Nat.le_of_ble_eq_true rfl⟩) (va_recv hK hP (ci := 4) (q0 := kL k) rfl (qL k c16)) hKK hP hD hS hA hl.1 rfl rfl (Nat.le_of_ble_eq_true rfl) d_S_greatestRowSum_28 ⟨Nat.le_of_ble_eq_true rfl, Nat.le_of_ble_eq_true rfl⟩ (fun r1 u H locs e1 hP hD hS => ?_)
        obtain rfl : r1 = nI (gs (rsf (lr (wid M n0 k)) (wid M n0 k)) 0 (lr (wid M n0 k))) := e1
        refine lc_Si (As := [.int (nI (grs M n0 k)), .int (nI (gs (rsf (lr (wid M n0 k)) (wid M n0 k)) 0 (lr (wid M n0 k))))]) (rest := []) ⟨hx, hb, hml, hown, hts⟩ (c_JM_max l D g _ _ (grs M n0 k) (gs (rsf (lr (wid M n0 k)) (wid M n0 k)) 0 (lr (wid M n0 k))) (by omega) (by omega)) (kS 2 hts m_276 m_274 m_275 m_31 (by decide +kernel) ⟨Nat.le_of_ble_eq_true rfl, Nat.le_of_ble_eq_true rfl⟩) hKK hP hD hS hA hl.1 rfl rfl (Nat.le_of_ble_eq_true rfl) d_S_greatestRowSum_31 ⟨Nat.le_of_ble_eq_true rfl, Nat.le_of_ble_eq_true rfl⟩ (fun r2 u H locs e2 hP hD hS => ?_)
        obtain rfl : r2 = nI (grs M n0 (k + 1)) := e2
        refine lv_istore_n (lv' := [(1, .int (nI (grs M n0 (k + 1)))), (5, .ref (la k)), (2, .ref al), (3, .int (nI n0)), (4, .int (nI k))]) hx hb d_S_greatestRowSum_34 rfl hl (by decide) rfl (fun ls hl => ?_)
        refine lv_iinc (v := nI (k + 1)) (lv' := [(4, .int (nI (k + 1))), (1, .int (nI (grs M n0 (k + 1)))), (5, .ref (la k)), (2, .ref al), (3, .int (nI n0))]) hx hb d_S_greatestRowSum_35 hl (k := 4) rfl (nI_1 k) (by decide) rfl (fun ls hl => ?_)
        refine lv_goto (tgt := 13) hx hb d_S_greatestRowSum_38 (by decide) ?_
        exact ih (k + 1) _ _ _ (by omega) (by omega) (lv_sub hl [1, 3, 4, 0] rfl) hP hD hS
  refine lv_iconst (v := nI 0) hx hb d_S_greatestRowSum_0 (by decide) ?_
  refine lv_istore_n (lv' := [(1, .int (nI 0)), (0, .ref o)]) hx hb d_S_greatestRowSum_1 rfl hl (by decide) rfl (fun ls hl => ?_)
  refine lv_aload_n hx hb d_S_greatestRowSum_2 rfl (lv_at hl 1 rfl) ?_
  refine va_get (D := D) (ci := 1) (v := .ref al) (C := R_S) (T := F_S) (N := 4) hx hb hts i_S hown hK hP k0 h0 rfl 3 (by decide) (hts _ m_133) (fun _ h9 => h9) rfl d_S_greatestRowSum_3 ?_
  refine lv_astore_n (lv' := [(2, .ref al), (1, .int (nI 0)), (0, .ref o)]) hx hb d_S_greatestRowSum_6 rfl hl (by decide) rfl (fun ls hl => ?_)
  refine lv_aload_n hx hb d_S_greatestRowSum_7 rfl (lv_at hl 0 rfl) ?_
  refine va_alen hx hb hK hP kl 3 ql (v := nI n0) rfl (rfl) d_S_greatestRowSum_8 ?_
  refine lv_istore_n (lv' := [(3, .int (nI n0)), (2, .ref al), (1, .int (nI 0)), (0, .ref o)]) hx hb d_S_greatestRowSum_9 rfl hl (by decide) rfl (fun ls hl => ?_)
  refine lv_iconst (v := nI 0) hx hb d_S_greatestRowSum_10 (by decide) ?_
  refine lv_istore (lv' := [(4, .int (nI 0)), (3, .int (nI n0)), (2, .ref al), (1, .int (nI 0)), (0, .ref o)]) hx hb d_S_greatestRowSum_11 hl (by decide) rfl (fun ls hl => ?_)
  exact lp13 (n0 + 1) 0 _ _ _ (by omega) (by omega) (lv_sub hl [3, 2, 1, 0] rfl) hP hD hS
set_option maxHeartbeats 4000000 in
set_option maxRecDepth 100000 in
theorem c_S_judge (l : Launch) (D : va_G) (g : Nat → ClassId) (sz : Nat) (wr : va_W) (M n0 t y : Nat) (a0 : Int64) (b0 : Int32) (hM57 : M ≤ 57) (hn0 : n0 = 1 ∨ n0 = 4) (kl al : Nat) (lf : Nat → Option Nat) (kL kc kr kb la ca ra ba9 : Nat → Nat) (ql : wr[kl]? = some (al, .inl (g 3, n0, .inr (.inr (.inr (.inr (lf))))))) (qf : ∀ i, i < n0 → lf i = some (la i)) (qL : ∀ i, i < n0 → wr[kL i]? = some (la i, .inr (4, [.int (nI (lr (wid M n0 i))), .ref (ca i), .ref (ra i), .ref (ba9 i)]))) (qc : ∀ i, i < n0 → wr[kc i]? = some (ca i, .inl (g 0, wid M n0 i, .inl (fun j => nI (if j < wid M n0 i then cc_ (lr (wid M n0 i)) j else 0))))) (qb : ∀ i, i < n0 → wr[kb i]? = some (ba9 i, .inl (g 0, 2 ^ lr (wid M n0 i), .inl (fun s => oI (ba (lr (wid M n0 i)) (wid M n0 i) (wid M n0 i) s))))) (k0 o x2 : Nat) (x1 : Int32) (h0 : wr[k0]? = some (o, .inr (1, [.int (nI M), .int (x1), .ref x2, .ref al]))) (hy : y < 2 ^ 31) : Met l y_S_judge w_S_judge rm_S_judge (va_Pc [.ref o, .int (nI y), .ref t] (pP D (tyl g) ((t, .inr (5, [.long (a0), .int (b0)])) :: wr) sz)) (va_Qi (fun (r : Int32) (u : Unit) => r = nI (jdS M n0 y).1) (fun u => qB D (va_A ((t, .inr (5, [.long (a0), .int (b0)])) :: wr) sz) ((t, .inr (5, [.long (lN (jdS M n0 y).2.1), .int (nI (jdS M n0 y).2.2)])) :: wr)) (va_A ((t, .inr (5, [.long (a0), .int (b0)])) :: wr) sz)) 0 0 (va_A ((t, .inr (5, [.long (a0), .int (b0)])) :: wr) sz) := by
  refine Met.ofW (cc := b_S_judge) (maxL := 10) (ret := (some .int)) (by decide +kernel) rfl ?_
  intro p e s m args below meth c s₁ Bq hml hv
  have hx := Bq.exec
  have hb := Bq.bytes
  have hr := Bq.returns
  have hts : ∀ w ∈ wA, w.before args s = true := fun w h => atoms_spec (ws := w_S_judge) Bq.pre w (List.mem_cons_of_mem _ h)
  have hown : s.vm.findClass R_S = some m.cls := findClass_of_methodNamed Bq.named
  have hlocks := Bq.notSynchronized
  obtain ⟨rfl, hsz, hP, hKK, hD0⟩ := hv
  have hK := hKK.1
  subst hsz
  have hD := hD0.self (sz := s.heap.size)
  generalize hAe : va_A ((t, .inr (5, [.long (a0), .int (b0)])) :: wr) s.heap.size = A at hD ⊢
  have hA : ∀ q : Nat, s.heap.size ≤ q → A q := fun q h => by rw [← hAe]; exact Or.inr h
  have hS : va_S A s.heap s.heap [] := va_S.rf
  have hl := lv_entry ([.ref o, .int (nI y), .ref t]) (n := 10) (Nat.le_of_ble_eq_true rfl)
  rw [lg_entry_eq]
  generalize (lg_sl ([.ref o, .int (nI y), .ref t]) ++ List.replicate (10 - (lg_sl ([.ref o, .int (nI y), .ref t])).length) Slot.unset).toArray = ls at hl ⊢
  have hl : lv_has ls 10 [(0, .ref o), (1, .int (nI y)), (2, .ref t)] := hl
  generalize hQ : MQ below (va_Qi (fun (r : Int32) (u : Unit) => r = nI (jdS M n0 y).1) (fun u => qB D (A) ((t, .inr (5, [.long (lN (jdS M n0 y).2.1), .int (nI (jdS M n0 y).2.2)])) :: wr)) (A)) [.ref o, .int (nI y), .ref t].toArray s 0 0 A = Q
  have h4 : n0 ≤ 4 := by omega
  refine lv_aload_n hx hb d_S_judge_0 rfl (lv_at hl 2 rfl) ?_
  refine lc_Vv (b := t) (As := []) (rest := []) ⟨hx, hb, hml, hown, hts⟩ (c_T_clear l D g _ t a0 b0 wr) (kV 0 hts m_455 m_467 m_453 m_454 m_39 (by decide +kernel) ⟨Nat.le_of_ble_eq_true rfl, Nat.le_of_ble_eq_true rfl⟩) (va_recv hK hP (ci := 5) (q0 := 0) rfl rfl) hKK hP hD hS hA hl.1 rfl rfl (Nat.le_of_ble_eq_true rfl) d_S_judge_1 ⟨Nat.le_of_ble_eq_true rfl, Nat.le_of_ble_eq_true rfl⟩ (fun u H locs _ hP hD hS => ?_)
  have hP : va_P D vwCl ((t, .inr (5, [.long (lN 0), .int (nI 0)])) :: wr) H := hP
  have hD : va_D A ((t, .inr (5, [.long (lN 0), .int (nI 0)])) :: wr) := hD
  have lp12 : ∀ (n : Nat) (k an wf cf : Nat) (ls : Array Slot) (H : Heap) (locs : List Loc), (n0 + 1 ≤ k + n) → (k ≤ n0) → (jS M n0 y k = some (an, wf, cf)) → lv_has ls 10 [(0, .ref o), (1, .int (nI y)), (2, .ref t), (3, .int (nI an)), (4, .int (nI (frm M n0 k))), (5, .int (nI k))] → va_P D vwCl ((t, .inr (5, [.long (lN wf), .int (nI cf)])) :: wr) H → va_D A ((t, .inr (5, [.long (lN wf), .int (nI cf)])) :: wr) → va_S A s.heap H locs → W p l e (headSpec w_S_judge rm_S_judge).room s m [.ref o, .int (nI y), .ref t].toArray below meth c H locs 0 0 Q (F0 m 12 ls []) := by
    intro n
    induction n with
    | zero => intro k an wf cf ls H locs hfu hk hjs _ _ _ _; exact absurd hfu (by omega)
    | succ n ih =>
      intro k an wf cf ls H locs hfu hk hjs hl hP hD hS
      refine lv_iload hx hb d_S_judge_12 (lv_at hl 5 rfl) ?_
      refine lv_aload_n hx hb d_S_judge_14 rfl (lv_at hl 0 rfl) ?_
      refine va_get (D := D) (ci := 1) (v := .ref al) (C := R_S) (T := F_S) (N := 4) hx hb hts i_S hown hK hP (k0 + 1) h0 rfl 3 (by decide) (hts _ m_133) (fun _ h9 => h9) rfl d_S_judge_15 ?_
      refine va_alen hx hb hK hP (kl + 1) 3 ql (v := nI n0) rfl (rfl) d_S_judge_18 ?_
      refine lx_icmp_ge (tgt := 150) hx hb d_S_judge_19 (by decide) (by omega) (by omega) (fun c19 => ?_) (fun c19 => ?_)
      · skip
        obtain rfl : n0 = k := by omega
        have ej : jdS M n0 y = (an, wf, cf) := by unfold jdS; rw [hjs]
        rw [ej] at hQ
        refine lv_iload_n hx hb d_S_judge_150 rfl (lv_at hl 3 rfl) ?_
        rw [← hQ]
        refine W.iret (v := nI an) hx hb hr ?_ hS.2.2 d_S_judge_151
        exact fun t ht hW => ⟨⟨nI an, (), rfl, rfl, by rw [ht]; exact hP, hD⟩, hS.F ht⟩
      · skip
        have hwl := wid_le (i := k) hM57 hn0
        have hl7 := lr_le (wid M n0 k)
        have hfl := frm_lt (M := M) (n := n0) (show k < 4 by omega)
        have hpw := pow_le hl7
        have hp1 : 1 ≤ 2 ^ lr (wid M n0 k) := Nat.one_le_two_pow
        have hown9 : y >>> frm M n0 k % 2 ^ lr (wid M n0 k) < 2 ^ lr (wid M n0 k) := Nat.mod_lt _ (by omega)
        have j134 : ∀ (an2 wf2 cf2 : Nat) (ls : Array Slot) (H : Heap) (locs : List Loc), (jS M n0 y (k + 1) = some (an2, wf2, cf2)) → lv_has ls 10 [(0, .ref o), (1, .int (nI y)), (2, .ref t), (3, .int (nI an2)), (4, .int (nI (frm M n0 k))), (5, .int (nI k)), (6, .ref (la k))] → va_P D vwCl ((t, .inr (5, [.long (lN wf2), .int (nI cf2)])) :: wr) H → va_D A ((t, .inr (5, [.long (lN wf2), .int (nI cf2)])) :: wr) → va_S A s.heap H locs → W p l e (headSpec w_S_judge rm_S_judge).room s m [.ref o, .int (nI y), .ref t].toArray below meth c H locs 0 0 Q (F0 m 134 ls []) := by
          intro an2 wf2 cf2 ls H locs hj2 hl hP hD hS
          refine lv_iload hx hb d_S_judge_134 (lv_at hl 4 rfl) ?_
          refine lv_aload hx hb d_S_judge_136 (lv_at hl 6 rfl) ?_
          refine va_get (D := D) (ci := 4) (v := .int (nI (lr (wid M n0 k)))) (C := R_L) (T := F_L) (N := 4) hx hb hts i_L hown hK hP (kL k + 1) (qL k c19) rfl 0 (by decide) (hts _ m_101) (fun _ h9 => h9) rfl d_S_judge_138 ?_
          refine lx_iadd (z := nI (frm M n0 (k + 1))) hx hb d_S_judge_141 (nI_add _ _) ?_
          refine lv_istore (lv' := [(4, .int (nI (frm M n0 (k + 1)))), (0, .ref o), (1, .int (nI y)), (2, .ref t), (3, .int (nI an2)), (5, .int (nI k)), (6, .ref (la k))]) hx hb d_S_judge_142 hl (by decide) rfl (fun ls hl => ?_)
          refine lv_iinc (v := nI (k + 1)) (lv' := [(5, .int (nI (k + 1))), (4, .int (nI (frm M n0 (k + 1)))), (0, .ref o), (1, .int (nI y)), (2, .ref t), (3, .int (nI an2)), (6, .ref (la k))]) hx hb d_S_judge_144 hl (k := 5) rfl (nI_1 k) (by decide) rfl (fun ls hl => ?_)
          refine lv_goto (tgt := 12) hx hb d_S_judge_147 (by decide) ?_
          exact ih (k + 1) an2 wf2 cf2 _ _ _ (by omega) (by omega) (hj2) (lv_sub hl [2, 3, 4, 5, 1, 0] rfl) hP hD hS
        refine lv_aload_n hx hb d_S_judge_22 rfl (lv_at hl 0 rfl) ?_
        refine va_get (D := D) (ci := 1) (v := .ref al) (C := R_S) (T := F_S) (N := 4) hx hb hts i_S hown hK hP (k0 + 1) h0 rfl 3 (by decide) (hts _ m_133) (fun _ h9 => h9) rfl d_S_judge_23 ?_
        refine lv_iload hx hb d_S_judge_26 (lv_at hl 5 rfl) ?_
        refine lx_aald (v := la k) hx hb hK hP (kl + 1) 3 ql rfl (j := k) (by omega) (by omega) (qf k c19) d_S_judge_28 ?_
        refine lv_astore (lv' := [(6, .ref (la k)), (0, .ref o), (1, .int (nI y)), (2, .ref t), (3, .int (nI an)), (4, .int (nI (frm M n0 k))), (5, .int (nI k))]) hx hb d_S_judge_29 hl (by decide) rfl (fun ls hl => ?_)
        refine lv_iload_n hx hb d_S_judge_31 rfl (lv_at hl 2 rfl) ?_
        refine lv_iload hx hb d_S_judge_32 (lv_at hl 5 rfl) ?_
        refine lv_iushr (v := nI (y >>> frm M n0 k)) hx hb d_S_judge_34 (xn_ushr (by omega) (by omega)) ?_
        refine lv_iconst (v := nI 1) hx hb d_S_judge_35 (by decide) ?_
        refine lv_aload hx hb d_S_judge_36 (lv_at hl 0 rfl) ?_
        refine va_get (D := D) (ci := 4) (v := .int (nI (lr (wid M n0 k)))) (C := R_L) (T := F_L) (N := 4) hx hb hts i_L hown hK hP (kL k + 1) (qL k c19) rfl 0 (by decide) (hts _ m_101) (fun _ h9 => h9) rfl d_S_judge_38 ?_
        refine lx_ishl (z := nI (2 ^ lr (wid M n0 k))) hx hb d_S_judge_41 ((xn_shl 1 (by omega)).trans (by rw [Nat.one_shiftLeft])) ?_
        refine lv_iconst (v := nI 1) hx hb d_S_judge_42 (by decide) ?_
        refine lx_isub (z := nI (2 ^ lr (wid M n0 k) - 1)) hx hb d_S_judge_43 (pk_sub hp1) ?_
        refine lx_iand (z := nI (y >>> frm M n0 k % 2 ^ lr (wid M n0 k))) hx hb d_S_judge_44 ((xn_and _ _).trans (by rw [Nat.and_two_pow_sub_one_eq_mod])) ?_
        refine lv_istore (lv' := [(7, .int (nI (y >>> frm M n0 k % 2 ^ lr (wid M n0 k)))), (6, .ref (la k)), (0, .ref o), (1, .int (nI y)), (2, .ref t), (3, .int (nI an)), (4, .int (nI (frm M n0 k))), (5, .int (nI k))]) hx hb d_S_judge_45 hl (by decide) rfl (fun ls hl => ?_)
        refine lv_iload hx hb d_S_judge_47 (lv_at hl 0 rfl) ?_
        refine lx_if_eq (tgt := 134) hx hb d_S_judge_49 (by decide) (by omega) (fun c49 => ?_) (fun c49 => ?_)
        · skip
          exact j134 an wf cf _ _ _ (by rw [jS_step hjs]; unfold stS; rw [if_pos c49]) (lv_sub hl [2, 3, 4, 5, 6, 7, 1] rfl) hP hD hS
        · skip
          refine lv_aload hx hb d_S_judge_52 (lv_at hl 1 rfl) ?_
          refine lv_iload hx hb d_S_judge_54 (lv_at hl 0 rfl) ?_
          refine lc_Vi (b := la k) (As := [.int (nI (y >>> frm M n0 k % 2 ^ lr (wid M n0 k)))]) (rest := []) ⟨hx, hb, hml, hown, hts⟩ (c_L_bitFor l D g _ _ (kL k + 1) (kb k + 1) (la k) (ba9 k) (ca k) (ra k) (2 ^ lr (wid M n0 k)) (nI (lr (wid M n0 k))) (ba (lr (wid M n0 k)) (wid M n0 k) (wid M n0 k)) (y >>> frm M n0 k % 2 ^ lr (wid M n0 k)) (qL k c19) (qb k c19) hpw hown9) (kV 1 hts m_471 m_468 m_469 m_470 m_34 (by decide +kernel) ⟨Nat.le_of_ble_eq_true rfl, Nat.le_of_ble_eq_true rfl⟩) (va_recv hK hP (ci := 4) (q0 := kL k + 1) rfl (qL k c19)) hKK hP hD hS hA hl.1 rfl rfl (Nat.le_of_ble_eq_true rfl) d_S_judge_56 ⟨Nat.le_of_ble_eq_true rfl, Nat.le_of_ble_eq_true rfl⟩ (fun r1 u H locs e1 hP hD hS => ?_)
          cases hb9 : ba (lr (wid M n0 k)) (wid M n0 k) (wid M n0 k) (y >>> frm M n0 k % 2 ^ lr (wid M n0 k)) with
          | none =>
            rw [hb9] at e1
            obtain rfl : r1 = (-1) := e1
            refine lv_istore (lv' := [(8, .int ((-1))), (7, .int (nI (y >>> frm M n0 k % 2 ^ lr (wid M n0 k)))), (6, .ref (la k)), (0, .ref o), (1, .int (nI y)), (2, .ref t), (3, .int (nI an)), (4, .int (nI (frm M n0 k))), (5, .int (nI k))]) hx hb d_S_judge_59 hl (by decide) rfl (fun ls hl => ?_)
            refine lv_iload hx hb d_S_judge_61 (lv_at hl 0 rfl) ?_
            refine lv_iconst (v := (-1)) hx hb d_S_judge_63 (by decide) ?_
            refine lv_icmp_ne (tgt := 73) hx hb d_S_judge_64 (by decide) (fun c64 => ?_) (fun c64 => ?_)
            · skip
              exact absurd rfl c64
            · skip
              refine lv_aload_n hx hb d_S_judge_67 rfl (lv_at hl 5 rfl) ?_
              refine lc_Vv (b := t) (As := []) (rest := []) ⟨hx, hb, hml, hown, hts⟩ (c_T_clear l D g _ t (lN wf) (nI cf) wr) (kV 0 hts m_455 m_467 m_453 m_454 m_39 (by decide +kernel) ⟨Nat.le_of_ble_eq_true rfl, Nat.le_of_ble_eq_true rfl⟩) (va_recv hK hP (ci := 5) (q0 := 0) rfl rfl) hKK hP hD hS hA hl.1 rfl rfl (Nat.le_of_ble_eq_true rfl) d_S_judge_68 ⟨Nat.le_of_ble_eq_true rfl, Nat.le_of_ble_eq_true rfl⟩ (fun u H locs _ hP hD hS => ?_)
              have hP : va_P D vwCl ((t, .inr (5, [.long (lN 0), .int (nI 0)])) :: wr) H := hP
              have hD : va_D A ((t, .inr (5, [.long (lN 0), .int (nI 0)])) :: wr) := hD
              have ej : jdS M n0 y = (2, 0, 0) := by unfold jdS; rw [jS_none (i := k + 1) (by rw [jS_step hjs]; unfold stS; rw [if_neg c49, hb9]) n0 (by omega)]
              rw [ej] at hQ
              refine lv_iconst (v := nI 2) hx hb d_S_judge_71 (by decide) ?_
              rw [← hQ]
              refine W.iret (v := nI 2) hx hb hr ?_ hS.2.2 d_S_judge_72
              exact fun t ht hW => ⟨⟨nI 2, (), rfl, rfl, by rw [ht]; exact hP, hD⟩, hS.F ht⟩
          | some b =>
            rw [hb9] at e1
            obtain rfl : r1 = nI b := e1
            have hbi := ba_in hb9
            refine lv_istore (lv' := [(8, .int (nI b)), (7, .int (nI (y >>> frm M n0 k % 2 ^ lr (wid M n0 k)))), (6, .ref (la k)), (0, .ref o), (1, .int (nI y)), (2, .ref t), (3, .int (nI an)), (4, .int (nI (frm M n0 k))), (5, .int (nI k))]) hx hb d_S_judge_59 hl (by decide) rfl (fun ls hl => ?_)
            refine lv_iload hx hb d_S_judge_61 (lv_at hl 0 rfl) ?_
            refine lv_iconst (v := (-1)) hx hb d_S_judge_63 (by decide) ?_
            refine lv_icmp_ne (tgt := 73) hx hb d_S_judge_64 (by decide) (fun c64 => ?_) (fun c64 => ?_)
            · skip
              refine lv_iconst (v := nI 1) hx hb d_S_judge_73 (by decide) ?_
              refine lv_istore_n (lv' := [(3, .int (nI 1)), (8, .int (nI b)), (7, .int (nI (y >>> frm M n0 k % 2 ^ lr (wid M n0 k)))), (6, .ref (la k)), (0, .ref o), (1, .int (nI y)), (2, .ref t), (4, .int (nI (frm M n0 k))), (5, .int (nI k))]) hx hb d_S_judge_74 rfl hl (by decide) rfl (fun ls hl => ?_)
              refine lv_aload hx hb d_S_judge_75 (lv_at hl 3 rfl) ?_
              refine va_get (D := D) (ci := 4) (v := .ref (ca k)) (C := R_L) (T := F_L) (N := 4) hx hb hts i_L hown hK hP (kL k + 1) (qL k c19) rfl 1 (by decide) (hts _ m_103) (fun _ h9 => h9) rfl d_S_judge_77 ?_
              refine va_alen hx hb hK hP (kc k + 1) 0 (qc k c19) (v := nI (wid M n0 k)) rfl (rfl) d_S_judge_80 ?_
              refine lv_istore (lv' := [(9, .int (nI (wid M n0 k))), (3, .int (nI 1)), (8, .int (nI b)), (7, .int (nI (y >>> frm M n0 k % 2 ^ lr (wid M n0 k)))), (6, .ref (la k)), (0, .ref o), (1, .int (nI y)), (2, .ref t), (4, .int (nI (frm M n0 k))), (5, .int (nI k))]) hx hb d_S_judge_81 hl (by decide) rfl (fun ls hl => ?_)
              refine lv_iload hx hb d_S_judge_83 (lv_at hl 2 rfl) ?_
              refine lv_iload hx hb d_S_judge_85 (lv_at hl 0 rfl) ?_
              refine lx_icmp_ge (tgt := 115) hx hb d_S_judge_87 (by decide) (by omega) (by omega) (fun c87 => ?_) (fun c87 => ?_)
              · skip
                refine lv_aload_n hx hb d_S_judge_115 rfl (lv_at hl 7 rfl) ?_
                refine lv_dup hx hb d_S_judge_116 rfl ?_
                refine va_get (D := D) (ci := 5) (v := .int (nI cf)) (C := R_T) (T := F_T) (N := 2) hx hb hts i_T hown hK hP 0 rfl rfl 1 (by decide) (hts _ m_199) (fun _ h9 => h9) rfl d_S_judge_117 ?_
                refine lv_iconst (v := nI 1) hx hb d_S_judge_120 (by decide) ?_
                refine lv_iload hx hb d_S_judge_121 (lv_at hl 8 rfl) ?_
                refine lv_iload hx hb d_S_judge_123 (lv_at hl 2 rfl) ?_
                refine lx_iadd (z := nI (frm M n0 k + b)) hx hb d_S_judge_125 (nI_add _ _) ?_
                refine lv_iload hx hb d_S_judge_126 (lv_at hl 0 rfl) ?_
                refine lx_isub (z := nI (frm M n0 k + b - wid M n0 k)) hx hb d_S_judge_128 (pk_sub (by omega)) ?_
                refine lx_ishl (z := nI (1 <<< (frm M n0 k + b - wid M n0 k))) hx hb d_S_judge_129 (xn_shl 1 (by omega)) ?_
                refine lx_ior (z := nI (cf ||| (1 <<< (frm M n0 k + b - wid M n0 k)))) hx hb d_S_judge_130 (xn_or cf (1 <<< (frm M n0 k + b - wid M n0 k))) ?_
                refine va_put (D := D) (ci := 5) (v := .int (nI (cf ||| (1 <<< (frm M n0 k + b - wid M n0 k))))) (ty := .int) (C := R_T) (T := F_T) (N := 2) hx hb hts i_T tf_T tf_T_ok nf_T hown hK hP hD hS 0 rfl rfl 1 (by decide) (hts _ m_199) (fun _ h9 => h9) rfl (by decide +kernel) rfl rfl (Nat.le_of_ble_eq_true rfl) d_S_judge_131 (fun H locs hP hD hS => ?_)
                have hP : va_P D vwCl ((t, .inr (5, [.long (lN wf), .int (nI (cf ||| 1 <<< (frm M n0 k + b - wid M n0 k)))])) :: wr) H := hP
                have hD : va_D A ((t, .inr (5, [.long (lN wf), .int (nI (cf ||| 1 <<< (frm M n0 k + b - wid M n0 k)))])) :: wr) := hD
                exact j134 1 wf (cf ||| 1 <<< (frm M n0 k + b - wid M n0 k)) _ _ _ (by rw [jS_step hjs]; unfold stS; rw [if_neg c49, hb9]; show (if b < wid M n0 k then _ else _) = _; rw [if_neg (by omega)]) (lv_sub hl [5, 6, 7, 1, 8, 9, 4] rfl) hP hD hS
              · skip
                have hat := wid_at hn0 c19 c87
                refine lv_aload_n hx hb d_S_judge_90 rfl (lv_at hl 7 rfl) ?_
                refine lv_dup hx hb d_S_judge_91 rfl ?_
                refine va_get (D := D) (ci := 5) (v := .long (lN wf)) (C := R_T) (T := F_T) (N := 2) hx hb hts i_T hown hK hP 0 rfl rfl 0 (by decide) (hts _ m_195) (fun _ h9 => h9) rfl d_S_judge_92 ?_
                refine lv_lconst (v := lN 1) hx hb d_S_judge_95 (by decide) ?_
                refine lv_iload hx hb d_S_judge_96 (lv_at hl 2 rfl) ?_
                refine lv_aload_n hx hb d_S_judge_98 rfl (lv_at hl 5 rfl) ?_
                refine va_get (D := D) (ci := 1) (v := .ref al) (C := R_S) (T := F_S) (N := 4) hx hb hts i_S hown hK hP (k0 + 1) h0 rfl 3 (by decide) (hts _ m_133) (fun _ h9 => h9) rfl d_S_judge_99 ?_
                refine va_alen hx hb hK hP (kl + 1) 3 ql (v := nI n0) rfl (rfl) d_S_judge_102 ?_
                refine lx_imul (z := nI (b * n0)) hx hb d_S_judge_103 (pk_mul _ _) ?_
                refine lv_iload hx hb d_S_judge_104 (lv_at hl 9 rfl) ?_
                refine lx_iadd (z := nI (b * n0 + k)) hx hb d_S_judge_106 (nI_add (b * n0) k) ?_
                refine lv_lshl (v := lN (1 <<< (b * n0 + k))) hx hb d_S_judge_107 (xl_shl 1 (by omega)) ?_
                refine lx_lor (z := lN (wf ||| (1 <<< (b * n0 + k)))) hx hb d_S_judge_108 (xl_or wf (1 <<< (b * n0 + k))) ?_
                refine va_put (D := D) (ci := 5) (v := .long (lN (wf ||| (1 <<< (b * n0 + k))))) (ty := .long) (C := R_T) (T := F_T) (N := 2) hx hb hts i_T tf_T tf_T_ok nf_T hown hK hP hD hS 0 rfl rfl 0 (by decide) (hts _ m_195) (fun _ h9 => h9) rfl (by decide +kernel) rfl rfl (Nat.le_of_ble_eq_true rfl) d_S_judge_109 (fun H locs hP hD hS => ?_)
                have hP : va_P D vwCl ((t, .inr (5, [.long (lN (wf ||| 1 <<< (b * n0 + k))), .int (nI cf)])) :: wr) H := hP
                have hD : va_D A ((t, .inr (5, [.long (lN (wf ||| 1 <<< (b * n0 + k))), .int (nI cf)])) :: wr) := hD
                refine lv_goto (tgt := 134) hx hb d_S_judge_112 (by decide) ?_
                exact j134 1 (wf ||| 1 <<< (b * n0 + k)) cf _ _ _ (by rw [jS_step hjs]; unfold stS; rw [if_neg c49, hb9]; show (if b < wid M n0 k then _ else _) = _; rw [if_pos c87]) (lv_sub hl [5, 6, 7, 1, 8, 9, 4] rfl) hP hD hS
            · skip
              exact absurd c64 (nI_nm1 (by omega))
  refine lv_iconst (v := nI 0) hx hb d_S_judge_4 (by decide) ?_
  refine lv_istore_n (lv' := [(3, .int (nI 0)), (0, .ref o), (1, .int (nI y)), (2, .ref t)]) hx hb d_S_judge_5 rfl hl (by decide) rfl (fun ls hl => ?_)
  refine lv_iconst (v := nI 0) hx hb d_S_judge_6 (by decide) ?_
  refine lv_istore (lv' := [(4, .int (nI 0)), (3, .int (nI 0)), (0, .ref o), (1, .int (nI y)), (2, .ref t)]) hx hb d_S_judge_7 hl (by decide) rfl (fun ls hl => ?_)
  refine lv_iconst (v := nI 0) hx hb d_S_judge_9 (by decide) ?_
  refine lv_istore (lv' := [(5, .int (nI 0)), (4, .int (nI 0)), (3, .int (nI 0)), (0, .ref o), (1, .int (nI y)), (2, .ref t)]) hx hb d_S_judge_10 hl (by decide) rfl (fun ls hl => ?_)
  exact lp12 (n0 + 1) 0 0 0 0 _ _ _ (by omega) (by omega) (rfl) (lv_sub hl [3, 4, 5, 2, 1, 0] rfl) hP hD hS
