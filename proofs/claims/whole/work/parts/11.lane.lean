abbrev w_JM_min : List Cond := .code y_JM_min b_JM_min 2 (some .int) :: wA
abbrev rm_JM_min : Room := { frames := 0, cells := 0, slots := 0, locals := 0 }
theorem d_JM_min_0 : decode b_JM_min 0 = .ok (.iload_n 0, 1) := by decide +kernel
theorem d_JM_min_1 : decode b_JM_min 1 = .ok (.iload_n 1, 1) := by decide +kernel
theorem d_JM_min_2 : decode b_JM_min 2 = .ok (.if_icmp .gt 7, 3) := by decide +kernel
theorem d_JM_min_5 : decode b_JM_min 5 = .ok (.iload_n 0, 1) := by decide +kernel
theorem d_JM_min_6 : decode b_JM_min 6 = .ok (.goto 4, 3) := by decide +kernel
theorem d_JM_min_9 : decode b_JM_min 9 = .ok (.iload_n 1, 1) := by decide +kernel
theorem d_JM_min_10 : decode b_JM_min 10 = .ok (.ireturn, 1) := by decide +kernel
abbrev w_JM_max : List Cond := .code y_JM_max b_JM_max 2 (some .int) :: wA
abbrev rm_JM_max : Room := { frames := 0, cells := 0, slots := 0, locals := 0 }
theorem d_JM_max_0 : decode b_JM_max 0 = .ok (.iload_n 0, 1) := by decide +kernel
theorem d_JM_max_1 : decode b_JM_max 1 = .ok (.iload_n 1, 1) := by decide +kernel
theorem d_JM_max_2 : decode b_JM_max 2 = .ok (.if_icmp .lt 7, 3) := by decide +kernel
theorem d_JM_max_5 : decode b_JM_max 5 = .ok (.iload_n 0, 1) := by decide +kernel
theorem d_JM_max_6 : decode b_JM_max 6 = .ok (.goto 4, 3) := by decide +kernel
theorem d_JM_max_9 : decode b_JM_max 9 = .ok (.iload_n 1, 1) := by decide +kernel
theorem d_JM_max_10 : decode b_JM_max 10 = .ok (.ireturn, 1) := by decide +kernel
abbrev w_L_checkBitsFor : List Cond := .code y_L_checkBitsFor b_L_checkBitsFor 2 (some .int) :: wA
abbrev rm_L_checkBitsFor : Room := { frames := 0, cells := 0, slots := 0, locals := 0 }
theorem d_L_checkBitsFor_0 : decode b_L_checkBitsFor 0 = .ok (.iload_n 0, 1) := by decide +kernel
theorem d_L_checkBitsFor_1 : decode b_L_checkBitsFor 1 = .ok (.ifCond .ne 5, 3) := by decide +kernel
theorem d_L_checkBitsFor_4 : decode b_L_checkBitsFor 4 = .ok (.iconst 0, 1) := by decide +kernel
theorem d_L_checkBitsFor_5 : decode b_L_checkBitsFor 5 = .ok (.ireturn, 1) := by decide +kernel
theorem d_L_checkBitsFor_6 : decode b_L_checkBitsFor 6 = .ok (.iconst 4, 1) := by decide +kernel
theorem d_L_checkBitsFor_7 : decode b_L_checkBitsFor 7 = .ok (.istore_n 1, 1) := by decide +kernel
theorem d_L_checkBitsFor_8 : decode b_L_checkBitsFor 8 = .ok (.iload_n 1, 1) := by decide +kernel
theorem d_L_checkBitsFor_9 : decode b_L_checkBitsFor 9 = .ok (.bipush 7, 2) := by decide +kernel
theorem d_L_checkBitsFor_11 : decode b_L_checkBitsFor 11 = .ok (.if_icmp .ge 20, 3) := by decide +kernel
theorem d_L_checkBitsFor_14 : decode b_L_checkBitsFor 14 = .ok (.iconst 1, 1) := by decide +kernel
theorem d_L_checkBitsFor_15 : decode b_L_checkBitsFor 15 = .ok (.iload_n 1, 1) := by decide +kernel
theorem d_L_checkBitsFor_16 : decode b_L_checkBitsFor 16 = .ok (.iconst 1, 1) := by decide +kernel
theorem d_L_checkBitsFor_17 : decode b_L_checkBitsFor 17 = .ok (.isub, 1) := by decide +kernel
theorem d_L_checkBitsFor_18 : decode b_L_checkBitsFor 18 = .ok (.ishl, 1) := by decide +kernel
theorem d_L_checkBitsFor_19 : decode b_L_checkBitsFor 19 = .ok (.iload_n 1, 1) := by decide +kernel
theorem d_L_checkBitsFor_20 : decode b_L_checkBitsFor 20 = .ok (.isub, 1) := by decide +kernel
theorem d_L_checkBitsFor_21 : decode b_L_checkBitsFor 21 = .ok (.iload_n 0, 1) := by decide +kernel
theorem d_L_checkBitsFor_22 : decode b_L_checkBitsFor 22 = .ok (.if_icmp .ge 9, 3) := by decide +kernel
theorem d_L_checkBitsFor_25 : decode b_L_checkBitsFor 25 = .ok (.iinc 1 1, 3) := by decide +kernel
theorem d_L_checkBitsFor_28 : decode b_L_checkBitsFor 28 = .ok (.goto (-20), 3) := by decide +kernel
theorem d_L_checkBitsFor_31 : decode b_L_checkBitsFor 31 = .ok (.iload_n 1, 1) := by decide +kernel
theorem d_L_checkBitsFor_32 : decode b_L_checkBitsFor 32 = .ok (.ireturn, 1) := by decide +kernel
abbrev w_L_greatestSumWith : List Cond := .code y_L_greatestSumWith b_L_greatestSumWith 5 (some .int) :: wA
abbrev rm_L_greatestSumWith : Room := { frames := 0, cells := 0, slots := 0, locals := 0 }
theorem d_L_greatestSumWith_0 : decode b_L_greatestSumWith 0 = .ok (.iconst 0, 1) := by decide +kernel
theorem d_L_greatestSumWith_1 : decode b_L_greatestSumWith 1 = .ok (.istore_n 2, 1) := by decide +kernel
theorem d_L_greatestSumWith_2 : decode b_L_greatestSumWith 2 = .ok (.iconst 0, 1) := by decide +kernel
theorem d_L_greatestSumWith_3 : decode b_L_greatestSumWith 3 = .ok (.istore_n 3, 1) := by decide +kernel
theorem d_L_greatestSumWith_4 : decode b_L_greatestSumWith 4 = .ok (.iload_n 3, 1) := by decide +kernel
theorem d_L_greatestSumWith_5 : decode b_L_greatestSumWith 5 = .ok (.aload_n 0, 1) := by decide +kernel
theorem d_L_greatestSumWith_6 : decode b_L_greatestSumWith 6 = .ok (.arraylength, 1) := by decide +kernel
theorem d_L_greatestSumWith_7 : decode b_L_greatestSumWith 7 = .ok (.if_icmp .ge 33, 3) := by decide +kernel
theorem d_L_greatestSumWith_10 : decode b_L_greatestSumWith 10 = .ok (.aload_n 0, 1) := by decide +kernel
theorem d_L_greatestSumWith_11 : decode b_L_greatestSumWith 11 = .ok (.iload_n 3, 1) := by decide +kernel
theorem d_L_greatestSumWith_12 : decode b_L_greatestSumWith 12 = .ok (.iaload, 1) := by decide +kernel
theorem d_L_greatestSumWith_13 : decode b_L_greatestSumWith 13 = .ok (.iload_n 1, 1) := by decide +kernel
theorem d_L_greatestSumWith_14 : decode b_L_greatestSumWith 14 = .ok (.iload_n 3, 1) := by decide +kernel
theorem d_L_greatestSumWith_15 : decode b_L_greatestSumWith 15 = .ok (.iushr, 1) := by decide +kernel
theorem d_L_greatestSumWith_16 : decode b_L_greatestSumWith 16 = .ok (.iconst 1, 1) := by decide +kernel
theorem d_L_greatestSumWith_17 : decode b_L_greatestSumWith 17 = .ok (.iand, 1) := by decide +kernel
theorem d_L_greatestSumWith_18 : decode b_L_greatestSumWith 18 = .ok (.iadd, 1) := by decide +kernel
theorem d_L_greatestSumWith_19 : decode b_L_greatestSumWith 19 = .ok (.istore 4, 2) := by decide +kernel
theorem d_L_greatestSumWith_21 : decode b_L_greatestSumWith 21 = .ok (.iload 4, 2) := by decide +kernel
theorem d_L_greatestSumWith_23 : decode b_L_greatestSumWith 23 = .ok (.iload_n 2, 1) := by decide +kernel
theorem d_L_greatestSumWith_24 : decode b_L_greatestSumWith 24 = .ok (.if_icmp .le 8, 3) := by decide +kernel
theorem d_L_greatestSumWith_27 : decode b_L_greatestSumWith 27 = .ok (.iload 4, 2) := by decide +kernel
theorem d_L_greatestSumWith_29 : decode b_L_greatestSumWith 29 = .ok (.goto 4, 3) := by decide +kernel
theorem d_L_greatestSumWith_32 : decode b_L_greatestSumWith 32 = .ok (.iload_n 2, 1) := by decide +kernel
theorem d_L_greatestSumWith_33 : decode b_L_greatestSumWith 33 = .ok (.istore_n 2, 1) := by decide +kernel
theorem d_L_greatestSumWith_34 : decode b_L_greatestSumWith 34 = .ok (.iinc 3 1, 3) := by decide +kernel
theorem d_L_greatestSumWith_37 : decode b_L_greatestSumWith 37 = .ok (.goto (-33), 3) := by decide +kernel
theorem d_L_greatestSumWith_40 : decode b_L_greatestSumWith 40 = .ok (.iload_n 2, 1) := by decide +kernel
theorem d_L_greatestSumWith_41 : decode b_L_greatestSumWith 41 = .ok (.ireturn, 1) := by decide +kernel
abbrev w_L_addTo : List Cond := .code y_L_addTo b_L_addTo 3 none :: wA
abbrev rm_L_addTo : Room := { frames := 0, cells := 0, slots := 0, locals := 0 }
theorem d_L_addTo_0 : decode b_L_addTo 0 = .ok (.iconst 0, 1) := by decide +kernel
theorem d_L_addTo_1 : decode b_L_addTo 1 = .ok (.istore_n 2, 1) := by decide +kernel
theorem d_L_addTo_2 : decode b_L_addTo 2 = .ok (.iload_n 2, 1) := by decide +kernel
theorem d_L_addTo_3 : decode b_L_addTo 3 = .ok (.aload_n 0, 1) := by decide +kernel
theorem d_L_addTo_4 : decode b_L_addTo 4 = .ok (.arraylength, 1) := by decide +kernel
theorem d_L_addTo_5 : decode b_L_addTo 5 = .ok (.if_icmp .ge 20, 3) := by decide +kernel
theorem d_L_addTo_8 : decode b_L_addTo 8 = .ok (.aload_n 0, 1) := by decide +kernel
theorem d_L_addTo_9 : decode b_L_addTo 9 = .ok (.iload_n 2, 1) := by decide +kernel
theorem d_L_addTo_10 : decode b_L_addTo 10 = .ok (.dup2, 1) := by decide +kernel
theorem d_L_addTo_11 : decode b_L_addTo 11 = .ok (.iaload, 1) := by decide +kernel
theorem d_L_addTo_12 : decode b_L_addTo 12 = .ok (.iload_n 1, 1) := by decide +kernel
theorem d_L_addTo_13 : decode b_L_addTo 13 = .ok (.iload_n 2, 1) := by decide +kernel
theorem d_L_addTo_14 : decode b_L_addTo 14 = .ok (.iushr, 1) := by decide +kernel
theorem d_L_addTo_15 : decode b_L_addTo 15 = .ok (.iconst 1, 1) := by decide +kernel
theorem d_L_addTo_16 : decode b_L_addTo 16 = .ok (.iand, 1) := by decide +kernel
theorem d_L_addTo_17 : decode b_L_addTo 17 = .ok (.iadd, 1) := by decide +kernel
theorem d_L_addTo_18 : decode b_L_addTo 18 = .ok (.iastore, 1) := by decide +kernel
theorem d_L_addTo_19 : decode b_L_addTo 19 = .ok (.iinc 2 1, 3) := by decide +kernel
theorem d_L_addTo_22 : decode b_L_addTo 22 = .ok (.goto (-20), 3) := by decide +kernel
theorem d_L_addTo_25 : decode b_L_addTo 25 = .ok (.return_, 1) := by decide +kernel
abbrev w_JA_fill : List Cond := .code y_JA_fill b_JA_fill 4 none :: wA
abbrev rm_JA_fill : Room := { frames := 0, cells := 0, slots := 0, locals := 0 }
theorem d_JA_fill_0 : decode b_JA_fill 0 = .ok (.iconst 0, 1) := by decide +kernel
theorem d_JA_fill_1 : decode b_JA_fill 1 = .ok (.istore_n 2, 1) := by decide +kernel
theorem d_JA_fill_2 : decode b_JA_fill 2 = .ok (.aload_n 0, 1) := by decide +kernel
theorem d_JA_fill_3 : decode b_JA_fill 3 = .ok (.arraylength, 1) := by decide +kernel
theorem d_JA_fill_4 : decode b_JA_fill 4 = .ok (.istore_n 3, 1) := by decide +kernel
theorem d_JA_fill_5 : decode b_JA_fill 5 = .ok (.iload_n 2, 1) := by decide +kernel
theorem d_JA_fill_6 : decode b_JA_fill 6 = .ok (.iload_n 3, 1) := by decide +kernel
theorem d_JA_fill_7 : decode b_JA_fill 7 = .ok (.if_icmp .ge 13, 3) := by decide +kernel
theorem d_JA_fill_10 : decode b_JA_fill 10 = .ok (.aload_n 0, 1) := by decide +kernel
theorem d_JA_fill_11 : decode b_JA_fill 11 = .ok (.iload_n 2, 1) := by decide +kernel
theorem d_JA_fill_12 : decode b_JA_fill 12 = .ok (.iload_n 1, 1) := by decide +kernel
theorem d_JA_fill_13 : decode b_JA_fill 13 = .ok (.iastore, 1) := by decide +kernel
theorem d_JA_fill_14 : decode b_JA_fill 14 = .ok (.iinc 2 1, 3) := by decide +kernel
theorem d_JA_fill_17 : decode b_JA_fill 17 = .ok (.goto (-12), 3) := by decide +kernel
theorem d_JA_fill_20 : decode b_JA_fill 20 = .ok (.return_, 1) := by decide +kernel
set_option maxHeartbeats 4000000 in
set_option maxRecDepth 100000 in
theorem c_JM_min (l : Launch) (D : va_G) (g : Nat → ClassId) (sz : Nat) (ws : va_W) (a b : Nat) (ha : a < 2 ^ 31) (hq : b < 2 ^ 31) : Met l y_JM_min w_JM_min rm_JM_min (va_Pc [.int (nI a), .int (nI b)] (pP D (tyl g) (ws) sz)) (va_Qi (fun (r : Int32) (u : Unit) => r = nI (min a b)) (fun u => qB D (va_A (ws) sz) (ws)) (va_A (ws) sz)) 0 0 (va_A (ws) sz) := by
  refine va_MetF (cc := b_JM_min) (maxL := 2) (ret := (some .int)) (by decide +kernel) rfl ?_
  intro p e s m args below meth c s₁ Bq hml hv
  have hx := Bq.exec
  have hb := Bq.bytes
  have hr := Bq.returns
  have hts : ∀ w ∈ wA, w.before args s = true := fun w h => atoms_spec (ws := w_JM_min) Bq.pre w (List.mem_cons_of_mem _ h)
  have hown : s.vm.findClass R_JM = some m.cls := findClass_of_methodNamed Bq.named
  have hlocks := Bq.notSynchronized
  obtain ⟨rfl, hsz, hP, hKK, hD0⟩ := hv
  have hK := hKK.1
  subst hsz
  have hD := hD0.self (sz := s.heap.size)
  generalize hAe : va_A (ws) s.heap.size = A at hD ⊢
  have hA : ∀ q : Nat, s.heap.size ≤ q → A q := fun q h => by rw [← hAe]; exact Or.inr h
  have hS : va_S A s.heap s.heap [] := va_S.rf
  have hl := lv_entry ([.int (nI a), .int (nI b)]) (n := 2) (Nat.le_of_ble_eq_true rfl)
  rw [lg_entry_eq]
  generalize (lg_sl ([.int (nI a), .int (nI b)]) ++ List.replicate (2 - (lg_sl ([.int (nI a), .int (nI b)])).length) Slot.unset).toArray = ls at hl ⊢
  have hl : lv_has ls 2 [(0, .int (nI a)), (1, .int (nI b))] := hl
  generalize hQ : MQ below (va_Qi (fun (r : Int32) (u : Unit) => r = nI (min a b)) (fun u => qB D (A) (ws)) (A)) [.int (nI a), .int (nI b)].toArray s 0 0 A = Q
  refine lv_iload_n hx hb d_JM_min_0 rfl (lv_at hl 0 rfl) ?_
  refine lv_iload_n hx hb d_JM_min_1 rfl (lv_at hl 1 rfl) ?_
  refine lx_icmp_gt (tgt := 9) hx hb d_JM_min_2 (by decide) (by omega) (by omega) (fun c2 => ?_) (fun c2 => ?_)
  · skip
    refine lv_iload_n hx hb d_JM_min_9 rfl (lv_at hl 1 rfl) ?_
    rw [← hQ]
    refine W.iret (v := nI b) hx hb hr ?_ hS.2.2 d_JM_min_10
    exact fun t ht hW => ⟨⟨nI b, (), rfl, (by rw [show min a b = b by omega]), by rw [ht]; exact hP, hD⟩, hS.F ht⟩
  · skip
    refine lv_iload_n hx hb d_JM_min_5 rfl (lv_at hl 0 rfl) ?_
    refine lv_goto (tgt := 10) hx hb d_JM_min_6 (by decide) ?_
    rw [← hQ]
    refine W.iret (v := nI a) hx hb hr ?_ hS.2.2 d_JM_min_10
    exact fun t ht hW => ⟨⟨nI a, (), rfl, (by rw [show min a b = a by omega]), by rw [ht]; exact hP, hD⟩, hS.F ht⟩
set_option maxHeartbeats 4000000 in
set_option maxRecDepth 100000 in
theorem c_JM_max (l : Launch) (D : va_G) (g : Nat → ClassId) (sz : Nat) (ws : va_W) (a b : Nat) (ha : a < 2 ^ 31) (hq : b < 2 ^ 31) : Met l y_JM_max w_JM_max rm_JM_max (va_Pc [.int (nI a), .int (nI b)] (pP D (tyl g) (ws) sz)) (va_Qi (fun (r : Int32) (u : Unit) => r = nI (max a b)) (fun u => qB D (va_A (ws) sz) (ws)) (va_A (ws) sz)) 0 0 (va_A (ws) sz) := by
  refine va_MetF (cc := b_JM_max) (maxL := 2) (ret := (some .int)) (by decide +kernel) rfl ?_
  intro p e s m args below meth c s₁ Bq hml hv
  have hx := Bq.exec
  have hb := Bq.bytes
  have hr := Bq.returns
  have hts : ∀ w ∈ wA, w.before args s = true := fun w h => atoms_spec (ws := w_JM_max) Bq.pre w (List.mem_cons_of_mem _ h)
  have hown : s.vm.findClass R_JM = some m.cls := findClass_of_methodNamed Bq.named
  have hlocks := Bq.notSynchronized
  obtain ⟨rfl, hsz, hP, hKK, hD0⟩ := hv
  have hK := hKK.1
  subst hsz
  have hD := hD0.self (sz := s.heap.size)
  generalize hAe : va_A (ws) s.heap.size = A at hD ⊢
  have hA : ∀ q : Nat, s.heap.size ≤ q → A q := fun q h => by rw [← hAe]; exact Or.inr h
  have hS : va_S A s.heap s.heap [] := va_S.rf
  have hl := lv_entry ([.int (nI a), .int (nI b)]) (n := 2) (Nat.le_of_ble_eq_true rfl)
  rw [lg_entry_eq]
  generalize (lg_sl ([.int (nI a), .int (nI b)]) ++ List.replicate (2 - (lg_sl ([.int (nI a), .int (nI b)])).length) Slot.unset).toArray = ls at hl ⊢
  have hl : lv_has ls 2 [(0, .int (nI a)), (1, .int (nI b))] := hl
  generalize hQ : MQ below (va_Qi (fun (r : Int32) (u : Unit) => r = nI (max a b)) (fun u => qB D (A) (ws)) (A)) [.int (nI a), .int (nI b)].toArray s 0 0 A = Q
  refine lv_iload_n hx hb d_JM_max_0 rfl (lv_at hl 0 rfl) ?_
  refine lv_iload_n hx hb d_JM_max_1 rfl (lv_at hl 1 rfl) ?_
  refine lx_icmp_lt (tgt := 9) hx hb d_JM_max_2 (by decide) (by omega) (by omega) (fun c2 => ?_) (fun c2 => ?_)
  · skip
    refine lv_iload_n hx hb d_JM_max_9 rfl (lv_at hl 1 rfl) ?_
    rw [← hQ]
    refine W.iret (v := nI b) hx hb hr ?_ hS.2.2 d_JM_max_10
    exact fun t ht hW => ⟨⟨nI b, (), rfl, (by rw [show max a b = b by omega]), by rw [ht]; exact hP, hD⟩, hS.F ht⟩
  · skip
    refine lv_iload_n hx hb d_JM_max_5 rfl (lv_at hl 0 rfl) ?_
    refine lv_goto (tgt := 10) hx hb d_JM_max_6 (by decide) ?_
    rw [← hQ]
    refine W.iret (v := nI a) hx hb hr ?_ hS.2.2 d_JM_max_10
    exact fun t ht hW => ⟨⟨nI a, (), rfl, (by rw [show max a b = a by omega]), by rw [ht]; exact hP, hD⟩, hS.F ht⟩
set_option maxHeartbeats 4000000 in
set_option maxRecDepth 100000 in
theorem c_L_checkBitsFor (l : Launch) (D : va_G) (g : Nat → ClassId) (sz : Nat) (ws : va_W) (b : Nat) (hq : b ≤ 57) : Met l y_L_checkBitsFor w_L_checkBitsFor rm_L_checkBitsFor (va_Pc [.int (nI b)] (pP D (tyl g) (ws) sz)) (va_Qi (fun (r : Int32) (u : Unit) => r = nI (lr b)) (fun u => qB D (va_A (ws) sz) (ws)) (va_A (ws) sz)) 0 0 (va_A (ws) sz) := by
  refine Met.ofW (cc := b_L_checkBitsFor) (maxL := 2) (ret := (some .int)) (by decide +kernel) rfl ?_
  intro p e s m args below meth c s₁ Bq hml hv
  have hx := Bq.exec
  have hb := Bq.bytes
  have hr := Bq.returns
  have hts : ∀ w ∈ wA, w.before args s = true := fun w h => atoms_spec (ws := w_L_checkBitsFor) Bq.pre w (List.mem_cons_of_mem _ h)
  have hown : s.vm.findClass R_L = some m.cls := findClass_of_methodNamed Bq.named
  have hlocks := Bq.notSynchronized
  obtain ⟨rfl, hsz, hP, hKK, hD0⟩ := hv
  have hK := hKK.1
  subst hsz
  have hD := hD0.self (sz := s.heap.size)
  generalize hAe : va_A (ws) s.heap.size = A at hD ⊢
  have hA : ∀ q : Nat, s.heap.size ≤ q → A q := fun q h => by rw [← hAe]; exact Or.inr h
  have hS : va_S A s.heap s.heap [] := va_S.rf
  have hl := lv_entry ([.int (nI b)]) (n := 2) (Nat.le_of_ble_eq_true rfl)
  rw [lg_entry_eq]
  generalize (lg_sl ([.int (nI b)]) ++ List.replicate (2 - (lg_sl ([.int (nI b)])).length) Slot.unset).toArray = ls at hl ⊢
  have hl : lv_has ls 2 [(0, .int (nI b))] := hl
  generalize hQ : MQ below (va_Qi (fun (r : Int32) (u : Unit) => r = nI (lr b)) (fun u => qB D (A) (ws)) (A)) [.int (nI b)].toArray s 0 0 A = Q
  refine lv_iload_n hx hb d_L_checkBitsFor_0 rfl (lv_at hl 0 rfl) ?_
  refine lx_if_ne (tgt := 6) hx hb d_L_checkBitsFor_1 (by decide) (by omega) (fun c1 => ?_) (fun c1 => ?_)
  · skip
    have lp8 : ∀ (n : Nat) (k : Nat) (ls : Array Slot) (H : Heap) (locs : List Loc), (8 ≤ k + n) → (k = 4 ∨ k = 5 ∨ k = 6 ∨ k = 7) → ((k ≤ 4 ∨ 4 < b) ∧ (k ≤ 5 ∨ 11 < b) ∧ (k ≤ 6 ∨ 26 < b)) → lv_has ls 2 [(0, .int (nI b)), (1, .int (nI k))] → va_P D vwCl (ws) H → va_D A (ws) → va_S A s.heap H locs → W p l e (headSpec w_L_checkBitsFor rm_L_checkBitsFor).room s m [.int (nI b)].toArray below meth c H locs 0 0 Q (F0 m 8 ls []) := by
      intro n
      induction n with
      | zero => intro k ls H locs hfu h47 hlow _ _ _ _; exact absurd hfu (by omega)
      | succ n ih =>
        intro k ls H locs hfu h47 hlow hl hP hD hS
        refine lv_iload_n hx hb d_L_checkBitsFor_8 rfl (lv_at hl 1 rfl) ?_
        refine lv_bipush (v := nI 7) hx hb d_L_checkBitsFor_9 (by decide) ?_
        refine lx_icmp_ge (tgt := 31) hx hb d_L_checkBitsFor_11 (by decide) (by omega) (by omega) (fun c11 => ?_) (fun c11 => ?_)
        · skip
          refine lv_iload_n hx hb d_L_checkBitsFor_31 rfl (lv_at hl 1 rfl) ?_
          rw [← hQ]
          refine W.iret (v := nI k) hx hb hr ?_ hS.2.2 d_L_checkBitsFor_32
          exact fun t ht hW => ⟨⟨nI k, (), rfl, lr_stop c1 h47 hlow (Or.inl (by omega)), by rw [ht]; exact hP, hD⟩, hS.F ht⟩
        · skip
          refine lv_iconst (v := nI 1) hx hb d_L_checkBitsFor_14 (by decide) ?_
          refine lv_iload_n hx hb d_L_checkBitsFor_15 rfl (lv_at hl 1 rfl) ?_
          refine lv_iconst (v := nI 1) hx hb d_L_checkBitsFor_16 (by decide) ?_
          refine lx_isub (z := nI (k - 1)) hx hb d_L_checkBitsFor_17 (pk_sub (by omega)) ?_
          refine lx_ishl (z := nI (1 <<< (k - 1))) hx hb d_L_checkBitsFor_18 (xn_shl 1 (by omega)) ?_
          refine lv_iload_n hx hb d_L_checkBitsFor_19 rfl (lv_at hl 1 rfl) ?_
          refine lx_isub (z := nI (1 <<< (k - 1) - k)) hx hb d_L_checkBitsFor_20 (pk_sub (by rcases h47 with rfl | rfl | rfl | rfl <;> decide)) ?_
          refine lv_iload_n hx hb d_L_checkBitsFor_21 rfl (lv_at hl 0 rfl) ?_
          have hs : 1 <<< (k - 1) - k < 2 ^ 31 := by rcases h47 with rfl | rfl | rfl | rfl <;> decide
          refine lx_icmp_ge (tgt := 31) hx hb d_L_checkBitsFor_22 (by decide) (by omega) (by omega) (fun c22 => ?_) (fun c22 => ?_)
          · skip
            refine lv_iload_n hx hb d_L_checkBitsFor_31 rfl (lv_at hl 1 rfl) ?_
            rw [← hQ]
            refine W.iret (v := nI k) hx hb hr ?_ hS.2.2 d_L_checkBitsFor_32
            exact fun t ht hW => ⟨⟨nI k, (), rfl, lr_stop c1 h47 hlow (Or.inr c22), by rw [ht]; exact hP, hD⟩, hS.F ht⟩
          · skip
            refine lv_iinc (v := nI (k + 1)) (lv' := [(1, .int (nI (k + 1))), (0, .int (nI b))]) hx hb d_L_checkBitsFor_25 hl (k := 1) rfl (nI_1 k) (by decide) rfl (fun ls hl => ?_)
            refine lv_goto (tgt := 8) hx hb d_L_checkBitsFor_28 (by decide) ?_
            exact ih (k + 1) _ _ _ (by omega) (by omega) (by rcases h47 with rfl | rfl | rfl | rfl <;> (simp at c22 hlow ⊢) <;> omega) (lv_sub hl [1, 0] rfl) hP hD hS
    refine lv_iconst (v := nI 4) hx hb d_L_checkBitsFor_6 (by decide) ?_
    refine lv_istore_n (lv' := [(1, .int (nI 4)), (0, .int (nI b))]) hx hb d_L_checkBitsFor_7 rfl hl (by decide) rfl (fun ls hl => ?_)
    exact lp8 4 4 _ _ _ (by omega) (by omega) (by omega) (lv_sub hl [1, 0] rfl) hP hD hS
  · skip
    refine lv_iconst (v := nI 0) hx hb d_L_checkBitsFor_4 (by decide) ?_
    rw [← hQ]
    refine W.iret (v := nI 0) hx hb hr ?_ hS.2.2 d_L_checkBitsFor_5
    exact fun t ht hW => ⟨⟨nI 0, (), rfl, (by rw [c1]; rfl), by rw [ht]; exact hP, hD⟩, hS.F ht⟩
set_option maxHeartbeats 4000000 in
set_option maxRecDepth 100000 in
theorem c_L_greatestSumWith (l : Launch) (D : va_G) (g : Nat → ClassId) (sz : Nat) (ws : va_W) (k0 a n0 : Nat) (f : Nat → Nat) (c0 : Nat) (h0 : ws[k0]? = some (a, .inl (g 0, n0, .inl (fun k => nI (f k))))) (hn0 : n0 ≤ 32) (hf : ∀ k, k < n0 → f k < 2 ^ 20) (hc0 : c0 < 2 ^ 31) : Met l y_L_greatestSumWith w_L_greatestSumWith rm_L_greatestSumWith (va_Pc [.ref a, .int (nI c0)] (pP D (tyl g) (ws) sz)) (va_Qi (fun (r : Int32) (u : Unit) => r = nI (gs f c0 n0)) (fun u => qB D (va_A (ws) sz) (ws)) (va_A (ws) sz)) 0 0 (va_A (ws) sz) := by
  refine Met.ofW (cc := b_L_greatestSumWith) (maxL := 5) (ret := (some .int)) (by decide +kernel) rfl ?_
  intro p e s m args below meth c s₁ Bq hml hv
  have hx := Bq.exec
  have hb := Bq.bytes
  have hr := Bq.returns
  have hts : ∀ w ∈ wA, w.before args s = true := fun w h => atoms_spec (ws := w_L_greatestSumWith) Bq.pre w (List.mem_cons_of_mem _ h)
  have hown : s.vm.findClass R_L = some m.cls := findClass_of_methodNamed Bq.named
  have hlocks := Bq.notSynchronized
  obtain ⟨rfl, hsz, hP, hKK, hD0⟩ := hv
  have hK := hKK.1
  subst hsz
  have hD := hD0.self (sz := s.heap.size)
  generalize hAe : va_A (ws) s.heap.size = A at hD ⊢
  have hA : ∀ q : Nat, s.heap.size ≤ q → A q := fun q h => by rw [← hAe]; exact Or.inr h
  have hS : va_S A s.heap s.heap [] := va_S.rf
  have hl := lv_entry ([.ref a, .int (nI c0)]) (n := 5) (Nat.le_of_ble_eq_true rfl)
  rw [lg_entry_eq]
  generalize (lg_sl ([.ref a, .int (nI c0)]) ++ List.replicate (5 - (lg_sl ([.ref a, .int (nI c0)])).length) Slot.unset).toArray = ls at hl ⊢
  have hl : lv_has ls 5 [(0, .ref a), (1, .int (nI c0))] := hl
  generalize hQ : MQ below (va_Qi (fun (r : Int32) (u : Unit) => r = nI (gs f c0 n0)) (fun u => qB D (A) (ws)) (A)) [.ref a, .int (nI c0)].toArray s 0 0 A = Q
  have lp4 : ∀ (n : Nat) (k : Nat) (ls : Array Slot) (H : Heap) (locs : List Loc), (n0 + 1 ≤ k + n) → (k ≤ n0) → (gs f c0 k < 2 ^ 21) → lv_has ls 5 [(0, .ref a), (1, .int (nI c0)), (2, .int (nI (gs f c0 k))), (3, .int (nI k))] → va_P D vwCl (ws) H → va_D A (ws) → va_S A s.heap H locs → W p l e (headSpec w_L_greatestSumWith rm_L_greatestSumWith).room s m [.ref a, .int (nI c0)].toArray below meth c H locs 0 0 Q (F0 m 4 ls []) := by
    intro n
    induction n with
    | zero => intro k ls H locs hfu hk hg _ _ _ _; exact absurd hfu (by omega)
    | succ n ih =>
      intro k ls H locs hfu hk hg hl hP hD hS
      refine lv_iload_n hx hb d_L_greatestSumWith_4 rfl (lv_at hl 3 rfl) ?_
      refine lv_aload_n hx hb d_L_greatestSumWith_5 rfl (lv_at hl 0 rfl) ?_
      refine va_alen hx hb hK hP k0 0 h0 (v := nI n0) rfl (rfl) d_L_greatestSumWith_6 ?_
      refine lx_icmp_ge (tgt := 40) hx hb d_L_greatestSumWith_7 (by decide) (by omega) (by omega) (fun c7 => ?_) (fun c7 => ?_)
      · skip
        obtain rfl : k = n0 := by omega
        refine lv_iload_n hx hb d_L_greatestSumWith_40 rfl (lv_at hl 2 rfl) ?_
        rw [← hQ]
        refine W.iret (v := nI (gs f c0 k)) hx hb hr ?_ hS.2.2 d_L_greatestSumWith_41
        exact fun t ht hW => ⟨⟨nI (gs f c0 k), (), rfl, rfl, by rw [ht]; exact hP, hD⟩, hS.F ht⟩
      · skip
        have hfk := hf k c7
        have hq : f k + c0 >>> k % 2 < 2 ^ 21 := by omega
        have j33 : ∀  (ls : Array Slot) (H : Heap) (locs : List Loc), lv_has ls 5 [(0, .ref a), (1, .int (nI c0)), (3, .int (nI k))] → va_P D vwCl (ws) H → va_D A (ws) → va_S A s.heap H locs → W p l e (headSpec w_L_greatestSumWith rm_L_greatestSumWith).room s m [.ref a, .int (nI c0)].toArray below meth c H locs 0 0 Q (F0 m 33 ls [.int (nI (gs f c0 (k + 1)))]) := by
          intro  ls H locs  hl hP hD hS
          refine lv_istore_n (lv' := [(2, .int (nI (gs f c0 (k + 1)))), (0, .ref a), (1, .int (nI c0)), (3, .int (nI k))]) hx hb d_L_greatestSumWith_33 rfl hl (by decide) rfl (fun ls hl => ?_)
          refine lv_iinc (v := nI (k + 1)) (lv' := [(3, .int (nI (k + 1))), (2, .int (nI (gs f c0 (k + 1)))), (0, .ref a), (1, .int (nI c0))]) hx hb d_L_greatestSumWith_34 hl (k := 3) rfl (nI_1 k) (by decide) rfl (fun ls hl => ?_)
          refine lv_goto (tgt := 4) hx hb d_L_greatestSumWith_37 (by decide) ?_
          exact ih (k + 1) _ _ _ (by omega) (by omega) (Nat.max_lt.mpr ⟨hg, hq⟩) (lv_sub hl [2, 3, 1, 0] rfl) hP hD hS
        refine lv_aload_n hx hb d_L_greatestSumWith_10 rfl (lv_at hl 0 rfl) ?_
        refine lv_iload_n hx hb d_L_greatestSumWith_11 rfl (lv_at hl 3 rfl) ?_
        refine lx_iald (v := nI (f k)) hx hb hK hP k0 0 h0 rfl (j := k) (by omega) (by omega) (rfl) d_L_greatestSumWith_12 ?_
        refine lv_iload_n hx hb d_L_greatestSumWith_13 rfl (lv_at hl 1 rfl) ?_
        refine lv_iload_n hx hb d_L_greatestSumWith_14 rfl (lv_at hl 3 rfl) ?_
        refine lv_iushr (v := nI (c0 >>> k)) hx hb d_L_greatestSumWith_15 (xn_ushr (by omega) (by omega)) ?_
        refine lv_iconst (v := nI 1) hx hb d_L_greatestSumWith_16 (by decide) ?_
        refine lx_iand (z := nI (c0 >>> k % 2)) hx hb d_L_greatestSumWith_17 ((xn_and _ _).trans (by rw [Nat.and_one_is_mod])) ?_
        refine lx_iadd (z := nI (f k + (c0 >>> k % 2))) hx hb d_L_greatestSumWith_18 (nI_add (f k) (c0 >>> k % 2)) ?_
        refine lv_istore (lv' := [(4, .int (nI (f k + (c0 >>> k % 2)))), (0, .ref a), (1, .int (nI c0)), (2, .int (nI (gs f c0 k))), (3, .int (nI k))]) hx hb d_L_greatestSumWith_19 hl (by decide) rfl (fun ls hl => ?_)
        refine lv_iload hx hb d_L_greatestSumWith_21 (lv_at hl 0 rfl) ?_
        refine lv_iload_n hx hb d_L_greatestSumWith_23 rfl (lv_at hl 3 rfl) ?_
        refine lx_icmp_le (tgt := 32) hx hb d_L_greatestSumWith_24 (by decide) (by omega) (by omega) (fun c24 => ?_) (fun c24 => ?_)
        · skip
          refine lv_iload_n hx hb d_L_greatestSumWith_32 rfl (lv_at hl 3 rfl) ?_
          have e9 : gs f c0 (k + 1) = gs f c0 k := by show max _ _ = _; omega
          rw [← e9]
          exact j33  _ _ _  (lv_sub hl [1, 2, 4] rfl) hP hD hS
        · skip
          refine lv_iload hx hb d_L_greatestSumWith_27 (lv_at hl 0 rfl) ?_
          refine lv_goto (tgt := 33) hx hb d_L_greatestSumWith_29 (by decide) ?_
          have e9 : gs f c0 (k + 1) = f k + c0 >>> k % 2 := by show max _ _ = _; omega
          rw [← e9]
          exact j33  _ _ _  (lv_sub hl [1, 2, 4] rfl) hP hD hS
  refine lv_iconst (v := nI 0) hx hb d_L_greatestSumWith_0 (by decide) ?_
  refine lv_istore_n (lv' := [(2, .int (nI 0)), (0, .ref a), (1, .int (nI c0))]) hx hb d_L_greatestSumWith_1 rfl hl (by decide) rfl (fun ls hl => ?_)
  refine lv_iconst (v := nI 0) hx hb d_L_greatestSumWith_2 (by decide) ?_
  refine lv_istore_n (lv' := [(3, .int (nI 0)), (2, .int (nI 0)), (0, .ref a), (1, .int (nI c0))]) hx hb d_L_greatestSumWith_3 rfl hl (by decide) rfl (fun ls hl => ?_)
  exact lp4 (n0 + 1) 0 _ _ _ (by omega) (by omega) (by show 0 < 2 ^ 21; decide) (lv_sub hl [2, 3, 1, 0] rfl) hP hD hS
set_option maxHeartbeats 4000000 in
set_option maxRecDepth 100000 in
theorem c_L_addTo (l : Launch) (D : va_G) (g : Nat → ClassId) (sz : Nat) (wr : va_W) (a n0 : Nat) (f : Nat → Nat) (c0 : Nat) (hn0 : n0 ≤ 32) (hc0 : c0 < 2 ^ 31) : Met l y_L_addTo w_L_addTo rm_L_addTo (va_Pc [.ref a, .int (nI c0)] (pP D (tyl g) ((a, .inl (g 0, n0, .inl (fun k => nI (f k)))) :: wr) sz)) (va_Qv (fun (u : Unit) => True) (fun u => qB D (va_A ((a, .inl (g 0, n0, .inl (fun k => nI (f k)))) :: wr) sz) ((a, .inl (g 0, n0, .inl (fun j => nI (if j < n0 then f j + c0 >>> j % 2 else f j)))) :: wr)) (va_A ((a, .inl (g 0, n0, .inl (fun k => nI (f k)))) :: wr) sz)) 0 0 (va_A ((a, .inl (g 0, n0, .inl (fun k => nI (f k)))) :: wr) sz) := by
  refine Met.ofW (cc := b_L_addTo) (maxL := 3) (ret := none) (by decide +kernel) rfl ?_
  intro p e s m args below meth c s₁ Bq hml hv
  have hx := Bq.exec
  have hb := Bq.bytes
  have hr := Bq.returns
  have hts : ∀ w ∈ wA, w.before args s = true := fun w h => atoms_spec (ws := w_L_addTo) Bq.pre w (List.mem_cons_of_mem _ h)
  have hown : s.vm.findClass R_L = some m.cls := findClass_of_methodNamed Bq.named
  have hlocks := Bq.notSynchronized
  obtain ⟨rfl, hsz, hP, hKK, hD0⟩ := hv
  have hK := hKK.1
  subst hsz
  have hD := hD0.self (sz := s.heap.size)
  generalize hAe : va_A ((a, .inl (g 0, n0, .inl (fun k => nI (f k)))) :: wr) s.heap.size = A at hD ⊢
  have hA : ∀ q : Nat, s.heap.size ≤ q → A q := fun q h => by rw [← hAe]; exact Or.inr h
  have hS : va_S A s.heap s.heap [] := va_S.rf
  have hl := lv_entry ([.ref a, .int (nI c0)]) (n := 3) (Nat.le_of_ble_eq_true rfl)
  rw [lg_entry_eq]
  generalize (lg_sl ([.ref a, .int (nI c0)]) ++ List.replicate (3 - (lg_sl ([.ref a, .int (nI c0)])).length) Slot.unset).toArray = ls at hl ⊢
  have hl : lv_has ls 3 [(0, .ref a), (1, .int (nI c0))] := hl
  generalize hQ : MQ below (va_Qv (fun (u : Unit) => True) (fun u => qB D (A) ((a, .inl (g 0, n0, .inl (fun j => nI (if j < n0 then f j + c0 >>> j % 2 else f j)))) :: wr)) (A)) [.ref a, .int (nI c0)].toArray s 0 0 A = Q
  have lp2 : ∀ (n : Nat) (k : Nat) (ls : Array Slot) (H : Heap) (locs : List Loc), (n0 + 1 ≤ k + n) → (k ≤ n0) → lv_has ls 3 [(0, .ref a), (1, .int (nI c0)), (2, .int (nI k))] → va_P D vwCl ((a, .inl (g 0, n0, .inl (fun j => nI (if j < k then f j + c0 >>> j % 2 else f j)))) :: wr) H → va_D A ((a, .inl (g 0, n0, .inl (fun j => nI (if j < k then f j + c0 >>> j % 2 else f j)))) :: wr) → va_S A s.heap H locs → W p l e (headSpec w_L_addTo rm_L_addTo).room s m [.ref a, .int (nI c0)].toArray below meth c H locs 0 0 Q (F0 m 2 ls []) := by
    intro n
    induction n with
    | zero => intro k ls H locs hfu hk _ _ _ _; exact absurd hfu (by omega)
    | succ n ih =>
      intro k ls H locs hfu hk hl hP hD hS
      refine lv_iload_n hx hb d_L_addTo_2 rfl (lv_at hl 2 rfl) ?_
      refine lv_aload_n hx hb d_L_addTo_3 rfl (lv_at hl 0 rfl) ?_
      refine va_alen hx hb hK hP 0 0 rfl (v := nI n0) rfl (rfl) d_L_addTo_4 ?_
      refine lx_icmp_ge (tgt := 25) hx hb d_L_addTo_5 (by decide) (by omega) (by omega) (fun c5 => ?_) (fun c5 => ?_)
      · skip
        obtain rfl : k = n0 := by omega
        rw [← hQ]
        refine W.vret hx hb hr ?_ hS.2.2 d_L_addTo_25
        exact fun t ht hW => ⟨⟨(), rfl, trivial, by rw [ht]; exact hP, hD⟩, hS.F ht⟩
      · skip
        refine lv_aload_n hx hb d_L_addTo_8 rfl (lv_at hl 0 rfl) ?_
        refine lv_iload_n hx hb d_L_addTo_9 rfl (lv_at hl 2 rfl) ?_
        refine lv_dup2_11 hx hb d_L_addTo_10 rfl rfl ?_
        refine lx_iald (v := nI (f k)) hx hb hK hP 0 0 rfl rfl (j := k) (by omega) (by omega) (by rw [if_neg (Nat.lt_irrefl k)]) d_L_addTo_11 ?_
        refine lv_iload_n hx hb d_L_addTo_12 rfl (lv_at hl 1 rfl) ?_
        refine lv_iload_n hx hb d_L_addTo_13 rfl (lv_at hl 2 rfl) ?_
        refine lv_iushr (v := nI (c0 >>> k)) hx hb d_L_addTo_14 (xn_ushr (by omega) (by omega)) ?_
        refine lv_iconst (v := nI 1) hx hb d_L_addTo_15 (by decide) ?_
        refine lx_iand (z := nI (c0 >>> k % 2)) hx hb d_L_addTo_16 ((xn_and _ _).trans (by rw [Nat.and_one_is_mod])) ?_
        refine lx_iadd (z := nI (f k + (c0 >>> k % 2))) hx hb d_L_addTo_17 (nI_add (f k) (c0 >>> k % 2)) ?_
        refine lx_iast (f' := fun j => nI (if j < k + 1 then f j + c0 >>> j % 2 else f j)) hx hb hK hP hD hS 0 0 rfl rfl (j := k) (by omega) (by omega) (upd_lt _ _ _) d_L_addTo_18 (fun H locs hP hD hS => ?_)
        have hP : va_P D vwCl ((a, .inl (g 0, n0, .inl (fun j => nI (if j < k + 1 then f j + c0 >>> j % 2 else f j)))) :: wr) H := hP
        have hD : va_D A ((a, .inl (g 0, n0, .inl (fun j => nI (if j < k + 1 then f j + c0 >>> j % 2 else f j)))) :: wr) := hD
        refine lv_iinc (v := nI (k + 1)) (lv' := [(2, .int (nI (k + 1))), (0, .ref a), (1, .int (nI c0))]) hx hb d_L_addTo_19 hl (k := 2) rfl (nI_1 k) (by decide) rfl (fun ls hl => ?_)
        refine lv_goto (tgt := 2) hx hb d_L_addTo_22 (by decide) ?_
        exact ih (k + 1) _ _ _ (by omega) (by omega) (lv_sub hl [1, 2, 0] rfl) hP hD hS
  refine lv_iconst (v := nI 0) hx hb d_L_addTo_0 (by decide) ?_
  refine lv_istore_n (lv' := [(2, .int (nI 0)), (0, .ref a), (1, .int (nI c0))]) hx hb d_L_addTo_1 rfl hl (by decide) rfl (fun ls hl => ?_)
  have hP : va_P D vwCl ((a, .inl (g 0, n0, .inl (fun j => nI (if j < 0 then f j + c0 >>> j % 2 else f j)))) :: wr) s.heap := by simpa using hP
  have hD : va_D A ((a, .inl (g 0, n0, .inl (fun j => nI (if j < 0 then f j + c0 >>> j % 2 else f j)))) :: wr) := by simpa using hD
  exact lp2 (n0 + 1) 0 _ _ _ (by omega) (by omega) (lv_sub hl [1, 2, 0] rfl) hP hD hS
set_option maxHeartbeats 4000000 in
set_option maxRecDepth 100000 in
theorem c_JA_fill (l : Launch) (D : va_G) (g : Nat → ClassId) (sz : Nat) (wr : va_W) (a n0 : Nat) (f : Nat → Int32) (v : Int32) (hn0 : n0 < 2 ^ 20) : Met l y_JA_fill w_JA_fill rm_JA_fill (va_Pc [.ref a, .int (v)] (pP D (tyl g) ((a, .inl (g 0, n0, .inl (f))) :: wr) sz)) (va_Qv (fun (u : Unit) => True) (fun u => qB D (va_A ((a, .inl (g 0, n0, .inl (f))) :: wr) sz) ((a, .inl (g 0, n0, .inl (fun j => if j < n0 then v else f j))) :: wr)) (va_A ((a, .inl (g 0, n0, .inl (f))) :: wr) sz)) 0 0 (va_A ((a, .inl (g 0, n0, .inl (f))) :: wr) sz) := by
  refine va_MetF (cc := b_JA_fill) (maxL := 4) (ret := none) (by decide +kernel) rfl ?_
  intro p e s m args below meth c s₁ Bq hml hv
  have hx := Bq.exec
  have hb := Bq.bytes
  have hr := Bq.returns
  have hts : ∀ w ∈ wA, w.before args s = true := fun w h => atoms_spec (ws := w_JA_fill) Bq.pre w (List.mem_cons_of_mem _ h)
  have hown : s.vm.findClass R_JA = some m.cls := findClass_of_methodNamed Bq.named
  have hlocks := Bq.notSynchronized
  obtain ⟨rfl, hsz, hP, hKK, hD0⟩ := hv
  have hK := hKK.1
  subst hsz
  have hD := hD0.self (sz := s.heap.size)
  generalize hAe : va_A ((a, .inl (g 0, n0, .inl (f))) :: wr) s.heap.size = A at hD ⊢
  have hA : ∀ q : Nat, s.heap.size ≤ q → A q := fun q h => by rw [← hAe]; exact Or.inr h
  have hS : va_S A s.heap s.heap [] := va_S.rf
  have hl := lv_entry ([.ref a, .int (v)]) (n := 4) (Nat.le_of_ble_eq_true rfl)
  rw [lg_entry_eq]
  generalize (lg_sl ([.ref a, .int (v)]) ++ List.replicate (4 - (lg_sl ([.ref a, .int (v)])).length) Slot.unset).toArray = ls at hl ⊢
  have hl : lv_has ls 4 [(0, .ref a), (1, .int (v))] := hl
  generalize hQ : MQ below (va_Qv (fun (u : Unit) => True) (fun u => qB D (A) ((a, .inl (g 0, n0, .inl (fun j => if j < n0 then v else f j))) :: wr)) (A)) [.ref a, .int (v)].toArray s 0 0 A = Q
  have lp5 : ∀ (n : Nat) (k : Nat) (ls : Array Slot) (H : Heap) (locs : List Loc), (n0 + 1 ≤ k + n) → (k ≤ n0) → lv_has ls 4 [(0, .ref a), (1, .int (v)), (2, .int (nI k)), (3, .int (nI n0))] → va_P D vwCl ((a, .inl (g 0, n0, .inl (fun j => if j < k then v else f j))) :: wr) H → va_D A ((a, .inl (g 0, n0, .inl (fun j => if j < k then v else f j))) :: wr) → va_S A s.heap H locs → W p l e (headSpec w_JA_fill rm_JA_fill).room s m [.ref a, .int (v)].toArray below meth c H locs 0 0 Q (F0 m 5 ls []) := by
    intro n
    induction n with
    | zero => intro k ls H locs hfu hk _ _ _ _; exact absurd hfu (by omega)
    | succ n ih =>
      intro k ls H locs hfu hk hl hP hD hS
      refine lv_iload_n hx hb d_JA_fill_5 rfl (lv_at hl 2 rfl) ?_
      refine lv_iload_n hx hb d_JA_fill_6 rfl (lv_at hl 3 rfl) ?_
      refine lx_icmp_ge (tgt := 20) hx hb d_JA_fill_7 (by decide) (by omega) (by omega) (fun c7 => ?_) (fun c7 => ?_)
      · skip
        obtain rfl : k = n0 := by omega
        rw [← hQ]
        refine W.vret hx hb hr ?_ hS.2.2 d_JA_fill_20
        exact fun t ht hW => ⟨⟨(), rfl, trivial, by rw [ht]; exact hP, hD⟩, hS.F ht⟩
      · skip
        refine lv_aload_n hx hb d_JA_fill_10 rfl (lv_at hl 0 rfl) ?_
        refine lv_iload_n hx hb d_JA_fill_11 rfl (lv_at hl 2 rfl) ?_
        refine lv_iload_n hx hb d_JA_fill_12 rfl (lv_at hl 1 rfl) ?_
        refine lx_iast (f' := fun j => if j < k + 1 then v else f j) hx hb hK hP hD hS 0 0 rfl rfl (j := k) (by omega) (by omega) (upd_fill _ _ _) d_JA_fill_13 (fun H locs hP hD hS => ?_)
        have hP : va_P D vwCl ((a, .inl (g 0, n0, .inl (fun j => if j < k + 1 then v else f j))) :: wr) H := hP
        have hD : va_D A ((a, .inl (g 0, n0, .inl (fun j => if j < k + 1 then v else f j))) :: wr) := hD
        refine lv_iinc (v := nI (k + 1)) (lv' := [(2, .int (nI (k + 1))), (0, .ref a), (1, .int (v)), (3, .int (nI n0))]) hx hb d_JA_fill_14 hl (k := 2) rfl (nI_1 k) (by decide) rfl (fun ls hl => ?_)
        refine lv_goto (tgt := 5) hx hb d_JA_fill_17 (by decide) ?_
        exact ih (k + 1) _ _ _ (by omega) (by omega) (lv_sub hl [1, 2, 0, 3] rfl) hP hD hS
  refine lv_iconst (v := nI 0) hx hb d_JA_fill_0 (by decide) ?_
  refine lv_istore_n (lv' := [(2, .int (nI 0)), (0, .ref a), (1, .int (v))]) hx hb d_JA_fill_1 rfl hl (by decide) rfl (fun ls hl => ?_)
  refine lv_aload_n hx hb d_JA_fill_2 rfl (lv_at hl 1 rfl) ?_
  refine va_alen hx hb hK hP 0 0 rfl (v := nI n0) rfl (rfl) d_JA_fill_3 ?_
  refine lv_istore_n (lv' := [(3, .int (nI n0)), (2, .int (nI 0)), (0, .ref a), (1, .int (v))]) hx hb d_JA_fill_4 rfl hl (by decide) rfl (fun ls hl => ?_)
  have hP : va_P D vwCl ((a, .inl (g 0, n0, .inl (fun j => if j < 0 then v else f j))) :: wr) s.heap := by simpa using hP
  have hD : va_D A ((a, .inl (g 0, n0, .inl (fun j => if j < 0 then v else f j))) :: wr) := by simpa using hD
  exact lp5 (n0 + 1) 0 _ _ _ (by omega) (by omega) (lv_sub hl [2, 3, 1, 0] rfl) hP hD hS
