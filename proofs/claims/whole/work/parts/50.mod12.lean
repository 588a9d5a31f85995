set_option maxRecDepth 20000 in
theorem m_737 : Cond.code y_M_reading b_M_reading 5 (some .int) ∈ wA := in_wA (List.mem_of_getElem? (i := 737) rfl) rfl
set_option maxRecDepth 20000 in
theorem m_734 : Cond.methodLink R_M 128 y_M_reading ∈ wA := in_wA (List.mem_of_getElem? (i := 734) rfl) rfl
set_option maxRecDepth 20000 in
theorem m_736 : Cond.instanceMethod y_M_reading ∈ wA := in_wA (List.mem_of_getElem? (i := 736) rfl) rfl
set_option maxRecDepth 20000 in
theorem m_21 : Cond.selects R_M y_M_reading y_M_reading ∈ wA := in_wA (List.mem_of_getElem? (i := 21) rfl) rfl
set_option maxRecDepth 20000 in
theorem m_774 : Cond.code y_M_answerTo b_M_answerTo 6 (some .int) ∈ wA := in_wA (List.mem_of_getElem? (i := 774) rfl) rfl
set_option maxRecDepth 20000 in
theorem m_771 : Cond.methodLink R_M 124 y_M_answerTo ∈ wA := in_wA (List.mem_of_getElem? (i := 771) rfl) rfl
set_option maxRecDepth 20000 in
theorem m_773 : Cond.instanceMethod y_M_answerTo ∈ wA := in_wA (List.mem_of_getElem? (i := 773) rfl) rfl
set_option maxRecDepth 20000 in
theorem m_26 : Cond.selects R_M y_M_answerTo y_M_answerTo ∈ wA := in_wA (List.mem_of_getElem? (i := 26) rfl) rfl
abbrev w_M_answerTo : List Cond := .code y_M_answerTo b_M_answerTo 6 (some .int) :: wA
abbrev rm_M_answerTo : Room := { frames := 5, cells := 0, slots := 0, locals := 120 }
theorem d_M_answerTo_0 : decode b_M_answerTo 0 = .ok (.aload_n 0, 1) := by decide +kernel
theorem d_M_answerTo_1 : decode b_M_answerTo 1 = .ok (.lload_n 1, 1) := by decide +kernel
theorem d_M_answerTo_2 : decode b_M_answerTo 2 = .ok (.iload_n 3, 1) := by decide +kernel
theorem d_M_answerTo_3 : decode b_M_answerTo 3 = .ok (.invokevirtual 128, 3) := by decide +kernel
theorem d_M_answerTo_6 : decode b_M_answerTo 6 = .ok (.istore 4, 2) := by decide +kernel
theorem d_M_answerTo_8 : decode b_M_answerTo 8 = .ok (.aload_n 0, 1) := by decide +kernel
theorem d_M_answerTo_9 : decode b_M_answerTo 9 = .ok (.getfield 96, 3) := by decide +kernel
theorem d_M_answerTo_12 : decode b_M_answerTo 12 = .ok (.lconst 0, 1) := by decide +kernel
theorem d_M_answerTo_13 : decode b_M_answerTo 13 = .ok (.lcmp, 1) := by decide +kernel
theorem d_M_answerTo_14 : decode b_M_answerTo 14 = .ok (.ifCond .ne 14, 3) := by decide +kernel
theorem d_M_answerTo_17 : decode b_M_answerTo 17 = .ok (.aload_n 0, 1) := by decide +kernel
theorem d_M_answerTo_18 : decode b_M_answerTo 18 = .ok (.getfield 100, 3) := by decide +kernel
theorem d_M_answerTo_21 : decode b_M_answerTo 21 = .ok (.aload_n 0, 1) := by decide +kernel
theorem d_M_answerTo_22 : decode b_M_answerTo 22 = .ok (.invokevirtual 111, 3) := by decide +kernel
theorem d_M_answerTo_25 : decode b_M_answerTo 25 = .ok (.if_icmp .eq 7, 3) := by decide +kernel
theorem d_M_answerTo_28 : decode b_M_answerTo 28 = .ok (.iconst 1, 1) := by decide +kernel
theorem d_M_answerTo_29 : decode b_M_answerTo 29 = .ok (.goto 4, 3) := by decide +kernel
theorem d_M_answerTo_32 : decode b_M_answerTo 32 = .ok (.iconst 0, 1) := by decide +kernel
theorem d_M_answerTo_33 : decode b_M_answerTo 33 = .ok (.istore 5, 2) := by decide +kernel
theorem d_M_answerTo_35 : decode b_M_answerTo 35 = .ok (.iload 4, 2) := by decide +kernel
theorem d_M_answerTo_37 : decode b_M_answerTo 37 = .ok (.iconst 1, 1) := by decide +kernel
theorem d_M_answerTo_38 : decode b_M_answerTo 38 = .ok (.if_icmp .ne 12, 3) := by decide +kernel
theorem d_M_answerTo_41 : decode b_M_answerTo 41 = .ok (.iload 5, 2) := by decide +kernel
theorem d_M_answerTo_43 : decode b_M_answerTo 43 = .ok (.ifCond .eq 7, 3) := by decide +kernel
theorem d_M_answerTo_46 : decode b_M_answerTo 46 = .ok (.iconst 3, 1) := by decide +kernel
theorem d_M_answerTo_47 : decode b_M_answerTo 47 = .ok (.goto 5, 3) := by decide +kernel
theorem d_M_answerTo_50 : decode b_M_answerTo 50 = .ok (.iload 4, 2) := by decide +kernel
theorem d_M_answerTo_52 : decode b_M_answerTo 52 = .ok (.ireturn, 1) := by decide +kernel
abbrev w_M_answerOf : List Cond := .code y_M_answerOf b_M_answerOf 6 (some .int) :: wA
abbrev rm_M_answerOf : Room := { frames := 6, cells := 0, slots := 0, locals := 145 }
theorem d_M_answerOf_0 : decode b_M_answerOf 0 = .ok (.iload_n 1, 1) := by decide +kernel
theorem d_M_answerOf_1 : decode b_M_answerOf 1 = .ok (.aload_n 0, 1) := by decide +kernel
theorem d_M_answerOf_2 : decode b_M_answerOf 2 = .ok (.getfield 34, 3) := by decide +kernel
theorem d_M_answerOf_5 : decode b_M_answerOf 5 = .ok (.if_icmp .ge 9, 3) := by decide +kernel
theorem d_M_answerOf_8 : decode b_M_answerOf 8 = .ok (.lconst 1, 1) := by decide +kernel
theorem d_M_answerOf_9 : decode b_M_answerOf 9 = .ok (.iload_n 1, 1) := by decide +kernel
theorem d_M_answerOf_10 : decode b_M_answerOf 10 = .ok (.lshl, 1) := by decide +kernel
theorem d_M_answerOf_11 : decode b_M_answerOf 11 = .ok (.goto 4, 3) := by decide +kernel
theorem d_M_answerOf_14 : decode b_M_answerOf 14 = .ok (.lconst 0, 1) := by decide +kernel
theorem d_M_answerOf_15 : decode b_M_answerOf 15 = .ok (.iload_n 2, 1) := by decide +kernel
theorem d_M_answerOf_16 : decode b_M_answerOf 16 = .ok (.aload_n 0, 1) := by decide +kernel
theorem d_M_answerOf_17 : decode b_M_answerOf 17 = .ok (.getfield 34, 3) := by decide +kernel
theorem d_M_answerOf_20 : decode b_M_answerOf 20 = .ok (.if_icmp .ge 9, 3) := by decide +kernel
theorem d_M_answerOf_23 : decode b_M_answerOf 23 = .ok (.lconst 1, 1) := by decide +kernel
theorem d_M_answerOf_24 : decode b_M_answerOf 24 = .ok (.iload_n 2, 1) := by decide +kernel
theorem d_M_answerOf_25 : decode b_M_answerOf 25 = .ok (.lshl, 1) := by decide +kernel
theorem d_M_answerOf_26 : decode b_M_answerOf 26 = .ok (.goto 4, 3) := by decide +kernel
theorem d_M_answerOf_29 : decode b_M_answerOf 29 = .ok (.lconst 0, 1) := by decide +kernel
theorem d_M_answerOf_30 : decode b_M_answerOf 30 = .ok (.lor, 1) := by decide +kernel
theorem d_M_answerOf_31 : decode b_M_answerOf 31 = .ok (.lstore_n 3, 1) := by decide +kernel
theorem d_M_answerOf_32 : decode b_M_answerOf 32 = .ok (.iload_n 1, 1) := by decide +kernel
theorem d_M_answerOf_33 : decode b_M_answerOf 33 = .ok (.aload_n 0, 1) := by decide +kernel
theorem d_M_answerOf_34 : decode b_M_answerOf 34 = .ok (.getfield 34, 3) := by decide +kernel
theorem d_M_answerOf_37 : decode b_M_answerOf 37 = .ok (.if_icmp .ge 7, 3) := by decide +kernel
theorem d_M_answerOf_40 : decode b_M_answerOf 40 = .ok (.iconst 0, 1) := by decide +kernel
theorem d_M_answerOf_41 : decode b_M_answerOf 41 = .ok (.goto 11, 3) := by decide +kernel
theorem d_M_answerOf_44 : decode b_M_answerOf 44 = .ok (.iconst 1, 1) := by decide +kernel
theorem d_M_answerOf_45 : decode b_M_answerOf 45 = .ok (.iload_n 1, 1) := by decide +kernel
theorem d_M_answerOf_46 : decode b_M_answerOf 46 = .ok (.aload_n 0, 1) := by decide +kernel
theorem d_M_answerOf_47 : decode b_M_answerOf 47 = .ok (.getfield 34, 3) := by decide +kernel
theorem d_M_answerOf_50 : decode b_M_answerOf 50 = .ok (.isub, 1) := by decide +kernel
theorem d_M_answerOf_51 : decode b_M_answerOf 51 = .ok (.ishl, 1) := by decide +kernel
theorem d_M_answerOf_52 : decode b_M_answerOf 52 = .ok (.iload_n 2, 1) := by decide +kernel
theorem d_M_answerOf_53 : decode b_M_answerOf 53 = .ok (.aload_n 0, 1) := by decide +kernel
theorem d_M_answerOf_54 : decode b_M_answerOf 54 = .ok (.getfield 34, 3) := by decide +kernel
theorem d_M_answerOf_57 : decode b_M_answerOf 57 = .ok (.if_icmp .ge 7, 3) := by decide +kernel
theorem d_M_answerOf_60 : decode b_M_answerOf 60 = .ok (.iconst 0, 1) := by decide +kernel
theorem d_M_answerOf_61 : decode b_M_answerOf 61 = .ok (.goto 11, 3) := by decide +kernel
theorem d_M_answerOf_64 : decode b_M_answerOf 64 = .ok (.iconst 1, 1) := by decide +kernel
theorem d_M_answerOf_65 : decode b_M_answerOf 65 = .ok (.iload_n 2, 1) := by decide +kernel
theorem d_M_answerOf_66 : decode b_M_answerOf 66 = .ok (.aload_n 0, 1) := by decide +kernel
theorem d_M_answerOf_67 : decode b_M_answerOf 67 = .ok (.getfield 34, 3) := by decide +kernel
theorem d_M_answerOf_70 : decode b_M_answerOf 70 = .ok (.isub, 1) := by decide +kernel
theorem d_M_answerOf_71 : decode b_M_answerOf 71 = .ok (.ishl, 1) := by decide +kernel
theorem d_M_answerOf_72 : decode b_M_answerOf 72 = .ok (.ior, 1) := by decide +kernel
theorem d_M_answerOf_73 : decode b_M_answerOf 73 = .ok (.istore 5, 2) := by decide +kernel
theorem d_M_answerOf_75 : decode b_M_answerOf 75 = .ok (.aload_n 0, 1) := by decide +kernel
theorem d_M_answerOf_76 : decode b_M_answerOf 76 = .ok (.lload_n 3, 1) := by decide +kernel
theorem d_M_answerOf_77 : decode b_M_answerOf 77 = .ok (.aload_n 0, 1) := by decide +kernel
theorem d_M_answerOf_78 : decode b_M_answerOf 78 = .ok (.invokevirtual 111, 3) := by decide +kernel
theorem d_M_answerOf_81 : decode b_M_answerOf 81 = .ok (.iload 5, 2) := by decide +kernel
theorem d_M_answerOf_83 : decode b_M_answerOf 83 = .ok (.ixor, 1) := by decide +kernel
theorem d_M_answerOf_84 : decode b_M_answerOf 84 = .ok (.invokevirtual 124, 3) := by decide +kernel
theorem d_M_answerOf_87 : decode b_M_answerOf 87 = .ok (.ireturn, 1) := by decide +kernel
set_option maxHeartbeats 4000000 in
set_option maxRecDepth 100000 in
theorem c_M_answerTo (l : Launch) (D : va_G) (g : Nat → ClassId) (sz : Nat) (wm : va_W) (mo wi ck fq co sq uq gq kd M ifo fl : Nat) (th mk bi ch9 tu9 : Int32) (ma wo9 : Int64) (fw fc ff fco fsq fu fg : Nat → Int32) (hM0 : 0 < M) (hM : M ≤ 57) (v c0 : Nat) (hv : v < 2 ^ 62) (hc0 : c0 < 2 ^ ckb kd M) (hif : ifo ≤ 1) (hfl : fl < 2 ^ ckb kd M) (hkd : kd ≤ 3) (hmw : MWF kd M fw fc ff fco) : Met l y_M_answerTo w_M_answerTo rm_M_answerTo (va_Pc [.ref mo, .long (lN v), .int (nI ((if ifo = 1 then fl else 0) ^^^ c0))] (pP D (tyl g) ((mo, .inr (6, [.int (th), .int (nI M), .int (nI kd), .int (nI (ckb kd M)), .int (nI (nk kd)), .ref wi, .ref ck, .ref fq, .ref co, .int (nI (grsK kd M)), .int (nI ifo), .int (nI fl), .long (ma), .int (mk), .int (bi), .long (wo9), .int (ch9), .int (tu9), .ref sq, .ref uq, .ref gq])) :: (wi, .inl (g 0, 4, .inl (fw))) :: (ck, .inl (g 0, 4, .inl (fc))) :: (fq, .inl (g 0, 4, .inl (ff))) :: (co, .inl (g 0, 228, .inl (fco))) :: (sq, .inl (g 0, 8, .inl (fsq))) :: (uq, .inl (g 2, 128, .inl (fu))) :: (gq, .inl (g 0, 7, .inl (fg))) :: wm) sz)) (va_Qi (fun (r : Int32) (u : (Int64 × Int32 × Int32)) => r = nI (ans kd M v c0)) (fun u => qB D (va_A ((mo, .inr (6, [.int (th), .int (nI M), .int (nI kd), .int (nI (ckb kd M)), .int (nI (nk kd)), .ref wi, .ref ck, .ref fq, .ref co, .int (nI (grsK kd M)), .int (nI ifo), .int (nI fl), .long (ma), .int (mk), .int (bi), .long (wo9), .int (ch9), .int (tu9), .ref sq, .ref uq, .ref gq])) :: (wi, .inl (g 0, 4, .inl (fw))) :: (ck, .inl (g 0, 4, .inl (fc))) :: (fq, .inl (g 0, 4, .inl (ff))) :: (co, .inl (g 0, 228, .inl (fco))) :: (sq, .inl (g 0, 8, .inl (fsq))) :: (uq, .inl (g 2, 128, .inl (fu))) :: (gq, .inl (g 0, 7, .inl (fg))) :: wm) sz) ((mo, .inr (6, [.int (th), .int (nI M), .int (nI kd), .int (nI (ckb kd M)), .int (nI (nk kd)), .ref wi, .ref ck, .ref fq, .ref co, .int (nI (grsK kd M)), .int (nI ifo), .int (nI fl), .long (u.1), .int (u.2.1), .int (u.2.2), .long (wo9), .int (ch9), .int (tu9), .ref sq, .ref uq, .ref gq])) :: (wi, .inl (g 0, 4, .inl (fw))) :: (ck, .inl (g 0, 4, .inl (fc))) :: (fq, .inl (g 0, 4, .inl (ff))) :: (co, .inl (g 0, 228, .inl (fco))) :: (sq, .inl (g 0, 8, .inl (fsq))) :: (uq, .inl (g 2, 128, .inl (fu))) :: (gq, .inl (g 0, 7, .inl (fg))) :: wm)) (va_A ((mo, .inr (6, [.int (th), .int (nI M), .int (nI kd), .int (nI (ckb kd M)), .int (nI (nk kd)), .ref wi, .ref ck, .ref fq, .ref co, .int (nI (grsK kd M)), .int (nI ifo), .int (nI fl), .long (ma), .int (mk), .int (bi), .long (wo9), .int (ch9), .int (tu9), .ref sq, .ref uq, .ref gq])) :: (wi, .inl (g 0, 4, .inl (fw))) :: (ck, .inl (g 0, 4, .inl (fc))) :: (fq, .inl (g 0, 4, .inl (ff))) :: (co, .inl (g 0, 228, .inl (fco))) :: (sq, .inl (g 0, 8, .inl (fsq))) :: (uq, .inl (g 2, 128, .inl (fu))) :: (gq, .inl (g 0, 7, .inl (fg))) :: wm) sz)) 0 0 (va_A ((mo, .inr (6, [.int (th), .int (nI M), .int (nI kd), .int (nI (ckb kd M)), .int (nI (nk kd)), .ref wi, .ref ck, .ref fq, .ref co, .int (nI (grsK kd M)), .int (nI ifo), .int (nI fl), .long (ma), .int (mk), .int (bi), .long (wo9), .int (ch9), .int (tu9), .ref sq, .ref uq, .ref gq])) :: (wi, .inl (g 0, 4, .inl (fw))) :: (ck, .inl (g 0, 4, .inl (fc))) :: (fq, .inl (g 0, 4, .inl (ff))) :: (co, .inl (g 0, 228, .inl (fco))) :: (sq, .inl (g 0, 8, .inl (fsq))) :: (uq, .inl (g 2, 128, .inl (fu))) :: (gq, .inl (g 0, 7, .inl (fg))) :: wm) sz) := by
  refine Met.ofW (cc := b_M_answerTo) (maxL := 6) (ret := (some .int)) (by decide +kernel) rfl ?_
  intro p e s m args below meth c s₁ Bq hml hv
  have hx := Bq.exec
  have hb := Bq.bytes
  have hr := Bq.returns
  have hts : ∀ w ∈ wA, w.before args s = true := fun w h => atoms_spec (ws := w_M_answerTo) Bq.pre w (List.mem_cons_of_mem _ h)
  have hown : s.vm.findClass R_M = some m.cls := findClass_of_methodNamed Bq.named
  have hlocks := Bq.notSynchronized
  obtain ⟨rfl, hsz, hP, hKK, hD0⟩ := hv
  have hK := hKK.1
  subst hsz
  have hD := hD0.self (sz := s.heap.size)
  generalize hAe : va_A ((mo, .inr (6, [.int (th), .int (nI M), .int (nI kd), .int (nI (ckb kd M)), .int (nI (nk kd)), .ref wi, .ref ck, .ref fq, .ref co, .int (nI (grsK kd M)), .int (nI ifo), .int (nI fl), .long (ma), .int (mk), .int (bi), .long (wo9), .int (ch9), .int (tu9), .ref sq, .ref uq, .ref gq])) :: (wi, .inl (g 0, 4, .inl (fw))) :: (ck, .inl (g 0, 4, .inl (fc))) :: (fq, .inl (g 0, 4, .inl (ff))) :: (co, .inl (g 0, 228, .inl (fco))) :: (sq, .inl (g 0, 8, .inl (fsq))) :: (uq, .inl (g 2, 128, .inl (fu))) :: (gq, .inl (g 0, 7, .inl (fg))) :: wm) s.heap.size = A at hD ⊢
  have hA : ∀ q : Nat, s.heap.size ≤ q → A q := fun q h => by rw [← hAe]; exact Or.inr h
  have hS : va_S A s.heap s.heap [] := va_S.rf
  have hl := lv_entry ([.ref mo, .long (lN v), .int (nI ((if ifo = 1 then fl else 0) ^^^ c0))]) (n := 6) (Nat.le_of_ble_eq_true rfl)
  rw [lg_entry_eq]
  generalize (lg_sl ([.ref mo, .long (lN v), .int (nI ((if ifo = 1 then fl else 0) ^^^ c0))]) ++ List.replicate (6 - (lg_sl ([.ref mo, .long (lN v), .int (nI ((if ifo = 1 then fl else 0) ^^^ c0))])).length) Slot.unset).toArray = ls at hl ⊢
  have hl : lv_has ls 6 [(0, .ref mo), (1, .long (lN v)), (3, .int (nI ((if ifo = 1 then fl else 0) ^^^ c0)))] := hl
  generalize hQ : MQ below (va_Qi (fun (r : Int32) (u : (Int64 × Int32 × Int32)) => r = nI (ans kd M v c0)) (fun u => qB D (A) ((mo, .inr (6, [.int (th), .int (nI M), .int (nI kd), .int (nI (ckb kd M)), .int (nI (nk kd)), .ref wi, .ref ck, .ref fq, .ref co, .int (nI (grsK kd M)), .int (nI ifo), .int (nI fl), .long (u.1), .int (u.2.1), .int (u.2.2), .long (wo9), .int (ch9), .int (tu9), .ref sq, .ref uq, .ref gq])) :: (wi, .inl (g 0, 4, .inl (fw))) :: (ck, .inl (g 0, 4, .inl (fc))) :: (fq, .inl (g 0, 4, .inl (ff))) :: (co, .inl (g 0, 228, .inl (fco))) :: (sq, .inl (g 0, 8, .inl (fsq))) :: (uq, .inl (g 2, 128, .inl (fu))) :: (gq, .inl (g 0, 7, .inl (fg))) :: wm)) (A)) [.ref mo, .long (lN v), .int (nI ((if ifo = 1 then fl else 0) ^^^ c0))].toArray s 0 0 A = Q
  have hpw := ckb_pow kd M
  have hfo : (if ifo = 1 then fl else 0) < 2 ^ ckb kd M := by split; exact hfl; exact Nat.two_pow_pos _
  have hcc : (if ifo = 1 then fl else 0) ^^^ c0 < 2 ^ ckb kd M := Nat.xor_lt_two_pow hfo hc0
  have hsy := syn_lt (x := v) hM0 hM hc0
  obtain ⟨hj1, hj2, hj3⟩ := jd_bd hM hsy
  have ey : (((if ifo = 1 then fl else 0) ^^^ c0) ^^^ (if ifo = 1 then fl else 0)) ^^^ xs (mrk kd M) v M = xs (mrk kd M) v M ^^^ c0 := xor_back _ _ _
  have hw1 : v ^^^ (jd kd M (xs (mrk kd M) v M ^^^ c0)).2.1 < 2 ^ 62 := Nat.xor_lt_two_pow hv hj2
  have hw2 : ((if ifo = 1 then fl else 0) ^^^ c0) ^^^ (jd kd M (xs (mrk kd M) v M ^^^ c0)).2.2 < 2 ^ 28 := Nat.xor_lt_two_pow (Nat.lt_of_lt_of_le hcc hpw) hj3
  refine lv_aload_n hx hb d_M_answerTo_0 rfl (lv_at hl 0 rfl) ?_
  refine lv_lload_n hx hb d_M_answerTo_1 rfl (lv_at hl 1 rfl) ?_
  refine lv_iload_n hx hb d_M_answerTo_2 rfl (lv_at hl 2 rfl) ?_
  refine lc_Vi (b := mo) (As := [.long (lN v), .int (nI ((if ifo = 1 then fl else 0) ^^^ c0))]) (rest := []) ⟨hx, hb, hml, hown, hts⟩ (c_M_reading l D g _ wm mo wi ck fq co sq uq gq kd M ifo fl th mk bi ch9 tu9 ma wo9 fw fc ff fco fsq fu fg hM0 hM v ((if ifo = 1 then fl else 0) ^^^ c0) (by omega) hcc hif hfl hkd hmw) (kV 2 hts m_737 m_734 m_736 m_21 m_40 (by decide +kernel) ⟨Nat.le_of_ble_eq_true rfl, Nat.le_of_ble_eq_true rfl⟩) (va_recv hK hP (ci := 6) (q0 := 0) rfl rfl) hKK hP hD hS hA hl.1 rfl rfl (Nat.le_of_ble_eq_true rfl) d_M_answerTo_3 ⟨Nat.le_of_ble_eq_true rfl, Nat.le_of_ble_eq_true rfl⟩ (fun r1 u1 H locs e1 hP hD hS => ?_)
  have hP : va_P D vwCl ((mo, .inr (6, [.int (th), .int (nI M), .int (nI kd), .int (nI (ckb kd M)), .int (nI (nk kd)), .ref wi, .ref ck, .ref fq, .ref co, .int (nI (grsK kd M)), .int (nI ifo), .int (nI fl), .long (lN (v ^^^ (jd kd M ((((if ifo = 1 then fl else 0) ^^^ c0) ^^^ (if ifo = 1 then fl else 0)) ^^^ xs (mrk kd M) v M)).2.1)), .int (nI (((if ifo = 1 then fl else 0) ^^^ c0) ^^^ (jd kd M ((((if ifo = 1 then fl else 0) ^^^ c0) ^^^ (if ifo = 1 then fl else 0)) ^^^ xs (mrk kd M) v M)).2.2)), .int (nI (pcn 64 (jd kd M ((((if ifo = 1 then fl else 0) ^^^ c0) ^^^ (if ifo = 1 then fl else 0)) ^^^ xs (mrk kd M) v M)).2.1 + pcn 32 (jd kd M ((((if ifo = 1 then fl else 0) ^^^ c0) ^^^ (if ifo = 1 then fl else 0)) ^^^ xs (mrk kd M) v M)).2.2)), .long (wo9), .int (ch9), .int (tu9), .ref sq, .ref uq, .ref gq])) :: (wi, .inl (g 0, 4, .inl (fw))) :: (ck, .inl (g 0, 4, .inl (fc))) :: (fq, .inl (g 0, 4, .inl (ff))) :: (co, .inl (g 0, 228, .inl (fco))) :: (sq, .inl (g 0, 8, .inl (fsq))) :: (uq, .inl (g 2, 128, .inl (fu))) :: (gq, .inl (g 0, 7, .inl (fg))) :: wm) H := hP
  have hD : va_D A ((mo, .inr (6, [.int (th), .int (nI M), .int (nI kd), .int (nI (ckb kd M)), .int (nI (nk kd)), .ref wi, .ref ck, .ref fq, .ref co, .int (nI (grsK kd M)), .int (nI ifo), .int (nI fl), .long (lN (v ^^^ (jd kd M ((((if ifo = 1 then fl else 0) ^^^ c0) ^^^ (if ifo = 1 then fl else 0)) ^^^ xs (mrk kd M) v M)).2.1)), .int (nI (((if ifo = 1 then fl else 0) ^^^ c0) ^^^ (jd kd M ((((if ifo = 1 then fl else 0) ^^^ c0) ^^^ (if ifo = 1 then fl else 0)) ^^^ xs (mrk kd M) v M)).2.2)), .int (nI (pcn 64 (jd kd M ((((if ifo = 1 then fl else 0) ^^^ c0) ^^^ (if ifo = 1 then fl else 0)) ^^^ xs (mrk kd M) v M)).2.1 + pcn 32 (jd kd M ((((if ifo = 1 then fl else 0) ^^^ c0) ^^^ (if ifo = 1 then fl else 0)) ^^^ xs (mrk kd M) v M)).2.2)), .long (wo9), .int (ch9), .int (tu9), .ref sq, .ref uq, .ref gq])) :: (wi, .inl (g 0, 4, .inl (fw))) :: (ck, .inl (g 0, 4, .inl (fc))) :: (fq, .inl (g 0, 4, .inl (ff))) :: (co, .inl (g 0, 228, .inl (fco))) :: (sq, .inl (g 0, 8, .inl (fsq))) :: (uq, .inl (g 2, 128, .inl (fu))) :: (gq, .inl (g 0, 7, .inl (fg))) :: wm) := hD
  rw [ey] at e1 hP hD
  have hP : va_P D vwCl ((mo, .inr (6, [.int (th), .int (nI M), .int (nI kd), .int (nI (ckb kd M)), .int (nI (nk kd)), .ref wi, .ref ck, .ref fq, .ref co, .int (nI (grsK kd M)), .int (nI ifo), .int (nI fl), .long (lN (v ^^^ (jd kd M (xs (mrk kd M) v M ^^^ c0)).2.1)), .int (nI (((if ifo = 1 then fl else 0) ^^^ c0) ^^^ (jd kd M (xs (mrk kd M) v M ^^^ c0)).2.2)), .int (nI (pcn 64 (jd kd M (xs (mrk kd M) v M ^^^ c0)).2.1 + pcn 32 (jd kd M (xs (mrk kd M) v M ^^^ c0)).2.2)), .long (wo9), .int (ch9), .int (tu9), .ref sq, .ref uq, .ref gq])) :: (wi, .inl (g 0, 4, .inl (fw))) :: (ck, .inl (g 0, 4, .inl (fc))) :: (fq, .inl (g 0, 4, .inl (ff))) :: (co, .inl (g 0, 228, .inl (fco))) :: (sq, .inl (g 0, 8, .inl (fsq))) :: (uq, .inl (g 2, 128, .inl (fu))) :: (gq, .inl (g 0, 7, .inl (fg))) :: wm) H := hP
  have hD : va_D A ((mo, .inr (6, [.int (th), .int (nI M), .int (nI kd), .int (nI (ckb kd M)), .int (nI (nk kd)), .ref wi, .ref ck, .ref fq, .ref co, .int (nI (grsK kd M)), .int (nI ifo), .int (nI fl), .long (lN (v ^^^ (jd kd M (xs (mrk kd M) v M ^^^ c0)).2.1)), .int (nI (((if ifo = 1 then fl else 0) ^^^ c0) ^^^ (jd kd M (xs (mrk kd M) v M ^^^ c0)).2.2)), .int (nI (pcn 64 (jd kd M (xs (mrk kd M) v M ^^^ c0)).2.1 + pcn 32 (jd kd M (xs (mrk kd M) v M ^^^ c0)).2.2)), .long (wo9), .int (ch9), .int (tu9), .ref sq, .ref uq, .ref gq])) :: (wi, .inl (g 0, 4, .inl (fw))) :: (ck, .inl (g 0, 4, .inl (fc))) :: (fq, .inl (g 0, 4, .inl (ff))) :: (co, .inl (g 0, 228, .inl (fco))) :: (sq, .inl (g 0, 8, .inl (fsq))) :: (uq, .inl (g 2, 128, .inl (fu))) :: (gq, .inl (g 0, 7, .inl (fg))) :: wm) := hD
  obtain rfl : r1 = nI (jd kd M (xs (mrk kd M) v M ^^^ c0)).1 := e1
  have j33 : ∀ (oo : Nat) (ls : Array Slot) (H : Heap) (locs : List Loc), (oo ≤ 1) → (oo = 1 ↔ ¬ ((jd kd M (xs (mrk kd M) v M ^^^ c0)).2.1 = v ∧ (jd kd M (xs (mrk kd M) v M ^^^ c0)).2.2 = c0)) → lv_has ls 6 [(0, .ref mo), (4, .int (nI (jd kd M (xs (mrk kd M) v M ^^^ c0)).1))] → va_P D vwCl ((mo, .inr (6, [.int (th), .int (nI M), .int (nI kd), .int (nI (ckb kd M)), .int (nI (nk kd)), .ref wi, .ref ck, .ref fq, .ref co, .int (nI (grsK kd M)), .int (nI ifo), .int (nI fl), .long (lN (v ^^^ (jd kd M (xs (mrk kd M) v M ^^^ c0)).2.1)), .int (nI (((if ifo = 1 then fl else 0) ^^^ c0) ^^^ (jd kd M (xs (mrk kd M) v M ^^^ c0)).2.2)), .int (nI (pcn 64 (jd kd M (xs (mrk kd M) v M ^^^ c0)).2.1 + pcn 32 (jd kd M (xs (mrk kd M) v M ^^^ c0)).2.2)), .long (wo9), .int (ch9), .int (tu9), .ref sq, .ref uq, .ref gq])) :: (wi, .inl (g 0, 4, .inl (fw))) :: (ck, .inl (g 0, 4, .inl (fc))) :: (fq, .inl (g 0, 4, .inl (ff))) :: (co, .inl (g 0, 228, .inl (fco))) :: (sq, .inl (g 0, 8, .inl (fsq))) :: (uq, .inl (g 2, 128, .inl (fu))) :: (gq, .inl (g 0, 7, .inl (fg))) :: wm) H → va_D A ((mo, .inr (6, [.int (th), .int (nI M), .int (nI kd), .int (nI (ckb kd M)), .int (nI (nk kd)), .ref wi, .ref ck, .ref fq, .ref co, .int (nI (grsK kd M)), .int (nI ifo), .int (nI fl), .long (lN (v ^^^ (jd kd M (xs (mrk kd M) v M ^^^ c0)).2.1)), .int (nI (((if ifo = 1 then fl else 0) ^^^ c0) ^^^ (jd kd M (xs (mrk kd M) v M ^^^ c0)).2.2)), .int (nI (pcn 64 (jd kd M (xs (mrk kd M) v M ^^^ c0)).2.1 + pcn 32 (jd kd M (xs (mrk kd M) v M ^^^ c0)).2.2)), .long (wo9), .int (ch9), .int (tu9), .ref sq, .ref uq, .ref gq])) :: (wi, .inl (g 0, 4, .inl (fw))) :: (ck, .inl (g 0, 4, .inl (fc))) :: (fq, .inl (g 0, 4, .inl (ff))) :: (co, .inl (g 0, 228, .inl (fco))) :: (sq, .inl (g 0, 8, .inl (fsq))) :: (uq, .inl (g 2, 128, .inl (fu))) :: (gq, .inl (g 0, 7, .inl (fg))) :: wm) → va_S A s.heap H locs → W p l e (headSpec w_M_answerTo rm_M_answerTo).room s m [.ref mo, .long (lN v), .int (nI ((if ifo = 1 then fl else 0) ^^^ c0))].toArray below meth c H locs 0 0 Q (F0 m 33 ls [.int (nI oo)]) := by
    intro oo ls H locs ho1 hoo hl hP hD hS
    refine lv_istore (lv' := [(5, .int (nI oo)), (0, .ref mo), (4, .int (nI (jd kd M (xs (mrk kd M) v M ^^^ c0)).1))]) hx hb d_M_answerTo_33 hl (by decide) rfl (fun ls hl => ?_)
    refine lv_iload hx hb d_M_answerTo_35 (lv_at hl 2 rfl) ?_
    refine lv_iconst (v := nI 1) hx hb d_M_answerTo_37 (by decide) ?_
    refine lx_icmp_ne (tgt := 50) hx hb d_M_answerTo_38 (by decide) (by omega) (by omega) (fun c38 => ?_) (fun c38 => ?_)
    · skip
      refine lv_iload hx hb d_M_answerTo_50 (lv_at hl 2 rfl) ?_
      rw [← hQ]
      refine W.iret (v := nI (jd kd M (xs (mrk kd M) v M ^^^ c0)).1) hx hb hr ?_ hS.2.2 d_M_answerTo_52
      exact fun t ht hW => ⟨⟨nI (jd kd M (xs (mrk kd M) v M ^^^ c0)).1, (lN (v ^^^ (jd kd M (xs (mrk kd M) v M ^^^ c0)).2.1), nI (((if ifo = 1 then fl else 0) ^^^ c0) ^^^ (jd kd M (xs (mrk kd M) v M ^^^ c0)).2.2), nI (pcn 64 (jd kd M (xs (mrk kd M) v M ^^^ c0)).2.1 + pcn 32 (jd kd M (xs (mrk kd M) v M ^^^ c0)).2.2)), rfl, (by unfold ans; rw [if_neg (by rintro ⟨q1, q2⟩; exact c38 q1)]), by rw [ht]; exact hP, hD⟩, hS.F ht⟩
    · skip
      refine lv_iload hx hb d_M_answerTo_41 (lv_at hl 0 rfl) ?_
      refine lx_if_eq (tgt := 50) hx hb d_M_answerTo_43 (by decide) (by omega) (fun c43 => ?_) (fun c43 => ?_)
      · skip
        refine lv_iload hx hb d_M_answerTo_50 (lv_at hl 2 rfl) ?_
        rw [← hQ]
        refine W.iret (v := nI (jd kd M (xs (mrk kd M) v M ^^^ c0)).1) hx hb hr ?_ hS.2.2 d_M_answerTo_52
        exact fun t ht hW => ⟨⟨nI (jd kd M (xs (mrk kd M) v M ^^^ c0)).1, (lN (v ^^^ (jd kd M (xs (mrk kd M) v M ^^^ c0)).2.1), nI (((if ifo = 1 then fl else 0) ^^^ c0) ^^^ (jd kd M (xs (mrk kd M) v M ^^^ c0)).2.2), nI (pcn 64 (jd kd M (xs (mrk kd M) v M ^^^ c0)).2.1 + pcn 32 (jd kd M (xs (mrk kd M) v M ^^^ c0)).2.2)), rfl, (by unfold ans; rw [if_neg (by rintro ⟨q1, q2⟩; have := hoo.mpr q2; omega)]), by rw [ht]; exact hP, hD⟩, hS.F ht⟩
      · skip
        refine lv_iconst (v := nI 3) hx hb d_M_answerTo_46 (by decide) ?_
        refine lv_goto (tgt := 52) hx hb d_M_answerTo_47 (by decide) ?_
        rw [← hQ]
        refine W.iret (v := nI 3) hx hb hr ?_ hS.2.2 d_M_answerTo_52
        exact fun t ht hW => ⟨⟨nI 3, (lN (v ^^^ (jd kd M (xs (mrk kd M) v M ^^^ c0)).2.1), nI (((if ifo = 1 then fl else 0) ^^^ c0) ^^^ (jd kd M (xs (mrk kd M) v M ^^^ c0)).2.2), nI (pcn 64 (jd kd M (xs (mrk kd M) v M ^^^ c0)).2.1 + pcn 32 (jd kd M (xs (mrk kd M) v M ^^^ c0)).2.2)), rfl, (by unfold ans; rw [if_pos ⟨c38, hoo.mp (by omega)⟩]), by rw [ht]; exact hP, hD⟩, hS.F ht⟩
  refine lv_istore (lv' := [(4, .int (nI (jd kd M (xs (mrk kd M) v M ^^^ c0)).1)), (0, .ref mo), (1, .long (lN v)), (3, .int (nI ((if ifo = 1 then fl else 0) ^^^ c0)))]) hx hb d_M_answerTo_6 hl (by decide) rfl (fun ls hl => ?_)
  refine lv_aload_n hx hb d_M_answerTo_8 rfl (lv_at hl 1 rfl) ?_
  refine va_get (D := D) (ci := 6) (v := .long (lN (v ^^^ (jd kd M (xs (mrk kd M) v M ^^^ c0)).2.1))) (C := R_M) (T := F_M) (N := 21) hx hb hts i_M hown hK hP 0 rfl rfl 12 (by decide) (hts _ m_615) (fun _ h9 => h9) rfl d_M_answerTo_9 ?_
  refine lv_lconst (v := lN 0) hx hb d_M_answerTo_12 (by decide) ?_
  refine lx_lcmp_ne (tgt := 28) hx hb d_M_answerTo_13 d_M_answerTo_14 (by decide) (fun c14 => ?_) (fun c14 => ?_)
  · skip
    refine lv_iconst (v := nI 1) hx hb d_M_answerTo_28 (by decide) ?_
    refine lv_goto (tgt := 33) hx hb d_M_answerTo_29 (by decide) ?_
    exact j33 1 _ _ _ (by decide) (⟨fun _ => fun q => c14 (by rw [xor_z.mpr q.1]), fun _ => rfl⟩) (lv_sub hl [1, 0] rfl) hP hD hS
  · skip
    have ew : (jd kd M (xs (mrk kd M) v M ^^^ c0)).2.1 = v := xor_z.mp (xl_inj (by omega) (by decide) c14)
    refine lv_aload_n hx hb d_M_answerTo_17 rfl (lv_at hl 1 rfl) ?_
    refine va_get (D := D) (ci := 6) (v := .int (nI (((if ifo = 1 then fl else 0) ^^^ c0) ^^^ (jd kd M (xs (mrk kd M) v M ^^^ c0)).2.2))) (C := R_M) (T := F_M) (N := 21) hx hb hts i_M hown hK hP 0 rfl rfl 13 (by decide) (hts _ m_616) (fun _ h9 => h9) rfl d_M_answerTo_18 ?_
    refine lv_aload_n hx hb d_M_answerTo_21 rfl (lv_at hl 1 rfl) ?_
    refine lc_Vi (b := mo) (As := []) (rest := [.int (nI (((if ifo = 1 then fl else 0) ^^^ c0) ^^^ (jd kd M (xs (mrk kd M) v M ^^^ c0)).2.2))]) ⟨hx, hb, hml, hown, hts⟩ (c_M_folded l D g _ wm mo wi ck fq co sq uq gq kd M ifo fl th (nI (((if ifo = 1 then fl else 0) ^^^ c0) ^^^ (jd kd M (xs (mrk kd M) v M ^^^ c0)).2.2)) (nI (pcn 64 (jd kd M (xs (mrk kd M) v M ^^^ c0)).2.1 + pcn 32 (jd kd M (xs (mrk kd M) v M ^^^ c0)).2.2)) ch9 tu9 (lN (v ^^^ (jd kd M (xs (mrk kd M) v M ^^^ c0)).2.1)) wo9 fw fc ff fco fsq fu fg hM0 hM hif) (kV 0 hts m_703 m_700 m_702 m_16 m_40 (by decide +kernel) ⟨Nat.le_of_ble_eq_true rfl, Nat.le_of_ble_eq_true rfl⟩) (va_recv hK hP (ci := 6) (q0 := 0) rfl rfl) hKK hP hD hS hA hl.1 rfl rfl (Nat.le_of_ble_eq_true rfl) d_M_answerTo_22 ⟨Nat.le_of_ble_eq_true rfl, Nat.le_of_ble_eq_true rfl⟩ (fun r2 u2 H locs e2 hP hD hS => ?_)
    obtain rfl : r2 = nI (if ifo = 1 then fl else 0) := e2
    refine lx_icmp_eq (tgt := 32) hx hb d_M_answerTo_25 (by decide) (by omega) (by omega) (fun c25 => ?_) (fun c25 => ?_)
    · skip
      refine lv_iconst (v := nI 0) hx hb d_M_answerTo_32 (by decide) ?_
      exact j33 0 _ _ _ (by decide) (⟨fun q => absurd q (by decide), fun q => absurd ⟨ew, xor_f.mp c25⟩ q⟩) (lv_sub hl [1, 0] rfl) hP hD hS
    · skip
      refine lv_iconst (v := nI 1) hx hb d_M_answerTo_28 (by decide) ?_
      refine lv_goto (tgt := 33) hx hb d_M_answerTo_29 (by decide) ?_
      exact j33 1 _ _ _ (by decide) (⟨fun _ => fun q => c25 (xor_f.mpr q.2), fun _ => rfl⟩) (lv_sub hl [1, 0] rfl) hP hD hS
set_option maxHeartbeats 4000000 in
set_option maxRecDepth 100000 in
theorem c_M_answerOf (l : Launch) (D : va_G) (g : Nat → ClassId) (sz : Nat) (wm : va_W) (mo wi ck fq co sq uq gq kd M ifo fl : Nat) (th mk bi ch9 tu9 : Int32) (ma wo9 : Int64) (fw fc ff fco fsq fu fg : Nat → Int32) (hM0 : 0 < M) (hM : M ≤ 57) (a b : Nat) (ha9 : a < M + ckb kd M) (hb9 : b < M + ckb kd M) (hif : ifo ≤ 1) (hfl : fl < 2 ^ ckb kd M) (hkd : kd ≤ 3) (hmw : MWF kd M fw fc ff fco) : Met l y_M_answerOf w_M_answerOf rm_M_answerOf (va_Pc [.ref mo, .int (nI a), .int (nI b)] (pP D (tyl g) ((mo, .inr (6, [.int (th), .int (nI M), .int (nI kd), .int (nI (ckb kd M)), .int (nI (nk kd)), .ref wi, .ref ck, .ref fq, .ref co, .int (nI (grsK kd M)), .int (nI ifo), .int (nI fl), .long (ma), .int (mk), .int (bi), .long (wo9), .int (ch9), .int (tu9), .ref sq, .ref uq, .ref gq])) :: (wi, .inl (g 0, 4, .inl (fw))) :: (ck, .inl (g 0, 4, .inl (fc))) :: (fq, .inl (g 0, 4, .inl (ff))) :: (co, .inl (g 0, 228, .inl (fco))) :: (sq, .inl (g 0, 8, .inl (fsq))) :: (uq, .inl (g 2, 128, .inl (fu))) :: (gq, .inl (g 0, 7, .inl (fg))) :: wm) sz)) (va_Qi (fun (r : Int32) (u : (Int64 × Int32 × Int32)) => r = nI (pairA kd M a b)) (fun u => qB D (va_A ((mo, .inr (6, [.int (th), .int (nI M), .int (nI kd), .int (nI (ckb kd M)), .int (nI (nk kd)), .ref wi, .ref ck, .ref fq, .ref co, .int (nI (grsK kd M)), .int (nI ifo), .int (nI fl), .long (ma), .int (mk), .int (bi), .long (wo9), .int (ch9), .int (tu9), .ref sq, .ref uq, .ref gq])) :: (wi, .inl (g 0, 4, .inl (fw))) :: (ck, .inl (g 0, 4, .inl (fc))) :: (fq, .inl (g 0, 4, .inl (ff))) :: (co, .inl (g 0, 228, .inl (fco))) :: (sq, .inl (g 0, 8, .inl (fsq))) :: (uq, .inl (g 2, 128, .inl (fu))) :: (gq, .inl (g 0, 7, .inl (fg))) :: wm) sz) ((mo, .inr (6, [.int (th), .int (nI M), .int (nI kd), .int (nI (ckb kd M)), .int (nI (nk kd)), .ref wi, .ref ck, .ref fq, .ref co, .int (nI (grsK kd M)), .int (nI ifo), .int (nI fl), .long (u.1), .int (u.2.1), .int (u.2.2), .long (wo9), .int (ch9), .int (tu9), .ref sq, .ref uq, .ref gq])) :: (wi, .inl (g 0, 4, .inl (fw))) :: (ck, .inl (g 0, 4, .inl (fc))) :: (fq, .inl (g 0, 4, .inl (ff))) :: (co, .inl (g 0, 228, .inl (fco))) :: (sq, .inl (g 0, 8, .inl (fsq))) :: (uq, .inl (g 2, 128, .inl (fu))) :: (gq, .inl (g 0, 7, .inl (fg))) :: wm)) (va_A ((mo, .inr (6, [.int (th), .int (nI M), .int (nI kd), .int (nI (ckb kd M)), .int (nI (nk kd)), .ref wi, .ref ck, .ref fq, .ref co, .int (nI (grsK kd M)), .int (nI ifo), .int (nI fl), .long (ma), .int (mk), .int (bi), .long (wo9), .int (ch9), .int (tu9), .ref sq, .ref uq, .ref gq])) :: (wi, .inl (g 0, 4, .inl (fw))) :: (ck, .inl (g 0, 4, .inl (fc))) :: (fq, .inl (g 0, 4, .inl (ff))) :: (co, .inl (g 0, 228, .inl (fco))) :: (sq, .inl (g 0, 8, .inl (fsq))) :: (uq, .inl (g 2, 128, .inl (fu))) :: (gq, .inl (g 0, 7, .inl (fg))) :: wm) sz)) 0 0 (va_A ((mo, .inr (6, [.int (th), .int (nI M), .int (nI kd), .int (nI (ckb kd M)), .int (nI (nk kd)), .ref wi, .ref ck, .ref fq, .ref co, .int (nI (grsK kd M)), .int (nI ifo), .int (nI fl), .long (ma), .int (mk), .int (bi), .long (wo9), .int (ch9), .int (tu9), .ref sq, .ref uq, .ref gq])) :: (wi, .inl (g 0, 4, .inl (fw))) :: (ck, .inl (g 0, 4, .inl (fc))) :: (fq, .inl (g 0, 4, .inl (ff))) :: (co, .inl (g 0, 228, .inl (fco))) :: (sq, .inl (g 0, 8, .inl (fsq))) :: (uq, .inl (g 2, 128, .inl (fu))) :: (gq, .inl (g 0, 7, .inl (fg))) :: wm) sz) := by
  refine Met.ofW (cc := b_M_answerOf) (maxL := 6) (ret := (some .int)) (by decide +kernel) rfl ?_
  intro p e s m args below meth c s₁ Bq hml hv
  have hx := Bq.exec
  have hb := Bq.bytes
  have hr := Bq.returns
  have hts : ∀ w ∈ wA, w.before args s = true := fun w h => atoms_spec (ws := w_M_answerOf) Bq.pre w (List.mem_cons_of_mem _ h)
  have hown : s.vm.findClass R_M = some m.cls := findClass_of_methodNamed Bq.named
  have hlocks := Bq.notSynchronized
  obtain ⟨rfl, hsz, hP, hKK, hD0⟩ := hv
  have hK := hKK.1
  subst hsz
  have hD := hD0.self (sz := s.heap.size)
  generalize hAe : va_A ((mo, .inr (6, [.int (th), .int (nI M), .int (nI kd), .int (nI (ckb kd M)), .int (nI (nk kd)), .ref wi, .ref ck, .ref fq, .ref co, .int (nI (grsK kd M)), .int (nI ifo), .int (nI fl), .long (ma), .int (mk), .int (bi), .long (wo9), .int (ch9), .int (tu9), .ref sq, .ref uq, .ref gq])) :: (wi, .inl (g 0, 4, .inl (fw))) :: (ck, .inl (g 0, 4, .inl (fc))) :: (fq, .inl (g 0, 4, .inl (ff))) :: (co, .inl (g 0, 228, .inl (fco))) :: (sq, .inl (g 0, 8, .inl (fsq))) :: (uq, .inl (g 2, 128, .inl (fu))) :: (gq, .inl (g 0, 7, .inl (fg))) :: wm) s.heap.size = A at hD ⊢
  have hA : ∀ q : Nat, s.heap.size ≤ q → A q := fun q h => by rw [← hAe]; exact Or.inr h
  have hS : va_S A s.heap s.heap [] := va_S.rf
  have hl := lv_entry ([.ref mo, .int (nI a), .int (nI b)]) (n := 6) (Nat.le_of_ble_eq_true rfl)
  rw [lg_entry_eq]
  generalize (lg_sl ([.ref mo, .int (nI a), .int (nI b)]) ++ List.replicate (6 - (lg_sl ([.ref mo, .int (nI a), .int (nI b)])).length) Slot.unset).toArray = ls at hl ⊢
  have hl : lv_has ls 6 [(0, .ref mo), (1, .int (nI a)), (2, .int (nI b))] := hl
  generalize hQ : MQ below (va_Qi (fun (r : Int32) (u : (Int64 × Int32 × Int32)) => r = nI (pairA kd M a b)) (fun u => qB D (A) ((mo, .inr (6, [.int (th), .int (nI M), .int (nI kd), .int (nI (ckb kd M)), .int (nI (nk kd)), .ref wi, .ref ck, .ref fq, .ref co, .int (nI (grsK kd M)), .int (nI ifo), .int (nI fl), .long (u.1), .int (u.2.1), .int (u.2.2), .long (wo9), .int (ch9), .int (tu9), .ref sq, .ref uq, .ref gq])) :: (wi, .inl (g 0, 4, .inl (fw))) :: (ck, .inl (g 0, 4, .inl (fc))) :: (fq, .inl (g 0, 4, .inl (ff))) :: (co, .inl (g 0, 228, .inl (fco))) :: (sq, .inl (g 0, 8, .inl (fsq))) :: (uq, .inl (g 2, 128, .inl (fu))) :: (gq, .inl (g 0, 7, .inl (fg))) :: wm)) (A)) [.ref mo, .int (nI a), .int (nI b)].toArray s 0 0 A = Q
  have hck := ckb_le kd M
  have hwa := wpt_lt (a := a) hM
  have hwb := wpt_lt (a := b) hM
  have hca := cpt_lt ha9
  have hcb := cpt_lt hb9
  have j72 : ∀  (ls : Array Slot) (H : Heap) (locs : List Loc), lv_has ls 6 [(0, .ref mo), (1, .int (nI a)), (2, .int (nI b)), (3, .long (lN (wpt M a ||| wpt M b)))] → va_P D vwCl ((mo, .inr (6, [.int (th), .int (nI M), .int (nI kd), .int (nI (ckb kd M)), .int (nI (nk kd)), .ref wi, .ref ck, .ref fq, .ref co, .int (nI (grsK kd M)), .int (nI ifo), .int (nI fl), .long (ma), .int (mk), .int (bi), .long (wo9), .int (ch9), .int (tu9), .ref sq, .ref uq, .ref gq])) :: (wi, .inl (g 0, 4, .inl (fw))) :: (ck, .inl (g 0, 4, .inl (fc))) :: (fq, .inl (g 0, 4, .inl (ff))) :: (co, .inl (g 0, 228, .inl (fco))) :: (sq, .inl (g 0, 8, .inl (fsq))) :: (uq, .inl (g 2, 128, .inl (fu))) :: (gq, .inl (g 0, 7, .inl (fg))) :: wm) H → va_D A ((mo, .inr (6, [.int (th), .int (nI M), .int (nI kd), .int (nI (ckb kd M)), .int (nI (nk kd)), .ref wi, .ref ck, .ref fq, .ref co, .int (nI (grsK kd M)), .int (nI ifo), .int (nI fl), .long (ma), .int (mk), .int (bi), .long (wo9), .int (ch9), .int (tu9), .ref sq, .ref uq, .ref gq])) :: (wi, .inl (g 0, 4, .inl (fw))) :: (ck, .inl (g 0, 4, .inl (fc))) :: (fq, .inl (g 0, 4, .inl (ff))) :: (co, .inl (g 0, 228, .inl (fco))) :: (sq, .inl (g 0, 8, .inl (fsq))) :: (uq, .inl (g 2, 128, .inl (fu))) :: (gq, .inl (g 0, 7, .inl (fg))) :: wm) → va_S A s.heap H locs → W p l e (headSpec w_M_answerOf rm_M_answerOf).room s m [.ref mo, .int (nI a), .int (nI b)].toArray below meth c H locs 0 0 Q (F0 m 72 ls [.int (nI (cpt M b)), .int (nI (cpt M a))]) := by
    intro  ls H locs  hl hP hD hS
    refine lx_ior (z := nI ((cpt M a) ||| (cpt M b))) hx hb d_M_answerOf_72 (xn_or (cpt M a) (cpt M b)) ?_
    refine lv_istore (lv' := [(5, .int (nI ((cpt M a) ||| (cpt M b)))), (0, .ref mo), (1, .int (nI a)), (2, .int (nI b)), (3, .long (lN (wpt M a ||| wpt M b)))]) hx hb d_M_answerOf_73 hl (by decide) rfl (fun ls hl => ?_)
    refine lv_aload_n hx hb d_M_answerOf_75 rfl (lv_at hl 1 rfl) ?_
    refine lv_lload_n hx hb d_M_answerOf_76 rfl (lv_at hl 4 rfl) ?_
    refine lv_aload_n hx hb d_M_answerOf_77 rfl (lv_at hl 1 rfl) ?_
    refine lc_Vi (b := mo) (As := []) (rest := [.long (lN (wpt M a ||| wpt M b)), .ref mo]) ⟨hx, hb, hml, hown, hts⟩ (c_M_folded l D g _ wm mo wi ck fq co sq uq gq kd M ifo fl th mk bi ch9 tu9 ma wo9 fw fc ff fco fsq fu fg hM0 hM hif) (kV 0 hts m_703 m_700 m_702 m_16 m_40 (by decide +kernel) ⟨Nat.le_of_ble_eq_true rfl, Nat.le_of_ble_eq_true rfl⟩) (va_recv hK hP (ci := 6) (q0 := 0) rfl rfl) hKK hP hD hS hA hl.1 rfl rfl (Nat.le_of_ble_eq_true rfl) d_M_answerOf_78 ⟨Nat.le_of_ble_eq_true rfl, Nat.le_of_ble_eq_true rfl⟩ (fun r2 u2 H locs e2 hP hD hS => ?_)
    obtain rfl : r2 = nI (if ifo = 1 then fl else 0) := e2
    refine lv_iload hx hb d_M_answerOf_81 (lv_at hl 0 rfl) ?_
    refine lx_ixor (z := nI ((if ifo = 1 then fl else 0) ^^^ ((cpt M a) ||| (cpt M b)))) hx hb d_M_answerOf_83 (xn_xor (if ifo = 1 then fl else 0) ((cpt M a) ||| (cpt M b))) ?_
    refine lc_Vi (b := mo) (As := [.long (lN (wpt M a ||| wpt M b)), .int (nI ((if ifo = 1 then fl else 0) ^^^ ((cpt M a) ||| (cpt M b))))]) (rest := []) ⟨hx, hb, hml, hown, hts⟩ (c_M_answerTo l D g _ wm mo wi ck fq co sq uq gq kd M ifo fl th mk bi ch9 tu9 ma wo9 fw fc ff fco fsq fu fg hM0 hM (wpt M a ||| wpt M b) (cpt M a ||| cpt M b) (pow_mono (Nat.or_lt_two_pow hwa hwb) (by decide)) (Nat.or_lt_two_pow hca hcb) hif hfl hkd hmw) (kV 2 hts m_774 m_771 m_773 m_26 m_40 (by decide +kernel) ⟨Nat.le_of_ble_eq_true rfl, Nat.le_of_ble_eq_true rfl⟩) (va_recv hK hP (ci := 6) (q0 := 0) rfl rfl) hKK hP hD hS hA hl.1 rfl rfl (Nat.le_of_ble_eq_true rfl) d_M_answerOf_84 ⟨Nat.le_of_ble_eq_true rfl, Nat.le_of_ble_eq_true rfl⟩ (fun rr u H locs er hP hD hS => ?_)
    have hP : va_P D vwCl ((mo, .inr (6, [.int (th), .int (nI M), .int (nI kd), .int (nI (ckb kd M)), .int (nI (nk kd)), .ref wi, .ref ck, .ref fq, .ref co, .int (nI (grsK kd M)), .int (nI ifo), .int (nI fl), .long (u.1), .int (u.2.1), .int (u.2.2), .long (wo9), .int (ch9), .int (tu9), .ref sq, .ref uq, .ref gq])) :: (wi, .inl (g 0, 4, .inl (fw))) :: (ck, .inl (g 0, 4, .inl (fc))) :: (fq, .inl (g 0, 4, .inl (ff))) :: (co, .inl (g 0, 228, .inl (fco))) :: (sq, .inl (g 0, 8, .inl (fsq))) :: (uq, .inl (g 2, 128, .inl (fu))) :: (gq, .inl (g 0, 7, .inl (fg))) :: wm) H := hP
    have hD : va_D A ((mo, .inr (6, [.int (th), .int (nI M), .int (nI kd), .int (nI (ckb kd M)), .int (nI (nk kd)), .ref wi, .ref ck, .ref fq, .ref co, .int (nI (grsK kd M)), .int (nI ifo), .int (nI fl), .long (u.1), .int (u.2.1), .int (u.2.2), .long (wo9), .int (ch9), .int (tu9), .ref sq, .ref uq, .ref gq])) :: (wi, .inl (g 0, 4, .inl (fw))) :: (ck, .inl (g 0, 4, .inl (fc))) :: (fq, .inl (g 0, 4, .inl (ff))) :: (co, .inl (g 0, 228, .inl (fco))) :: (sq, .inl (g 0, 8, .inl (fsq))) :: (uq, .inl (g 2, 128, .inl (fu))) :: (gq, .inl (g 0, 7, .inl (fg))) :: wm) := hD
    rw [← hQ]
    refine W.iret (v := rr) hx hb hr ?_ hS.2.2 d_M_answerOf_87
    exact fun t ht hW => ⟨⟨rr, u, rfl, er, by rw [ht]; exact hP, hD⟩, hS.F ht⟩
  have j52 : ∀  (ls : Array Slot) (H : Heap) (locs : List Loc), lv_has ls 6 [(0, .ref mo), (1, .int (nI a)), (2, .int (nI b)), (3, .long (lN (wpt M a ||| wpt M b)))] → va_P D vwCl ((mo, .inr (6, [.int (th), .int (nI M), .int (nI kd), .int (nI (ckb kd M)), .int (nI (nk kd)), .ref wi, .ref ck, .ref fq, .ref co, .int (nI (grsK kd M)), .int (nI ifo), .int (nI fl), .long (ma), .int (mk), .int (bi), .long (wo9), .int (ch9), .int (tu9), .ref sq, .ref uq, .ref gq])) :: (wi, .inl (g 0, 4, .inl (fw))) :: (ck, .inl (g 0, 4, .inl (fc))) :: (fq, .inl (g 0, 4, .inl (ff))) :: (co, .inl (g 0, 228, .inl (fco))) :: (sq, .inl (g 0, 8, .inl (fsq))) :: (uq, .inl (g 2, 128, .inl (fu))) :: (gq, .inl (g 0, 7, .inl (fg))) :: wm) H → va_D A ((mo, .inr (6, [.int (th), .int (nI M), .int (nI kd), .int (nI (ckb kd M)), .int (nI (nk kd)), .ref wi, .ref ck, .ref fq, .ref co, .int (nI (grsK kd M)), .int (nI ifo), .int (nI fl), .long (ma), .int (mk), .int (bi), .long (wo9), .int (ch9), .int (tu9), .ref sq, .ref uq, .ref gq])) :: (wi, .inl (g 0, 4, .inl (fw))) :: (ck, .inl (g 0, 4, .inl (fc))) :: (fq, .inl (g 0, 4, .inl (ff))) :: (co, .inl (g 0, 228, .inl (fco))) :: (sq, .inl (g 0, 8, .inl (fsq))) :: (uq, .inl (g 2, 128, .inl (fu))) :: (gq, .inl (g 0, 7, .inl (fg))) :: wm) → va_S A s.heap H locs → W p l e (headSpec w_M_answerOf rm_M_answerOf).room s m [.ref mo, .int (nI a), .int (nI b)].toArray below meth c H locs 0 0 Q (F0 m 52 ls [.int (nI (cpt M a))]) := by
    intro  ls H locs  hl hP hD hS
    refine lv_iload_n hx hb d_M_answerOf_52 rfl (lv_at hl 2 rfl) ?_
    refine lv_aload_n hx hb d_M_answerOf_53 rfl (lv_at hl 0 rfl) ?_
    refine va_get (D := D) (ci := 6) (v := .int (nI M)) (C := R_M) (T := F_M) (N := 21) hx hb hts i_M hown hK hP 0 rfl rfl 1 (by decide) (hts _ m_604) (fun _ h9 => h9) rfl d_M_answerOf_54 ?_
    refine lx_icmp_ge (tgt := 64) hx hb d_M_answerOf_57 (by decide) (by omega) (by omega) (fun c57 => ?_) (fun c57 => ?_)
    · skip
      refine lv_iconst (v := nI 1) hx hb d_M_answerOf_64 (by decide) ?_
      refine lv_iload_n hx hb d_M_answerOf_65 rfl (lv_at hl 2 rfl) ?_
      refine lv_aload_n hx hb d_M_answerOf_66 rfl (lv_at hl 0 rfl) ?_
      refine va_get (D := D) (ci := 6) (v := .int (nI M)) (C := R_M) (T := F_M) (N := 21) hx hb hts i_M hown hK hP 0 rfl rfl 1 (by decide) (hts _ m_604) (fun _ h9 => h9) rfl d_M_answerOf_67 ?_
      refine lx_isub (z := nI (b - M)) hx hb d_M_answerOf_70 (pk_sub (by omega)) ?_
      refine lx_ishl (z := nI (1 <<< (b - M))) hx hb d_M_answerOf_71 (xn_shl 1 (by omega)) ?_
      refine lv_topi (fun y9 ey => ?_)
      obtain rfl : y9 = nI (cpt M b) := ey.trans (by unfold cpt; rw [if_neg (by omega)])
      exact j72  _ _ _  (lv_sub hl [0, 1, 2, 3] rfl) hP hD hS
    · skip
      refine lv_iconst (v := nI 0) hx hb d_M_answerOf_60 (by decide) ?_
      refine lv_goto (tgt := 72) hx hb d_M_answerOf_61 (by decide) ?_
      refine lv_topi (fun y9 ey => ?_)
      obtain rfl : y9 = nI (cpt M b) := ey.trans (by unfold cpt; rw [if_pos c57])
      exact j72  _ _ _  (lv_sub hl [0, 1, 2, 3] rfl) hP hD hS
  have j30 : ∀  (ls : Array Slot) (H : Heap) (locs : List Loc), lv_has ls 6 [(0, .ref mo), (1, .int (nI a)), (2, .int (nI b))] → va_P D vwCl ((mo, .inr (6, [.int (th), .int (nI M), .int (nI kd), .int (nI (ckb kd M)), .int (nI (nk kd)), .ref wi, .ref ck, .ref fq, .ref co, .int (nI (grsK kd M)), .int (nI ifo), .int (nI fl), .long (ma), .int (mk), .int (bi), .long (wo9), .int (ch9), .int (tu9), .ref sq, .ref uq, .ref gq])) :: (wi, .inl (g 0, 4, .inl (fw))) :: (ck, .inl (g 0, 4, .inl (fc))) :: (fq, .inl (g 0, 4, .inl (ff))) :: (co, .inl (g 0, 228, .inl (fco))) :: (sq, .inl (g 0, 8, .inl (fsq))) :: (uq, .inl (g 2, 128, .inl (fu))) :: (gq, .inl (g 0, 7, .inl (fg))) :: wm) H → va_D A ((mo, .inr (6, [.int (th), .int (nI M), .int (nI kd), .int (nI (ckb kd M)), .int (nI (nk kd)), .ref wi, .ref ck, .ref fq, .ref co, .int (nI (grsK kd M)), .int (nI ifo), .int (nI fl), .long (ma), .int (mk), .int (bi), .long (wo9), .int (ch9), .int (tu9), .ref sq, .ref uq, .ref gq])) :: (wi, .inl (g 0, 4, .inl (fw))) :: (ck, .inl (g 0, 4, .inl (fc))) :: (fq, .inl (g 0, 4, .inl (ff))) :: (co, .inl (g 0, 228, .inl (fco))) :: (sq, .inl (g 0, 8, .inl (fsq))) :: (uq, .inl (g 2, 128, .inl (fu))) :: (gq, .inl (g 0, 7, .inl (fg))) :: wm) → va_S A s.heap H locs → W p l e (headSpec w_M_answerOf rm_M_answerOf).room s m [.ref mo, .int (nI a), .int (nI b)].toArray below meth c H locs 0 0 Q (F0 m 30 ls [.long (lN (wpt M b)), .long (lN (wpt M a))]) := by
    intro  ls H locs  hl hP hD hS
    refine lx_lor (z := lN ((wpt M a) ||| (wpt M b))) hx hb d_M_answerOf_30 (xl_or (wpt M a) (wpt M b)) ?_
    refine lv_lstore_n (lv' := [(3, .long (lN ((wpt M a) ||| (wpt M b)))), (0, .ref mo), (1, .int (nI a)), (2, .int (nI b))]) hx hb d_M_answerOf_31 rfl hl (by decide) rfl (fun ls hl => ?_)
    refine lv_iload_n hx hb d_M_answerOf_32 rfl (lv_at hl 2 rfl) ?_
    refine lv_aload_n hx hb d_M_answerOf_33 rfl (lv_at hl 1 rfl) ?_
    refine va_get (D := D) (ci := 6) (v := .int (nI M)) (C := R_M) (T := F_M) (N := 21) hx hb hts i_M hown hK hP 0 rfl rfl 1 (by decide) (hts _ m_604) (fun _ h9 => h9) rfl d_M_answerOf_34 ?_
    refine lx_icmp_ge (tgt := 44) hx hb d_M_answerOf_37 (by decide) (by omega) (by omega) (fun c37 => ?_) (fun c37 => ?_)
    · skip
      refine lv_iconst (v := nI 1) hx hb d_M_answerOf_44 (by decide) ?_
      refine lv_iload_n hx hb d_M_answerOf_45 rfl (lv_at hl 2 rfl) ?_
      refine lv_aload_n hx hb d_M_answerOf_46 rfl (lv_at hl 1 rfl) ?_
      refine va_get (D := D) (ci := 6) (v := .int (nI M)) (C := R_M) (T := F_M) (N := 21) hx hb hts i_M hown hK hP 0 rfl rfl 1 (by decide) (hts _ m_604) (fun _ h9 => h9) rfl d_M_answerOf_47 ?_
      refine lx_isub (z := nI (a - M)) hx hb d_M_answerOf_50 (pk_sub (by omega)) ?_
      refine lx_ishl (z := nI (1 <<< (a - M))) hx hb d_M_answerOf_51 (xn_shl 1 (by omega)) ?_
      refine lv_topi (fun y9 ey => ?_)
      obtain rfl : y9 = nI (cpt M a) := ey.trans (by unfold cpt; rw [if_neg (by omega)])
      exact j52  _ _ _  (lv_sub hl [1, 2, 3, 0] rfl) hP hD hS
    · skip
      refine lv_iconst (v := nI 0) hx hb d_M_answerOf_40 (by decide) ?_
      refine lv_goto (tgt := 52) hx hb d_M_answerOf_41 (by decide) ?_
      refine lv_topi (fun y9 ey => ?_)
      obtain rfl : y9 = nI (cpt M a) := ey.trans (by unfold cpt; rw [if_pos c37])
      exact j52  _ _ _  (lv_sub hl [1, 2, 3, 0] rfl) hP hD hS
  have j15 : ∀  (ls : Array Slot) (H : Heap) (locs : List Loc), lv_has ls 6 [(0, .ref mo), (1, .int (nI a)), (2, .int (nI b))] → va_P D vwCl ((mo, .inr (6, [.int (th), .int (nI M), .int (nI kd), .int (nI (ckb kd M)), .int (nI (nk kd)), .ref wi, .ref ck, .ref fq, .ref co, .int (nI (grsK kd M)), .int (nI ifo), .int (nI fl), .long (ma), .int (mk), .int (bi), .long (wo9), .int (ch9), .int (tu9), .ref sq, .ref uq, .ref gq])) :: (wi, .inl (g 0, 4, .inl (fw))) :: (ck, .inl (g 0, 4, .inl (fc))) :: (fq, .inl (g 0, 4, .inl (ff))) :: (co, .inl (g 0, 228, .inl (fco))) :: (sq, .inl (g 0, 8, .inl (fsq))) :: (uq, .inl (g 2, 128, .inl (fu))) :: (gq, .inl (g 0, 7, .inl (fg))) :: wm) H → va_D A ((mo, .inr (6, [.int (th), .int (nI M), .int (nI kd), .int (nI (ckb kd M)), .int (nI (nk kd)), .ref wi, .ref ck, .ref fq, .ref co, .int (nI (grsK kd M)), .int (nI ifo), .int (nI fl), .long (ma), .int (mk), .int (bi), .long (wo9), .int (ch9), .int (tu9), .ref sq, .ref uq, .ref gq])) :: (wi, .inl (g 0, 4, .inl (fw))) :: (ck, .inl (g 0, 4, .inl (fc))) :: (fq, .inl (g 0, 4, .inl (ff))) :: (co, .inl (g 0, 228, .inl (fco))) :: (sq, .inl (g 0, 8, .inl (fsq))) :: (uq, .inl (g 2, 128, .inl (fu))) :: (gq, .inl (g 0, 7, .inl (fg))) :: wm) → va_S A s.heap H locs → W p l e (headSpec w_M_answerOf rm_M_answerOf).room s m [.ref mo, .int (nI a), .int (nI b)].toArray below meth c H locs 0 0 Q (F0 m 15 ls [.long (lN (wpt M a))]) := by
    intro  ls H locs  hl hP hD hS
    refine lv_iload_n hx hb d_M_answerOf_15 rfl (lv_at hl 2 rfl) ?_
    refine lv_aload_n hx hb d_M_answerOf_16 rfl (lv_at hl 0 rfl) ?_
    refine va_get (D := D) (ci := 6) (v := .int (nI M)) (C := R_M) (T := F_M) (N := 21) hx hb hts i_M hown hK hP 0 rfl rfl 1 (by decide) (hts _ m_604) (fun _ h9 => h9) rfl d_M_answerOf_17 ?_
    refine lx_icmp_ge (tgt := 29) hx hb d_M_answerOf_20 (by decide) (by omega) (by omega) (fun c20 => ?_) (fun c20 => ?_)
    · skip
      refine lv_lconst (v := lN 0) hx hb d_M_answerOf_29 (by decide) ?_
      refine lv_topl (fun y9 ey => ?_)
      obtain rfl : y9 = lN (wpt M b) := ey.trans (by unfold wpt; rw [if_neg (by omega)])
      exact j30  _ _ _  (lv_sub hl [0, 1, 2] rfl) hP hD hS
    · skip
      refine lv_lconst (v := lN 1) hx hb d_M_answerOf_23 (by decide) ?_
      refine lv_iload_n hx hb d_M_answerOf_24 rfl (lv_at hl 2 rfl) ?_
      refine lv_lshl (v := lN (1 <<< b)) hx hb d_M_answerOf_25 (xl_shl 1 (by omega)) ?_
      refine lv_goto (tgt := 30) hx hb d_M_answerOf_26 (by decide) ?_
      refine lv_topl (fun y9 ey => ?_)
      obtain rfl : y9 = lN (wpt M b) := ey.trans (by unfold wpt; rw [if_pos c20])
      exact j30  _ _ _  (lv_sub hl [0, 1, 2] rfl) hP hD hS
  refine lv_iload_n hx hb d_M_answerOf_0 rfl (lv_at hl 1 rfl) ?_
  refine lv_aload_n hx hb d_M_answerOf_1 rfl (lv_at hl 0 rfl) ?_
  refine va_get (D := D) (ci := 6) (v := .int (nI M)) (C := R_M) (T := F_M) (N := 21) hx hb hts i_M hown hK hP 0 rfl rfl 1 (by decide) (hts _ m_604) (fun _ h9 => h9) rfl d_M_answerOf_2 ?_
  refine lx_icmp_ge (tgt := 14) hx hb d_M_answerOf_5 (by decide) (by omega) (by omega) (fun c5 => ?_) (fun c5 => ?_)
  · skip
    refine lv_lconst (v := lN 0) hx hb d_M_answerOf_14 (by decide) ?_
    refine lv_topl (fun y9 ey => ?_)
    obtain rfl : y9 = lN (wpt M a) := ey.trans (by unfold wpt; rw [if_neg (by omega)])
    exact j15  _ _ _  (lv_sub hl [0, 1, 2] rfl) hP hD hS
  · skip
    refine lv_lconst (v := lN 1) hx hb d_M_answerOf_8 (by decide) ?_
    refine lv_iload_n hx hb d_M_answerOf_9 rfl (lv_at hl 1 rfl) ?_
    refine lv_lshl (v := lN (1 <<< a)) hx hb d_M_answerOf_10 (xl_shl 1 (by omega)) ?_
    refine lv_goto (tgt := 15) hx hb d_M_answerOf_11 (by decide) ?_
    refine lv_topl (fun y9 ey => ?_)
    obtain rfl : y9 = lN (wpt M a) := ey.trans (by unfold wpt; rw [if_pos c5])
    exact j15  _ _ _  (lv_sub hl [0, 1, 2] rfl) hP hD hS
