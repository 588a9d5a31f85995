abbrev w_M_column : List Cond := .code y_M_column b_M_column 2 (some .int) :: wA
abbrev rm_M_column : Room := { frames := 1, cells := 0, slots := 0, locals := 22 }
theorem d_M_column_0 : decode b_M_column 0 = .ok (.aload_n 0, 1) := by decide +kernel
theorem d_M_column_1 : decode b_M_column 1 = .ok (.iload_n 1, 1) := by decide +kernel
theorem d_M_column_2 : decode b_M_column 2 = .ok (.iconst 0, 1) := by decide +kernel
theorem d_M_column_3 : decode b_M_column 3 = .ok (.aload_n 0, 1) := by decide +kernel
theorem d_M_column_4 : decode b_M_column 4 = .ok (.getfield 34, 3) := by decide +kernel
theorem d_M_column_7 : decode b_M_column 7 = .ok (.iconst 1, 1) := by decide +kernel
theorem d_M_column_8 : decode b_M_column 8 = .ok (.isub, 1) := by decide +kernel
theorem d_M_column_9 : decode b_M_column 9 = .ok (.invokestatic 131, 3) := by decide +kernel
theorem d_M_column_12 : decode b_M_column 12 = .ok (.ifCond .ne 7, 3) := by decide +kernel
theorem d_M_column_15 : decode b_M_column 15 = .ok (.iconst 1, 1) := by decide +kernel
theorem d_M_column_16 : decode b_M_column 16 = .ok (.goto 4, 3) := by decide +kernel
theorem d_M_column_19 : decode b_M_column 19 = .ok (.iconst 0, 1) := by decide +kernel
theorem d_M_column_20 : decode b_M_column 20 = .ok (.aload_n 0, 1) := by decide +kernel
theorem d_M_column_21 : decode b_M_column 21 = .ok (.getfield 38, 3) := by decide +kernel
theorem d_M_column_24 : decode b_M_column 24 = .ok (.iconst 2, 1) := by decide +kernel
theorem d_M_column_25 : decode b_M_column 25 = .ok (.if_icmp .ne 7, 3) := by decide +kernel
theorem d_M_column_28 : decode b_M_column 28 = .ok (.iconst 1, 1) := by decide +kernel
theorem d_M_column_29 : decode b_M_column 29 = .ok (.goto 4, 3) := by decide +kernel
theorem d_M_column_32 : decode b_M_column 32 = .ok (.iconst 0, 1) := by decide +kernel
theorem d_M_column_33 : decode b_M_column 33 = .ok (.invokevirtual 135, 3) := by decide +kernel
theorem d_M_column_36 : decode b_M_column 36 = .ok (.ifCond .eq 5, 3) := by decide +kernel
theorem d_M_column_39 : decode b_M_column 39 = .ok (.iconst 0, 1) := by decide +kernel
theorem d_M_column_40 : decode b_M_column 40 = .ok (.ireturn, 1) := by decide +kernel
theorem d_M_column_41 : decode b_M_column 41 = .ok (.aload_n 0, 1) := by decide +kernel
theorem d_M_column_42 : decode b_M_column 42 = .ok (.getfield 38, 3) := by decide +kernel
theorem d_M_column_45 : decode b_M_column 45 = .ok (.iconst 1, 1) := by decide +kernel
theorem d_M_column_46 : decode b_M_column 46 = .ok (.if_icmp .ne 14, 3) := by decide +kernel
theorem d_M_column_49 : decode b_M_column 49 = .ok (.iconst 1, 1) := by decide +kernel
theorem d_M_column_50 : decode b_M_column 50 = .ok (.iload_n 1, 1) := by decide +kernel
theorem d_M_column_51 : decode b_M_column 51 = .ok (.aload_n 0, 1) := by decide +kernel
theorem d_M_column_52 : decode b_M_column 52 = .ok (.getfield 44, 3) := by decide +kernel
theorem d_M_column_55 : decode b_M_column 55 = .ok (.irem, 1) := by decide +kernel
theorem d_M_column_56 : decode b_M_column 56 = .ok (.ishl, 1) := by decide +kernel
theorem d_M_column_57 : decode b_M_column 57 = .ok (.goto 24, 3) := by decide +kernel
theorem d_M_column_60 : decode b_M_column 60 = .ok (.aload_n 0, 1) := by decide +kernel
theorem d_M_column_61 : decode b_M_column 61 = .ok (.getfield 19, 3) := by decide +kernel
theorem d_M_column_64 : decode b_M_column 64 = .ok (.bipush 57, 2) := by decide +kernel
theorem d_M_column_66 : decode b_M_column 66 = .ok (.iload_n 1, 1) := by decide +kernel
theorem d_M_column_67 : decode b_M_column 67 = .ok (.aload_n 0, 1) := by decide +kernel
theorem d_M_column_68 : decode b_M_column 68 = .ok (.getfield 41, 3) := by decide +kernel
theorem d_M_column_71 : decode b_M_column 71 = .ok (.irem, 1) := by decide +kernel
theorem d_M_column_72 : decode b_M_column 72 = .ok (.imul, 1) := by decide +kernel
theorem d_M_column_73 : decode b_M_column 73 = .ok (.iload_n 1, 1) := by decide +kernel
theorem d_M_column_74 : decode b_M_column 74 = .ok (.aload_n 0, 1) := by decide +kernel
theorem d_M_column_75 : decode b_M_column 75 = .ok (.getfield 41, 3) := by decide +kernel
theorem d_M_column_78 : decode b_M_column 78 = .ok (.idiv, 1) := by decide +kernel
theorem d_M_column_79 : decode b_M_column 79 = .ok (.iadd, 1) := by decide +kernel
theorem d_M_column_80 : decode b_M_column 80 = .ok (.iaload, 1) := by decide +kernel
theorem d_M_column_81 : decode b_M_column 81 = .ok (.ireturn, 1) := by decide +kernel
abbrev w_M_share : List Cond := .code y_M_share b_M_share 7 (some .int) :: wA
abbrev rm_M_share : Room := { frames := 8, cells := 0, slots := 0, locals := 196 }
theorem d_M_share_0 : decode b_M_share 0 = .ok (.aload_n 0, 1) := by decide +kernel
theorem d_M_share_1 : decode b_M_share 1 = .ok (.iload_n 1, 1) := by decide +kernel
theorem d_M_share_2 : decode b_M_share 2 = .ok (.iconst 0, 1) := by decide +kernel
theorem d_M_share_3 : decode b_M_share 3 = .ok (.iconst 1, 1) := by decide +kernel
theorem d_M_share_4 : decode b_M_share 4 = .ok (.invokestatic 131, 3) := by decide +kernel
theorem d_M_share_7 : decode b_M_share 7 = .ok (.ifCond .ne 7, 3) := by decide +kernel
theorem d_M_share_10 : decode b_M_share 10 = .ok (.iconst 1, 1) := by decide +kernel
theorem d_M_share_11 : decode b_M_share 11 = .ok (.goto 4, 3) := by decide +kernel
theorem d_M_share_14 : decode b_M_share 14 = .ok (.iconst 0, 1) := by decide +kernel
theorem d_M_share_15 : decode b_M_share 15 = .ok (.iconst 0, 1) := by decide +kernel
theorem d_M_share_16 : decode b_M_share 16 = .ok (.invokevirtual 135, 3) := by decide +kernel
theorem d_M_share_19 : decode b_M_share 19 = .ok (.ifCond .eq 5, 3) := by decide +kernel
theorem d_M_share_22 : decode b_M_share 22 = .ok (.iconst 0, 1) := by decide +kernel
theorem d_M_share_23 : decode b_M_share 23 = .ok (.ireturn, 1) := by decide +kernel
theorem d_M_share_24 : decode b_M_share 24 = .ok (.aload_n 0, 1) := by decide +kernel
theorem d_M_share_25 : decode b_M_share 25 = .ok (.iconst 1, 1) := by decide +kernel
theorem d_M_share_26 : decode b_M_share 26 = .ok (.iconst 3, 1) := by decide +kernel
theorem d_M_share_27 : decode b_M_share 27 = .ok (.invokevirtual 152, 3) := by decide +kernel
theorem d_M_share_30 : decode b_M_share 30 = .ok (.istore_n 2, 1) := by decide +kernel
theorem d_M_share_31 : decode b_M_share 31 = .ok (.aload_n 0, 1) := by decide +kernel
theorem d_M_share_32 : decode b_M_share 32 = .ok (.getfield 34, 3) := by decide +kernel
theorem d_M_share_35 : decode b_M_share 35 = .ok (.aload_n 0, 1) := by decide +kernel
theorem d_M_share_36 : decode b_M_share 36 = .ok (.getfield 44, 3) := by decide +kernel
theorem d_M_share_39 : decode b_M_share 39 = .ok (.iadd, 1) := by decide +kernel
theorem d_M_share_40 : decode b_M_share 40 = .ok (.aload_n 0, 1) := by decide +kernel
theorem d_M_share_41 : decode b_M_share 41 = .ok (.getfield 34, 3) := by decide +kernel
theorem d_M_share_44 : decode b_M_share 44 = .ok (.aload_n 0, 1) := by decide +kernel
theorem d_M_share_45 : decode b_M_share 45 = .ok (.getfield 44, 3) := by decide +kernel
theorem d_M_share_48 : decode b_M_share 48 = .ok (.iadd, 1) := by decide +kernel
theorem d_M_share_49 : decode b_M_share 49 = .ok (.iconst 1, 1) := by decide +kernel
theorem d_M_share_50 : decode b_M_share 50 = .ok (.isub, 1) := by decide +kernel
theorem d_M_share_51 : decode b_M_share 51 = .ok (.imul, 1) := by decide +kernel
theorem d_M_share_52 : decode b_M_share 52 = .ok (.iconst 2, 1) := by decide +kernel
theorem d_M_share_53 : decode b_M_share 53 = .ok (.idiv, 1) := by decide +kernel
theorem d_M_share_54 : decode b_M_share 54 = .ok (.istore_n 3, 1) := by decide +kernel
theorem d_M_share_55 : decode b_M_share 55 = .ok (.iload_n 3, 1) := by decide +kernel
theorem d_M_share_56 : decode b_M_share 56 = .ok (.istore 4, 2) := by decide +kernel
theorem d_M_share_58 : decode b_M_share 58 = .ok (.iload_n 2, 1) := by decide +kernel
theorem d_M_share_59 : decode b_M_share 59 = .ok (.istore 5, 2) := by decide +kernel
theorem d_M_share_61 : decode b_M_share 61 = .ok (.iload 5, 2) := by decide +kernel
theorem d_M_share_63 : decode b_M_share 63 = .ok (.ifCond .le 21, 3) := by decide +kernel
theorem d_M_share_66 : decode b_M_share 66 = .ok (.iload 4, 2) := by decide +kernel
theorem d_M_share_68 : decode b_M_share 68 = .ok (.iload 5, 2) := by decide +kernel
theorem d_M_share_70 : decode b_M_share 70 = .ok (.irem, 1) := by decide +kernel
theorem d_M_share_71 : decode b_M_share 71 = .ok (.istore 6, 2) := by decide +kernel
theorem d_M_share_73 : decode b_M_share 73 = .ok (.iload 5, 2) := by decide +kernel
theorem d_M_share_75 : decode b_M_share 75 = .ok (.istore 4, 2) := by decide +kernel
theorem d_M_share_77 : decode b_M_share 77 = .ok (.iload 6, 2) := by decide +kernel
theorem d_M_share_79 : decode b_M_share 79 = .ok (.istore 5, 2) := by decide +kernel
theorem d_M_share_81 : decode b_M_share 81 = .ok (.goto (-20), 3) := by decide +kernel
theorem d_M_share_84 : decode b_M_share 84 = .ok (.iload_n 1, 1) := by decide +kernel
theorem d_M_share_85 : decode b_M_share 85 = .ok (.ifCond .ne 10, 3) := by decide +kernel
theorem d_M_share_88 : decode b_M_share 88 = .ok (.iload_n 2, 1) := by decide +kernel
theorem d_M_share_89 : decode b_M_share 89 = .ok (.iload 4, 2) := by decide +kernel
theorem d_M_share_91 : decode b_M_share 91 = .ok (.idiv, 1) := by decide +kernel
theorem d_M_share_92 : decode b_M_share 92 = .ok (.goto 7, 3) := by decide +kernel
theorem d_M_share_95 : decode b_M_share 95 = .ok (.iload_n 3, 1) := by decide +kernel
theorem d_M_share_96 : decode b_M_share 96 = .ok (.iload 4, 2) := by decide +kernel
theorem d_M_share_98 : decode b_M_share 98 = .ok (.idiv, 1) := by decide +kernel
theorem d_M_share_99 : decode b_M_share 99 = .ok (.ireturn, 1) := by decide +kernel
set_option maxHeartbeats 4000000 in
set_option maxRecDepth 100000 in
theorem c_M_column (l : Launch) (D : va_G) (g : Nat → ClassId) (sz : Nat) (wm : va_W) (mo wi ck fq co sq uq gq kd M ifo fl : Nat) (th mk bi ch9 tu9 : Int32) (ma wo9 : Int64) (fw fc ff fco fsq fu fg : Nat → Int32) (hM0 : 0 < M) (hM : M ≤ 57) (j : Nat) (hj : j < M) (hk2 : kd ≠ 2) (hkd : kd ≤ 3) (hmw : MWF kd M fw fc ff fco) : Met l y_M_column w_M_column rm_M_column (va_Pc [.ref mo, .int (nI j)] (pP D (tyl g) ((mo, .inr (6, [.int (th), .int (nI M), .int (nI kd), .int (nI (ckb kd M)), .int (nI (nk kd)), .ref wi, .ref ck, .ref fq, .ref co, .int (nI (grsK kd M)), .int (nI ifo), .int (nI fl), .long (ma), .int (mk), .int (bi), .long (wo9), .int (ch9), .int (tu9), .ref sq, .ref uq, .ref gq])) :: (wi, .inl (g 0, 4, .inl (fw))) :: (ck, .inl (g 0, 4, .inl (fc))) :: (fq, .inl (g 0, 4, .inl (ff))) :: (co, .inl (g 0, 228, .inl (fco))) :: (sq, .inl (g 0, 8, .inl (fsq))) :: (uq, .inl (g 2, 128, .inl (fu))) :: (gq, .inl (g 0, 7, .inl (fg))) :: wm) sz)) (va_Qi (fun (r : Int32) (u : Unit) => r = nI (colK kd M j)) (fun u => qB D (va_A ((mo, .inr (6, [.int (th), .int (nI M), .int (nI kd), .int (nI (ckb kd M)), .int (nI (nk kd)), .ref wi, .ref ck, .ref fq, .ref co, .int (nI (grsK kd M)), .int (nI ifo), .int (nI fl), .long (ma), .int (mk), .int (bi), .long (wo9), .int (ch9), .int (tu9), .ref sq, .ref uq, .ref gq])) :: (wi, .inl (g 0, 4, .inl (fw))) :: (ck, .inl (g 0, 4, .inl (fc))) :: (fq, .inl (g 0, 4, .inl (ff))) :: (co, .inl (g 0, 228, .inl (fco))) :: (sq, .inl (g 0, 8, .inl (fsq))) :: (uq, .inl (g 2, 128, .inl (fu))) :: (gq, .inl (g 0, 7, .inl (fg))) :: wm) sz) ((mo, .inr (6, [.int (nI 0), .int (nI M), .int (nI kd), .int (nI (ckb kd M)), .int (nI (nk kd)), .ref wi, .ref ck, .ref fq, .ref co, .int (nI (grsK kd M)), .int (nI ifo), .int (nI fl), .long (ma), .int (mk), .int (bi), .long (wo9), .int (ch9), .int (tu9), .ref sq, .ref uq, .ref gq])) :: (wi, .inl (g 0, 4, .inl (fw))) :: (ck, .inl (g 0, 4, .inl (fc))) :: (fq, .inl (g 0, 4, .inl (ff))) :: (co, .inl (g 0, 228, .inl (fco))) :: (sq, .inl (g 0, 8, .inl (fsq))) :: (uq, .inl (g 2, 128, .inl (fu))) :: (gq, .inl (g 0, 7, .inl (fg))) :: wm)) (va_A ((mo, .inr (6, [.int (th), .int (nI M), .int (nI kd), .int (nI (ckb kd M)), .int (nI (nk kd)), .ref wi, .ref ck, .ref fq, .ref co, .int (nI (grsK kd M)), .int (nI ifo), .int (nI fl), .long (ma), .int (mk), .int (bi), .long (wo9), .int (ch9), .int (tu9), .ref sq, .ref uq, .ref gq])) :: (wi, .inl (g 0, 4, .inl (fw))) :: (ck, .inl (g 0, 4, .inl (fc))) :: (fq, .inl (g 0, 4, .inl (ff))) :: (co, .inl (g 0, 228, .inl (fco))) :: (sq, .inl (g 0, 8, .inl (fsq))) :: (uq, .inl (g 2, 128, .inl (fu))) :: (gq, .inl (g 0, 7, .inl (fg))) :: wm) sz)) 0 0 (va_A ((mo, .inr (6, [.int (th), .int (nI M), .int (nI kd), .int (nI (ckb kd M)), .int (nI (nk kd)), .ref wi, .ref ck, .ref fq, .ref co, .int (nI (grsK kd M)), .int (nI ifo), .int (nI fl), .long (ma), .int (mk), .int (bi), .long (wo9), .int (ch9), .int (tu9), .ref sq, .ref uq, .ref gq])) :: (wi, .inl (g 0, 4, .inl (fw))) :: (ck, .inl (g 0, 4, .inl (fc))) :: (fq, .inl (g 0, 4, .inl (ff))) :: (co, .inl (g 0, 228, .inl (fco))) :: (sq, .inl (g 0, 8, .inl (fsq))) :: (uq, .inl (g 2, 128, .inl (fu))) :: (gq, .inl (g 0, 7, .inl (fg))) :: wm) sz) := by
  refine Met.ofW (cc := b_M_column) (maxL := 2) (ret := (some .int)) (by decide +kernel) rfl ?_
  intro p e s m args below meth c s₁ Bq hml hv
  have hx := Bq.exec
  have hb := Bq.bytes
  have hr := Bq.returns
  have hts : ∀ w ∈ wA, w.before args s = true := fun w h => atoms_spec (ws := w_M_column) Bq.pre w (List.mem_cons_of_mem _ h)
  have hown : s.vm.findClass R_M = some m.cls := findClass_of_methodNamed Bq.named
  have hlocks := Bq.notSynchronized
  obtain ⟨rfl, hsz, hP, hKK, hD0⟩ := hv
  have hK := hKK.1
  subst hsz
  have hD := hD0.self (sz := s.heap.size)
  generalize hAe : va_A ((mo, .inr (6, [.int (th), .int (nI M), .int (nI kd), .int (nI (ckb kd M)), .int (nI (nk kd)), .ref wi, .ref ck, .ref fq, .ref co, .int (nI (grsK kd M)), .int (nI ifo), .int (nI fl), .long (ma), .int (mk), .int (bi), .long (wo9), .int (ch9), .int (tu9), .ref sq, .ref uq, .ref gq])) :: (wi, .inl (g 0, 4, .inl (fw))) :: (ck, .inl (g 0, 4, .inl (fc))) :: (fq, .inl (g 0, 4, .inl (ff))) :: (co, .inl (g 0, 228, .inl (fco))) :: (sq, .inl (g 0, 8, .inl (fsq))) :: (uq, .inl (g 2, 128, .inl (fu))) :: (gq, .inl (g 0, 7, .inl (fg))) :: wm) s.heap.size = A at hD ⊢
  have hA : ∀ q : Nat, s.heap.size ≤ q → A q := fun q h => by rw [← hAe]; exact Or.inr h
  have hS : va_S A s.heap s.heap [] := va_S.rf
  have hl := lv_entry ([.ref mo, .int (nI j)]) (n := 2) (Nat.le_of_ble_eq_true rfl)
  rw [lg_entry_eq]
  generalize (lg_sl ([.ref mo, .int (nI j)]) ++ List.replicate (2 - (lg_sl ([.ref mo, .int (nI j)])).length) Slot.unset).toArray = ls at hl ⊢
  have hl : lv_has ls 2 [(0, .ref mo), (1, .int (nI j))] := hl
  generalize hQ : MQ below (va_Qi (fun (r : Int32) (u : Unit) => r = nI (colK kd M j)) (fun u => qB D (A) ((mo, .inr (6, [.int (nI 0), .int (nI M), .int (nI kd), .int (nI (ckb kd M)), .int (nI (nk kd)), .ref wi, .ref ck, .ref fq, .ref co, .int (nI (grsK kd M)), .int (nI ifo), .int (nI fl), .long (ma), .int (mk), .int (bi), .long (wo9), .int (ch9), .int (tu9), .ref sq, .ref uq, .ref gq])) :: (wi, .inl (g 0, 4, .inl (fw))) :: (ck, .inl (g 0, 4, .inl (fc))) :: (fq, .inl (g 0, 4, .inl (ff))) :: (co, .inl (g 0, 228, .inl (fco))) :: (sq, .inl (g 0, 8, .inl (fsq))) :: (uq, .inl (g 2, 128, .inl (fu))) :: (gq, .inl (g 0, 7, .inl (fg))) :: wm)) (A)) [.ref mo, .int (nI j)].toArray s 0 0 A = Q
  have hck := ckb_le kd M
  refine lv_aload_n hx hb d_M_column_0 rfl (lv_at hl 0 rfl) ?_
  refine lv_iload_n hx hb d_M_column_1 rfl (lv_at hl 1 rfl) ?_
  refine lv_iconst (v := nI 0) hx hb d_M_column_2 (by decide) ?_
  refine lv_aload_n hx hb d_M_column_3 rfl (lv_at hl 0 rfl) ?_
  refine va_get (D := D) (ci := 6) (v := .int (nI M)) (C := R_M) (T := F_M) (N := 21) hx hb hts i_M hown hK hP 0 rfl rfl 1 (by decide) (hts _ m_604) (fun _ h9 => h9) rfl d_M_column_4 ?_
  refine lv_iconst (v := nI 1) hx hb d_M_column_7 (by decide) ?_
  refine lx_isub (z := nI (M - 1)) hx hb d_M_column_8 (pk_sub (by omega)) ?_
  refine lc_Si (As := [.int (nI j), .int (nI 0), .int (nI (M - 1))]) (rest := [.ref mo]) ⟨hx, hb, hml, hown, hts⟩ (c_M_in l D g _ _ (nI j) M (by omega) (by omega)) (kS 3 hts m_682 m_680 m_681 m_40 (by decide +kernel) ⟨Nat.le_of_ble_eq_true rfl, Nat.le_of_ble_eq_true rfl⟩) hKK hP hD hS hA hl.1 rfl rfl (Nat.le_of_ble_eq_true rfl) d_M_column_9 ⟨Nat.le_of_ble_eq_true rfl, Nat.le_of_ble_eq_true rfl⟩ (fun r1 ur1 H locs er1 hP hD hS => ?_)
  obtain rfl : r1 = nI 1 := er1.trans (by rw [inBb_nI (by omega) hj])
  refine lx_if_ne (tgt := 19) hx hb d_M_column_12 (by decide) (by omega) (fun c12 => ?_) (fun c12 => ?_)
  · skip
    refine lv_iconst (v := nI 0) hx hb d_M_column_19 (by decide) ?_
    refine lv_aload_n hx hb d_M_column_20 rfl (lv_at hl 0 rfl) ?_
    refine va_get (D := D) (ci := 6) (v := .int (nI kd)) (C := R_M) (T := F_M) (N := 21) hx hb hts i_M hown hK hP 0 rfl rfl 2 (by decide) (hts _ m_605) (fun _ h9 => h9) rfl d_M_column_21 ?_
    refine lv_iconst (v := nI 2) hx hb d_M_column_24 (by decide) ?_
    refine lx_icmp_ne (tgt := 32) hx hb d_M_column_25 (by decide) (by omega) (by omega) (fun c25 => ?_) (fun c25 => ?_)
    · skip
      refine lv_iconst (v := nI 0) hx hb d_M_column_32 (by decide) ?_
      refine lc_Vi (b := mo) (As := [.int (nI 0), .int (nI 0)]) (rest := []) ⟨hx, hb, hml, hown, hts⟩ (c_M_fails l D g _ wm mo wi ck fq co sq uq gq kd M ifo fl th mk bi ch9 tu9 ma wo9 fw fc ff fco fsq fu fg hM0 hM 0 0 (by decide) (by decide)) (kV 2 hts m_686 m_683 m_685 m_15 m_40 (by decide +kernel) ⟨Nat.le_of_ble_eq_true rfl, Nat.le_of_ble_eq_true rfl⟩) (va_recv hK hP (ci := 6) (q0 := 0) rfl rfl) hKK hP hD hS hA hl.1 rfl rfl (Nat.le_of_ble_eq_true rfl) d_M_column_33 ⟨Nat.le_of_ble_eq_true rfl, Nat.le_of_ble_eq_true rfl⟩ (fun rf uf H locs ef hP hD hS => ?_)
      have hP : va_P D vwCl ((mo, .inr (6, [.int (nI 0), .int (nI M), .int (nI kd), .int (nI (ckb kd M)), .int (nI (nk kd)), .ref wi, .ref ck, .ref fq, .ref co, .int (nI (grsK kd M)), .int (nI ifo), .int (nI fl), .long (ma), .int (mk), .int (bi), .long (wo9), .int (ch9), .int (tu9), .ref sq, .ref uq, .ref gq])) :: (wi, .inl (g 0, 4, .inl (fw))) :: (ck, .inl (g 0, 4, .inl (fc))) :: (fq, .inl (g 0, 4, .inl (ff))) :: (co, .inl (g 0, 228, .inl (fco))) :: (sq, .inl (g 0, 8, .inl (fsq))) :: (uq, .inl (g 2, 128, .inl (fu))) :: (gq, .inl (g 0, 7, .inl (fg))) :: wm) H := hP
      have hD : va_D A ((mo, .inr (6, [.int (nI 0), .int (nI M), .int (nI kd), .int (nI (ckb kd M)), .int (nI (nk kd)), .ref wi, .ref ck, .ref fq, .ref co, .int (nI (grsK kd M)), .int (nI ifo), .int (nI fl), .long (ma), .int (mk), .int (bi), .long (wo9), .int (ch9), .int (tu9), .ref sq, .ref uq, .ref gq])) :: (wi, .inl (g 0, 4, .inl (fw))) :: (ck, .inl (g 0, 4, .inl (fc))) :: (fq, .inl (g 0, 4, .inl (ff))) :: (co, .inl (g 0, 228, .inl (fco))) :: (sq, .inl (g 0, 8, .inl (fsq))) :: (uq, .inl (g 2, 128, .inl (fu))) :: (gq, .inl (g 0, 7, .inl (fg))) :: wm) := hD
      obtain rfl : rf = nI 0 := ef
      refine lx_if_eq (tgt := 41) hx hb d_M_column_36 (by decide) (by omega) (fun c36 => ?_) (fun c36 => ?_)
      · skip
        have hnk := nk_in kd
        refine lv_aload_n hx hb d_M_column_41 rfl (lv_at hl 0 rfl) ?_
        refine va_get (D := D) (ci := 6) (v := .int (nI kd)) (C := R_M) (T := F_M) (N := 21) hx hb hts i_M hown hK hP 0 rfl rfl 2 (by decide) (hts _ m_605) (fun _ h9 => h9) rfl d_M_column_42 ?_
        refine lv_iconst (v := nI 1) hx hb d_M_column_45 (by decide) ?_
        refine lx_icmp_ne (tgt := 60) hx hb d_M_column_46 (by decide) (by omega) (by omega) (fun c46 => ?_) (fun c46 => ?_)
        · skip
          have hs9 : kd = 0 ∨ kd = 3 := by omega
          obtain ⟨ht1, ht2⟩ := hmw hs9
          have hm9 : j % nk kd < nk kd := Nat.mod_lt _ (by omega)
          have hd9 : j / nk kd < wid M (nk kd) (j % nk kd) := wid_of hnk hj
          have hwl := wid_le (i := j % nk kd) hM hnk
          have em : colK kd M j = cc_ (lr (wid M (nk kd) (j % nk kd))) (j / nk kd) := by rcases hs9 with rfl | rfl <;> rfl
          refine lv_aload_n hx hb d_M_column_60 rfl (lv_at hl 0 rfl) ?_
          refine va_get (D := D) (ci := 6) (v := .ref co) (C := R_M) (T := F_M) (N := 21) hx hb hts i_M hown hK hP 0 rfl rfl 8 (by decide) (hts _ m_611) (fun _ h9 => h9) rfl d_M_column_61 ?_
          refine lv_bipush (v := nI 57) hx hb d_M_column_64 (by decide) ?_
          refine lv_iload_n hx hb d_M_column_66 rfl (lv_at hl 1 rfl) ?_
          refine lv_aload_n hx hb d_M_column_67 rfl (lv_at hl 0 rfl) ?_
          refine va_get (D := D) (ci := 6) (v := .int (nI (nk kd))) (C := R_M) (T := F_M) (N := 21) hx hb hts i_M hown hK hP 0 rfl rfl 4 (by decide) (hts _ m_607) (fun _ h9 => h9) rfl d_M_column_68 ?_
          refine lx_irem (z := nI (j % nk kd)) hx hb d_M_column_71 (nI_ne0 (by omega) (by omega)) (pk_rem (by omega) (by omega) (by omega)) ?_
          refine lx_imul (z := nI (57 * (j % nk kd))) hx hb d_M_column_72 (pk_mul _ _) ?_
          refine lv_iload_n hx hb d_M_column_73 rfl (lv_at hl 1 rfl) ?_
          refine lv_aload_n hx hb d_M_column_74 rfl (lv_at hl 0 rfl) ?_
          refine va_get (D := D) (ci := 6) (v := .int (nI (nk kd))) (C := R_M) (T := F_M) (N := 21) hx hb hts i_M hown hK hP 0 rfl rfl 4 (by decide) (hts _ m_607) (fun _ h9 => h9) rfl d_M_column_75 ?_
          refine lx_idiv (z := nI (j / nk kd)) hx hb d_M_column_78 (nI_ne0 (by omega) (by omega)) (pk_div (by omega) (by omega) (by omega)) ?_
          refine lx_iadd (z := nI (57 * (j % nk kd) + j / nk kd)) hx hb d_M_column_79 (nI_add _ _) ?_
          refine lx_iald (v := nI (colK kd M j)) hx hb hK hP 4 0 rfl rfl (j := 57 * (j % nk kd) + j / nk kd) (by omega) (by omega) (by rw [em]; exact ht2 _ _ hm9 hd9) d_M_column_80 ?_
          rw [← hQ]
          refine W.iret (v := nI (colK kd M j)) hx hb hr ?_ hS.2.2 d_M_column_81
          exact fun t ht hW => ⟨⟨nI (colK kd M j), (), rfl, rfl, by rw [ht]; exact hP, hD⟩, hS.F ht⟩
        · skip
          have hcp := ckb_pos (kd := kd) hM0
          have hmr := Nat.mod_lt j hcp
          have em : colK kd M j = 1 <<< (j % ckb kd M) := by subst c46; rfl
          refine lv_iconst (v := nI 1) hx hb d_M_column_49 (by decide) ?_
          refine lv_iload_n hx hb d_M_column_50 rfl (lv_at hl 1 rfl) ?_
          refine lv_aload_n hx hb d_M_column_51 rfl (lv_at hl 0 rfl) ?_
          refine va_get (D := D) (ci := 6) (v := .int (nI (ckb kd M))) (C := R_M) (T := F_M) (N := 21) hx hb hts i_M hown hK hP 0 rfl rfl 3 (by decide) (hts _ m_606) (fun _ h9 => h9) rfl d_M_column_52 ?_
          refine lx_irem (z := nI (j % ckb kd M)) hx hb d_M_column_55 (nI_ne0 (by omega) (by omega)) (pk_rem (by omega) (by omega) (by omega)) ?_
          refine lx_ishl (z := nI (colK kd M j)) hx hb d_M_column_56 ((xn_shl 1 (by omega)).trans (by rw [em])) ?_
          refine lv_goto (tgt := 81) hx hb d_M_column_57 (by decide) ?_
          rw [← hQ]
          refine W.iret (v := nI (colK kd M j)) hx hb hr ?_ hS.2.2 d_M_column_81
          exact fun t ht hW => ⟨⟨nI (colK kd M j), (), rfl, rfl, by rw [ht]; exact hP, hD⟩, hS.F ht⟩
      · skip
        exact absurd rfl c36
    · skip
      exact absurd c25 hk2
  · skip
    exact absurd c12 (by decide)
set_option maxHeartbeats 4000000 in
set_option maxRecDepth 100000 in
theorem t_M_column (l : Launch) (D : va_G) (g : Nat → ClassId) (sz : Nat) (wm : va_W) (mo wi ck fq co sq uq gq kd M ifo fl : Nat) (th mk bi ch9 tu9 : Int32) (ma wo9 : Int64) (fw fc ff fco fsq fu fg : Nat → Int32) (hM0 : 0 < M) (hM : M ≤ 57) (v : Int32) (hv9 : inBb M v = 0) (hkd : kd ≤ 3) : Met l y_M_column w_M_column rm_M_column (va_Pc [.ref mo, .int (v)] (pP D (tyl g) ((mo, .inr (6, [.int (th), .int (nI M), .int (nI kd), .int (nI (ckb kd M)), .int (nI (nk kd)), .ref wi, .ref ck, .ref fq, .ref co, .int (nI (grsK kd M)), .int (nI ifo), .int (nI fl), .long (ma), .int (mk), .int (bi), .long (wo9), .int (ch9), .int (tu9), .ref sq, .ref uq, .ref gq])) :: (wi, .inl (g 0, 4, .inl (fw))) :: (ck, .inl (g 0, 4, .inl (fc))) :: (fq, .inl (g 0, 4, .inl (ff))) :: (co, .inl (g 0, 228, .inl (fco))) :: (sq, .inl (g 0, 8, .inl (fsq))) :: (uq, .inl (g 2, 128, .inl (fu))) :: (gq, .inl (g 0, 7, .inl (fg))) :: wm) sz)) (va_Qi (fun (r : Int32) (u : Unit) => r = nI 0) (fun u => qB D (va_A ((mo, .inr (6, [.int (th), .int (nI M), .int (nI kd), .int (nI (ckb kd M)), .int (nI (nk kd)), .ref wi, .ref ck, .ref fq, .ref co, .int (nI (grsK kd M)), .int (nI ifo), .int (nI fl), .long (ma), .int (mk), .int (bi), .long (wo9), .int (ch9), .int (tu9), .ref sq, .ref uq, .ref gq])) :: (wi, .inl (g 0, 4, .inl (fw))) :: (ck, .inl (g 0, 4, .inl (fc))) :: (fq, .inl (g 0, 4, .inl (ff))) :: (co, .inl (g 0, 228, .inl (fco))) :: (sq, .inl (g 0, 8, .inl (fsq))) :: (uq, .inl (g 2, 128, .inl (fu))) :: (gq, .inl (g 0, 7, .inl (fg))) :: wm) sz) ((mo, .inr (6, [.int (nI 1), .int (nI M), .int (nI kd), .int (nI (ckb kd M)), .int (nI (nk kd)), .ref wi, .ref ck, .ref fq, .ref co, .int (nI (grsK kd M)), .int (nI ifo), .int (nI fl), .long (ma), .int (mk), .int (bi), .long (wo9), .int (ch9), .int (tu9), .ref sq, .ref uq, .ref gq])) :: (wi, .inl (g 0, 4, .inl (fw))) :: (ck, .inl (g 0, 4, .inl (fc))) :: (fq, .inl (g 0, 4, .inl (ff))) :: (co, .inl (g 0, 228, .inl (fco))) :: (sq, .inl (g 0, 8, .inl (fsq))) :: (uq, .inl (g 2, 128, .inl (fu))) :: (gq, .inl (g 0, 7, .inl (fg))) :: wm)) (va_A ((mo, .inr (6, [.int (th), .int (nI M), .int (nI kd), .int (nI (ckb kd M)), .int (nI (nk kd)), .ref wi, .ref ck, .ref fq, .ref co, .int (nI (grsK kd M)), .int (nI ifo), .int (nI fl), .long (ma), .int (mk), .int (bi), .long (wo9), .int (ch9), .int (tu9), .ref sq, .ref uq, .ref gq])) :: (wi, .inl (g 0, 4, .inl (fw))) :: (ck, .inl (g 0, 4, .inl (fc))) :: (fq, .inl (g 0, 4, .inl (ff))) :: (co, .inl (g 0, 228, .inl (fco))) :: (sq, .inl (g 0, 8, .inl (fsq))) :: (uq, .inl (g 2, 128, .inl (fu))) :: (gq, .inl (g 0, 7, .inl (fg))) :: wm) sz)) 0 0 (va_A ((mo, .inr (6, [.int (th), .int (nI M), .int (nI kd), .int (nI (ckb kd M)), .int (nI (nk kd)), .ref wi, .ref ck, .ref fq, .ref co, .int (nI (grsK kd M)), .int (nI ifo), .int (nI fl), .long (ma), .int (mk), .int (bi), .long (wo9), .int (ch9), .int (tu9), .ref sq, .ref uq, .ref gq])) :: (wi, .inl (g 0, 4, .inl (fw))) :: (ck, .inl (g 0, 4, .inl (fc))) :: (fq, .inl (g 0, 4, .inl (ff))) :: (co, .inl (g 0, 228, .inl (fco))) :: (sq, .inl (g 0, 8, .inl (fsq))) :: (uq, .inl (g 2, 128, .inl (fu))) :: (gq, .inl (g 0, 7, .inl (fg))) :: wm) sz) := by
  refine Met.ofW (cc := b_M_column) (maxL := 2) (ret := (some .int)) (by decide +kernel) rfl ?_
  intro p e s m args below meth c s₁ Bq hml hv
  have hx := Bq.exec
  have hb := Bq.bytes
  have hr := Bq.returns
  have hts : ∀ w ∈ wA, w.before args s = true := fun w h => atoms_spec (ws := w_M_column) Bq.pre w (List.mem_cons_of_mem _ h)
  have hown : s.vm.findClass R_M = some m.cls := findClass_of_methodNamed Bq.named
  have hlocks := Bq.notSynchronized
  obtain ⟨rfl, hsz, hP, hKK, hD0⟩ := hv
  have hK := hKK.1
  subst hsz
  have hD := hD0.self (sz := s.heap.size)
  generalize hAe : va_A ((mo, .inr (6, [.int (th), .int (nI M), .int (nI kd), .int (nI (ckb kd M)), .int (nI (nk kd)), .ref wi, .ref ck, .ref fq, .ref co, .int (nI (grsK kd M)), .int (nI ifo), .int (nI fl), .long (ma), .int (mk), .int (bi), .long (wo9), .int (ch9), .int (tu9), .ref sq, .ref uq, .ref gq])) :: (wi, .inl (g 0, 4, .inl (fw))) :: (ck, .inl (g 0, 4, .inl (fc))) :: (fq, .inl (g 0, 4, .inl (ff))) :: (co, .inl (g 0, 228, .inl (fco))) :: (sq, .inl (g 0, 8, .inl (fsq))) :: (uq, .inl (g 2, 128, .inl (fu))) :: (gq, .inl (g 0, 7, .inl (fg))) :: wm) s.heap.size = A at hD ⊢
  have hA : ∀ q : Nat, s.heap.size ≤ q → A q := fun q h => by rw [← hAe]; exact Or.inr h
  have hS : va_S A s.heap s.heap [] := va_S.rf
  have hl := lv_entry ([.ref mo, .int (v)]) (n := 2) (Nat.le_of_ble_eq_true rfl)
  rw [lg_entry_eq]
  generalize (lg_sl ([.ref mo, .int (v)]) ++ List.replicate (2 - (lg_sl ([.ref mo, .int (v)])).length) Slot.unset).toArray = ls at hl ⊢
  have hl : lv_has ls 2 [(0, .ref mo), (1, .int (v))] := hl
  generalize hQ : MQ below (va_Qi (fun (r : Int32) (u : Unit) => r = nI 0) (fun u => qB D (A) ((mo, .inr (6, [.int (nI 1), .int (nI M), .int (nI kd), .int (nI (ckb kd M)), .int (nI (nk kd)), .ref wi, .ref ck, .ref fq, .ref co, .int (nI (grsK kd M)), .int (nI ifo), .int (nI fl), .long (ma), .int (mk), .int (bi), .long (wo9), .int (ch9), .int (tu9), .ref sq, .ref uq, .ref gq])) :: (wi, .inl (g 0, 4, .inl (fw))) :: (ck, .inl (g 0, 4, .inl (fc))) :: (fq, .inl (g 0, 4, .inl (ff))) :: (co, .inl (g 0, 228, .inl (fco))) :: (sq, .inl (g 0, 8, .inl (fsq))) :: (uq, .inl (g 2, 128, .inl (fu))) :: (gq, .inl (g 0, 7, .inl (fg))) :: wm)) (A)) [.ref mo, .int (v)].toArray s 0 0 A = Q
  have hck := ckb_le kd M
  refine lv_aload_n hx hb d_M_column_0 rfl (lv_at hl 0 rfl) ?_
  refine lv_iload_n hx hb d_M_column_1 rfl (lv_at hl 1 rfl) ?_
  refine lv_iconst (v := nI 0) hx hb d_M_column_2 (by decide) ?_
  refine lv_aload_n hx hb d_M_column_3 rfl (lv_at hl 0 rfl) ?_
  refine va_get (D := D) (ci := 6) (v := .int (nI M)) (C := R_M) (T := F_M) (N := 21) hx hb hts i_M hown hK hP 0 rfl rfl 1 (by decide) (hts _ m_604) (fun _ h9 => h9) rfl d_M_column_4 ?_
  refine lv_iconst (v := nI 1) hx hb d_M_column_7 (by decide) ?_
  refine lx_isub (z := nI (M - 1)) hx hb d_M_column_8 (pk_sub (by omega)) ?_
  refine lc_Si (As := [.int (v), .int (nI 0), .int (nI (M - 1))]) (rest := [.ref mo]) ⟨hx, hb, hml, hown, hts⟩ (c_M_in l D g _ _ v M (by omega) (by omega)) (kS 3 hts m_682 m_680 m_681 m_40 (by decide +kernel) ⟨Nat.le_of_ble_eq_true rfl, Nat.le_of_ble_eq_true rfl⟩) hKK hP hD hS hA hl.1 rfl rfl (Nat.le_of_ble_eq_true rfl) d_M_column_9 ⟨Nat.le_of_ble_eq_true rfl, Nat.le_of_ble_eq_true rfl⟩ (fun r1 ur1 H locs er1 hP hD hS => ?_)
  obtain rfl : r1 = nI 0 := er1.trans (by rw [hv9])
  refine lx_if_ne (tgt := 19) hx hb d_M_column_12 (by decide) (by omega) (fun c12 => ?_) (fun c12 => ?_)
  · skip
    exact absurd rfl c12
  · skip
    refine lv_iconst (v := nI 1) hx hb d_M_column_15 (by decide) ?_
    refine lv_goto (tgt := 20) hx hb d_M_column_16 (by decide) ?_
    refine lv_aload_n hx hb d_M_column_20 rfl (lv_at hl 0 rfl) ?_
    refine va_get (D := D) (ci := 6) (v := .int (nI kd)) (C := R_M) (T := F_M) (N := 21) hx hb hts i_M hown hK hP 0 rfl rfl 2 (by decide) (hts _ m_605) (fun _ h9 => h9) rfl d_M_column_21 ?_
    refine lv_iconst (v := nI 2) hx hb d_M_column_24 (by decide) ?_
    refine lx_icmp_ne (tgt := 32) hx hb d_M_column_25 (by decide) (by omega) (by omega) (fun c25 => ?_) (fun c25 => ?_)
    · skip
      refine lv_iconst (v := nI 0) hx hb d_M_column_32 (by decide) ?_
      refine lc_Vi (b := mo) (As := [.int (nI 1), .int (nI 0)]) (rest := []) ⟨hx, hb, hml, hown, hts⟩ (c_M_fails l D g _ wm mo wi ck fq co sq uq gq kd M ifo fl th mk bi ch9 tu9 ma wo9 fw fc ff fco fsq fu fg hM0 hM 1 0 (by decide) (by decide)) (kV 2 hts m_686 m_683 m_685 m_15 m_40 (by decide +kernel) ⟨Nat.le_of_ble_eq_true rfl, Nat.le_of_ble_eq_true rfl⟩) (va_recv hK hP (ci := 6) (q0 := 0) rfl rfl) hKK hP hD hS hA hl.1 rfl rfl (Nat.le_of_ble_eq_true rfl) d_M_column_33 ⟨Nat.le_of_ble_eq_true rfl, Nat.le_of_ble_eq_true rfl⟩ (fun rf uf H locs ef hP hD hS => ?_)
      have hP : va_P D vwCl ((mo, .inr (6, [.int (nI 1), .int (nI M), .int (nI kd), .int (nI (ckb kd M)), .int (nI (nk kd)), .ref wi, .ref ck, .ref fq, .ref co, .int (nI (grsK kd M)), .int (nI ifo), .int (nI fl), .long (ma), .int (mk), .int (bi), .long (wo9), .int (ch9), .int (tu9), .ref sq, .ref uq, .ref gq])) :: (wi, .inl (g 0, 4, .inl (fw))) :: (ck, .inl (g 0, 4, .inl (fc))) :: (fq, .inl (g 0, 4, .inl (ff))) :: (co, .inl (g 0, 228, .inl (fco))) :: (sq, .inl (g 0, 8, .inl (fsq))) :: (uq, .inl (g 2, 128, .inl (fu))) :: (gq, .inl (g 0, 7, .inl (fg))) :: wm) H := hP
      have hD : va_D A ((mo, .inr (6, [.int (nI 1), .int (nI M), .int (nI kd), .int (nI (ckb kd M)), .int (nI (nk kd)), .ref wi, .ref ck, .ref fq, .ref co, .int (nI (grsK kd M)), .int (nI ifo), .int (nI fl), .long (ma), .int (mk), .int (bi), .long (wo9), .int (ch9), .int (tu9), .ref sq, .ref uq, .ref gq])) :: (wi, .inl (g 0, 4, .inl (fw))) :: (ck, .inl (g 0, 4, .inl (fc))) :: (fq, .inl (g 0, 4, .inl (ff))) :: (co, .inl (g 0, 228, .inl (fco))) :: (sq, .inl (g 0, 8, .inl (fsq))) :: (uq, .inl (g 2, 128, .inl (fu))) :: (gq, .inl (g 0, 7, .inl (fg))) :: wm) := hD
      obtain rfl : rf = nI 1 := ef
      refine lx_if_eq (tgt := 41) hx hb d_M_column_36 (by decide) (by omega) (fun c36 => ?_) (fun c36 => ?_)
      · skip
        exact absurd c36 (by decide)
      · skip
        refine lv_iconst (v := nI 0) hx hb d_M_column_39 (by decide) ?_
        rw [← hQ]
        refine W.iret (v := nI 0) hx hb hr ?_ hS.2.2 d_M_column_40
        exact fun t ht hW => ⟨⟨nI 0, (), rfl, rfl, by rw [ht]; exact hP, hD⟩, hS.F ht⟩
    · skip
      refine lv_iconst (v := nI 1) hx hb d_M_column_28 (by decide) ?_
      refine lv_goto (tgt := 33) hx hb d_M_column_29 (by decide) ?_
      refine lc_Vi (b := mo) (As := [.int (nI 1), .int (nI 1)]) (rest := []) ⟨hx, hb, hml, hown, hts⟩ (c_M_fails l D g _ wm mo wi ck fq co sq uq gq kd M ifo fl th mk bi ch9 tu9 ma wo9 fw fc ff fco fsq fu fg hM0 hM 1 1 (by decide) (by decide)) (kV 2 hts m_686 m_683 m_685 m_15 m_40 (by decide +kernel) ⟨Nat.le_of_ble_eq_true rfl, Nat.le_of_ble_eq_true rfl⟩) (va_recv hK hP (ci := 6) (q0 := 0) rfl rfl) hKK hP hD hS hA hl.1 rfl rfl (Nat.le_of_ble_eq_true rfl) d_M_column_33 ⟨Nat.le_of_ble_eq_true rfl, Nat.le_of_ble_eq_true rfl⟩ (fun rf uf H locs ef hP hD hS => ?_)
      have hP : va_P D vwCl ((mo, .inr (6, [.int (nI 1), .int (nI M), .int (nI kd), .int (nI (ckb kd M)), .int (nI (nk kd)), .ref wi, .ref ck, .ref fq, .ref co, .int (nI (grsK kd M)), .int (nI ifo), .int (nI fl), .long (ma), .int (mk), .int (bi), .long (wo9), .int (ch9), .int (tu9), .ref sq, .ref uq, .ref gq])) :: (wi, .inl (g 0, 4, .inl (fw))) :: (ck, .inl (g 0, 4, .inl (fc))) :: (fq, .inl (g 0, 4, .inl (ff))) :: (co, .inl (g 0, 228, .inl (fco))) :: (sq, .inl (g 0, 8, .inl (fsq))) :: (uq, .inl (g 2, 128, .inl (fu))) :: (gq, .inl (g 0, 7, .inl (fg))) :: wm) H := hP
      have hD : va_D A ((mo, .inr (6, [.int (nI 1), .int (nI M), .int (nI kd), .int (nI (ckb kd M)), .int (nI (nk kd)), .ref wi, .ref ck, .ref fq, .ref co, .int (nI (grsK kd M)), .int (nI ifo), .int (nI fl), .long (ma), .int (mk), .int (bi), .long (wo9), .int (ch9), .int (tu9), .ref sq, .ref uq, .ref gq])) :: (wi, .inl (g 0, 4, .inl (fw))) :: (ck, .inl (g 0, 4, .inl (fc))) :: (fq, .inl (g 0, 4, .inl (ff))) :: (co, .inl (g 0, 228, .inl (fco))) :: (sq, .inl (g 0, 8, .inl (fsq))) :: (uq, .inl (g 2, 128, .inl (fu))) :: (gq, .inl (g 0, 7, .inl (fg))) :: wm) := hD
      obtain rfl : rf = nI 1 := ef
      refine lx_if_eq (tgt := 41) hx hb d_M_column_36 (by decide) (by omega) (fun c36 => ?_) (fun c36 => ?_)
      · skip
        exact absurd c36 (by decide)
      · skip
        refine lv_iconst (v := nI 0) hx hb d_M_column_39 (by decide) ?_
        rw [← hQ]
        refine W.iret (v := nI 0) hx hb hr ?_ hS.2.2 d_M_column_40
        exact fun t ht hW => ⟨⟨nI 0, (), rfl, rfl, by rw [ht]; exact hP, hD⟩, hS.F ht⟩
set_option maxHeartbeats 4000000 in
set_option maxRecDepth 100000 in
theorem u_M_column (l : Launch) (D : va_G) (g : Nat → ClassId) (sz : Nat) (wm : va_W) (mo wi ck fq co sq uq gq kd M ifo fl : Nat) (th mk bi ch9 tu9 : Int32) (ma wo9 : Int64) (fw fc ff fco fsq fu fg : Nat → Int32) (hM0 : 0 < M) (hM : M ≤ 57) (j : Nat) (hj : j < M) (hk2 : kd = 2) : Met l y_M_column w_M_column rm_M_column (va_Pc [.ref mo, .int (nI j)] (pP D (tyl g) ((mo, .inr (6, [.int (th), .int (nI M), .int (nI kd), .int (nI (ckb kd M)), .int (nI (nk kd)), .ref wi, .ref ck, .ref fq, .ref co, .int (nI (grsK kd M)), .int (nI ifo), .int (nI fl), .long (ma), .int (mk), .int (bi), .long (wo9), .int (ch9), .int (tu9), .ref sq, .ref uq, .ref gq])) :: (wi, .inl (g 0, 4, .inl (fw))) :: (ck, .inl (g 0, 4, .inl (fc))) :: (fq, .inl (g 0, 4, .inl (ff))) :: (co, .inl (g 0, 228, .inl (fco))) :: (sq, .inl (g 0, 8, .inl (fsq))) :: (uq, .inl (g 2, 128, .inl (fu))) :: (gq, .inl (g 0, 7, .inl (fg))) :: wm) sz)) (va_Qi (fun (r : Int32) (u : Unit) => r = nI 0) (fun u => qB D (va_A ((mo, .inr (6, [.int (th), .int (nI M), .int (nI kd), .int (nI (ckb kd M)), .int (nI (nk kd)), .ref wi, .ref ck, .ref fq, .ref co, .int (nI (grsK kd M)), .int (nI ifo), .int (nI fl), .long (ma), .int (mk), .int (bi), .long (wo9), .int (ch9), .int (tu9), .ref sq, .ref uq, .ref gq])) :: (wi, .inl (g 0, 4, .inl (fw))) :: (ck, .inl (g 0, 4, .inl (fc))) :: (fq, .inl (g 0, 4, .inl (ff))) :: (co, .inl (g 0, 228, .inl (fco))) :: (sq, .inl (g 0, 8, .inl (fsq))) :: (uq, .inl (g 2, 128, .inl (fu))) :: (gq, .inl (g 0, 7, .inl (fg))) :: wm) sz) ((mo, .inr (6, [.int (nI 2), .int (nI M), .int (nI kd), .int (nI (ckb kd M)), .int (nI (nk kd)), .ref wi, .ref ck, .ref fq, .ref co, .int (nI (grsK kd M)), .int (nI ifo), .int (nI fl), .long (ma), .int (mk), .int (bi), .long (wo9), .int (ch9), .int (tu9), .ref sq, .ref uq, .ref gq])) :: (wi, .inl (g 0, 4, .inl (fw))) :: (ck, .inl (g 0, 4, .inl (fc))) :: (fq, .inl (g 0, 4, .inl (ff))) :: (co, .inl (g 0, 228, .inl (fco))) :: (sq, .inl (g 0, 8, .inl (fsq))) :: (uq, .inl (g 2, 128, .inl (fu))) :: (gq, .inl (g 0, 7, .inl (fg))) :: wm)) (va_A ((mo, .inr (6, [.int (th), .int (nI M), .int (nI kd), .int (nI (ckb kd M)), .int (nI (nk kd)), .ref wi, .ref ck, .ref fq, .ref co, .int (nI (grsK kd M)), .int (nI ifo), .int (nI fl), .long (ma), .int (mk), .int (bi), .long (wo9), .int (ch9), .int (tu9), .ref sq, .ref uq, .ref gq])) :: (wi, .inl (g 0, 4, .inl (fw))) :: (ck, .inl (g 0, 4, .inl (fc))) :: (fq, .inl (g 0, 4, .inl (ff))) :: (co, .inl (g 0, 228, .inl (fco))) :: (sq, .inl (g 0, 8, .inl (fsq))) :: (uq, .inl (g 2, 128, .inl (fu))) :: (gq, .inl (g 0, 7, .inl (fg))) :: wm) sz)) 0 0 (va_A ((mo, .inr (6, [.int (th), .int (nI M), .int (nI kd), .int (nI (ckb kd M)), .int (nI (nk kd)), .ref wi, .ref ck, .ref fq, .ref co, .int (nI (grsK kd M)), .int (nI ifo), .int (nI fl), .long (ma), .int (mk), .int (bi), .long (wo9), .int (ch9), .int (tu9), .ref sq, .ref uq, .ref gq])) :: (wi, .inl (g 0, 4, .inl (fw))) :: (ck, .inl (g 0, 4, .inl (fc))) :: (fq, .inl (g 0, 4, .inl (ff))) :: (co, .inl (g 0, 228, .inl (fco))) :: (sq, .inl (g 0, 8, .inl (fsq))) :: (uq, .inl (g 2, 128, .inl (fu))) :: (gq, .inl (g 0, 7, .inl (fg))) :: wm) sz) := by
  refine Met.ofW (cc := b_M_column) (maxL := 2) (ret := (some .int)) (by decide +kernel) rfl ?_
  intro p e s m args below meth c s₁ Bq hml hv
  have hx := Bq.exec
  have hb := Bq.bytes
  have hr := Bq.returns
  have hts : ∀ w ∈ wA, w.before args s = true := fun w h => atoms_spec (ws := w_M_column) Bq.pre w (List.mem_cons_of_mem _ h)
  have hown : s.vm.findClass R_M = some m.cls := findClass_of_methodNamed Bq.named
  have hlocks := Bq.notSynchronized
  obtain ⟨rfl, hsz, hP, hKK, hD0⟩ := hv
  have hK := hKK.1
  subst hsz
  have hD := hD0.self (sz := s.heap.size)
  generalize hAe : va_A ((mo, .inr (6, [.int (th), .int (nI M), .int (nI kd), .int (nI (ckb kd M)), .int (nI (nk kd)), .ref wi, .ref ck, .ref fq, .ref co, .int (nI (grsK kd M)), .int (nI ifo), .int (nI fl), .long (ma), .int (mk), .int (bi), .long (wo9), .int (ch9), .int (tu9), .ref sq, .ref uq, .ref gq])) :: (wi, .inl (g 0, 4, .inl (fw))) :: (ck, .inl (g 0, 4, .inl (fc))) :: (fq, .inl (g 0, 4, .inl (ff))) :: (co, .inl (g 0, 228, .inl (fco))) :: (sq, .inl (g 0, 8, .inl (fsq))) :: (uq, .inl (g 2, 128, .inl (fu))) :: (gq, .inl (g 0, 7, .inl (fg))) :: wm) s.heap.size = A at hD ⊢
  have hA : ∀ q : Nat, s.heap.size ≤ q → A q := fun q h => by rw [← hAe]; exact Or.inr h
  have hS : va_S A s.heap s.heap [] := va_S.rf
  have hl := lv_entry ([.ref mo, .int (nI j)]) (n := 2) (Nat.le_of_ble_eq_true rfl)
  rw [lg_entry_eq]
  generalize (lg_sl ([.ref mo, .int (nI j)]) ++ List.replicate (2 - (lg_sl ([.ref mo, .int (nI j)])).length) Slot.unset).toArray = ls at hl ⊢
  have hl : lv_has ls 2 [(0, .ref mo), (1, .int (nI j))] := hl
  generalize hQ : MQ below (va_Qi (fun (r : Int32) (u : Unit) => r = nI 0) (fun u => qB D (A) ((mo, .inr (6, [.int (nI 2), .int (nI M), .int (nI kd), .int (nI (ckb kd M)), .int (nI (nk kd)), .ref wi, .ref ck, .ref fq, .ref co, .int (nI (grsK kd M)), .int (nI ifo), .int (nI fl), .long (ma), .int (mk), .int (bi), .long (wo9), .int (ch9), .int (tu9), .ref sq, .ref uq, .ref gq])) :: (wi, .inl (g 0, 4, .inl (fw))) :: (ck, .inl (g 0, 4, .inl (fc))) :: (fq, .inl (g 0, 4, .inl (ff))) :: (co, .inl (g 0, 228, .inl (fco))) :: (sq, .inl (g 0, 8, .inl (fsq))) :: (uq, .inl (g 2, 128, .inl (fu))) :: (gq, .inl (g 0, 7, .inl (fg))) :: wm)) (A)) [.ref mo, .int (nI j)].toArray s 0 0 A = Q
  have hck := ckb_le kd M
  refine lv_aload_n hx hb d_M_column_0 rfl (lv_at hl 0 rfl) ?_
  refine lv_iload_n hx hb d_M_column_1 rfl (lv_at hl 1 rfl) ?_
  refine lv_iconst (v := nI 0) hx hb d_M_column_2 (by decide) ?_
  refine lv_aload_n hx hb d_M_column_3 rfl (lv_at hl 0 rfl) ?_
  refine va_get (D := D) (ci := 6) (v := .int (nI M)) (C := R_M) (T := F_M) (N := 21) hx hb hts i_M hown hK hP 0 rfl rfl 1 (by decide) (hts _ m_604) (fun _ h9 => h9) rfl d_M_column_4 ?_
  refine lv_iconst (v := nI 1) hx hb d_M_column_7 (by decide) ?_
  refine lx_isub (z := nI (M - 1)) hx hb d_M_column_8 (pk_sub (by omega)) ?_
  refine lc_Si (As := [.int (nI j), .int (nI 0), .int (nI (M - 1))]) (rest := [.ref mo]) ⟨hx, hb, hml, hown, hts⟩ (c_M_in l D g _ _ (nI j) M (by omega) (by omega)) (kS 3 hts m_682 m_680 m_681 m_40 (by decide +kernel) ⟨Nat.le_of_ble_eq_true rfl, Nat.le_of_ble_eq_true rfl⟩) hKK hP hD hS hA hl.1 rfl rfl (Nat.le_of_ble_eq_true rfl) d_M_column_9 ⟨Nat.le_of_ble_eq_true rfl, Nat.le_of_ble_eq_true rfl⟩ (fun r1 ur1 H locs er1 hP hD hS => ?_)
  obtain rfl : r1 = nI 1 := er1.trans (by rw [inBb_nI (by omega) hj])
  refine lx_if_ne (tgt := 19) hx hb d_M_column_12 (by decide) (by omega) (fun c12 => ?_) (fun c12 => ?_)
  · skip
    refine lv_iconst (v := nI 0) hx hb d_M_column_19 (by decide) ?_
    refine lv_aload_n hx hb d_M_column_20 rfl (lv_at hl 0 rfl) ?_
    refine va_get (D := D) (ci := 6) (v := .int (nI kd)) (C := R_M) (T := F_M) (N := 21) hx hb hts i_M hown hK hP 0 rfl rfl 2 (by decide) (hts _ m_605) (fun _ h9 => h9) rfl d_M_column_21 ?_
    refine lv_iconst (v := nI 2) hx hb d_M_column_24 (by decide) ?_
    refine lx_icmp_ne (tgt := 32) hx hb d_M_column_25 (by decide) (by omega) (by omega) (fun c25 => ?_) (fun c25 => ?_)
    · skip
      exact absurd hk2 c25
    · skip
      refine lv_iconst (v := nI 1) hx hb d_M_column_28 (by decide) ?_
      refine lv_goto (tgt := 33) hx hb d_M_column_29 (by decide) ?_
      refine lc_Vi (b := mo) (As := [.int (nI 0), .int (nI 1)]) (rest := []) ⟨hx, hb, hml, hown, hts⟩ (c_M_fails l D g _ wm mo wi ck fq co sq uq gq kd M ifo fl th mk bi ch9 tu9 ma wo9 fw fc ff fco fsq fu fg hM0 hM 0 1 (by decide) (by decide)) (kV 2 hts m_686 m_683 m_685 m_15 m_40 (by decide +kernel) ⟨Nat.le_of_ble_eq_true rfl, Nat.le_of_ble_eq_true rfl⟩) (va_recv hK hP (ci := 6) (q0 := 0) rfl rfl) hKK hP hD hS hA hl.1 rfl rfl (Nat.le_of_ble_eq_true rfl) d_M_column_33 ⟨Nat.le_of_ble_eq_true rfl, Nat.le_of_ble_eq_true rfl⟩ (fun rf uf H locs ef hP hD hS => ?_)
      have hP : va_P D vwCl ((mo, .inr (6, [.int (nI 2), .int (nI M), .int (nI kd), .int (nI (ckb kd M)), .int (nI (nk kd)), .ref wi, .ref ck, .ref fq, .ref co, .int (nI (grsK kd M)), .int (nI ifo), .int (nI fl), .long (ma), .int (mk), .int (bi), .long (wo9), .int (ch9), .int (tu9), .ref sq, .ref uq, .ref gq])) :: (wi, .inl (g 0, 4, .inl (fw))) :: (ck, .inl (g 0, 4, .inl (fc))) :: (fq, .inl (g 0, 4, .inl (ff))) :: (co, .inl (g 0, 228, .inl (fco))) :: (sq, .inl (g 0, 8, .inl (fsq))) :: (uq, .inl (g 2, 128, .inl (fu))) :: (gq, .inl (g 0, 7, .inl (fg))) :: wm) H := hP
      have hD : va_D A ((mo, .inr (6, [.int (nI 2), .int (nI M), .int (nI kd), .int (nI (ckb kd M)), .int (nI (nk kd)), .ref wi, .ref ck, .ref fq, .ref co, .int (nI (grsK kd M)), .int (nI ifo), .int (nI fl), .long (ma), .int (mk), .int (bi), .long (wo9), .int (ch9), .int (tu9), .ref sq, .ref uq, .ref gq])) :: (wi, .inl (g 0, 4, .inl (fw))) :: (ck, .inl (g 0, 4, .inl (fc))) :: (fq, .inl (g 0, 4, .inl (ff))) :: (co, .inl (g 0, 228, .inl (fco))) :: (sq, .inl (g 0, 8, .inl (fsq))) :: (uq, .inl (g 2, 128, .inl (fu))) :: (gq, .inl (g 0, 7, .inl (fg))) :: wm) := hD
      obtain rfl : rf = nI 1 := ef
      refine lx_if_eq (tgt := 41) hx hb d_M_column_36 (by decide) (by omega) (fun c36 => ?_) (fun c36 => ?_)
      · skip
        exact absurd c36 (by decide)
      · skip
        refine lv_iconst (v := nI 0) hx hb d_M_column_39 (by decide) ?_
        rw [← hQ]
        refine W.iret (v := nI 0) hx hb hr ?_ hS.2.2 d_M_column_40
        exact fun t ht hW => ⟨⟨nI 0, (), rfl, rfl, by rw [ht]; exact hP, hD⟩, hS.F ht⟩
  · skip
    exact absurd c12 (by decide)
set_option maxHeartbeats 4000000 in
set_option maxRecDepth 100000 in
theorem c_M_share (l : Launch) (D : va_G) (g : Nat → ClassId) (sz : Nat) (wm : va_W) (mo wi ck fq co sq uq gq kd M ifo fl : Nat) (th mk bi ch9 tu9 : Int32) (ma wo9 : Int64) (fw fc ff fco fsq fu fg : Nat → Int32) (hM0 : 0 < M) (hM : M ≤ 57) (k : Nat) (hk9 : k ≤ 1) (hif : ifo ≤ 1) (hfl : fl < 2 ^ ckb kd M) (hkd : kd ≤ 3) (hmw : MWF kd M fw fc ff fco) : Met l y_M_share w_M_share rm_M_share (va_Pc [.ref mo, .int (nI k)] (pP D (tyl g) ((mo, .inr (6, [.int (th), .int (nI M), .int (nI kd), .int (nI (ckb kd M)), .int (nI (nk kd)), .ref wi, .ref ck, .ref fq, .ref co, .int (nI (grsK kd M)), .int (nI ifo), .int (nI fl), .long (ma), .int (mk), .int (bi), .long (wo9), .int (ch9), .int (tu9), .ref sq, .ref uq, .ref gq])) :: (wi, .inl (g 0, 4, .inl (fw))) :: (ck, .inl (g 0, 4, .inl (fc))) :: (fq, .inl (g 0, 4, .inl (ff))) :: (co, .inl (g 0, 228, .inl (fco))) :: (sq, .inl (g 0, 8, .inl (fsq))) :: (uq, .inl (g 2, 128, .inl (fu))) :: (gq, .inl (g 0, 7, .inl (fg))) :: wm) sz)) (va_Qi (fun (r : Int32) (u : (Int64 × Int32 × Int32)) => r = nI (shr kd M k)) (fun u => qB D (va_A ((mo, .inr (6, [.int (th), .int (nI M), .int (nI kd), .int (nI (ckb kd M)), .int (nI (nk kd)), .ref wi, .ref ck, .ref fq, .ref co, .int (nI (grsK kd M)), .int (nI ifo), .int (nI fl), .long (ma), .int (mk), .int (bi), .long (wo9), .int (ch9), .int (tu9), .ref sq, .ref uq, .ref gq])) :: (wi, .inl (g 0, 4, .inl (fw))) :: (ck, .inl (g 0, 4, .inl (fc))) :: (fq, .inl (g 0, 4, .inl (ff))) :: (co, .inl (g 0, 228, .inl (fco))) :: (sq, .inl (g 0, 8, .inl (fsq))) :: (uq, .inl (g 2, 128, .inl (fu))) :: (gq, .inl (g 0, 7, .inl (fg))) :: wm) sz) ((mo, .inr (6, [.int (nI 0), .int (nI M), .int (nI kd), .int (nI (ckb kd M)), .int (nI (nk kd)), .ref wi, .ref ck, .ref fq, .ref co, .int (nI (grsK kd M)), .int (nI ifo), .int (nI fl), .long (u.1), .int (u.2.1), .int (u.2.2), .long (wo9), .int (ch9), .int (tu9), .ref sq, .ref uq, .ref gq])) :: (wi, .inl (g 0, 4, .inl (fw))) :: (ck, .inl (g 0, 4, .inl (fc))) :: (fq, .inl (g 0, 4, .inl (ff))) :: (co, .inl (g 0, 228, .inl (fco))) :: (sq, .inl (g 0, 8, .inl (fsq))) :: (uq, .inl (g 2, 128, .inl (fu))) :: (gq, .inl (g 0, 7, .inl (fg))) :: wm)) (va_A ((mo, .inr (6, [.int (th), .int (nI M), .int (nI kd), .int (nI (ckb kd M)), .int (nI (nk kd)), .ref wi, .ref ck, .ref fq, .ref co, .int (nI (grsK kd M)), .int (nI ifo), .int (nI fl), .long (ma), .int (mk), .int (bi), .long (wo9), .int (ch9), .int (tu9), .ref sq, .ref uq, .ref gq])) :: (wi, .inl (g 0, 4, .inl (fw))) :: (ck, .inl (g 0, 4, .inl (fc))) :: (fq, .inl (g 0, 4, .inl (ff))) :: (co, .inl (g 0, 228, .inl (fco))) :: (sq, .inl (g 0, 8, .inl (fsq))) :: (uq, .inl (g 2, 128, .inl (fu))) :: (gq, .inl (g 0, 7, .inl (fg))) :: wm) sz)) 0 0 (va_A ((mo, .inr (6, [.int (th), .int (nI M), .int (nI kd), .int (nI (ckb kd M)), .int (nI (nk kd)), .ref wi, .ref ck, .ref fq, .ref co, .int (nI (grsK kd M)), .int (nI ifo), .int (nI fl), .long (ma), .int (mk), .int (bi), .long (wo9), .int (ch9), .int (tu9), .ref sq, .ref uq, .ref gq])) :: (wi, .inl (g 0, 4, .inl (fw))) :: (ck, .inl (g 0, 4, .inl (fc))) :: (fq, .inl (g 0, 4, .inl (ff))) :: (co, .inl (g 0, 228, .inl (fco))) :: (sq, .inl (g 0, 8, .inl (fsq))) :: (uq, .inl (g 2, 128, .inl (fu))) :: (gq, .inl (g 0, 7, .inl (fg))) :: wm) sz) := by
  refine Met.ofW (cc := b_M_share) (maxL := 7) (ret := (some .int)) (by decide +kernel) rfl ?_
  intro p e s m args below meth c s₁ Bq hml hv
  have hx := Bq.exec
  have hb := Bq.bytes
  have hr := Bq.returns
  have hts : ∀ w ∈ wA, w.before args s = true := fun w h => atoms_spec (ws := w_M_share) Bq.pre w (List.mem_cons_of_mem _ h)
  have hown : s.vm.findClass R_M = some m.cls := findClass_of_methodNamed Bq.named
  have hlocks := Bq.notSynchronized
  obtain ⟨rfl, hsz, hP, hKK, hD0⟩ := hv
  have hK := hKK.1
  subst hsz
  have hD := hD0.self (sz := s.heap.size)
  generalize hAe : va_A ((mo, .inr (6, [.int (th), .int (nI M), .int (nI kd), .int (nI (ckb kd M)), .int (nI (nk kd)), .ref wi, .ref ck, .ref fq, .ref co, .int (nI (grsK kd M)), .int (nI ifo), .int (nI fl), .long (ma), .int (mk), .int (bi), .long (wo9), .int (ch9), .int (tu9), .ref sq, .ref uq, .ref gq])) :: (wi, .inl (g 0, 4, .inl (fw))) :: (ck, .inl (g 0, 4, .inl (fc))) :: (fq, .inl (g 0, 4, .inl (ff))) :: (co, .inl (g 0, 228, .inl (fco))) :: (sq, .inl (g 0, 8, .inl (fsq))) :: (uq, .inl (g 2, 128, .inl (fu))) :: (gq, .inl (g 0, 7, .inl (fg))) :: wm) s.heap.size = A at hD ⊢
  have hA : ∀ q : Nat, s.heap.size ≤ q → A q := fun q h => by rw [← hAe]; exact Or.inr h
  have hS : va_S A s.heap s.heap [] := va_S.rf
  have hl := lv_entry ([.ref mo, .int (nI k)]) (n := 7) (Nat.le_of_ble_eq_true rfl)
  rw [lg_entry_eq]
  generalize (lg_sl ([.ref mo, .int (nI k)]) ++ List.replicate (7 - (lg_sl ([.ref mo, .int (nI k)])).length) Slot.unset).toArray = ls at hl ⊢
  have hl : lv_has ls 7 [(0, .ref mo), (1, .int (nI k))] := hl
  generalize hQ : MQ below (va_Qi (fun (r : Int32) (u : (Int64 × Int32 × Int32)) => r = nI (shr kd M k)) (fun u => qB D (A) ((mo, .inr (6, [.int (nI 0), .int (nI M), .int (nI kd), .int (nI (ckb kd M)), .int (nI (nk kd)), .ref wi, .ref ck, .ref fq, .ref co, .int (nI (grsK kd M)), .int (nI ifo), .int (nI fl), .long (u.1), .int (u.2.1), .int (u.2.2), .long (wo9), .int (ch9), .int (tu9), .ref sq, .ref uq, .ref gq])) :: (wi, .inl (g 0, 4, .inl (fw))) :: (ck, .inl (g 0, 4, .inl (fc))) :: (fq, .inl (g 0, 4, .inl (ff))) :: (co, .inl (g 0, 228, .inl (fco))) :: (sq, .inl (g 0, 8, .inl (fsq))) :: (uq, .inl (g 2, 128, .inl (fu))) :: (gq, .inl (g 0, 7, .inl (fg))) :: wm)) (A)) [.ref mo, .int (nI k)].toArray s 0 0 A = Q
  have hck := ckb_le kd M
  obtain ⟨hb1, hb2⟩ := shr_below (kd := kd) hM0 hM
  have ht7 := tbl7_le (kd := kd) hM
  have hg0 : 0 < Nat.gcd (tbl (pairA kd M) (M + ckb kd M) (M + ckb kd M) 7) ((M + ckb kd M) * (M + ckb kd M - 1) / 2) := Nat.gcd_pos_of_pos_right _ hb1
  refine lv_aload_n hx hb d_M_share_0 rfl (lv_at hl 0 rfl) ?_
  refine lv_iload_n hx hb d_M_share_1 rfl (lv_at hl 1 rfl) ?_
  refine lv_iconst (v := nI 0) hx hb d_M_share_2 (by decide) ?_
  refine lv_iconst (v := nI 1) hx hb d_M_share_3 (by decide) ?_
  refine lc_Si (As := [.int (nI k), .int (nI 0), .int (nI 1)]) (rest := [.ref mo]) ⟨hx, hb, hml, hown, hts⟩ (c_M_in l D g _ _ (nI k) 2 (by decide) (by decide)) (kS 3 hts m_682 m_680 m_681 m_40 (by decide +kernel) ⟨Nat.le_of_ble_eq_true rfl, Nat.le_of_ble_eq_true rfl⟩) hKK hP hD hS hA hl.1 rfl rfl (Nat.le_of_ble_eq_true rfl) d_M_share_4 ⟨Nat.le_of_ble_eq_true rfl, Nat.le_of_ble_eq_true rfl⟩ (fun r1 u1 H locs e1 hP hD hS => ?_)
  obtain rfl : r1 = nI 1 := e1.trans (by rw [inBb_nI (by decide) (by omega)])
  refine lx_if_ne (tgt := 14) hx hb d_M_share_7 (by decide) (by omega) (fun c7 => ?_) (fun c7 => ?_)
  · skip
    refine lv_iconst (v := nI 0) hx hb d_M_share_14 (by decide) ?_
    refine lv_iconst (v := nI 0) hx hb d_M_share_15 (by decide) ?_
    refine lc_Vi (b := mo) (As := [.int (nI 0), .int (nI 0)]) (rest := []) ⟨hx, hb, hml, hown, hts⟩ (c_M_fails l D g _ wm mo wi ck fq co sq uq gq kd M ifo fl th mk bi ch9 tu9 ma wo9 fw fc ff fco fsq fu fg hM0 hM 0 0 (by decide) (by decide)) (kV 2 hts m_686 m_683 m_685 m_15 m_40 (by decide +kernel) ⟨Nat.le_of_ble_eq_true rfl, Nat.le_of_ble_eq_true rfl⟩) (va_recv hK hP (ci := 6) (q0 := 0) rfl rfl) hKK hP hD hS hA hl.1 rfl rfl (Nat.le_of_ble_eq_true rfl) d_M_share_16 ⟨Nat.le_of_ble_eq_true rfl, Nat.le_of_ble_eq_true rfl⟩ (fun rf uf H locs ef hP hD hS => ?_)
    have hP : va_P D vwCl ((mo, .inr (6, [.int (nI 0), .int (nI M), .int (nI kd), .int (nI (ckb kd M)), .int (nI (nk kd)), .ref wi, .ref ck, .ref fq, .ref co, .int (nI (grsK kd M)), .int (nI ifo), .int (nI fl), .long (ma), .int (mk), .int (bi), .long (wo9), .int (ch9), .int (tu9), .ref sq, .ref uq, .ref gq])) :: (wi, .inl (g 0, 4, .inl (fw))) :: (ck, .inl (g 0, 4, .inl (fc))) :: (fq, .inl (g 0, 4, .inl (ff))) :: (co, .inl (g 0, 228, .inl (fco))) :: (sq, .inl (g 0, 8, .inl (fsq))) :: (uq, .inl (g 2, 128, .inl (fu))) :: (gq, .inl (g 0, 7, .inl (fg))) :: wm) H := hP
    have hD : va_D A ((mo, .inr (6, [.int (nI 0), .int (nI M), .int (nI kd), .int (nI (ckb kd M)), .int (nI (nk kd)), .ref wi, .ref ck, .ref fq, .ref co, .int (nI (grsK kd M)), .int (nI ifo), .int (nI fl), .long (ma), .int (mk), .int (bi), .long (wo9), .int (ch9), .int (tu9), .ref sq, .ref uq, .ref gq])) :: (wi, .inl (g 0, 4, .inl (fw))) :: (ck, .inl (g 0, 4, .inl (fc))) :: (fq, .inl (g 0, 4, .inl (ff))) :: (co, .inl (g 0, 228, .inl (fco))) :: (sq, .inl (g 0, 8, .inl (fsq))) :: (uq, .inl (g 2, 128, .inl (fu))) :: (gq, .inl (g 0, 7, .inl (fg))) :: wm) := hD
    obtain rfl : rf = nI 0 := ef
    refine lx_if_eq (tgt := 24) hx hb d_M_share_19 (by decide) (by omega) (fun c19 => ?_) (fun c19 => ?_)
    · skip
      refine lv_aload_n hx hb d_M_share_24 rfl (lv_at hl 0 rfl) ?_
      refine lv_iconst (v := nI 1) hx hb d_M_share_25 (by decide) ?_
      refine lv_iconst (v := nI 3) hx hb d_M_share_26 (by decide) ?_
      refine lc_Vi (b := mo) (As := [.int (nI 1), .int (nI 3)]) (rest := []) ⟨hx, hb, hml, hown, hts⟩ (c_M_many1 l D g _ wm mo wi ck fq co sq uq gq kd M ifo fl (nI 0) mk bi ch9 tu9 ma wo9 fw fc ff fco fsq fu fg hM0 hM 3 (by decide) hif hfl hkd hmw) (kV 2 hts m_782 m_779 m_781 m_27 m_40 (by decide +kernel) ⟨Nat.le_of_ble_eq_true rfl, Nat.le_of_ble_eq_true rfl⟩) (va_recv hK hP (ci := 6) (q0 := 0) rfl rfl) hKK hP hD hS hA hl.1 rfl rfl (Nat.le_of_ble_eq_true rfl) d_M_share_27 ⟨Nat.le_of_ble_eq_true rfl, Nat.le_of_ble_eq_true rfl⟩ (fun r2 u H locs e2 hP hD hS => ?_)
      have hP : va_P D vwCl ((mo, .inr (6, [.int (nI 0), .int (nI M), .int (nI kd), .int (nI (ckb kd M)), .int (nI (nk kd)), .ref wi, .ref ck, .ref fq, .ref co, .int (nI (grsK kd M)), .int (nI ifo), .int (nI fl), .long (u.1), .int (u.2.1), .int (u.2.2), .long (wo9), .int (ch9), .int (tu9), .ref sq, .ref uq, .ref gq])) :: (wi, .inl (g 0, 4, .inl (fw))) :: (ck, .inl (g 0, 4, .inl (fc))) :: (fq, .inl (g 0, 4, .inl (ff))) :: (co, .inl (g 0, 228, .inl (fco))) :: (sq, .inl (g 0, 8, .inl (fsq))) :: (uq, .inl (g 2, 128, .inl (fu))) :: (gq, .inl (g 0, 7, .inl (fg))) :: wm) H := hP
      have hD : va_D A ((mo, .inr (6, [.int (nI 0), .int (nI M), .int (nI kd), .int (nI (ckb kd M)), .int (nI (nk kd)), .ref wi, .ref ck, .ref fq, .ref co, .int (nI (grsK kd M)), .int (nI ifo), .int (nI fl), .long (u.1), .int (u.2.1), .int (u.2.2), .long (wo9), .int (ch9), .int (tu9), .ref sq, .ref uq, .ref gq])) :: (wi, .inl (g 0, 4, .inl (fw))) :: (ck, .inl (g 0, 4, .inl (fc))) :: (fq, .inl (g 0, 4, .inl (ff))) :: (co, .inl (g 0, 228, .inl (fco))) :: (sq, .inl (g 0, 8, .inl (fsq))) :: (uq, .inl (g 2, 128, .inl (fu))) :: (gq, .inl (g 0, 7, .inl (fg))) :: wm) := hD
      obtain rfl : r2 = nI (tbl (pairA kd M) (M + ckb kd M) (M + ckb kd M) 7) := e2.trans (by rw [tbl_hi hM0 hM (by decide) (by decide)])
      refine lv_istore_n (lv' := [(2, .int (nI (tbl (pairA kd M) (M + ckb kd M) (M + ckb kd M) 7))), (0, .ref mo), (1, .int (nI k))]) hx hb d_M_share_30 rfl hl (by decide) rfl (fun ls hl => ?_)
      refine lv_aload_n hx hb d_M_share_31 rfl (lv_at hl 1 rfl) ?_
      refine va_get (D := D) (ci := 6) (v := .int (nI M)) (C := R_M) (T := F_M) (N := 21) hx hb hts i_M hown hK hP 0 rfl rfl 1 (by decide) (hts _ m_604) (fun _ h9 => h9) rfl d_M_share_32 ?_
      refine lv_aload_n hx hb d_M_share_35 rfl (lv_at hl 1 rfl) ?_
      refine va_get (D := D) (ci := 6) (v := .int (nI (ckb kd M))) (C := R_M) (T := F_M) (N := 21) hx hb hts i_M hown hK hP 0 rfl rfl 3 (by decide) (hts _ m_606) (fun _ h9 => h9) rfl d_M_share_36 ?_
      refine lx_iadd (z := nI (M + (ckb kd M))) hx hb d_M_share_39 (nI_add M (ckb kd M)) ?_
      refine lv_aload_n hx hb d_M_share_40 rfl (lv_at hl 1 rfl) ?_
      refine va_get (D := D) (ci := 6) (v := .int (nI M)) (C := R_M) (T := F_M) (N := 21) hx hb hts i_M hown hK hP 0 rfl rfl 1 (by decide) (hts _ m_604) (fun _ h9 => h9) rfl d_M_share_41 ?_
      refine lv_aload_n hx hb d_M_share_44 rfl (lv_at hl 1 rfl) ?_
      refine va_get (D := D) (ci := 6) (v := .int (nI (ckb kd M))) (C := R_M) (T := F_M) (N := 21) hx hb hts i_M hown hK hP 0 rfl rfl 3 (by decide) (hts _ m_606) (fun _ h9 => h9) rfl d_M_share_45 ?_
      refine lx_iadd (z := nI (M + (ckb kd M))) hx hb d_M_share_48 (nI_add M (ckb kd M)) ?_
      refine lv_iconst (v := nI 1) hx hb d_M_share_49 (by decide) ?_
      refine lx_isub (z := nI (M + ckb kd M - 1)) hx hb d_M_share_50 (pk_sub (by omega)) ?_
      refine lx_imul (z := nI ((M + ckb kd M) * (M + ckb kd M - 1))) hx hb d_M_share_51 (pk_mul _ _) ?_
      refine lv_iconst (v := nI 2) hx hb d_M_share_52 (by decide) ?_
      refine lx_idiv (z := nI ((M + ckb kd M) * (M + ckb kd M - 1) / 2)) hx hb d_M_share_53 (by decide) (pk_div (by omega) (by omega) (by omega)) ?_
      refine lv_istore_n (lv' := [(3, .int (nI ((M + ckb kd M) * (M + ckb kd M - 1) / 2))), (2, .int (nI (tbl (pairA kd M) (M + ckb kd M) (M + ckb kd M) 7))), (0, .ref mo), (1, .int (nI k))]) hx hb d_M_share_54 rfl hl (by decide) rfl (fun ls hl => ?_)
      refine lv_iload_n hx hb d_M_share_55 rfl (lv_at hl 0 rfl) ?_
      refine lv_istore (lv' := [(4, .int (nI ((M + ckb kd M) * (M + ckb kd M - 1) / 2))), (3, .int (nI ((M + ckb kd M) * (M + ckb kd M - 1) / 2))), (2, .int (nI (tbl (pairA kd M) (M + ckb kd M) (M + ckb kd M) 7))), (0, .ref mo), (1, .int (nI k))]) hx hb d_M_share_56 hl (by decide) rfl (fun ls hl => ?_)
      refine lv_iload_n hx hb d_M_share_58 rfl (lv_at hl 2 rfl) ?_
      refine lv_istore (lv' := [(5, .int (nI (tbl (pairA kd M) (M + ckb kd M) (M + ckb kd M) 7))), (4, .int (nI ((M + ckb kd M) * (M + ckb kd M - 1) / 2))), (3, .int (nI ((M + ckb kd M) * (M + ckb kd M - 1) / 2))), (2, .int (nI (tbl (pairA kd M) (M + ckb kd M) (M + ckb kd M) 7))), (0, .ref mo), (1, .int (nI k))]) hx hb d_M_share_59 hl (by decide) rfl (fun ls hl => ?_)
      have lp61 : ∀ (n : Nat) (x y : Nat) (ls : Array Slot) (H : Heap) (locs : List Loc), (y < n) → (x < 2 ^ 20) → (y < 2 ^ 20) → (Nat.gcd x y = Nat.gcd ((M + ckb kd M) * (M + ckb kd M - 1) / 2) (tbl (pairA kd M) (M + ckb kd M) (M + ckb kd M) 7)) → lv_has ls 7 [(1, .int (nI k)), (2, .int (nI (tbl (pairA kd M) (M + ckb kd M) (M + ckb kd M) 7))), (3, .int (nI ((M + ckb kd M) * (M + ckb kd M - 1) / 2))), (4, .int (nI x)), (5, .int (nI y))] → va_P D vwCl ((mo, .inr (6, [.int (nI 0), .int (nI M), .int (nI kd), .int (nI (ckb kd M)), .int (nI (nk kd)), .ref wi, .ref ck, .ref fq, .ref co, .int (nI (grsK kd M)), .int (nI ifo), .int (nI fl), .long (u.1), .int (u.2.1), .int (u.2.2), .long (wo9), .int (ch9), .int (tu9), .ref sq, .ref uq, .ref gq])) :: (wi, .inl (g 0, 4, .inl (fw))) :: (ck, .inl (g 0, 4, .inl (fc))) :: (fq, .inl (g 0, 4, .inl (ff))) :: (co, .inl (g 0, 228, .inl (fco))) :: (sq, .inl (g 0, 8, .inl (fsq))) :: (uq, .inl (g 2, 128, .inl (fu))) :: (gq, .inl (g 0, 7, .inl (fg))) :: wm) H → va_D A ((mo, .inr (6, [.int (nI 0), .int (nI M), .int (nI kd), .int (nI (ckb kd M)), .int (nI (nk kd)), .ref wi, .ref ck, .ref fq, .ref co, .int (nI (grsK kd M)), .int (nI ifo), .int (nI fl), .long (u.1), .int (u.2.1), .int (u.2.2), .long (wo9), .int (ch9), .int (tu9), .ref sq, .ref uq, .ref gq])) :: (wi, .inl (g 0, 4, .inl (fw))) :: (ck, .inl (g 0, 4, .inl (fc))) :: (fq, .inl (g 0, 4, .inl (ff))) :: (co, .inl (g 0, 228, .inl (fco))) :: (sq, .inl (g 0, 8, .inl (fsq))) :: (uq, .inl (g 2, 128, .inl (fu))) :: (gq, .inl (g 0, 7, .inl (fg))) :: wm) → va_S A s.heap H locs → W p l e (headSpec w_M_share rm_M_share).room s m [.ref mo, .int (nI k)].toArray below meth c H locs 0 0 Q (F0 m 61 ls []) := by
        intro n
        induction n with
        | zero => intro x y ls H locs hfu hx9 hy9 hg _ _ _ _; exact absurd hfu (by omega)
        | succ n ih =>
          intro x y ls H locs hfu hx9 hy9 hg hl hP hD hS
          refine lv_iload hx hb d_M_share_61 (lv_at hl 4 rfl) ?_
          refine lx_if_le (tgt := 84) hx hb d_M_share_63 (by decide) (by omega) (fun k63 => ?_) (fun k63 => ?_)
          · skip
            have ex : x = Nat.gcd (tbl (pairA kd M) (M + ckb kd M) (M + ckb kd M) 7) ((M + ckb kd M) * (M + ckb kd M - 1) / 2) := by rw [k63, Nat.gcd_zero_right] at hg; rw [hg, Nat.gcd_comm]
            subst ex
            have hgl : Nat.gcd (tbl (pairA kd M) (M + ckb kd M) (M + ckb kd M) 7) ((M + ckb kd M) * (M + ckb kd M - 1) / 2) ≤ (M + ckb kd M) * (M + ckb kd M - 1) / 2 := Nat.gcd_le_right _ hb1
            refine lv_iload_n hx hb d_M_share_84 rfl (lv_at hl 0 rfl) ?_
            refine lx_if_ne (tgt := 95) hx hb d_M_share_85 (by decide) (by omega) (fun c85 => ?_) (fun c85 => ?_)
            · skip
              refine lv_iload_n hx hb d_M_share_95 rfl (lv_at hl 2 rfl) ?_
              refine lv_iload hx hb d_M_share_96 (lv_at hl 3 rfl) ?_
              refine lx_idiv (z := nI (((M + ckb kd M) * (M + ckb kd M - 1) / 2) / Nat.gcd (tbl (pairA kd M) (M + ckb kd M) (M + ckb kd M) 7) ((M + ckb kd M) * (M + ckb kd M - 1) / 2))) hx hb d_M_share_98 (nI_ne0 (by omega) (by omega)) (pk_div (by omega) (by omega) (by omega)) ?_
              rw [← hQ]
              refine W.iret (v := nI (((M + ckb kd M) * (M + ckb kd M - 1) / 2) / Nat.gcd (tbl (pairA kd M) (M + ckb kd M) (M + ckb kd M) 7) ((M + ckb kd M) * (M + ckb kd M - 1) / 2))) hx hb hr ?_ hS.2.2 d_M_share_99
              exact fun t ht hW => ⟨⟨nI (((M + ckb kd M) * (M + ckb kd M - 1) / 2) / Nat.gcd (tbl (pairA kd M) (M + ckb kd M) (M + ckb kd M) 7) ((M + ckb kd M) * (M + ckb kd M - 1) / 2)), u, rfl, (by unfold shr; rw [if_neg c85]), by rw [ht]; exact hP, hD⟩, hS.F ht⟩
            · skip
              refine lv_iload_n hx hb d_M_share_88 rfl (lv_at hl 1 rfl) ?_
              refine lv_iload hx hb d_M_share_89 (lv_at hl 3 rfl) ?_
              refine lx_idiv (z := nI ((tbl (pairA kd M) (M + ckb kd M) (M + ckb kd M) 7) / Nat.gcd (tbl (pairA kd M) (M + ckb kd M) (M + ckb kd M) 7) ((M + ckb kd M) * (M + ckb kd M - 1) / 2))) hx hb d_M_share_91 (nI_ne0 (by omega) (by omega)) (pk_div (by omega) (by omega) (by omega)) ?_
              refine lv_goto (tgt := 99) hx hb d_M_share_92 (by decide) ?_
              rw [← hQ]
              refine W.iret (v := nI ((tbl (pairA kd M) (M + ckb kd M) (M + ckb kd M) 7) / Nat.gcd (tbl (pairA kd M) (M + ckb kd M) (M + ckb kd M) 7) ((M + ckb kd M) * (M + ckb kd M - 1) / 2))) hx hb hr ?_ hS.2.2 d_M_share_99
              exact fun t ht hW => ⟨⟨nI ((tbl (pairA kd M) (M + ckb kd M) (M + ckb kd M) 7) / Nat.gcd (tbl (pairA kd M) (M + ckb kd M) (M + ckb kd M) 7) ((M + ckb kd M) * (M + ckb kd M - 1) / 2)), u, rfl, (by unfold shr; rw [if_pos c85]), by rw [ht]; exact hP, hD⟩, hS.F ht⟩
          · skip
            have hm9 := Nat.mod_lt x k63
            refine lv_iload hx hb d_M_share_66 (lv_at hl 3 rfl) ?_
            refine lv_iload hx hb d_M_share_68 (lv_at hl 4 rfl) ?_
            refine lx_irem (z := nI (x % y)) hx hb d_M_share_70 (nI_ne0 (by omega) (by omega)) (pk_rem (by omega) (by omega) (by omega)) ?_
            refine lv_istore (lv' := [(6, .int (nI (x % y))), (1, .int (nI k)), (2, .int (nI (tbl (pairA kd M) (M + ckb kd M) (M + ckb kd M) 7))), (3, .int (nI ((M + ckb kd M) * (M + ckb kd M - 1) / 2))), (4, .int (nI x)), (5, .int (nI y))]) hx hb d_M_share_71 hl (by decide) rfl (fun ls hl => ?_)
            refine lv_iload hx hb d_M_share_73 (lv_at hl 5 rfl) ?_
            refine lv_istore (lv' := [(4, .int (nI y)), (6, .int (nI (x % y))), (1, .int (nI k)), (2, .int (nI (tbl (pairA kd M) (M + ckb kd M) (M + ckb kd M) 7))), (3, .int (nI ((M + ckb kd M) * (M + ckb kd M - 1) / 2))), (5, .int (nI y))]) hx hb d_M_share_75 hl (by decide) rfl (fun ls hl => ?_)
            refine lv_iload hx hb d_M_share_77 (lv_at hl 1 rfl) ?_
            refine lv_istore (lv' := [(5, .int (nI (x % y))), (4, .int (nI y)), (6, .int (nI (x % y))), (1, .int (nI k)), (2, .int (nI (tbl (pairA kd M) (M + ckb kd M) (M + ckb kd M) 7))), (3, .int (nI ((M + ckb kd M) * (M + ckb kd M - 1) / 2)))]) hx hb d_M_share_79 hl (by decide) rfl (fun ls hl => ?_)
            refine lv_goto (tgt := 61) hx hb d_M_share_81 (by decide) ?_
            exact ih y (x % y) _ _ _ (by omega) (by omega) (by omega) (by rw [Nat.gcd_comm y (x % y), ← Nat.gcd_rec, Nat.gcd_comm]; exact hg) (lv_sub hl [3, 4, 5, 1, 0] rfl) hP hD hS
      exact lp61 (tbl (pairA kd M) (M + ckb kd M) (M + ckb kd M) 7 + 1) ((M + ckb kd M) * (M + ckb kd M - 1) / 2) (tbl (pairA kd M) (M + ckb kd M) (M + ckb kd M) 7) _ _ _ (by omega) (by omega) (by omega) (rfl) (lv_sub hl [5, 3, 2, 1, 0] rfl) hP hD hS
    · skip
      exact absurd rfl c19
  · skip
    exact absurd c7 (by decide)
set_option maxHeartbeats 4000000 in
set_option maxRecDepth 100000 in
theorem t_M_share (l : Launch) (D : va_G) (g : Nat → ClassId) (sz : Nat) (wm : va_W) (mo wi ck fq co sq uq gq kd M ifo fl : Nat) (th mk bi ch9 tu9 : Int32) (ma wo9 : Int64) (fw fc ff fco fsq fu fg : Nat → Int32) (hM0 : 0 < M) (hM : M ≤ 57) (v : Int32) (h09 : ¬ v = nI 0) (h19 : ¬ v = nI 1) : Met l y_M_share w_M_share rm_M_share (va_Pc [.ref mo, .int (v)] (pP D (tyl g) ((mo, .inr (6, [.int (th), .int (nI M), .int (nI kd), .int (nI (ckb kd M)), .int (nI (nk kd)), .ref wi, .ref ck, .ref fq, .ref co, .int (nI (grsK kd M)), .int (nI ifo), .int (nI fl), .long (ma), .int (mk), .int (bi), .long (wo9), .int (ch9), .int (tu9), .ref sq, .ref uq, .ref gq])) :: (wi, .inl (g 0, 4, .inl (fw))) :: (ck, .inl (g 0, 4, .inl (fc))) :: (fq, .inl (g 0, 4, .inl (ff))) :: (co, .inl (g 0, 228, .inl (fco))) :: (sq, .inl (g 0, 8, .inl (fsq))) :: (uq, .inl (g 2, 128, .inl (fu))) :: (gq, .inl (g 0, 7, .inl (fg))) :: wm) sz)) (va_Qi (fun (r : Int32) (u : Unit) => r = nI 0) (fun u => qB D (va_A ((mo, .inr (6, [.int (th), .int (nI M), .int (nI kd), .int (nI (ckb kd M)), .int (nI (nk kd)), .ref wi, .ref ck, .ref fq, .ref co, .int (nI (grsK kd M)), .int (nI ifo), .int (nI fl), .long (ma), .int (mk), .int (bi), .long (wo9), .int (ch9), .int (tu9), .ref sq, .ref uq, .ref gq])) :: (wi, .inl (g 0, 4, .inl (fw))) :: (ck, .inl (g 0, 4, .inl (fc))) :: (fq, .inl (g 0, 4, .inl (ff))) :: (co, .inl (g 0, 228, .inl (fco))) :: (sq, .inl (g 0, 8, .inl (fsq))) :: (uq, .inl (g 2, 128, .inl (fu))) :: (gq, .inl (g 0, 7, .inl (fg))) :: wm) sz) ((mo, .inr (6, [.int (nI 1), .int (nI M), .int (nI kd), .int (nI (ckb kd M)), .int (nI (nk kd)), .ref wi, .ref ck, .ref fq, .ref co, .int (nI (grsK kd M)), .int (nI ifo), .int (nI fl), .long (ma), .int (mk), .int (bi), .long (wo9), .int (ch9), .int (tu9), .ref sq, .ref uq, .ref gq])) :: (wi, .inl (g 0, 4, .inl (fw))) :: (ck, .inl (g 0, 4, .inl (fc))) :: (fq, .inl (g 0, 4, .inl (ff))) :: (co, .inl (g 0, 228, .inl (fco))) :: (sq, .inl (g 0, 8, .inl (fsq))) :: (uq, .inl (g 2, 128, .inl (fu))) :: (gq, .inl (g 0, 7, .inl (fg))) :: wm)) (va_A ((mo, .inr (6, [.int (th), .int (nI M), .int (nI kd), .int (nI (ckb kd M)), .int (nI (nk kd)), .ref wi, .ref ck, .ref fq, .ref co, .int (nI (grsK kd M)), .int (nI ifo), .int (nI fl), .long (ma), .int (mk), .int (bi), .long (wo9), .int (ch9), .int (tu9), .ref sq, .ref uq, .ref gq])) :: (wi, .inl (g 0, 4, .inl (fw))) :: (ck, .inl (g 0, 4, .inl (fc))) :: (fq, .inl (g 0, 4, .inl (ff))) :: (co, .inl (g 0, 228, .inl (fco))) :: (sq, .inl (g 0, 8, .inl (fsq))) :: (uq, .inl (g 2, 128, .inl (fu))) :: (gq, .inl (g 0, 7, .inl (fg))) :: wm) sz)) 0 0 (va_A ((mo, .inr (6, [.int (th), .int (nI M), .int (nI kd), .int (nI (ckb kd M)), .int (nI (nk kd)), .ref wi, .ref ck, .ref fq, .ref co, .int (nI (grsK kd M)), .int (nI ifo), .int (nI fl), .long (ma), .int (mk), .int (bi), .long (wo9), .int (ch9), .int (tu9), .ref sq, .ref uq, .ref gq])) :: (wi, .inl (g 0, 4, .inl (fw))) :: (ck, .inl (g 0, 4, .inl (fc))) :: (fq, .inl (g 0, 4, .inl (ff))) :: (co, .inl (g 0, 228, .inl (fco))) :: (sq, .inl (g 0, 8, .inl (fsq))) :: (uq, .inl (g 2, 128, .inl (fu))) :: (gq, .inl (g 0, 7, .inl (fg))) :: wm) sz) := by
  refine Met.ofW (cc := b_M_share) (maxL := 7) (ret := (some .int)) (by decide +kernel) rfl ?_
  intro p e s m args below meth c s₁ Bq hml hv
  have hx := Bq.exec
  have hb := Bq.bytes
  have hr := Bq.returns
  have hts : ∀ w ∈ wA, w.before args s = true := fun w h => atoms_spec (ws := w_M_share) Bq.pre w (List.mem_cons_of_mem _ h)
  have hown : s.vm.findClass R_M = some m.cls := findClass_of_methodNamed Bq.named
  have hlocks := Bq.notSynchronized
  obtain ⟨rfl, hsz, hP, hKK, hD0⟩ := hv
  have hK := hKK.1
  subst hsz
  have hD := hD0.self (sz := s.heap.size)
  generalize hAe : va_A ((mo, .inr (6, [.int (th), .int (nI M), .int (nI kd), .int (nI (ckb kd M)), .int (nI (nk kd)), .ref wi, .ref ck, .ref fq, .ref co, .int (nI (grsK kd M)), .int (nI ifo), .int (nI fl), .long (ma), .int (mk), .int (bi), .long (wo9), .int (ch9), .int (tu9), .ref sq, .ref uq, .ref gq])) :: (wi, .inl (g 0, 4, .inl (fw))) :: (ck, .inl (g 0, 4, .inl (fc))) :: (fq, .inl (g 0, 4, .inl (ff))) :: (co, .inl (g 0, 228, .inl (fco))) :: (sq, .inl (g 0, 8, .inl (fsq))) :: (uq, .inl (g 2, 128, .inl (fu))) :: (gq, .inl (g 0, 7, .inl (fg))) :: wm) s.heap.size = A at hD ⊢
  have hA : ∀ q : Nat, s.heap.size ≤ q → A q := fun q h => by rw [← hAe]; exact Or.inr h
  have hS : va_S A s.heap s.heap [] := va_S.rf
  have hl := lv_entry ([.ref mo, .int (v)]) (n := 7) (Nat.le_of_ble_eq_true rfl)
  rw [lg_entry_eq]
  generalize (lg_sl ([.ref mo, .int (v)]) ++ List.replicate (7 - (lg_sl ([.ref mo, .int (v)])).length) Slot.unset).toArray = ls at hl ⊢
  have hl : lv_has ls 7 [(0, .ref mo), (1, .int (v))] := hl
  generalize hQ : MQ below (va_Qi (fun (r : Int32) (u : Unit) => r = nI 0) (fun u => qB D (A) ((mo, .inr (6, [.int (nI 1), .int (nI M), .int (nI kd), .int (nI (ckb kd M)), .int (nI (nk kd)), .ref wi, .ref ck, .ref fq, .ref co, .int (nI (grsK kd M)), .int (nI ifo), .int (nI fl), .long (ma), .int (mk), .int (bi), .long (wo9), .int (ch9), .int (tu9), .ref sq, .ref uq, .ref gq])) :: (wi, .inl (g 0, 4, .inl (fw))) :: (ck, .inl (g 0, 4, .inl (fc))) :: (fq, .inl (g 0, 4, .inl (ff))) :: (co, .inl (g 0, 228, .inl (fco))) :: (sq, .inl (g 0, 8, .inl (fsq))) :: (uq, .inl (g 2, 128, .inl (fu))) :: (gq, .inl (g 0, 7, .inl (fg))) :: wm)) (A)) [.ref mo, .int (v)].toArray s 0 0 A = Q
  have hv9 : inBb 2 v = 0 := by rcases inBb_cases 2 v (by decide) with q | ⟨n9, q1, q2⟩; exact q; rcases (show n9 = 0 ∨ n9 = 1 by omega) with rfl | rfl; exact absurd q2 h09; exact absurd q2 h19
  refine lv_aload_n hx hb d_M_share_0 rfl (lv_at hl 0 rfl) ?_
  refine lv_iload_n hx hb d_M_share_1 rfl (lv_at hl 1 rfl) ?_
  refine lv_iconst (v := nI 0) hx hb d_M_share_2 (by decide) ?_
  refine lv_iconst (v := nI 1) hx hb d_M_share_3 (by decide) ?_
  refine lc_Si (As := [.int (v), .int (nI 0), .int (nI 1)]) (rest := [.ref mo]) ⟨hx, hb, hml, hown, hts⟩ (c_M_in l D g _ _ v 2 (by decide) (by decide)) (kS 3 hts m_682 m_680 m_681 m_40 (by decide +kernel) ⟨Nat.le_of_ble_eq_true rfl, Nat.le_of_ble_eq_true rfl⟩) hKK hP hD hS hA hl.1 rfl rfl (Nat.le_of_ble_eq_true rfl) d_M_share_4 ⟨Nat.le_of_ble_eq_true rfl, Nat.le_of_ble_eq_true rfl⟩ (fun r1 u1 H locs e1 hP hD hS => ?_)
  obtain rfl : r1 = nI 0 := e1.trans (by rw [hv9])
  refine lx_if_ne (tgt := 14) hx hb d_M_share_7 (by decide) (by omega) (fun c7 => ?_) (fun c7 => ?_)
  · skip
    exact absurd rfl c7
  · skip
    refine lv_iconst (v := nI 1) hx hb d_M_share_10 (by decide) ?_
    refine lv_goto (tgt := 15) hx hb d_M_share_11 (by decide) ?_
    refine lv_iconst (v := nI 0) hx hb d_M_share_15 (by decide) ?_
    refine lc_Vi (b := mo) (As := [.int (nI 1), .int (nI 0)]) (rest := []) ⟨hx, hb, hml, hown, hts⟩ (c_M_fails l D g _ wm mo wi ck fq co sq uq gq kd M ifo fl th mk bi ch9 tu9 ma wo9 fw fc ff fco fsq fu fg hM0 hM 1 0 (by decide) (by decide)) (kV 2 hts m_686 m_683 m_685 m_15 m_40 (by decide +kernel) ⟨Nat.le_of_ble_eq_true rfl, Nat.le_of_ble_eq_true rfl⟩) (va_recv hK hP (ci := 6) (q0 := 0) rfl rfl) hKK hP hD hS hA hl.1 rfl rfl (Nat.le_of_ble_eq_true rfl) d_M_share_16 ⟨Nat.le_of_ble_eq_true rfl, Nat.le_of_ble_eq_true rfl⟩ (fun rf uf H locs ef hP hD hS => ?_)
    have hP : va_P D vwCl ((mo, .inr (6, [.int (nI 1), .int (nI M), .int (nI kd), .int (nI (ckb kd M)), .int (nI (nk kd)), .ref wi, .ref ck, .ref fq, .ref co, .int (nI (grsK kd M)), .int (nI ifo), .int (nI fl), .long (ma), .int (mk), .int (bi), .long (wo9), .int (ch9), .int (tu9), .ref sq, .ref uq, .ref gq])) :: (wi, .inl (g 0, 4, .inl (fw))) :: (ck, .inl (g 0, 4, .inl (fc))) :: (fq, .inl (g 0, 4, .inl (ff))) :: (co, .inl (g 0, 228, .inl (fco))) :: (sq, .inl (g 0, 8, .inl (fsq))) :: (uq, .inl (g 2, 128, .inl (fu))) :: (gq, .inl (g 0, 7, .inl (fg))) :: wm) H := hP
    have hD : va_D A ((mo, .inr (6, [.int (nI 1), .int (nI M), .int (nI kd), .int (nI (ckb kd M)), .int (nI (nk kd)), .ref wi, .ref ck, .ref fq, .ref co, .int (nI (grsK kd M)), .int (nI ifo), .int (nI fl), .long (ma), .int (mk), .int (bi), .long (wo9), .int (ch9), .int (tu9), .ref sq, .ref uq, .ref gq])) :: (wi, .inl (g 0, 4, .inl (fw))) :: (ck, .inl (g 0, 4, .inl (fc))) :: (fq, .inl (g 0, 4, .inl (ff))) :: (co, .inl (g 0, 228, .inl (fco))) :: (sq, .inl (g 0, 8, .inl (fsq))) :: (uq, .inl (g 2, 128, .inl (fu))) :: (gq, .inl (g 0, 7, .inl (fg))) :: wm) := hD
    obtain rfl : rf = nI 1 := ef
    refine lx_if_eq (tgt := 24) hx hb d_M_share_19 (by decide) (by omega) (fun c19 => ?_) (fun c19 => ?_)
    · skip
      exact absurd c19 (by decide)
    · skip
      refine lv_iconst (v := nI 0) hx hb d_M_share_22 (by decide) ?_
      rw [← hQ]
      refine W.iret (v := nI 0) hx hb hr ?_ hS.2.2 d_M_share_23
      exact fun t ht hW => ⟨⟨nI 0, (), rfl, rfl, by rw [ht]; exact hP, hD⟩, hS.F ht⟩
