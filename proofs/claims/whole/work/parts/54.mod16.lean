set_option maxRecDepth 20000 in
theorem m_782 : Cond.code y_M_many b_M_many 7 (some .int) ∈ wA := in_wA (List.mem_of_getElem? (i := 782) rfl) rfl
set_option maxRecDepth 20000 in
theorem m_779 : Cond.methodLink R_M 152 y_M_many ∈ wA := in_wA (List.mem_of_getElem? (i := 779) rfl) rfl
set_option maxRecDepth 20000 in
theorem m_781 : Cond.instanceMethod y_M_many ∈ wA := in_wA (List.mem_of_getElem? (i := 781) rfl) rfl
set_option maxRecDepth 20000 in
theorem m_27 : Cond.selects R_M y_M_many y_M_many ∈ wA := in_wA (List.mem_of_getElem? (i := 27) rfl) rfl
abbrev w_M_many : List Cond := .code y_M_many b_M_many 7 (some .int) :: wA
abbrev rm_M_many : Room := { frames := 7, cells := 0, slots := 0, locals := 170 }
theorem d_M_many_0 : decode b_M_many 0 = .ok (.iconst 0, 1) := by decide +kernel
theorem d_M_many_1 : decode b_M_many 1 = .ok (.istore_n 3, 1) := by decide +kernel
theorem d_M_many_2 : decode b_M_many 2 = .ok (.iconst 0, 1) := by decide +kernel
theorem d_M_many_3 : decode b_M_many 3 = .ok (.istore 4, 2) := by decide +kernel
theorem d_M_many_5 : decode b_M_many 5 = .ok (.iload 4, 2) := by decide +kernel
theorem d_M_many_7 : decode b_M_many 7 = .ok (.aload_n 0, 1) := by decide +kernel
theorem d_M_many_8 : decode b_M_many 8 = .ok (.getfield 34, 3) := by decide +kernel
theorem d_M_many_11 : decode b_M_many 11 = .ok (.aload_n 0, 1) := by decide +kernel
theorem d_M_many_12 : decode b_M_many 12 = .ok (.getfield 44, 3) := by decide +kernel
theorem d_M_many_15 : decode b_M_many 15 = .ok (.iadd, 1) := by decide +kernel
theorem d_M_many_16 : decode b_M_many 16 = .ok (.if_icmp .ge 79, 3) := by decide +kernel
theorem d_M_many_19 : decode b_M_many 19 = .ok (.iload_n 1, 1) := by decide +kernel
theorem d_M_many_20 : decode b_M_many 20 = .ok (.ifCond .eq 17, 3) := by decide +kernel
theorem d_M_many_23 : decode b_M_many 23 = .ok (.aload_n 0, 1) := by decide +kernel
theorem d_M_many_24 : decode b_M_many 24 = .ok (.getfield 34, 3) := by decide +kernel
theorem d_M_many_27 : decode b_M_many 27 = .ok (.aload_n 0, 1) := by decide +kernel
theorem d_M_many_28 : decode b_M_many 28 = .ok (.getfield 44, 3) := by decide +kernel
theorem d_M_many_31 : decode b_M_many 31 = .ok (.iadd, 1) := by decide +kernel
theorem d_M_many_32 : decode b_M_many 32 = .ok (.iconst 1, 1) := by decide +kernel
theorem d_M_many_33 : decode b_M_many 33 = .ok (.isub, 1) := by decide +kernel
theorem d_M_many_34 : decode b_M_many 34 = .ok (.goto 5, 3) := by decide +kernel
theorem d_M_many_37 : decode b_M_many 37 = .ok (.iload 4, 2) := by decide +kernel
theorem d_M_many_39 : decode b_M_many 39 = .ok (.istore 5, 2) := by decide +kernel
theorem d_M_many_41 : decode b_M_many 41 = .ok (.iload_n 1, 1) := by decide +kernel
theorem d_M_many_42 : decode b_M_many 42 = .ok (.ifCond .eq 10, 3) := by decide +kernel
theorem d_M_many_45 : decode b_M_many 45 = .ok (.iload 4, 2) := by decide +kernel
theorem d_M_many_47 : decode b_M_many 47 = .ok (.iconst 1, 1) := by decide +kernel
theorem d_M_many_48 : decode b_M_many 48 = .ok (.iadd, 1) := by decide +kernel
theorem d_M_many_49 : decode b_M_many 49 = .ok (.goto 5, 3) := by decide +kernel
theorem d_M_many_52 : decode b_M_many 52 = .ok (.iload 4, 2) := by decide +kernel
theorem d_M_many_54 : decode b_M_many 54 = .ok (.istore 6, 2) := by decide +kernel
theorem d_M_many_56 : decode b_M_many 56 = .ok (.iload 6, 2) := by decide +kernel
theorem d_M_many_58 : decode b_M_many 58 = .ok (.iload 5, 2) := by decide +kernel
theorem d_M_many_60 : decode b_M_many 60 = .ok (.if_icmp .gt 29, 3) := by decide +kernel
theorem d_M_many_63 : decode b_M_many 63 = .ok (.iload_n 3, 1) := by decide +kernel
theorem d_M_many_64 : decode b_M_many 64 = .ok (.aload_n 0, 1) := by decide +kernel
theorem d_M_many_65 : decode b_M_many 65 = .ok (.iload 4, 2) := by decide +kernel
theorem d_M_many_67 : decode b_M_many 67 = .ok (.iload 6, 2) := by decide +kernel
theorem d_M_many_69 : decode b_M_many 69 = .ok (.invokevirtual 149, 3) := by decide +kernel
theorem d_M_many_72 : decode b_M_many 72 = .ok (.iload_n 2, 1) := by decide +kernel
theorem d_M_many_73 : decode b_M_many 73 = .ok (.if_icmp .ne 7, 3) := by decide +kernel
theorem d_M_many_76 : decode b_M_many 76 = .ok (.iconst 1, 1) := by decide +kernel
theorem d_M_many_77 : decode b_M_many 77 = .ok (.goto 4, 3) := by decide +kernel
theorem d_M_many_80 : decode b_M_many 80 = .ok (.iconst 0, 1) := by decide +kernel
theorem d_M_many_81 : decode b_M_many 81 = .ok (.iadd, 1) := by decide +kernel
theorem d_M_many_82 : decode b_M_many 82 = .ok (.istore_n 3, 1) := by decide +kernel
theorem d_M_many_83 : decode b_M_many 83 = .ok (.iinc 6 1, 3) := by decide +kernel
theorem d_M_many_86 : decode b_M_many 86 = .ok (.goto (-30), 3) := by decide +kernel
theorem d_M_many_89 : decode b_M_many 89 = .ok (.iinc 4 1, 3) := by decide +kernel
theorem d_M_many_92 : decode b_M_many 92 = .ok (.goto (-87), 3) := by decide +kernel
theorem d_M_many_95 : decode b_M_many 95 = .ok (.iload_n 3, 1) := by decide +kernel
theorem d_M_many_96 : decode b_M_many 96 = .ok (.ireturn, 1) := by decide +kernel
abbrev w_M_table : List Cond := .code y_M_table b_M_table 2 (some .int) :: wA
abbrev rm_M_table : Room := { frames := 8, cells := 0, slots := 0, locals := 196 }
theorem d_M_table_0 : decode b_M_table 0 = .ok (.aload_n 0, 1) := by decide +kernel
theorem d_M_table_1 : decode b_M_table 1 = .ok (.iload_n 1, 1) := by decide +kernel
theorem d_M_table_2 : decode b_M_table 2 = .ok (.iconst 0, 1) := by decide +kernel
theorem d_M_table_3 : decode b_M_table 3 = .ok (.bipush 7, 2) := by decide +kernel
theorem d_M_table_5 : decode b_M_table 5 = .ok (.invokestatic 131, 3) := by decide +kernel
theorem d_M_table_8 : decode b_M_table 8 = .ok (.ifCond .ne 7, 3) := by decide +kernel
theorem d_M_table_11 : decode b_M_table 11 = .ok (.iconst 1, 1) := by decide +kernel
theorem d_M_table_12 : decode b_M_table 12 = .ok (.goto 4, 3) := by decide +kernel
theorem d_M_table_15 : decode b_M_table 15 = .ok (.iconst 0, 1) := by decide +kernel
theorem d_M_table_16 : decode b_M_table 16 = .ok (.iconst 0, 1) := by decide +kernel
theorem d_M_table_17 : decode b_M_table 17 = .ok (.invokevirtual 135, 3) := by decide +kernel
theorem d_M_table_20 : decode b_M_table 20 = .ok (.ifCond .eq 7, 3) := by decide +kernel
theorem d_M_table_23 : decode b_M_table 23 = .ok (.iconst 0, 1) := by decide +kernel
theorem d_M_table_24 : decode b_M_table 24 = .ok (.goto 20, 3) := by decide +kernel
theorem d_M_table_27 : decode b_M_table 27 = .ok (.aload_n 0, 1) := by decide +kernel
theorem d_M_table_28 : decode b_M_table 28 = .ok (.iload_n 1, 1) := by decide +kernel
theorem d_M_table_29 : decode b_M_table 29 = .ok (.iconst 3, 1) := by decide +kernel
theorem d_M_table_30 : decode b_M_table 30 = .ok (.if_icmp .le 7, 3) := by decide +kernel
theorem d_M_table_33 : decode b_M_table 33 = .ok (.iconst 1, 1) := by decide +kernel
theorem d_M_table_34 : decode b_M_table 34 = .ok (.goto 4, 3) := by decide +kernel
theorem d_M_table_37 : decode b_M_table 37 = .ok (.iconst 0, 1) := by decide +kernel
theorem d_M_table_38 : decode b_M_table 38 = .ok (.iload_n 1, 1) := by decide +kernel
theorem d_M_table_39 : decode b_M_table 39 = .ok (.iconst 3, 1) := by decide +kernel
theorem d_M_table_40 : decode b_M_table 40 = .ok (.iand, 1) := by decide +kernel
theorem d_M_table_41 : decode b_M_table 41 = .ok (.invokevirtual 152, 3) := by decide +kernel
theorem d_M_table_44 : decode b_M_table 44 = .ok (.ireturn, 1) := by decide +kernel
set_option maxHeartbeats 4000000 in
set_option maxRecDepth 100000 in
theorem c_M_many0 (l : Launch) (D : va_G) (g : Nat → ClassId) (sz : Nat) (wm : va_W) (mo wi ck fq co sq uq gq kd M ifo fl : Nat) (th mk bi ch9 tu9 : Int32) (ma wo9 : Int64) (fw fc ff fco fsq fu fg : Nat → Int32) (hM0 : 0 < M) (hM : M ≤ 57) (d : Nat) (hd9 : d < 4) (hif : ifo ≤ 1) (hfl : fl < 2 ^ ckb kd M) (hkd : kd ≤ 3) (hmw : MWF kd M fw fc ff fco) : Met l y_M_many w_M_many rm_M_many (va_Pc [.ref mo, .int (nI 0), .int (nI d)] (pP D (tyl g) ((mo, .inr (6, [.int (th), .int (nI M), .int (nI kd), .int (nI (ckb kd M)), .int (nI (nk kd)), .ref wi, .ref ck, .ref fq, .ref co, .int (nI (grsK kd M)), .int (nI ifo), .int (nI fl), .long (ma), .int (mk), .int (bi), .long (wo9), .int (ch9), .int (tu9), .ref sq, .ref uq, .ref gq])) :: (wi, .inl (g 0, 4, .inl (fw))) :: (ck, .inl (g 0, 4, .inl (fc))) :: (fq, .inl (g 0, 4, .inl (ff))) :: (co, .inl (g 0, 228, .inl (fco))) :: (sq, .inl (g 0, 8, .inl (fsq))) :: (uq, .inl (g 2, 128, .inl (fu))) :: (gq, .inl (g 0, 7, .inl (fg))) :: wm) sz)) (va_Qi (fun (r : Int32) (u : (Int64 × Int32 × Int32)) => r = nI (m1 (pairA kd M) d (M + ckb kd M))) (fun u => qB D (va_A ((mo, .inr (6, [.int (th), .int (nI M), .int (nI kd), .int (nI (ckb kd M)), .int (nI (nk kd)), .ref wi, .ref ck, .ref fq, .ref co, .int (nI (grsK kd M)), .int (nI ifo), .int (nI fl), .long (ma), .int (mk), .int (bi), .long (wo9), .int (ch9), .int (tu9), .ref sq, .ref uq, .ref gq])) :: (wi, .inl (g 0, 4, .inl (fw))) :: (ck, .inl (g 0, 4, .inl (fc))) :: (fq, .inl (g 0, 4, .inl (ff))) :: (co, .inl (g 0, 228, .inl (fco))) :: (sq, .inl (g 0, 8, .inl (fsq))) :: (uq, .inl (g 2, 128, .inl (fu))) :: (gq, .inl (g 0, 7, .inl (fg))) :: wm) sz) ((mo, .inr (6, [.int (th), .int (nI M), .int (nI kd), .int (nI (ckb kd M)), .int (nI (nk kd)), .ref wi, .ref ck, .ref fq, .ref co, .int (nI (grsK kd M)), .int (nI ifo), .int (nI fl), .long (u.1), .int (u.2.1), .int (u.2.2), .long (wo9), .int (ch9), .int (tu9), .ref sq, .ref uq, .ref gq])) :: (wi, .inl (g 0, 4, .inl (fw))) :: (ck, .inl (g 0, 4, .inl (fc))) :: (fq, .inl (g 0, 4, .inl (ff))) :: (co, .inl (g 0, 228, .inl (fco))) :: (sq, .inl (g 0, 8, .inl (fsq))) :: (uq, .inl (g 2, 128, .inl (fu))) :: (gq, .inl (g 0, 7, .inl (fg))) :: wm)) (va_A ((mo, .inr (6, [.int (th), .int (nI M), .int (nI kd), .int (nI (ckb kd M)), .int (nI (nk kd)), .ref wi, .ref ck, .ref fq, .ref co, .int (nI (grsK kd M)), .int (nI ifo), .int (nI fl), .long (ma), .int (mk), .int (bi), .long (wo9), .int (ch9), .int (tu9), .ref sq, .ref uq, .ref gq])) :: (wi, .inl (g 0, 4, .inl (fw))) :: (ck, .inl (g 0, 4, .inl (fc))) :: (fq, .inl (g 0, 4, .inl (ff))) :: (co, .inl (g 0, 228, .inl (fco))) :: (sq, .inl (g 0, 8, .inl (fsq))) :: (uq, .inl (g 2, 128, .inl (fu))) :: (gq, .inl (g 0, 7, .inl (fg))) :: wm) sz)) 0 0 (va_A ((mo, .inr (6, [.int (th), .int (nI M), .int (nI kd), .int (nI (ckb kd M)), .int (nI (nk kd)), .ref wi, .ref ck, .ref fq, .ref co, .int (nI (grsK kd M)), .int (nI ifo), .int (nI fl), .long (ma), .int (mk), .int (bi), .long (wo9), .int (ch9), .int (tu9), .ref sq, .ref uq, .ref gq])) :: (wi, .inl (g 0, 4, .inl (fw))) :: (ck, .inl (g 0, 4, .inl (fc))) :: (fq, .inl (g 0, 4, .inl (ff))) :: (co, .inl (g 0, 228, .inl (fco))) :: (sq, .inl (g 0, 8, .inl (fsq))) :: (uq, .inl (g 2, 128, .inl (fu))) :: (gq, .inl (g 0, 7, .inl (fg))) :: wm) sz) := by
  refine Met.ofW (cc := b_M_many) (maxL := 7) (ret := (some .int)) (by decide +kernel) rfl ?_
  intro p e s m args below meth c s₁ Bq hml hv
  have hx := Bq.exec
  have hb := Bq.bytes
  have hr := Bq.returns
  have hts : ∀ w ∈ wA, w.before args s = true := fun w h => atoms_spec (ws := w_M_many) Bq.pre w (List.mem_cons_of_mem _ h)
  have hown : s.vm.findClass R_M = some m.cls := findClass_of_methodNamed Bq.named
  have hlocks := Bq.notSynchronized
  obtain ⟨rfl, hsz, hP, hKK, hD0⟩ := hv
  have hK := hKK.1
  subst hsz
  have hD := hD0.self (sz := s.heap.size)
  generalize hAe : va_A ((mo, .inr (6, [.int (th), .int (nI M), .int (nI kd), .int (nI (ckb kd M)), .int (nI (nk kd)), .ref wi, .ref ck, .ref fq, .ref co, .int (nI (grsK kd M)), .int (nI ifo), .int (nI fl), .long (ma), .int (mk), .int (bi), .long (wo9), .int (ch9), .int (tu9), .ref sq, .ref uq, .ref gq])) :: (wi, .inl (g 0, 4, .inl (fw))) :: (ck, .inl (g 0, 4, .inl (fc))) :: (fq, .inl (g 0, 4, .inl (ff))) :: (co, .inl (g 0, 228, .inl (fco))) :: (sq, .inl (g 0, 8, .inl (fsq))) :: (uq, .inl (g 2, 128, .inl (fu))) :: (gq, .inl (g 0, 7, .inl (fg))) :: wm) s.heap.size = A at hD ⊢
  have hA : ∀ q : Nat, s.heap.size ≤ q → A q := fun q h => by rw [← hAe]; exact Or.inr h
  have hS : va_S A s.heap s.heap [] := va_S.rf
  have hl := lv_entry ([.ref mo, .int (nI 0), .int (nI d)]) (n := 7) (Nat.le_of_ble_eq_true rfl)
  rw [lg_entry_eq]
  generalize (lg_sl ([.ref mo, .int (nI 0), .int (nI d)]) ++ List.replicate (7 - (lg_sl ([.ref mo, .int (nI 0), .int (nI d)])).length) Slot.unset).toArray = ls at hl ⊢
  have hl : lv_has ls 7 [(0, .ref mo), (1, .int (nI 0)), (2, .int (nI d))] := hl
  generalize hQ : MQ below (va_Qi (fun (r : Int32) (u : (Int64 × Int32 × Int32)) => r = nI (m1 (pairA kd M) d (M + ckb kd M))) (fun u => qB D (A) ((mo, .inr (6, [.int (th), .int (nI M), .int (nI kd), .int (nI (ckb kd M)), .int (nI (nk kd)), .ref wi, .ref ck, .ref fq, .ref co, .int (nI (grsK kd M)), .int (nI ifo), .int (nI fl), .long (u.1), .int (u.2.1), .int (u.2.2), .long (wo9), .int (ch9), .int (tu9), .ref sq, .ref uq, .ref gq])) :: (wi, .inl (g 0, 4, .inl (fw))) :: (ck, .inl (g 0, 4, .inl (fc))) :: (fq, .inl (g 0, 4, .inl (ff))) :: (co, .inl (g 0, 228, .inl (fco))) :: (sq, .inl (g 0, 8, .inl (fsq))) :: (uq, .inl (g 2, 128, .inl (fu))) :: (gq, .inl (g 0, 7, .inl (fg))) :: wm)) (A)) [.ref mo, .int (nI 0), .int (nI d)].toArray s 0 0 A = Q
  have hck := ckb_le kd M
  have lp5 : ∀ (n : Nat) (a : Nat) (z1 : Int64) (z2 z3 : Int32) (ls : Array Slot) (H : Heap) (locs : List Loc), (M + ckb kd M + 1 ≤ a + n) → (a ≤ M + ckb kd M) → lv_has ls 7 [(0, .ref mo), (1, .int (nI 0)), (2, .int (nI d)), (3, .int (nI (m1 (pairA kd M) d a))), (4, .int (nI a))] → va_P D vwCl ((mo, .inr (6, [.int (th), .int (nI M), .int (nI kd), .int (nI (ckb kd M)), .int (nI (nk kd)), .ref wi, .ref ck, .ref fq, .ref co, .int (nI (grsK kd M)), .int (nI ifo), .int (nI fl), .long (z1), .int (z2), .int (z3), .long (wo9), .int (ch9), .int (tu9), .ref sq, .ref uq, .ref gq])) :: (wi, .inl (g 0, 4, .inl (fw))) :: (ck, .inl (g 0, 4, .inl (fc))) :: (fq, .inl (g 0, 4, .inl (ff))) :: (co, .inl (g 0, 228, .inl (fco))) :: (sq, .inl (g 0, 8, .inl (fsq))) :: (uq, .inl (g 2, 128, .inl (fu))) :: (gq, .inl (g 0, 7, .inl (fg))) :: wm) H → va_D A ((mo, .inr (6, [.int (th), .int (nI M), .int (nI kd), .int (nI (ckb kd M)), .int (nI (nk kd)), .ref wi, .ref ck, .ref fq, .ref co, .int (nI (grsK kd M)), .int (nI ifo), .int (nI fl), .long (z1), .int (z2), .int (z3), .long (wo9), .int (ch9), .int (tu9), .ref sq, .ref uq, .ref gq])) :: (wi, .inl (g 0, 4, .inl (fw))) :: (ck, .inl (g 0, 4, .inl (fc))) :: (fq, .inl (g 0, 4, .inl (ff))) :: (co, .inl (g 0, 228, .inl (fco))) :: (sq, .inl (g 0, 8, .inl (fsq))) :: (uq, .inl (g 2, 128, .inl (fu))) :: (gq, .inl (g 0, 7, .inl (fg))) :: wm) → va_S A s.heap H locs → W p l e (headSpec w_M_many rm_M_many).room s m [.ref mo, .int (nI 0), .int (nI d)].toArray below meth c H locs 0 0 Q (F0 m 5 ls []) := by
    intro n
    induction n with
    | zero => intro a z1 z2 z3 ls H locs hfu ha _ _ _ _; exact absurd hfu (by omega)
    | succ n ih =>
      intro a z1 z2 z3 ls H locs hfu ha hl hP hD hS
      refine lv_iload hx hb d_M_many_5 (lv_at hl 4 rfl) ?_
      refine lv_aload_n hx hb d_M_many_7 rfl (lv_at hl 0 rfl) ?_
      refine va_get (D := D) (ci := 6) (v := .int (nI M)) (C := R_M) (T := F_M) (N := 21) hx hb hts i_M hown hK hP 0 rfl rfl 1 (by decide) (hts _ m_604) (fun _ h9 => h9) rfl d_M_many_8 ?_
      refine lv_aload_n hx hb d_M_many_11 rfl (lv_at hl 0 rfl) ?_
      refine va_get (D := D) (ci := 6) (v := .int (nI (ckb kd M))) (C := R_M) (T := F_M) (N := 21) hx hb hts i_M hown hK hP 0 rfl rfl 3 (by decide) (hts _ m_606) (fun _ h9 => h9) rfl d_M_many_12 ?_
      refine lx_iadd (z := nI (M + (ckb kd M))) hx hb d_M_many_15 (nI_add M (ckb kd M)) ?_
      refine lx_icmp_ge (tgt := 95) hx hb d_M_many_16 (by decide) (by omega) (by omega) (fun c16 => ?_) (fun c16 => ?_)
      · skip
        obtain ea : a = M + ckb kd M := by omega
        refine lv_iload_n hx hb d_M_many_95 rfl (lv_at hl 3 rfl) ?_
        rw [← hQ]
        refine W.iret (v := nI (m1 (pairA kd M) d a)) hx hb hr ?_ hS.2.2 d_M_many_96
        exact fun t ht hW => ⟨⟨nI (m1 (pairA kd M) d a), (z1, z2, z3), rfl, (by rw [ea]), by rw [ht]; exact hP, hD⟩, hS.F ht⟩
      · skip
        have hp9 : pairA kd M a a < 4 := ans_lt hM0 hM (Nat.or_lt_two_pow (cpt_lt c16) (cpt_lt c16))
        have iha := ih
        refine lv_iload_n hx hb d_M_many_19 rfl (lv_at hl 1 rfl) ?_
        refine lx_if_eq (tgt := 37) hx hb d_M_many_20 (by decide) (by omega) (fun c20 => ?_) (fun c20 => ?_)
        · skip
          refine lv_iload hx hb d_M_many_37 (lv_at hl 4 rfl) ?_
          refine lv_istore (lv' := [(5, .int (nI a)), (0, .ref mo), (1, .int (nI 0)), (2, .int (nI d)), (3, .int (nI (m1 (pairA kd M) d a))), (4, .int (nI a))]) hx hb d_M_many_39 hl (by decide) rfl (fun ls hl => ?_)
          refine lv_iload_n hx hb d_M_many_41 rfl (lv_at hl 2 rfl) ?_
          refine lx_if_eq (tgt := 52) hx hb d_M_many_42 (by decide) (by omega) (fun c42 => ?_) (fun c42 => ?_)
          · skip
            refine lv_iload hx hb d_M_many_52 (lv_at hl 5 rfl) ?_
            refine lv_istore (lv' := [(6, .int (nI a)), (5, .int (nI a)), (0, .ref mo), (1, .int (nI 0)), (2, .int (nI d)), (3, .int (nI (m1 (pairA kd M) d a))), (4, .int (nI a))]) hx hb d_M_many_54 hl (by decide) rfl (fun ls hl => ?_)
            refine lv_iload hx hb d_M_many_56 (lv_at hl 0 rfl) ?_
            refine lv_iload hx hb d_M_many_58 (lv_at hl 1 rfl) ?_
            refine lx_icmp_gt (tgt := 89) hx hb d_M_many_60 (by decide) (by omega) (by omega) (fun c60 => ?_) (fun c60 => ?_)
            · skip
              exact absurd c60 (by omega)
            · skip
              refine lv_iload_n hx hb d_M_many_63 rfl (lv_at hl 5 rfl) ?_
              refine lv_aload_n hx hb d_M_many_64 rfl (lv_at hl 2 rfl) ?_
              refine lv_iload hx hb d_M_many_65 (lv_at hl 6 rfl) ?_
              refine lv_iload hx hb d_M_many_67 (lv_at hl 0 rfl) ?_
              refine lc_Vi (b := mo) (As := [.int (nI a), .int (nI a)]) (rest := [.int (nI (m1 (pairA kd M) d a))]) ⟨hx, hb, hml, hown, hts⟩ (c_M_answerOf l D g _ wm mo wi ck fq co sq uq gq kd M ifo fl th z2 z3 ch9 tu9 z1 wo9 fw fc ff fco fsq fu fg hM0 hM a a c16 c16 hif hfl hkd hmw) (kV 2 hts m_770 m_767 m_769 m_25 m_40 (by decide +kernel) ⟨Nat.le_of_ble_eq_true rfl, Nat.le_of_ble_eq_true rfl⟩) (va_recv hK hP (ci := 6) (q0 := 0) rfl rfl) hKK hP hD hS hA hl.1 rfl rfl (Nat.le_of_ble_eq_true rfl) d_M_many_69 ⟨Nat.le_of_ble_eq_true rfl, Nat.le_of_ble_eq_true rfl⟩ (fun rr u H locs er hP hD hS => ?_)
              have hP : va_P D vwCl ((mo, .inr (6, [.int (th), .int (nI M), .int (nI kd), .int (nI (ckb kd M)), .int (nI (nk kd)), .ref wi, .ref ck, .ref fq, .ref co, .int (nI (grsK kd M)), .int (nI ifo), .int (nI fl), .long (u.1), .int (u.2.1), .int (u.2.2), .long (wo9), .int (ch9), .int (tu9), .ref sq, .ref uq, .ref gq])) :: (wi, .inl (g 0, 4, .inl (fw))) :: (ck, .inl (g 0, 4, .inl (fc))) :: (fq, .inl (g 0, 4, .inl (ff))) :: (co, .inl (g 0, 228, .inl (fco))) :: (sq, .inl (g 0, 8, .inl (fsq))) :: (uq, .inl (g 2, 128, .inl (fu))) :: (gq, .inl (g 0, 7, .inl (fg))) :: wm) H := hP
              have hD : va_D A ((mo, .inr (6, [.int (th), .int (nI M), .int (nI kd), .int (nI (ckb kd M)), .int (nI (nk kd)), .ref wi, .ref ck, .ref fq, .ref co, .int (nI (grsK kd M)), .int (nI ifo), .int (nI fl), .long (u.1), .int (u.2.1), .int (u.2.2), .long (wo9), .int (ch9), .int (tu9), .ref sq, .ref uq, .ref gq])) :: (wi, .inl (g 0, 4, .inl (fw))) :: (ck, .inl (g 0, 4, .inl (fc))) :: (fq, .inl (g 0, 4, .inl (ff))) :: (co, .inl (g 0, 228, .inl (fco))) :: (sq, .inl (g 0, 8, .inl (fsq))) :: (uq, .inl (g 2, 128, .inl (fu))) :: (gq, .inl (g 0, 7, .inl (fg))) :: wm) := hD
              obtain rfl : rr = nI (pairA kd M a a) := er
              refine lv_iload_n hx hb d_M_many_72 rfl (lv_at hl 4 rfl) ?_
              refine lx_icmp_ne (tgt := 80) hx hb d_M_many_73 (by decide) (by omega) (by omega) (fun c73 => ?_) (fun c73 => ?_)
              · skip
                refine lv_iconst (v := nI 0) hx hb d_M_many_80 (by decide) ?_
                refine lx_iadd (z := nI (m1 (pairA kd M) d (a + 1))) hx hb d_M_many_81 ((nI_add _ _).trans (by show _ = nI (m1 (pairA kd M) d a + (if pairA kd M a a = d then 1 else 0)); rw [if_neg c73])) ?_
                refine lv_istore_n (lv' := [(3, .int (nI (m1 (pairA kd M) d (a + 1)))), (6, .int (nI a)), (5, .int (nI a)), (0, .ref mo), (1, .int (nI 0)), (2, .int (nI d)), (4, .int (nI a))]) hx hb d_M_many_82 rfl hl (by decide) rfl (fun ls hl => ?_)
                refine lv_iinc (v := nI (a + 1)) (lv' := [(6, .int (nI (a + 1))), (3, .int (nI (m1 (pairA kd M) d (a + 1)))), (5, .int (nI a)), (0, .ref mo), (1, .int (nI 0)), (2, .int (nI d)), (4, .int (nI a))]) hx hb d_M_many_83 hl (k := 1) rfl (nI_1 a) (by decide) rfl (fun ls hl => ?_)
                refine lv_goto (tgt := 56) hx hb d_M_many_86 (by decide) ?_
                refine lv_iload hx hb d_M_many_56 (lv_at hl 0 rfl) ?_
                refine lv_iload hx hb d_M_many_58 (lv_at hl 2 rfl) ?_
                refine lx_icmp_gt (tgt := 89) hx hb d_M_many_60 (by decide) (by omega) (by omega) (fun k60 => ?_) (fun k60 => ?_)
                · skip
                  refine lv_iinc (v := nI (a + 1)) (lv' := [(4, .int (nI (a + 1))), (6, .int (nI (a + 1))), (3, .int (nI (m1 (pairA kd M) d (a + 1)))), (5, .int (nI a)), (0, .ref mo), (1, .int (nI 0)), (2, .int (nI d))]) hx hb d_M_many_89 hl (k := 6) rfl (nI_1 a) (by decide) rfl (fun ls hl => ?_)
                  refine lv_goto (tgt := 5) hx hb d_M_many_92 (by decide) ?_
                  exact iha (a + 1) u.1 u.2.1 u.2.2 _ _ _ (by omega) (by omega) (lv_sub hl [4, 5, 6, 2, 0] rfl) hP hD hS
                · skip
                  exact absurd k60 (by omega)
              · skip
                refine lv_iconst (v := nI 1) hx hb d_M_many_76 (by decide) ?_
                refine lv_goto (tgt := 81) hx hb d_M_many_77 (by decide) ?_
                refine lx_iadd (z := nI (m1 (pairA kd M) d (a + 1))) hx hb d_M_many_81 ((nI_add _ _).trans (by show _ = nI (m1 (pairA kd M) d a + (if pairA kd M a a = d then 1 else 0)); rw [if_pos c73])) ?_
                refine lv_istore_n (lv' := [(3, .int (nI (m1 (pairA kd M) d (a + 1)))), (6, .int (nI a)), (5, .int (nI a)), (0, .ref mo), (1, .int (nI 0)), (2, .int (nI d)), (4, .int (nI a))]) hx hb d_M_many_82 rfl hl (by decide) rfl (fun ls hl => ?_)
                refine lv_iinc (v := nI (a + 1)) (lv' := [(6, .int (nI (a + 1))), (3, .int (nI (m1 (pairA kd M) d (a + 1)))), (5, .int (nI a)), (0, .ref mo), (1, .int (nI 0)), (2, .int (nI d)), (4, .int (nI a))]) hx hb d_M_many_83 hl (k := 1) rfl (nI_1 a) (by decide) rfl (fun ls hl => ?_)
                refine lv_goto (tgt := 56) hx hb d_M_many_86 (by decide) ?_
                refine lv_iload hx hb d_M_many_56 (lv_at hl 0 rfl) ?_
                refine lv_iload hx hb d_M_many_58 (lv_at hl 2 rfl) ?_
                refine lx_icmp_gt (tgt := 89) hx hb d_M_many_60 (by decide) (by omega) (by omega) (fun k60 => ?_) (fun k60 => ?_)
                · skip
                  refine lv_iinc (v := nI (a + 1)) (lv' := [(4, .int (nI (a + 1))), (6, .int (nI (a + 1))), (3, .int (nI (m1 (pairA kd M) d (a + 1)))), (5, .int (nI a)), (0, .ref mo), (1, .int (nI 0)), (2, .int (nI d))]) hx hb d_M_many_89 hl (k := 6) rfl (nI_1 a) (by decide) rfl (fun ls hl => ?_)
                  refine lv_goto (tgt := 5) hx hb d_M_many_92 (by decide) ?_
                  exact iha (a + 1) u.1 u.2.1 u.2.2 _ _ _ (by omega) (by omega) (lv_sub hl [4, 5, 6, 2, 0] rfl) hP hD hS
                · skip
                  exact absurd k60 (by omega)
          · skip
            exact absurd rfl c42
        · skip
          exact absurd rfl c20
  refine lv_iconst (v := nI 0) hx hb d_M_many_0 (by decide) ?_
  refine lv_istore_n (lv' := [(3, .int (nI 0)), (0, .ref mo), (1, .int (nI 0)), (2, .int (nI d))]) hx hb d_M_many_1 rfl hl (by decide) rfl (fun ls hl => ?_)
  refine lv_iconst (v := nI 0) hx hb d_M_many_2 (by decide) ?_
  refine lv_istore (lv' := [(4, .int (nI 0)), (3, .int (nI 0)), (0, .ref mo), (1, .int (nI 0)), (2, .int (nI d))]) hx hb d_M_many_3 hl (by decide) rfl (fun ls hl => ?_)
  exact lp5 (M + ckb kd M + 1) 0 ma mk bi _ _ _ (by omega) (by omega) (lv_sub hl [2, 3, 4, 1, 0] rfl) hP hD hS
set_option maxHeartbeats 4000000 in
set_option maxRecDepth 100000 in
theorem c_M_many1 (l : Launch) (D : va_G) (g : Nat → ClassId) (sz : Nat) (wm : va_W) (mo wi ck fq co sq uq gq kd M ifo fl : Nat) (th mk bi ch9 tu9 : Int32) (ma wo9 : Int64) (fw fc ff fco fsq fu fg : Nat → Int32) (hM0 : 0 < M) (hM : M ≤ 57) (d : Nat) (hd9 : d < 4) (hif : ifo ≤ 1) (hfl : fl < 2 ^ ckb kd M) (hkd : kd ≤ 3) (hmw : MWF kd M fw fc ff fco) : Met l y_M_many w_M_many rm_M_many (va_Pc [.ref mo, .int (nI 1), .int (nI d)] (pP D (tyl g) ((mo, .inr (6, [.int (th), .int (nI M), .int (nI kd), .int (nI (ckb kd M)), .int (nI (nk kd)), .ref wi, .ref ck, .ref fq, .ref co, .int (nI (grsK kd M)), .int (nI ifo), .int (nI fl), .long (ma), .int (mk), .int (bi), .long (wo9), .int (ch9), .int (tu9), .ref sq, .ref uq, .ref gq])) :: (wi, .inl (g 0, 4, .inl (fw))) :: (ck, .inl (g 0, 4, .inl (fc))) :: (fq, .inl (g 0, 4, .inl (ff))) :: (co, .inl (g 0, 228, .inl (fco))) :: (sq, .inl (g 0, 8, .inl (fsq))) :: (uq, .inl (g 2, 128, .inl (fu))) :: (gq, .inl (g 0, 7, .inl (fg))) :: wm) sz)) (va_Qi (fun (r : Int32) (u : (Int64 × Int32 × Int32)) => r = nI (m2 (pairA kd M) (M + ckb kd M) d (M + ckb kd M))) (fun u => qB D (va_A ((mo, .inr (6, [.int (th), .int (nI M), .int (nI kd), .int (nI (ckb kd M)), .int (nI (nk kd)), .ref wi, .ref ck, .ref fq, .ref co, .int (nI (grsK kd M)), .int (nI ifo), .int (nI fl), .long (ma), .int (mk), .int (bi), .long (wo9), .int (ch9), .int (tu9), .ref sq, .ref uq, .ref gq])) :: (wi, .inl (g 0, 4, .inl (fw))) :: (ck, .inl (g 0, 4, .inl (fc))) :: (fq, .inl (g 0, 4, .inl (ff))) :: (co, .inl (g 0, 228, .inl (fco))) :: (sq, .inl (g 0, 8, .inl (fsq))) :: (uq, .inl (g 2, 128, .inl (fu))) :: (gq, .inl (g 0, 7, .inl (fg))) :: wm) sz) ((mo, .inr (6, [.int (th), .int (nI M), .int (nI kd), .int (nI (ckb kd M)), .int (nI (nk kd)), .ref wi, .ref ck, .ref fq, .ref co, .int (nI (grsK kd M)), .int (nI ifo), .int (nI fl), .long (u.1), .int (u.2.1), .int (u.2.2), .long (wo9), .int (ch9), .int (tu9), .ref sq, .ref uq, .ref gq])) :: (wi, .inl (g 0, 4, .inl (fw))) :: (ck, .inl (g 0, 4, .inl (fc))) :: (fq, .inl (g 0, 4, .inl (ff))) :: (co, .inl (g 0, 228, .inl (fco))) :: (sq, .inl (g 0, 8, .inl (fsq))) :: (uq, .inl (g 2, 128, .inl (fu))) :: (gq, .inl (g 0, 7, .inl (fg))) :: wm)) (va_A ((mo, .inr (6, [.int (th), .int (nI M), .int (nI kd), .int (nI (ckb kd M)), .int (nI (nk kd)), .ref wi, .ref ck, .ref fq, .ref co, .int (nI (grsK kd M)), .int (nI ifo), .int (nI fl), .long (ma), .int (mk), .int (bi), .long (wo9), .int (ch9), .int (tu9), .ref sq, .ref uq, .ref gq])) :: (wi, .inl (g 0, 4, .inl (fw))) :: (ck, .inl (g 0, 4, .inl (fc))) :: (fq, .inl (g 0, 4, .inl (ff))) :: (co, .inl (g 0, 228, .inl (fco))) :: (sq, .inl (g 0, 8, .inl (fsq))) :: (uq, .inl (g 2, 128, .inl (fu))) :: (gq, .inl (g 0, 7, .inl (fg))) :: wm) sz)) 0 0 (va_A ((mo, .inr (6, [.int (th), .int (nI M), .int (nI kd), .int (nI (ckb kd M)), .int (nI (nk kd)), .ref wi, .ref ck, .ref fq, .ref co, .int (nI (grsK kd M)), .int (nI ifo), .int (nI fl), .long (ma), .int (mk), .int (bi), .long (wo9), .int (ch9), .int (tu9), .ref sq, .ref uq, .ref gq])) :: (wi, .inl (g 0, 4, .inl (fw))) :: (ck, .inl (g 0, 4, .inl (fc))) :: (fq, .inl (g 0, 4, .inl (ff))) :: (co, .inl (g 0, 228, .inl (fco))) :: (sq, .inl (g 0, 8, .inl (fsq))) :: (uq, .inl (g 2, 128, .inl (fu))) :: (gq, .inl (g 0, 7, .inl (fg))) :: wm) sz) := by
  refine Met.ofW (cc := b_M_many) (maxL := 7) (ret := (some .int)) (by decide +kernel) rfl ?_
  intro p e s m args below meth c s₁ Bq hml hv
  have hx := Bq.exec
  have hb := Bq.bytes
  have hr := Bq.returns
  have hts : ∀ w ∈ wA, w.before args s = true := fun w h => atoms_spec (ws := w_M_many) Bq.pre w (List.mem_cons_of_mem _ h)
  have hown : s.vm.findClass R_M = some m.cls := findClass_of_methodNamed Bq.named
  have hlocks := Bq.notSynchronized
  obtain ⟨rfl, hsz, hP, hKK, hD0⟩ := hv
  have hK := hKK.1
  subst hsz
  have hD := hD0.self (sz := s.heap.size)
  generalize hAe : va_A ((mo, .inr (6, [.int (th), .int (nI M), .int (nI kd), .int (nI (ckb kd M)), .int (nI (nk kd)), .ref wi, .ref ck, .ref fq, .ref co, .int (nI (grsK kd M)), .int (nI ifo), .int (nI fl), .long (ma), .int (mk), .int (bi), .long (wo9), .int (ch9), .int (tu9), .ref sq, .ref uq, .ref gq])) :: (wi, .inl (g 0, 4, .inl (fw))) :: (ck, .inl (g 0, 4, .inl (fc))) :: (fq, .inl (g 0, 4, .inl (ff))) :: (co, .inl (g 0, 228, .inl (fco))) :: (sq, .inl (g 0, 8, .inl (fsq))) :: (uq, .inl (g 2, 128, .inl (fu))) :: (gq, .inl (g 0, 7, .inl (fg))) :: wm) s.heap.size = A at hD ⊢
  have hA : ∀ q : Nat, s.heap.size ≤ q → A q := fun q h => by rw [← hAe]; exact Or.inr h
  have hS : va_S A s.heap s.heap [] := va_S.rf
  have hl := lv_entry ([.ref mo, .int (nI 1), .int (nI d)]) (n := 7) (Nat.le_of_ble_eq_true rfl)
  rw [lg_entry_eq]
  generalize (lg_sl ([.ref mo, .int (nI 1), .int (nI d)]) ++ List.replicate (7 - (lg_sl ([.ref mo, .int (nI 1), .int (nI d)])).length) Slot.unset).toArray = ls at hl ⊢
  have hl : lv_has ls 7 [(0, .ref mo), (1, .int (nI 1)), (2, .int (nI d))] := hl
  generalize hQ : MQ below (va_Qi (fun (r : Int32) (u : (Int64 × Int32 × Int32)) => r = nI (m2 (pairA kd M) (M + ckb kd M) d (M + ckb kd M))) (fun u => qB D (A) ((mo, .inr (6, [.int (th), .int (nI M), .int (nI kd), .int (nI (ckb kd M)), .int (nI (nk kd)), .ref wi, .ref ck, .ref fq, .ref co, .int (nI (grsK kd M)), .int (nI ifo), .int (nI fl), .long (u.1), .int (u.2.1), .int (u.2.2), .long (wo9), .int (ch9), .int (tu9), .ref sq, .ref uq, .ref gq])) :: (wi, .inl (g 0, 4, .inl (fw))) :: (ck, .inl (g 0, 4, .inl (fc))) :: (fq, .inl (g 0, 4, .inl (ff))) :: (co, .inl (g 0, 228, .inl (fco))) :: (sq, .inl (g 0, 8, .inl (fsq))) :: (uq, .inl (g 2, 128, .inl (fu))) :: (gq, .inl (g 0, 7, .inl (fg))) :: wm)) (A)) [.ref mo, .int (nI 1), .int (nI d)].toArray s 0 0 A = Q
  have hck := ckb_le kd M
  have lp5 : ∀ (n : Nat) (a : Nat) (z1 : Int64) (z2 z3 : Int32) (ls : Array Slot) (H : Heap) (locs : List Loc), (M + ckb kd M + 1 ≤ a + n) → (a ≤ M + ckb kd M) → lv_has ls 7 [(0, .ref mo), (1, .int (nI 1)), (2, .int (nI d)), (3, .int (nI (m2 (pairA kd M) (M + ckb kd M) d a))), (4, .int (nI a))] → va_P D vwCl ((mo, .inr (6, [.int (th), .int (nI M), .int (nI kd), .int (nI (ckb kd M)), .int (nI (nk kd)), .ref wi, .ref ck, .ref fq, .ref co, .int (nI (grsK kd M)), .int (nI ifo), .int (nI fl), .long (z1), .int (z2), .int (z3), .long (wo9), .int (ch9), .int (tu9), .ref sq, .ref uq, .ref gq])) :: (wi, .inl (g 0, 4, .inl (fw))) :: (ck, .inl (g 0, 4, .inl (fc))) :: (fq, .inl (g 0, 4, .inl (ff))) :: (co, .inl (g 0, 228, .inl (fco))) :: (sq, .inl (g 0, 8, .inl (fsq))) :: (uq, .inl (g 2, 128, .inl (fu))) :: (gq, .inl (g 0, 7, .inl (fg))) :: wm) H → va_D A ((mo, .inr (6, [.int (th), .int (nI M), .int (nI kd), .int (nI (ckb kd M)), .int (nI (nk kd)), .ref wi, .ref ck, .ref fq, .ref co, .int (nI (grsK kd M)), .int (nI ifo), .int (nI fl), .long (z1), .int (z2), .int (z3), .long (wo9), .int (ch9), .int (tu9), .ref sq, .ref uq, .ref gq])) :: (wi, .inl (g 0, 4, .inl (fw))) :: (ck, .inl (g 0, 4, .inl (fc))) :: (fq, .inl (g 0, 4, .inl (ff))) :: (co, .inl (g 0, 228, .inl (fco))) :: (sq, .inl (g 0, 8, .inl (fsq))) :: (uq, .inl (g 2, 128, .inl (fu))) :: (gq, .inl (g 0, 7, .inl (fg))) :: wm) → va_S A s.heap H locs → W p l e (headSpec w_M_many rm_M_many).room s m [.ref mo, .int (nI 1), .int (nI d)].toArray below meth c H locs 0 0 Q (F0 m 5 ls []) := by
    intro n
    induction n with
    | zero => intro a z1 z2 z3 ls H locs hfu ha _ _ _ _; exact absurd hfu (by omega)
    | succ n ih =>
      intro a z1 z2 z3 ls H locs hfu ha hl hP hD hS
      refine lv_iload hx hb d_M_many_5 (lv_at hl 4 rfl) ?_
      refine lv_aload_n hx hb d_M_many_7 rfl (lv_at hl 0 rfl) ?_
      refine va_get (D := D) (ci := 6) (v := .int (nI M)) (C := R_M) (T := F_M) (N := 21) hx hb hts i_M hown hK hP 0 rfl rfl 1 (by decide) (hts _ m_604) (fun _ h9 => h9) rfl d_M_many_8 ?_
      refine lv_aload_n hx hb d_M_many_11 rfl (lv_at hl 0 rfl) ?_
      refine va_get (D := D) (ci := 6) (v := .int (nI (ckb kd M))) (C := R_M) (T := F_M) (N := 21) hx hb hts i_M hown hK hP 0 rfl rfl 3 (by decide) (hts _ m_606) (fun _ h9 => h9) rfl d_M_many_12 ?_
      refine lx_iadd (z := nI (M + (ckb kd M))) hx hb d_M_many_15 (nI_add M (ckb kd M)) ?_
      refine lx_icmp_ge (tgt := 95) hx hb d_M_many_16 (by decide) (by omega) (by omega) (fun c16 => ?_) (fun c16 => ?_)
      · skip
        obtain ea : a = M + ckb kd M := by omega
        refine lv_iload_n hx hb d_M_many_95 rfl (lv_at hl 3 rfl) ?_
        rw [← hQ]
        refine W.iret (v := nI (m2 (pairA kd M) (M + ckb kd M) d a)) hx hb hr ?_ hS.2.2 d_M_many_96
        exact fun t ht hW => ⟨⟨nI (m2 (pairA kd M) (M + ckb kd M) d a), (z1, z2, z3), rfl, (by rw [ea]), by rw [ht]; exact hP, hD⟩, hS.F ht⟩
      · skip
        have iha := ih
        have lp56 : ∀ (n : Nat) (k : Nat) (z1 : Int64) (z2 z3 : Int32) (ls : Array Slot) (H : Heap) (locs : List Loc), (M + ckb kd M + 1 ≤ a + 1 + k + n) → (a + 1 + k ≤ M + ckb kd M) → lv_has ls 7 [(0, .ref mo), (1, .int (nI 1)), (2, .int (nI d)), (3, .int (nI (m2 (pairA kd M) (M + ckb kd M) d a + r2 (pairA kd M) a d k))), (4, .int (nI a)), (5, .int (nI (M + ckb kd M - 1))), (6, .int (nI (a + 1 + k)))] → va_P D vwCl ((mo, .inr (6, [.int (th), .int (nI M), .int (nI kd), .int (nI (ckb kd M)), .int (nI (nk kd)), .ref wi, .ref ck, .ref fq, .ref co, .int (nI (grsK kd M)), .int (nI ifo), .int (nI fl), .long (z1), .int (z2), .int (z3), .long (wo9), .int (ch9), .int (tu9), .ref sq, .ref uq, .ref gq])) :: (wi, .inl (g 0, 4, .inl (fw))) :: (ck, .inl (g 0, 4, .inl (fc))) :: (fq, .inl (g 0, 4, .inl (ff))) :: (co, .inl (g 0, 228, .inl (fco))) :: (sq, .inl (g 0, 8, .inl (fsq))) :: (uq, .inl (g 2, 128, .inl (fu))) :: (gq, .inl (g 0, 7, .inl (fg))) :: wm) H → va_D A ((mo, .inr (6, [.int (th), .int (nI M), .int (nI kd), .int (nI (ckb kd M)), .int (nI (nk kd)), .ref wi, .ref ck, .ref fq, .ref co, .int (nI (grsK kd M)), .int (nI ifo), .int (nI fl), .long (z1), .int (z2), .int (z3), .long (wo9), .int (ch9), .int (tu9), .ref sq, .ref uq, .ref gq])) :: (wi, .inl (g 0, 4, .inl (fw))) :: (ck, .inl (g 0, 4, .inl (fc))) :: (fq, .inl (g 0, 4, .inl (ff))) :: (co, .inl (g 0, 228, .inl (fco))) :: (sq, .inl (g 0, 8, .inl (fsq))) :: (uq, .inl (g 2, 128, .inl (fu))) :: (gq, .inl (g 0, 7, .inl (fg))) :: wm) → va_S A s.heap H locs → W p l e (headSpec w_M_many rm_M_many).room s m [.ref mo, .int (nI 1), .int (nI d)].toArray below meth c H locs 0 0 Q (F0 m 56 ls []) := by
          intro n
          induction n with
          | zero => intro k z1 z2 z3 ls H locs hfu hk _ _ _ _; exact absurd hfu (by omega)
          | succ n ih =>
            intro k z1 z2 z3 ls H locs hfu hk hl hP hD hS
            refine lv_iload hx hb d_M_many_56 (lv_at hl 6 rfl) ?_
            refine lv_iload hx hb d_M_many_58 (lv_at hl 5 rfl) ?_
            refine lx_icmp_gt (tgt := 89) hx hb d_M_many_60 (by decide) (by omega) (by omega) (fun c60 => ?_) (fun c60 => ?_)
            · skip
              have ek : M + ckb kd M - (a + 1) = k := by omega
              refine lv_iinc (v := nI (a + 1)) (lv' := [(4, .int (nI (a + 1))), (0, .ref mo), (1, .int (nI 1)), (2, .int (nI d)), (3, .int (nI (m2 (pairA kd M) (M + ckb kd M) d a + r2 (pairA kd M) a d k))), (5, .int (nI (M + ckb kd M - 1))), (6, .int (nI (a + 1 + k)))]) hx hb d_M_many_89 hl (k := 4) rfl (nI_1 a) (by decide) rfl (fun ls hl => ?_)
              refine lv_goto (tgt := 5) hx hb d_M_many_92 (by decide) ?_
              have hl : lv_has ls 7 [(4, .int (nI (a + 1))), (0, .ref mo), (1, .int (nI 1)), (2, .int (nI d)), (3, .int (nI (m2 (pairA kd M) (M + ckb kd M) d (a + 1)))), (5, .int (nI (M + ckb kd M - 1))), (6, .int (nI (a + 1 + k)))] := by rw [show m2 (pairA kd M) (M + ckb kd M) d (a + 1) = m2 (pairA kd M) (M + ckb kd M) d a + r2 (pairA kd M) a d k from by show m2 (pairA kd M) (M + ckb kd M) d a + r2 (pairA kd M) a d (M + ckb kd M - (a + 1)) = _; rw [ek]]; exact hl
              exact iha (a + 1) z1 z2 z3 _ _ _ (by omega) (by omega) (lv_sub hl [1, 2, 3, 4, 0] rfl) hP hD hS
            · skip
              have hp9 : pairA kd M a (a + 1 + k) < 4 := ans_lt hM0 hM (Nat.or_lt_two_pow (cpt_lt c16) (cpt_lt (by omega)))
              refine lv_iload_n hx hb d_M_many_63 rfl (lv_at hl 3 rfl) ?_
              refine lv_aload_n hx hb d_M_many_64 rfl (lv_at hl 0 rfl) ?_
              refine lv_iload hx hb d_M_many_65 (lv_at hl 4 rfl) ?_
              refine lv_iload hx hb d_M_many_67 (lv_at hl 6 rfl) ?_
              refine lc_Vi (b := mo) (As := [.int (nI a), .int (nI (a + 1 + k))]) (rest := [.int (nI (m2 (pairA kd M) (M + ckb kd M) d a + r2 (pairA kd M) a d k))]) ⟨hx, hb, hml, hown, hts⟩ (c_M_answerOf l D g _ wm mo wi ck fq co sq uq gq kd M ifo fl th z2 z3 ch9 tu9 z1 wo9 fw fc ff fco fsq fu fg hM0 hM a (a + 1 + k) c16 (by omega) hif hfl hkd hmw) (kV 2 hts m_770 m_767 m_769 m_25 m_40 (by decide +kernel) ⟨Nat.le_of_ble_eq_true rfl, Nat.le_of_ble_eq_true rfl⟩) (va_recv hK hP (ci := 6) (q0 := 0) rfl rfl) hKK hP hD hS hA hl.1 rfl rfl (Nat.le_of_ble_eq_true rfl) d_M_many_69 ⟨Nat.le_of_ble_eq_true rfl, Nat.le_of_ble_eq_true rfl⟩ (fun rr u H locs er hP hD hS => ?_)
              have hP : va_P D vwCl ((mo, .inr (6, [.int (th), .int (nI M), .int (nI kd), .int (nI (ckb kd M)), .int (nI (nk kd)), .ref wi, .ref ck, .ref fq, .ref co, .int (nI (grsK kd M)), .int (nI ifo), .int (nI fl), .long (u.1), .int (u.2.1), .int (u.2.2), .long (wo9), .int (ch9), .int (tu9), .ref sq, .ref uq, .ref gq])) :: (wi, .inl (g 0, 4, .inl (fw))) :: (ck, .inl (g 0, 4, .inl (fc))) :: (fq, .inl (g 0, 4, .inl (ff))) :: (co, .inl (g 0, 228, .inl (fco))) :: (sq, .inl (g 0, 8, .inl (fsq))) :: (uq, .inl (g 2, 128, .inl (fu))) :: (gq, .inl (g 0, 7, .inl (fg))) :: wm) H := hP
              have hD : va_D A ((mo, .inr (6, [.int (th), .int (nI M), .int (nI kd), .int (nI (ckb kd M)), .int (nI (nk kd)), .ref wi, .ref ck, .ref fq, .ref co, .int (nI (grsK kd M)), .int (nI ifo), .int (nI fl), .long (u.1), .int (u.2.1), .int (u.2.2), .long (wo9), .int (ch9), .int (tu9), .ref sq, .ref uq, .ref gq])) :: (wi, .inl (g 0, 4, .inl (fw))) :: (ck, .inl (g 0, 4, .inl (fc))) :: (fq, .inl (g 0, 4, .inl (ff))) :: (co, .inl (g 0, 228, .inl (fco))) :: (sq, .inl (g 0, 8, .inl (fsq))) :: (uq, .inl (g 2, 128, .inl (fu))) :: (gq, .inl (g 0, 7, .inl (fg))) :: wm) := hD
              obtain rfl : rr = nI (pairA kd M a (a + 1 + k)) := er
              refine lv_iload_n hx hb d_M_many_72 rfl (lv_at hl 2 rfl) ?_
              refine lx_icmp_ne (tgt := 80) hx hb d_M_many_73 (by decide) (by omega) (by omega) (fun c73 => ?_) (fun c73 => ?_)
              · skip
                refine lv_iconst (v := nI 0) hx hb d_M_many_80 (by decide) ?_
                refine lx_iadd (z := nI (m2 (pairA kd M) (M + ckb kd M) d a + r2 (pairA kd M) a d (k + 1))) hx hb d_M_many_81 ((nI_add _ _).trans (by show _ = nI (m2 (pairA kd M) (M + ckb kd M) d a + (r2 (pairA kd M) a d k + (if pairA kd M a (a + 1 + k) = d then 1 else 0))); rw [if_neg c73, Nat.add_assoc])) ?_
                refine lv_istore_n (lv' := [(3, .int (nI (m2 (pairA kd M) (M + ckb kd M) d a + r2 (pairA kd M) a d (k + 1)))), (0, .ref mo), (1, .int (nI 1)), (2, .int (nI d)), (4, .int (nI a)), (5, .int (nI (M + ckb kd M - 1))), (6, .int (nI (a + 1 + k)))]) hx hb d_M_many_82 rfl hl (by decide) rfl (fun ls hl => ?_)
                refine lv_iinc (v := nI (a + 1 + k + 1)) (lv' := [(6, .int (nI (a + 1 + k + 1))), (3, .int (nI (m2 (pairA kd M) (M + ckb kd M) d a + r2 (pairA kd M) a d (k + 1)))), (0, .ref mo), (1, .int (nI 1)), (2, .int (nI d)), (4, .int (nI a)), (5, .int (nI (M + ckb kd M - 1)))]) hx hb d_M_many_83 hl (k := 6) rfl (nI_1 (a + 1 + k)) (by decide) rfl (fun ls hl => ?_)
                refine lv_goto (tgt := 56) hx hb d_M_many_86 (by decide) ?_
                exact ih (k + 1) u.1 u.2.1 u.2.2 _ _ _ (by omega) (by omega) (lv_sub hl [2, 3, 4, 1, 5, 6, 0] rfl) hP hD hS
              · skip
                refine lv_iconst (v := nI 1) hx hb d_M_many_76 (by decide) ?_
                refine lv_goto (tgt := 81) hx hb d_M_many_77 (by decide) ?_
                refine lx_iadd (z := nI (m2 (pairA kd M) (M + ckb kd M) d a + r2 (pairA kd M) a d (k + 1))) hx hb d_M_many_81 ((nI_add _ _).trans (by show _ = nI (m2 (pairA kd M) (M + ckb kd M) d a + (r2 (pairA kd M) a d k + (if pairA kd M a (a + 1 + k) = d then 1 else 0))); rw [if_pos c73, Nat.add_assoc])) ?_
                refine lv_istore_n (lv' := [(3, .int (nI (m2 (pairA kd M) (M + ckb kd M) d a + r2 (pairA kd M) a d (k + 1)))), (0, .ref mo), (1, .int (nI 1)), (2, .int (nI d)), (4, .int (nI a)), (5, .int (nI (M + ckb kd M - 1))), (6, .int (nI (a + 1 + k)))]) hx hb d_M_many_82 rfl hl (by decide) rfl (fun ls hl => ?_)
                refine lv_iinc (v := nI (a + 1 + k + 1)) (lv' := [(6, .int (nI (a + 1 + k + 1))), (3, .int (nI (m2 (pairA kd M) (M + ckb kd M) d a + r2 (pairA kd M) a d (k + 1)))), (0, .ref mo), (1, .int (nI 1)), (2, .int (nI d)), (4, .int (nI a)), (5, .int (nI (M + ckb kd M - 1)))]) hx hb d_M_many_83 hl (k := 6) rfl (nI_1 (a + 1 + k)) (by decide) rfl (fun ls hl => ?_)
                refine lv_goto (tgt := 56) hx hb d_M_many_86 (by decide) ?_
                exact ih (k + 1) u.1 u.2.1 u.2.2 _ _ _ (by omega) (by omega) (lv_sub hl [2, 3, 4, 1, 5, 6, 0] rfl) hP hD hS
        refine lv_iload_n hx hb d_M_many_19 rfl (lv_at hl 1 rfl) ?_
        refine lx_if_eq (tgt := 37) hx hb d_M_many_20 (by decide) (by omega) (fun c20 => ?_) (fun c20 => ?_)
        · skip
          exact absurd c20 (by decide)
        · skip
          refine lv_aload_n hx hb d_M_many_23 rfl (lv_at hl 0 rfl) ?_
          refine va_get (D := D) (ci := 6) (v := .int (nI M)) (C := R_M) (T := F_M) (N := 21) hx hb hts i_M hown hK hP 0 rfl rfl 1 (by decide) (hts _ m_604) (fun _ h9 => h9) rfl d_M_many_24 ?_
          refine lv_aload_n hx hb d_M_many_27 rfl (lv_at hl 0 rfl) ?_
          refine va_get (D := D) (ci := 6) (v := .int (nI (ckb kd M))) (C := R_M) (T := F_M) (N := 21) hx hb hts i_M hown hK hP 0 rfl rfl 3 (by decide) (hts _ m_606) (fun _ h9 => h9) rfl d_M_many_28 ?_
          refine lx_iadd (z := nI (M + (ckb kd M))) hx hb d_M_many_31 (nI_add M (ckb kd M)) ?_
          refine lv_iconst (v := nI 1) hx hb d_M_many_32 (by decide) ?_
          refine lx_isub (z := nI (M + ckb kd M - 1)) hx hb d_M_many_33 (pk_sub (by omega)) ?_
          refine lv_goto (tgt := 39) hx hb d_M_many_34 (by decide) ?_
          refine lv_istore (lv' := [(5, .int (nI (M + ckb kd M - 1))), (0, .ref mo), (1, .int (nI 1)), (2, .int (nI d)), (3, .int (nI (m2 (pairA kd M) (M + ckb kd M) d a))), (4, .int (nI a))]) hx hb d_M_many_39 hl (by decide) rfl (fun ls hl => ?_)
          refine lv_iload_n hx hb d_M_many_41 rfl (lv_at hl 2 rfl) ?_
          refine lx_if_eq (tgt := 52) hx hb d_M_many_42 (by decide) (by omega) (fun c42 => ?_) (fun c42 => ?_)
          · skip
            exact absurd c42 (by decide)
          · skip
            refine lv_iload hx hb d_M_many_45 (lv_at hl 5 rfl) ?_
            refine lv_iconst (v := nI 1) hx hb d_M_many_47 (by decide) ?_
            refine lx_iadd (z := nI (a + 1)) hx hb d_M_many_48 (nI_add a 1) ?_
            refine lv_goto (tgt := 54) hx hb d_M_many_49 (by decide) ?_
            refine lv_istore (lv' := [(6, .int (nI (a + 1))), (5, .int (nI (M + ckb kd M - 1))), (0, .ref mo), (1, .int (nI 1)), (2, .int (nI d)), (3, .int (nI (m2 (pairA kd M) (M + ckb kd M) d a))), (4, .int (nI a))]) hx hb d_M_many_54 hl (by decide) rfl (fun ls hl => ?_)
            have hl : lv_has ls 7 [(6, .int (nI (a + 1 + 0))), (5, .int (nI (M + ckb kd M - 1))), (0, .ref mo), (1, .int (nI 1)), (2, .int (nI d)), (3, .int (nI (m2 (pairA kd M) (M + ckb kd M) d a + r2 (pairA kd M) a d 0))), (4, .int (nI a))] := hl
            exact lp56 (M + ckb kd M + 1) 0 z1 z2 z3 _ _ _ (by omega) (by omega) (lv_sub hl [2, 3, 4, 5, 6, 1, 0] rfl) hP hD hS
  refine lv_iconst (v := nI 0) hx hb d_M_many_0 (by decide) ?_
  refine lv_istore_n (lv' := [(3, .int (nI 0)), (0, .ref mo), (1, .int (nI 1)), (2, .int (nI d))]) hx hb d_M_many_1 rfl hl (by decide) rfl (fun ls hl => ?_)
  refine lv_iconst (v := nI 0) hx hb d_M_many_2 (by decide) ?_
  refine lv_istore (lv' := [(4, .int (nI 0)), (3, .int (nI 0)), (0, .ref mo), (1, .int (nI 1)), (2, .int (nI d))]) hx hb d_M_many_3 hl (by decide) rfl (fun ls hl => ?_)
  exact lp5 (M + ckb kd M + 1) 0 ma mk bi _ _ _ (by omega) (by omega) (lv_sub hl [2, 3, 4, 1, 0] rfl) hP hD hS
set_option maxHeartbeats 4000000 in
set_option maxRecDepth 100000 in
theorem c_M_table (l : Launch) (D : va_G) (g : Nat → ClassId) (sz : Nat) (wm : va_W) (mo wi ck fq co sq uq gq kd M ifo fl : Nat) (th mk bi ch9 tu9 : Int32) (ma wo9 : Int64) (fw fc ff fco fsq fu fg : Nat → Int32) (hM0 : 0 < M) (hM : M ≤ 57) (k : Nat) (hk9 : k < 8) (hif : ifo ≤ 1) (hfl : fl < 2 ^ ckb kd M) (hkd : kd ≤ 3) (hmw : MWF kd M fw fc ff fco) : Met l y_M_table w_M_table rm_M_table (va_Pc [.ref mo, .int (nI k)] (pP D (tyl g) ((mo, .inr (6, [.int (th), .int (nI M), .int (nI kd), .int (nI (ckb kd M)), .int (nI (nk kd)), .ref wi, .ref ck, .ref fq, .ref co, .int (nI (grsK kd M)), .int (nI ifo), .int (nI fl), .long (ma), .int (mk), .int (bi), .long (wo9), .int (ch9), .int (tu9), .ref sq, .ref uq, .ref gq])) :: (wi, .inl (g 0, 4, .inl (fw))) :: (ck, .inl (g 0, 4, .inl (fc))) :: (fq, .inl (g 0, 4, .inl (ff))) :: (co, .inl (g 0, 228, .inl (fco))) :: (sq, .inl (g 0, 8, .inl (fsq))) :: (uq, .inl (g 2, 128, .inl (fu))) :: (gq, .inl (g 0, 7, .inl (fg))) :: wm) sz)) (va_Qi (fun (r : Int32) (u : (Int64 × Int32 × Int32)) => r = nI (tbl (pairA kd M) (M + ckb kd M) (M + ckb kd M) k)) (fun u => qB D (va_A ((mo, .inr (6, [.int (th), .int (nI M), .int (nI kd), .int (nI (ckb kd M)), .int (nI (nk kd)), .ref wi, .ref ck, .ref fq, .ref co, .int (nI (grsK kd M)), .int (nI ifo), .int (nI fl), .long (ma), .int (mk), .int (bi), .long (wo9), .int (ch9), .int (tu9), .ref sq, .ref uq, .ref gq])) :: (wi, .inl (g 0, 4, .inl (fw))) :: (ck, .inl (g 0, 4, .inl (fc))) :: (fq, .inl (g 0, 4, .inl (ff))) :: (co, .inl (g 0, 228, .inl (fco))) :: (sq, .inl (g 0, 8, .inl (fsq))) :: (uq, .inl (g 2, 128, .inl (fu))) :: (gq, .inl (g 0, 7, .inl (fg))) :: wm) sz) ((mo, .inr (6, [.int (nI 0), .int (nI M), .int (nI kd), .int (nI (ckb kd M)), .int (nI (nk kd)), .ref wi, .ref ck, .ref fq, .ref co, .int (nI (grsK kd M)), .int (nI ifo), .int (nI fl), .long (u.1), .int (u.2.1), .int (u.2.2), .long (wo9), .int (ch9), .int (tu9), .ref sq, .ref uq, .ref gq])) :: (wi, .inl (g 0, 4, .inl (fw))) :: (ck, .inl (g 0, 4, .inl (fc))) :: (fq, .inl (g 0, 4, .inl (ff))) :: (co, .inl (g 0, 228, .inl (fco))) :: (sq, .inl (g 0, 8, .inl (fsq))) :: (uq, .inl (g 2, 128, .inl (fu))) :: (gq, .inl (g 0, 7, .inl (fg))) :: wm)) (va_A ((mo, .inr (6, [.int (th), .int (nI M), .int (nI kd), .int (nI (ckb kd M)), .int (nI (nk kd)), .ref wi, .ref ck, .ref fq, .ref co, .int (nI (grsK kd M)), .int (nI ifo), .int (nI fl), .long (ma), .int (mk), .int (bi), .long (wo9), .int (ch9), .int (tu9), .ref sq, .ref uq, .ref gq])) :: (wi, .inl (g 0, 4, .inl (fw))) :: (ck, .inl (g 0, 4, .inl (fc))) :: (fq, .inl (g 0, 4, .inl (ff))) :: (co, .inl (g 0, 228, .inl (fco))) :: (sq, .inl (g 0, 8, .inl (fsq))) :: (uq, .inl (g 2, 128, .inl (fu))) :: (gq, .inl (g 0, 7, .inl (fg))) :: wm) sz)) 0 0 (va_A ((mo, .inr (6, [.int (th), .int (nI M), .int (nI kd), .int (nI (ckb kd M)), .int (nI (nk kd)), .ref wi, .ref ck, .ref fq, .ref co, .int (nI (grsK kd M)), .int (nI ifo), .int (nI fl), .long (ma), .int (mk), .int (bi), .long (wo9), .int (ch9), .int (tu9), .ref sq, .ref uq, .ref gq])) :: (wi, .inl (g 0, 4, .inl (fw))) :: (ck, .inl (g 0, 4, .inl (fc))) :: (fq, .inl (g 0, 4, .inl (ff))) :: (co, .inl (g 0, 228, .inl (fco))) :: (sq, .inl (g 0, 8, .inl (fsq))) :: (uq, .inl (g 2, 128, .inl (fu))) :: (gq, .inl (g 0, 7, .inl (fg))) :: wm) sz) := by
  refine Met.ofW (cc := b_M_table) (maxL := 2) (ret := (some .int)) (by decide +kernel) rfl ?_
  intro p e s m args below meth c s₁ Bq hml hv
  have hx := Bq.exec
  have hb := Bq.bytes
  have hr := Bq.returns
  have hts : ∀ w ∈ wA, w.before args s = true := fun w h => atoms_spec (ws := w_M_table) Bq.pre w (List.mem_cons_of_mem _ h)
  have hown : s.vm.findClass R_M = some m.cls := findClass_of_methodNamed Bq.named
  have hlocks := Bq.notSynchronized
  obtain ⟨rfl, hsz, hP, hKK, hD0⟩ := hv
  have hK := hKK.1
  subst hsz
  have hD := hD0.self (sz := s.heap.size)
  generalize hAe : va_A ((mo, .inr (6, [.int (th), .int (nI M), .int (nI kd), .int (nI (ckb kd M)), .int (nI (nk kd)), .ref wi, .ref ck, .ref fq, .ref co, .int (nI (grsK kd M)), .int (nI ifo), .int (nI fl), .long (ma), .int (mk), .int (bi), .long (wo9), .int (ch9), .int (tu9), .ref sq, .ref uq, .ref gq])) :: (wi, .inl (g 0, 4, .inl (fw))) :: (ck, .inl (g 0, 4, .inl (fc))) :: (fq, .inl (g 0, 4, .inl (ff))) :: (co, .inl (g 0, 228, .inl (fco))) :: (sq, .inl (g 0, 8, .inl (fsq))) :: (uq, .inl (g 2, 128, .inl (fu))) :: (gq, .inl (g 0, 7, .inl (fg))) :: wm) s.heap.size = A at hD ⊢
  have hA : ∀ q : Nat, s.heap.size ≤ q → A q := fun q h => by rw [← hAe]; exact Or.inr h
  have hS : va_S A s.heap s.heap [] := va_S.rf
  have hl := lv_entry ([.ref mo, .int (nI k)]) (n := 2) (Nat.le_of_ble_eq_true rfl)
  rw [lg_entry_eq]
  generalize (lg_sl ([.ref mo, .int (nI k)]) ++ List.replicate (2 - (lg_sl ([.ref mo, .int (nI k)])).length) Slot.unset).toArray = ls at hl ⊢
  have hl : lv_has ls 2 [(0, .ref mo), (1, .int (nI k))] := hl
  generalize hQ : MQ below (va_Qi (fun (r : Int32) (u : (Int64 × Int32 × Int32)) => r = nI (tbl (pairA kd M) (M + ckb kd M) (M + ckb kd M) k)) (fun u => qB D (A) ((mo, .inr (6, [.int (nI 0), .int (nI M), .int (nI kd), .int (nI (ckb kd M)), .int (nI (nk kd)), .ref wi, .ref ck, .ref fq, .ref co, .int (nI (grsK kd M)), .int (nI ifo), .int (nI fl), .long (u.1), .int (u.2.1), .int (u.2.2), .long (wo9), .int (ch9), .int (tu9), .ref sq, .ref uq, .ref gq])) :: (wi, .inl (g 0, 4, .inl (fw))) :: (ck, .inl (g 0, 4, .inl (fc))) :: (fq, .inl (g 0, 4, .inl (ff))) :: (co, .inl (g 0, 228, .inl (fco))) :: (sq, .inl (g 0, 8, .inl (fsq))) :: (uq, .inl (g 2, 128, .inl (fu))) :: (gq, .inl (g 0, 7, .inl (fg))) :: wm)) (A)) [.ref mo, .int (nI k)].toArray s 0 0 A = Q
  refine lv_aload_n hx hb d_M_table_0 rfl (lv_at hl 0 rfl) ?_
  refine lv_iload_n hx hb d_M_table_1 rfl (lv_at hl 1 rfl) ?_
  refine lv_iconst (v := nI 0) hx hb d_M_table_2 (by decide) ?_
  refine lv_bipush (v := nI 7) hx hb d_M_table_3 (by decide) ?_
  refine lc_Si (As := [.int (nI k), .int (nI 0), .int (nI 7)]) (rest := [.ref mo]) ⟨hx, hb, hml, hown, hts⟩ (c_M_in l D g _ _ (nI k) 8 (by omega) (by omega)) (kS 3 hts m_682 m_680 m_681 m_40 (by decide +kernel) ⟨Nat.le_of_ble_eq_true rfl, Nat.le_of_ble_eq_true rfl⟩) hKK hP hD hS hA hl.1 rfl rfl (Nat.le_of_ble_eq_true rfl) d_M_table_5 ⟨Nat.le_of_ble_eq_true rfl, Nat.le_of_ble_eq_true rfl⟩ (fun r1 ur1 H locs er1 hP hD hS => ?_)
  obtain rfl : r1 = nI 1 := er1.trans (by rw [inBb_nI (by decide) hk9])
  refine lx_if_ne (tgt := 15) hx hb d_M_table_8 (by decide) (by omega) (fun c8 => ?_) (fun c8 => ?_)
  · skip
    refine lv_iconst (v := nI 0) hx hb d_M_table_15 (by decide) ?_
    refine lv_iconst (v := nI 0) hx hb d_M_table_16 (by decide) ?_
    refine lc_Vi (b := mo) (As := [.int (nI 0), .int (nI 0)]) (rest := []) ⟨hx, hb, hml, hown, hts⟩ (c_M_fails l D g _ wm mo wi ck fq co sq uq gq kd M ifo fl th mk bi ch9 tu9 ma wo9 fw fc ff fco fsq fu fg hM0 hM 0 0 (by decide) (by decide)) (kV 2 hts m_686 m_683 m_685 m_15 m_40 (by decide +kernel) ⟨Nat.le_of_ble_eq_true rfl, Nat.le_of_ble_eq_true rfl⟩) (va_recv hK hP (ci := 6) (q0 := 0) rfl rfl) hKK hP hD hS hA hl.1 rfl rfl (Nat.le_of_ble_eq_true rfl) d_M_table_17 ⟨Nat.le_of_ble_eq_true rfl, Nat.le_of_ble_eq_true rfl⟩ (fun rf uf H locs ef hP hD hS => ?_)
    have hP : va_P D vwCl ((mo, .inr (6, [.int (nI 0), .int (nI M), .int (nI kd), .int (nI (ckb kd M)), .int (nI (nk kd)), .ref wi, .ref ck, .ref fq, .ref co, .int (nI (grsK kd M)), .int (nI ifo), .int (nI fl), .long (ma), .int (mk), .int (bi), .long (wo9), .int (ch9), .int (tu9), .ref sq, .ref uq, .ref gq])) :: (wi, .inl (g 0, 4, .inl (fw))) :: (ck, .inl (g 0, 4, .inl (fc))) :: (fq, .inl (g 0, 4, .inl (ff))) :: (co, .inl (g 0, 228, .inl (fco))) :: (sq, .inl (g 0, 8, .inl (fsq))) :: (uq, .inl (g 2, 128, .inl (fu))) :: (gq, .inl (g 0, 7, .inl (fg))) :: wm) H := hP
    have hD : va_D A ((mo, .inr (6, [.int (nI 0), .int (nI M), .int (nI kd), .int (nI (ckb kd M)), .int (nI (nk kd)), .ref wi, .ref ck, .ref fq, .ref co, .int (nI (grsK kd M)), .int (nI ifo), .int (nI fl), .long (ma), .int (mk), .int (bi), .long (wo9), .int (ch9), .int (tu9), .ref sq, .ref uq, .ref gq])) :: (wi, .inl (g 0, 4, .inl (fw))) :: (ck, .inl (g 0, 4, .inl (fc))) :: (fq, .inl (g 0, 4, .inl (ff))) :: (co, .inl (g 0, 228, .inl (fco))) :: (sq, .inl (g 0, 8, .inl (fsq))) :: (uq, .inl (g 2, 128, .inl (fu))) :: (gq, .inl (g 0, 7, .inl (fg))) :: wm) := hD
    obtain rfl : rf = nI 0 := ef
    refine lx_if_eq (tgt := 27) hx hb d_M_table_20 (by decide) (by omega) (fun c20 => ?_) (fun c20 => ?_)
    · skip
      refine lv_aload_n hx hb d_M_table_27 rfl (lv_at hl 0 rfl) ?_
      refine lv_iload_n hx hb d_M_table_28 rfl (lv_at hl 1 rfl) ?_
      refine lv_iconst (v := nI 3) hx hb d_M_table_29 (by decide) ?_
      refine lx_icmp_le (tgt := 37) hx hb d_M_table_30 (by decide) (by omega) (by omega) (fun c30 => ?_) (fun c30 => ?_)
      · skip
        refine lv_iconst (v := nI 0) hx hb d_M_table_37 (by decide) ?_
        refine lv_iload_n hx hb d_M_table_38 rfl (lv_at hl 1 rfl) ?_
        refine lv_iconst (v := nI 3) hx hb d_M_table_39 (by decide) ?_
        refine lx_iand (z := nI (k % 4)) hx hb d_M_table_40 ((xn_and _ _).trans (by rw [show (3 : Nat) = 2 ^ 2 - 1 from rfl, Nat.and_two_pow_sub_one_eq_mod])) ?_
        refine lc_Vi (b := mo) (As := [.int (nI 0), .int (nI (k % 4))]) (rest := []) ⟨hx, hb, hml, hown, hts⟩ (c_M_many0 l D g _ wm mo wi ck fq co sq uq gq kd M ifo fl (nI 0) mk bi ch9 tu9 ma wo9 fw fc ff fco fsq fu fg hM0 hM (k % 4) (by omega) hif hfl hkd hmw) (kV 2 hts m_782 m_779 m_781 m_27 m_40 (by decide +kernel) ⟨Nat.le_of_ble_eq_true rfl, Nat.le_of_ble_eq_true rfl⟩) (va_recv hK hP (ci := 6) (q0 := 0) rfl rfl) hKK hP hD hS hA hl.1 rfl rfl (Nat.le_of_ble_eq_true rfl) d_M_table_41 ⟨Nat.le_of_ble_eq_true rfl, Nat.le_of_ble_eq_true rfl⟩ (fun rr u H locs er hP hD hS => ?_)
        have hP : va_P D vwCl ((mo, .inr (6, [.int (nI 0), .int (nI M), .int (nI kd), .int (nI (ckb kd M)), .int (nI (nk kd)), .ref wi, .ref ck, .ref fq, .ref co, .int (nI (grsK kd M)), .int (nI ifo), .int (nI fl), .long (u.1), .int (u.2.1), .int (u.2.2), .long (wo9), .int (ch9), .int (tu9), .ref sq, .ref uq, .ref gq])) :: (wi, .inl (g 0, 4, .inl (fw))) :: (ck, .inl (g 0, 4, .inl (fc))) :: (fq, .inl (g 0, 4, .inl (ff))) :: (co, .inl (g 0, 228, .inl (fco))) :: (sq, .inl (g 0, 8, .inl (fsq))) :: (uq, .inl (g 2, 128, .inl (fu))) :: (gq, .inl (g 0, 7, .inl (fg))) :: wm) H := hP
        have hD : va_D A ((mo, .inr (6, [.int (nI 0), .int (nI M), .int (nI kd), .int (nI (ckb kd M)), .int (nI (nk kd)), .ref wi, .ref ck, .ref fq, .ref co, .int (nI (grsK kd M)), .int (nI ifo), .int (nI fl), .long (u.1), .int (u.2.1), .int (u.2.2), .long (wo9), .int (ch9), .int (tu9), .ref sq, .ref uq, .ref gq])) :: (wi, .inl (g 0, 4, .inl (fw))) :: (ck, .inl (g 0, 4, .inl (fc))) :: (fq, .inl (g 0, 4, .inl (ff))) :: (co, .inl (g 0, 228, .inl (fco))) :: (sq, .inl (g 0, 8, .inl (fsq))) :: (uq, .inl (g 2, 128, .inl (fu))) :: (gq, .inl (g 0, 7, .inl (fg))) :: wm) := hD
        rw [← hQ]
        refine W.iret (v := rr) hx hb hr ?_ hS.2.2 d_M_table_44
        exact fun t ht hW => ⟨⟨rr, u, rfl, (by rw [er, tbl_1 (by omega), show k % 4 = k by omega]), by rw [ht]; exact hP, hD⟩, hS.F ht⟩
      · skip
        refine lv_iconst (v := nI 1) hx hb d_M_table_33 (by decide) ?_
        refine lv_goto (tgt := 38) hx hb d_M_table_34 (by decide) ?_
        refine lv_iload_n hx hb d_M_table_38 rfl (lv_at hl 1 rfl) ?_
        refine lv_iconst (v := nI 3) hx hb d_M_table_39 (by decide) ?_
        refine lx_iand (z := nI (k % 4)) hx hb d_M_table_40 ((xn_and _ _).trans (by rw [show (3 : Nat) = 2 ^ 2 - 1 from rfl, Nat.and_two_pow_sub_one_eq_mod])) ?_
        refine lc_Vi (b := mo) (As := [.int (nI 1), .int (nI (k % 4))]) (rest := []) ⟨hx, hb, hml, hown, hts⟩ (c_M_many1 l D g _ wm mo wi ck fq co sq uq gq kd M ifo fl (nI 0) mk bi ch9 tu9 ma wo9 fw fc ff fco fsq fu fg hM0 hM (k % 4) (by omega) hif hfl hkd hmw) (kV 2 hts m_782 m_779 m_781 m_27 m_40 (by decide +kernel) ⟨Nat.le_of_ble_eq_true rfl, Nat.le_of_ble_eq_true rfl⟩) (va_recv hK hP (ci := 6) (q0 := 0) rfl rfl) hKK hP hD hS hA hl.1 rfl rfl (Nat.le_of_ble_eq_true rfl) d_M_table_41 ⟨Nat.le_of_ble_eq_true rfl, Nat.le_of_ble_eq_true rfl⟩ (fun rr u H locs er hP hD hS => ?_)
        have hP : va_P D vwCl ((mo, .inr (6, [.int (nI 0), .int (nI M), .int (nI kd), .int (nI (ckb kd M)), .int (nI (nk kd)), .ref wi, .ref ck, .ref fq, .ref co, .int (nI (grsK kd M)), .int (nI ifo), .int (nI fl), .long (u.1), .int (u.2.1), .int (u.2.2), .long (wo9), .int (ch9), .int (tu9), .ref sq, .ref uq, .ref gq])) :: (wi, .inl (g 0, 4, .inl (fw))) :: (ck, .inl (g 0, 4, .inl (fc))) :: (fq, .inl (g 0, 4, .inl (ff))) :: (co, .inl (g 0, 228, .inl (fco))) :: (sq, .inl (g 0, 8, .inl (fsq))) :: (uq, .inl (g 2, 128, .inl (fu))) :: (gq, .inl (g 0, 7, .inl (fg))) :: wm) H := hP
        have hD : va_D A ((mo, .inr (6, [.int (nI 0), .int (nI M), .int (nI kd), .int (nI (ckb kd M)), .int (nI (nk kd)), .ref wi, .ref ck, .ref fq, .ref co, .int (nI (grsK kd M)), .int (nI ifo), .int (nI fl), .long (u.1), .int (u.2.1), .int (u.2.2), .long (wo9), .int (ch9), .int (tu9), .ref sq, .ref uq, .ref gq])) :: (wi, .inl (g 0, 4, .inl (fw))) :: (ck, .inl (g 0, 4, .inl (fc))) :: (fq, .inl (g 0, 4, .inl (ff))) :: (co, .inl (g 0, 228, .inl (fco))) :: (sq, .inl (g 0, 8, .inl (fsq))) :: (uq, .inl (g 2, 128, .inl (fu))) :: (gq, .inl (g 0, 7, .inl (fg))) :: wm) := hD
        rw [← hQ]
        refine W.iret (v := rr) hx hb hr ?_ hS.2.2 d_M_table_44
        exact fun t ht hW => ⟨⟨rr, u, rfl, (er.trans (by rw [tbl_hi hM0 hM c30 hk9])), by rw [ht]; exact hP, hD⟩, hS.F ht⟩
    · skip
      exact absurd rfl c20
  · skip
    exact absurd c8 (by decide)
set_option maxHeartbeats 4000000 in
set_option maxRecDepth 100000 in
theorem t_M_table (l : Launch) (D : va_G) (g : Nat → ClassId) (sz : Nat) (wm : va_W) (mo wi ck fq co sq uq gq kd M ifo fl : Nat) (th mk bi ch9 tu9 : Int32) (ma wo9 : Int64) (fw fc ff fco fsq fu fg : Nat → Int32) (hM0 : 0 < M) (hM : M ≤ 57) (v : Int32) (hv9 : inBb 8 v = 0) : Met l y_M_table w_M_table rm_M_table (va_Pc [.ref mo, .int (v)] (pP D (tyl g) ((mo, .inr (6, [.int (th), .int (nI M), .int (nI kd), .int (nI (ckb kd M)), .int (nI (nk kd)), .ref wi, .ref ck, .ref fq, .ref co, .int (nI (grsK kd M)), .int (nI ifo), .int (nI fl), .long (ma), .int (mk), .int (bi), .long (wo9), .int (ch9), .int (tu9), .ref sq, .ref uq, .ref gq])) :: (wi, .inl (g 0, 4, .inl (fw))) :: (ck, .inl (g 0, 4, .inl (fc))) :: (fq, .inl (g 0, 4, .inl (ff))) :: (co, .inl (g 0, 228, .inl (fco))) :: (sq, .inl (g 0, 8, .inl (fsq))) :: (uq, .inl (g 2, 128, .inl (fu))) :: (gq, .inl (g 0, 7, .inl (fg))) :: wm) sz)) (va_Qi (fun (r : Int32) (u : Unit) => r = nI 0) (fun u => qB D (va_A ((mo, .inr (6, [.int (th), .int (nI M), .int (nI kd), .int (nI (ckb kd M)), .int (nI (nk kd)), .ref wi, .ref ck, .ref fq, .ref co, .int (nI (grsK kd M)), .int (nI ifo), .int (nI fl), .long (ma), .int (mk), .int (bi), .long (wo9), .int (ch9), .int (tu9), .ref sq, .ref uq, .ref gq])) :: (wi, .inl (g 0, 4, .inl (fw))) :: (ck, .inl (g 0, 4, .inl (fc))) :: (fq, .inl (g 0, 4, .inl (ff))) :: (co, .inl (g 0, 228, .inl (fco))) :: (sq, .inl (g 0, 8, .inl (fsq))) :: (uq, .inl (g 2, 128, .inl (fu))) :: (gq, .inl (g 0, 7, .inl (fg))) :: wm) sz) ((mo, .inr (6, [.int (nI 1), .int (nI M), .int (nI kd), .int (nI (ckb kd M)), .int (nI (nk kd)), .ref wi, .ref ck, .ref fq, .ref co, .int (nI (grsK kd M)), .int (nI ifo), .int (nI fl), .long (ma), .int (mk), .int (bi), .long (wo9), .int (ch9), .int (tu9), .ref sq, .ref uq, .ref gq])) :: (wi, .inl (g 0, 4, .inl (fw))) :: (ck, .inl (g 0, 4, .inl (fc))) :: (fq, .inl (g 0, 4, .inl (ff))) :: (co, .inl (g 0, 228, .inl (fco))) :: (sq, .inl (g 0, 8, .inl (fsq))) :: (uq, .inl (g 2, 128, .inl (fu))) :: (gq, .inl (g 0, 7, .inl (fg))) :: wm)) (va_A ((mo, .inr (6, [.int (th), .int (nI M), .int (nI kd), .int (nI (ckb kd M)), .int (nI (nk kd)), .ref wi, .ref ck, .ref fq, .ref co, .int (nI (grsK kd M)), .int (nI ifo), .int (nI fl), .long (ma), .int (mk), .int (bi), .long (wo9), .int (ch9), .int (tu9), .ref sq, .ref uq, .ref gq])) :: (wi, .inl (g 0, 4, .inl (fw))) :: (ck, .inl (g 0, 4, .inl (fc))) :: (fq, .inl (g 0, 4, .inl (ff))) :: (co, .inl (g 0, 228, .inl (fco))) :: (sq, .inl (g 0, 8, .inl (fsq))) :: (uq, .inl (g 2, 128, .inl (fu))) :: (gq, .inl (g 0, 7, .inl (fg))) :: wm) sz)) 0 0 (va_A ((mo, .inr (6, [.int (th), .int (nI M), .int (nI kd), .int (nI (ckb kd M)), .int (nI (nk kd)), .ref wi, .ref ck, .ref fq, .ref co, .int (nI (grsK kd M)), .int (nI ifo), .int (nI fl), .long (ma), .int (mk), .int (bi), .long (wo9), .int (ch9), .int (tu9), .ref sq, .ref uq, .ref gq])) :: (wi, .inl (g 0, 4, .inl (fw))) :: (ck, .inl (g 0, 4, .inl (fc))) :: (fq, .inl (g 0, 4, .inl (ff))) :: (co, .inl (g 0, 228, .inl (fco))) :: (sq, .inl (g 0, 8, .inl (fsq))) :: (uq, .inl (g 2, 128, .inl (fu))) :: (gq, .inl (g 0, 7, .inl (fg))) :: wm) sz) := by
  refine Met.ofW (cc := b_M_table) (maxL := 2) (ret := (some .int)) (by decide +kernel) rfl ?_
  intro p e s m args below meth c s₁ Bq hml hv
  have hx := Bq.exec
  have hb := Bq.bytes
  have hr := Bq.returns
  have hts : ∀ w ∈ wA, w.before args s = true := fun w h => atoms_spec (ws := w_M_table) Bq.pre w (List.mem_cons_of_mem _ h)
  have hown : s.vm.findClass R_M = some m.cls := findClass_of_methodNamed Bq.named
  have hlocks := Bq.notSynchronized
  obtain ⟨rfl, hsz, hP, hKK, hD0⟩ := hv
  have hK := hKK.1
  subst hsz
  have hD := hD0.self (sz := s.heap.size)
  generalize hAe : va_A ((mo, .inr (6, [.int (th), .int (nI M), .int (nI kd), .int (nI (ckb kd M)), .int (nI (nk kd)), .ref wi, .ref ck, .ref fq, .ref co, .int (nI (grsK kd M)), .int (nI ifo), .int (nI fl), .long (ma), .int (mk), .int (bi), .long (wo9), .int (ch9), .int (tu9), .ref sq, .ref uq, .ref gq])) :: (wi, .inl (g 0, 4, .inl (fw))) :: (ck, .inl (g 0, 4, .inl (fc))) :: (fq, .inl (g 0, 4, .inl (ff))) :: (co, .inl (g 0, 228, .inl (fco))) :: (sq, .inl (g 0, 8, .inl (fsq))) :: (uq, .inl (g 2, 128, .inl (fu))) :: (gq, .inl (g 0, 7, .inl (fg))) :: wm) s.heap.size = A at hD ⊢
  have hA : ∀ q : Nat, s.heap.size ≤ q → A q := fun q h => by rw [← hAe]; exact Or.inr h
  have hS : va_S A s.heap s.heap [] := va_S.rf
  have hl := lv_entry ([.ref mo, .int (v)]) (n := 2) (Nat.le_of_ble_eq_true rfl)
  rw [lg_entry_eq]
  generalize (lg_sl ([.ref mo, .int (v)]) ++ List.replicate (2 - (lg_sl ([.ref mo, .int (v)])).length) Slot.unset).toArray = ls at hl ⊢
  have hl : lv_has ls 2 [(0, .ref mo), (1, .int (v))] := hl
  generalize hQ : MQ below (va_Qi (fun (r : Int32) (u : Unit) => r = nI 0) (fun u => qB D (A) ((mo, .inr (6, [.int (nI 1), .int (nI M), .int (nI kd), .int (nI (ckb kd M)), .int (nI (nk kd)), .ref wi, .ref ck, .ref fq, .ref co, .int (nI (grsK kd M)), .int (nI ifo), .int (nI fl), .long (ma), .int (mk), .int (bi), .long (wo9), .int (ch9), .int (tu9), .ref sq, .ref uq, .ref gq])) :: (wi, .inl (g 0, 4, .inl (fw))) :: (ck, .inl (g 0, 4, .inl (fc))) :: (fq, .inl (g 0, 4, .inl (ff))) :: (co, .inl (g 0, 228, .inl (fco))) :: (sq, .inl (g 0, 8, .inl (fsq))) :: (uq, .inl (g 2, 128, .inl (fu))) :: (gq, .inl (g 0, 7, .inl (fg))) :: wm)) (A)) [.ref mo, .int (v)].toArray s 0 0 A = Q
  refine lv_aload_n hx hb d_M_table_0 rfl (lv_at hl 0 rfl) ?_
  refine lv_iload_n hx hb d_M_table_1 rfl (lv_at hl 1 rfl) ?_
  refine lv_iconst (v := nI 0) hx hb d_M_table_2 (by decide) ?_
  refine lv_bipush (v := nI 7) hx hb d_M_table_3 (by decide) ?_
  refine lc_Si (As := [.int (v), .int (nI 0), .int (nI 7)]) (rest := [.ref mo]) ⟨hx, hb, hml, hown, hts⟩ (c_M_in l D g _ _ v 8 (by omega) (by omega)) (kS 3 hts m_682 m_680 m_681 m_40 (by decide +kernel) ⟨Nat.le_of_ble_eq_true rfl, Nat.le_of_ble_eq_true rfl⟩) hKK hP hD hS hA hl.1 rfl rfl (Nat.le_of_ble_eq_true rfl) d_M_table_5 ⟨Nat.le_of_ble_eq_true rfl, Nat.le_of_ble_eq_true rfl⟩ (fun r1 ur1 H locs er1 hP hD hS => ?_)
  obtain rfl : r1 = nI 0 := er1.trans (by rw [hv9])
  refine lx_if_ne (tgt := 15) hx hb d_M_table_8 (by decide) (by omega) (fun c8 => ?_) (fun c8 => ?_)
  · skip
    exact absurd rfl c8
  · skip
    refine lv_iconst (v := nI 1) hx hb d_M_table_11 (by decide) ?_
    refine lv_goto (tgt := 16) hx hb d_M_table_12 (by decide) ?_
    refine lv_iconst (v := nI 0) hx hb d_M_table_16 (by decide) ?_
    refine lc_Vi (b := mo) (As := [.int (nI 1), .int (nI 0)]) (rest := []) ⟨hx, hb, hml, hown, hts⟩ (c_M_fails l D g _ wm mo wi ck fq co sq uq gq kd M ifo fl th mk bi ch9 tu9 ma wo9 fw fc ff fco fsq fu fg hM0 hM 1 0 (by decide) (by decide)) (kV 2 hts m_686 m_683 m_685 m_15 m_40 (by decide +kernel) ⟨Nat.le_of_ble_eq_true rfl, Nat.le_of_ble_eq_true rfl⟩) (va_recv hK hP (ci := 6) (q0 := 0) rfl rfl) hKK hP hD hS hA hl.1 rfl rfl (Nat.le_of_ble_eq_true rfl) d_M_table_17 ⟨Nat.le_of_ble_eq_true rfl, Nat.le_of_ble_eq_true rfl⟩ (fun rf uf H locs ef hP hD hS => ?_)
    have hP : va_P D vwCl ((mo, .inr (6, [.int (nI 1), .int (nI M), .int (nI kd), .int (nI (ckb kd M)), .int (nI (nk kd)), .ref wi, .ref ck, .ref fq, .ref co, .int (nI (grsK kd M)), .int (nI ifo), .int (nI fl), .long (ma), .int (mk), .int (bi), .long (wo9), .int (ch9), .int (tu9), .ref sq, .ref uq, .ref gq])) :: (wi, .inl (g 0, 4, .inl (fw))) :: (ck, .inl (g 0, 4, .inl (fc))) :: (fq, .inl (g 0, 4, .inl (ff))) :: (co, .inl (g 0, 228, .inl (fco))) :: (sq, .inl (g 0, 8, .inl (fsq))) :: (uq, .inl (g 2, 128, .inl (fu))) :: (gq, .inl (g 0, 7, .inl (fg))) :: wm) H := hP
    have hD : va_D A ((mo, .inr (6, [.int (nI 1), .int (nI M), .int (nI kd), .int (nI (ckb kd M)), .int (nI (nk kd)), .ref wi, .ref ck, .ref fq, .ref co, .int (nI (grsK kd M)), .int (nI ifo), .int (nI fl), .long (ma), .int (mk), .int (bi), .long (wo9), .int (ch9), .int (tu9), .ref sq, .ref uq, .ref gq])) :: (wi, .inl (g 0, 4, .inl (fw))) :: (ck, .inl (g 0, 4, .inl (fc))) :: (fq, .inl (g 0, 4, .inl (ff))) :: (co, .inl (g 0, 228, .inl (fco))) :: (sq, .inl (g 0, 8, .inl (fsq))) :: (uq, .inl (g 2, 128, .inl (fu))) :: (gq, .inl (g 0, 7, .inl (fg))) :: wm) := hD
    obtain rfl : rf = nI 1 := ef
    refine lx_if_eq (tgt := 27) hx hb d_M_table_20 (by decide) (by omega) (fun c20 => ?_) (fun c20 => ?_)
    · skip
      exact absurd c20 (by decide)
    · skip
      refine lv_iconst (v := nI 0) hx hb d_M_table_23 (by decide) ?_
      refine lv_goto (tgt := 44) hx hb d_M_table_24 (by decide) ?_
      rw [← hQ]
      refine W.iret (v := nI 0) hx hb hr ?_ hS.2.2 d_M_table_44
      exact fun t ht hW => ⟨⟨nI 0, (), rfl, rfl, by rw [ht]; exact hP, hD⟩, hS.F ht⟩
