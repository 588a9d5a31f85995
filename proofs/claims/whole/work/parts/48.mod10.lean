set_option maxRecDepth 20000 in
theorem m_736 : Cond.code y_M_mend b_M_mend 5 (some .int) ∈ wA := in_wA (List.mem_of_getElem? (i := 736) rfl) rfl
set_option maxRecDepth 20000 in
theorem m_733 : Cond.methodLink R_M 106 y_M_mend ∈ wA := in_wA (List.mem_of_getElem? (i := 733) rfl) rfl
set_option maxRecDepth 20000 in
theorem m_735 : Cond.instanceMethod y_M_mend ∈ wA := in_wA (List.mem_of_getElem? (i := 735) rfl) rfl
set_option maxRecDepth 20000 in
theorem m_23 : Cond.selects R_M y_M_mend y_M_mend ∈ wA := in_wA (List.mem_of_getElem? (i := 23) rfl) rfl
abbrev w_M_mendSums : List Cond := .code y_M_mendSums b_M_mendSums 10 (some .int) :: wA
abbrev rm_M_mendSums : Room := { frames := 2, cells := 0, slots := 0, locals := 47 }
theorem d_M_mendSums_0 : decode b_M_mendSums 0 = .ok (.iconst 0, 1) := by decide +kernel
theorem d_M_mendSums_1 : decode b_M_mendSums 1 = .ok (.istore 5, 2) := by decide +kernel
theorem d_M_mendSums_3 : decode b_M_mendSums 3 = .ok (.iconst 0, 1) := by decide +kernel
theorem d_M_mendSums_4 : decode b_M_mendSums 4 = .ok (.istore 6, 2) := by decide +kernel
theorem d_M_mendSums_6 : decode b_M_mendSums 6 = .ok (.iconst 0, 1) := by decide +kernel
theorem d_M_mendSums_7 : decode b_M_mendSums 7 = .ok (.istore 7, 2) := by decide +kernel
theorem d_M_mendSums_9 : decode b_M_mendSums 9 = .ok (.iload 7, 2) := by decide +kernel
theorem d_M_mendSums_11 : decode b_M_mendSums 11 = .ok (.aload_n 0, 1) := by decide +kernel
theorem d_M_mendSums_12 : decode b_M_mendSums 12 = .ok (.getfield 41, 3) := by decide +kernel
theorem d_M_mendSums_15 : decode b_M_mendSums 15 = .ok (.if_icmp .ge 78, 3) := by decide +kernel
theorem d_M_mendSums_18 : decode b_M_mendSums 18 = .ok (.iload_n 1, 1) := by decide +kernel
theorem d_M_mendSums_19 : decode b_M_mendSums 19 = .ok (.aload_n 0, 1) := by decide +kernel
theorem d_M_mendSums_20 : decode b_M_mendSums 20 = .ok (.getfield 16, 3) := by decide +kernel
theorem d_M_mendSums_23 : decode b_M_mendSums 23 = .ok (.iload 7, 2) := by decide +kernel
theorem d_M_mendSums_25 : decode b_M_mendSums 25 = .ok (.iaload, 1) := by decide +kernel
theorem d_M_mendSums_26 : decode b_M_mendSums 26 = .ok (.ishr, 1) := by decide +kernel
theorem d_M_mendSums_27 : decode b_M_mendSums 27 = .ok (.iconst 1, 1) := by decide +kernel
theorem d_M_mendSums_28 : decode b_M_mendSums 28 = .ok (.aload_n 0, 1) := by decide +kernel
theorem d_M_mendSums_29 : decode b_M_mendSums 29 = .ok (.getfield 13, 3) := by decide +kernel
theorem d_M_mendSums_32 : decode b_M_mendSums 32 = .ok (.iload 7, 2) := by decide +kernel
theorem d_M_mendSums_34 : decode b_M_mendSums 34 = .ok (.iaload, 1) := by decide +kernel
theorem d_M_mendSums_35 : decode b_M_mendSums 35 = .ok (.ishl, 1) := by decide +kernel
theorem d_M_mendSums_36 : decode b_M_mendSums 36 = .ok (.iconst 1, 1) := by decide +kernel
theorem d_M_mendSums_37 : decode b_M_mendSums 37 = .ok (.isub, 1) := by decide +kernel
theorem d_M_mendSums_38 : decode b_M_mendSums 38 = .ok (.iand, 1) := by decide +kernel
theorem d_M_mendSums_39 : decode b_M_mendSums 39 = .ok (.istore 8, 2) := by decide +kernel
theorem d_M_mendSums_41 : decode b_M_mendSums 41 = .ok (.aload_n 0, 1) := by decide +kernel
theorem d_M_mendSums_42 : decode b_M_mendSums 42 = .ok (.iload 7, 2) := by decide +kernel
theorem d_M_mendSums_44 : decode b_M_mendSums 44 = .ok (.iload 8, 2) := by decide +kernel
theorem d_M_mendSums_46 : decode b_M_mendSums 46 = .ok (.invokevirtual 106, 3) := by decide +kernel
theorem d_M_mendSums_49 : decode b_M_mendSums 49 = .ok (.istore 9, 2) := by decide +kernel
theorem d_M_mendSums_51 : decode b_M_mendSums 51 = .ok (.iload 5, 2) := by decide +kernel
theorem d_M_mendSums_53 : decode b_M_mendSums 53 = .ok (.ifCond .ne 9, 3) := by decide +kernel
theorem d_M_mendSums_56 : decode b_M_mendSums 56 = .ok (.iload 9, 2) := by decide +kernel
theorem d_M_mendSums_58 : decode b_M_mendSums 58 = .ok (.iconst 2, 1) := by decide +kernel
theorem d_M_mendSums_59 : decode b_M_mendSums 59 = .ok (.if_icmp .ne 7, 3) := by decide +kernel
theorem d_M_mendSums_62 : decode b_M_mendSums 62 = .ok (.iconst 1, 1) := by decide +kernel
theorem d_M_mendSums_63 : decode b_M_mendSums 63 = .ok (.goto 4, 3) := by decide +kernel
theorem d_M_mendSums_66 : decode b_M_mendSums 66 = .ok (.iconst 0, 1) := by decide +kernel
theorem d_M_mendSums_67 : decode b_M_mendSums 67 = .ok (.istore 5, 2) := by decide +kernel
theorem d_M_mendSums_69 : decode b_M_mendSums 69 = .ok (.iload 6, 2) := by decide +kernel
theorem d_M_mendSums_71 : decode b_M_mendSums 71 = .ok (.ifCond .ne 9, 3) := by decide +kernel
theorem d_M_mendSums_74 : decode b_M_mendSums 74 = .ok (.iload 9, 2) := by decide +kernel
theorem d_M_mendSums_76 : decode b_M_mendSums 76 = .ok (.iconst 1, 1) := by decide +kernel
theorem d_M_mendSums_77 : decode b_M_mendSums 77 = .ok (.if_icmp .ne 7, 3) := by decide +kernel
theorem d_M_mendSums_80 : decode b_M_mendSums 80 = .ok (.iconst 1, 1) := by decide +kernel
theorem d_M_mendSums_81 : decode b_M_mendSums 81 = .ok (.goto 4, 3) := by decide +kernel
theorem d_M_mendSums_84 : decode b_M_mendSums 84 = .ok (.iconst 0, 1) := by decide +kernel
theorem d_M_mendSums_85 : decode b_M_mendSums 85 = .ok (.istore 6, 2) := by decide +kernel
theorem d_M_mendSums_87 : decode b_M_mendSums 87 = .ok (.iinc 7 1, 3) := by decide +kernel
theorem d_M_mendSums_90 : decode b_M_mendSums 90 = .ok (.goto (-81), 3) := by decide +kernel
theorem d_M_mendSums_93 : decode b_M_mendSums 93 = .ok (.iload 5, 2) := by decide +kernel
theorem d_M_mendSums_95 : decode b_M_mendSums 95 = .ok (.ifCond .eq 19, 3) := by decide +kernel
theorem d_M_mendSums_98 : decode b_M_mendSums 98 = .ok (.aload_n 0, 1) := by decide +kernel
theorem d_M_mendSums_99 : decode b_M_mendSums 99 = .ok (.lload_n 2, 1) := by decide +kernel
theorem d_M_mendSums_100 : decode b_M_mendSums 100 = .ok (.putfield 96, 3) := by decide +kernel
theorem d_M_mendSums_103 : decode b_M_mendSums 103 = .ok (.aload_n 0, 1) := by decide +kernel
theorem d_M_mendSums_104 : decode b_M_mendSums 104 = .ok (.iload 4, 2) := by decide +kernel
theorem d_M_mendSums_106 : decode b_M_mendSums 106 = .ok (.putfield 100, 3) := by decide +kernel
theorem d_M_mendSums_109 : decode b_M_mendSums 109 = .ok (.aload_n 0, 1) := by decide +kernel
theorem d_M_mendSums_110 : decode b_M_mendSums 110 = .ok (.iconst 0, 1) := by decide +kernel
theorem d_M_mendSums_111 : decode b_M_mendSums 111 = .ok (.putfield 103, 3) := by decide +kernel
theorem d_M_mendSums_114 : decode b_M_mendSums 114 = .ok (.iload 5, 2) := by decide +kernel
theorem d_M_mendSums_116 : decode b_M_mendSums 116 = .ok (.ifCond .eq 7, 3) := by decide +kernel
theorem d_M_mendSums_119 : decode b_M_mendSums 119 = .ok (.iconst 2, 1) := by decide +kernel
theorem d_M_mendSums_120 : decode b_M_mendSums 120 = .ok (.goto 13, 3) := by decide +kernel
theorem d_M_mendSums_123 : decode b_M_mendSums 123 = .ok (.iload 6, 2) := by decide +kernel
theorem d_M_mendSums_125 : decode b_M_mendSums 125 = .ok (.ifCond .eq 7, 3) := by decide +kernel
theorem d_M_mendSums_128 : decode b_M_mendSums 128 = .ok (.iconst 1, 1) := by decide +kernel
theorem d_M_mendSums_129 : decode b_M_mendSums 129 = .ok (.goto 4, 3) := by decide +kernel
theorem d_M_mendSums_132 : decode b_M_mendSums 132 = .ok (.iconst 0, 1) := by decide +kernel
theorem d_M_mendSums_133 : decode b_M_mendSums 133 = .ok (.ireturn, 1) := by decide +kernel
set_option maxHeartbeats 4000000 in
set_option maxRecDepth 100000 in
theorem c_M_mendSums (l : Launch) (D : va_G) (g : Nat → ClassId) (sz : Nat) (wm : va_W) (mo wi ck fq co sq uq gq kd M ifo fl : Nat) (wv cv bv : Nat) (th ch9 tu9 : Int32) (wo9 : Int64) (fw fc ff fco fsq fu fg : Nat → Int32) (hM0 : 0 < M) (hM : M ≤ 57) (y : Nat) (hkd : kd ≤ 3) (hmw : MWF kd M fw fc ff fco) (hs9 : kd = 0 ∨ kd = 3) (hy : y < 2 ^ 31) : Met l y_M_mendSums w_M_mendSums rm_M_mendSums (va_Pc [.ref mo, .int (nI y), .long (lN wv), .int (nI cv)] (pP D (tyl g) ((mo, .inr (6, [.int (th), .int (nI M), .int (nI kd), .int (nI (ckb kd M)), .int (nI (nk kd)), .ref wi, .ref ck, .ref fq, .ref co, .int (nI (grsK kd M)), .int (nI ifo), .int (nI fl), .long (lN wv), .int (nI cv), .int (nI 0), .long (wo9), .int (ch9), .int (tu9), .ref sq, .ref uq, .ref gq])) :: (wi, .inl (g 0, 4, .inl (fw))) :: (ck, .inl (g 0, 4, .inl (fc))) :: (fq, .inl (g 0, 4, .inl (ff))) :: (co, .inl (g 0, 228, .inl (fco))) :: (sq, .inl (g 0, 8, .inl (fsq))) :: (uq, .inl (g 2, 128, .inl (fu))) :: (gq, .inl (g 0, 7, .inl (fg))) :: wm) sz)) (va_Qi (fun (r : Int32) (u : Unit) => r = nI (jdS M (nk kd) y).1) (fun u => qB D (va_A ((mo, .inr (6, [.int (th), .int (nI M), .int (nI kd), .int (nI (ckb kd M)), .int (nI (nk kd)), .ref wi, .ref ck, .ref fq, .ref co, .int (nI (grsK kd M)), .int (nI ifo), .int (nI fl), .long (lN wv), .int (nI cv), .int (nI 0), .long (wo9), .int (ch9), .int (tu9), .ref sq, .ref uq, .ref gq])) :: (wi, .inl (g 0, 4, .inl (fw))) :: (ck, .inl (g 0, 4, .inl (fc))) :: (fq, .inl (g 0, 4, .inl (ff))) :: (co, .inl (g 0, 228, .inl (fco))) :: (sq, .inl (g 0, 8, .inl (fsq))) :: (uq, .inl (g 2, 128, .inl (fu))) :: (gq, .inl (g 0, 7, .inl (fg))) :: wm) sz) ((mo, .inr (6, [.int (th), .int (nI M), .int (nI kd), .int (nI (ckb kd M)), .int (nI (nk kd)), .ref wi, .ref ck, .ref fq, .ref co, .int (nI (grsK kd M)), .int (nI ifo), .int (nI fl), .long (lN (wv ^^^ (jdS M (nk kd) y).2.1)), .int (nI (cv ^^^ (jdS M (nk kd) y).2.2)), .int (nI (pcn 64 (jdS M (nk kd) y).2.1 + pcn 32 (jdS M (nk kd) y).2.2)), .long (wo9), .int (ch9), .int (tu9), .ref sq, .ref uq, .ref gq])) :: (wi, .inl (g 0, 4, .inl (fw))) :: (ck, .inl (g 0, 4, .inl (fc))) :: (fq, .inl (g 0, 4, .inl (ff))) :: (co, .inl (g 0, 228, .inl (fco))) :: (sq, .inl (g 0, 8, .inl (fsq))) :: (uq, .inl (g 2, 128, .inl (fu))) :: (gq, .inl (g 0, 7, .inl (fg))) :: wm)) (va_A ((mo, .inr (6, [.int (th), .int (nI M), .int (nI kd), .int (nI (ckb kd M)), .int (nI (nk kd)), .ref wi, .ref ck, .ref fq, .ref co, .int (nI (grsK kd M)), .int (nI ifo), .int (nI fl), .long (lN wv), .int (nI cv), .int (nI 0), .long (wo9), .int (ch9), .int (tu9), .ref sq, .ref uq, .ref gq])) :: (wi, .inl (g 0, 4, .inl (fw))) :: (ck, .inl (g 0, 4, .inl (fc))) :: (fq, .inl (g 0, 4, .inl (ff))) :: (co, .inl (g 0, 228, .inl (fco))) :: (sq, .inl (g 0, 8, .inl (fsq))) :: (uq, .inl (g 2, 128, .inl (fu))) :: (gq, .inl (g 0, 7, .inl (fg))) :: wm) sz)) 0 0 (va_A ((mo, .inr (6, [.int (th), .int (nI M), .int (nI kd), .int (nI (ckb kd M)), .int (nI (nk kd)), .ref wi, .ref ck, .ref fq, .ref co, .int (nI (grsK kd M)), .int (nI ifo), .int (nI fl), .long (lN wv), .int (nI cv), .int (nI 0), .long (wo9), .int (ch9), .int (tu9), .ref sq, .ref uq, .ref gq])) :: (wi, .inl (g 0, 4, .inl (fw))) :: (ck, .inl (g 0, 4, .inl (fc))) :: (fq, .inl (g 0, 4, .inl (ff))) :: (co, .inl (g 0, 228, .inl (fco))) :: (sq, .inl (g 0, 8, .inl (fsq))) :: (uq, .inl (g 2, 128, .inl (fu))) :: (gq, .inl (g 0, 7, .inl (fg))) :: wm) sz) := by
  refine Met.ofW (cc := b_M_mendSums) (maxL := 10) (ret := (some .int)) (by decide +kernel) rfl ?_
  intro p e s m args below meth c s₁ Bq hml hv
  have hx := Bq.exec
  have hb := Bq.bytes
  have hr := Bq.returns
  have hts : ∀ w ∈ wA, w.before args s = true := fun w h => atoms_spec (ws := w_M_mendSums) Bq.pre w (List.mem_cons_of_mem _ h)
  have hown : s.vm.findClass R_M = some m.cls := findClass_of_methodNamed Bq.named
  have hlocks := Bq.notSynchronized
  obtain ⟨rfl, hsz, hP, hKK, hD0⟩ := hv
  have hK := hKK.1
  subst hsz
  have hD := hD0.self (sz := s.heap.size)
  generalize hAe : va_A ((mo, .inr (6, [.int (th), .int (nI M), .int (nI kd), .int (nI (ckb kd M)), .int (nI (nk kd)), .ref wi, .ref ck, .ref fq, .ref co, .int (nI (grsK kd M)), .int (nI ifo), .int (nI fl), .long (lN wv), .int (nI cv), .int (nI 0), .long (wo9), .int (ch9), .int (tu9), .ref sq, .ref uq, .ref gq])) :: (wi, .inl (g 0, 4, .inl (fw))) :: (ck, .inl (g 0, 4, .inl (fc))) :: (fq, .inl (g 0, 4, .inl (ff))) :: (co, .inl (g 0, 228, .inl (fco))) :: (sq, .inl (g 0, 8, .inl (fsq))) :: (uq, .inl (g 2, 128, .inl (fu))) :: (gq, .inl (g 0, 7, .inl (fg))) :: wm) s.heap.size = A at hD ⊢
  have hA : ∀ q : Nat, s.heap.size ≤ q → A q := fun q h => by rw [← hAe]; exact Or.inr h
  have hS : va_S A s.heap s.heap [] := va_S.rf
  have hl := lv_entry ([.ref mo, .int (nI y), .long (lN wv), .int (nI cv)]) (n := 10) (Nat.le_of_ble_eq_true rfl)
  rw [lg_entry_eq]
  generalize (lg_sl ([.ref mo, .int (nI y), .long (lN wv), .int (nI cv)]) ++ List.replicate (10 - (lg_sl ([.ref mo, .int (nI y), .long (lN wv), .int (nI cv)])).length) Slot.unset).toArray = ls at hl ⊢
  have hl : lv_has ls 10 [(0, .ref mo), (1, .int (nI y)), (2, .long (lN wv)), (4, .int (nI cv))] := hl
  generalize hQ : MQ below (va_Qi (fun (r : Int32) (u : Unit) => r = nI (jdS M (nk kd) y).1) (fun u => qB D (A) ((mo, .inr (6, [.int (th), .int (nI M), .int (nI kd), .int (nI (ckb kd M)), .int (nI (nk kd)), .ref wi, .ref ck, .ref fq, .ref co, .int (nI (grsK kd M)), .int (nI ifo), .int (nI fl), .long (lN (wv ^^^ (jdS M (nk kd) y).2.1)), .int (nI (cv ^^^ (jdS M (nk kd) y).2.2)), .int (nI (pcn 64 (jdS M (nk kd) y).2.1 + pcn 32 (jdS M (nk kd) y).2.2)), .long (wo9), .int (ch9), .int (tu9), .ref sq, .ref uq, .ref gq])) :: (wi, .inl (g 0, 4, .inl (fw))) :: (ck, .inl (g 0, 4, .inl (fc))) :: (fq, .inl (g 0, 4, .inl (ff))) :: (co, .inl (g 0, 228, .inl (fco))) :: (sq, .inl (g 0, 8, .inl (fsq))) :: (uq, .inl (g 2, 128, .inl (fu))) :: (gq, .inl (g 0, 7, .inl (fg))) :: wm)) (A)) [.ref mo, .int (nI y), .long (lN wv), .int (nI cv)].toArray s 0 0 A = Q
  have hnk := nk_in kd
  obtain ⟨ht1, ht2⟩ := hmw hs9
  have lp9 : ∀ (n : Nat) (i t9 a9 w9 c9 b9 : Nat) (ls : Array Slot) (H : Heap) (locs : List Loc), (nk kd + 1 ≤ i + n) → (i ≤ nk kd) → (t9 ≤ 1) → (a9 ≤ 1) → (mJ M (nk kd) y wv cv i t9 a9 w9 c9 b9) → lv_has ls 10 [(0, .ref mo), (1, .int (nI y)), (2, .long (lN wv)), (4, .int (nI cv)), (5, .int (nI t9)), (6, .int (nI a9)), (7, .int (nI i))] → va_P D vwCl ((mo, .inr (6, [.int (th), .int (nI M), .int (nI kd), .int (nI (ckb kd M)), .int (nI (nk kd)), .ref wi, .ref ck, .ref fq, .ref co, .int (nI (grsK kd M)), .int (nI ifo), .int (nI fl), .long (lN w9), .int (nI c9), .int (nI b9), .long (wo9), .int (ch9), .int (tu9), .ref sq, .ref uq, .ref gq])) :: (wi, .inl (g 0, 4, .inl (fw))) :: (ck, .inl (g 0, 4, .inl (fc))) :: (fq, .inl (g 0, 4, .inl (ff))) :: (co, .inl (g 0, 228, .inl (fco))) :: (sq, .inl (g 0, 8, .inl (fsq))) :: (uq, .inl (g 2, 128, .inl (fu))) :: (gq, .inl (g 0, 7, .inl (fg))) :: wm) H → va_D A ((mo, .inr (6, [.int (th), .int (nI M), .int (nI kd), .int (nI (ckb kd M)), .int (nI (nk kd)), .ref wi, .ref ck, .ref fq, .ref co, .int (nI (grsK kd M)), .int (nI ifo), .int (nI fl), .long (lN w9), .int (nI c9), .int (nI b9), .long (wo9), .int (ch9), .int (tu9), .ref sq, .ref uq, .ref gq])) :: (wi, .inl (g 0, 4, .inl (fw))) :: (ck, .inl (g 0, 4, .inl (fc))) :: (fq, .inl (g 0, 4, .inl (ff))) :: (co, .inl (g 0, 228, .inl (fco))) :: (sq, .inl (g 0, 8, .inl (fsq))) :: (uq, .inl (g 2, 128, .inl (fu))) :: (gq, .inl (g 0, 7, .inl (fg))) :: wm) → va_S A s.heap H locs → W p l e (headSpec w_M_mendSums rm_M_mendSums).room s m [.ref mo, .int (nI y), .long (lN wv), .int (nI cv)].toArray below meth c H locs 0 0 Q (F0 m 9 ls []) := by
    intro n
    induction n with
    | zero => intro i t9 a9 w9 c9 b9 ls H locs hfu hi9 ht9 ha9 hmj _ _ _ _; exact absurd hfu (by omega)
    | succ n ih =>
      intro i t9 a9 w9 c9 b9 ls H locs hfu hi9 ht9 ha9 hmj hl hP hD hS
      refine lv_iload hx hb d_M_mendSums_9 (lv_at hl 6 rfl) ?_
      refine lv_aload_n hx hb d_M_mendSums_11 rfl (lv_at hl 0 rfl) ?_
      refine va_get (D := D) (ci := 6) (v := .int (nI (nk kd))) (C := R_M) (T := F_M) (N := 21) hx hb hts i_M hown hK hP 0 rfl rfl 4 (by decide) (hts _ m_593) (fun _ h9 => h9) rfl d_M_mendSums_12 ?_
      refine lx_icmp_ge (tgt := 93) hx hb d_M_mendSums_15 (by decide) (by omega) (by omega) (fun c15 => ?_) (fun c15 => ?_)
      · skip
        obtain rfl : i = nk kd := by omega
        rcases mJ_end hmj with ⟨rfl, ej⟩ | ⟨rfl, e1, e2, e3, e4⟩
        · skip
          refine lv_iload hx hb d_M_mendSums_93 (lv_at hl 4 rfl) ?_
          refine lx_if_eq (tgt := 114) hx hb d_M_mendSums_95 (by decide) (by omega) (fun c95 => ?_) (fun c95 => ?_)
          · skip
            exact absurd c95 (by decide)
          · skip
            refine lv_aload_n hx hb d_M_mendSums_98 rfl (lv_at hl 0 rfl) ?_
            refine lv_lload_n hx hb d_M_mendSums_99 rfl (lv_at hl 2 rfl) ?_
            refine va_put (D := D) (ci := 6) (v := .long (lN wv)) (ty := .long) (C := R_M) (T := F_M) (N := 21) hx hb hts i_M tf_M tf_M_ok nf_M hown hK hP hD hS 0 rfl rfl 12 (by decide) (hts _ m_601) (fun _ h9 => h9) rfl (by decide +kernel) rfl rfl (Nat.le_of_ble_eq_true rfl) d_M_mendSums_100 (fun H locs hP hD hS => ?_)
            have hP : va_P D vwCl ((mo, .inr (6, [.int (th), .int (nI M), .int (nI kd), .int (nI (ckb kd M)), .int (nI (nk kd)), .ref wi, .ref ck, .ref fq, .ref co, .int (nI (grsK kd M)), .int (nI ifo), .int (nI fl), .long (lN wv), .int (nI c9), .int (nI b9), .long (wo9), .int (ch9), .int (tu9), .ref sq, .ref uq, .ref gq])) :: (wi, .inl (g 0, 4, .inl (fw))) :: (ck, .inl (g 0, 4, .inl (fc))) :: (fq, .inl (g 0, 4, .inl (ff))) :: (co, .inl (g 0, 228, .inl (fco))) :: (sq, .inl (g 0, 8, .inl (fsq))) :: (uq, .inl (g 2, 128, .inl (fu))) :: (gq, .inl (g 0, 7, .inl (fg))) :: wm) H := hP
            have hD : va_D A ((mo, .inr (6, [.int (th), .int (nI M), .int (nI kd), .int (nI (ckb kd M)), .int (nI (nk kd)), .ref wi, .ref ck, .ref fq, .ref co, .int (nI (grsK kd M)), .int (nI ifo), .int (nI fl), .long (lN wv), .int (nI c9), .int (nI b9), .long (wo9), .int (ch9), .int (tu9), .ref sq, .ref uq, .ref gq])) :: (wi, .inl (g 0, 4, .inl (fw))) :: (ck, .inl (g 0, 4, .inl (fc))) :: (fq, .inl (g 0, 4, .inl (ff))) :: (co, .inl (g 0, 228, .inl (fco))) :: (sq, .inl (g 0, 8, .inl (fsq))) :: (uq, .inl (g 2, 128, .inl (fu))) :: (gq, .inl (g 0, 7, .inl (fg))) :: wm) := hD
            refine lv_aload_n hx hb d_M_mendSums_103 rfl (lv_at hl 0 rfl) ?_
            refine lv_iload hx hb d_M_mendSums_104 (lv_at hl 3 rfl) ?_
            refine va_put (D := D) (ci := 6) (v := .int (nI cv)) (ty := .int) (C := R_M) (T := F_M) (N := 21) hx hb hts i_M tf_M tf_M_ok nf_M hown hK hP hD hS 0 rfl rfl 13 (by decide) (hts _ m_602) (fun _ h9 => h9) rfl (by decide +kernel) rfl rfl (Nat.le_of_ble_eq_true rfl) d_M_mendSums_106 (fun H locs hP hD hS => ?_)
            have hP : va_P D vwCl ((mo, .inr (6, [.int (th), .int (nI M), .int (nI kd), .int (nI (ckb kd M)), .int (nI (nk kd)), .ref wi, .ref ck, .ref fq, .ref co, .int (nI (grsK kd M)), .int (nI ifo), .int (nI fl), .long (lN wv), .int (nI cv), .int (nI b9), .long (wo9), .int (ch9), .int (tu9), .ref sq, .ref uq, .ref gq])) :: (wi, .inl (g 0, 4, .inl (fw))) :: (ck, .inl (g 0, 4, .inl (fc))) :: (fq, .inl (g 0, 4, .inl (ff))) :: (co, .inl (g 0, 228, .inl (fco))) :: (sq, .inl (g 0, 8, .inl (fsq))) :: (uq, .inl (g 2, 128, .inl (fu))) :: (gq, .inl (g 0, 7, .inl (fg))) :: wm) H := hP
            have hD : va_D A ((mo, .inr (6, [.int (th), .int (nI M), .int (nI kd), .int (nI (ckb kd M)), .int (nI (nk kd)), .ref wi, .ref ck, .ref fq, .ref co, .int (nI (grsK kd M)), .int (nI ifo), .int (nI fl), .long (lN wv), .int (nI cv), .int (nI b9), .long (wo9), .int (ch9), .int (tu9), .ref sq, .ref uq, .ref gq])) :: (wi, .inl (g 0, 4, .inl (fw))) :: (ck, .inl (g 0, 4, .inl (fc))) :: (fq, .inl (g 0, 4, .inl (ff))) :: (co, .inl (g 0, 228, .inl (fco))) :: (sq, .inl (g 0, 8, .inl (fsq))) :: (uq, .inl (g 2, 128, .inl (fu))) :: (gq, .inl (g 0, 7, .inl (fg))) :: wm) := hD
            refine lv_aload_n hx hb d_M_mendSums_109 rfl (lv_at hl 0 rfl) ?_
            refine lv_iconst (v := nI 0) hx hb d_M_mendSums_110 (by decide) ?_
            refine va_put (D := D) (ci := 6) (v := .int (nI 0)) (ty := .int) (C := R_M) (T := F_M) (N := 21) hx hb hts i_M tf_M tf_M_ok nf_M hown hK hP hD hS 0 rfl rfl 14 (by decide) (hts _ m_603) (fun _ h9 => h9) rfl (by decide +kernel) rfl rfl (Nat.le_of_ble_eq_true rfl) d_M_mendSums_111 (fun H locs hP hD hS => ?_)
            have hP : va_P D vwCl ((mo, .inr (6, [.int (th), .int (nI M), .int (nI kd), .int (nI (ckb kd M)), .int (nI (nk kd)), .ref wi, .ref ck, .ref fq, .ref co, .int (nI (grsK kd M)), .int (nI ifo), .int (nI fl), .long (lN wv), .int (nI cv), .int (nI 0), .long (wo9), .int (ch9), .int (tu9), .ref sq, .ref uq, .ref gq])) :: (wi, .inl (g 0, 4, .inl (fw))) :: (ck, .inl (g 0, 4, .inl (fc))) :: (fq, .inl (g 0, 4, .inl (ff))) :: (co, .inl (g 0, 228, .inl (fco))) :: (sq, .inl (g 0, 8, .inl (fsq))) :: (uq, .inl (g 2, 128, .inl (fu))) :: (gq, .inl (g 0, 7, .inl (fg))) :: wm) H := hP
            have hD : va_D A ((mo, .inr (6, [.int (th), .int (nI M), .int (nI kd), .int (nI (ckb kd M)), .int (nI (nk kd)), .ref wi, .ref ck, .ref fq, .ref co, .int (nI (grsK kd M)), .int (nI ifo), .int (nI fl), .long (lN wv), .int (nI cv), .int (nI 0), .long (wo9), .int (ch9), .int (tu9), .ref sq, .ref uq, .ref gq])) :: (wi, .inl (g 0, 4, .inl (fw))) :: (ck, .inl (g 0, 4, .inl (fc))) :: (fq, .inl (g 0, 4, .inl (ff))) :: (co, .inl (g 0, 228, .inl (fco))) :: (sq, .inl (g 0, 8, .inl (fsq))) :: (uq, .inl (g 2, 128, .inl (fu))) :: (gq, .inl (g 0, 7, .inl (fg))) :: wm) := hD
            refine lv_iload hx hb d_M_mendSums_114 (lv_at hl 4 rfl) ?_
            refine lx_if_eq (tgt := 123) hx hb d_M_mendSums_116 (by decide) (by omega) (fun c116 => ?_) (fun c116 => ?_)
            · skip
              exact absurd c116 (by decide)
            · skip
              refine lv_iconst (v := nI 2) hx hb d_M_mendSums_119 (by decide) ?_
              refine lv_goto (tgt := 133) hx hb d_M_mendSums_120 (by decide) ?_
              have hP : va_P D vwCl ((mo, .inr (6, [.int (th), .int (nI M), .int (nI kd), .int (nI (ckb kd M)), .int (nI (nk kd)), .ref wi, .ref ck, .ref fq, .ref co, .int (nI (grsK kd M)), .int (nI ifo), .int (nI fl), .long (lN (wv ^^^ (jdS M (nk kd) y).2.1)), .int (nI (cv ^^^ (jdS M (nk kd) y).2.2)), .int (nI (pcn 64 (jdS M (nk kd) y).2.1 + pcn 32 (jdS M (nk kd) y).2.2)), .long (wo9), .int (ch9), .int (tu9), .ref sq, .ref uq, .ref gq])) :: (wi, .inl (g 0, 4, .inl (fw))) :: (ck, .inl (g 0, 4, .inl (fc))) :: (fq, .inl (g 0, 4, .inl (ff))) :: (co, .inl (g 0, 228, .inl (fco))) :: (sq, .inl (g 0, 8, .inl (fsq))) :: (uq, .inl (g 2, 128, .inl (fu))) :: (gq, .inl (g 0, 7, .inl (fg))) :: wm) H := by rw [ej, show wv ^^^ ((2, 0, 0) : Nat × Nat × Nat).2.1 = wv from Nat.xor_zero wv, show cv ^^^ ((2, 0, 0) : Nat × Nat × Nat).2.2 = cv from Nat.xor_zero cv, show pcn 64 ((2, 0, 0) : Nat × Nat × Nat).2.1 + pcn 32 ((2, 0, 0) : Nat × Nat × Nat).2.2 = 0 from by decide]; exact hP
              have hD : va_D A ((mo, .inr (6, [.int (th), .int (nI M), .int (nI kd), .int (nI (ckb kd M)), .int (nI (nk kd)), .ref wi, .ref ck, .ref fq, .ref co, .int (nI (grsK kd M)), .int (nI ifo), .int (nI fl), .long (lN (wv ^^^ (jdS M (nk kd) y).2.1)), .int (nI (cv ^^^ (jdS M (nk kd) y).2.2)), .int (nI (pcn 64 (jdS M (nk kd) y).2.1 + pcn 32 (jdS M (nk kd) y).2.2)), .long (wo9), .int (ch9), .int (tu9), .ref sq, .ref uq, .ref gq])) :: (wi, .inl (g 0, 4, .inl (fw))) :: (ck, .inl (g 0, 4, .inl (fc))) :: (fq, .inl (g 0, 4, .inl (ff))) :: (co, .inl (g 0, 228, .inl (fco))) :: (sq, .inl (g 0, 8, .inl (fsq))) :: (uq, .inl (g 2, 128, .inl (fu))) :: (gq, .inl (g 0, 7, .inl (fg))) :: wm) := hD.set (p := 0) rfl
              rw [← hQ]
              refine W.iret (v := nI 2) hx hb hr ?_ hS.2.2 d_M_mendSums_133
              exact fun t ht hW => ⟨⟨nI 2, (), rfl, by rw [ej], by rw [ht]; exact hP, hD⟩, hS.F ht⟩
        · skip
          refine lv_iload hx hb d_M_mendSums_93 (lv_at hl 4 rfl) ?_
          refine lx_if_eq (tgt := 114) hx hb d_M_mendSums_95 (by decide) (by omega) (fun c95 => ?_) (fun c95 => ?_)
          · skip
            rw [e2, e3, e4] at hP hD
            have hP : va_P D vwCl ((mo, .inr (6, [.int (th), .int (nI M), .int (nI kd), .int (nI (ckb kd M)), .int (nI (nk kd)), .ref wi, .ref ck, .ref fq, .ref co, .int (nI (grsK kd M)), .int (nI ifo), .int (nI fl), .long (lN (wv ^^^ (jdS M (nk kd) y).2.1)), .int (nI (cv ^^^ (jdS M (nk kd) y).2.2)), .int (nI (pcn 64 (jdS M (nk kd) y).2.1 + pcn 32 (jdS M (nk kd) y).2.2)), .long (wo9), .int (ch9), .int (tu9), .ref sq, .ref uq, .ref gq])) :: (wi, .inl (g 0, 4, .inl (fw))) :: (ck, .inl (g 0, 4, .inl (fc))) :: (fq, .inl (g 0, 4, .inl (ff))) :: (co, .inl (g 0, 228, .inl (fco))) :: (sq, .inl (g 0, 8, .inl (fsq))) :: (uq, .inl (g 2, 128, .inl (fu))) :: (gq, .inl (g 0, 7, .inl (fg))) :: wm) H := hP
            have hD : va_D A ((mo, .inr (6, [.int (th), .int (nI M), .int (nI kd), .int (nI (ckb kd M)), .int (nI (nk kd)), .ref wi, .ref ck, .ref fq, .ref co, .int (nI (grsK kd M)), .int (nI ifo), .int (nI fl), .long (lN (wv ^^^ (jdS M (nk kd) y).2.1)), .int (nI (cv ^^^ (jdS M (nk kd) y).2.2)), .int (nI (pcn 64 (jdS M (nk kd) y).2.1 + pcn 32 (jdS M (nk kd) y).2.2)), .long (wo9), .int (ch9), .int (tu9), .ref sq, .ref uq, .ref gq])) :: (wi, .inl (g 0, 4, .inl (fw))) :: (ck, .inl (g 0, 4, .inl (fc))) :: (fq, .inl (g 0, 4, .inl (ff))) :: (co, .inl (g 0, 228, .inl (fco))) :: (sq, .inl (g 0, 8, .inl (fsq))) :: (uq, .inl (g 2, 128, .inl (fu))) :: (gq, .inl (g 0, 7, .inl (fg))) :: wm) := hD
            refine lv_iload hx hb d_M_mendSums_114 (lv_at hl 4 rfl) ?_
            refine lx_if_eq (tgt := 123) hx hb d_M_mendSums_116 (by decide) (by omega) (fun c116 => ?_) (fun c116 => ?_)
            · skip
              refine lv_iload hx hb d_M_mendSums_123 (lv_at hl 5 rfl) ?_
              refine lx_if_eq (tgt := 132) hx hb d_M_mendSums_125 (by decide) (by omega) (fun c125 => ?_) (fun c125 => ?_)
              · skip
                refine lv_iconst (v := nI 0) hx hb d_M_mendSums_132 (by decide) ?_
                rw [← hQ]
                refine W.iret (v := nI 0) hx hb hr ?_ hS.2.2 d_M_mendSums_133
                exact fun t ht hW => ⟨⟨nI 0, (), rfl, (by rw [← e1, c125]), by rw [ht]; exact hP, hD⟩, hS.F ht⟩
              · skip
                refine lv_iconst (v := nI 1) hx hb d_M_mendSums_128 (by decide) ?_
                refine lv_goto (tgt := 133) hx hb d_M_mendSums_129 (by decide) ?_
                rw [← hQ]
                refine W.iret (v := nI 1) hx hb hr ?_ hS.2.2 d_M_mendSums_133
                exact fun t ht hW => ⟨⟨nI 1, (), rfl, (by rw [← e1, show a9 = 1 by omega]), by rw [ht]; exact hP, hD⟩, hS.F ht⟩
            · skip
              exact absurd rfl c116
          · skip
            exact absurd rfl c95
      · skip
        obtain ⟨t1, t2, t3⟩ := ht1 i c15
        have hl7 := lr_le (wid M (nk kd) i)
        have hfl := frm_lt (M := M) (n := nk kd) (show i < 4 by omega)
        have hp1 : 1 ≤ 2 ^ lr (wid M (nk kd) i) := Nat.one_le_two_pow
        have hst := mJ_step hM hnk c15 hmj
        have hm2 : (mdS M (nk kd) i (y >>> frm M (nk kd) i % 2 ^ lr (wid M (nk kd) i)) (w9, c9, b9)).1 ≤ 2 := mdS_le _ _ _ _ _
        refine lv_iload_n hx hb d_M_mendSums_18 rfl (lv_at hl 1 rfl) ?_
        refine lv_aload_n hx hb d_M_mendSums_19 rfl (lv_at hl 0 rfl) ?_
        refine va_get (D := D) (ci := 6) (v := .ref fq) (C := R_M) (T := F_M) (N := 21) hx hb hts i_M hown hK hP 0 rfl rfl 7 (by decide) (hts _ m_596) (fun _ h9 => h9) rfl d_M_mendSums_20 ?_
        refine lv_iload hx hb d_M_mendSums_23 (lv_at hl 6 rfl) ?_
        refine lx_iald (v := nI (frm M (nk kd) i)) hx hb hK hP 3 0 rfl rfl (j := i) (by omega) (by omega) (t3) d_M_mendSums_25 ?_
        refine lx_ishr (z := nI (y >>> frm M (nk kd) i)) hx hb d_M_mendSums_26 (xn_sshr hy (by omega)) ?_
        refine lv_iconst (v := nI 1) hx hb d_M_mendSums_27 (by decide) ?_
        refine lv_aload_n hx hb d_M_mendSums_28 rfl (lv_at hl 0 rfl) ?_
        refine va_get (D := D) (ci := 6) (v := .ref ck) (C := R_M) (T := F_M) (N := 21) hx hb hts i_M hown hK hP 0 rfl rfl 6 (by decide) (hts _ m_595) (fun _ h9 => h9) rfl d_M_mendSums_29 ?_
        refine lv_iload hx hb d_M_mendSums_32 (lv_at hl 6 rfl) ?_
        refine lx_iald (v := nI (lr (wid M (nk kd) i))) hx hb hK hP 2 0 rfl rfl (j := i) (by omega) (by omega) (t2) d_M_mendSums_34 ?_
        refine lx_ishl (z := nI (2 ^ lr (wid M (nk kd) i))) hx hb d_M_mendSums_35 ((xn_shl 1 (by omega)).trans (by rw [Nat.one_shiftLeft])) ?_
        refine lv_iconst (v := nI 1) hx hb d_M_mendSums_36 (by decide) ?_
        refine lx_isub (z := nI (2 ^ lr (wid M (nk kd) i) - 1)) hx hb d_M_mendSums_37 (pk_sub hp1) ?_
        refine lx_iand (z := nI (y >>> frm M (nk kd) i % 2 ^ lr (wid M (nk kd) i))) hx hb d_M_mendSums_38 ((xn_and _ _).trans (by rw [Nat.and_two_pow_sub_one_eq_mod])) ?_
        refine lv_istore (lv' := [(8, .int (nI (y >>> frm M (nk kd) i % 2 ^ lr (wid M (nk kd) i)))), (0, .ref mo), (1, .int (nI y)), (2, .long (lN wv)), (4, .int (nI cv)), (5, .int (nI t9)), (6, .int (nI a9)), (7, .int (nI i))]) hx hb d_M_mendSums_39 hl (by decide) rfl (fun ls hl => ?_)
        refine lv_aload_n hx hb d_M_mendSums_41 rfl (lv_at hl 1 rfl) ?_
        refine lv_iload hx hb d_M_mendSums_42 (lv_at hl 7 rfl) ?_
        refine lv_iload hx hb d_M_mendSums_44 (lv_at hl 0 rfl) ?_
        refine lc_Vi (b := mo) (As := [.int (nI i), .int (nI (y >>> frm M (nk kd) i % 2 ^ lr (wid M (nk kd) i)))]) (rest := []) ⟨hx, hb, hml, hown, hts⟩ (c_M_mend l D g _ wm mo wi ck fq co sq uq gq kd M ifo fl w9 c9 b9 th ch9 tu9 wo9 fw fc ff fco fsq fu fg hM0 hM i (y >>> frm M (nk kd) i % 2 ^ lr (wid M (nk kd) i)) hkd hmw hs9 c15 (Nat.mod_lt _ (by omega))) (kV 2 hts m_736 m_733 m_735 m_23 m_39 (by decide +kernel) ⟨Nat.le_of_ble_eq_true rfl, Nat.le_of_ble_eq_true rfl⟩) (va_recv hK hP (ci := 6) (q0 := 0) rfl rfl) hKK hP hD hS hA hl.1 rfl rfl (Nat.le_of_ble_eq_true rfl) d_M_mendSums_46 ⟨Nat.le_of_ble_eq_true rfl, Nat.le_of_ble_eq_true rfl⟩ (fun r1 u H locs e1 hP hD hS => ?_)
        have hP : va_P D vwCl ((mo, .inr (6, [.int (th), .int (nI M), .int (nI kd), .int (nI (ckb kd M)), .int (nI (nk kd)), .ref wi, .ref ck, .ref fq, .ref co, .int (nI (grsK kd M)), .int (nI ifo), .int (nI fl), .long (lN ((mdS M (nk kd) i (y >>> frm M (nk kd) i % 2 ^ lr (wid M (nk kd) i)) (w9, c9, b9)).2.1)), .int (nI ((mdS M (nk kd) i (y >>> frm M (nk kd) i % 2 ^ lr (wid M (nk kd) i)) (w9, c9, b9)).2.2.1)), .int (nI ((mdS M (nk kd) i (y >>> frm M (nk kd) i % 2 ^ lr (wid M (nk kd) i)) (w9, c9, b9)).2.2.2)), .long (wo9), .int (ch9), .int (tu9), .ref sq, .ref uq, .ref gq])) :: (wi, .inl (g 0, 4, .inl (fw))) :: (ck, .inl (g 0, 4, .inl (fc))) :: (fq, .inl (g 0, 4, .inl (ff))) :: (co, .inl (g 0, 228, .inl (fco))) :: (sq, .inl (g 0, 8, .inl (fsq))) :: (uq, .inl (g 2, 128, .inl (fu))) :: (gq, .inl (g 0, 7, .inl (fg))) :: wm) H := hP
        have hD : va_D A ((mo, .inr (6, [.int (th), .int (nI M), .int (nI kd), .int (nI (ckb kd M)), .int (nI (nk kd)), .ref wi, .ref ck, .ref fq, .ref co, .int (nI (grsK kd M)), .int (nI ifo), .int (nI fl), .long (lN ((mdS M (nk kd) i (y >>> frm M (nk kd) i % 2 ^ lr (wid M (nk kd) i)) (w9, c9, b9)).2.1)), .int (nI ((mdS M (nk kd) i (y >>> frm M (nk kd) i % 2 ^ lr (wid M (nk kd) i)) (w9, c9, b9)).2.2.1)), .int (nI ((mdS M (nk kd) i (y >>> frm M (nk kd) i % 2 ^ lr (wid M (nk kd) i)) (w9, c9, b9)).2.2.2)), .long (wo9), .int (ch9), .int (tu9), .ref sq, .ref uq, .ref gq])) :: (wi, .inl (g 0, 4, .inl (fw))) :: (ck, .inl (g 0, 4, .inl (fc))) :: (fq, .inl (g 0, 4, .inl (ff))) :: (co, .inl (g 0, 228, .inl (fco))) :: (sq, .inl (g 0, 8, .inl (fsq))) :: (uq, .inl (g 2, 128, .inl (fu))) :: (gq, .inl (g 0, 7, .inl (fg))) :: wm) := hD
        obtain rfl : r1 = nI (mdS M (nk kd) i (y >>> frm M (nk kd) i % 2 ^ lr (wid M (nk kd) i)) (w9, c9, b9)).1 := e1
        have ihi := ih
        have j85 : ∀ (z9 : Nat) (ls : Array Slot) (H : Heap) (locs : List Loc), (z9 = if a9 = 1 ∨ (mdS M (nk kd) i (y >>> frm M (nk kd) i % 2 ^ lr (wid M (nk kd) i)) (w9, c9, b9)).1 = 1 then 1 else 0) → lv_has ls 10 [(0, .ref mo), (1, .int (nI y)), (2, .long (lN wv)), (4, .int (nI cv)), (7, .int (nI i)), (5, .int (nI (if t9 = 1 ∨ (mdS M (nk kd) i (y >>> frm M (nk kd) i % 2 ^ lr (wid M (nk kd) i)) (w9, c9, b9)).1 = 2 then 1 else 0)))] → va_P D vwCl ((mo, .inr (6, [.int (th), .int (nI M), .int (nI kd), .int (nI (ckb kd M)), .int (nI (nk kd)), .ref wi, .ref ck, .ref fq, .ref co, .int (nI (grsK kd M)), .int (nI ifo), .int (nI fl), .long (lN ((mdS M (nk kd) i (y >>> frm M (nk kd) i % 2 ^ lr (wid M (nk kd) i)) (w9, c9, b9)).2.1)), .int (nI ((mdS M (nk kd) i (y >>> frm M (nk kd) i % 2 ^ lr (wid M (nk kd) i)) (w9, c9, b9)).2.2.1)), .int (nI ((mdS M (nk kd) i (y >>> frm M (nk kd) i % 2 ^ lr (wid M (nk kd) i)) (w9, c9, b9)).2.2.2)), .long (wo9), .int (ch9), .int (tu9), .ref sq, .ref uq, .ref gq])) :: (wi, .inl (g 0, 4, .inl (fw))) :: (ck, .inl (g 0, 4, .inl (fc))) :: (fq, .inl (g 0, 4, .inl (ff))) :: (co, .inl (g 0, 228, .inl (fco))) :: (sq, .inl (g 0, 8, .inl (fsq))) :: (uq, .inl (g 2, 128, .inl (fu))) :: (gq, .inl (g 0, 7, .inl (fg))) :: wm) H → va_D A ((mo, .inr (6, [.int (th), .int (nI M), .int (nI kd), .int (nI (ckb kd M)), .int (nI (nk kd)), .ref wi, .ref ck, .ref fq, .ref co, .int (nI (grsK kd M)), .int (nI ifo), .int (nI fl), .long (lN ((mdS M (nk kd) i (y >>> frm M (nk kd) i % 2 ^ lr (wid M (nk kd) i)) (w9, c9, b9)).2.1)), .int (nI ((mdS M (nk kd) i (y >>> frm M (nk kd) i % 2 ^ lr (wid M (nk kd) i)) (w9, c9, b9)).2.2.1)), .int (nI ((mdS M (nk kd) i (y >>> frm M (nk kd) i % 2 ^ lr (wid M (nk kd) i)) (w9, c9, b9)).2.2.2)), .long (wo9), .int (ch9), .int (tu9), .ref sq, .ref uq, .ref gq])) :: (wi, .inl (g 0, 4, .inl (fw))) :: (ck, .inl (g 0, 4, .inl (fc))) :: (fq, .inl (g 0, 4, .inl (ff))) :: (co, .inl (g 0, 228, .inl (fco))) :: (sq, .inl (g 0, 8, .inl (fsq))) :: (uq, .inl (g 2, 128, .inl (fu))) :: (gq, .inl (g 0, 7, .inl (fg))) :: wm) → va_S A s.heap H locs → W p l e (headSpec w_M_mendSums rm_M_mendSums).room s m [.ref mo, .int (nI y), .long (lN wv), .int (nI cv)].toArray below meth c H locs 0 0 Q (F0 m 85 ls [.int (nI z9)]) := by
          intro z9 ls H locs hz hl hP hD hS
          subst hz
          refine lv_istore (lv' := [(6, .int (nI (if a9 = 1 ∨ (mdS M (nk kd) i (y >>> frm M (nk kd) i % 2 ^ lr (wid M (nk kd) i)) (w9, c9, b9)).1 = 1 then 1 else 0))), (0, .ref mo), (1, .int (nI y)), (2, .long (lN wv)), (4, .int (nI cv)), (7, .int (nI i)), (5, .int (nI (if t9 = 1 ∨ (mdS M (nk kd) i (y >>> frm M (nk kd) i % 2 ^ lr (wid M (nk kd) i)) (w9, c9, b9)).1 = 2 then 1 else 0)))]) hx hb d_M_mendSums_85 hl (by decide) rfl (fun ls hl => ?_)
          refine lv_iinc (v := nI (i + 1)) (lv' := [(7, .int (nI (i + 1))), (6, .int (nI (if a9 = 1 ∨ (mdS M (nk kd) i (y >>> frm M (nk kd) i % 2 ^ lr (wid M (nk kd) i)) (w9, c9, b9)).1 = 1 then 1 else 0))), (0, .ref mo), (1, .int (nI y)), (2, .long (lN wv)), (4, .int (nI cv)), (5, .int (nI (if t9 = 1 ∨ (mdS M (nk kd) i (y >>> frm M (nk kd) i % 2 ^ lr (wid M (nk kd) i)) (w9, c9, b9)).1 = 2 then 1 else 0)))]) hx hb d_M_mendSums_87 hl (k := 5) rfl (nI_1 i) (by decide) rfl (fun ls hl => ?_)
          refine lv_goto (tgt := 9) hx hb d_M_mendSums_90 (by decide) ?_
          exact ihi (i + 1) _ _ _ _ _ _ _ _ (by omega) (by omega) (ite_01 _) (ite_01 _) hst (lv_sub hl [2, 3, 4, 5, 6, 1, 0] rfl) hP hD hS
        have j67 : ∀ (z9 : Nat) (ls : Array Slot) (H : Heap) (locs : List Loc), (z9 = if t9 = 1 ∨ (mdS M (nk kd) i (y >>> frm M (nk kd) i % 2 ^ lr (wid M (nk kd) i)) (w9, c9, b9)).1 = 2 then 1 else 0) → lv_has ls 10 [(0, .ref mo), (1, .int (nI y)), (2, .long (lN wv)), (4, .int (nI cv)), (7, .int (nI i)), (6, .int (nI a9)), (9, .int (nI (mdS M (nk kd) i (y >>> frm M (nk kd) i % 2 ^ lr (wid M (nk kd) i)) (w9, c9, b9)).1))] → va_P D vwCl ((mo, .inr (6, [.int (th), .int (nI M), .int (nI kd), .int (nI (ckb kd M)), .int (nI (nk kd)), .ref wi, .ref ck, .ref fq, .ref co, .int (nI (grsK kd M)), .int (nI ifo), .int (nI fl), .long (lN ((mdS M (nk kd) i (y >>> frm M (nk kd) i % 2 ^ lr (wid M (nk kd) i)) (w9, c9, b9)).2.1)), .int (nI ((mdS M (nk kd) i (y >>> frm M (nk kd) i % 2 ^ lr (wid M (nk kd) i)) (w9, c9, b9)).2.2.1)), .int (nI ((mdS M (nk kd) i (y >>> frm M (nk kd) i % 2 ^ lr (wid M (nk kd) i)) (w9, c9, b9)).2.2.2)), .long (wo9), .int (ch9), .int (tu9), .ref sq, .ref uq, .ref gq])) :: (wi, .inl (g 0, 4, .inl (fw))) :: (ck, .inl (g 0, 4, .inl (fc))) :: (fq, .inl (g 0, 4, .inl (ff))) :: (co, .inl (g 0, 228, .inl (fco))) :: (sq, .inl (g 0, 8, .inl (fsq))) :: (uq, .inl (g 2, 128, .inl (fu))) :: (gq, .inl (g 0, 7, .inl (fg))) :: wm) H → va_D A ((mo, .inr (6, [.int (th), .int (nI M), .int (nI kd), .int (nI (ckb kd M)), .int (nI (nk kd)), .ref wi, .ref ck, .ref fq, .ref co, .int (nI (grsK kd M)), .int (nI ifo), .int (nI fl), .long (lN ((mdS M (nk kd) i (y >>> frm M (nk kd) i % 2 ^ lr (wid M (nk kd) i)) (w9, c9, b9)).2.1)), .int (nI ((mdS M (nk kd) i (y >>> frm M (nk kd) i % 2 ^ lr (wid M (nk kd) i)) (w9, c9, b9)).2.2.1)), .int (nI ((mdS M (nk kd) i (y >>> frm M (nk kd) i % 2 ^ lr (wid M (nk kd) i)) (w9, c9, b9)).2.2.2)), .long (wo9), .int (ch9), .int (tu9), .ref sq, .ref uq, .ref gq])) :: (wi, .inl (g 0, 4, .inl (fw))) :: (ck, .inl (g 0, 4, .inl (fc))) :: (fq, .inl (g 0, 4, .inl (ff))) :: (co, .inl (g 0, 228, .inl (fco))) :: (sq, .inl (g 0, 8, .inl (fsq))) :: (uq, .inl (g 2, 128, .inl (fu))) :: (gq, .inl (g 0, 7, .inl (fg))) :: wm) → va_S A s.heap H locs → W p l e (headSpec w_M_mendSums rm_M_mendSums).room s m [.ref mo, .int (nI y), .long (lN wv), .int (nI cv)].toArray below meth c H locs 0 0 Q (F0 m 67 ls [.int (nI z9)]) := by
          intro z9 ls H locs hz hl hP hD hS
          subst hz
          refine lv_istore (lv' := [(5, .int (nI (if t9 = 1 ∨ (mdS M (nk kd) i (y >>> frm M (nk kd) i % 2 ^ lr (wid M (nk kd) i)) (w9, c9, b9)).1 = 2 then 1 else 0))), (0, .ref mo), (1, .int (nI y)), (2, .long (lN wv)), (4, .int (nI cv)), (7, .int (nI i)), (6, .int (nI a9)), (9, .int (nI (mdS M (nk kd) i (y >>> frm M (nk kd) i % 2 ^ lr (wid M (nk kd) i)) (w9, c9, b9)).1))]) hx hb d_M_mendSums_67 hl (by decide) rfl (fun ls hl => ?_)
          refine lv_iload hx hb d_M_mendSums_69 (lv_at hl 6 rfl) ?_
          refine lx_if_ne (tgt := 80) hx hb d_M_mendSums_71 (by decide) (by omega) (fun c71 => ?_) (fun c71 => ?_)
          · skip
            refine lv_iconst (v := nI 1) hx hb d_M_mendSums_80 (by decide) ?_
            refine lv_goto (tgt := 85) hx hb d_M_mendSums_81 (by decide) ?_
            exact j85 1 _ _ _ ((if_pos (Or.inl (by omega))).symm) (lv_sub hl [1, 2, 3, 4, 5, 0] rfl) hP hD hS
          · skip
            refine lv_iload hx hb d_M_mendSums_74 (lv_at hl 7 rfl) ?_
            refine lv_iconst (v := nI 1) hx hb d_M_mendSums_76 (by decide) ?_
            refine lx_icmp_ne (tgt := 84) hx hb d_M_mendSums_77 (by decide) (by omega) (by omega) (fun c77 => ?_) (fun c77 => ?_)
            · skip
              refine lv_iconst (v := nI 0) hx hb d_M_mendSums_84 (by decide) ?_
              exact j85 0 _ _ _ ((if_neg (by rintro (q | q); omega; exact c77 q)).symm) (lv_sub hl [1, 2, 3, 4, 5, 0] rfl) hP hD hS
            · skip
              refine lv_iconst (v := nI 1) hx hb d_M_mendSums_80 (by decide) ?_
              refine lv_goto (tgt := 85) hx hb d_M_mendSums_81 (by decide) ?_
              exact j85 1 _ _ _ ((if_pos (Or.inr c77)).symm) (lv_sub hl [1, 2, 3, 4, 5, 0] rfl) hP hD hS
        refine lv_istore (lv' := [(9, .int (nI (mdS M (nk kd) i (y >>> frm M (nk kd) i % 2 ^ lr (wid M (nk kd) i)) (w9, c9, b9)).1)), (8, .int (nI (y >>> frm M (nk kd) i % 2 ^ lr (wid M (nk kd) i)))), (0, .ref mo), (1, .int (nI y)), (2, .long (lN wv)), (4, .int (nI cv)), (5, .int (nI t9)), (6, .int (nI a9)), (7, .int (nI i))]) hx hb d_M_mendSums_49 hl (by decide) rfl (fun ls hl => ?_)
        refine lv_iload hx hb d_M_mendSums_51 (lv_at hl 6 rfl) ?_
        refine lx_if_ne (tgt := 62) hx hb d_M_mendSums_53 (by decide) (by omega) (fun c53 => ?_) (fun c53 => ?_)
        · skip
          refine lv_iconst (v := nI 1) hx hb d_M_mendSums_62 (by decide) ?_
          refine lv_goto (tgt := 67) hx hb d_M_mendSums_63 (by decide) ?_
          exact j67 1 _ _ _ ((if_pos (Or.inl (by omega))).symm) (lv_sub hl [2, 3, 4, 5, 8, 7, 0] rfl) hP hD hS
        · skip
          refine lv_iload hx hb d_M_mendSums_56 (lv_at hl 0 rfl) ?_
          refine lv_iconst (v := nI 2) hx hb d_M_mendSums_58 (by decide) ?_
          refine lx_icmp_ne (tgt := 66) hx hb d_M_mendSums_59 (by decide) (by omega) (by omega) (fun c59 => ?_) (fun c59 => ?_)
          · skip
            refine lv_iconst (v := nI 0) hx hb d_M_mendSums_66 (by decide) ?_
            exact j67 0 _ _ _ ((if_neg (by rintro (q | q); omega; exact c59 q)).symm) (lv_sub hl [2, 3, 4, 5, 8, 7, 0] rfl) hP hD hS
          · skip
            refine lv_iconst (v := nI 1) hx hb d_M_mendSums_62 (by decide) ?_
            refine lv_goto (tgt := 67) hx hb d_M_mendSums_63 (by decide) ?_
            exact j67 1 _ _ _ ((if_pos (Or.inr c59)).symm) (lv_sub hl [2, 3, 4, 5, 8, 7, 0] rfl) hP hD hS
  refine lv_iconst (v := nI 0) hx hb d_M_mendSums_0 (by decide) ?_
  refine lv_istore (lv' := [(5, .int (nI 0)), (0, .ref mo), (1, .int (nI y)), (2, .long (lN wv)), (4, .int (nI cv))]) hx hb d_M_mendSums_1 hl (by decide) rfl (fun ls hl => ?_)
  refine lv_iconst (v := nI 0) hx hb d_M_mendSums_3 (by decide) ?_
  refine lv_istore (lv' := [(6, .int (nI 0)), (5, .int (nI 0)), (0, .ref mo), (1, .int (nI y)), (2, .long (lN wv)), (4, .int (nI cv))]) hx hb d_M_mendSums_4 hl (by decide) rfl (fun ls hl => ?_)
  refine lv_iconst (v := nI 0) hx hb d_M_mendSums_6 (by decide) ?_
  refine lv_istore (lv' := [(7, .int (nI 0)), (6, .int (nI 0)), (5, .int (nI 0)), (0, .ref mo), (1, .int (nI y)), (2, .long (lN wv)), (4, .int (nI cv))]) hx hb d_M_mendSums_7 hl (by decide) rfl (fun ls hl => ?_)
  exact lp9 (nk kd + 1) 0 0 0 wv cv 0 _ _ _ (by omega) (by omega) (by decide) (by decide) (⟨rfl, rfl, (Nat.xor_zero wv).symm, (Nat.xor_zero cv).symm, by decide⟩) (lv_sub hl [3, 4, 5, 6, 2, 1, 0] rfl) hP hD hS
