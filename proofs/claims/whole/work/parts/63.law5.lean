set_option maxRecDepth 20000 in
theorem m_48 : Cond.classLink R_W 8 R_C ∈ wA := in_wA (List.mem_of_getElem? (i := 48) rfl) rfl
set_option maxRecDepth 20000 in
theorem m_307 : Cond.code y_W_cell b_W_cell 2 (some .int) ∈ wA := in_wA (List.mem_of_getElem? (i := 307) rfl) rfl
set_option maxRecDepth 20000 in
theorem m_305 : Cond.methodLink R_W 46 y_W_cell ∈ wA := in_wA (List.mem_of_getElem? (i := 305) rfl) rfl
set_option maxRecDepth 20000 in
theorem m_306 : Cond.static y_W_cell ∈ wA := in_wA (List.mem_of_getElem? (i := 306) rfl) rfl
set_option maxRecDepth 20000 in
theorem m_52 : Cond.code y_C_init b_C_init 3 none ∈ wA := in_wA (List.mem_of_getElem? (i := 52) rfl) rfl
set_option maxRecDepth 20000 in
theorem m_50 : Cond.methodLink R_W 52 y_C_init ∈ wA := in_wA (List.mem_of_getElem? (i := 50) rfl) rfl
set_option maxRecDepth 20000 in
theorem m_51 : Cond.instanceMethod y_C_init ∈ wA := in_wA (List.mem_of_getElem? (i := 51) rfl) rfl
set_option maxRecDepth 20000 in
theorem m_585 : Cond.classLink R_W 55 R_M ∈ wA := in_wA (List.mem_of_getElem? (i := 585) rfl) rfl
set_option maxRecDepth 20000 in
theorem m_589 : Cond.code y_M_init b_M_init 6 none ∈ wA := in_wA (List.mem_of_getElem? (i := 589) rfl) rfl
set_option maxRecDepth 20000 in
theorem m_587 : Cond.methodLink R_W 57 y_M_init ∈ wA := in_wA (List.mem_of_getElem? (i := 587) rfl) rfl
set_option maxRecDepth 20000 in
theorem m_588 : Cond.instanceMethod y_M_init ∈ wA := in_wA (List.mem_of_getElem? (i := 588) rfl) rfl
set_option maxRecDepth 20000 in
theorem m_804 : Cond.arrayClass .long ∈ wA := in_wA (List.mem_of_getElem? (i := 804) rfl) rfl
set_option maxHeartbeats 4000000 in
set_option maxRecDepth 100000 in
theorem c_C_init (l : Launch) (D : va_G) (g : Nat → ClassId) (sz : Nat) (wr : va_W) (o : Nat) (b0 k0 : Int32) (M kd : Nat) (hMd : M = mOf b0) (hkd : kdOf k0 = kd) : Met l y_C_init w_C_init rm_C_init (va_Pc [.ref o, .int (b0), .int (k0)] (pP D (tyl g) ((o, .inr (0, [.int (nI 0), .int (nI 0), .int (nI 0), .long (lN 0), .int (nI 0), .null, .null, .int (nI 0), .int (nI 0), .long (lN 0), .int (nI 0), .int (nI 0), .null, .int (nI 0), .int (nI 0), .null, .int (nI 0)])) :: wr) sz)) (va_Qv (fun (u : (Nat × Nat × Nat × Nat × va_W)) => CodeW g kd M u.2.2.2.1 u.2.2.2.2) (fun u => qB D (va_A ((o, .inr (0, [.int (nI 0), .int (nI 0), .int (nI 0), .long (lN 0), .int (nI 0), .null, .null, .int (nI 0), .int (nI 0), .long (lN 0), .int (nI 0), .int (nI 0), .null, .int (nI 0), .int (nI 0), .null, .int (nI 0)])) :: wr) sz) ((u.1, .inr (5, [.long (lN 0), .int (nI 0)])) :: (o, .inr (0, [.int (nI kd), .int (nI M), .int (nI (M + (ckb kd M))), .long (lN (2 ^ M - 1)), .int (nI (2 ^ (ckb kd M) - 1)), .ref u.2.2.2.1, .ref u.1, .int (nI 0), .int (nI 0), .long (lN 0), .int (nI 0), .int (nI 0), .ref u.2.1, .int (nI 0), .int ((-1)), .ref u.2.2.1, .int (nI 0)])) :: (u.2.1, .inl (g 0, 8, .inl (fun _ => nI 0))) :: (u.2.2.1, .inl (g 0, 8, .inl (fun _ => nI 0))) :: (u.2.2.2.2 ++ wr))) (va_A ((o, .inr (0, [.int (nI 0), .int (nI 0), .int (nI 0), .long (lN 0), .int (nI 0), .null, .null, .int (nI 0), .int (nI 0), .long (lN 0), .int (nI 0), .int (nI 0), .null, .int (nI 0), .int (nI 0), .null, .int (nI 0)])) :: wr) sz)) 23 884 (va_A ((o, .inr (0, [.int (nI 0), .int (nI 0), .int (nI 0), .long (lN 0), .int (nI 0), .null, .null, .int (nI 0), .int (nI 0), .long (lN 0), .int (nI 0), .int (nI 0), .null, .int (nI 0), .int (nI 0), .null, .int (nI 0)])) :: wr) sz) := by
  rcases kdOf_in k0 with q | q | q | q
  · obtain rfl : kd = 0 := hkd.symm.trans q
    exact c_C_init_0 l D g sz wr o b0 k0 M hMd hkd
  · obtain rfl : kd = 1 := hkd.symm.trans q
    exact c_C_init_1 l D g sz wr o b0 k0 M hMd hkd
  · obtain rfl : kd = 2 := hkd.symm.trans q
    exact c_C_init_2 l D g sz wr o b0 k0 M hMd hkd
  · obtain rfl : kd = 3 := hkd.symm.trans q
    exact c_C_init_3 l D g sz wr o b0 k0 M hMd hkd
set_option maxHeartbeats 4000000 in
set_option maxRecDepth 100000 in
theorem c_M_init (l : Launch) (D : va_G) (g : Nat → ClassId) (sz : Nat) (wm : va_W) (mo : Nat) (b0 k0 : Int32) (M kd : Nat) (hMd : M = mOf b0) (hkd : kdOf k0 = kd) : Met l y_M_init w_M_init rm_M_init (va_Pc [.ref mo, .int (b0), .int (k0)] (pP D (tyl g) ((mo, .inr (6, [.int (nI 0), .int (nI 0), .int (nI 0), .int (nI 0), .int (nI 0), .null, .null, .null, .null, .int (nI 0), .int (nI 0), .int (nI 0), .long (lN 0), .int (nI 0), .int (nI 0), .long (lN 0), .int (nI 0), .int (nI 0), .null, .null, .null])) :: wm) sz)) (va_Qv (fun (u : ((Nat → Nat) × (Nat → Nat → Int32))) => MWF kd M (u.2 0) (u.2 1) (u.2 2) (u.2 3)) (fun u => qB D (va_A ((mo, .inr (6, [.int (nI 0), .int (nI 0), .int (nI 0), .int (nI 0), .int (nI 0), .null, .null, .null, .null, .int (nI 0), .int (nI 0), .int (nI 0), .long (lN 0), .int (nI 0), .int (nI 0), .long (lN 0), .int (nI 0), .int (nI 0), .null, .null, .null])) :: wm) sz) ((mo, .inr (6, [.int (nI 0), .int (nI M), .int (nI kd), .int (nI (ckb kd M)), .int (nI (nk kd)), .ref (u.1 0), .ref (u.1 1), .ref (u.1 2), .ref (u.1 3), .int (nI (grsK kd M)), .int (nI 0), .int (nI 0), .long (lN 0), .int (nI 0), .int (nI 0), .long (lN 0), .int (nI 0), .int (nI 0), .ref (u.1 4), .ref (u.1 5), .ref (u.1 6)])) :: ((u.1 0), .inl (g 0, 4, .inl (u.2 0))) :: ((u.1 1), .inl (g 0, 4, .inl (u.2 1))) :: ((u.1 2), .inl (g 0, 4, .inl (u.2 2))) :: ((u.1 3), .inl (g 0, 228, .inl (u.2 3))) :: ((u.1 4), .inl (g 0, 8, .inl (fun _ => (-1)))) :: ((u.1 5), .inl (g 2, 128, .inl (u.2 4))) :: ((u.1 6), .inl (g 0, 7, .inl (u.2 5))) :: wm)) (va_A ((mo, .inr (6, [.int (nI 0), .int (nI 0), .int (nI 0), .int (nI 0), .int (nI 0), .null, .null, .null, .null, .int (nI 0), .int (nI 0), .int (nI 0), .long (lN 0), .int (nI 0), .int (nI 0), .long (lN 0), .int (nI 0), .int (nI 0), .null, .null, .null])) :: wm) sz)) 7 383 (va_A ((mo, .inr (6, [.int (nI 0), .int (nI 0), .int (nI 0), .int (nI 0), .int (nI 0), .null, .null, .null, .null, .int (nI 0), .int (nI 0), .int (nI 0), .long (lN 0), .int (nI 0), .int (nI 0), .long (lN 0), .int (nI 0), .int (nI 0), .null, .null, .null])) :: wm) sz) := by
  rcases kdOf_in k0 with q | q | q | q
  · obtain rfl : kd = 0 := hkd.symm.trans q
    exact c_M_init_0 l D g sz wm mo b0 k0 M hMd hkd
  · obtain rfl : kd = 1 := hkd.symm.trans q
    exact c_M_init_1 l D g sz wm mo b0 k0 M hMd hkd
  · obtain rfl : kd = 2 := hkd.symm.trans q
    exact c_M_init_2 l D g sz wm mo b0 k0 M hMd hkd
  · obtain rfl : kd = 3 := hkd.symm.trans q
    exact c_M_init_3 l D g sz wm mo b0 k0 M hMd hkd
set_option maxHeartbeats 4000000 in
set_option maxRecDepth 100000 in
theorem whole_start {p : Program} {e : Env} {s : State} {m : MethodId} {below : List Frame} {meth : Method} {c : Code} (l : Launch) (hlt : l.stackTraces = false) {b L : Nat} {scr : Nat → Int32} (hL : L ≤ 2050) (C0 : lw_At p s m meth c b L scr) : W p l e room_1 s m #[Value.ref b] below meth c s.heap [] 0 0 (lw_Z below #[Value.ref b] s) (entryFrame m ([Value.ref b] : List Value).toArray 7) := by
  obtain ⟨hx, hb, hr, hml, hown0, hts0, hX, hbl, hlocks, hgv⟩ := id C0
  have hts : ∀ w ∈ wA, w.before #[Value.ref b] s = true := fun w h => hts0 w (wA_tbl h)
  have hown : s.vm.findClass R_W = some m.cls := hown0
  obtain ⟨D, g, hKK⟩ := lw_pK hts0
  have hK := hKK.1
  have hTN : tK s ∧ va_Nc exU exI s := ⟨lw_tK hts0, lw_Nc hgv⟩
  have hTS := lw_tS hts0 hgv
  have hA : ∀ q : Nat, s.heap.size ≤ q → (fun q : Nat => s.heap.size ≤ q) q := fun _ h => h
  have hbA : ¬ (fun q : Nat => s.heap.size ≤ q) b := Nat.not_le.mpr hbl
  have hRc : room_1.cells = 601024 := rfl
  have hRs : room_1.slots = 7293000 := rfl
  obtain ⟨bb, hbb⟩ : ∃ v : Int32, v = if 0 < L then scr 0 else nI 0 := ⟨_, rfl⟩
  obtain ⟨kk, hkk⟩ : ∃ v : Int32, v = if 1 < L then scr 1 else nI 0 := ⟨_, rfl⟩
  obtain ⟨M, hMd⟩ : ∃ M, M = mOf bb := ⟨_, rfl⟩
  obtain ⟨kd, hkd0⟩ : ∃ k, kdOf kk = k := ⟨_, rfl⟩
  have hMi : 0 < M ∧ M ≤ 57 := by rw [hMd]; exact mOf_in bb
  have hkd : kd ≤ 3 := by have := kdOf_in kk; omega
  have hS : va_S (fun q : Nat => s.heap.size ≤ q) s.heap s.heap [] := va_S.rf
  have hP : va_P D vwCl [] s.heap := fun k q h => by simp at h
  have hD : va_D (fun q : Nat => s.heap.size ≤ q) [] := ⟨fun i j p q h => by simp at h, fun k q h => by simp at h⟩
  have hl := lv_entry ([.ref b]) (n := 7) (Nat.le_of_ble_eq_true rfl)
  rw [lg_entry_eq]
  generalize (lg_sl ([.ref b]) ++ List.replicate (7 - (lg_sl ([.ref b])).length) Slot.unset).toArray = ls at hl ⊢
  have hl : lv_has ls 7 [(0, .ref b)] := hl
  refine lx_new (ci := 0) (fs := [.int (nI 0), .int (nI 0), .int (nI 0), .long (lN 0), .int (nI 0), .null, .null, .int (nI 0), .int (nI 0), .long (lN 0), .int (nI 0), .int (nI 0), .null, .int (nI 0), .int (nI 0), .null, .int (nI 0)]) (C := R_C) (T := F_C) (N := 17) hx hb hts i_C tf_C tf_C_ok hown (hts _ m_48) (hts _ m_49) (hts _ m_30) hK hP hD hS hA rfl (by decide +kernel) (Nat.le_of_ble_eq_true rfl) (Nat.le_of_ble_eq_true rfl) d_W_law_0 (fun x H hP hD hS => ?_)
  refine W.widen (k := 1) (n := 17) (by omega) (by omega) ?_
  have hP : va_P D vwCl ([(x, .inr (0, [.int (nI 0), .int (nI 0), .int (nI 0), .long (lN 0), .int (nI 0), .null, .null, .int (nI 0), .int (nI 0), .long (lN 0), .int (nI 0), .int (nI 0), .null, .int (nI 0), .int (nI 0), .null, .int (nI 0)]))]) H := hP
  have hD : va_D (fun q : Nat => s.heap.size ≤ q) ([(x, .inr (0, [.int (nI 0), .int (nI 0), .int (nI 0), .long (lN 0), .int (nI 0), .null, .null, .int (nI 0), .int (nI 0), .long (lN 0), .int (nI 0), .int (nI 0), .null, .int (nI 0), .int (nI 0), .null, .int (nI 0)]))]) := hD
  refine lv_dup hx hb d_W_law_3 rfl ?_
  refine lv_aload_n hx hb d_W_law_4 rfl (lv_at hl 0 rfl) ?_
  refine lv_iconst (v := nI 0) hx hb d_W_law_5 (by decide) ?_
  refine lr_SX (As := [.ref b, .int (nI 0)]) (rest := [.ref x, .ref x]) ⟨hx, hb, hml, hown, hts⟩ (r_W_cell l _ b L 0 scr (by omega) (by decide) (Nat.lt_of_lt_of_le hbl hS.1)) (kS 2 hts m_307 m_305 m_306 m_29 (by decide +kernel) ⟨Nat.le_of_ble_eq_true rfl, Nat.le_of_ble_eq_true rfl⟩) hX hbl hbA hP hS hA hl.1 rfl rfl (Nat.le_of_ble_eq_true rfl) d_W_law_6 ⟨by omega, by omega⟩ (fun r1 H locs er1 hP hS => ?_)
  rw [er1.trans hbb.symm]
  refine lv_aload_n hx hb d_W_law_9 rfl (lv_at hl 0 rfl) ?_
  refine lv_iconst (v := nI 1) hx hb d_W_law_10 (by decide) ?_
  refine lr_SX (As := [.ref b, .int (nI 1)]) (rest := [.int (bb), .ref x, .ref x]) ⟨hx, hb, hml, hown, hts⟩ (r_W_cell l _ b L 1 scr (by omega) (by decide) (Nat.lt_of_lt_of_le hbl hS.1)) (kS 2 hts m_307 m_305 m_306 m_29 (by decide +kernel) ⟨Nat.le_of_ble_eq_true rfl, Nat.le_of_ble_eq_true rfl⟩) hX hbl hbA hP hS hA hl.1 rfl rfl (Nat.le_of_ble_eq_true rfl) d_W_law_11 ⟨by omega, by omega⟩ (fun r2 H locs er2 hP hS => ?_)
  rw [er2.trans hkk.symm]
  refine lc_Iv (b := x) (As := [.int (bb), .int (kk)]) (rest := [.ref x]) ⟨hx, hb, hml, hown, hts⟩ (c_C_init l D g _ [] x bb kk M kd hMd hkd0) (kI 2 hts m_52 m_50 m_51 m_30 rfl (by decide +kernel) ⟨Nat.le_of_ble_eq_true rfl, Nat.le_of_ble_eq_true rfl⟩) hKK hP hD hS hA hl.1 rfl rfl (Nat.le_of_ble_eq_true rfl) d_W_law_14 ⟨Nat.le_of_ble_eq_true rfl, Nat.le_of_ble_eq_true rfl⟩ (fun uc H locs hcw0 hP hD hS => ?_)
  refine W.widen (k := 1 + 23) (n := 17 + 884) (by omega) (by omega) ?_
  have hP : va_P D vwCl ((uc.1, .inr (5, [.long (lN 0), .int (nI 0)])) :: (x, .inr (0, [.int (nI kd), .int (nI M), .int (nI (M + (ckb kd M))), .long (lN (2 ^ M - 1)), .int (nI (2 ^ (ckb kd M) - 1)), .ref uc.2.2.2.1, .ref uc.1, .int (nI 0), .int (nI 0), .long (lN 0), .int (nI 0), .int (nI 0), .ref uc.2.1, .int (nI 0), .int ((-1)), .ref uc.2.2.1, .int (nI 0)])) :: (uc.2.1, .inl (g 0, 8, .inl (fun _ => nI 0))) :: (uc.2.2.1, .inl (g 0, 8, .inl (fun _ => nI 0))) :: (uc.2.2.2.2 ++ [])) H := hP
  have hD : va_D (fun q : Nat => s.heap.size ≤ q) ((uc.1, .inr (5, [.long (lN 0), .int (nI 0)])) :: (x, .inr (0, [.int (nI kd), .int (nI M), .int (nI (M + (ckb kd M))), .long (lN (2 ^ M - 1)), .int (nI (2 ^ (ckb kd M) - 1)), .ref uc.2.2.2.1, .ref uc.1, .int (nI 0), .int (nI 0), .long (lN 0), .int (nI 0), .int (nI 0), .ref uc.2.1, .int (nI 0), .int ((-1)), .ref uc.2.2.1, .int (nI 0)])) :: (uc.2.1, .inl (g 0, 8, .inl (fun _ => nI 0))) :: (uc.2.2.1, .inl (g 0, 8, .inl (fun _ => nI 0))) :: (uc.2.2.2.2 ++ [])) := hD
  refine lv_astore_n (lv' := [(1, .ref x), (0, .ref b)]) hx hb d_W_law_17 rfl hl (by decide) rfl (fun ls hl => ?_)
  refine lx_new (ci := 6) (fs := [.int (nI 0), .int (nI 0), .int (nI 0), .int (nI 0), .int (nI 0), .null, .null, .null, .null, .int (nI 0), .int (nI 0), .int (nI 0), .long (lN 0), .int (nI 0), .int (nI 0), .long (lN 0), .int (nI 0), .int (nI 0), .null, .null, .null]) (C := R_M) (T := F_M) (N := 21) hx hb hts i_M tf_M tf_M_ok hown (hts _ m_585) (hts _ m_586) (hts _ m_40) hK hP hD hS hA rfl (by decide +kernel) (by first | omega | exact Nat.le_of_ble_eq_true rfl) (by first | omega | exact Nat.le_of_ble_eq_true rfl) d_W_law_18 (fun mo H hP hD hS => ?_)
  refine W.widen (k := 1 + 23 + 1) (n := 17 + 884 + 21) (by omega) (by omega) ?_
  have hP : va_P D vwCl ((mo, .inr (6, [.int (nI 0), .int (nI 0), .int (nI 0), .int (nI 0), .int (nI 0), .null, .null, .null, .null, .int (nI 0), .int (nI 0), .int (nI 0), .long (lN 0), .int (nI 0), .int (nI 0), .long (lN 0), .int (nI 0), .int (nI 0), .null, .null, .null])) :: (uc.1, .inr (5, [.long (lN 0), .int (nI 0)])) :: (x, .inr (0, [.int (nI kd), .int (nI M), .int (nI (M + (ckb kd M))), .long (lN (2 ^ M - 1)), .int (nI (2 ^ (ckb kd M) - 1)), .ref uc.2.2.2.1, .ref uc.1, .int (nI 0), .int (nI 0), .long (lN 0), .int (nI 0), .int (nI 0), .ref uc.2.1, .int (nI 0), .int ((-1)), .ref uc.2.2.1, .int (nI 0)])) :: (uc.2.1, .inl (g 0, 8, .inl (fun _ => nI 0))) :: (uc.2.2.1, .inl (g 0, 8, .inl (fun _ => nI 0))) :: (uc.2.2.2.2 ++ [])) H := hP
  have hD : va_D (fun q : Nat => s.heap.size ≤ q) ((mo, .inr (6, [.int (nI 0), .int (nI 0), .int (nI 0), .int (nI 0), .int (nI 0), .null, .null, .null, .null, .int (nI 0), .int (nI 0), .int (nI 0), .long (lN 0), .int (nI 0), .int (nI 0), .long (lN 0), .int (nI 0), .int (nI 0), .null, .null, .null])) :: (uc.1, .inr (5, [.long (lN 0), .int (nI 0)])) :: (x, .inr (0, [.int (nI kd), .int (nI M), .int (nI (M + (ckb kd M))), .long (lN (2 ^ M - 1)), .int (nI (2 ^ (ckb kd M) - 1)), .ref uc.2.2.2.1, .ref uc.1, .int (nI 0), .int (nI 0), .long (lN 0), .int (nI 0), .int (nI 0), .ref uc.2.1, .int (nI 0), .int ((-1)), .ref uc.2.2.1, .int (nI 0)])) :: (uc.2.1, .inl (g 0, 8, .inl (fun _ => nI 0))) :: (uc.2.2.1, .inl (g 0, 8, .inl (fun _ => nI 0))) :: (uc.2.2.2.2 ++ [])) := hD
  refine lv_dup hx hb d_W_law_21 rfl ?_
  refine lv_aload_n hx hb d_W_law_22 rfl (lv_at hl 1 rfl) ?_
  refine lv_iconst (v := nI 0) hx hb d_W_law_23 (by decide) ?_
  refine lr_SX (As := [.ref b, .int (nI 0)]) (rest := [.ref mo, .ref mo]) ⟨hx, hb, hml, hown, hts⟩ (r_W_cell l _ b L 0 scr (by omega) (by decide) (Nat.lt_of_lt_of_le hbl hS.1)) (kS 2 hts m_307 m_305 m_306 m_29 (by decide +kernel) ⟨Nat.le_of_ble_eq_true rfl, Nat.le_of_ble_eq_true rfl⟩) hX hbl hbA hP hS hA hl.1 rfl rfl (Nat.le_of_ble_eq_true rfl) d_W_law_24 ⟨by omega, by omega⟩ (fun r3 H locs er3 hP hS => ?_)
  rw [er3.trans hbb.symm]
  refine lv_aload_n hx hb d_W_law_27 rfl (lv_at hl 1 rfl) ?_
  refine lv_iconst (v := nI 1) hx hb d_W_law_28 (by decide) ?_
  refine lr_SX (As := [.ref b, .int (nI 1)]) (rest := [.int (bb), .ref mo, .ref mo]) ⟨hx, hb, hml, hown, hts⟩ (r_W_cell l _ b L 1 scr (by omega) (by decide) (Nat.lt_of_lt_of_le hbl hS.1)) (kS 2 hts m_307 m_305 m_306 m_29 (by decide +kernel) ⟨Nat.le_of_ble_eq_true rfl, Nat.le_of_ble_eq_true rfl⟩) hX hbl hbA hP hS hA hl.1 rfl rfl (Nat.le_of_ble_eq_true rfl) d_W_law_29 ⟨by omega, by omega⟩ (fun r4 H locs er4 hP hS => ?_)
  rw [er4.trans hkk.symm]
  refine lc_Iv (b := mo) (As := [.int (bb), .int (kk)]) (rest := [.ref mo]) ⟨hx, hb, hml, hown, hts⟩ (c_M_init l D g _ _ mo bb kk M kd hMd hkd0) (kI 2 hts m_589 m_587 m_588 m_40 rfl (by decide +kernel) ⟨Nat.le_of_ble_eq_true rfl, Nat.le_of_ble_eq_true rfl⟩) hKK hP hD hS hA hl.1 rfl rfl (Nat.le_of_ble_eq_true rfl) d_W_law_32 ⟨by first | omega | exact Nat.le_of_ble_eq_true rfl, by first | omega | exact Nat.le_of_ble_eq_true rfl⟩ (fun um H locs hmw hP hD hS => ?_)
  refine W.widen (k := 1 + 23 + 1 + 7) (n := 17 + 884 + 21 + 383) (by omega) (by omega) ?_
  have hP : va_P D vwCl ((mo, .inr (6, [.int (nI 0), .int (nI M), .int (nI kd), .int (nI (ckb kd M)), .int (nI (nk kd)), .ref (um.1 0), .ref (um.1 1), .ref (um.1 2), .ref (um.1 3), .int (nI (grsK kd M)), .int (nI 0), .int (nI 0), .long (lN 0), .int (nI 0), .int (nI 0), .long (lN 0), .int (nI 0), .int (nI 0), .ref (um.1 4), .ref (um.1 5), .ref (um.1 6)])) :: ((um.1 0), .inl (g 0, 4, .inl (um.2 0))) :: ((um.1 1), .inl (g 0, 4, .inl (um.2 1))) :: ((um.1 2), .inl (g 0, 4, .inl (um.2 2))) :: ((um.1 3), .inl (g 0, 228, .inl (um.2 3))) :: ((um.1 4), .inl (g 0, 8, .inl (fun _ => (-1)))) :: ((um.1 5), .inl (g 2, 128, .inl (um.2 4))) :: ((um.1 6), .inl (g 0, 7, .inl (um.2 5))) :: (uc.1, .inr (5, [.long (lN 0), .int (nI 0)])) :: (x, .inr (0, [.int (nI kd), .int (nI M), .int (nI (M + (ckb kd M))), .long (lN (2 ^ M - 1)), .int (nI (2 ^ (ckb kd M) - 1)), .ref uc.2.2.2.1, .ref uc.1, .int (nI 0), .int (nI 0), .long (lN 0), .int (nI 0), .int (nI 0), .ref uc.2.1, .int (nI 0), .int ((-1)), .ref uc.2.2.1, .int (nI 0)])) :: (uc.2.1, .inl (g 0, 8, .inl (fun _ => nI 0))) :: (uc.2.2.1, .inl (g 0, 8, .inl (fun _ => nI 0))) :: (uc.2.2.2.2 ++ [])) H := hP
  have hD : va_D (fun q : Nat => s.heap.size ≤ q) ((mo, .inr (6, [.int (nI 0), .int (nI M), .int (nI kd), .int (nI (ckb kd M)), .int (nI (nk kd)), .ref (um.1 0), .ref (um.1 1), .ref (um.1 2), .ref (um.1 3), .int (nI (grsK kd M)), .int (nI 0), .int (nI 0), .long (lN 0), .int (nI 0), .int (nI 0), .long (lN 0), .int (nI 0), .int (nI 0), .ref (um.1 4), .ref (um.1 5), .ref (um.1 6)])) :: ((um.1 0), .inl (g 0, 4, .inl (um.2 0))) :: ((um.1 1), .inl (g 0, 4, .inl (um.2 1))) :: ((um.1 2), .inl (g 0, 4, .inl (um.2 2))) :: ((um.1 3), .inl (g 0, 228, .inl (um.2 3))) :: ((um.1 4), .inl (g 0, 8, .inl (fun _ => (-1)))) :: ((um.1 5), .inl (g 2, 128, .inl (um.2 4))) :: ((um.1 6), .inl (g 0, 7, .inl (um.2 5))) :: (uc.1, .inr (5, [.long (lN 0), .int (nI 0)])) :: (x, .inr (0, [.int (nI kd), .int (nI M), .int (nI (M + (ckb kd M))), .long (lN (2 ^ M - 1)), .int (nI (2 ^ (ckb kd M) - 1)), .ref uc.2.2.2.1, .ref uc.1, .int (nI 0), .int (nI 0), .long (lN 0), .int (nI 0), .int (nI 0), .ref uc.2.1, .int (nI 0), .int ((-1)), .ref uc.2.2.1, .int (nI 0)])) :: (uc.2.1, .inl (g 0, 8, .inl (fun _ => nI 0))) :: (uc.2.2.1, .inl (g 0, 8, .inl (fun _ => nI 0))) :: (uc.2.2.2.2 ++ [])) := hD
  refine lv_astore_n (lv' := [(2, .ref mo), (1, .ref x), (0, .ref b)]) hx hb d_W_law_35 rfl hl (by decide) rfl (fun ls hl => ?_)
  refine lv_iconst (v := nI 1) hx hb d_W_law_36 (by decide) ?_
  refine lx_newl (N := 1) hx hb (hts _ m_804) hK hP hD hS hA (by decide) (by first | omega | exact Nat.le_of_ble_eq_true rfl) (by first | omega | exact Nat.le_of_ble_eq_true rfl) d_W_law_37 (fun ou H hP hD hS => ?_)
  refine W.widen (k := 1 + 23 + 1 + 7 + 1) (n := 17 + 884 + 21 + 383 + 1) (by omega) (by omega) ?_
  have hP : va_P D vwCl ((ou, .inl (g 1, 1, .inr (.inl (fun _ => lN 0)))) :: (mo, .inr (6, [.int (nI 0), .int (nI M), .int (nI kd), .int (nI (ckb kd M)), .int (nI (nk kd)), .ref (um.1 0), .ref (um.1 1), .ref (um.1 2), .ref (um.1 3), .int (nI (grsK kd M)), .int (nI 0), .int (nI 0), .long (lN 0), .int (nI 0), .int (nI 0), .long (lN 0), .int (nI 0), .int (nI 0), .ref (um.1 4), .ref (um.1 5), .ref (um.1 6)])) :: ((um.1 0), .inl (g 0, 4, .inl (um.2 0))) :: ((um.1 1), .inl (g 0, 4, .inl (um.2 1))) :: ((um.1 2), .inl (g 0, 4, .inl (um.2 2))) :: ((um.1 3), .inl (g 0, 228, .inl (um.2 3))) :: ((um.1 4), .inl (g 0, 8, .inl (fun _ => (-1)))) :: ((um.1 5), .inl (g 2, 128, .inl (um.2 4))) :: ((um.1 6), .inl (g 0, 7, .inl (um.2 5))) :: (uc.1, .inr (5, [.long (lN 0), .int (nI 0)])) :: (x, .inr (0, [.int (nI kd), .int (nI M), .int (nI (M + (ckb kd M))), .long (lN (2 ^ M - 1)), .int (nI (2 ^ (ckb kd M) - 1)), .ref uc.2.2.2.1, .ref uc.1, .int (nI 0), .int (nI 0), .long (lN 0), .int (nI 0), .int (nI 0), .ref uc.2.1, .int (nI 0), .int ((-1)), .ref uc.2.2.1, .int (nI 0)])) :: (uc.2.1, .inl (g 0, 8, .inl (fun _ => nI 0))) :: (uc.2.2.1, .inl (g 0, 8, .inl (fun _ => nI 0))) :: (uc.2.2.2.2 ++ [])) H := hP
  have hD : va_D (fun q : Nat => s.heap.size ≤ q) ((ou, .inl (g 1, 1, .inr (.inl (fun _ => lN 0)))) :: (mo, .inr (6, [.int (nI 0), .int (nI M), .int (nI kd), .int (nI (ckb kd M)), .int (nI (nk kd)), .ref (um.1 0), .ref (um.1 1), .ref (um.1 2), .ref (um.1 3), .int (nI (grsK kd M)), .int (nI 0), .int (nI 0), .long (lN 0), .int (nI 0), .int (nI 0), .long (lN 0), .int (nI 0), .int (nI 0), .ref (um.1 4), .ref (um.1 5), .ref (um.1 6)])) :: ((um.1 0), .inl (g 0, 4, .inl (um.2 0))) :: ((um.1 1), .inl (g 0, 4, .inl (um.2 1))) :: ((um.1 2), .inl (g 0, 4, .inl (um.2 2))) :: ((um.1 3), .inl (g 0, 228, .inl (um.2 3))) :: ((um.1 4), .inl (g 0, 8, .inl (fun _ => (-1)))) :: ((um.1 5), .inl (g 2, 128, .inl (um.2 4))) :: ((um.1 6), .inl (g 0, 7, .inl (um.2 5))) :: (uc.1, .inr (5, [.long (lN 0), .int (nI 0)])) :: (x, .inr (0, [.int (nI kd), .int (nI M), .int (nI (M + (ckb kd M))), .long (lN (2 ^ M - 1)), .int (nI (2 ^ (ckb kd M) - 1)), .ref uc.2.2.2.1, .ref uc.1, .int (nI 0), .int (nI 0), .long (lN 0), .int (nI 0), .int (nI 0), .ref uc.2.1, .int (nI 0), .int ((-1)), .ref uc.2.2.1, .int (nI 0)])) :: (uc.2.1, .inl (g 0, 8, .inl (fun _ => nI 0))) :: (uc.2.2.1, .inl (g 0, 8, .inl (fun _ => nI 0))) :: (uc.2.2.2.2 ++ [])) := hD
  refine lv_astore_n (lv' := [(3, .ref ou), (2, .ref mo), (1, .ref x), (0, .ref b)]) hx hb d_W_law_39 rfl hl (by decide) rfl (fun ls hl => ?_)
  refine lv_iconst (v := nI 2) hx hb d_W_law_40 (by decide) ?_
  refine lv_istore (lv' := [(4, .int (nI 2)), (3, .ref ou), (2, .ref mo), (1, .ref x), (0, .ref b)]) hx hb d_W_law_41 hl (by decide) rfl (fun ls hl => ?_)
  have hP : va_P D vwCl ((uc.1, .inr (5, [.long (lN 0), .int (nI 0)])) :: (x, .inr (0, [.int (nI kd), .int (nI M), .int (nI (M + (ckb kd M))), .long (lN (2 ^ M - 1)), .int (nI (2 ^ (ckb kd M) - 1)), .ref uc.2.2.2.1, .ref uc.1, .int (nI 0), .int (nI 0), .long (lN 0), .int (nI 0), .int (nI 0), .ref uc.2.1, .int (nI 0), .int ((-1)), .ref uc.2.2.1, .int (nI 0)])) :: (uc.2.1, .inl (g 0, 8, .inl (fun _ => nI 0))) :: (uc.2.2.1, .inl (g 0, 8, .inl (fun _ => nI 0))) :: (ou, .inl (g 1, 1, .inr (.inl (fun _ => lN 0)))) :: (mo, .inr (6, [.int (nI 0), .int (nI M), .int (nI kd), .int (nI (ckb kd M)), .int (nI (nk kd)), .ref (um.1 0), .ref (um.1 1), .ref (um.1 2), .ref (um.1 3), .int (nI (grsK kd M)), .int (nI 0), .int (nI 0), .long (lN 0), .int (nI 0), .int (nI 0), .long (lN 0), .int (nI 0), .int (nI 0), .ref (um.1 4), .ref (um.1 5), .ref (um.1 6)])) :: ((um.1 0), .inl (g 0, 4, .inl (um.2 0))) :: ((um.1 1), .inl (g 0, 4, .inl (um.2 1))) :: ((um.1 2), .inl (g 0, 4, .inl (um.2 2))) :: ((um.1 3), .inl (g 0, 228, .inl (um.2 3))) :: ((um.1 4), .inl (g 0, 8, .inl (fun _ => (-1)))) :: ((um.1 5), .inl (g 2, 128, .inl (um.2 4))) :: ((um.1 6), .inl (g 0, 7, .inl (um.2 5))) :: (uc.2.2.2.2 ++ [])) H := wp_swap [(ou, .inl (g 1, 1, .inr (.inl (fun _ => lN 0)))), (mo, .inr (6, [.int (nI 0), .int (nI M), .int (nI kd), .int (nI (ckb kd M)), .int (nI (nk kd)), .ref (um.1 0), .ref (um.1 1), .ref (um.1 2), .ref (um.1 3), .int (nI (grsK kd M)), .int (nI 0), .int (nI 0), .long (lN 0), .int (nI 0), .int (nI 0), .long (lN 0), .int (nI 0), .int (nI 0), .ref (um.1 4), .ref (um.1 5), .ref (um.1 6)])), ((um.1 0), .inl (g 0, 4, .inl (um.2 0))), ((um.1 1), .inl (g 0, 4, .inl (um.2 1))), ((um.1 2), .inl (g 0, 4, .inl (um.2 2))), ((um.1 3), .inl (g 0, 228, .inl (um.2 3))), ((um.1 4), .inl (g 0, 8, .inl (fun _ => (-1)))), ((um.1 5), .inl (g 2, 128, .inl (um.2 4))), ((um.1 6), .inl (g 0, 7, .inl (um.2 5)))] [(uc.1, .inr (5, [.long (lN 0), .int (nI 0)])), (x, .inr (0, [.int (nI kd), .int (nI M), .int (nI (M + (ckb kd M))), .long (lN (2 ^ M - 1)), .int (nI (2 ^ (ckb kd M) - 1)), .ref uc.2.2.2.1, .ref uc.1, .int (nI 0), .int (nI 0), .long (lN 0), .int (nI 0), .int (nI 0), .ref uc.2.1, .int (nI 0), .int ((-1)), .ref uc.2.2.1, .int (nI 0)])), (uc.2.1, .inl (g 0, 8, .inl (fun _ => nI 0))), (uc.2.2.1, .inl (g 0, 8, .inl (fun _ => nI 0)))] hP
  have hD : va_D (fun q : Nat => s.heap.size ≤ q) ((uc.1, .inr (5, [.long (lN 0), .int (nI 0)])) :: (x, .inr (0, [.int (nI kd), .int (nI M), .int (nI (M + (ckb kd M))), .long (lN (2 ^ M - 1)), .int (nI (2 ^ (ckb kd M) - 1)), .ref uc.2.2.2.1, .ref uc.1, .int (nI 0), .int (nI 0), .long (lN 0), .int (nI 0), .int (nI 0), .ref uc.2.1, .int (nI 0), .int ((-1)), .ref uc.2.2.1, .int (nI 0)])) :: (uc.2.1, .inl (g 0, 8, .inl (fun _ => nI 0))) :: (uc.2.2.1, .inl (g 0, 8, .inl (fun _ => nI 0))) :: (ou, .inl (g 1, 1, .inr (.inl (fun _ => lN 0)))) :: (mo, .inr (6, [.int (nI 0), .int (nI M), .int (nI kd), .int (nI (ckb kd M)), .int (nI (nk kd)), .ref (um.1 0), .ref (um.1 1), .ref (um.1 2), .ref (um.1 3), .int (nI (grsK kd M)), .int (nI 0), .int (nI 0), .long (lN 0), .int (nI 0), .int (nI 0), .long (lN 0), .int (nI 0), .int (nI 0), .ref (um.1 4), .ref (um.1 5), .ref (um.1 6)])) :: ((um.1 0), .inl (g 0, 4, .inl (um.2 0))) :: ((um.1 1), .inl (g 0, 4, .inl (um.2 1))) :: ((um.1 2), .inl (g 0, 4, .inl (um.2 2))) :: ((um.1 3), .inl (g 0, 228, .inl (um.2 3))) :: ((um.1 4), .inl (g 0, 8, .inl (fun _ => (-1)))) :: ((um.1 5), .inl (g 2, 128, .inl (um.2 4))) :: ((um.1 6), .inl (g 0, 7, .inl (um.2 5))) :: (uc.2.2.2.2 ++ [])) := wd_swap [(ou, .inl (g 1, 1, .inr (.inl (fun _ => lN 0)))), (mo, .inr (6, [.int (nI 0), .int (nI M), .int (nI kd), .int (nI (ckb kd M)), .int (nI (nk kd)), .ref (um.1 0), .ref (um.1 1), .ref (um.1 2), .ref (um.1 3), .int (nI (grsK kd M)), .int (nI 0), .int (nI 0), .long (lN 0), .int (nI 0), .int (nI 0), .long (lN 0), .int (nI 0), .int (nI 0), .ref (um.1 4), .ref (um.1 5), .ref (um.1 6)])), ((um.1 0), .inl (g 0, 4, .inl (um.2 0))), ((um.1 1), .inl (g 0, 4, .inl (um.2 1))), ((um.1 2), .inl (g 0, 4, .inl (um.2 2))), ((um.1 3), .inl (g 0, 228, .inl (um.2 3))), ((um.1 4), .inl (g 0, 8, .inl (fun _ => (-1)))), ((um.1 5), .inl (g 2, 128, .inl (um.2 4))), ((um.1 6), .inl (g 0, 7, .inl (um.2 5)))] [(uc.1, .inr (5, [.long (lN 0), .int (nI 0)])), (x, .inr (0, [.int (nI kd), .int (nI M), .int (nI (M + (ckb kd M))), .long (lN (2 ^ M - 1)), .int (nI (2 ^ (ckb kd M) - 1)), .ref uc.2.2.2.1, .ref uc.1, .int (nI 0), .int (nI 0), .long (lN 0), .int (nI 0), .int (nI 0), .ref uc.2.1, .int (nI 0), .int ((-1)), .ref uc.2.2.1, .int (nI 0)])), (uc.2.1, .inl (g 0, 8, .inl (fun _ => nI 0))), (uc.2.2.1, .inl (g 0, 8, .inl (fun _ => nI 0)))] hD
  refine W.widen (k := 33) (n := 1306) (by omega) (by omega) ?_
  have hcw : CodeW g kd M uc.2.2.2.1 (uc.2.2.2.2 ++ []) := by rw [List.append_nil]; exact hcw0
  have C9 : lw_C p l s m meth c D g b L scr kd M uc.2.2.2.1 (uc.2.2.2.2 ++ []) (um.2 0) (um.2 1) (um.2 2) (um.2 3) := ⟨hlt, C0, hKK, hTN, hTS, ⟨hMi.1, hMi.2, hkd, hmw, hcw⟩, hL⟩
  exact lw_loop (x := x) (tn := uc.1) (ac := uc.2.1) (sp := uc.2.2.1) (ou := ou) (mo := mo) (wi := um.1 0) (ck := um.1 1) (fq := um.1 2) (co := um.1 3) (sq := um.1 4) (uq := um.1 5) (gq := um.1 6) (fu := um.2 4) (fg := um.2 5) C9 (L + 5) 2 33 1306 (by omega) (by omega) (by omega) (by omega) 0 0 0 0 0 0 0 (lN 0) (lN 0) (nI 0) (-1) (nI 0) (nI 0) (nI 0) (fun _ => nI 0) (fun _ => nI 0) (fun _ => -1) (fun _ => lN 0) _ _ _ ⟨by decide, Nat.two_pow_pos _, Or.inl ⟨rfl, rfl⟩, Or.inl rfl, SPK.init _⟩ (lv_sub hl [4, 3, 2, 1, 0] rfl) hP hD hS
set_option maxHeartbeats 4000000 in
theorem lw_walk (l : Launch) (hlt : l.stackTraces = false) (b : Addr) (xs : List Int32) : MetFree l x (headSpec (Jvm.Cond.code x code maxLocals ret :: tables_1) room_1) (lw_P b xs) (fun _ _ _ _ _ => True) lw_Q := by
  refine MetFree.of_bodyS (code := code) (maxLocals := maxLocals) (ret := ret) (by decide) ?_ ?_
  · intro args s m h hn
    obtain ⟨meth, c, h1, h2, h3, h4, h5, h6, -, -⟩ := Cond.code_spec hn (atoms_spec (ws := Jvm.Cond.code x code maxLocals ret :: tables_1) h _ List.mem_cons_self)
    exact ⟨meth, c, h1, h2, h3, h4, h5, h6⟩
  · intro p e s m args below meth c s₁ B hml0 hP _
    obtain ⟨rfl, hx, hbd, hgv⟩ := hP
    obtain ⟨scr, harrAt, hlist, hof, hsmall⟩ := hx
    obtain ⟨hcb, hkn, -, -⟩ := State.arrayAt?_spec harrAt
    have hown : s.vm.findClass R_law = some m.cls := findClass_of_methodNamed B.named
    have hts0 : ∀ c ∈ (Jvm.Cond.code x code maxLocals ret :: tables_1), c.before #[Value.ref b] s = true := atoms_spec (ws := Jvm.Cond.code x code maxLocals ret :: tables_1) B.pre
    have hts : ∀ w ∈ lw_tbl, w.before #[Value.ref b] s = true := k2_hts_sels lw_privs (fun w hw => hts0 w (List.mem_cons_of_mem _ hw)) lw_privs_ok
    have hml : c.maxLocals = 7 := B.maxLocals_eq (hts0 _ List.mem_cons_self)
    have X₀ : Stand p l e room_1 s m #[Value.ref b] below meth c s₁ [] 0 0 := Stand.of_body B
    have hh0 : s₁.heap = s.heap := by rw [B.state]; rfl
    have hsz : scr.slots.size = xs.length := by rw [← Array.length_toList, hlist, List.length_map]
    have hval : ∀ j : Nat, j < xs.length → scr.slots[j]? = some (.int (xs.getD j 0)) := fun j hj => by
      rw [← Array.getElem?_toList, hlist]
      simp [hj]
    have hbl : b < s.heap.size := (Array.getElem?_eq_some_iff.mp hcb).1
    have hX : va_X b xs.length (fun j => xs.getD j 0) s s.heap := ⟨scr, hcb, hof, hkn, hsz, hval⟩
    have K : W p l e room_1 s m #[Value.ref b] below meth c s₁.heap [] 0 0 (lw_Z below #[Value.ref b] s) (entryFrame m ([Value.ref b] : List Value).toArray 7) := by
      rw [hh0]
      exact whole_start l hlt hbd ⟨B.exec, B.bytes, B.returns, hml, hown, hts, hX, hbl, B.notSynchronized, hgv⟩
    obtain ⟨t, a1, o, b1, b2, b3⟩ := K s₁ rfl X₀
    exact ⟨t, o, a1, b1, b2, b3⟩
theorem lw_pre_spec {args : Array Value} {s : State} (h : (Jvm.Cond.and given_1 narrow_1).before args s = true) (hr : rest_1_c.before args s = true) : ∃ (b : Addr) (xs : List Int32), lw_P b xs args s := by
  have hs := flat_of_before _ h
  have hq := flat_of_before _ hr
  have hc : (Cond.count 1).before args s = true := hs _ (by decide +kernel)
  have harr : (Cond.arrayOf (.arg 0) .int).before args s = true := hs _ (by decide +kernel)
  have hle : (Cond.le (.length (.arg 0)) (.int 2050)).before args s = true := hs _ (by decide +kernel)
  have hlen : (Cond.isInt (.length (.arg 0))).before args s = true := hq _ (by decide +kernel)
  have hall : (Cond.all (.arg 0) (.isInt (.elem (.arg 0) (.index 0)))).before args s = true := hq _ (by decide +kernel)
  obtain ⟨b, xs, hb, hx⟩ := State.ints_of_pre rfl harr hlen hall
  have hsm : xs.length < 2 ^ 31 := hx.choose_spec.2.2.2
  have hev : (Term.length (.arg 0)).eval args s none [] s = some (.int xs.length.toInt32) := hx.length_eval hb
  have hv := Cond.le_ints hev (show (Term.int 2050).eval args s none [] s = some (.int 2050) from rfl)
  have hd : xs.length.toInt32 ≤ 2050 := by
    simpa [Cond.before, Cond.holds, hv] using hle
  have hN : xs.length ≤ 2050 := (Int32.ofNat_le_ofNat hsm (by decide)).mp (show Int32.ofNat xs.length ≤ Int32.ofNat 2050 from hd)
  exact ⟨b, xs, Cond.one_arg hc (show args[0]? = some (.ref b) from hb), hx, hN, h⟩
theorem lw_comes (l : Launch) (hlt : l.stackTraces = false) : Comes l x (Jvm.Cond.code x code maxLocals ret :: tables_1) room_1 (fun tb e args s => Calls_1 tb e args s ∧ rest_1 tb e args s ∧ Pre_1 tb e args s)
    (fun _ _ args s o t => lw_Q args s o t) := by
  intro p e ha hc hk s m args below hf hfit hheap happ hpre
  obtain ⟨b, xs, hP⟩ := lw_pre_spec hpre.2.2 hpre.2.1
  obtain ⟨k, o, h1, h2, h3, hQ⟩ := lw_walk l hlt b xs p e ha hc hk s m args below hf ((Spec.applies_iff_loose hf).mp happ).1 hP trivial
  exact ⟨k, o, h1, h2, h3, hQ⟩
theorem lw_frame {s t : State} {o : Outcome} {args : Array Value} (h : Framed s o t [] 601024 7293000) :
    Framed s o t (fieldLocs frame_1_writes args s ++ arrayLocs frame_1_arrays args s ++ staticLocs frame_1_statics s) 601024 7293000 := h
theorem lw_limb (L : Cond) (hL : ∀ (args : Array Value) (s t : State), L.after args s (.returned (some (.int 1))) t = true) :
    ArmFor flags0 classFile x code maxLocals ret World_1 tables_1 room_1 Calls_1 rest_1 Pre_1
      (fun tb e a s o t => postC L tb e a s o t ∧ Framed s o t (fieldLocs frame_1_writes a s ++ arrayLocs frame_1_arrays a s ++ staticLocs frame_1_statics s) 601024 7293000) := by
  intro l hfl0 _ _ p e ha hc hk s m args below hf hfit hheap happ hpre
  obtain ⟨k, o, h1, h2, h3, rfl, hF⟩ := lw_comes l (by unfold Launch.stackTraces; rw [hfl0]; decide +kernel) p e ha hc hk s m args below hf hfit hheap happ hpre
  exact ⟨k, _, h1, h2, h3, hL args s _, lw_frame hF⟩
theorem i_vc : Claimed_1_1 ∧ Claimed_1_2 := ⟨lw_limb limb_1_1 (fun args s t => by simp [limb_1_1, Cond.after, Cond.holds, Cond.value]), lw_limb limb_1_2 (fun args s t => Cond.after_iff.mpr (by
  first | (rw [show limb_1_2 = Cond.eq .result (.int 1) from rfl, Cond.eq_ints (x := 1) (y := 1) rfl rfl]; simp; done) | (simp [limb_1_2, Cond.value, Term.eval]; done)))⟩

