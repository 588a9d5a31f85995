set_option maxRecDepth 20000 in
theorem m_292 : Cond.code y_K_sumOf b_K_sumOf 7 (some .int) ∈ wA := in_wA (List.mem_of_getElem? (i := 292) rfl) rfl
set_option maxRecDepth 20000 in
theorem m_287 : Cond.instanceMethod y_K_sumOf ∈ wA := in_wA (List.mem_of_getElem? (i := 287) rfl) rfl
set_option maxRecDepth 20000 in
theorem m_286 : Cond.methodLink R_C 99 y_K_sumOf ∈ wA := in_wA (List.mem_of_getElem? (i := 286) rfl) rfl
set_option maxRecDepth 20000 in
theorem m_288 : Cond.sameMethod R_K R_K "sumOf" "(J)I" ∈ wA := in_wA (List.mem_of_getElem? (i := 288) rfl) rfl
set_option maxRecDepth 20000 in
theorem m_291 : Cond.selects R_S y_K_sumOf y_K_sumOf ∈ wA := in_wA (List.mem_of_getElem? (i := 291) rfl) rfl
set_option maxRecDepth 20000 in
theorem m_290 : Cond.selects R_P y_K_sumOf y_K_sumOf ∈ wA := in_wA (List.mem_of_getElem? (i := 290) rfl) rfl
set_option maxRecDepth 20000 in
theorem m_289 : Cond.selects R_N y_K_sumOf y_K_sumOf ∈ wA := in_wA (List.mem_of_getElem? (i := 289) rfl) rfl
set_option maxRecDepth 20000 in
theorem m_501 : Cond.code y_K_markOf b_K_markOf 2 (some .int) ∈ wA := in_wA (List.mem_of_getElem? (i := 501) rfl) rfl
set_option maxRecDepth 20000 in
theorem m_496 : Cond.instanceMethod y_K_markOf ∈ wA := in_wA (List.mem_of_getElem? (i := 496) rfl) rfl
set_option maxRecDepth 20000 in
theorem m_495 : Cond.methodLink R_C 200 y_K_markOf ∈ wA := in_wA (List.mem_of_getElem? (i := 495) rfl) rfl
set_option maxRecDepth 20000 in
theorem m_497 : Cond.sameMethod R_K R_K "markOf" "(I)I" ∈ wA := in_wA (List.mem_of_getElem? (i := 497) rfl) rfl
set_option maxRecDepth 20000 in
theorem m_500 : Cond.selects R_S y_K_markOf y_K_markOf ∈ wA := in_wA (List.mem_of_getElem? (i := 500) rfl) rfl
set_option maxRecDepth 20000 in
theorem m_499 : Cond.selects R_P y_K_markOf y_K_markOf ∈ wA := in_wA (List.mem_of_getElem? (i := 499) rfl) rfl
set_option maxRecDepth 20000 in
theorem m_498 : Cond.selects R_N y_K_markOf y_K_markOf ∈ wA := in_wA (List.mem_of_getElem? (i := 498) rfl) rfl
set_option maxRecDepth 20000 in
theorem m_466 : Cond.code y_S_judge b_S_judge 10 (some .int) ∈ wA := in_wA (List.mem_of_getElem? (i := 466) rfl) rfl
set_option maxRecDepth 20000 in
theorem m_446 : Cond.methodLink R_C 108 y_K_judge ∈ wA := in_wA (List.mem_of_getElem? (i := 446) rfl) rfl
set_option maxRecDepth 20000 in
theorem m_448 : Cond.sameMethod R_K R_K "judge" "(ILCheckCodes$Turn;)I" ∈ wA := in_wA (List.mem_of_getElem? (i := 448) rfl) rfl
set_option maxRecDepth 20000 in
theorem m_464 : Cond.selects R_S y_K_judge y_S_judge ∈ wA := in_wA (List.mem_of_getElem? (i := 464) rfl) rfl
set_option maxRecDepth 20000 in
theorem m_465 : Cond.instanceMethod y_S_judge ∈ wA := in_wA (List.mem_of_getElem? (i := 465) rfl) rfl
set_option maxRecDepth 20000 in
theorem m_462 : Cond.code y_P_judge b_P_judge 3 (some .int) ∈ wA := in_wA (List.mem_of_getElem? (i := 462) rfl) rfl
set_option maxRecDepth 20000 in
theorem m_460 : Cond.selects R_P y_K_judge y_P_judge ∈ wA := in_wA (List.mem_of_getElem? (i := 460) rfl) rfl
set_option maxRecDepth 20000 in
theorem m_461 : Cond.instanceMethod y_P_judge ∈ wA := in_wA (List.mem_of_getElem? (i := 461) rfl) rfl
set_option maxRecDepth 20000 in
theorem m_451 : Cond.code y_N_judge b_N_judge 6 (some .int) ∈ wA := in_wA (List.mem_of_getElem? (i := 451) rfl) rfl
set_option maxRecDepth 20000 in
theorem m_449 : Cond.selects R_N y_K_judge y_N_judge ∈ wA := in_wA (List.mem_of_getElem? (i := 449) rfl) rfl
set_option maxRecDepth 20000 in
theorem m_450 : Cond.instanceMethod y_N_judge ∈ wA := in_wA (List.mem_of_getElem? (i := 450) rfl) rfl
set_option maxRecDepth 20000 in
theorem m_408 : Cond.code y_S_columnOf b_S_columnOf 2 (some .int) ∈ wA := in_wA (List.mem_of_getElem? (i := 408) rfl) rfl
set_option maxRecDepth 20000 in
theorem m_402 : Cond.instanceMethod y_K_columnOf ∈ wA := in_wA (List.mem_of_getElem? (i := 402) rfl) rfl
set_option maxRecDepth 20000 in
theorem m_409 : Cond.code y_K_columnOf b_K_columnOf 2 (some .int) ∈ wA := in_wA (List.mem_of_getElem? (i := 409) rfl) rfl
set_option maxRecDepth 20000 in
theorem m_401 : Cond.methodLink R_C 83 y_K_columnOf ∈ wA := in_wA (List.mem_of_getElem? (i := 401) rfl) rfl
set_option maxRecDepth 20000 in
theorem m_403 : Cond.sameMethod R_K R_K "columnOf" "(I)I" ∈ wA := in_wA (List.mem_of_getElem? (i := 403) rfl) rfl
set_option maxRecDepth 20000 in
theorem m_406 : Cond.selects R_S y_K_columnOf y_S_columnOf ∈ wA := in_wA (List.mem_of_getElem? (i := 406) rfl) rfl
set_option maxRecDepth 20000 in
theorem m_407 : Cond.instanceMethod y_S_columnOf ∈ wA := in_wA (List.mem_of_getElem? (i := 407) rfl) rfl
set_option maxRecDepth 20000 in
theorem m_405 : Cond.selects R_P y_K_columnOf y_K_columnOf ∈ wA := in_wA (List.mem_of_getElem? (i := 405) rfl) rfl
set_option maxRecDepth 20000 in
theorem m_269 : Cond.code y_S_greatestRowSum b_S_greatestRowSum 6 (some .int) ∈ wA := in_wA (List.mem_of_getElem? (i := 269) rfl) rfl
set_option maxRecDepth 20000 in
theorem m_263 : Cond.instanceMethod y_K_greatestRowSum ∈ wA := in_wA (List.mem_of_getElem? (i := 263) rfl) rfl
set_option maxRecDepth 20000 in
theorem m_277 : Cond.code y_K_greatestRowSum b_K_greatestRowSum 1 (some .int) ∈ wA := in_wA (List.mem_of_getElem? (i := 277) rfl) rfl
set_option maxRecDepth 20000 in
theorem m_262 : Cond.methodLink R_C 67 y_K_greatestRowSum ∈ wA := in_wA (List.mem_of_getElem? (i := 262) rfl) rfl
set_option maxRecDepth 20000 in
theorem m_264 : Cond.sameMethod R_K R_K "greatestRowSum" "()I" ∈ wA := in_wA (List.mem_of_getElem? (i := 264) rfl) rfl
set_option maxRecDepth 20000 in
theorem m_267 : Cond.selects R_S y_K_greatestRowSum y_S_greatestRowSum ∈ wA := in_wA (List.mem_of_getElem? (i := 267) rfl) rfl
set_option maxRecDepth 20000 in
theorem m_268 : Cond.instanceMethod y_S_greatestRowSum ∈ wA := in_wA (List.mem_of_getElem? (i := 268) rfl) rfl
set_option maxRecDepth 20000 in
theorem m_266 : Cond.selects R_P y_K_greatestRowSum y_K_greatestRowSum ∈ wA := in_wA (List.mem_of_getElem? (i := 266) rfl) rfl
set_option maxRecDepth 20000 in
theorem m_265 : Cond.selects R_N y_K_greatestRowSum y_K_greatestRowSum ∈ wA := in_wA (List.mem_of_getElem? (i := 265) rfl) rfl
section LU
variable {p : Program} {l : Launch} {e : Env} {R : Room} {s : State} {m : MethodId} {args : Array Value} {below : List Frame} {meth : Method} {c : Code} {H : Heap} {locs : List Loc} {cells slots : Nat} {Q : State → Prop}
variable {cc : ByteArray} {pc nL : Nat} {ls : Array Slot} {rest : List Value} {D : va_G} {g : Nat → ClassId} {A0 : Nat → Prop} {H0 : Heap}
theorem lu_sumOf {ws : va_W} {kd M oc x : Nat} (hcw : CodeW g kd M oc ws) (hM : M ≤ 57) (hx9 : x < 2 ^ 64) (hx : p.tables.exec = Jvm.exec) (hb : c.code = cc) (hml : c.maxLocals = nL) (hown : s.vm.findClass R_C = some m.cls) (hts : ∀ w ∈ wA, w.before args s = true) (hKK : pK D (tyl g) s) (hP : va_P D vwCl ws H) (hD : va_D A0 ws) (hS : va_S A0 H0 H locs) (hA : ∀ q, H0.size ≤ q → A0 q) (hsz : ls.size = nL) (hw : (rest.map fun v => v.category).sum ≤ 8) (hc : cells ≤ R.cells) (hs : slots ≤ R.slots) (hRf : 1 ≤ R.frames) (hRl : 26 ≤ R.locals) (hd : decode cc pc = .ok (.invokevirtual 99, 3))
    (kk : ∀ (H1 : Heap) (locs1 : List Loc), va_P D vwCl ws H1 → va_D A0 ws → va_S A0 H0 H1 locs1 → W p l e R s m args below meth c H1 locs1 cells slots Q (F0 m (pc + 3) ls (.int (nI (xs (mrk kd M) x M)) :: rest))) : W p l e R s m args below meth c H locs cells slots Q (F0 m pc ls (.long (lN x) :: .ref oc :: rest)) := by
  have hK := hKK.1
  rcases hcw with ⟨rfl, hcw⟩ | ⟨rfl, hcw⟩ | ⟨rfl, hcw⟩ | ⟨rfl, hcw⟩
  · obtain ⟨k0, k1, am, kl, al, lf, kL, kc, kr, kb, la, ca, ra, ba9, h0, h1, ql, qf, qL, qc, qr, qb⟩ := hcw
    refine lc_Ui (b := oc) (As := [.long (lN x)]) (rest := rest) ⟨hx, hb, hml, hown, hts⟩ (c_K_sumOf_S l D g _ ws k0 k1 oc am _ _ al M (mkS M 1) x h0 h1 (by omega) hx9) (kU (owner := "CheckCodes$Code") 1 hts m_292 m_286 m_288 (va_Decl.of (hts _ m_287) (hts _ m_292)) m_291 m_287 m_32 (by decide +kernel) ⟨Nat.le_trans (Nat.le_of_ble_eq_true rfl) hRf, Nat.le_trans (Nat.le_of_ble_eq_true rfl) hRl⟩) (va_recv hK hP (ci := 1) (q0 := k0) rfl h0) hKK hP hD hS hA hsz rfl rfl hw hd ⟨hc, hs⟩ (fun r1 u H locs hr hP hD hS => ?_)
    obtain rfl : r1 = nI (xs (mrk 0 M) x M) := hr
    exact kk _ _ hP hD hS
  · obtain ⟨k0, k1, am, h0, h1⟩ := hcw
    refine lc_Ui (b := oc) (As := [.long (lN x)]) (rest := rest) ⟨hx, hb, hml, hown, hts⟩ (c_K_sumOf_P l D g _ ws k0 k1 oc am _ _ M (fun j => if j < M then mkP (min M 4) j else 0) x h0 h1 (by omega) hx9) (kU (owner := "CheckCodes$Code") 1 hts m_292 m_286 m_288 (va_Decl.of (hts _ m_287) (hts _ m_292)) m_290 m_287 m_32 (by decide +kernel) ⟨Nat.le_trans (Nat.le_of_ble_eq_true rfl) hRf, Nat.le_trans (Nat.le_of_ble_eq_true rfl) hRl⟩) (va_recv hK hP (ci := 2) (q0 := k0) rfl h0) hKK hP hD hS hA hsz rfl rfl hw hd ⟨hc, hs⟩ (fun r1 u H locs hr hP hD hS => ?_)
    obtain rfl : r1 = nI (xs (mrk 1 M) x M) := hr
    exact kk _ _ hP hD hS
  · obtain ⟨k0, k1, am, h0, h1⟩ := hcw
    refine lc_Ui (b := oc) (As := [.long (lN x)]) (rest := rest) ⟨hx, hb, hml, hown, hts⟩ (c_K_sumOf_N l D g _ ws k0 k1 oc am _ _ M (fun j => if j < M then mkN j else 0) x h0 h1 (by omega) hx9) (kU (owner := "CheckCodes$Code") 1 hts m_292 m_286 m_288 (va_Decl.of (hts _ m_287) (hts _ m_292)) m_289 m_287 m_32 (by decide +kernel) ⟨Nat.le_trans (Nat.le_of_ble_eq_true rfl) hRf, Nat.le_trans (Nat.le_of_ble_eq_true rfl) hRl⟩) (va_recv hK hP (ci := 3) (q0 := k0) rfl h0) hKK hP hD hS hA hsz rfl rfl hw hd ⟨hc, hs⟩ (fun r1 u H locs hr hP hD hS => ?_)
    obtain rfl : r1 = nI (xs (mrk 2 M) x M) := hr
    exact kk _ _ hP hD hS
  · obtain ⟨k0, k1, am, kl, al, lf, kL, kc, kr, kb, la, ca, ra, ba9, h0, h1, ql, qf, qL, qc, qr, qb⟩ := hcw
    refine lc_Ui (b := oc) (As := [.long (lN x)]) (rest := rest) ⟨hx, hb, hml, hown, hts⟩ (c_K_sumOf_S l D g _ ws k0 k1 oc am _ _ al M (mkS M 4) x h0 h1 (by omega) hx9) (kU (owner := "CheckCodes$Code") 1 hts m_292 m_286 m_288 (va_Decl.of (hts _ m_287) (hts _ m_292)) m_291 m_287 m_32 (by decide +kernel) ⟨Nat.le_trans (Nat.le_of_ble_eq_true rfl) hRf, Nat.le_trans (Nat.le_of_ble_eq_true rfl) hRl⟩) (va_recv hK hP (ci := 1) (q0 := k0) rfl h0) hKK hP hD hS hA hsz rfl rfl hw hd ⟨hc, hs⟩ (fun r1 u H locs hr hP hD hS => ?_)
    obtain rfl : r1 = nI (xs (mrk 3 M) x M) := hr
    exact kk _ _ hP hD hS
theorem lu_markOf {ws : va_W} {kd M oc j : Nat} (hcw : CodeW g kd M oc ws) (hM : M ≤ 57) (hj : j < M + 28) (hx : p.tables.exec = Jvm.exec) (hb : c.code = cc) (hml : c.maxLocals = nL) (hown : s.vm.findClass R_C = some m.cls) (hts : ∀ w ∈ wA, w.before args s = true) (hKK : pK D (tyl g) s) (hP : va_P D vwCl ws H) (hD : va_D A0 ws) (hS : va_S A0 H0 H locs) (hA : ∀ q, H0.size ≤ q → A0 q) (hsz : ls.size = nL) (hw : (rest.map fun v => v.category).sum ≤ 8) (hc : cells ≤ R.cells) (hs : slots ≤ R.slots) (hRf : 1 ≤ R.frames) (hRl : 21 ≤ R.locals) (hd : decode cc pc = .ok (.invokevirtual 200, 3))
    (kk : ∀ (H1 : Heap) (locs1 : List Loc), va_P D vwCl ws H1 → va_D A0 ws → va_S A0 H0 H1 locs1 → W p l e R s m args below meth c H1 locs1 cells slots Q (F0 m (pc + 3) ls (.int (nI (mka kd M j)) :: rest))) : W p l e R s m args below meth c H locs cells slots Q (F0 m pc ls (.int (nI j) :: .ref oc :: rest)) := by
  have hK := hKK.1
  rcases hcw with ⟨rfl, hcw⟩ | ⟨rfl, hcw⟩ | ⟨rfl, hcw⟩ | ⟨rfl, hcw⟩
  · obtain ⟨k0, k1, am, kl, al, lf, kL, kc, kr, kb, la, ca, ra, ba9, h0, h1, ql, qf, qL, qc, qr, qb⟩ := hcw
    refine lc_Ui (b := oc) (As := [.int (nI j)]) (rest := rest) ⟨hx, hb, hml, hown, hts⟩ (c_K_markOf_S l D g _ ws k0 k1 oc am _ al M (mkS M 1) j h0 h1 (by omega) hj) (kU (owner := "CheckCodes$Code") 1 hts m_501 m_495 m_497 (va_Decl.of (hts _ m_496) (hts _ m_501)) m_500 m_496 m_32 (by decide +kernel) ⟨Nat.le_trans (Nat.le_of_ble_eq_true rfl) hRf, Nat.le_trans (Nat.le_of_ble_eq_true rfl) hRl⟩) (va_recv hK hP (ci := 1) (q0 := k0) rfl h0) hKK hP hD hS hA hsz rfl rfl hw hd ⟨hc, hs⟩ (fun r1 u H locs hr hP hD hS => ?_)
    obtain rfl : r1 = nI (mka 0 M j) := hr
    exact kk _ _ hP hD hS
  · obtain ⟨k0, k1, am, h0, h1⟩ := hcw
    refine lc_Ui (b := oc) (As := [.int (nI j)]) (rest := rest) ⟨hx, hb, hml, hown, hts⟩ (c_K_markOf_P l D g _ ws k0 k1 oc am _ M (fun j => if j < M then mkP (min M 4) j else 0) j h0 h1 (by omega) hj) (kU (owner := "CheckCodes$Code") 1 hts m_501 m_495 m_497 (va_Decl.of (hts _ m_496) (hts _ m_501)) m_499 m_496 m_32 (by decide +kernel) ⟨Nat.le_trans (Nat.le_of_ble_eq_true rfl) hRf, Nat.le_trans (Nat.le_of_ble_eq_true rfl) hRl⟩) (va_recv hK hP (ci := 2) (q0 := k0) rfl h0) hKK hP hD hS hA hsz rfl rfl hw hd ⟨hc, hs⟩ (fun r1 u H locs hr hP hD hS => ?_)
    obtain rfl : r1 = nI (mka 1 M j) := hr
    exact kk _ _ hP hD hS
  · obtain ⟨k0, k1, am, h0, h1⟩ := hcw
    refine lc_Ui (b := oc) (As := [.int (nI j)]) (rest := rest) ⟨hx, hb, hml, hown, hts⟩ (c_K_markOf_N l D g _ ws k0 k1 oc am _ M (fun j => if j < M then mkN j else 0) j h0 h1 (by omega) hj) (kU (owner := "CheckCodes$Code") 1 hts m_501 m_495 m_497 (va_Decl.of (hts _ m_496) (hts _ m_501)) m_498 m_496 m_32 (by decide +kernel) ⟨Nat.le_trans (Nat.le_of_ble_eq_true rfl) hRf, Nat.le_trans (Nat.le_of_ble_eq_true rfl) hRl⟩) (va_recv hK hP (ci := 3) (q0 := k0) rfl h0) hKK hP hD hS hA hsz rfl rfl hw hd ⟨hc, hs⟩ (fun r1 u H locs hr hP hD hS => ?_)
    obtain rfl : r1 = nI (mka 2 M j) := hr
    exact kk _ _ hP hD hS
  · obtain ⟨k0, k1, am, kl, al, lf, kL, kc, kr, kb, la, ca, ra, ba9, h0, h1, ql, qf, qL, qc, qr, qb⟩ := hcw
    refine lc_Ui (b := oc) (As := [.int (nI j)]) (rest := rest) ⟨hx, hb, hml, hown, hts⟩ (c_K_markOf_S l D g _ ws k0 k1 oc am _ al M (mkS M 4) j h0 h1 (by omega) hj) (kU (owner := "CheckCodes$Code") 1 hts m_501 m_495 m_497 (va_Decl.of (hts _ m_496) (hts _ m_501)) m_500 m_496 m_32 (by decide +kernel) ⟨Nat.le_trans (Nat.le_of_ble_eq_true rfl) hRf, Nat.le_trans (Nat.le_of_ble_eq_true rfl) hRl⟩) (va_recv hK hP (ci := 1) (q0 := k0) rfl h0) hKK hP hD hS hA hsz rfl rfl hw hd ⟨hc, hs⟩ (fun r1 u H locs hr hP hD hS => ?_)
    obtain rfl : r1 = nI (mka 3 M j) := hr
    exact kk _ _ hP hD hS
theorem lu_judge {wr : va_W} {kd M oc tn y : Nat} {a0 : Int64} {b0 : Int32} (hcw : CodeW g kd M oc wr) (hM : M ≤ 57) (hy : y < 2 ^ ckb kd M) (hx : p.tables.exec = Jvm.exec) (hb : c.code = cc) (hml : c.maxLocals = nL) (hown : s.vm.findClass R_C = some m.cls) (hts : ∀ w ∈ wA, w.before args s = true) (hKK : pK D (tyl g) s) (hP : va_P D vwCl ((tn, .inr (5, [.long a0, .int b0])) :: wr) H) (hD : va_D A0 ((tn, .inr (5, [.long a0, .int b0])) :: wr)) (hS : va_S A0 H0 H locs) (hA : ∀ q, H0.size ≤ q → A0 q) (hsz : ls.size = nL) (hw : (rest.map fun v => v.category).sum ≤ 8) (hc : cells ≤ R.cells) (hs : slots ≤ R.slots) (hRf : 3 ≤ R.frames) (hRl : 74 ≤ R.locals) (hd : decode cc pc = .ok (.invokevirtual 108, 3))
    (kk : ∀ (H1 : Heap) (locs1 : List Loc), va_P D vwCl ((tn, .inr (5, [.long (lN (jd kd M y).2.1), .int (nI (jd kd M y).2.2)])) :: wr) H1 → va_D A0 ((tn, .inr (5, [.long (lN (jd kd M y).2.1), .int (nI (jd kd M y).2.2)])) :: wr) → va_S A0 H0 H1 locs1 → W p l e R s m args below meth c H1 locs1 cells slots Q (F0 m (pc + 3) ls (.int (nI (jd kd M y).1) :: rest))) : W p l e R s m args below meth c H locs cells slots Q (F0 m pc ls (.ref tn :: .int (nI y) :: .ref oc :: rest)) := by
  have hK := hKK.1
  have hpw := ckb_pow kd M
  rcases hcw with ⟨rfl, hcw⟩ | ⟨rfl, hcw⟩ | ⟨rfl, hcw⟩ | ⟨rfl, hcw⟩
  · obtain ⟨k0, k1, am, kl, al, lf, kL, kc, kr, kb, la, ca, ra, ba9, h0, h1, ql, qf, qL, qc, qr, qb⟩ := hcw
    refine lc_Ui (b := oc) (As := [.int (nI y), .ref tn]) (rest := rest) ⟨hx, hb, hml, hown, hts⟩ (c_S_judge l D g _ wr M 1 tn y a0 b0 hM (by decide) kl al lf kL kc kr kb la ca ra ba9 ql qf qL qc qb k0 oc am _ h0 (by omega)) (kU (owner := "CheckCodes$Code") 2 hts m_466 m_446 m_448 (va_Decl.abs hKK.2.2.2) m_464 m_465 m_33 (by decide +kernel) ⟨Nat.le_trans (Nat.le_of_ble_eq_true rfl) hRf, Nat.le_trans (Nat.le_of_ble_eq_true rfl) hRl⟩) (va_recv hK hP (ci := 1) (q0 := (k0 + 1)) rfl h0) hKK hP hD hS hA hsz rfl rfl hw hd ⟨hc, hs⟩ (fun r1 u H locs hr hP hD hS => ?_)
    obtain rfl : r1 = nI (jd 0 M y).1 := hr
    exact kk _ _ hP hD hS
  · obtain ⟨k0, k1, am, h0, h1⟩ := hcw
    refine lc_Ui (b := oc) (As := [.int (nI y), .ref tn]) (rest := rest) ⟨hx, hb, hml, hown, hts⟩ (c_P_judge l D g _ wr oc tn y a0 b0 (by omega)) (kU (owner := "CheckCodes$Code") 2 hts m_462 m_446 m_448 (va_Decl.abs hKK.2.2.2) m_460 m_461 m_37 (by decide +kernel) ⟨Nat.le_trans (Nat.le_of_ble_eq_true rfl) hRf, Nat.le_trans (Nat.le_of_ble_eq_true rfl) hRl⟩) (va_recv hK hP (ci := 2) (q0 := (k0 + 1)) rfl h0) hKK hP hD hS hA hsz rfl rfl hw hd ⟨hc, hs⟩ (fun r1 u H locs hr hP hD hS => ?_)
    obtain rfl : r1 = nI (jd 1 M y).1 := hr
    exact kk _ _ hP hD hS
  · obtain ⟨k0, k1, am, h0, h1⟩ := hcw
    have hy4 : y < 4096 := hy
    refine lc_Ui (b := oc) (As := [.int (nI y), .ref tn]) (rest := rest) ⟨hx, hb, hml, hown, hts⟩ (c_N_judge l D g _ wr k0 oc tn am M y _ a0 b0 h0 hM hy4) (kU (owner := "CheckCodes$Code") 2 hts m_451 m_446 m_448 (va_Decl.abs hKK.2.2.2) m_449 m_450 m_38 (by decide +kernel) ⟨Nat.le_trans (Nat.le_of_ble_eq_true rfl) hRf, Nat.le_trans (Nat.le_of_ble_eq_true rfl) hRl⟩) (va_recv hK hP (ci := 3) (q0 := (k0 + 1)) rfl h0) hKK hP hD hS hA hsz rfl rfl hw hd ⟨hc, hs⟩ (fun r1 u H locs hr hP hD hS => ?_)
    obtain rfl : r1 = nI (jd 2 M y).1 := hr
    exact kk _ _ hP hD hS
  · obtain ⟨k0, k1, am, kl, al, lf, kL, kc, kr, kb, la, ca, ra, ba9, h0, h1, ql, qf, qL, qc, qr, qb⟩ := hcw
    refine lc_Ui (b := oc) (As := [.int (nI y), .ref tn]) (rest := rest) ⟨hx, hb, hml, hown, hts⟩ (c_S_judge l D g _ wr M 4 tn y a0 b0 hM (by decide) kl al lf kL kc kr kb la ca ra ba9 ql qf qL qc qb k0 oc am _ h0 (by omega)) (kU (owner := "CheckCodes$Code") 2 hts m_466 m_446 m_448 (va_Decl.abs hKK.2.2.2) m_464 m_465 m_33 (by decide +kernel) ⟨Nat.le_trans (Nat.le_of_ble_eq_true rfl) hRf, Nat.le_trans (Nat.le_of_ble_eq_true rfl) hRl⟩) (va_recv hK hP (ci := 1) (q0 := (k0 + 1)) rfl h0) hKK hP hD hS hA hsz rfl rfl hw hd ⟨hc, hs⟩ (fun r1 u H locs hr hP hD hS => ?_)
    obtain rfl : r1 = nI (jd 3 M y).1 := hr
    exact kk _ _ hP hD hS
theorem lu_columnOf {ws : va_W} {kd M oc j : Nat} (hcw : CodeW g kd M oc ws) (hk2 : kd ≠ 2) (hM : M ≤ 57) (hj : j < M) (hx : p.tables.exec = Jvm.exec) (hb : c.code = cc) (hml : c.maxLocals = nL) (hown : s.vm.findClass R_C = some m.cls) (hts : ∀ w ∈ wA, w.before args s = true) (hKK : pK D (tyl g) s) (hP : va_P D vwCl ws H) (hD : va_D A0 ws) (hS : va_S A0 H0 H locs) (hA : ∀ q, H0.size ≤ q → A0 q) (hsz : ls.size = nL) (hw : (rest.map fun v => v.category).sum ≤ 8) (hc : cells ≤ R.cells) (hs : slots ≤ R.slots) (hRf : 2 ≤ R.frames) (hRl : 42 ≤ R.locals) (hd : decode cc pc = .ok (.invokevirtual 83, 3))
    (kk : ∀ (H1 : Heap) (locs1 : List Loc), va_P D vwCl ws H1 → va_D A0 ws → va_S A0 H0 H1 locs1 → W p l e R s m args below meth c H1 locs1 cells slots Q (F0 m (pc + 3) ls (.int (nI (colK kd M j)) :: rest))) : W p l e R s m args below meth c H locs cells slots Q (F0 m pc ls (.int (nI j) :: .ref oc :: rest)) := by
  have hK := hKK.1
  rcases hcw with ⟨rfl, hcw⟩ | ⟨rfl, hcw⟩ | ⟨rfl, hcw⟩ | ⟨rfl, hcw⟩
  · obtain ⟨k0, k1, am, kl, al, lf, kL, kc, kr, kb, la, ca, ra, ba9, h0, h1, ql, qf, qL, qc, qr, qb⟩ := hcw
    refine lc_Ui (b := oc) (As := [.int (nI j)]) (rest := rest) ⟨hx, hb, hml, hown, hts⟩ (c_S_columnOf l D g _ ws M 1 j hM (by decide) kl al lf kL kc kr kb la ca ra ba9 ql qf qL qc k0 oc am _ h0 hj) (kU (owner := "CheckCodes$Code") 1 hts m_408 m_401 m_403 (va_Decl.of (hts _ m_402) (hts _ m_409)) m_406 m_407 m_33 (by decide +kernel) ⟨Nat.le_trans (Nat.le_of_ble_eq_true rfl) hRf, Nat.le_trans (Nat.le_of_ble_eq_true rfl) hRl⟩) (va_recv hK hP (ci := 1) (q0 := k0) rfl h0) hKK hP hD hS hA hsz rfl rfl hw hd ⟨hc, hs⟩ (fun r1 u H locs hr hP hD hS => ?_)
    obtain rfl : r1 = nI (colK 0 M j) := hr
    exact kk _ _ hP hD hS
  · obtain ⟨k0, k1, am, h0, h1⟩ := hcw
    refine lc_Ui (b := oc) (As := [.int (nI j)]) (rest := rest) ⟨hx, hb, hml, hown, hts⟩ (c_K_columnOf_P l D g _ ws k0 k1 oc am M j _ _ (fun j => if j < M then mkP (min M 4) j else 0) h0 h1 hM hj) (kU (owner := "CheckCodes$Code") 1 hts m_409 m_401 m_403 (va_Decl.of (hts _ m_402) (hts _ m_409)) m_405 m_402 m_32 (by decide +kernel) ⟨Nat.le_trans (Nat.le_of_ble_eq_true rfl) hRf, Nat.le_trans (Nat.le_of_ble_eq_true rfl) hRl⟩) (va_recv hK hP (ci := 2) (q0 := k0) rfl h0) hKK hP hD hS hA hsz rfl rfl hw hd ⟨hc, hs⟩ (fun r1 u H locs hr hP hD hS => ?_)
    obtain rfl : r1 = nI (colK 1 M j) := hr.trans (by rw [if_pos hj]; rfl)
    exact kk _ _ hP hD hS
  · exact absurd rfl hk2
  · obtain ⟨k0, k1, am, kl, al, lf, kL, kc, kr, kb, la, ca, ra, ba9, h0, h1, ql, qf, qL, qc, qr, qb⟩ := hcw
    refine lc_Ui (b := oc) (As := [.int (nI j)]) (rest := rest) ⟨hx, hb, hml, hown, hts⟩ (c_S_columnOf l D g _ ws M 4 j hM (by decide) kl al lf kL kc kr kb la ca ra ba9 ql qf qL qc k0 oc am _ h0 hj) (kU (owner := "CheckCodes$Code") 1 hts m_408 m_401 m_403 (va_Decl.of (hts _ m_402) (hts _ m_409)) m_406 m_407 m_33 (by decide +kernel) ⟨Nat.le_trans (Nat.le_of_ble_eq_true rfl) hRf, Nat.le_trans (Nat.le_of_ble_eq_true rfl) hRl⟩) (va_recv hK hP (ci := 1) (q0 := k0) rfl h0) hKK hP hD hS hA hsz rfl rfl hw hd ⟨hc, hs⟩ (fun r1 u H locs hr hP hD hS => ?_)
    obtain rfl : r1 = nI (colK 3 M j) := hr
    exact kk _ _ hP hD hS
theorem lu_greatestRowSum {ws : va_W} {kd M oc : Nat} (hcw : CodeW g kd M oc ws) (hM : M ≤ 57) (hx : p.tables.exec = Jvm.exec) (hb : c.code = cc) (hml : c.maxLocals = nL) (hown : s.vm.findClass R_C = some m.cls) (hts : ∀ w ∈ wA, w.before args s = true) (hKK : pK D (tyl g) s) (hP : va_P D vwCl ws H) (hD : va_D A0 ws) (hS : va_S A0 H0 H locs) (hA : ∀ q, H0.size ≤ q → A0 q) (hsz : ls.size = nL) (hw : (rest.map fun v => v.category).sum ≤ 8) (hc : cells ≤ R.cells) (hs : slots ≤ R.slots) (hRf : 3 ≤ R.frames) (hRl : 69 ≤ R.locals) (hd : decode cc pc = .ok (.invokevirtual 67, 3))
    (kk : ∀ (H1 : Heap) (locs1 : List Loc), va_P D vwCl ws H1 → va_D A0 ws → va_S A0 H0 H1 locs1 → W p l e R s m args below meth c H1 locs1 cells slots Q (F0 m (pc + 3) ls (.int (nI (grsK kd M)) :: rest))) : W p l e R s m args below meth c H locs cells slots Q (F0 m pc ls (.ref oc :: rest)) := by
  have hK := hKK.1
  rcases hcw with ⟨rfl, hcw⟩ | ⟨rfl, hcw⟩ | ⟨rfl, hcw⟩ | ⟨rfl, hcw⟩
  · obtain ⟨k0, k1, am, kl, al, lf, kL, kc, kr, kb, la, ca, ra, ba9, h0, h1, ql, qf, qL, qc, qr, qb⟩ := hcw
    refine lc_Ui (b := oc) (As := []) (rest := rest) ⟨hx, hb, hml, hown, hts⟩ (c_S_greatestRowSum l D g _ ws M 1 hM (by decide) kl al lf kL kc kr kb la ca ra ba9 ql qf qL qr k0 oc am _ h0) (kU (owner := "CheckCodes$Code") 0 hts m_269 m_262 m_264 (va_Decl.of (hts _ m_263) (hts _ m_277)) m_267 m_268 m_33 (by decide +kernel) ⟨Nat.le_trans (Nat.le_of_ble_eq_true rfl) hRf, Nat.le_trans (Nat.le_of_ble_eq_true rfl) hRl⟩) (va_recv hK hP (ci := 1) (q0 := k0) rfl h0) hKK hP hD hS hA hsz rfl rfl hw hd ⟨hc, hs⟩ (fun r1 u H locs hr hP hD hS => ?_)
    obtain rfl : r1 = nI (grsK 0 M) := hr
    exact kk _ _ hP hD hS
  · obtain ⟨k0, k1, am, h0, h1⟩ := hcw
    refine lc_Ui (b := oc) (As := []) (rest := rest) ⟨hx, hb, hml, hown, hts⟩ (c_K_greatestRowSum l D g _ ws oc) (kU (owner := "CheckCodes$Code") 0 hts m_277 m_262 m_264 (va_Decl.of (hts _ m_263) (hts _ m_277)) m_266 m_263 m_32 (by decide +kernel) ⟨Nat.le_trans (Nat.le_of_ble_eq_true rfl) hRf, Nat.le_trans (Nat.le_of_ble_eq_true rfl) hRl⟩) (va_recv hK hP (ci := 2) (q0 := k0) rfl h0) hKK hP hD hS hA hsz rfl rfl hw hd ⟨hc, hs⟩ (fun r1 u H locs hr hP hD hS => ?_)
    obtain rfl : r1 = nI (grsK 1 M) := hr
    exact kk _ _ hP hD hS
  · obtain ⟨k0, k1, am, h0, h1⟩ := hcw
    refine lc_Ui (b := oc) (As := []) (rest := rest) ⟨hx, hb, hml, hown, hts⟩ (c_K_greatestRowSum l D g _ ws oc) (kU (owner := "CheckCodes$Code") 0 hts m_277 m_262 m_264 (va_Decl.of (hts _ m_263) (hts _ m_277)) m_265 m_263 m_32 (by decide +kernel) ⟨Nat.le_trans (Nat.le_of_ble_eq_true rfl) hRf, Nat.le_trans (Nat.le_of_ble_eq_true rfl) hRl⟩) (va_recv hK hP (ci := 3) (q0 := k0) rfl h0) hKK hP hD hS hA hsz rfl rfl hw hd ⟨hc, hs⟩ (fun r1 u H locs hr hP hD hS => ?_)
    obtain rfl : r1 = nI (grsK 2 M) := hr
    exact kk _ _ hP hD hS
  · obtain ⟨k0, k1, am, kl, al, lf, kL, kc, kr, kb, la, ca, ra, ba9, h0, h1, ql, qf, qL, qc, qr, qb⟩ := hcw
    refine lc_Ui (b := oc) (As := []) (rest := rest) ⟨hx, hb, hml, hown, hts⟩ (c_S_greatestRowSum l D g _ ws M 4 hM (by decide) kl al lf kL kc kr kb la ca ra ba9 ql qf qL qr k0 oc am _ h0) (kU (owner := "CheckCodes$Code") 0 hts m_269 m_262 m_264 (va_Decl.of (hts _ m_263) (hts _ m_277)) m_267 m_268 m_33 (by decide +kernel) ⟨Nat.le_trans (Nat.le_of_ble_eq_true rfl) hRf, Nat.le_trans (Nat.le_of_ble_eq_true rfl) hRl⟩) (va_recv hK hP (ci := 1) (q0 := k0) rfl h0) hKK hP hD hS hA hsz rfl rfl hw hd ⟨hc, hs⟩ (fun r1 u H locs hr hP hD hS => ?_)
    obtain rfl : r1 = nI (grsK 3 M) := hr
    exact kk _ _ hP hD hS
end LU
