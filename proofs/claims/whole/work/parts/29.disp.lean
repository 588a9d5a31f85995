set_option maxRecDepth 20000 in
theorem m_289 : Cond.code y_K_sumOf b_K_sumOf 7 (some .int) ∈ wA := in_wA (List.mem_of_getElem? (i := 289) rfl) rfl
set_option maxRecDepth 20000 in
theorem m_284 : Cond.instanceMethod y_K_sumOf ∈ wA := in_wA (List.mem_of_getElem? (i := 284) rfl) rfl
set_option maxRecDepth 20000 in
theorem m_283 : Cond.methodLink R_C 99 y_K_sumOf ∈ wA := in_wA (List.mem_of_getElem? (i := 283) rfl) rfl
set_option maxRecDepth 20000 in
theorem m_285 : Cond.sameMethod R_K R_K "sumOf" "(J)I" ∈ wA := in_wA (List.mem_of_getElem? (i := 285) rfl) rfl
set_option maxRecDepth 20000 in
theorem m_288 : Cond.selects R_S y_K_sumOf y_K_sumOf ∈ wA := in_wA (List.mem_of_getElem? (i := 288) rfl) rfl
set_option maxRecDepth 20000 in
theorem m_287 : Cond.selects R_P y_K_sumOf y_K_sumOf ∈ wA := in_wA (List.mem_of_getElem? (i := 287) rfl) rfl
set_option maxRecDepth 20000 in
theorem m_286 : Cond.selects R_N y_K_sumOf y_K_sumOf ∈ wA := in_wA (List.mem_of_getElem? (i := 286) rfl) rfl
set_option maxRecDepth 20000 in
theorem m_463 : Cond.code y_S_judge b_S_judge 10 (some .int) ∈ wA := in_wA (List.mem_of_getElem? (i := 463) rfl) rfl
set_option maxRecDepth 20000 in
theorem m_443 : Cond.methodLink R_C 108 y_K_judge ∈ wA := in_wA (List.mem_of_getElem? (i := 443) rfl) rfl
set_option maxRecDepth 20000 in
theorem m_445 : Cond.sameMethod R_K R_K "judge" "(ILCheckCodes$Turn;)I" ∈ wA := in_wA (List.mem_of_getElem? (i := 445) rfl) rfl
set_option maxRecDepth 20000 in
theorem m_461 : Cond.selects R_S y_K_judge y_S_judge ∈ wA := in_wA (List.mem_of_getElem? (i := 461) rfl) rfl
set_option maxRecDepth 20000 in
theorem m_462 : Cond.instanceMethod y_S_judge ∈ wA := in_wA (List.mem_of_getElem? (i := 462) rfl) rfl
set_option maxRecDepth 20000 in
theorem m_459 : Cond.code y_P_judge b_P_judge 3 (some .int) ∈ wA := in_wA (List.mem_of_getElem? (i := 459) rfl) rfl
set_option maxRecDepth 20000 in
theorem m_457 : Cond.selects R_P y_K_judge y_P_judge ∈ wA := in_wA (List.mem_of_getElem? (i := 457) rfl) rfl
set_option maxRecDepth 20000 in
theorem m_458 : Cond.instanceMethod y_P_judge ∈ wA := in_wA (List.mem_of_getElem? (i := 458) rfl) rfl
set_option maxRecDepth 20000 in
theorem m_448 : Cond.code y_N_judge b_N_judge 6 (some .int) ∈ wA := in_wA (List.mem_of_getElem? (i := 448) rfl) rfl
set_option maxRecDepth 20000 in
theorem m_446 : Cond.selects R_N y_K_judge y_N_judge ∈ wA := in_wA (List.mem_of_getElem? (i := 446) rfl) rfl
set_option maxRecDepth 20000 in
theorem m_447 : Cond.instanceMethod y_N_judge ∈ wA := in_wA (List.mem_of_getElem? (i := 447) rfl) rfl
set_option maxRecDepth 20000 in
theorem m_405 : Cond.code y_S_columnOf b_S_columnOf 2 (some .int) ∈ wA := in_wA (List.mem_of_getElem? (i := 405) rfl) rfl
set_option maxRecDepth 20000 in
theorem m_399 : Cond.instanceMethod y_K_columnOf ∈ wA := in_wA (List.mem_of_getElem? (i := 399) rfl) rfl
set_option maxRecDepth 20000 in
theorem m_406 : Cond.code y_K_columnOf b_K_columnOf 2 (some .int) ∈ wA := in_wA (List.mem_of_getElem? (i := 406) rfl) rfl
set_option maxRecDepth 20000 in
theorem m_398 : Cond.methodLink R_C 83 y_K_columnOf ∈ wA := in_wA (List.mem_of_getElem? (i := 398) rfl) rfl
set_option maxRecDepth 20000 in
theorem m_400 : Cond.sameMethod R_K R_K "columnOf" "(I)I" ∈ wA := in_wA (List.mem_of_getElem? (i := 400) rfl) rfl
set_option maxRecDepth 20000 in
theorem m_403 : Cond.selects R_S y_K_columnOf y_S_columnOf ∈ wA := in_wA (List.mem_of_getElem? (i := 403) rfl) rfl
set_option maxRecDepth 20000 in
theorem m_404 : Cond.instanceMethod y_S_columnOf ∈ wA := in_wA (List.mem_of_getElem? (i := 404) rfl) rfl
set_option maxRecDepth 20000 in
theorem m_402 : Cond.selects R_P y_K_columnOf y_K_columnOf ∈ wA := in_wA (List.mem_of_getElem? (i := 402) rfl) rfl
set_option maxRecDepth 20000 in
theorem m_266 : Cond.code y_S_greatestRowSum b_S_greatestRowSum 6 (some .int) ∈ wA := in_wA (List.mem_of_getElem? (i := 266) rfl) rfl
set_option maxRecDepth 20000 in
theorem m_260 : Cond.instanceMethod y_K_greatestRowSum ∈ wA := in_wA (List.mem_of_getElem? (i := 260) rfl) rfl
set_option maxRecDepth 20000 in
theorem m_274 : Cond.code y_K_greatestRowSum b_K_greatestRowSum 1 (some .int) ∈ wA := in_wA (List.mem_of_getElem? (i := 274) rfl) rfl
set_option maxRecDepth 20000 in
theorem m_259 : Cond.methodLink R_C 67 y_K_greatestRowSum ∈ wA := in_wA (List.mem_of_getElem? (i := 259) rfl) rfl
set_option maxRecDepth 20000 in
theorem m_261 : Cond.sameMethod R_K R_K "greatestRowSum" "()I" ∈ wA := in_wA (List.mem_of_getElem? (i := 261) rfl) rfl
set_option maxRecDepth 20000 in
theorem m_264 : Cond.selects R_S y_K_greatestRowSum y_S_greatestRowSum ∈ wA := in_wA (List.mem_of_getElem? (i := 264) rfl) rfl
set_option maxRecDepth 20000 in
theorem m_265 : Cond.instanceMethod y_S_greatestRowSum ∈ wA := in_wA (List.mem_of_getElem? (i := 265) rfl) rfl
set_option maxRecDepth 20000 in
theorem m_263 : Cond.selects R_P y_K_greatestRowSum y_K_greatestRowSum ∈ wA := in_wA (List.mem_of_getElem? (i := 263) rfl) rfl
set_option maxRecDepth 20000 in
theorem m_262 : Cond.selects R_N y_K_greatestRowSum y_K_greatestRowSum ∈ wA := in_wA (List.mem_of_getElem? (i := 262) rfl) rfl
section LU
variable {p : Program} {l : Launch} {e : Env} {R : Room} {s : State} {m : MethodId} {args : Array Value} {below : List Frame} {meth : Method} {c : Code} {H : Heap} {locs : List Loc} {cells slots : Nat} {Q : State → Prop}
variable {cc : ByteArray} {pc nL : Nat} {ls : Array Slot} {rest : List Value} {D : va_G} {g : Nat → ClassId} {A0 : Nat → Prop} {H0 : Heap}
theorem lu_sumOf {ws : va_W} {kd M oc x : Nat} (hcw : CodeW g kd M oc ws) (hM : M ≤ 57) (hx9 : x < 2 ^ 64) (hx : p.tables.exec = Jvm.exec) (hb : c.code = cc) (hml : c.maxLocals = nL) (hown : s.vm.findClass R_C = some m.cls) (hts : ∀ w ∈ wA, w.before args s = true) (hKK : pK D (tyl g) s) (hP : va_P D vwCl ws H) (hD : va_D A0 ws) (hS : va_S A0 H0 H locs) (hA : ∀ q, H0.size ≤ q → A0 q) (hsz : ls.size = nL) (hw : (rest.map fun v => v.category).sum ≤ 8) (hc : cells ≤ R.cells) (hs : slots ≤ R.slots) (hRf : 1 ≤ R.frames) (hRl : 26 ≤ R.locals) (hd : decode cc pc = .ok (.invokevirtual 99, 3))
    (kk : ∀ (H1 : Heap) (locs1 : List Loc), va_P D vwCl ws H1 → va_D A0 ws → va_S A0 H0 H1 locs1 → W p l e R s m args below meth c H1 locs1 cells slots Q (F0 m (pc + 3) ls (.int (nI (xs (mrk kd M) x M)) :: rest))) : W p l e R s m args below meth c H locs cells slots Q (F0 m pc ls (.long (lN x) :: .ref oc :: rest)) := by
  have hK := hKK.1
  rcases hcw with ⟨rfl, hcw⟩ | ⟨rfl, hcw⟩ | ⟨rfl, hcw⟩ | ⟨rfl, hcw⟩
  · obtain ⟨k0, k1, am, kl, al, lf, kL, kc, kr, kb, la, ca, ra, ba9, h0, h1, ql, qf, qL, qc, qr, qb⟩ := hcw
    refine lc_Ui (b := oc) (As := [.long (lN x)]) (rest := rest) ⟨hx, hb, hml, hown, hts⟩ (c_K_sumOf_S l D g _ ws k0 k1 oc am _ _ al M (mkS M 1) x h0 h1 (by omega) hx9) (kU (owner := "CheckCodes$Code") 1 hts m_289 m_283 m_285 (va_Decl.of (hts _ m_284) (hts _ m_289)) m_288 m_284 m_31 (by decide +kernel) ⟨Nat.le_trans (Nat.le_of_ble_eq_true rfl) hRf, Nat.le_trans (Nat.le_of_ble_eq_true rfl) hRl⟩) (va_recv hK hP (ci := 1) (q0 := k0) rfl h0) hKK hP hD hS hA hsz rfl rfl hw hd ⟨hc, hs⟩ (fun r1 u H locs hr hP hD hS => ?_)
    obtain rfl : r1 = nI (xs (mrk 0 M) x M) := hr
    exact kk _ _ hP hD hS
  · obtain ⟨k0, k1, am, h0, h1⟩ := hcw
    refine lc_Ui (b := oc) (As := [.long (lN x)]) (rest := rest) ⟨hx, hb, hml, hown, hts⟩ (c_K_sumOf_P l D g _ ws k0 k1 oc am _ _ M (fun j => if j < M then mkP (min M 4) j else 0) x h0 h1 (by omega) hx9) (kU (owner := "CheckCodes$Code") 1 hts m_289 m_283 m_285 (va_Decl.of (hts _ m_284) (hts _ m_289)) m_287 m_284 m_31 (by decide +kernel) ⟨Nat.le_trans (Nat.le_of_ble_eq_true rfl) hRf, Nat.le_trans (Nat.le_of_ble_eq_true rfl) hRl⟩) (va_recv hK hP (ci := 2) (q0 := k0) rfl h0) hKK hP hD hS hA hsz rfl rfl hw hd ⟨hc, hs⟩ (fun r1 u H locs hr hP hD hS => ?_)
    obtain rfl : r1 = nI (xs (mrk 1 M) x M) := hr
    exact kk _ _ hP hD hS
  · obtain ⟨k0, k1, am, h0, h1⟩ := hcw
    refine lc_Ui (b := oc) (As := [.long (lN x)]) (rest := rest) ⟨hx, hb, hml, hown, hts⟩ (c_K_sumOf_N l D g _ ws k0 k1 oc am _ _ M (fun j => if j < M then mkN j else 0) x h0 h1 (by omega) hx9) (kU (owner := "CheckCodes$Code") 1 hts m_289 m_283 m_285 (va_Decl.of (hts _ m_284) (hts _ m_289)) m_286 m_284 m_31 (by decide +kernel) ⟨Nat.le_trans (Nat.le_of_ble_eq_true rfl) hRf, Nat.le_trans (Nat.le_of_ble_eq_true rfl) hRl⟩) (va_recv hK hP (ci := 3) (q0 := k0) rfl h0) hKK hP hD hS hA hsz rfl rfl hw hd ⟨hc, hs⟩ (fun r1 u H locs hr hP hD hS => ?_)
    obtain rfl : r1 = nI (xs (mrk 2 M) x M) := hr
    exact kk _ _ hP hD hS
  · obtain ⟨k0, k1, am, kl, al, lf, kL, kc, kr, kb, la, ca, ra, ba9, h0, h1, ql, qf, qL, qc, qr, qb⟩ := hcw
    refine lc_Ui (b := oc) (As := [.long (lN x)]) (rest := rest) ⟨hx, hb, hml, hown, hts⟩ (c_K_sumOf_S l D g _ ws k0 k1 oc am _ _ al M (mkS M 4) x h0 h1 (by omega) hx9) (kU (owner := "CheckCodes$Code") 1 hts m_289 m_283 m_285 (va_Decl.of (hts _ m_284) (hts _ m_289)) m_288 m_284 m_31 (by decide +kernel) ⟨Nat.le_trans (Nat.le_of_ble_eq_true rfl) hRf, Nat.le_trans (Nat.le_of_ble_eq_true rfl) hRl⟩) (va_recv hK hP (ci := 1) (q0 := k0) rfl h0) hKK hP hD hS hA hsz rfl rfl hw hd ⟨hc, hs⟩ (fun r1 u H locs hr hP hD hS => ?_)
    obtain rfl : r1 = nI (xs (mrk 3 M) x M) := hr
    exact kk _ _ hP hD hS
theorem lu_judge {wr : va_W} {kd M oc tn y : Nat} {a0 : Int64} {b0 : Int32} (hcw : CodeW g kd M oc wr) (hM : M ≤ 57) (hy : y < 2 ^ ckb kd M) (hx : p.tables.exec = Jvm.exec) (hb : c.code = cc) (hml : c.maxLocals = nL) (hown : s.vm.findClass R_C = some m.cls) (hts : ∀ w ∈ wA, w.before args s = true) (hKK : pK D (tyl g) s) (hP : va_P D vwCl ((tn, .inr (5, [.long a0, .int b0])) :: wr) H) (hD : va_D A0 ((tn, .inr (5, [.long a0, .int b0])) :: wr)) (hS : va_S A0 H0 H locs) (hA : ∀ q, H0.size ≤ q → A0 q) (hsz : ls.size = nL) (hw : (rest.map fun v => v.category).sum ≤ 8) (hc : cells ≤ R.cells) (hs : slots ≤ R.slots) (hRf : 3 ≤ R.frames) (hRl : 74 ≤ R.locals) (hd : decode cc pc = .ok (.invokevirtual 108, 3))
    (kk : ∀ (H1 : Heap) (locs1 : List Loc), va_P D vwCl ((tn, .inr (5, [.long (lN (jd kd M y).2.1), .int (nI (jd kd M y).2.2)])) :: wr) H1 → va_D A0 ((tn, .inr (5, [.long (lN (jd kd M y).2.1), .int (nI (jd kd M y).2.2)])) :: wr) → va_S A0 H0 H1 locs1 → W p l e R s m args below meth c H1 locs1 cells slots Q (F0 m (pc + 3) ls (.int (nI (jd kd M y).1) :: rest))) : W p l e R s m args below meth c H locs cells slots Q (F0 m pc ls (.ref tn :: .int (nI y) :: .ref oc :: rest)) := by
  have hK := hKK.1
  have hpw := ckb_pow kd M
  rcases hcw with ⟨rfl, hcw⟩ | ⟨rfl, hcw⟩ | ⟨rfl, hcw⟩ | ⟨rfl, hcw⟩
  · obtain ⟨k0, k1, am, kl, al, lf, kL, kc, kr, kb, la, ca, ra, ba9, h0, h1, ql, qf, qL, qc, qr, qb⟩ := hcw
    refine lc_Ui (b := oc) (As := [.int (nI y), .ref tn]) (rest := rest) ⟨hx, hb, hml, hown, hts⟩ (c_S_judge l D g _ wr M 1 tn y a0 b0 hM (by decide) kl al lf kL kc kr kb la ca ra ba9 ql qf qL qc qb k0 oc am _ h0 (by omega)) (kU (owner := "CheckCodes$Code") 2 hts m_463 m_443 m_445 (va_Decl.abs hKK.2.2.2) m_461 m_462 m_32 (by decide +kernel) ⟨Nat.le_trans (Nat.le_of_ble_eq_true rfl) hRf, Nat.le_trans (Nat.le_of_ble_eq_true rfl) hRl⟩) (va_recv hK hP (ci := 1) (q0 := (k0 + 1)) rfl h0) hKK hP hD hS hA hsz rfl rfl hw hd ⟨hc, hs⟩ (fun r1 u H locs hr hP hD hS => ?_)
    obtain rfl : r1 = nI (jd 0 M y).1 := hr
    exact kk _ _ hP hD hS
  · obtain ⟨k0, k1, am, h0, h1⟩ := hcw
    refine lc_Ui (b := oc) (As := [.int (nI y), .ref tn]) (rest := rest) ⟨hx, hb, hml, hown, hts⟩ (c_P_judge l D g _ wr oc tn y a0 b0 (by omega)) (kU (owner := "CheckCodes$Code") 2 hts m_459 m_443 m_445 (va_Decl.abs hKK.2.2.2) m_457 m_458 m_36 (by decide +kernel) ⟨Nat.le_trans (Nat.le_of_ble_eq_true rfl) hRf, Nat.le_trans (Nat.le_of_ble_eq_true rfl) hRl⟩) (va_recv hK hP (ci := 2) (q0 := (k0 + 1)) rfl h0) hKK hP hD hS hA hsz rfl rfl hw hd ⟨hc, hs⟩ (fun r1 u H locs hr hP hD hS => ?_)
    obtain rfl : r1 = nI (jd 1 M y).1 := hr
    exact kk _ _ hP hD hS
  · obtain ⟨k0, k1, am, h0, h1⟩ := hcw
    have hy4 : y < 4096 := hy
    refine lc_Ui (b := oc) (As := [.int (nI y), .ref tn]) (rest := rest) ⟨hx, hb, hml, hown, hts⟩ (c_N_judge l D g _ wr k0 oc tn am M y _ a0 b0 h0 hM hy4) (kU (owner := "CheckCodes$Code") 2 hts m_448 m_443 m_445 (va_Decl.abs hKK.2.2.2) m_446 m_447 m_37 (by decide +kernel) ⟨Nat.le_trans (Nat.le_of_ble_eq_true rfl) hRf, Nat.le_trans (Nat.le_of_ble_eq_true rfl) hRl⟩) (va_recv hK hP (ci := 3) (q0 := (k0 + 1)) rfl h0) hKK hP hD hS hA hsz rfl rfl hw hd ⟨hc, hs⟩ (fun r1 u H locs hr hP hD hS => ?_)
    obtain rfl : r1 = nI (jd 2 M y).1 := hr
    exact kk _ _ hP hD hS
  · obtain ⟨k0, k1, am, kl, al, lf, kL, kc, kr, kb, la, ca, ra, ba9, h0, h1, ql, qf, qL, qc, qr, qb⟩ := hcw
    refine lc_Ui (b := oc) (As := [.int (nI y), .ref tn]) (rest := rest) ⟨hx, hb, hml, hown, hts⟩ (c_S_judge l D g _ wr M 4 tn y a0 b0 hM (by decide) kl al lf kL kc kr kb la ca ra ba9 ql qf qL qc qb k0 oc am _ h0 (by omega)) (kU (owner := "CheckCodes$Code") 2 hts m_463 m_443 m_445 (va_Decl.abs hKK.2.2.2) m_461 m_462 m_32 (by decide +kernel) ⟨Nat.le_trans (Nat.le_of_ble_eq_true rfl) hRf, Nat.le_trans (Nat.le_of_ble_eq_true rfl) hRl⟩) (va_recv hK hP (ci := 1) (q0 := (k0 + 1)) rfl h0) hKK hP hD hS hA hsz rfl rfl hw hd ⟨hc, hs⟩ (fun r1 u H locs hr hP hD hS => ?_)
    obtain rfl : r1 = nI (jd 3 M y).1 := hr
    exact kk _ _ hP hD hS
theorem lu_columnOf {ws : va_W} {kd M oc j : Nat} (hcw : CodeW g kd M oc ws) (hk2 : kd ≠ 2) (hM : M ≤ 57) (hj : j < M) (hx : p.tables.exec = Jvm.exec) (hb : c.code = cc) (hml : c.maxLocals = nL) (hown : s.vm.findClass R_C = some m.cls) (hts : ∀ w ∈ wA, w.before args s = true) (hKK : pK D (tyl g) s) (hP : va_P D vwCl ws H) (hD : va_D A0 ws) (hS : va_S A0 H0 H locs) (hA : ∀ q, H0.size ≤ q → A0 q) (hsz : ls.size = nL) (hw : (rest.map fun v => v.category).sum ≤ 8) (hc : cells ≤ R.cells) (hs : slots ≤ R.slots) (hRf : 1 ≤ R.frames) (hRl : 21 ≤ R.locals) (hd : decode cc pc = .ok (.invokevirtual 83, 3))
    (kk : ∀ (H1 : Heap) (locs1 : List Loc), va_P D vwCl ws H1 → va_D A0 ws → va_S A0 H0 H1 locs1 → W p l e R s m args below meth c H1 locs1 cells slots Q (F0 m (pc + 3) ls (.int (nI (colK kd M j)) :: rest))) : W p l e R s m args below meth c H locs cells slots Q (F0 m pc ls (.int (nI j) :: .ref oc :: rest)) := by
  have hK := hKK.1
  rcases hcw with ⟨rfl, hcw⟩ | ⟨rfl, hcw⟩ | ⟨rfl, hcw⟩ | ⟨rfl, hcw⟩
  · obtain ⟨k0, k1, am, kl, al, lf, kL, kc, kr, kb, la, ca, ra, ba9, h0, h1, ql, qf, qL, qc, qr, qb⟩ := hcw
    refine lc_Ui (b := oc) (As := [.int (nI j)]) (rest := rest) ⟨hx, hb, hml, hown, hts⟩ (c_S_columnOf l D g _ ws M 1 j hM (by decide) kl al lf kL kc kr kb la ca ra ba9 ql qf qL qc k0 oc am _ h0 hj) (kU (owner := "CheckCodes$Code") 1 hts m_405 m_398 m_400 (va_Decl.of (hts _ m_399) (hts _ m_406)) m_403 m_404 m_32 (by decide +kernel) ⟨Nat.le_trans (Nat.le_of_ble_eq_true rfl) hRf, Nat.le_trans (Nat.le_of_ble_eq_true rfl) hRl⟩) (va_recv hK hP (ci := 1) (q0 := k0) rfl h0) hKK hP hD hS hA hsz rfl rfl hw hd ⟨hc, hs⟩ (fun r1 u H locs hr hP hD hS => ?_)
    obtain rfl : r1 = nI (colK 0 M j) := hr
    exact kk _ _ hP hD hS
  · obtain ⟨k0, k1, am, h0, h1⟩ := hcw
    refine lc_Ui (b := oc) (As := [.int (nI j)]) (rest := rest) ⟨hx, hb, hml, hown, hts⟩ (c_K_columnOf_P l D g _ ws k0 k1 oc am M j _ _ (fun j => if j < M then mkP (min M 4) j else 0) h0 h1 hM hj) (kU (owner := "CheckCodes$Code") 1 hts m_406 m_398 m_400 (va_Decl.of (hts _ m_399) (hts _ m_406)) m_402 m_399 m_31 (by decide +kernel) ⟨Nat.le_trans (Nat.le_of_ble_eq_true rfl) hRf, Nat.le_trans (Nat.le_of_ble_eq_true rfl) hRl⟩) (va_recv hK hP (ci := 2) (q0 := k0) rfl h0) hKK hP hD hS hA hsz rfl rfl hw hd ⟨hc, hs⟩ (fun r1 u H locs hr hP hD hS => ?_)
    obtain rfl : r1 = nI (colK 1 M j) := hr.trans (by rw [if_pos hj]; rfl)
    exact kk _ _ hP hD hS
  · exact absurd rfl hk2
  · obtain ⟨k0, k1, am, kl, al, lf, kL, kc, kr, kb, la, ca, ra, ba9, h0, h1, ql, qf, qL, qc, qr, qb⟩ := hcw
    refine lc_Ui (b := oc) (As := [.int (nI j)]) (rest := rest) ⟨hx, hb, hml, hown, hts⟩ (c_S_columnOf l D g _ ws M 4 j hM (by decide) kl al lf kL kc kr kb la ca ra ba9 ql qf qL qc k0 oc am _ h0 hj) (kU (owner := "CheckCodes$Code") 1 hts m_405 m_398 m_400 (va_Decl.of (hts _ m_399) (hts _ m_406)) m_403 m_404 m_32 (by decide +kernel) ⟨Nat.le_trans (Nat.le_of_ble_eq_true rfl) hRf, Nat.le_trans (Nat.le_of_ble_eq_true rfl) hRl⟩) (va_recv hK hP (ci := 1) (q0 := k0) rfl h0) hKK hP hD hS hA hsz rfl rfl hw hd ⟨hc, hs⟩ (fun r1 u H locs hr hP hD hS => ?_)
    obtain rfl : r1 = nI (colK 3 M j) := hr
    exact kk _ _ hP hD hS
theorem lu_greatestRowSum {ws : va_W} {kd M oc : Nat} (hcw : CodeW g kd M oc ws) (hM : M ≤ 57) (hx : p.tables.exec = Jvm.exec) (hb : c.code = cc) (hml : c.maxLocals = nL) (hown : s.vm.findClass R_C = some m.cls) (hts : ∀ w ∈ wA, w.before args s = true) (hKK : pK D (tyl g) s) (hP : va_P D vwCl ws H) (hD : va_D A0 ws) (hS : va_S A0 H0 H locs) (hA : ∀ q, H0.size ≤ q → A0 q) (hsz : ls.size = nL) (hw : (rest.map fun v => v.category).sum ≤ 8) (hc : cells ≤ R.cells) (hs : slots ≤ R.slots) (hRf : 3 ≤ R.frames) (hRl : 69 ≤ R.locals) (hd : decode cc pc = .ok (.invokevirtual 67, 3))
    (kk : ∀ (H1 : Heap) (locs1 : List Loc), va_P D vwCl ws H1 → va_D A0 ws → va_S A0 H0 H1 locs1 → W p l e R s m args below meth c H1 locs1 cells slots Q (F0 m (pc + 3) ls (.int (nI (grsK kd M)) :: rest))) : W p l e R s m args below meth c H locs cells slots Q (F0 m pc ls (.ref oc :: rest)) := by
  have hK := hKK.1
  rcases hcw with ⟨rfl, hcw⟩ | ⟨rfl, hcw⟩ | ⟨rfl, hcw⟩ | ⟨rfl, hcw⟩
  · obtain ⟨k0, k1, am, kl, al, lf, kL, kc, kr, kb, la, ca, ra, ba9, h0, h1, ql, qf, qL, qc, qr, qb⟩ := hcw
    refine lc_Ui (b := oc) (As := []) (rest := rest) ⟨hx, hb, hml, hown, hts⟩ (c_S_greatestRowSum l D g _ ws M 1 hM (by decide) kl al lf kL kc kr kb la ca ra ba9 ql qf qL qr k0 oc am _ h0) (kU (owner := "CheckCodes$Code") 0 hts m_266 m_259 m_261 (va_Decl.of (hts _ m_260) (hts _ m_274)) m_264 m_265 m_32 (by decide +kernel) ⟨Nat.le_trans (Nat.le_of_ble_eq_true rfl) hRf, Nat.le_trans (Nat.le_of_ble_eq_true rfl) hRl⟩) (va_recv hK hP (ci := 1) (q0 := k0) rfl h0) hKK hP hD hS hA hsz rfl rfl hw hd ⟨hc, hs⟩ (fun r1 u H locs hr hP hD hS => ?_)
    obtain rfl : r1 = nI (grsK 0 M) := hr
    exact kk _ _ hP hD hS
  · obtain ⟨k0, k1, am, h0, h1⟩ := hcw
    refine lc_Ui (b := oc) (As := []) (rest := rest) ⟨hx, hb, hml, hown, hts⟩ (c_K_greatestRowSum l D g _ ws oc) (kU (owner := "CheckCodes$Code") 0 hts m_274 m_259 m_261 (va_Decl.of (hts _ m_260) (hts _ m_274)) m_263 m_260 m_31 (by decide +kernel) ⟨Nat.le_trans (Nat.le_of_ble_eq_true rfl) hRf, Nat.le_trans (Nat.le_of_ble_eq_true rfl) hRl⟩) (va_recv hK hP (ci := 2) (q0 := k0) rfl h0) hKK hP hD hS hA hsz rfl rfl hw hd ⟨hc, hs⟩ (fun r1 u H locs hr hP hD hS => ?_)
    obtain rfl : r1 = nI (grsK 1 M) := hr
    exact kk _ _ hP hD hS
  · obtain ⟨k0, k1, am, h0, h1⟩ := hcw
    refine lc_Ui (b := oc) (As := []) (rest := rest) ⟨hx, hb, hml, hown, hts⟩ (c_K_greatestRowSum l D g _ ws oc) (kU (owner := "CheckCodes$Code") 0 hts m_274 m_259 m_261 (va_Decl.of (hts _ m_260) (hts _ m_274)) m_262 m_260 m_31 (by decide +kernel) ⟨Nat.le_trans (Nat.le_of_ble_eq_true rfl) hRf, Nat.le_trans (Nat.le_of_ble_eq_true rfl) hRl⟩) (va_recv hK hP (ci := 3) (q0 := k0) rfl h0) hKK hP hD hS hA hsz rfl rfl hw hd ⟨hc, hs⟩ (fun r1 u H locs hr hP hD hS => ?_)
    obtain rfl : r1 = nI (grsK 2 M) := hr
    exact kk _ _ hP hD hS
  · obtain ⟨k0, k1, am, kl, al, lf, kL, kc, kr, kb, la, ca, ra, ba9, h0, h1, ql, qf, qL, qc, qr, qb⟩ := hcw
    refine lc_Ui (b := oc) (As := []) (rest := rest) ⟨hx, hb, hml, hown, hts⟩ (c_S_greatestRowSum l D g _ ws M 4 hM (by decide) kl al lf kL kc kr kb la ca ra ba9 ql qf qL qr k0 oc am _ h0) (kU (owner := "CheckCodes$Code") 0 hts m_266 m_259 m_261 (va_Decl.of (hts _ m_260) (hts _ m_274)) m_264 m_265 m_32 (by decide +kernel) ⟨Nat.le_trans (Nat.le_of_ble_eq_true rfl) hRf, Nat.le_trans (Nat.le_of_ble_eq_true rfl) hRl⟩) (va_recv hK hP (ci := 1) (q0 := k0) rfl h0) hKK hP hD hS hA hsz rfl rfl hw hd ⟨hc, hs⟩ (fun r1 u H locs hr hP hD hS => ?_)
    obtain rfl : r1 = nI (grsK 3 M) := hr
    exact kk _ _ hP hD hS
end LU
