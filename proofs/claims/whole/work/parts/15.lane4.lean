set_option maxRecDepth 20000 in
theorem m_74 : Cond.methodLink R_L 3 objectInit ∈ wA := in_wA (List.mem_of_getElem? (i := 74) rfl) rfl
set_option maxRecDepth 20000 in
theorem m_54 : Cond.instanceMethod objectInit ∈ wA := in_wA (List.mem_of_getElem? (i := 54) rfl) rfl
set_option maxRecDepth 20000 in
theorem m_55 : Cond.code objectInit ⟨#[0xb1]⟩ 1 none ∈ wA := in_wA (List.mem_of_getElem? (i := 55) rfl) rfl
set_option maxRecDepth 20000 in
theorem m_77 : Cond.code y_L_checkBitsFor b_L_checkBitsFor 2 (some .int) ∈ wA := in_wA (List.mem_of_getElem? (i := 77) rfl) rfl
set_option maxRecDepth 20000 in
theorem m_75 : Cond.methodLink R_L 9 y_L_checkBitsFor ∈ wA := in_wA (List.mem_of_getElem? (i := 75) rfl) rfl
set_option maxRecDepth 20000 in
theorem m_76 : Cond.static y_L_checkBitsFor ∈ wA := in_wA (List.mem_of_getElem? (i := 76) rfl) rfl
set_option maxRecDepth 20000 in
theorem m_100 : Cond.fieldLink R_L 15 R_L "checkBits" "I" ∈ wA := in_wA (List.mem_of_getElem? (i := 100) rfl) rfl
set_option maxRecDepth 20000 in
theorem m_115 : Cond.arrayClass .int ∈ wA := in_wA (List.mem_of_getElem? (i := 115) rfl) rfl
set_option maxRecDepth 20000 in
theorem m_102 : Cond.fieldLink R_L 19 R_L "columns" "[I" ∈ wA := in_wA (List.mem_of_getElem? (i := 102) rfl) rfl
set_option maxRecDepth 20000 in
theorem m_104 : Cond.fieldLink R_L 23 R_L "rowSums" "[I" ∈ wA := in_wA (List.mem_of_getElem? (i := 104) rfl) rfl
set_option maxRecDepth 20000 in
theorem m_105 : Cond.fieldLink R_L 26 R_L "bitAt" "[I" ∈ wA := in_wA (List.mem_of_getElem? (i := 105) rfl) rfl
set_option maxRecDepth 20000 in
theorem m_80 : Cond.code y_JA_fill b_JA_fill 4 none ∈ wA := in_wA (List.mem_of_getElem? (i := 80) rfl) rfl
set_option maxRecDepth 20000 in
theorem m_78 : Cond.methodLink R_L 29 y_JA_fill ∈ wA := in_wA (List.mem_of_getElem? (i := 78) rfl) rfl
set_option maxRecDepth 20000 in
theorem m_79 : Cond.static y_JA_fill ∈ wA := in_wA (List.mem_of_getElem? (i := 79) rfl) rfl
set_option maxRecDepth 20000 in
theorem m_35 : Cond.initialized R_JA ∈ wA := in_wA (List.mem_of_getElem? (i := 35) rfl) rfl
set_option maxRecDepth 20000 in
theorem m_83 : Cond.code y_L_bestColumn b_L_bestColumn 4 (some .int) ∈ wA := in_wA (List.mem_of_getElem? (i := 83) rfl) rfl
set_option maxRecDepth 20000 in
theorem m_81 : Cond.methodLink R_L 35 y_L_bestColumn ∈ wA := in_wA (List.mem_of_getElem? (i := 81) rfl) rfl
set_option maxRecDepth 20000 in
theorem m_82 : Cond.static y_L_bestColumn ∈ wA := in_wA (List.mem_of_getElem? (i := 82) rfl) rfl
set_option maxRecDepth 20000 in
theorem m_99 : Cond.code y_L_addTo b_L_addTo 3 none ∈ wA := in_wA (List.mem_of_getElem? (i := 99) rfl) rfl
set_option maxRecDepth 20000 in
theorem m_97 : Cond.methodLink R_L 39 y_L_addTo ∈ wA := in_wA (List.mem_of_getElem? (i := 97) rfl) rfl
set_option maxRecDepth 20000 in
theorem m_98 : Cond.static y_L_addTo ∈ wA := in_wA (List.mem_of_getElem? (i := 98) rfl) rfl
abbrev w_L_init : List Cond := .code y_L_init b_L_init 4 none :: wA
abbrev rm_L_init : Room := { frames := 3, cells := 3, slots := 192, locals := 73 }
theorem d_L_init_0 : decode b_L_init 0 = .ok (.aload_n 0, 1) := by decide +kernel
theorem d_L_init_1 : decode b_L_init 1 = .ok (.invokespecial 3, 3) := by decide +kernel
theorem d_L_init_4 : decode b_L_init 4 = .ok (.aload_n 0, 1) := by decide +kernel
theorem d_L_init_5 : decode b_L_init 5 = .ok (.iload_n 1, 1) := by decide +kernel
theorem d_L_init_6 : decode b_L_init 6 = .ok (.invokestatic 9, 3) := by decide +kernel
theorem d_L_init_9 : decode b_L_init 9 = .ok (.putfield 15, 3) := by decide +kernel
theorem d_L_init_12 : decode b_L_init 12 = .ok (.aload_n 0, 1) := by decide +kernel
theorem d_L_init_13 : decode b_L_init 13 = .ok (.iload_n 1, 1) := by decide +kernel
theorem d_L_init_14 : decode b_L_init 14 = .ok (.newarray .int, 2) := by decide +kernel
theorem d_L_init_16 : decode b_L_init 16 = .ok (.putfield 19, 3) := by decide +kernel
theorem d_L_init_19 : decode b_L_init 19 = .ok (.aload_n 0, 1) := by decide +kernel
theorem d_L_init_20 : decode b_L_init 20 = .ok (.aload_n 0, 1) := by decide +kernel
theorem d_L_init_21 : decode b_L_init 21 = .ok (.getfield 15, 3) := by decide +kernel
theorem d_L_init_24 : decode b_L_init 24 = .ok (.newarray .int, 2) := by decide +kernel
theorem d_L_init_26 : decode b_L_init 26 = .ok (.putfield 23, 3) := by decide +kernel
theorem d_L_init_29 : decode b_L_init 29 = .ok (.aload_n 0, 1) := by decide +kernel
theorem d_L_init_30 : decode b_L_init 30 = .ok (.iconst 1, 1) := by decide +kernel
theorem d_L_init_31 : decode b_L_init 31 = .ok (.aload_n 0, 1) := by decide +kernel
theorem d_L_init_32 : decode b_L_init 32 = .ok (.getfield 15, 3) := by decide +kernel
theorem d_L_init_35 : decode b_L_init 35 = .ok (.ishl, 1) := by decide +kernel
theorem d_L_init_36 : decode b_L_init 36 = .ok (.newarray .int, 2) := by decide +kernel
theorem d_L_init_38 : decode b_L_init 38 = .ok (.putfield 26, 3) := by decide +kernel
theorem d_L_init_41 : decode b_L_init 41 = .ok (.aload_n 0, 1) := by decide +kernel
theorem d_L_init_42 : decode b_L_init 42 = .ok (.getfield 26, 3) := by decide +kernel
theorem d_L_init_45 : decode b_L_init 45 = .ok (.iconst (-1), 1) := by decide +kernel
theorem d_L_init_46 : decode b_L_init 46 = .ok (.invokestatic 29, 3) := by decide +kernel
theorem d_L_init_49 : decode b_L_init 49 = .ok (.iconst 0, 1) := by decide +kernel
theorem d_L_init_50 : decode b_L_init 50 = .ok (.istore_n 2, 1) := by decide +kernel
theorem d_L_init_51 : decode b_L_init 51 = .ok (.iload_n 2, 1) := by decide +kernel
theorem d_L_init_52 : decode b_L_init 52 = .ok (.aload_n 0, 1) := by decide +kernel
theorem d_L_init_53 : decode b_L_init 53 = .ok (.getfield 15, 3) := by decide +kernel
theorem d_L_init_56 : decode b_L_init 56 = .ok (.if_icmp .ge 20, 3) := by decide +kernel
theorem d_L_init_59 : decode b_L_init 59 = .ok (.aload_n 0, 1) := by decide +kernel
theorem d_L_init_60 : decode b_L_init 60 = .ok (.getfield 26, 3) := by decide +kernel
theorem d_L_init_63 : decode b_L_init 63 = .ok (.iconst 1, 1) := by decide +kernel
theorem d_L_init_64 : decode b_L_init 64 = .ok (.iload_n 2, 1) := by decide +kernel
theorem d_L_init_65 : decode b_L_init 65 = .ok (.ishl, 1) := by decide +kernel
theorem d_L_init_66 : decode b_L_init 66 = .ok (.iload_n 1, 1) := by decide +kernel
theorem d_L_init_67 : decode b_L_init 67 = .ok (.iload_n 2, 1) := by decide +kernel
theorem d_L_init_68 : decode b_L_init 68 = .ok (.iadd, 1) := by decide +kernel
theorem d_L_init_69 : decode b_L_init 69 = .ok (.iastore, 1) := by decide +kernel
theorem d_L_init_70 : decode b_L_init 70 = .ok (.iinc 2 1, 3) := by decide +kernel
theorem d_L_init_73 : decode b_L_init 73 = .ok (.goto (-22), 3) := by decide +kernel
theorem d_L_init_76 : decode b_L_init 76 = .ok (.iconst 0, 1) := by decide +kernel
theorem d_L_init_77 : decode b_L_init 77 = .ok (.istore_n 2, 1) := by decide +kernel
theorem d_L_init_78 : decode b_L_init 78 = .ok (.iload_n 2, 1) := by decide +kernel
theorem d_L_init_79 : decode b_L_init 79 = .ok (.iload_n 1, 1) := by decide +kernel
theorem d_L_init_80 : decode b_L_init 80 = .ok (.if_icmp .ge 48, 3) := by decide +kernel
theorem d_L_init_83 : decode b_L_init 83 = .ok (.aload_n 0, 1) := by decide +kernel
theorem d_L_init_84 : decode b_L_init 84 = .ok (.getfield 26, 3) := by decide +kernel
theorem d_L_init_87 : decode b_L_init 87 = .ok (.aload_n 0, 1) := by decide +kernel
theorem d_L_init_88 : decode b_L_init 88 = .ok (.getfield 23, 3) := by decide +kernel
theorem d_L_init_91 : decode b_L_init 91 = .ok (.invokestatic 35, 3) := by decide +kernel
theorem d_L_init_94 : decode b_L_init 94 = .ok (.istore_n 3, 1) := by decide +kernel
theorem d_L_init_95 : decode b_L_init 95 = .ok (.iload_n 3, 1) := by decide +kernel
theorem d_L_init_96 : decode b_L_init 96 = .ok (.iconst (-1), 1) := by decide +kernel
theorem d_L_init_97 : decode b_L_init 97 = .ok (.if_icmp .eq 25, 3) := by decide +kernel
theorem d_L_init_100 : decode b_L_init 100 = .ok (.aload_n 0, 1) := by decide +kernel
theorem d_L_init_101 : decode b_L_init 101 = .ok (.getfield 19, 3) := by decide +kernel
theorem d_L_init_104 : decode b_L_init 104 = .ok (.iload_n 2, 1) := by decide +kernel
theorem d_L_init_105 : decode b_L_init 105 = .ok (.iload_n 3, 1) := by decide +kernel
theorem d_L_init_106 : decode b_L_init 106 = .ok (.iastore, 1) := by decide +kernel
theorem d_L_init_107 : decode b_L_init 107 = .ok (.aload_n 0, 1) := by decide +kernel
theorem d_L_init_108 : decode b_L_init 108 = .ok (.getfield 26, 3) := by decide +kernel
theorem d_L_init_111 : decode b_L_init 111 = .ok (.iload_n 3, 1) := by decide +kernel
theorem d_L_init_112 : decode b_L_init 112 = .ok (.iload_n 2, 1) := by decide +kernel
theorem d_L_init_113 : decode b_L_init 113 = .ok (.iastore, 1) := by decide +kernel
theorem d_L_init_114 : decode b_L_init 114 = .ok (.aload_n 0, 1) := by decide +kernel
theorem d_L_init_115 : decode b_L_init 115 = .ok (.getfield 23, 3) := by decide +kernel
theorem d_L_init_118 : decode b_L_init 118 = .ok (.iload_n 3, 1) := by decide +kernel
theorem d_L_init_119 : decode b_L_init 119 = .ok (.invokestatic 39, 3) := by decide +kernel
theorem d_L_init_122 : decode b_L_init 122 = .ok (.iinc 2 1, 3) := by decide +kernel
theorem d_L_init_125 : decode b_L_init 125 = .ok (.goto (-47), 3) := by decide +kernel
theorem d_L_init_128 : decode b_L_init 128 = .ok (.return_, 1) := by decide +kernel
abbrev w_L_greatestSum : List Cond := .code y_L_greatestSum b_L_greatestSum 1 (some .int) :: wA
abbrev rm_L_greatestSum : Room := { frames := 1, cells := 0, slots := 0, locals := 24 }
theorem d_L_greatestSum_0 : decode b_L_greatestSum 0 = .ok (.aload_n 0, 1) := by decide +kernel
theorem d_L_greatestSum_1 : decode b_L_greatestSum 1 = .ok (.getfield 23, 3) := by decide +kernel
theorem d_L_greatestSum_4 : decode b_L_greatestSum 4 = .ok (.iconst 0, 1) := by decide +kernel
theorem d_L_greatestSum_5 : decode b_L_greatestSum 5 = .ok (.invokestatic 52, 3) := by decide +kernel
theorem d_L_greatestSum_8 : decode b_L_greatestSum 8 = .ok (.ireturn, 1) := by decide +kernel
abbrev w_L_bitFor : List Cond := .code y_L_bitFor b_L_bitFor 2 (some .int) :: wA
abbrev rm_L_bitFor : Room := { frames := 0, cells := 0, slots := 0, locals := 0 }
theorem d_L_bitFor_0 : decode b_L_bitFor 0 = .ok (.iload_n 1, 1) := by decide +kernel
theorem d_L_bitFor_1 : decode b_L_bitFor 1 = .ok (.ifCond .lt 21, 3) := by decide +kernel
theorem d_L_bitFor_4 : decode b_L_bitFor 4 = .ok (.iload_n 1, 1) := by decide +kernel
theorem d_L_bitFor_5 : decode b_L_bitFor 5 = .ok (.aload_n 0, 1) := by decide +kernel
theorem d_L_bitFor_6 : decode b_L_bitFor 6 = .ok (.getfield 26, 3) := by decide +kernel
theorem d_L_bitFor_9 : decode b_L_bitFor 9 = .ok (.arraylength, 1) := by decide +kernel
theorem d_L_bitFor_10 : decode b_L_bitFor 10 = .ok (.if_icmp .ge 12, 3) := by decide +kernel
theorem d_L_bitFor_13 : decode b_L_bitFor 13 = .ok (.aload_n 0, 1) := by decide +kernel
theorem d_L_bitFor_14 : decode b_L_bitFor 14 = .ok (.getfield 26, 3) := by decide +kernel
theorem d_L_bitFor_17 : decode b_L_bitFor 17 = .ok (.iload_n 1, 1) := by decide +kernel
theorem d_L_bitFor_18 : decode b_L_bitFor 18 = .ok (.iaload, 1) := by decide +kernel
theorem d_L_bitFor_19 : decode b_L_bitFor 19 = .ok (.goto 4, 3) := by decide +kernel
theorem d_L_bitFor_22 : decode b_L_bitFor 22 = .ok (.iconst (-1), 1) := by decide +kernel
theorem d_L_bitFor_23 : decode b_L_bitFor 23 = .ok (.ireturn, 1) := by decide +kernel
abbrev w_L_columnAt : List Cond := .code y_L_columnAt b_L_columnAt 2 (some .int) :: wA
abbrev rm_L_columnAt : Room := { frames := 0, cells := 0, slots := 0, locals := 0 }
theorem d_L_columnAt_0 : decode b_L_columnAt 0 = .ok (.iload_n 1, 1) := by decide +kernel
theorem d_L_columnAt_1 : decode b_L_columnAt 1 = .ok (.ifCond .lt 21, 3) := by decide +kernel
theorem d_L_columnAt_4 : decode b_L_columnAt 4 = .ok (.iload_n 1, 1) := by decide +kernel
theorem d_L_columnAt_5 : decode b_L_columnAt 5 = .ok (.aload_n 0, 1) := by decide +kernel
theorem d_L_columnAt_6 : decode b_L_columnAt 6 = .ok (.getfield 19, 3) := by decide +kernel
theorem d_L_columnAt_9 : decode b_L_columnAt 9 = .ok (.arraylength, 1) := by decide +kernel
theorem d_L_columnAt_10 : decode b_L_columnAt 10 = .ok (.if_icmp .ge 12, 3) := by decide +kernel
theorem d_L_columnAt_13 : decode b_L_columnAt 13 = .ok (.aload_n 0, 1) := by decide +kernel
theorem d_L_columnAt_14 : decode b_L_columnAt 14 = .ok (.getfield 19, 3) := by decide +kernel
theorem d_L_columnAt_17 : decode b_L_columnAt 17 = .ok (.iload_n 1, 1) := by decide +kernel
theorem d_L_columnAt_18 : decode b_L_columnAt 18 = .ok (.iaload, 1) := by decide +kernel
theorem d_L_columnAt_19 : decode b_L_columnAt 19 = .ok (.goto 4, 3) := by decide +kernel
theorem d_L_columnAt_22 : decode b_L_columnAt 22 = .ok (.iconst 0, 1) := by decide +kernel
theorem d_L_columnAt_23 : decode b_L_columnAt 23 = .ok (.ireturn, 1) := by decide +kernel
set_option maxHeartbeats 4000000 in
set_option maxRecDepth 100000 in
/-- Lane(bits): its columns, row sums and what a syndrome points at -/
theorem c_L_init (l : Launch) (D : va_G) (g : Nat → ClassId) (sz : Nat) (wr : va_W) (o b : Nat) (hb57 : b ≤ 57) : Met l y_L_init w_L_init rm_L_init (va_Pc [.ref o, .int (nI b)] (pP D (tyl g) ((o, .inr (4, [.int (nI 0), .null, .null, .null])) :: wr) sz)) (va_Qv (fun (u : (Nat × Nat × Nat)) => True) (fun u => qB D (va_A ((o, .inr (4, [.int (nI 0), .null, .null, .null])) :: wr) sz) ((u.2.2, .inl (g 0, 2 ^ lr b, .inl (fun s => oI (ba (lr b) b b s)))) :: (u.2.1, .inl (g 0, lr b, .inl (fun r => nI (rsf (lr b) b r)))) :: (u.1, .inl (g 0, b, .inl (fun j => nI (if j < b then cc_ (lr b) j else 0)))) :: (o, .inr (4, [.int (nI (lr b)), .ref u.1, .ref u.2.1, .ref u.2.2])) :: wr)) (va_A ((o, .inr (4, [.int (nI 0), .null, .null, .null])) :: wr) sz)) 3 192 (va_A ((o, .inr (4, [.int (nI 0), .null, .null, .null])) :: wr) sz) := by
  refine Met.ofW (cc := b_L_init) (maxL := 4) (ret := none) (by decide +kernel) rfl ?_
  intro p e s m args below meth c s₁ Bq hml hv
  have hx := Bq.exec
  have hb := Bq.bytes
  have hr := Bq.returns
  have hts : ∀ w ∈ wA, w.before args s = true := fun w h => atoms_spec (ws := w_L_init) Bq.pre w (List.mem_cons_of_mem _ h)
  have hown : s.vm.findClass R_L = some m.cls := findClass_of_methodNamed Bq.named
  have hlocks := Bq.notSynchronized
  have hin : meth.name = "<init>" := (name_of_methodNamed Bq.named Bq.method).1
  obtain ⟨rfl, hsz, hP, hKK, hD0⟩ := hv
  have hK := hKK.1
  subst hsz
  have hD := hD0.self (sz := s.heap.size)
  generalize hAe : va_A ((o, .inr (4, [.int (nI 0), .null, .null, .null])) :: wr) s.heap.size = A at hD ⊢
  have hA : ∀ q : Nat, s.heap.size ≤ q → A q := fun q h => by rw [← hAe]; exact Or.inr h
  have hS : va_S A s.heap s.heap [] := va_S.rf
  have hl := lv_entry ([.ref o, .int (nI b)]) (n := 4) (Nat.le_of_ble_eq_true rfl)
  rw [lg_entry_eq]
  generalize (lg_sl ([.ref o, .int (nI b)]) ++ List.replicate (4 - (lg_sl ([.ref o, .int (nI b)])).length) Slot.unset).toArray = ls at hl ⊢
  have hl : lv_has ls 4 [(0, .ref o), (1, .int (nI b))] := hl
  generalize hQ : MQ below (va_Qv (fun (u : (Nat × Nat × Nat)) => True) (fun u => qB D (A) ((u.2.2, .inl (g 0, 2 ^ lr b, .inl (fun s => oI (ba (lr b) b b s)))) :: (u.2.1, .inl (g 0, lr b, .inl (fun r => nI (rsf (lr b) b r)))) :: (u.1, .inl (g 0, b, .inl (fun j => nI (if j < b then cc_ (lr b) j else 0)))) :: (o, .inr (4, [.int (nI (lr b)), .ref u.1, .ref u.2.1, .ref u.2.2])) :: wr)) (A)) [.ref o, .int (nI b)].toArray s 3 192 A = Q
  have hRc : (headSpec w_L_init rm_L_init).room.cells = 3 := rfl
  have hRs : (headSpec w_L_init rm_L_init).room.slots = 192 := rfl
  have hR7 := lr_le b
  have hnb := pow_le hR7
  have hlen := lr_len hb57
  refine lv_aload_n hx hb d_L_init_0 rfl (lv_at hl 0 rfl) ?_
  refine W.objInit hx hb hown (hts _ m_74) (hts _ m_54) (hts _ m_55) rfl (by rw [hml]; exact hl.1) rfl d_L_init_1 (Nat.le_of_ble_eq_true rfl) (Nat.le_of_ble_eq_true rfl) ?_
  refine W.eq (g2 := F0 m 4 ls []) rfl ?_
  refine lv_aload_n hx hb d_L_init_4 rfl (lv_at hl 0 rfl) ?_
  refine lv_iload_n hx hb d_L_init_5 rfl (lv_at hl 1 rfl) ?_
  refine lc_Si (As := [.int (nI b)]) (rest := [.ref o]) ⟨hx, hb, hml, hown, hts⟩ (c_L_checkBitsFor l D g _ _ b hb57) (kS 1 hts m_77 m_75 m_76 m_34 (by decide +kernel) ⟨Nat.le_of_ble_eq_true rfl, Nat.le_of_ble_eq_true rfl⟩) hKK hP hD hS hA hl.1 rfl rfl (Nat.le_of_ble_eq_true rfl) d_L_init_6 ⟨Nat.le_of_ble_eq_true rfl, Nat.le_of_ble_eq_true rfl⟩ (fun r1 u H locs e1 hP hD hS => ?_)
  obtain rfl : r1 = nI (lr b) := e1
  refine va_putF (D := D) (ci := 4) (v := .int (nI (lr b))) (ty := .int) (C := R_L) (T := F_L) (N := 4) hx hb hts i_L tf_L tf_L_ok nf_L hown hK hP hD hS 0 rfl rfl 0 (by decide) (hts _ m_100) (fun _ h9 => h9) rfl hin rfl (by decide +kernel) rfl rfl (Nat.le_of_ble_eq_true rfl) d_L_init_9 (fun H locs hP hD hS => ?_)
  have hP : va_P D vwCl ((o, .inr (4, [.int (nI (lr b)), .null, .null, .null])) :: wr) H := hP
  have hD : va_D A ((o, .inr (4, [.int (nI (lr b)), .null, .null, .null])) :: wr) := hD
  refine lv_aload_n hx hb d_L_init_12 rfl (lv_at hl 0 rfl) ?_
  refine lv_iload_n hx hb d_L_init_13 rfl (lv_at hl 1 rfl) ?_
  refine lx_newi (N := b) hx hb (hts _ m_115) hK hP hD hS hA (by omega) (Nat.le_of_ble_eq_true rfl) (by first | omega | exact Nat.le_of_ble_eq_true rfl) d_L_init_14 (fun qc H hP hD hS => ?_)
  refine W.widen (k := 1) (n := b) (by omega) (by omega) ?_
  have hP : va_P D vwCl ((qc, .inl (g 0, b, .inl (fun _ => nI 0))) :: (o, .inr (4, [.int (nI (lr b)), .null, .null, .null])) :: wr) H := hP
  have hD : va_D A ((qc, .inl (g 0, b, .inl (fun _ => nI 0))) :: (o, .inr (4, [.int (nI (lr b)), .null, .null, .null])) :: wr) := hD
  refine va_putF (D := D) (ci := 4) (v := .ref qc) (ty := .array .int) (C := R_L) (T := F_L) (N := 4) hx hb hts i_L tf_L tf_L_ok nf_L hown hK hP hD hS 1 rfl rfl 1 (by decide) (hts _ m_102) (fun _ h9 => h9) rfl hin rfl (by decide +kernel) rfl rfl (Nat.le_of_ble_eq_true rfl) d_L_init_16 (fun H locs hP hD hS => ?_)
  have hP : va_P D vwCl ((qc, .inl (g 0, b, .inl (fun _ => nI 0))) :: (o, .inr (4, [.int (nI (lr b)), .ref qc, .null, .null])) :: wr) H := hP
  have hD : va_D A ((qc, .inl (g 0, b, .inl (fun _ => nI 0))) :: (o, .inr (4, [.int (nI (lr b)), .ref qc, .null, .null])) :: wr) := hD
  refine lv_aload_n hx hb d_L_init_19 rfl (lv_at hl 0 rfl) ?_
  refine lv_aload_n hx hb d_L_init_20 rfl (lv_at hl 0 rfl) ?_
  refine va_get (D := D) (ci := 4) (v := .int (nI (lr b))) (C := R_L) (T := F_L) (N := 4) hx hb hts i_L hown hK hP 1 rfl rfl 0 (by decide) (hts _ m_100) (fun _ h9 => h9) rfl d_L_init_21 ?_
  refine lx_newi (N := lr b) hx hb (hts _ m_115) hK hP hD hS hA (by omega) (Nat.le_of_ble_eq_true rfl) (by first | omega | exact Nat.le_of_ble_eq_true rfl) d_L_init_24 (fun qr H hP hD hS => ?_)
  refine W.widen (k := 1 + 1) (n := b + (lr b)) (by omega) (by omega) ?_
  have hP : va_P D vwCl ((qr, .inl (g 0, lr b, .inl (fun _ => nI 0))) :: (qc, .inl (g 0, b, .inl (fun _ => nI 0))) :: (o, .inr (4, [.int (nI (lr b)), .ref qc, .null, .null])) :: wr) H := hP
  have hD : va_D A ((qr, .inl (g 0, lr b, .inl (fun _ => nI 0))) :: (qc, .inl (g 0, b, .inl (fun _ => nI 0))) :: (o, .inr (4, [.int (nI (lr b)), .ref qc, .null, .null])) :: wr) := hD
  refine va_putF (D := D) (ci := 4) (v := .ref qr) (ty := .array .int) (C := R_L) (T := F_L) (N := 4) hx hb hts i_L tf_L tf_L_ok nf_L hown hK hP hD hS 2 rfl rfl 2 (by decide) (hts _ m_104) (fun _ h9 => h9) rfl hin rfl (by decide +kernel) rfl rfl (Nat.le_of_ble_eq_true rfl) d_L_init_26 (fun H locs hP hD hS => ?_)
  have hP : va_P D vwCl ((qr, .inl (g 0, lr b, .inl (fun _ => nI 0))) :: (qc, .inl (g 0, b, .inl (fun _ => nI 0))) :: (o, .inr (4, [.int (nI (lr b)), .ref qc, .ref qr, .null])) :: wr) H := hP
  have hD : va_D A ((qr, .inl (g 0, lr b, .inl (fun _ => nI 0))) :: (qc, .inl (g 0, b, .inl (fun _ => nI 0))) :: (o, .inr (4, [.int (nI (lr b)), .ref qc, .ref qr, .null])) :: wr) := hD
  refine lv_aload_n hx hb d_L_init_29 rfl (lv_at hl 0 rfl) ?_
  refine lv_iconst (v := nI 1) hx hb d_L_init_30 (by decide) ?_
  refine lv_aload_n hx hb d_L_init_31 rfl (lv_at hl 0 rfl) ?_
  refine va_get (D := D) (ci := 4) (v := .int (nI (lr b))) (C := R_L) (T := F_L) (N := 4) hx hb hts i_L hown hK hP 2 rfl rfl 0 (by decide) (hts _ m_100) (fun _ h9 => h9) rfl d_L_init_32 ?_
  refine lx_ishl (z := nI (2 ^ lr b)) hx hb d_L_init_35 ((xn_shl 1 (by omega)).trans (by rw [Nat.one_shiftLeft])) ?_
  refine lx_newi (N := 2 ^ lr b) hx hb (hts _ m_115) hK hP hD hS hA (by omega) (by first | omega | exact Nat.le_of_ble_eq_true rfl) (by first | omega | exact Nat.le_of_ble_eq_true rfl) d_L_init_36 (fun qb H hP hD hS => ?_)
  refine W.widen (k := 1 + 1 + 1) (n := b + (lr b) + (2 ^ lr b)) (by omega) (by omega) ?_
  have hP : va_P D vwCl ((qb, .inl (g 0, 2 ^ lr b, .inl (fun _ => nI 0))) :: (qr, .inl (g 0, lr b, .inl (fun _ => nI 0))) :: (qc, .inl (g 0, b, .inl (fun _ => nI 0))) :: (o, .inr (4, [.int (nI (lr b)), .ref qc, .ref qr, .null])) :: wr) H := hP
  have hD : va_D A ((qb, .inl (g 0, 2 ^ lr b, .inl (fun _ => nI 0))) :: (qr, .inl (g 0, lr b, .inl (fun _ => nI 0))) :: (qc, .inl (g 0, b, .inl (fun _ => nI 0))) :: (o, .inr (4, [.int (nI (lr b)), .ref qc, .ref qr, .null])) :: wr) := hD
  refine va_putF (D := D) (ci := 4) (v := .ref qb) (ty := .array .int) (C := R_L) (T := F_L) (N := 4) hx hb hts i_L tf_L tf_L_ok nf_L hown hK hP hD hS 3 rfl rfl 3 (by decide) (hts _ m_105) (fun _ h9 => h9) rfl hin rfl (by decide +kernel) rfl rfl (Nat.le_of_ble_eq_true rfl) d_L_init_38 (fun H locs hP hD hS => ?_)
  have hP : va_P D vwCl ((qb, .inl (g 0, 2 ^ lr b, .inl (fun _ => nI 0))) :: (qr, .inl (g 0, lr b, .inl (fun _ => nI 0))) :: (qc, .inl (g 0, b, .inl (fun _ => nI 0))) :: (o, .inr (4, [.int (nI (lr b)), .ref qc, .ref qr, .ref qb])) :: wr) H := hP
  have hD : va_D A ((qb, .inl (g 0, 2 ^ lr b, .inl (fun _ => nI 0))) :: (qr, .inl (g 0, lr b, .inl (fun _ => nI 0))) :: (qc, .inl (g 0, b, .inl (fun _ => nI 0))) :: (o, .inr (4, [.int (nI (lr b)), .ref qc, .ref qr, .ref qb])) :: wr) := hD
  refine lv_aload_n hx hb d_L_init_41 rfl (lv_at hl 0 rfl) ?_
  refine va_get (D := D) (ci := 4) (v := .ref qb) (C := R_L) (T := F_L) (N := 4) hx hb hts i_L hown hK hP 3 rfl rfl 3 (by decide) (hts _ m_105) (fun _ h9 => h9) rfl d_L_init_42 ?_
  refine lv_iconst (v := (-1)) hx hb d_L_init_45 (by decide) ?_
  refine lc_Sv (As := [.ref qb, .int ((-1))]) (rest := []) ⟨hx, hb, hml, hown, hts⟩ (c_JA_fill l D g _ _ qb (2 ^ lr b) (fun _ => nI 0) (-1) (by omega)) (kS 2 hts m_80 m_78 m_79 m_35 (by decide +kernel) ⟨Nat.le_of_ble_eq_true rfl, Nat.le_of_ble_eq_true rfl⟩) hKK hP hD hS hA hl.1 rfl rfl (Nat.le_of_ble_eq_true rfl) d_L_init_46 ⟨by first | omega | exact Nat.le_of_ble_eq_true rfl, by first | omega | exact Nat.le_of_ble_eq_true rfl⟩ (fun u H locs _ hP hD hS => ?_)
  have hP : va_P D vwCl ((qb, .inl (g 0, 2 ^ lr b, .inl (fun j => if j < 2 ^ lr b then (-1) else nI 0))) :: (qr, .inl (g 0, lr b, .inl (fun _ => nI 0))) :: (qc, .inl (g 0, b, .inl (fun _ => nI 0))) :: (o, .inr (4, [.int (nI (lr b)), .ref qc, .ref qr, .ref qb])) :: wr) H := hP
  have hD : va_D A ((qb, .inl (g 0, 2 ^ lr b, .inl (fun j => if j < 2 ^ lr b then (-1) else nI 0))) :: (qr, .inl (g 0, lr b, .inl (fun _ => nI 0))) :: (qc, .inl (g 0, b, .inl (fun _ => nI 0))) :: (o, .inr (4, [.int (nI (lr b)), .ref qc, .ref qr, .ref qb])) :: wr) := hD
  have hP : va_P D vwCl ((qb, .inl (g 0, 2 ^ lr b, .inl (fun s => oI (pw b 0 s)))) :: (qr, .inl (g 0, lr b, .inl (fun _ => nI 0))) :: (qc, .inl (g 0, b, .inl (fun _ => nI 0))) :: (o, .inr (4, [.int (nI (lr b)), .ref qc, .ref qr, .ref qb])) :: wr) H := wp_at 0 hP rfl (fun j hj => by rw [if_pos hj]; rfl)
  have hD : va_D A ((qb, .inl (g 0, 2 ^ lr b, .inl (fun s => oI (pw b 0 s)))) :: (qr, .inl (g 0, lr b, .inl (fun _ => nI 0))) :: (qc, .inl (g 0, b, .inl (fun _ => nI 0))) :: (o, .inr (4, [.int (nI (lr b)), .ref qc, .ref qr, .ref qb])) :: wr) := hD.set (p := 0) rfl
  have lp78 : ∀ (n : Nat) (k : Nat) (ls : Array Slot) (H : Heap) (locs : List Loc), (b + 1 ≤ k + n) → (k ≤ b) → lv_has ls 4 [(0, .ref o), (1, .int (nI b)), (2, .int (nI k))] → va_P D vwCl ((qb, .inl (g 0, 2 ^ lr b, .inl (fun s => oI (ba (lr b) b k s)))) :: (qr, .inl (g 0, lr b, .inl (fun r => nI (rsf (lr b) k r)))) :: (qc, .inl (g 0, b, .inl (fun j => nI (if j < k then cc_ (lr b) j else 0)))) :: (o, .inr (4, [.int (nI (lr b)), .ref qc, .ref qr, .ref qb])) :: wr) H → va_D A ((qb, .inl (g 0, 2 ^ lr b, .inl (fun s => oI (ba (lr b) b k s)))) :: (qr, .inl (g 0, lr b, .inl (fun r => nI (rsf (lr b) k r)))) :: (qc, .inl (g 0, b, .inl (fun j => nI (if j < k then cc_ (lr b) j else 0)))) :: (o, .inr (4, [.int (nI (lr b)), .ref qc, .ref qr, .ref qb])) :: wr) → va_S A s.heap H locs → W p l e (headSpec w_L_init rm_L_init).room s m [.ref o, .int (nI b)].toArray below meth c H locs (1 + 1 + 1) (b + (lr b) + (2 ^ lr b)) Q (F0 m 78 ls []) := by
    intro n
    induction n with
    | zero => intro k ls H locs hfu hk _ _ _ _; exact absurd hfu (by omega)
    | succ n ih =>
      intro k ls H locs hfu hk hl hP hD hS
      refine lv_iload_n hx hb d_L_init_78 rfl (lv_at hl 2 rfl) ?_
      refine lv_iload_n hx hb d_L_init_79 rfl (lv_at hl 1 rfl) ?_
      refine lx_icmp_ge (tgt := 128) hx hb d_L_init_80 (by decide) (by omega) (by omega) (fun c80 => ?_) (fun c80 => ?_)
      · skip
        obtain rfl : k = b := by omega
        refine W.widen (k := 3) (n := 192) (by omega) (by omega) ?_
        rw [← hQ]
        refine W.vret hx hb hr ?_ hS.2.2 d_L_init_128
        exact fun t ht hW => ⟨⟨(qc, qr, qb), rfl, trivial, by rw [ht]; exact hP, hD⟩, hS.F ht⟩
      · skip
        have h4 : lr b = 4 ∨ lr b = 5 ∨ lr b = 6 ∨ lr b = 7 := lr_in (by omega)
        have hkl : k < (ct (lr b)).length := by omega
        obtain ⟨hci, hcn⟩ := cc_in h4 hkl
        refine lv_aload_n hx hb d_L_init_83 rfl (lv_at hl 0 rfl) ?_
        refine va_get (D := D) (ci := 4) (v := .ref qb) (C := R_L) (T := F_L) (N := 4) hx hb hts i_L hown hK hP 3 rfl rfl 3 (by decide) (hts _ m_105) (fun _ h9 => h9) rfl d_L_init_84 ?_
        refine lv_aload_n hx hb d_L_init_87 rfl (lv_at hl 0 rfl) ?_
        refine va_get (D := D) (ci := 4) (v := .ref qr) (C := R_L) (T := F_L) (N := 4) hx hb hts i_L hown hK hP 3 rfl rfl 2 (by decide) (hts _ m_104) (fun _ h9 => h9) rfl d_L_init_88 ?_
        refine lc_Si (As := [.ref qb, .ref qr]) (rest := []) ⟨hx, hb, hml, hown, hts⟩ (c_L_bestColumn l D g _ _ 0 1 qb qr (2 ^ lr b) (lr b) (ba (lr b) b k) (rsf (lr b) k) rfl rfl (fun s => ba_lt hb57 (by omega) hR7) (fun j _ => by have := rsf_le (R := lr b) k j; omega) hR7 hnb) (kS 2 hts m_83 m_81 m_82 m_34 (by decide +kernel) ⟨Nat.le_of_ble_eq_true rfl, Nat.le_of_ble_eq_true rfl⟩) hKK hP hD hS hA hl.1 rfl rfl (Nat.le_of_ble_eq_true rfl) d_L_init_91 ⟨by first | omega | exact Nat.le_of_ble_eq_true rfl, by first | omega | exact Nat.le_of_ble_eq_true rfl⟩ (fun r2 u H locs e2 hP hD hS => ?_)
        obtain rfl : r2 = nI (cc_ (lr b) k) := by rw [e2, ba_fr, best_ok h4 hkl]; rfl
        refine lv_istore_n (lv' := [(3, .int (nI (cc_ (lr b) k))), (0, .ref o), (1, .int (nI b)), (2, .int (nI k))]) hx hb d_L_init_94 rfl hl (by decide) rfl (fun ls hl => ?_)
        refine lv_iload_n hx hb d_L_init_95 rfl (lv_at hl 0 rfl) ?_
        refine lv_iconst (v := (-1)) hx hb d_L_init_96 (by decide) ?_
        refine lv_icmp_eq (tgt := 122) hx hb d_L_init_97 (by decide) (fun c97 => ?_) (fun c97 => ?_)
        · skip
          exact absurd c97 (nI_nm1 (by omega))
        · skip
          refine lv_aload_n hx hb d_L_init_100 rfl (lv_at hl 1 rfl) ?_
          refine va_get (D := D) (ci := 4) (v := .ref qc) (C := R_L) (T := F_L) (N := 4) hx hb hts i_L hown hK hP 3 rfl rfl 1 (by decide) (hts _ m_102) (fun _ h9 => h9) rfl d_L_init_101 ?_
          refine lv_iload_n hx hb d_L_init_104 rfl (lv_at hl 3 rfl) ?_
          refine lv_iload_n hx hb d_L_init_105 rfl (lv_at hl 0 rfl) ?_
          refine lx_iast (f' := fun j => nI (if j < k + 1 then cc_ (lr b) j else 0)) hx hb hK hP hD hS 2 0 rfl rfl (j := k) (by omega) (by omega) (upd_lt (fun _ => 0) (cc_ (lr b)) k) d_L_init_106 (fun H locs hP hD hS => ?_)
          have hP : va_P D vwCl ((qb, .inl (g 0, 2 ^ lr b, .inl (fun s => oI (ba (lr b) b k s)))) :: (qr, .inl (g 0, lr b, .inl (fun r => nI (rsf (lr b) k r)))) :: (qc, .inl (g 0, b, .inl (fun j => nI (if j < k + 1 then cc_ (lr b) j else 0)))) :: (o, .inr (4, [.int (nI (lr b)), .ref qc, .ref qr, .ref qb])) :: wr) H := hP
          have hD : va_D A ((qb, .inl (g 0, 2 ^ lr b, .inl (fun s => oI (ba (lr b) b k s)))) :: (qr, .inl (g 0, lr b, .inl (fun r => nI (rsf (lr b) k r)))) :: (qc, .inl (g 0, b, .inl (fun j => nI (if j < k + 1 then cc_ (lr b) j else 0)))) :: (o, .inr (4, [.int (nI (lr b)), .ref qc, .ref qr, .ref qb])) :: wr) := hD
          refine lv_aload_n hx hb d_L_init_107 rfl (lv_at hl 1 rfl) ?_
          refine va_get (D := D) (ci := 4) (v := .ref qb) (C := R_L) (T := F_L) (N := 4) hx hb hts i_L hown hK hP 3 rfl rfl 3 (by decide) (hts _ m_105) (fun _ h9 => h9) rfl d_L_init_108 ?_
          refine lv_iload_n hx hb d_L_init_111 rfl (lv_at hl 0 rfl) ?_
          refine lv_iload_n hx hb d_L_init_112 rfl (lv_at hl 3 rfl) ?_
          refine lx_iast (f' := fun s => oI (ba (lr b) b (k + 1) s)) hx hb hK hP hD hS 0 0 rfl rfl (j := cc_ (lr b) k) (by omega) (by omega) (ba_upd hcn) d_L_init_113 (fun H locs hP hD hS => ?_)
          have hP : va_P D vwCl ((qb, .inl (g 0, 2 ^ lr b, .inl (fun s => oI (ba (lr b) b (k + 1) s)))) :: (qr, .inl (g 0, lr b, .inl (fun r => nI (rsf (lr b) k r)))) :: (qc, .inl (g 0, b, .inl (fun j => nI (if j < k + 1 then cc_ (lr b) j else 0)))) :: (o, .inr (4, [.int (nI (lr b)), .ref qc, .ref qr, .ref qb])) :: wr) H := hP
          have hD : va_D A ((qb, .inl (g 0, 2 ^ lr b, .inl (fun s => oI (ba (lr b) b (k + 1) s)))) :: (qr, .inl (g 0, lr b, .inl (fun r => nI (rsf (lr b) k r)))) :: (qc, .inl (g 0, b, .inl (fun j => nI (if j < k + 1 then cc_ (lr b) j else 0)))) :: (o, .inr (4, [.int (nI (lr b)), .ref qc, .ref qr, .ref qb])) :: wr) := hD
          refine lv_aload_n hx hb d_L_init_114 rfl (lv_at hl 1 rfl) ?_
          refine va_get (D := D) (ci := 4) (v := .ref qr) (C := R_L) (T := F_L) (N := 4) hx hb hts i_L hown hK hP 3 rfl rfl 2 (by decide) (hts _ m_104) (fun _ h9 => h9) rfl d_L_init_115 ?_
          refine lv_iload_n hx hb d_L_init_118 rfl (lv_at hl 0 rfl) ?_
          have hP : va_P D vwCl ((qr, .inl (g 0, lr b, .inl (fun r => nI (rsf (lr b) k r)))) :: (qb, .inl (g 0, 2 ^ lr b, .inl (fun s => oI (ba (lr b) b (k + 1) s)))) :: (qc, .inl (g 0, b, .inl (fun j => nI (if j < k + 1 then cc_ (lr b) j else 0)))) :: (o, .inr (4, [.int (nI (lr b)), .ref qc, .ref qr, .ref qb])) :: wr) H := wp_pull [(qb, .inl (g 0, 2 ^ lr b, .inl (fun s => oI (ba (lr b) b (k + 1) s))))] hP
          have hD : va_D A ((qr, .inl (g 0, lr b, .inl (fun r => nI (rsf (lr b) k r)))) :: (qb, .inl (g 0, 2 ^ lr b, .inl (fun s => oI (ba (lr b) b (k + 1) s)))) :: (qc, .inl (g 0, b, .inl (fun j => nI (if j < k + 1 then cc_ (lr b) j else 0)))) :: (o, .inr (4, [.int (nI (lr b)), .ref qc, .ref qr, .ref qb])) :: wr) := wd_pull [(qb, .inl (g 0, 2 ^ lr b, .inl (fun s => oI (ba (lr b) b (k + 1) s))))] hD
          refine lc_Sv (As := [.ref qr, .int (nI (cc_ (lr b) k))]) (rest := []) ⟨hx, hb, hml, hown, hts⟩ (c_L_addTo l D g _ _ qr (lr b) (rsf (lr b) k) (cc_ (lr b) k) (by omega) (by omega)) (kS 2 hts m_99 m_97 m_98 m_34 (by decide +kernel) ⟨Nat.le_of_ble_eq_true rfl, Nat.le_of_ble_eq_true rfl⟩) hKK hP hD hS hA hl.1 rfl rfl (Nat.le_of_ble_eq_true rfl) d_L_init_119 ⟨by first | omega | exact Nat.le_of_ble_eq_true rfl, by first | omega | exact Nat.le_of_ble_eq_true rfl⟩ (fun u H locs _ hP hD hS => ?_)
          have hP : va_P D vwCl ((qr, .inl (g 0, lr b, .inl (fun j => nI (if j < lr b then rsf (lr b) k j + cc_ (lr b) k >>> j % 2 else rsf (lr b) k j)))) :: (qb, .inl (g 0, 2 ^ lr b, .inl (fun s => oI (ba (lr b) b (k + 1) s)))) :: (qc, .inl (g 0, b, .inl (fun j => nI (if j < k + 1 then cc_ (lr b) j else 0)))) :: (o, .inr (4, [.int (nI (lr b)), .ref qc, .ref qr, .ref qb])) :: wr) H := hP
          have hD : va_D A ((qr, .inl (g 0, lr b, .inl (fun j => nI (if j < lr b then rsf (lr b) k j + cc_ (lr b) k >>> j % 2 else rsf (lr b) k j)))) :: (qb, .inl (g 0, 2 ^ lr b, .inl (fun s => oI (ba (lr b) b (k + 1) s)))) :: (qc, .inl (g 0, b, .inl (fun j => nI (if j < k + 1 then cc_ (lr b) j else 0)))) :: (o, .inr (4, [.int (nI (lr b)), .ref qc, .ref qr, .ref qb])) :: wr) := hD
          have hP : va_P D vwCl ((qb, .inl (g 0, 2 ^ lr b, .inl (fun s => oI (ba (lr b) b (k + 1) s)))) :: (qr, .inl (g 0, lr b, .inl (fun j => nI (if j < lr b then rsf (lr b) k j + cc_ (lr b) k >>> j % 2 else rsf (lr b) k j)))) :: (qc, .inl (g 0, b, .inl (fun j => nI (if j < k + 1 then cc_ (lr b) j else 0)))) :: (o, .inr (4, [.int (nI (lr b)), .ref qc, .ref qr, .ref qb])) :: wr) H := wp_pull [(qr, .inl (g 0, lr b, .inl (fun j => nI (if j < lr b then rsf (lr b) k j + cc_ (lr b) k >>> j % 2 else rsf (lr b) k j))))] hP
          have hD : va_D A ((qb, .inl (g 0, 2 ^ lr b, .inl (fun s => oI (ba (lr b) b (k + 1) s)))) :: (qr, .inl (g 0, lr b, .inl (fun j => nI (if j < lr b then rsf (lr b) k j + cc_ (lr b) k >>> j % 2 else rsf (lr b) k j)))) :: (qc, .inl (g 0, b, .inl (fun j => nI (if j < k + 1 then cc_ (lr b) j else 0)))) :: (o, .inr (4, [.int (nI (lr b)), .ref qc, .ref qr, .ref qb])) :: wr) := wd_pull [(qr, .inl (g 0, lr b, .inl (fun j => nI (if j < lr b then rsf (lr b) k j + cc_ (lr b) k >>> j % 2 else rsf (lr b) k j))))] hD
          refine lv_iinc (v := nI (k + 1)) (lv' := [(2, .int (nI (k + 1))), (3, .int (nI (cc_ (lr b) k))), (0, .ref o), (1, .int (nI b))]) hx hb d_L_init_122 hl (k := 3) rfl (nI_1 k) (by decide) rfl (fun ls hl => ?_)
          refine lv_goto (tgt := 78) hx hb d_L_init_125 (by decide) ?_
          exact ih (k + 1) _ _ _ (by omega) (by omega) (lv_sub hl [2, 3, 0] rfl) hP hD hS
  have lp51 : ∀ (n : Nat) (k : Nat) (ls : Array Slot) (H : Heap) (locs : List Loc), (lr b + 1 ≤ k + n) → (k ≤ lr b) → lv_has ls 4 [(0, .ref o), (1, .int (nI b)), (2, .int (nI k))] → va_P D vwCl ((qb, .inl (g 0, 2 ^ lr b, .inl (fun s => oI (pw b k s)))) :: (qr, .inl (g 0, lr b, .inl (fun _ => nI 0))) :: (qc, .inl (g 0, b, .inl (fun _ => nI 0))) :: (o, .inr (4, [.int (nI (lr b)), .ref qc, .ref qr, .ref qb])) :: wr) H → va_D A ((qb, .inl (g 0, 2 ^ lr b, .inl (fun s => oI (pw b k s)))) :: (qr, .inl (g 0, lr b, .inl (fun _ => nI 0))) :: (qc, .inl (g 0, b, .inl (fun _ => nI 0))) :: (o, .inr (4, [.int (nI (lr b)), .ref qc, .ref qr, .ref qb])) :: wr) → va_S A s.heap H locs → W p l e (headSpec w_L_init rm_L_init).room s m [.ref o, .int (nI b)].toArray below meth c H locs (1 + 1 + 1) (b + (lr b) + (2 ^ lr b)) Q (F0 m 51 ls []) := by
    intro n
    induction n with
    | zero => intro k ls H locs hfu hk _ _ _ _; exact absurd hfu (by omega)
    | succ n ih =>
      intro k ls H locs hfu hk hl hP hD hS
      refine lv_iload_n hx hb d_L_init_51 rfl (lv_at hl 2 rfl) ?_
      refine lv_aload_n hx hb d_L_init_52 rfl (lv_at hl 0 rfl) ?_
      refine va_get (D := D) (ci := 4) (v := .int (nI (lr b))) (C := R_L) (T := F_L) (N := 4) hx hb hts i_L hown hK hP 3 rfl rfl 0 (by decide) (hts _ m_100) (fun _ h9 => h9) rfl d_L_init_53 ?_
      refine lx_icmp_ge (tgt := 76) hx hb d_L_init_56 (by decide) (by omega) (by omega) (fun c56 => ?_) (fun c56 => ?_)
      · skip
        obtain rfl : k = lr b := by omega
        refine lv_iconst (v := nI 0) hx hb d_L_init_76 (by decide) ?_
        refine lv_istore_n (lv' := [(2, .int (nI 0)), (0, .ref o), (1, .int (nI b))]) hx hb d_L_init_77 rfl hl (by decide) rfl (fun ls hl => ?_)
        exact lp78 (b + 1) 0 _ _ _ (by omega) (by omega) (lv_sub hl [1, 2, 0] rfl) hP hD hS
      · skip
        refine lv_aload_n hx hb d_L_init_59 rfl (lv_at hl 0 rfl) ?_
        refine va_get (D := D) (ci := 4) (v := .ref qb) (C := R_L) (T := F_L) (N := 4) hx hb hts i_L hown hK hP 3 rfl rfl 3 (by decide) (hts _ m_105) (fun _ h9 => h9) rfl d_L_init_60 ?_
        refine lv_iconst (v := nI 1) hx hb d_L_init_63 (by decide) ?_
        refine lv_iload_n hx hb d_L_init_64 rfl (lv_at hl 2 rfl) ?_
        refine lx_ishl (z := nI (2 ^ k)) hx hb d_L_init_65 ((xn_shl 1 (by omega)).trans (by rw [Nat.one_shiftLeft])) ?_
        refine lv_iload_n hx hb d_L_init_66 rfl (lv_at hl 1 rfl) ?_
        refine lv_iload_n hx hb d_L_init_67 rfl (lv_at hl 2 rfl) ?_
        refine lx_iadd (z := nI (b + k)) hx hb d_L_init_68 (nI_add b k) ?_
        refine lx_iast (f' := fun s => oI (pw b (k + 1) s)) hx hb hK hP hD hS 0 0 rfl rfl (j := 2 ^ k) (Nat.pow_lt_pow_right (by decide) c56) (by omega) (pw_upd b k) d_L_init_69 (fun H locs hP hD hS => ?_)
        have hP : va_P D vwCl ((qb, .inl (g 0, 2 ^ lr b, .inl (fun s => oI (pw b (k + 1) s)))) :: (qr, .inl (g 0, lr b, .inl (fun _ => nI 0))) :: (qc, .inl (g 0, b, .inl (fun _ => nI 0))) :: (o, .inr (4, [.int (nI (lr b)), .ref qc, .ref qr, .ref qb])) :: wr) H := hP
        have hD : va_D A ((qb, .inl (g 0, 2 ^ lr b, .inl (fun s => oI (pw b (k + 1) s)))) :: (qr, .inl (g 0, lr b, .inl (fun _ => nI 0))) :: (qc, .inl (g 0, b, .inl (fun _ => nI 0))) :: (o, .inr (4, [.int (nI (lr b)), .ref qc, .ref qr, .ref qb])) :: wr) := hD
        refine lv_iinc (v := nI (k + 1)) (lv' := [(2, .int (nI (k + 1))), (0, .ref o), (1, .int (nI b))]) hx hb d_L_init_70 hl (k := 2) rfl (nI_1 k) (by decide) rfl (fun ls hl => ?_)
        refine lv_goto (tgt := 51) hx hb d_L_init_73 (by decide) ?_
        exact ih (k + 1) _ _ _ (by omega) (by omega) (lv_sub hl [1, 2, 0] rfl) hP hD hS
  refine lv_iconst (v := nI 0) hx hb d_L_init_49 (by decide) ?_
  refine lv_istore_n (lv' := [(2, .int (nI 0)), (0, .ref o), (1, .int (nI b))]) hx hb d_L_init_50 rfl hl (by decide) rfl (fun ls hl => ?_)
  exact lp51 (lr b + 1) 0 _ _ _ (by omega) (by omega) (lv_sub hl [1, 2, 0] rfl) hP hD hS
set_option maxHeartbeats 4000000 in
set_option maxRecDepth 100000 in
theorem c_L_greatestSum (l : Launch) (D : va_G) (g : Nat → ClassId) (sz : Nat) (ws : va_W) (k0 k1 o a x1 x3 n0 : Nat) (x0 : Int32) (f : Nat → Nat) (h0 : ws[k0]? = some (o, .inr (4, [.int (x0), .ref x1, .ref a, .ref x3]))) (h1 : ws[k1]? = some (a, .inl (g 0, n0, .inl (fun r => nI (f r))))) (hn0 : n0 ≤ 32) (hf : ∀ k, k < n0 → f k < 2 ^ 20) : Met l y_L_greatestSum w_L_greatestSum rm_L_greatestSum (va_Pc [.ref o] (pP D (tyl g) (ws) sz)) (va_Qi (fun (r : Int32) (u : Unit) => r = nI (gs f 0 n0)) (fun u => qB D (va_A (ws) sz) (ws)) (va_A (ws) sz)) 0 0 (va_A (ws) sz) := by
  refine Met.ofW (cc := b_L_greatestSum) (maxL := 1) (ret := (some .int)) (by decide +kernel) rfl ?_
  intro p e s m args below meth c s₁ Bq hml hv
  have hx := Bq.exec
  have hb := Bq.bytes
  have hr := Bq.returns
  have hts : ∀ w ∈ wA, w.before args s = true := fun w h => atoms_spec (ws := w_L_greatestSum) Bq.pre w (List.mem_cons_of_mem _ h)
  have hown : s.vm.findClass R_L = some m.cls := findClass_of_methodNamed Bq.named
  have hlocks := Bq.notSynchronized
  obtain ⟨rfl, hsz, hP, hKK, hD0⟩ := hv
  have hK := hKK.1
  subst hsz
  have hD := hD0.self (sz := s.heap.size)
  generalize hAe : va_A (ws) s.heap.size = A at hD ⊢
  have hA : ∀ q : Nat, s.heap.size ≤ q → A q := fun q h => by rw [← hAe]; exact Or.inr h
  have hS : va_S A s.heap s.heap [] := va_S.rf
  have hl := lv_entry ([.ref o]) (n := 1) (Nat.le_of_ble_eq_true rfl)
  rw [lg_entry_eq]
  generalize (lg_sl ([.ref o]) ++ List.replicate (1 - (lg_sl ([.ref o])).length) Slot.unset).toArray = ls at hl ⊢
  have hl : lv_has ls 1 [(0, .ref o)] := hl
  generalize hQ : MQ below (va_Qi (fun (r : Int32) (u : Unit) => r = nI (gs f 0 n0)) (fun u => qB D (A) (ws)) (A)) [.ref o].toArray s 0 0 A = Q
  refine lv_aload_n hx hb d_L_greatestSum_0 rfl (lv_at hl 0 rfl) ?_
  refine va_get (D := D) (ci := 4) (v := .ref a) (C := R_L) (T := F_L) (N := 4) hx hb hts i_L hown hK hP k0 h0 rfl 2 (by decide) (hts _ m_104) (fun _ h9 => h9) rfl d_L_greatestSum_1 ?_
  refine lv_iconst (v := nI 0) hx hb d_L_greatestSum_4 (by decide) ?_
  refine lc_Si (As := [.ref a, .int (nI 0)]) (rest := []) ⟨hx, hb, hml, hown, hts⟩ (c_L_greatestSumWith l D g _ ws k1 a n0 f 0 h1 hn0 hf (by decide)) (kS 2 hts m_96 m_94 m_95 m_34 (by decide +kernel) ⟨Nat.le_of_ble_eq_true rfl, Nat.le_of_ble_eq_true rfl⟩) hKK hP hD hS hA hl.1 rfl rfl (Nat.le_of_ble_eq_true rfl) d_L_greatestSum_5 ⟨Nat.le_of_ble_eq_true rfl, Nat.le_of_ble_eq_true rfl⟩ (fun r1 u H locs e1 hP hD hS => ?_)
  rw [← hQ]
  refine W.iret (v := r1) hx hb hr ?_ hS.2.2 d_L_greatestSum_8
  exact fun t ht hW => ⟨⟨r1, (), rfl, e1, by rw [ht]; exact hP, hD⟩, hS.F ht⟩
set_option maxHeartbeats 4000000 in
set_option maxRecDepth 100000 in
theorem c_L_bitFor (l : Launch) (D : va_G) (g : Nat → ClassId) (sz : Nat) (ws : va_W) (k0 k1 o a x1 x2 nb : Nat) (x0 : Int32) (B : Nat → Option Nat) (y : Nat) (h0 : ws[k0]? = some (o, .inr (4, [.int (x0), .ref x1, .ref x2, .ref a]))) (h1 : ws[k1]? = some (a, .inl (g 0, nb, .inl (fun s => oI (B s))))) (hnb : nb ≤ 128) (hy : y < nb) : Met l y_L_bitFor w_L_bitFor rm_L_bitFor (va_Pc [.ref o, .int (nI y)] (pP D (tyl g) (ws) sz)) (va_Qi (fun (r : Int32) (u : Unit) => r = oI (B y)) (fun u => qB D (va_A (ws) sz) (ws)) (va_A (ws) sz)) 0 0 (va_A (ws) sz) := by
  refine Met.ofW (cc := b_L_bitFor) (maxL := 2) (ret := (some .int)) (by decide +kernel) rfl ?_
  intro p e s m args below meth c s₁ Bq hml hv
  have hx := Bq.exec
  have hb := Bq.bytes
  have hr := Bq.returns
  have hts : ∀ w ∈ wA, w.before args s = true := fun w h => atoms_spec (ws := w_L_bitFor) Bq.pre w (List.mem_cons_of_mem _ h)
  have hown : s.vm.findClass R_L = some m.cls := findClass_of_methodNamed Bq.named
  have hlocks := Bq.notSynchronized
  obtain ⟨rfl, hsz, hP, hKK, hD0⟩ := hv
  have hK := hKK.1
  subst hsz
  have hD := hD0.self (sz := s.heap.size)
  generalize hAe : va_A (ws) s.heap.size = A at hD ⊢
  have hA : ∀ q : Nat, s.heap.size ≤ q → A q := fun q h => by rw [← hAe]; exact Or.inr h
  have hS : va_S A s.heap s.heap [] := va_S.rf
  have hl := lv_entry ([.ref o, .int (nI y)]) (n := 2) (Nat.le_of_ble_eq_true rfl)
  rw [lg_entry_eq]
  generalize (lg_sl ([.ref o, .int (nI y)]) ++ List.replicate (2 - (lg_sl ([.ref o, .int (nI y)])).length) Slot.unset).toArray = ls at hl ⊢
  have hl : lv_has ls 2 [(0, .ref o), (1, .int (nI y))] := hl
  generalize hQ : MQ below (va_Qi (fun (r : Int32) (u : Unit) => r = oI (B y)) (fun u => qB D (A) (ws)) (A)) [.ref o, .int (nI y)].toArray s 0 0 A = Q
  refine lv_iload_n hx hb d_L_bitFor_0 rfl (lv_at hl 1 rfl) ?_
  refine lx_if_lt (tgt := 22) hx hb d_L_bitFor_1 (by decide) (by omega) ?_
  refine lv_iload_n hx hb d_L_bitFor_4 rfl (lv_at hl 1 rfl) ?_
  refine lv_aload_n hx hb d_L_bitFor_5 rfl (lv_at hl 0 rfl) ?_
  refine va_get (D := D) (ci := 4) (v := .ref a) (C := R_L) (T := F_L) (N := 4) hx hb hts i_L hown hK hP k0 h0 rfl 3 (by decide) (hts _ m_105) (fun _ h9 => h9) rfl d_L_bitFor_6 ?_
  refine va_alen hx hb hK hP k1 0 h1 (v := nI nb) rfl (rfl) d_L_bitFor_9 ?_
  refine lx_icmp_ge (tgt := 22) hx hb d_L_bitFor_10 (by decide) (by omega) (by omega) (fun c10 => ?_) (fun c10 => ?_)
  · skip
    exact absurd c10 (by omega)
  · skip
    refine lv_aload_n hx hb d_L_bitFor_13 rfl (lv_at hl 0 rfl) ?_
    refine va_get (D := D) (ci := 4) (v := .ref a) (C := R_L) (T := F_L) (N := 4) hx hb hts i_L hown hK hP k0 h0 rfl 3 (by decide) (hts _ m_105) (fun _ h9 => h9) rfl d_L_bitFor_14 ?_
    refine lv_iload_n hx hb d_L_bitFor_17 rfl (lv_at hl 1 rfl) ?_
    refine lx_iald (v := oI (B y)) hx hb hK hP k1 0 h1 rfl (j := y) (by omega) (by omega) (rfl) d_L_bitFor_18 ?_
    refine lv_goto (tgt := 23) hx hb d_L_bitFor_19 (by decide) ?_
    rw [← hQ]
    refine W.iret (v := oI (B y)) hx hb hr ?_ hS.2.2 d_L_bitFor_23
    exact fun t ht hW => ⟨⟨oI (B y), (), rfl, rfl, by rw [ht]; exact hP, hD⟩, hS.F ht⟩
set_option maxHeartbeats 4000000 in
set_option maxRecDepth 100000 in
theorem c_L_columnAt (l : Launch) (D : va_G) (g : Nat → ClassId) (sz : Nat) (ws : va_W) (k0 k1 o a x2 x3 nb : Nat) (x0 : Int32) (f : Nat → Nat) (y : Nat) (h0 : ws[k0]? = some (o, .inr (4, [.int (x0), .ref a, .ref x2, .ref x3]))) (h1 : ws[k1]? = some (a, .inl (g 0, nb, .inl (fun j => nI (f j))))) (hnb : nb ≤ 128) (hy : y < nb) : Met l y_L_columnAt w_L_columnAt rm_L_columnAt (va_Pc [.ref o, .int (nI y)] (pP D (tyl g) (ws) sz)) (va_Qi (fun (r : Int32) (u : Unit) => r = nI (f y)) (fun u => qB D (va_A (ws) sz) (ws)) (va_A (ws) sz)) 0 0 (va_A (ws) sz) := by
  refine Met.ofW (cc := b_L_columnAt) (maxL := 2) (ret := (some .int)) (by decide +kernel) rfl ?_
  intro p e s m args below meth c s₁ Bq hml hv
  have hx := Bq.exec
  have hb := Bq.bytes
  have hr := Bq.returns
  have hts : ∀ w ∈ wA, w.before args s = true := fun w h => atoms_spec (ws := w_L_columnAt) Bq.pre w (List.mem_cons_of_mem _ h)
  have hown : s.vm.findClass R_L = some m.cls := findClass_of_methodNamed Bq.named
  have hlocks := Bq.notSynchronized
  obtain ⟨rfl, hsz, hP, hKK, hD0⟩ := hv
  have hK := hKK.1
  subst hsz
  have hD := hD0.self (sz := s.heap.size)
  generalize hAe : va_A (ws) s.heap.size = A at hD ⊢
  have hA : ∀ q : Nat, s.heap.size ≤ q → A q := fun q h => by rw [← hAe]; exact Or.inr h
  have hS : va_S A s.heap s.heap [] := va_S.rf
  have hl := lv_entry ([.ref o, .int (nI y)]) (n := 2) (Nat.le_of_ble_eq_true rfl)
  rw [lg_entry_eq]
  generalize (lg_sl ([.ref o, .int (nI y)]) ++ List.replicate (2 - (lg_sl ([.ref o, .int (nI y)])).length) Slot.unset).toArray = ls at hl ⊢
  have hl : lv_has ls 2 [(0, .ref o), (1, .int (nI y))] := hl
  generalize hQ : MQ below (va_Qi (fun (r : Int32) (u : Unit) => r = nI (f y)) (fun u => qB D (A) (ws)) (A)) [.ref o, .int (nI y)].toArray s 0 0 A = Q
  refine lv_iload_n hx hb d_L_columnAt_0 rfl (lv_at hl 1 rfl) ?_
  refine lx_if_lt (tgt := 22) hx hb d_L_columnAt_1 (by decide) (by omega) ?_
  refine lv_iload_n hx hb d_L_columnAt_4 rfl (lv_at hl 1 rfl) ?_
  refine lv_aload_n hx hb d_L_columnAt_5 rfl (lv_at hl 0 rfl) ?_
  refine va_get (D := D) (ci := 4) (v := .ref a) (C := R_L) (T := F_L) (N := 4) hx hb hts i_L hown hK hP k0 h0 rfl 1 (by decide) (hts _ m_102) (fun _ h9 => h9) rfl d_L_columnAt_6 ?_
  refine va_alen hx hb hK hP k1 0 h1 (v := nI nb) rfl (rfl) d_L_columnAt_9 ?_
  refine lx_icmp_ge (tgt := 22) hx hb d_L_columnAt_10 (by decide) (by omega) (by omega) (fun c10 => ?_) (fun c10 => ?_)
  · skip
    exact absurd c10 (by omega)
  · skip
    refine lv_aload_n hx hb d_L_columnAt_13 rfl (lv_at hl 0 rfl) ?_
    refine va_get (D := D) (ci := 4) (v := .ref a) (C := R_L) (T := F_L) (N := 4) hx hb hts i_L hown hK hP k0 h0 rfl 1 (by decide) (hts _ m_102) (fun _ h9 => h9) rfl d_L_columnAt_14 ?_
    refine lv_iload_n hx hb d_L_columnAt_17 rfl (lv_at hl 1 rfl) ?_
    refine lx_iald (v := nI (f y)) hx hb hK hP k1 0 h1 rfl (j := y) (by omega) (by omega) (rfl) d_L_columnAt_18 ?_
    refine lv_goto (tgt := 23) hx hb d_L_columnAt_19 (by decide) ?_
    rw [← hQ]
    refine W.iret (v := nI (f y)) hx hb hr ?_ hS.2.2 d_L_columnAt_23
    exact fun t ht hW => ⟨⟨nI (f y), (), rfl, rfl, by rw [ht]; exact hP, hD⟩, hS.F ht⟩
