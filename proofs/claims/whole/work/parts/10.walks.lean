set_option maxRecDepth 20000 in
theorem m_193 : Cond.fieldLink R_T 7 R_T "wordFlips" "J" ∈ wA := in_wA (List.mem_of_getElem? (i := 193) rfl) rfl
set_option maxRecDepth 20000 in
theorem m_197 : Cond.fieldLink R_T 13 R_T "checkFlips" "I" ∈ wA := in_wA (List.mem_of_getElem? (i := 197) rfl) rfl
set_option maxRecDepth 20000 in
theorem m_139 : Cond.fieldLink R_K 16 R_K "marks" "[I" ∈ wA := in_wA (List.mem_of_getElem? (i := 139) rfl) rfl
set_option maxRecDepth 20000 in
theorem m_134 : Cond.fieldLink R_K 7 R_K "wordBits" "I" ∈ wA := in_wA (List.mem_of_getElem? (i := 134) rfl) rfl
abbrev w_T_clear : List Cond := .code y_T_clear b_T_clear 1 none :: wA
abbrev rm_T_clear : Room := { frames := 0, cells := 0, slots := 0, locals := 0 }
theorem d_T_clear_0 : decode b_T_clear 0 = .ok (.aload_n 0, 1) := by decide +kernel
theorem d_T_clear_1 : decode b_T_clear 1 = .ok (.lconst 0, 1) := by decide +kernel
theorem d_T_clear_2 : decode b_T_clear 2 = .ok (.putfield 7, 3) := by decide +kernel
theorem d_T_clear_5 : decode b_T_clear 5 = .ok (.aload_n 0, 1) := by decide +kernel
theorem d_T_clear_6 : decode b_T_clear 6 = .ok (.iconst 0, 1) := by decide +kernel
theorem d_T_clear_7 : decode b_T_clear 7 = .ok (.putfield 13, 3) := by decide +kernel
theorem d_T_clear_10 : decode b_T_clear 10 = .ok (.return_, 1) := by decide +kernel
abbrev w_K_sumOf : List Cond := .code y_K_sumOf b_K_sumOf 7 (some .int) :: wA
abbrev rm_K_sumOf : Room := { frames := 0, cells := 0, slots := 0, locals := 0 }
theorem d_K_sumOf_0 : decode b_K_sumOf 0 = .ok (.iconst 0, 1) := by decide +kernel
theorem d_K_sumOf_1 : decode b_K_sumOf 1 = .ok (.istore_n 3, 1) := by decide +kernel
theorem d_K_sumOf_2 : decode b_K_sumOf 2 = .ok (.lload_n 1, 1) := by decide +kernel
theorem d_K_sumOf_3 : decode b_K_sumOf 3 = .ok (.lstore 4, 2) := by decide +kernel
theorem d_K_sumOf_5 : decode b_K_sumOf 5 = .ok (.iconst 0, 1) := by decide +kernel
theorem d_K_sumOf_6 : decode b_K_sumOf 6 = .ok (.istore 6, 2) := by decide +kernel
theorem d_K_sumOf_8 : decode b_K_sumOf 8 = .ok (.iload 6, 2) := by decide +kernel
theorem d_K_sumOf_10 : decode b_K_sumOf 10 = .ok (.aload_n 0, 1) := by decide +kernel
theorem d_K_sumOf_11 : decode b_K_sumOf 11 = .ok (.getfield 16, 3) := by decide +kernel
theorem d_K_sumOf_14 : decode b_K_sumOf 14 = .ok (.arraylength, 1) := by decide +kernel
theorem d_K_sumOf_15 : decode b_K_sumOf 15 = .ok (.if_icmp .ge 41, 3) := by decide +kernel
theorem d_K_sumOf_18 : decode b_K_sumOf 18 = .ok (.lload 4, 2) := by decide +kernel
theorem d_K_sumOf_20 : decode b_K_sumOf 20 = .ok (.lconst 0, 1) := by decide +kernel
theorem d_K_sumOf_21 : decode b_K_sumOf 21 = .ok (.lcmp, 1) := by decide +kernel
theorem d_K_sumOf_22 : decode b_K_sumOf 22 = .ok (.ifCond .eq 34, 3) := by decide +kernel
theorem d_K_sumOf_25 : decode b_K_sumOf 25 = .ok (.lload 4, 2) := by decide +kernel
theorem d_K_sumOf_27 : decode b_K_sumOf 27 = .ok (.lconst 1, 1) := by decide +kernel
theorem d_K_sumOf_28 : decode b_K_sumOf 28 = .ok (.land, 1) := by decide +kernel
theorem d_K_sumOf_29 : decode b_K_sumOf 29 = .ok (.lconst 0, 1) := by decide +kernel
theorem d_K_sumOf_30 : decode b_K_sumOf 30 = .ok (.lcmp, 1) := by decide +kernel
theorem d_K_sumOf_31 : decode b_K_sumOf 31 = .ok (.ifCond .eq 13, 3) := by decide +kernel
theorem d_K_sumOf_34 : decode b_K_sumOf 34 = .ok (.iload_n 3, 1) := by decide +kernel
theorem d_K_sumOf_35 : decode b_K_sumOf 35 = .ok (.aload_n 0, 1) := by decide +kernel
theorem d_K_sumOf_36 : decode b_K_sumOf 36 = .ok (.getfield 16, 3) := by decide +kernel
theorem d_K_sumOf_39 : decode b_K_sumOf 39 = .ok (.iload 6, 2) := by decide +kernel
theorem d_K_sumOf_41 : decode b_K_sumOf 41 = .ok (.iaload, 1) := by decide +kernel
theorem d_K_sumOf_42 : decode b_K_sumOf 42 = .ok (.ixor, 1) := by decide +kernel
theorem d_K_sumOf_43 : decode b_K_sumOf 43 = .ok (.istore_n 3, 1) := by decide +kernel
theorem d_K_sumOf_44 : decode b_K_sumOf 44 = .ok (.lload 4, 2) := by decide +kernel
theorem d_K_sumOf_46 : decode b_K_sumOf 46 = .ok (.iconst 1, 1) := by decide +kernel
theorem d_K_sumOf_47 : decode b_K_sumOf 47 = .ok (.lushr, 1) := by decide +kernel
theorem d_K_sumOf_48 : decode b_K_sumOf 48 = .ok (.lstore 4, 2) := by decide +kernel
theorem d_K_sumOf_50 : decode b_K_sumOf 50 = .ok (.iinc 6 1, 3) := by decide +kernel
theorem d_K_sumOf_53 : decode b_K_sumOf 53 = .ok (.goto (-45), 3) := by decide +kernel
theorem d_K_sumOf_56 : decode b_K_sumOf 56 = .ok (.iload_n 3, 1) := by decide +kernel
theorem d_K_sumOf_57 : decode b_K_sumOf 57 = .ok (.ireturn, 1) := by decide +kernel
abbrev w_K_markOf : List Cond := .code y_K_markOf b_K_markOf 2 (some .int) :: wA
abbrev rm_K_markOf : Room := { frames := 0, cells := 0, slots := 0, locals := 0 }
theorem d_K_markOf_0 : decode b_K_markOf 0 = .ok (.iload_n 1, 1) := by decide +kernel
theorem d_K_markOf_1 : decode b_K_markOf 1 = .ok (.ifCond .lt 19, 3) := by decide +kernel
theorem d_K_markOf_4 : decode b_K_markOf 4 = .ok (.iload_n 1, 1) := by decide +kernel
theorem d_K_markOf_5 : decode b_K_markOf 5 = .ok (.aload_n 0, 1) := by decide +kernel
theorem d_K_markOf_6 : decode b_K_markOf 6 = .ok (.getfield 16, 3) := by decide +kernel
theorem d_K_markOf_9 : decode b_K_markOf 9 = .ok (.arraylength, 1) := by decide +kernel
theorem d_K_markOf_10 : decode b_K_markOf 10 = .ok (.if_icmp .ge 10, 3) := by decide +kernel
theorem d_K_markOf_13 : decode b_K_markOf 13 = .ok (.aload_n 0, 1) := by decide +kernel
theorem d_K_markOf_14 : decode b_K_markOf 14 = .ok (.getfield 16, 3) := by decide +kernel
theorem d_K_markOf_17 : decode b_K_markOf 17 = .ok (.iload_n 1, 1) := by decide +kernel
theorem d_K_markOf_18 : decode b_K_markOf 18 = .ok (.iaload, 1) := by decide +kernel
theorem d_K_markOf_19 : decode b_K_markOf 19 = .ok (.ireturn, 1) := by decide +kernel
theorem d_K_markOf_20 : decode b_K_markOf 20 = .ok (.iconst 1, 1) := by decide +kernel
theorem d_K_markOf_21 : decode b_K_markOf 21 = .ok (.iload_n 1, 1) := by decide +kernel
theorem d_K_markOf_22 : decode b_K_markOf 22 = .ok (.aload_n 0, 1) := by decide +kernel
theorem d_K_markOf_23 : decode b_K_markOf 23 = .ok (.getfield 7, 3) := by decide +kernel
theorem d_K_markOf_26 : decode b_K_markOf 26 = .ok (.isub, 1) := by decide +kernel
theorem d_K_markOf_27 : decode b_K_markOf 27 = .ok (.ishl, 1) := by decide +kernel
theorem d_K_markOf_28 : decode b_K_markOf 28 = .ok (.ireturn, 1) := by decide +kernel
set_option maxHeartbeats 4000000 in
set_option maxRecDepth 100000 in
/-- Turn.clear() -/
theorem c_T_clear (l : Launch) (D : va_G) (g : Nat → ClassId) (sz : Nat) (o : Nat) (a : Int64) (b : Int32) (wr : va_W) : Met l y_T_clear w_T_clear rm_T_clear (va_Pc [.ref o] (pP D (tyl g) ((o, .inr (5, [.long (a), .int (b)])) :: wr) sz)) (va_Qv (fun (u : Unit) => True) (fun u => qB D (va_A ((o, .inr (5, [.long (a), .int (b)])) :: wr) sz) ((o, .inr (5, [.long (lN 0), .int (nI 0)])) :: wr)) (va_A ((o, .inr (5, [.long (a), .int (b)])) :: wr) sz)) 0 0 (va_A ((o, .inr (5, [.long (a), .int (b)])) :: wr) sz) := by
  refine Met.ofW (cc := b_T_clear) (maxL := 1) (ret := none) (by decide +kernel) rfl ?_
  intro p e s m args below meth c s₁ Bq hml hv
  have hx := Bq.exec
  have hb := Bq.bytes
  have hr := Bq.returns
  have hts : ∀ w ∈ wA, w.before args s = true := fun w h => atoms_spec (ws := w_T_clear) Bq.pre w (List.mem_cons_of_mem _ h)
  have hown : s.vm.findClass R_T = some m.cls := findClass_of_methodNamed Bq.named
  have hlocks := Bq.notSynchronized
  obtain ⟨rfl, hsz, hP, hKK, hD0⟩ := hv
  have hK := hKK.1
  subst hsz
  have hD := hD0.self (sz := s.heap.size)
  generalize hAe : va_A ((o, .inr (5, [.long (a), .int (b)])) :: wr) s.heap.size = A at hD ⊢
  have hA : ∀ q : Nat, s.heap.size ≤ q → A q := fun q h => by rw [← hAe]; exact Or.inr h
  have hS : va_S A s.heap s.heap [] := va_S.rf
  have hl := lv_entry ([.ref o]) (n := 1) (Nat.le_of_ble_eq_true rfl)
  rw [lg_entry_eq]
  generalize (lg_sl ([.ref o]) ++ List.replicate (1 - (lg_sl ([.ref o])).length) Slot.unset).toArray = ls at hl ⊢
  have hl : lv_has ls 1 [(0, .ref o)] := hl
  generalize hQ : MQ below (va_Qv (fun (u : Unit) => True) (fun u => qB D (A) ((o, .inr (5, [.long (lN 0), .int (nI 0)])) :: wr)) (A)) [.ref o].toArray s 0 0 A = Q
  refine lv_aload_n hx hb d_T_clear_0 rfl (lv_at hl 0 rfl) ?_
  refine lv_lconst (v := lN 0) hx hb d_T_clear_1 (by decide) ?_
  refine va_put (D := D) (ci := 5) (v := .long (lN 0)) (ty := .long) (C := R_T) (T := F_T) (N := 2) hx hb hts i_T tf_T tf_T_ok nf_T hown hK hP hD hS 0 rfl rfl 0 (by decide) (hts _ m_193) (fun _ h9 => h9) rfl (by decide +kernel) rfl rfl (Nat.le_of_ble_eq_true rfl) d_T_clear_2 (fun H locs hP hD hS => ?_)
  have hP : va_P D vwCl ((o, .inr (5, [.long (lN 0), .int (b)])) :: wr) H := hP
  have hD : va_D A ((o, .inr (5, [.long (lN 0), .int (b)])) :: wr) := hD
  refine lv_aload_n hx hb d_T_clear_5 rfl (lv_at hl 0 rfl) ?_
  refine lv_iconst (v := nI 0) hx hb d_T_clear_6 (by decide) ?_
  refine va_put (D := D) (ci := 5) (v := .int (nI 0)) (ty := .int) (C := R_T) (T := F_T) (N := 2) hx hb hts i_T tf_T tf_T_ok nf_T hown hK hP hD hS 0 rfl rfl 1 (by decide) (hts _ m_197) (fun _ h9 => h9) rfl (by decide +kernel) rfl rfl (Nat.le_of_ble_eq_true rfl) d_T_clear_7 (fun H locs hP hD hS => ?_)
  have hP : va_P D vwCl ((o, .inr (5, [.long (lN 0), .int (nI 0)])) :: wr) H := hP
  have hD : va_D A ((o, .inr (5, [.long (lN 0), .int (nI 0)])) :: wr) := hD
  rw [← hQ]
  refine W.vret hx hb hr ?_ hS.2.2 d_T_clear_10
  exact fun t ht hW => ⟨⟨(), rfl, trivial, by rw [ht]; exact hP, hD⟩, hS.F ht⟩
set_option maxHeartbeats 4000000 in
set_option maxRecDepth 100000 in
/-- Code.sumOf(word): the exclusive or of the marks of its bits -/
theorem c_K_sumOf_S (l : Launch) (D : va_G) (g : Nat → ClassId) (sz : Nat) (ws : va_W) (k0 k1 o a : Nat) (x0 x1 : Int32) (x3 : Nat) (M : Nat) (f : Nat → Nat) (x : Nat) (h0 : ws[k0]? = some (o, .inr (1, [.int (x0), .int (x1), .ref a, .ref x3]))) (h1 : ws[k1]? = some (a, .inl (g 0, M, .inl (fun k => nI (f k))))) (hM : M < 64) (hx9 : x < 2 ^ 64) : Met l y_K_sumOf w_K_sumOf rm_K_sumOf (va_Pc [.ref o, .long (lN x)] (pP D (tyl g) (ws) sz)) (va_Qi (fun (r : Int32) (u : Unit) => r = nI (xs f x M)) (fun u => qB D (va_A (ws) sz) (ws)) (va_A (ws) sz)) 0 0 (va_A (ws) sz) := by
  refine Met.ofW (cc := b_K_sumOf) (maxL := 7) (ret := (some .int)) (by decide +kernel) rfl ?_
  intro p e s m args below meth c s₁ Bq hml hv
  have hx := Bq.exec
  have hb := Bq.bytes
  have hr := Bq.returns
  have hts : ∀ w ∈ wA, w.before args s = true := fun w h => atoms_spec (ws := w_K_sumOf) Bq.pre w (List.mem_cons_of_mem _ h)
  have hown : s.vm.findClass R_K = some m.cls := findClass_of_methodNamed Bq.named
  have hlocks := Bq.notSynchronized
  obtain ⟨rfl, hsz, hP, hKK, hD0⟩ := hv
  have hK := hKK.1
  subst hsz
  have hD := hD0.self (sz := s.heap.size)
  generalize hAe : va_A (ws) s.heap.size = A at hD ⊢
  have hA : ∀ q : Nat, s.heap.size ≤ q → A q := fun q h => by rw [← hAe]; exact Or.inr h
  have hS : va_S A s.heap s.heap [] := va_S.rf
  have hl := lv_entry ([.ref o, .long (lN x)]) (n := 7) (Nat.le_of_ble_eq_true rfl)
  rw [lg_entry_eq]
  generalize (lg_sl ([.ref o, .long (lN x)]) ++ List.replicate (7 - (lg_sl ([.ref o, .long (lN x)])).length) Slot.unset).toArray = ls at hl ⊢
  have hl : lv_has ls 7 [(0, .ref o), (1, .long (lN x))] := hl
  generalize hQ : MQ below (va_Qi (fun (r : Int32) (u : Unit) => r = nI (xs f x M)) (fun u => qB D (A) (ws)) (A)) [.ref o, .long (lN x)].toArray s 0 0 A = Q
  have lp8 : ∀ (n : Nat) (k : Nat) (ls : Array Slot) (H : Heap) (locs : List Loc), (M + 1 ≤ k + n) → (k ≤ M) → lv_has ls 7 [(0, .ref o), (3, .int (nI (xs f x k))), (4, .long (lN (x >>> k))), (6, .int (nI k))] → va_P D vwCl (ws) H → va_D A (ws) → va_S A s.heap H locs → W p l e (headSpec w_K_sumOf rm_K_sumOf).room s m [.ref o, .long (lN x)].toArray below meth c H locs 0 0 Q (F0 m 8 ls []) := by
    intro n
    induction n with
    | zero => intro k ls H locs hfu hk _ _ _ _; exact absurd hfu (by omega)
    | succ n ih =>
      intro k ls H locs hfu hk hl hP hD hS
      refine lv_iload hx hb d_K_sumOf_8 (lv_at hl 3 rfl) ?_
      refine lv_aload_n hx hb d_K_sumOf_10 rfl (lv_at hl 0 rfl) ?_
      refine va_get (D := D) (ci := 1) (v := .ref a) (C := R_S) (T := F_S) (N := 4) hx hb hts i_S hown hK hP k0 h0 rfl 2 (by decide) (hts _ m_139) (fun _ h9 => h9) rfl d_K_sumOf_11 ?_
      refine va_alen hx hb hK hP k1 0 h1 (v := nI M) rfl (rfl) d_K_sumOf_14 ?_
      refine lx_icmp_ge (tgt := 56) hx hb d_K_sumOf_15 (by decide) (by omega) (by omega) (fun c15 => ?_) (fun c15 => ?_)
      · skip
        obtain rfl : k = M := by omega
        refine lv_iload_n hx hb d_K_sumOf_56 rfl (lv_at hl 1 rfl) ?_
        rw [← hQ]
        refine W.iret (v := nI (xs f x k)) hx hb hr ?_ hS.2.2 d_K_sumOf_57
        exact fun t ht hW => ⟨⟨nI (xs f x k), (), rfl, rfl, by rw [ht]; exact hP, hD⟩, hS.F ht⟩
      · skip
        refine lv_lload hx hb d_K_sumOf_18 (lv_at hl 2 rfl) ?_
        refine lv_lconst (v := lN 0) hx hb d_K_sumOf_20 (by decide) ?_
        refine lx_lcmp_eq (tgt := 56) hx hb d_K_sumOf_21 d_K_sumOf_22 (by decide) (fun c22 => ?_) (fun c22 => ?_)
        · skip
          refine lv_iload_n hx hb d_K_sumOf_56 rfl (lv_at hl 1 rfl) ?_
          rw [← hQ]
          refine W.iret (v := nI (xs f x k)) hx hb hr ?_ hS.2.2 d_K_sumOf_57
          exact fun t ht hW => ⟨⟨nI (xs f x k), (), rfl, (by rw [xs_stop (xl_inj (Nat.lt_of_le_of_lt (Nat.shiftRight_le x k) hx9) (by decide) c22) M (by omega)]), by rw [ht]; exact hP, hD⟩, hS.F ht⟩
        · skip
          have j44 : ∀  (ls : Array Slot) (H : Heap) (locs : List Loc), lv_has ls 7 [(0, .ref o), (3, .int (nI (xs f x (k + 1)))), (4, .long (lN (x >>> k))), (6, .int (nI k))] → va_P D vwCl (ws) H → va_D A (ws) → va_S A s.heap H locs → W p l e (headSpec w_K_sumOf rm_K_sumOf).room s m [.ref o, .long (lN x)].toArray below meth c H locs 0 0 Q (F0 m 44 ls []) := by
            intro  ls H locs  hl hP hD hS
            refine lv_lload hx hb d_K_sumOf_44 (lv_at hl 2 rfl) ?_
            refine lv_iconst (v := nI 1) hx hb d_K_sumOf_46 (by decide) ?_
            refine lv_lushr (v := lN (x >>> (k + 1))) hx hb d_K_sumOf_47 ((xl_ushr (k := 1) (by have := Nat.shiftRight_le x k; omega) (by decide)).trans (by rw [Nat.shiftRight_add])) ?_
            refine lv_lstore (lv' := [(4, .long (lN (x >>> (k + 1)))), (0, .ref o), (3, .int (nI (xs f x (k + 1)))), (6, .int (nI k))]) hx hb d_K_sumOf_48 hl (by decide) rfl (fun ls hl => ?_)
            refine lv_iinc (v := nI (k + 1)) (lv' := [(6, .int (nI (k + 1))), (4, .long (lN (x >>> (k + 1)))), (0, .ref o), (3, .int (nI (xs f x (k + 1))))]) hx hb d_K_sumOf_50 hl (k := 3) rfl (nI_1 k) (by decide) rfl (fun ls hl => ?_)
            refine lv_goto (tgt := 8) hx hb d_K_sumOf_53 (by decide) ?_
            exact ih (k + 1) _ _ _ (by omega) (by omega) (lv_sub hl [2, 3, 1, 0] rfl) hP hD hS
          refine lv_lload hx hb d_K_sumOf_25 (lv_at hl 2 rfl) ?_
          refine lv_lconst (v := lN 1) hx hb d_K_sumOf_27 (by decide) ?_
          refine lx_land (z := lN (x >>> k % 2)) hx hb d_K_sumOf_28 ((xl_and _ _).trans (by rw [Nat.and_one_is_mod])) ?_
          refine lv_lconst (v := lN 0) hx hb d_K_sumOf_29 (by decide) ?_
          refine lx_lcmp_eq (tgt := 44) hx hb d_K_sumOf_30 d_K_sumOf_31 (by decide) (fun c31 => ?_) (fun c31 => ?_)
          · skip
            have hl : lv_has ls 7 [(0, .ref o), (3, .int (nI (xs f x (k + 1)))), (4, .long (lN (x >>> k))), (6, .int (nI k))] := by rw [xs_even (Nat.lt_of_le_of_lt (Nat.shiftRight_le x k) hx9) c31]; exact hl
            exact j44  _ _ _  (lv_sub hl [0, 1, 2, 3] rfl) hP hD hS
          · skip
            refine lv_iload_n hx hb d_K_sumOf_34 rfl (lv_at hl 1 rfl) ?_
            refine lv_aload_n hx hb d_K_sumOf_35 rfl (lv_at hl 0 rfl) ?_
            refine va_get (D := D) (ci := 1) (v := .ref a) (C := R_S) (T := F_S) (N := 4) hx hb hts i_S hown hK hP k0 h0 rfl 2 (by decide) (hts _ m_139) (fun _ h9 => h9) rfl d_K_sumOf_36 ?_
            refine lv_iload hx hb d_K_sumOf_39 (lv_at hl 3 rfl) ?_
            refine lx_iald (v := nI (f k)) hx hb hK hP k1 0 h1 rfl (j := k) (by omega) (by omega) (rfl) d_K_sumOf_41 ?_
            refine lx_ixor (z := nI (xs f x (k + 1))) hx hb d_K_sumOf_42 ((xn_xor _ _).trans (by rw [xs_odd (Nat.lt_of_le_of_lt (Nat.shiftRight_le x k) hx9) c31])) ?_
            refine lv_istore_n (lv' := [(3, .int (nI (xs f x (k + 1)))), (0, .ref o), (4, .long (lN (x >>> k))), (6, .int (nI k))]) hx hb d_K_sumOf_43 rfl hl (by decide) rfl (fun ls hl => ?_)
            exact j44  _ _ _  (lv_sub hl [1, 0, 2, 3] rfl) hP hD hS
  refine lv_iconst (v := nI 0) hx hb d_K_sumOf_0 (by decide) ?_
  refine lv_istore_n (lv' := [(3, .int (nI 0)), (0, .ref o), (1, .long (lN x))]) hx hb d_K_sumOf_1 rfl hl (by decide) rfl (fun ls hl => ?_)
  refine lv_lload_n hx hb d_K_sumOf_2 rfl (lv_at hl 2 rfl) ?_
  refine lv_lstore (lv' := [(4, .long (lN x)), (3, .int (nI 0)), (0, .ref o), (1, .long (lN x))]) hx hb d_K_sumOf_3 hl (by decide) rfl (fun ls hl => ?_)
  refine lv_iconst (v := nI 0) hx hb d_K_sumOf_5 (by decide) ?_
  refine lv_istore (lv' := [(6, .int (nI 0)), (4, .long (lN x)), (3, .int (nI 0)), (0, .ref o), (1, .long (lN x))]) hx hb d_K_sumOf_6 hl (by decide) rfl (fun ls hl => ?_)
  have hl : lv_has ls 7 [(6, .int (nI 0)), (4, .long (lN (x >>> 0))), (3, .int (nI 0)), (0, .ref o), (1, .long (lN x))] := by rw [Nat.shiftRight_zero]; exact hl
  exact lp8 (M + 1) 0 _ _ _ (by omega) (by omega) (lv_sub hl [3, 2, 1, 0] rfl) hP hD hS
set_option maxHeartbeats 4000000 in
set_option maxRecDepth 100000 in
/-- Code.sumOf(word): the exclusive or of the marks of its bits -/
theorem c_K_sumOf_P (l : Launch) (D : va_G) (g : Nat → ClassId) (sz : Nat) (ws : va_W) (k0 k1 o a : Nat) (x0 x1 : Int32) (M : Nat) (f : Nat → Nat) (x : Nat) (h0 : ws[k0]? = some (o, .inr (2, [.int (x0), .int (x1), .ref a]))) (h1 : ws[k1]? = some (a, .inl (g 0, M, .inl (fun k => nI (f k))))) (hM : M < 64) (hx9 : x < 2 ^ 64) : Met l y_K_sumOf w_K_sumOf rm_K_sumOf (va_Pc [.ref o, .long (lN x)] (pP D (tyl g) (ws) sz)) (va_Qi (fun (r : Int32) (u : Unit) => r = nI (xs f x M)) (fun u => qB D (va_A (ws) sz) (ws)) (va_A (ws) sz)) 0 0 (va_A (ws) sz) := by
  refine Met.ofW (cc := b_K_sumOf) (maxL := 7) (ret := (some .int)) (by decide +kernel) rfl ?_
  intro p e s m args below meth c s₁ Bq hml hv
  have hx := Bq.exec
  have hb := Bq.bytes
  have hr := Bq.returns
  have hts : ∀ w ∈ wA, w.before args s = true := fun w h => atoms_spec (ws := w_K_sumOf) Bq.pre w (List.mem_cons_of_mem _ h)
  have hown : s.vm.findClass R_K = some m.cls := findClass_of_methodNamed Bq.named
  have hlocks := Bq.notSynchronized
  obtain ⟨rfl, hsz, hP, hKK, hD0⟩ := hv
  have hK := hKK.1
  subst hsz
  have hD := hD0.self (sz := s.heap.size)
  generalize hAe : va_A (ws) s.heap.size = A at hD ⊢
  have hA : ∀ q : Nat, s.heap.size ≤ q → A q := fun q h => by rw [← hAe]; exact Or.inr h
  have hS : va_S A s.heap s.heap [] := va_S.rf
  have hl := lv_entry ([.ref o, .long (lN x)]) (n := 7) (Nat.le_of_ble_eq_true rfl)
  rw [lg_entry_eq]
  generalize (lg_sl ([.ref o, .long (lN x)]) ++ List.replicate (7 - (lg_sl ([.ref o, .long (lN x)])).length) Slot.unset).toArray = ls at hl ⊢
  have hl : lv_has ls 7 [(0, .ref o), (1, .long (lN x))] := hl
  generalize hQ : MQ below (va_Qi (fun (r : Int32) (u : Unit) => r = nI (xs f x M)) (fun u => qB D (A) (ws)) (A)) [.ref o, .long (lN x)].toArray s 0 0 A = Q
  have lp8 : ∀ (n : Nat) (k : Nat) (ls : Array Slot) (H : Heap) (locs : List Loc), (M + 1 ≤ k + n) → (k ≤ M) → lv_has ls 7 [(0, .ref o), (3, .int (nI (xs f x k))), (4, .long (lN (x >>> k))), (6, .int (nI k))] → va_P D vwCl (ws) H → va_D A (ws) → va_S A s.heap H locs → W p l e (headSpec w_K_sumOf rm_K_sumOf).room s m [.ref o, .long (lN x)].toArray below meth c H locs 0 0 Q (F0 m 8 ls []) := by
    intro n
    induction n with
    | zero => intro k ls H locs hfu hk _ _ _ _; exact absurd hfu (by omega)
    | succ n ih =>
      intro k ls H locs hfu hk hl hP hD hS
      refine lv_iload hx hb d_K_sumOf_8 (lv_at hl 3 rfl) ?_
      refine lv_aload_n hx hb d_K_sumOf_10 rfl (lv_at hl 0 rfl) ?_
      refine va_get (D := D) (ci := 2) (v := .ref a) (C := R_P) (T := F_P) (N := 3) hx hb hts i_P hown hK hP k0 h0 rfl 2 (by decide) (hts _ m_139) (fun _ h9 => h9) rfl d_K_sumOf_11 ?_
      refine va_alen hx hb hK hP k1 0 h1 (v := nI M) rfl (rfl) d_K_sumOf_14 ?_
      refine lx_icmp_ge (tgt := 56) hx hb d_K_sumOf_15 (by decide) (by omega) (by omega) (fun c15 => ?_) (fun c15 => ?_)
      · skip
        obtain rfl : k = M := by omega
        refine lv_iload_n hx hb d_K_sumOf_56 rfl (lv_at hl 1 rfl) ?_
        rw [← hQ]
        refine W.iret (v := nI (xs f x k)) hx hb hr ?_ hS.2.2 d_K_sumOf_57
        exact fun t ht hW => ⟨⟨nI (xs f x k), (), rfl, rfl, by rw [ht]; exact hP, hD⟩, hS.F ht⟩
      · skip
        refine lv_lload hx hb d_K_sumOf_18 (lv_at hl 2 rfl) ?_
        refine lv_lconst (v := lN 0) hx hb d_K_sumOf_20 (by decide) ?_
        refine lx_lcmp_eq (tgt := 56) hx hb d_K_sumOf_21 d_K_sumOf_22 (by decide) (fun c22 => ?_) (fun c22 => ?_)
        · skip
          refine lv_iload_n hx hb d_K_sumOf_56 rfl (lv_at hl 1 rfl) ?_
          rw [← hQ]
          refine W.iret (v := nI (xs f x k)) hx hb hr ?_ hS.2.2 d_K_sumOf_57
          exact fun t ht hW => ⟨⟨nI (xs f x k), (), rfl, (by rw [xs_stop (xl_inj (Nat.lt_of_le_of_lt (Nat.shiftRight_le x k) hx9) (by decide) c22) M (by omega)]), by rw [ht]; exact hP, hD⟩, hS.F ht⟩
        · skip
          have j44 : ∀  (ls : Array Slot) (H : Heap) (locs : List Loc), lv_has ls 7 [(0, .ref o), (3, .int (nI (xs f x (k + 1)))), (4, .long (lN (x >>> k))), (6, .int (nI k))] → va_P D vwCl (ws) H → va_D A (ws) → va_S A s.heap H locs → W p l e (headSpec w_K_sumOf rm_K_sumOf).room s m [.ref o, .long (lN x)].toArray below meth c H locs 0 0 Q (F0 m 44 ls []) := by
            intro  ls H locs  hl hP hD hS
            refine lv_lload hx hb d_K_sumOf_44 (lv_at hl 2 rfl) ?_
            refine lv_iconst (v := nI 1) hx hb d_K_sumOf_46 (by decide) ?_
            refine lv_lushr (v := lN (x >>> (k + 1))) hx hb d_K_sumOf_47 ((xl_ushr (k := 1) (by have := Nat.shiftRight_le x k; omega) (by decide)).trans (by rw [Nat.shiftRight_add])) ?_
            refine lv_lstore (lv' := [(4, .long (lN (x >>> (k + 1)))), (0, .ref o), (3, .int (nI (xs f x (k + 1)))), (6, .int (nI k))]) hx hb d_K_sumOf_48 hl (by decide) rfl (fun ls hl => ?_)
            refine lv_iinc (v := nI (k + 1)) (lv' := [(6, .int (nI (k + 1))), (4, .long (lN (x >>> (k + 1)))), (0, .ref o), (3, .int (nI (xs f x (k + 1))))]) hx hb d_K_sumOf_50 hl (k := 3) rfl (nI_1 k) (by decide) rfl (fun ls hl => ?_)
            refine lv_goto (tgt := 8) hx hb d_K_sumOf_53 (by decide) ?_
            exact ih (k + 1) _ _ _ (by omega) (by omega) (lv_sub hl [2, 3, 1, 0] rfl) hP hD hS
          refine lv_lload hx hb d_K_sumOf_25 (lv_at hl 2 rfl) ?_
          refine lv_lconst (v := lN 1) hx hb d_K_sumOf_27 (by decide) ?_
          refine lx_land (z := lN (x >>> k % 2)) hx hb d_K_sumOf_28 ((xl_and _ _).trans (by rw [Nat.and_one_is_mod])) ?_
          refine lv_lconst (v := lN 0) hx hb d_K_sumOf_29 (by decide) ?_
          refine lx_lcmp_eq (tgt := 44) hx hb d_K_sumOf_30 d_K_sumOf_31 (by decide) (fun c31 => ?_) (fun c31 => ?_)
          · skip
            have hl : lv_has ls 7 [(0, .ref o), (3, .int (nI (xs f x (k + 1)))), (4, .long (lN (x >>> k))), (6, .int (nI k))] := by rw [xs_even (Nat.lt_of_le_of_lt (Nat.shiftRight_le x k) hx9) c31]; exact hl
            exact j44  _ _ _  (lv_sub hl [0, 1, 2, 3] rfl) hP hD hS
          · skip
            refine lv_iload_n hx hb d_K_sumOf_34 rfl (lv_at hl 1 rfl) ?_
            refine lv_aload_n hx hb d_K_sumOf_35 rfl (lv_at hl 0 rfl) ?_
            refine va_get (D := D) (ci := 2) (v := .ref a) (C := R_P) (T := F_P) (N := 3) hx hb hts i_P hown hK hP k0 h0 rfl 2 (by decide) (hts _ m_139) (fun _ h9 => h9) rfl d_K_sumOf_36 ?_
            refine lv_iload hx hb d_K_sumOf_39 (lv_at hl 3 rfl) ?_
            refine lx_iald (v := nI (f k)) hx hb hK hP k1 0 h1 rfl (j := k) (by omega) (by omega) (rfl) d_K_sumOf_41 ?_
            refine lx_ixor (z := nI (xs f x (k + 1))) hx hb d_K_sumOf_42 ((xn_xor _ _).trans (by rw [xs_odd (Nat.lt_of_le_of_lt (Nat.shiftRight_le x k) hx9) c31])) ?_
            refine lv_istore_n (lv' := [(3, .int (nI (xs f x (k + 1)))), (0, .ref o), (4, .long (lN (x >>> k))), (6, .int (nI k))]) hx hb d_K_sumOf_43 rfl hl (by decide) rfl (fun ls hl => ?_)
            exact j44  _ _ _  (lv_sub hl [1, 0, 2, 3] rfl) hP hD hS
  refine lv_iconst (v := nI 0) hx hb d_K_sumOf_0 (by decide) ?_
  refine lv_istore_n (lv' := [(3, .int (nI 0)), (0, .ref o), (1, .long (lN x))]) hx hb d_K_sumOf_1 rfl hl (by decide) rfl (fun ls hl => ?_)
  refine lv_lload_n hx hb d_K_sumOf_2 rfl (lv_at hl 2 rfl) ?_
  refine lv_lstore (lv' := [(4, .long (lN x)), (3, .int (nI 0)), (0, .ref o), (1, .long (lN x))]) hx hb d_K_sumOf_3 hl (by decide) rfl (fun ls hl => ?_)
  refine lv_iconst (v := nI 0) hx hb d_K_sumOf_5 (by decide) ?_
  refine lv_istore (lv' := [(6, .int (nI 0)), (4, .long (lN x)), (3, .int (nI 0)), (0, .ref o), (1, .long (lN x))]) hx hb d_K_sumOf_6 hl (by decide) rfl (fun ls hl => ?_)
  have hl : lv_has ls 7 [(6, .int (nI 0)), (4, .long (lN (x >>> 0))), (3, .int (nI 0)), (0, .ref o), (1, .long (lN x))] := by rw [Nat.shiftRight_zero]; exact hl
  exact lp8 (M + 1) 0 _ _ _ (by omega) (by omega) (lv_sub hl [3, 2, 1, 0] rfl) hP hD hS
set_option maxHeartbeats 4000000 in
set_option maxRecDepth 100000 in
/-- Code.sumOf(word): the exclusive or of the marks of its bits -/
theorem c_K_sumOf_N (l : Launch) (D : va_G) (g : Nat → ClassId) (sz : Nat) (ws : va_W) (k0 k1 o a : Nat) (x0 x1 : Int32) (M : Nat) (f : Nat → Nat) (x : Nat) (h0 : ws[k0]? = some (o, .inr (3, [.int (x0), .int (x1), .ref a]))) (h1 : ws[k1]? = some (a, .inl (g 0, M, .inl (fun k => nI (f k))))) (hM : M < 64) (hx9 : x < 2 ^ 64) : Met l y_K_sumOf w_K_sumOf rm_K_sumOf (va_Pc [.ref o, .long (lN x)] (pP D (tyl g) (ws) sz)) (va_Qi (fun (r : Int32) (u : Unit) => r = nI (xs f x M)) (fun u => qB D (va_A (ws) sz) (ws)) (va_A (ws) sz)) 0 0 (va_A (ws) sz) := by
  refine Met.ofW (cc := b_K_sumOf) (maxL := 7) (ret := (some .int)) (by decide +kernel) rfl ?_
  intro p e s m args below meth c s₁ Bq hml hv
  have hx := Bq.exec
  have hb := Bq.bytes
  have hr := Bq.returns
  have hts : ∀ w ∈ wA, w.before args s = true := fun w h => atoms_spec (ws := w_K_sumOf) Bq.pre w (List.mem_cons_of_mem _ h)
  have hown : s.vm.findClass R_K = some m.cls := findClass_of_methodNamed Bq.named
  have hlocks := Bq.notSynchronized
  obtain ⟨rfl, hsz, hP, hKK, hD0⟩ := hv
  have hK := hKK.1
  subst hsz
  have hD := hD0.self (sz := s.heap.size)
  generalize hAe : va_A (ws) s.heap.size = A at hD ⊢
  have hA : ∀ q : Nat, s.heap.size ≤ q → A q := fun q h => by rw [← hAe]; exact Or.inr h
  have hS : va_S A s.heap s.heap [] := va_S.rf
  have hl := lv_entry ([.ref o, .long (lN x)]) (n := 7) (Nat.le_of_ble_eq_true rfl)
  rw [lg_entry_eq]
  generalize (lg_sl ([.ref o, .long (lN x)]) ++ List.replicate (7 - (lg_sl ([.ref o, .long (lN x)])).length) Slot.unset).toArray = ls at hl ⊢
  have hl : lv_has ls 7 [(0, .ref o), (1, .long (lN x))] := hl
  generalize hQ : MQ below (va_Qi (fun (r : Int32) (u : Unit) => r = nI (xs f x M)) (fun u => qB D (A) (ws)) (A)) [.ref o, .long (lN x)].toArray s 0 0 A = Q
  have lp8 : ∀ (n : Nat) (k : Nat) (ls : Array Slot) (H : Heap) (locs : List Loc), (M + 1 ≤ k + n) → (k ≤ M) → lv_has ls 7 [(0, .ref o), (3, .int (nI (xs f x k))), (4, .long (lN (x >>> k))), (6, .int (nI k))] → va_P D vwCl (ws) H → va_D A (ws) → va_S A s.heap H locs → W p l e (headSpec w_K_sumOf rm_K_sumOf).room s m [.ref o, .long (lN x)].toArray below meth c H locs 0 0 Q (F0 m 8 ls []) := by
    intro n
    induction n with
    | zero => intro k ls H locs hfu hk _ _ _ _; exact absurd hfu (by omega)
    | succ n ih =>
      intro k ls H locs hfu hk hl hP hD hS
      refine lv_iload hx hb d_K_sumOf_8 (lv_at hl 3 rfl) ?_
      refine lv_aload_n hx hb d_K_sumOf_10 rfl (lv_at hl 0 rfl) ?_
      refine va_get (D := D) (ci := 3) (v := .ref a) (C := R_N) (T := F_N) (N := 3) hx hb hts i_N hown hK hP k0 h0 rfl 2 (by decide) (hts _ m_139) (fun _ h9 => h9) rfl d_K_sumOf_11 ?_
      refine va_alen hx hb hK hP k1 0 h1 (v := nI M) rfl (rfl) d_K_sumOf_14 ?_
      refine lx_icmp_ge (tgt := 56) hx hb d_K_sumOf_15 (by decide) (by omega) (by omega) (fun c15 => ?_) (fun c15 => ?_)
      · skip
        obtain rfl : k = M := by omega
        refine lv_iload_n hx hb d_K_sumOf_56 rfl (lv_at hl 1 rfl) ?_
        rw [← hQ]
        refine W.iret (v := nI (xs f x k)) hx hb hr ?_ hS.2.2 d_K_sumOf_57
        exact fun t ht hW => ⟨⟨nI (xs f x k), (), rfl, rfl, by rw [ht]; exact hP, hD⟩, hS.F ht⟩
      · skip
        refine lv_lload hx hb d_K_sumOf_18 (lv_at hl 2 rfl) ?_
        refine lv_lconst (v := lN 0) hx hb d_K_sumOf_20 (by decide) ?_
        refine lx_lcmp_eq (tgt := 56) hx hb d_K_sumOf_21 d_K_sumOf_22 (by decide) (fun c22 => ?_) (fun c22 => ?_)
        · skip
          refine lv_iload_n hx hb d_K_sumOf_56 rfl (lv_at hl 1 rfl) ?_
          rw [← hQ]
          refine W.iret (v := nI (xs f x k)) hx hb hr ?_ hS.2.2 d_K_sumOf_57
          exact fun t ht hW => ⟨⟨nI (xs f x k), (), rfl, (by rw [xs_stop (xl_inj (Nat.lt_of_le_of_lt (Nat.shiftRight_le x k) hx9) (by decide) c22) M (by omega)]), by rw [ht]; exact hP, hD⟩, hS.F ht⟩
        · skip
          have j44 : ∀  (ls : Array Slot) (H : Heap) (locs : List Loc), lv_has ls 7 [(0, .ref o), (3, .int (nI (xs f x (k + 1)))), (4, .long (lN (x >>> k))), (6, .int (nI k))] → va_P D vwCl (ws) H → va_D A (ws) → va_S A s.heap H locs → W p l e (headSpec w_K_sumOf rm_K_sumOf).room s m [.ref o, .long (lN x)].toArray below meth c H locs 0 0 Q (F0 m 44 ls []) := by
            intro  ls H locs  hl hP hD hS
            refine lv_lload hx hb d_K_sumOf_44 (lv_at hl 2 rfl) ?_
            refine lv_iconst (v := nI 1) hx hb d_K_sumOf_46 (by decide) ?_
            refine lv_lushr (v := lN (x >>> (k + 1))) hx hb d_K_sumOf_47 ((xl_ushr (k := 1) (by have := Nat.shiftRight_le x k; omega) (by decide)).trans (by rw [Nat.shiftRight_add])) ?_
            refine lv_lstore (lv' := [(4, .long (lN (x >>> (k + 1)))), (0, .ref o), (3, .int (nI (xs f x (k + 1)))), (6, .int (nI k))]) hx hb d_K_sumOf_48 hl (by decide) rfl (fun ls hl => ?_)
            refine lv_iinc (v := nI (k + 1)) (lv' := [(6, .int (nI (k + 1))), (4, .long (lN (x >>> (k + 1)))), (0, .ref o), (3, .int (nI (xs f x (k + 1))))]) hx hb d_K_sumOf_50 hl (k := 3) rfl (nI_1 k) (by decide) rfl (fun ls hl => ?_)
            refine lv_goto (tgt := 8) hx hb d_K_sumOf_53 (by decide) ?_
            exact ih (k + 1) _ _ _ (by omega) (by omega) (lv_sub hl [2, 3, 1, 0] rfl) hP hD hS
          refine lv_lload hx hb d_K_sumOf_25 (lv_at hl 2 rfl) ?_
          refine lv_lconst (v := lN 1) hx hb d_K_sumOf_27 (by decide) ?_
          refine lx_land (z := lN (x >>> k % 2)) hx hb d_K_sumOf_28 ((xl_and _ _).trans (by rw [Nat.and_one_is_mod])) ?_
          refine lv_lconst (v := lN 0) hx hb d_K_sumOf_29 (by decide) ?_
          refine lx_lcmp_eq (tgt := 44) hx hb d_K_sumOf_30 d_K_sumOf_31 (by decide) (fun c31 => ?_) (fun c31 => ?_)
          · skip
            have hl : lv_has ls 7 [(0, .ref o), (3, .int (nI (xs f x (k + 1)))), (4, .long (lN (x >>> k))), (6, .int (nI k))] := by rw [xs_even (Nat.lt_of_le_of_lt (Nat.shiftRight_le x k) hx9) c31]; exact hl
            exact j44  _ _ _  (lv_sub hl [0, 1, 2, 3] rfl) hP hD hS
          · skip
            refine lv_iload_n hx hb d_K_sumOf_34 rfl (lv_at hl 1 rfl) ?_
            refine lv_aload_n hx hb d_K_sumOf_35 rfl (lv_at hl 0 rfl) ?_
            refine va_get (D := D) (ci := 3) (v := .ref a) (C := R_N) (T := F_N) (N := 3) hx hb hts i_N hown hK hP k0 h0 rfl 2 (by decide) (hts _ m_139) (fun _ h9 => h9) rfl d_K_sumOf_36 ?_
            refine lv_iload hx hb d_K_sumOf_39 (lv_at hl 3 rfl) ?_
            refine lx_iald (v := nI (f k)) hx hb hK hP k1 0 h1 rfl (j := k) (by omega) (by omega) (rfl) d_K_sumOf_41 ?_
            refine lx_ixor (z := nI (xs f x (k + 1))) hx hb d_K_sumOf_42 ((xn_xor _ _).trans (by rw [xs_odd (Nat.lt_of_le_of_lt (Nat.shiftRight_le x k) hx9) c31])) ?_
            refine lv_istore_n (lv' := [(3, .int (nI (xs f x (k + 1)))), (0, .ref o), (4, .long (lN (x >>> k))), (6, .int (nI k))]) hx hb d_K_sumOf_43 rfl hl (by decide) rfl (fun ls hl => ?_)
            exact j44  _ _ _  (lv_sub hl [1, 0, 2, 3] rfl) hP hD hS
  refine lv_iconst (v := nI 0) hx hb d_K_sumOf_0 (by decide) ?_
  refine lv_istore_n (lv' := [(3, .int (nI 0)), (0, .ref o), (1, .long (lN x))]) hx hb d_K_sumOf_1 rfl hl (by decide) rfl (fun ls hl => ?_)
  refine lv_lload_n hx hb d_K_sumOf_2 rfl (lv_at hl 2 rfl) ?_
  refine lv_lstore (lv' := [(4, .long (lN x)), (3, .int (nI 0)), (0, .ref o), (1, .long (lN x))]) hx hb d_K_sumOf_3 hl (by decide) rfl (fun ls hl => ?_)
  refine lv_iconst (v := nI 0) hx hb d_K_sumOf_5 (by decide) ?_
  refine lv_istore (lv' := [(6, .int (nI 0)), (4, .long (lN x)), (3, .int (nI 0)), (0, .ref o), (1, .long (lN x))]) hx hb d_K_sumOf_6 hl (by decide) rfl (fun ls hl => ?_)
  have hl : lv_has ls 7 [(6, .int (nI 0)), (4, .long (lN (x >>> 0))), (3, .int (nI 0)), (0, .ref o), (1, .long (lN x))] := by rw [Nat.shiftRight_zero]; exact hl
  exact lp8 (M + 1) 0 _ _ _ (by omega) (by omega) (lv_sub hl [3, 2, 1, 0] rfl) hP hD hS
set_option maxHeartbeats 4000000 in
set_option maxRecDepth 100000 in
/-- Code.markOf(storedBit) -/
theorem c_K_markOf_S (l : Launch) (D : va_G) (g : Nat → ClassId) (sz : Nat) (ws : va_W) (k0 k1 o a : Nat) (x1 : Int32) (x3 : Nat) (M : Nat) (f : Nat → Nat) (j : Nat) (h0 : ws[k0]? = some (o, .inr (1, [.int (nI M), .int (x1), .ref a, .ref x3]))) (h1 : ws[k1]? = some (a, .inl (g 0, M, .inl (fun k => nI (f k))))) (hM : M < 64) (hj9 : j < M + 28) : Met l y_K_markOf w_K_markOf rm_K_markOf (va_Pc [.ref o, .int (nI j)] (pP D (tyl g) (ws) sz)) (va_Qi (fun (r : Int32) (u : Unit) => r = nI (if j < M then f j else 1 <<< (j - M))) (fun u => qB D (va_A (ws) sz) (ws)) (va_A (ws) sz)) 0 0 (va_A (ws) sz) := by
  refine Met.ofW (cc := b_K_markOf) (maxL := 2) (ret := (some .int)) (by decide +kernel) rfl ?_
  intro p e s m args below meth c s₁ Bq hml hv
  have hx := Bq.exec
  have hb := Bq.bytes
  have hr := Bq.returns
  have hts : ∀ w ∈ wA, w.before args s = true := fun w h => atoms_spec (ws := w_K_markOf) Bq.pre w (List.mem_cons_of_mem _ h)
  have hown : s.vm.findClass R_K = some m.cls := findClass_of_methodNamed Bq.named
  have hlocks := Bq.notSynchronized
  obtain ⟨rfl, hsz, hP, hKK, hD0⟩ := hv
  have hK := hKK.1
  subst hsz
  have hD := hD0.self (sz := s.heap.size)
  generalize hAe : va_A (ws) s.heap.size = A at hD ⊢
  have hA : ∀ q : Nat, s.heap.size ≤ q → A q := fun q h => by rw [← hAe]; exact Or.inr h
  have hS : va_S A s.heap s.heap [] := va_S.rf
  have hl := lv_entry ([.ref o, .int (nI j)]) (n := 2) (Nat.le_of_ble_eq_true rfl)
  rw [lg_entry_eq]
  generalize (lg_sl ([.ref o, .int (nI j)]) ++ List.replicate (2 - (lg_sl ([.ref o, .int (nI j)])).length) Slot.unset).toArray = ls at hl ⊢
  have hl : lv_has ls 2 [(0, .ref o), (1, .int (nI j))] := hl
  generalize hQ : MQ below (va_Qi (fun (r : Int32) (u : Unit) => r = nI (if j < M then f j else 1 <<< (j - M))) (fun u => qB D (A) (ws)) (A)) [.ref o, .int (nI j)].toArray s 0 0 A = Q
  refine lv_iload_n hx hb d_K_markOf_0 rfl (lv_at hl 1 rfl) ?_
  refine lx_if_lt (tgt := 20) hx hb d_K_markOf_1 (by decide) (by omega) ?_
  refine lv_iload_n hx hb d_K_markOf_4 rfl (lv_at hl 1 rfl) ?_
  refine lv_aload_n hx hb d_K_markOf_5 rfl (lv_at hl 0 rfl) ?_
  refine va_get (D := D) (ci := 1) (v := .ref a) (C := R_S) (T := F_S) (N := 4) hx hb hts i_S hown hK hP k0 h0 rfl 2 (by decide) (hts _ m_139) (fun _ h9 => h9) rfl d_K_markOf_6 ?_
  refine va_alen hx hb hK hP k1 0 h1 (v := nI M) rfl (rfl) d_K_markOf_9 ?_
  refine lx_icmp_ge (tgt := 20) hx hb d_K_markOf_10 (by decide) (by omega) (by omega) (fun c10 => ?_) (fun c10 => ?_)
  · skip
    refine lv_iconst (v := nI 1) hx hb d_K_markOf_20 (by decide) ?_
    refine lv_iload_n hx hb d_K_markOf_21 rfl (lv_at hl 1 rfl) ?_
    refine lv_aload_n hx hb d_K_markOf_22 rfl (lv_at hl 0 rfl) ?_
    refine va_get (D := D) (ci := 1) (v := .int (nI M)) (C := R_S) (T := F_S) (N := 4) hx hb hts i_S hown hK hP k0 h0 rfl 0 (by decide) (hts _ m_134) (fun _ h9 => h9) rfl d_K_markOf_23 ?_
    refine lx_isub (z := nI (j - M)) hx hb d_K_markOf_26 (pk_sub (by omega)) ?_
    refine lx_ishl (z := nI (1 <<< (j - M))) hx hb d_K_markOf_27 (xn_shl 1 (by omega)) ?_
    rw [← hQ]
    refine W.iret (v := nI (1 <<< (j - M))) hx hb hr ?_ hS.2.2 d_K_markOf_28
    exact fun t ht hW => ⟨⟨nI (1 <<< (j - M)), (), rfl, (by rw [if_neg (by omega)]), by rw [ht]; exact hP, hD⟩, hS.F ht⟩
  · skip
    refine lv_aload_n hx hb d_K_markOf_13 rfl (lv_at hl 0 rfl) ?_
    refine va_get (D := D) (ci := 1) (v := .ref a) (C := R_S) (T := F_S) (N := 4) hx hb hts i_S hown hK hP k0 h0 rfl 2 (by decide) (hts _ m_139) (fun _ h9 => h9) rfl d_K_markOf_14 ?_
    refine lv_iload_n hx hb d_K_markOf_17 rfl (lv_at hl 1 rfl) ?_
    refine lx_iald (v := nI (f j)) hx hb hK hP k1 0 h1 rfl (j := j) (by omega) (by omega) (rfl) d_K_markOf_18 ?_
    rw [← hQ]
    refine W.iret (v := nI (f j)) hx hb hr ?_ hS.2.2 d_K_markOf_19
    exact fun t ht hW => ⟨⟨nI (f j), (), rfl, (by rw [if_pos c10]), by rw [ht]; exact hP, hD⟩, hS.F ht⟩
set_option maxHeartbeats 4000000 in
set_option maxRecDepth 100000 in
/-- Code.markOf(storedBit) -/
theorem c_K_markOf_P (l : Launch) (D : va_G) (g : Nat → ClassId) (sz : Nat) (ws : va_W) (k0 k1 o a : Nat) (x1 : Int32) (M : Nat) (f : Nat → Nat) (j : Nat) (h0 : ws[k0]? = some (o, .inr (2, [.int (nI M), .int (x1), .ref a]))) (h1 : ws[k1]? = some (a, .inl (g 0, M, .inl (fun k => nI (f k))))) (hM : M < 64) (hj9 : j < M + 28) : Met l y_K_markOf w_K_markOf rm_K_markOf (va_Pc [.ref o, .int (nI j)] (pP D (tyl g) (ws) sz)) (va_Qi (fun (r : Int32) (u : Unit) => r = nI (if j < M then f j else 1 <<< (j - M))) (fun u => qB D (va_A (ws) sz) (ws)) (va_A (ws) sz)) 0 0 (va_A (ws) sz) := by
  refine Met.ofW (cc := b_K_markOf) (maxL := 2) (ret := (some .int)) (by decide +kernel) rfl ?_
  intro p e s m args below meth c s₁ Bq hml hv
  have hx := Bq.exec
  have hb := Bq.bytes
  have hr := Bq.returns
  have hts : ∀ w ∈ wA, w.before args s = true := fun w h => atoms_spec (ws := w_K_markOf) Bq.pre w (List.mem_cons_of_mem _ h)
  have hown : s.vm.findClass R_K = some m.cls := findClass_of_methodNamed Bq.named
  have hlocks := Bq.notSynchronized
  obtain ⟨rfl, hsz, hP, hKK, hD0⟩ := hv
  have hK := hKK.1
  subst hsz
  have hD := hD0.self (sz := s.heap.size)
  generalize hAe : va_A (ws) s.heap.size = A at hD ⊢
  have hA : ∀ q : Nat, s.heap.size ≤ q → A q := fun q h => by rw [← hAe]; exact Or.inr h
  have hS : va_S A s.heap s.heap [] := va_S.rf
  have hl := lv_entry ([.ref o, .int (nI j)]) (n := 2) (Nat.le_of_ble_eq_true rfl)
  rw [lg_entry_eq]
  generalize (lg_sl ([.ref o, .int (nI j)]) ++ List.replicate (2 - (lg_sl ([.ref o, .int (nI j)])).length) Slot.unset).toArray = ls at hl ⊢
  have hl : lv_has ls 2 [(0, .ref o), (1, .int (nI j))] := hl
  generalize hQ : MQ below (va_Qi (fun (r : Int32) (u : Unit) => r = nI (if j < M then f j else 1 <<< (j - M))) (fun u => qB D (A) (ws)) (A)) [.ref o, .int (nI j)].toArray s 0 0 A = Q
  refine lv_iload_n hx hb d_K_markOf_0 rfl (lv_at hl 1 rfl) ?_
  refine lx_if_lt (tgt := 20) hx hb d_K_markOf_1 (by decide) (by omega) ?_
  refine lv_iload_n hx hb d_K_markOf_4 rfl (lv_at hl 1 rfl) ?_
  refine lv_aload_n hx hb d_K_markOf_5 rfl (lv_at hl 0 rfl) ?_
  refine va_get (D := D) (ci := 2) (v := .ref a) (C := R_P) (T := F_P) (N := 3) hx hb hts i_P hown hK hP k0 h0 rfl 2 (by decide) (hts _ m_139) (fun _ h9 => h9) rfl d_K_markOf_6 ?_
  refine va_alen hx hb hK hP k1 0 h1 (v := nI M) rfl (rfl) d_K_markOf_9 ?_
  refine lx_icmp_ge (tgt := 20) hx hb d_K_markOf_10 (by decide) (by omega) (by omega) (fun c10 => ?_) (fun c10 => ?_)
  · skip
    refine lv_iconst (v := nI 1) hx hb d_K_markOf_20 (by decide) ?_
    refine lv_iload_n hx hb d_K_markOf_21 rfl (lv_at hl 1 rfl) ?_
    refine lv_aload_n hx hb d_K_markOf_22 rfl (lv_at hl 0 rfl) ?_
    refine va_get (D := D) (ci := 2) (v := .int (nI M)) (C := R_P) (T := F_P) (N := 3) hx hb hts i_P hown hK hP k0 h0 rfl 0 (by decide) (hts _ m_134) (fun _ h9 => h9) rfl d_K_markOf_23 ?_
    refine lx_isub (z := nI (j - M)) hx hb d_K_markOf_26 (pk_sub (by omega)) ?_
    refine lx_ishl (z := nI (1 <<< (j - M))) hx hb d_K_markOf_27 (xn_shl 1 (by omega)) ?_
    rw [← hQ]
    refine W.iret (v := nI (1 <<< (j - M))) hx hb hr ?_ hS.2.2 d_K_markOf_28
    exact fun t ht hW => ⟨⟨nI (1 <<< (j - M)), (), rfl, (by rw [if_neg (by omega)]), by rw [ht]; exact hP, hD⟩, hS.F ht⟩
  · skip
    refine lv_aload_n hx hb d_K_markOf_13 rfl (lv_at hl 0 rfl) ?_
    refine va_get (D := D) (ci := 2) (v := .ref a) (C := R_P) (T := F_P) (N := 3) hx hb hts i_P hown hK hP k0 h0 rfl 2 (by decide) (hts _ m_139) (fun _ h9 => h9) rfl d_K_markOf_14 ?_
    refine lv_iload_n hx hb d_K_markOf_17 rfl (lv_at hl 1 rfl) ?_
    refine lx_iald (v := nI (f j)) hx hb hK hP k1 0 h1 rfl (j := j) (by omega) (by omega) (rfl) d_K_markOf_18 ?_
    rw [← hQ]
    refine W.iret (v := nI (f j)) hx hb hr ?_ hS.2.2 d_K_markOf_19
    exact fun t ht hW => ⟨⟨nI (f j), (), rfl, (by rw [if_pos c10]), by rw [ht]; exact hP, hD⟩, hS.F ht⟩
set_option maxHeartbeats 4000000 in
set_option maxRecDepth 100000 in
/-- Code.markOf(storedBit) -/
theorem c_K_markOf_N (l : Launch) (D : va_G) (g : Nat → ClassId) (sz : Nat) (ws : va_W) (k0 k1 o a : Nat) (x1 : Int32) (M : Nat) (f : Nat → Nat) (j : Nat) (h0 : ws[k0]? = some (o, .inr (3, [.int (nI M), .int (x1), .ref a]))) (h1 : ws[k1]? = some (a, .inl (g 0, M, .inl (fun k => nI (f k))))) (hM : M < 64) (hj9 : j < M + 28) : Met l y_K_markOf w_K_markOf rm_K_markOf (va_Pc [.ref o, .int (nI j)] (pP D (tyl g) (ws) sz)) (va_Qi (fun (r : Int32) (u : Unit) => r = nI (if j < M then f j else 1 <<< (j - M))) (fun u => qB D (va_A (ws) sz) (ws)) (va_A (ws) sz)) 0 0 (va_A (ws) sz) := by
  refine Met.ofW (cc := b_K_markOf) (maxL := 2) (ret := (some .int)) (by decide +kernel) rfl ?_
  intro p e s m args below meth c s₁ Bq hml hv
  have hx := Bq.exec
  have hb := Bq.bytes
  have hr := Bq.returns
  have hts : ∀ w ∈ wA, w.before args s = true := fun w h => atoms_spec (ws := w_K_markOf) Bq.pre w (List.mem_cons_of_mem _ h)
  have hown : s.vm.findClass R_K = some m.cls := findClass_of_methodNamed Bq.named
  have hlocks := Bq.notSynchronized
  obtain ⟨rfl, hsz, hP, hKK, hD0⟩ := hv
  have hK := hKK.1
  subst hsz
  have hD := hD0.self (sz := s.heap.size)
  generalize hAe : va_A (ws) s.heap.size = A at hD ⊢
  have hA : ∀ q : Nat, s.heap.size ≤ q → A q := fun q h => by rw [← hAe]; exact Or.inr h
  have hS : va_S A s.heap s.heap [] := va_S.rf
  have hl := lv_entry ([.ref o, .int (nI j)]) (n := 2) (Nat.le_of_ble_eq_true rfl)
  rw [lg_entry_eq]
  generalize (lg_sl ([.ref o, .int (nI j)]) ++ List.replicate (2 - (lg_sl ([.ref o, .int (nI j)])).length) Slot.unset).toArray = ls at hl ⊢
  have hl : lv_has ls 2 [(0, .ref o), (1, .int (nI j))] := hl
  generalize hQ : MQ below (va_Qi (fun (r : Int32) (u : Unit) => r = nI (if j < M then f j else 1 <<< (j - M))) (fun u => qB D (A) (ws)) (A)) [.ref o, .int (nI j)].toArray s 0 0 A = Q
  refine lv_iload_n hx hb d_K_markOf_0 rfl (lv_at hl 1 rfl) ?_
  refine lx_if_lt (tgt := 20) hx hb d_K_markOf_1 (by decide) (by omega) ?_
  refine lv_iload_n hx hb d_K_markOf_4 rfl (lv_at hl 1 rfl) ?_
  refine lv_aload_n hx hb d_K_markOf_5 rfl (lv_at hl 0 rfl) ?_
  refine va_get (D := D) (ci := 3) (v := .ref a) (C := R_N) (T := F_N) (N := 3) hx hb hts i_N hown hK hP k0 h0 rfl 2 (by decide) (hts _ m_139) (fun _ h9 => h9) rfl d_K_markOf_6 ?_
  refine va_alen hx hb hK hP k1 0 h1 (v := nI M) rfl (rfl) d_K_markOf_9 ?_
  refine lx_icmp_ge (tgt := 20) hx hb d_K_markOf_10 (by decide) (by omega) (by omega) (fun c10 => ?_) (fun c10 => ?_)
  · skip
    refine lv_iconst (v := nI 1) hx hb d_K_markOf_20 (by decide) ?_
    refine lv_iload_n hx hb d_K_markOf_21 rfl (lv_at hl 1 rfl) ?_
    refine lv_aload_n hx hb d_K_markOf_22 rfl (lv_at hl 0 rfl) ?_
    refine va_get (D := D) (ci := 3) (v := .int (nI M)) (C := R_N) (T := F_N) (N := 3) hx hb hts i_N hown hK hP k0 h0 rfl 0 (by decide) (hts _ m_134) (fun _ h9 => h9) rfl d_K_markOf_23 ?_
    refine lx_isub (z := nI (j - M)) hx hb d_K_markOf_26 (pk_sub (by omega)) ?_
    refine lx_ishl (z := nI (1 <<< (j - M))) hx hb d_K_markOf_27 (xn_shl 1 (by omega)) ?_
    rw [← hQ]
    refine W.iret (v := nI (1 <<< (j - M))) hx hb hr ?_ hS.2.2 d_K_markOf_28
    exact fun t ht hW => ⟨⟨nI (1 <<< (j - M)), (), rfl, (by rw [if_neg (by omega)]), by rw [ht]; exact hP, hD⟩, hS.F ht⟩
  · skip
    refine lv_aload_n hx hb d_K_markOf_13 rfl (lv_at hl 0 rfl) ?_
    refine va_get (D := D) (ci := 3) (v := .ref a) (C := R_N) (T := F_N) (N := 3) hx hb hts i_N hown hK hP k0 h0 rfl 2 (by decide) (hts _ m_139) (fun _ h9 => h9) rfl d_K_markOf_14 ?_
    refine lv_iload_n hx hb d_K_markOf_17 rfl (lv_at hl 1 rfl) ?_
    refine lx_iald (v := nI (f j)) hx hb hK hP k1 0 h1 rfl (j := j) (by omega) (by omega) (rfl) d_K_markOf_18 ?_
    rw [← hQ]
    refine W.iret (v := nI (f j)) hx hb hr ?_ hS.2.2 d_K_markOf_19
    exact fun t ht hW => ⟨⟨nI (f j), (), rfl, (by rw [if_pos c10]), by rw [ht]; exact hP, hD⟩, hS.F ht⟩
