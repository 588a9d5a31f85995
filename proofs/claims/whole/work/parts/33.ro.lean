section LR
variable {p : Program} {l : Launch} {e : Env} {R : Room} {s : State} {m : MethodId} {args : Array Value} {below : List Frame} {meth : Method} {c : Code} {H : Heap} {locs : List Loc} {cells slots : Nat} {Q : State → Prop}
variable {cc : ByteArray} {pc : Nat} {ls : Array Slot} {rest st0 : List Value} {D : va_G} {tys : List (ClassId × FieldType)} {ws : va_W} {A0 : Nat → Prop} {H0 : Heap}
variable {y : MethodName} {bytes : ByteArray} {maxL nL mc ms n index : Nat} {ret : Option FieldType} {wy : List Cond} {rm : Room} {Ts : List Cond} {own C host owner : String} {x : MethodName} {b : Addr} {As : List Value}
/-- a call that changes nothing that was there -/
theorem lr_Si {post : Int32 → Unit → Prop} (S0 : CallFix p m c cc nL s args Ts own)
    (hM : Met l y wy rm (va_Pc As (pP D tys ws H.size)) (va_Qi post (fun _ _ => True) (fun q => H.size ≤ q)) mc ms (fun q => H.size ≤ q))
    (cw : CallB R s args own index y bytes maxL ret wy rm mc ms n ∧ (Cond.static y).before args s = true) (hK : pK D tys s) (hP : va_P D vwCl ws H) (hD : va_D (fun _ => True) ws) (hS : va_S A0 H0 H locs) (hA : ∀ q, H0.size ≤ q → A0 q)
    (hsz : ls.size = nL) (hn : As.length = n) (hst : st0 = As.reverse ++ rest) (hw : (rest.map fun v => v.category).sum ≤ 8) (hd : decode cc pc = .ok (.invokestatic index, 3)) (hf : cells + mc ≤ R.cells ∧ slots + ms ≤ R.slots)
    (kk : ∀ (r : Int32) (H : Heap) (locs : List Loc), post r () → va_P D vwCl ws H → va_S A0 H0 H locs → W p l e R s m args below meth c H locs (cells + mc) (slots + ms) Q (F0 m (pc + 3) ls (.int r :: rest))) :
    W p l e R s m args below meth c H locs cells slots Q (F0 m pc ls st0) := by
  have hF : ∀ q : Nat, H.size ≤ q → A0 q := fun q h => hA q (Nat.le_trans hS.1 h)
  refine va_calli (va_runS (As := As) (rest := rest) S0 hM cw ⟨pP_blind _ _ _ _ _, fun U hU hW => ⟨rfl, pP_of hU hW hP hK hD⟩⟩ rfl hn hsz hst (lv_room hw) hd hf) hS (fun q _ h => hF q h) hF (fun r u t H1 locs1 ht hvm hp hB hz hk hS1 => ?_)
  refine kk r H1 locs1 hp (hP.kept (fun k q hq => ?_)) hS1
  have h9 : q.1 < H.size := (hP k q hq).lt
  exact hk q.1 h9 (by omega)
theorem lr_Vi {post : Int32 → Unit → Prop} (S0 : CallFix p m c cc nL s args Ts own)
    (hM : Met l y wy rm (va_Pc (.ref b :: As) (pP D tys ws H.size)) (va_Qi post (fun _ _ => True) (fun q => H.size ≤ q)) mc ms (fun q => H.size ≤ q))
    (cw : CallW R s args own C index y bytes maxL ret wy rm mc ms n) (hrc : ∃ cell : Cell, H[b]? = some cell ∧ cell.vm.isStatics = false ∧ s.vm.findClass C = some cell.cls) (hK : pK D tys s) (hP : va_P D vwCl ws H) (hD : va_D (fun _ => True) ws) (hS : va_S A0 H0 H locs) (hA : ∀ q, H0.size ≤ q → A0 q)
    (hsz : ls.size = nL) (hn : As.length = n) (hst : st0 = As.reverse ++ .ref b :: rest) (hw : (rest.map fun v => v.category).sum ≤ 8) (hd : decode cc pc = .ok (.invokevirtual index, 3)) (hf : cells + mc ≤ R.cells ∧ slots + ms ≤ R.slots)
    (kk : ∀ (r : Int32) (H : Heap) (locs : List Loc), post r () → va_P D vwCl ws H → va_S A0 H0 H locs → W p l e R s m args below meth c H locs (cells + mc) (slots + ms) Q (F0 m (pc + 3) ls (.int r :: rest))) :
    W p l e R s m args below meth c H locs cells slots Q (F0 m pc ls st0) := by
  have hF : ∀ q : Nat, H.size ≤ q → A0 q := fun q h => hA q (Nat.le_trans hS.1 h)
  refine va_calli (va_runV (As := As) (rest := rest) S0 hM cw ⟨pP_blind _ _ _ _ _, hrc, fun U hU hW => ⟨rfl, pP_of hU hW hP hK hD⟩⟩ rfl hn hsz hst (lv_room hw) hd hf) hS (fun q _ h => hF q h) hF (fun r u t H1 locs1 ht hvm hp hB hz hk hS1 => ?_)
  refine kk r H1 locs1 hp (hP.kept (fun k q hq => ?_)) hS1
  have h9 : q.1 < H.size := (hP k q hq).lt
  exact hk q.1 h9 (by omega)
end LR
/-- the start of a method that will throw -/
abbrev pPT (D : va_G) (tys : List (ClassId × FieldType)) (ws : va_W) (sz : Nat) : State → Prop := fun U => pP D tys ws sz U ∧ tK U ∧ tS (va_A ws sz) U U.heap
theorem th_I : ∀ w ∈ Bundle.ownAtoms "CheckCodes" 75 exI exN, w ∈ lw_tbl ∨ w ∈ thB exI := by decide +kernel
theorem tg_I : ∀ w ∈ Bundle.ownAtoms "CheckCodes" 75 exI exN, goodWord w = true ∨ w ∈ thB exI := by decide +kernel
theorem th_U : ∀ w ∈ Bundle.ownAtoms "CheckCodes" 82 exU exN, w ∈ lw_tbl ∨ w ∈ thB exU := by decide +kernel
theorem tg_U : ∀ w ∈ Bundle.ownAtoms "CheckCodes" 82 exU exN, goodWord w = true ∨ w ∈ thB exU := by decide +kernel
theorem th_A : ∀ w ∈ Bundle.ownAtoms "CheckCodes" 107 exA exN, w ∈ lw_tbl ∨ w ∈ thB exA := by decide +kernel
theorem tg_A : ∀ w ∈ Bundle.ownAtoms "CheckCodes" 107 exA exN, goodWord w = true ∨ w ∈ thB exA := by decide +kernel
theorem tab_of {p : Program} {l : Launch} {y : MethodName} {ws wy : List Cond} {rm : Room} {cc : ByteArray} {maxL : Nat} {ret : Option FieldType} {e : Env} {s : State} {m : MethodId} {args : Array Value} {below : List Frame} {meth : Method} {c : Code} {s₁ : State}
    (B : BodyLoose p l y (headSpec wy rm) cc maxL ret e s m args below meth c s₁) (hw : wy = Cond.code y cc maxL ret :: ws) : c.exceptionTable.isEmpty = true := B.noHandlers (atoms_spec (ws := wy) B.pre _ (by rw [hw]; exact List.mem_cons_self))
/-- whether a number is one of 0 to n - 1 -/
def inBb (n : Nat) (v : Int32) : Nat := if v < 0 then 0 else if nI n ≤ v then 0 else 1
theorem inBb_le (n : Nat) (v : Int32) : inBb n v ≤ 1 := by
  unfold inBb
  by_cases h0 : v < 0
  · rw [if_pos h0]; decide
  · rw [if_neg h0]
    by_cases h1 : nI n ≤ v
    · rw [if_pos h1]; decide
    · rw [if_neg h1]; decide
theorem i32_nn {v : Int32} (h : ¬ v < 0) : ∃ k, k < 2 ^ 31 ∧ v = nI k := nI_of h
theorem inBb_1 {n : Nat} {v : Int32} (hn : n < 2 ^ 31) (h : inBb n v = 1) : ∃ k, k < n ∧ v = nI k := by
  unfold inBb at h
  by_cases h0 : v < 0
  · rw [if_pos h0] at h; cases h
  · rw [if_neg h0] at h
    by_cases h1 : nI n ≤ v
    · rw [if_pos h1] at h; cases h
    · obtain ⟨k, hk, rfl⟩ := i32_nn h0
      exact ⟨k, Nat.lt_of_not_le (fun q => h1 ((nI_leI hn hk).mpr q)), rfl⟩
theorem inBb_nI {n k : Nat} (hn : n < 2 ^ 31) (hk : k < n) : inBb n (nI k) = 1 := by
  unfold inBb
  rw [if_neg (nI_pos (by omega)), if_neg (fun q => by have := (nI_leI hn (by omega)).mp q; omega)]
theorem inBb_no {n : Nat} {v : Int32} (hn : n < 2 ^ 31) (h : inBb n v = 0) (h0 : ¬ v < 0) (h1 : v < nI n) : False := by
  obtain ⟨k, hk, rfl⟩ := i32_nn h0
  rw [inBb_nI hn ((nI_ltI hk hn).mp h1)] at h
  cases h
theorem inBb_cases (n : Nat) (v : Int32) (hn : n < 2 ^ 31) : inBb n v = 0 ∨ ∃ k, k < n ∧ v = nI k := by
  rcases (show inBb n v = 0 ∨ inBb n v = 1 by have := inBb_le n v; omega) with h | h
  · exact Or.inl h
  · exact Or.inr (inBb_1 hn h)
theorem nI_m1 : (-1 : Int32) = nI 4294967295 := by decide
theorem out_mask {y K : Nat} (hy : y < 2 ^ 32) (hK : K ≤ 32) : (nI y &&& (nI (2 ^ K - 1) ^^^ (-1))) = 0 ↔ y < 2 ^ K := by
  rw [nI_m1, xn_xor, xn_and, xn_0 (Nat.lt_of_le_of_lt Nat.and_le_left hy)]
  have hb : ∀ i, ((2 ^ K - 1) ^^^ 4294967295).testBit i = (decide (i < K) ^^ decide (i < 32)) := fun i => by
    rw [Nat.testBit_xor, Nat.testBit_two_pow_sub_one, show (4294967295 : Nat) = 2 ^ 32 - 1 from by decide, Nat.testBit_two_pow_sub_one]
  constructor
  · intro h
    apply Nat.lt_pow_two_of_testBit
    intro i hi
    have h1 : (y &&& ((2 ^ K - 1) ^^^ 4294967295)).testBit i = false := by rw [h]; exact Nat.zero_testBit i
    rw [Nat.testBit_and, hb, decide_eq_false (by omega : ¬ i < K)] at h1
    by_cases h32 : i < 32
    · rw [decide_eq_true h32] at h1; simpa using h1
    · exact Nat.testBit_lt_two_pow (Nat.lt_of_lt_of_le hy (Nat.pow_le_pow_right (by decide) (by omega)))
  · intro h
    apply Nat.eq_of_testBit_eq
    intro i
    rw [Nat.testBit_and, hb, Nat.zero_testBit]
    by_cases hi : i < K
    · rw [decide_eq_true hi, decide_eq_true (by omega : i < 32)]; simp
    · rw [Nat.testBit_lt_two_pow (Nat.lt_of_lt_of_le h (Nat.pow_le_pow_right (by decide) (by omega)))]; rfl
