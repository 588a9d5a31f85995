set_option maxRecDepth 20000 in
theorem m_49 : Cond.instantiable R_C 17 ∈ wA := in_wA (List.mem_of_getElem? (i := 49) rfl) rfl
set_option maxRecDepth 20000 in
theorem m_586 : Cond.instantiable R_M 21 ∈ wA := in_wA (List.mem_of_getElem? (i := 586) rfl) rfl
/-! THE CLAIM OUT OF ONE WALK OF THE LAW'S BODY. Your part is whole_start (and what it stands on); all else here is the same for every law, but numbers. -/
def R_law : String := "CheckCodesLaw"
def lw_P (b : Addr) (xs : List Int32) (args : Array Value) (s : State) : Prop := args = #[.ref b] ∧ s.IntsAt b xs ∧ xs.length ≤ 2050 ∧ (Jvm.Cond.and given_1 narrow_1).before args s = true
def lw_Q (_ : Array Value) (s : State) (o : Outcome) (t : State) : Prop := o = .returned (some (.int 1)) ∧ Framed s o t [] 601024 7293000
def lw_Z (below : List Frame) (a : Array Value) (s : State) : State → Prop := fun t => ∃ o, t.status = .running ∧ Ended t below o ∧ lw_Q a s o t
/-- the law's own end, with 1 on the stack, nothing written that was there before, its room as the claim has it -/
theorem lw_ret {p : Program} {l : Launch} {e : Env} {s : State} {m : MethodId} {below : List Frame} {meth : Method} {c : Code} {b : Nat} (hx : p.tables.exec = Jvm.exec) (hb : c.code = code) (hr : meth.sig.returnType = ret) (hlocks : meth.locks = false) {pc : Nat} {H : Heap} {ls : Array Slot} (hdg : decode code pc = .ok (.ireturn, 1)) : W p l e room_1 s m #[Value.ref b] below meth c H [] 601024 7293000 (lw_Z below #[Value.ref b] s) (F0 m pc ls [.int 1]) := by
  intro T hT X
  obtain ⟨fs, hret, hrun, hended, hW, hframe⟩ := X.leave (v := some (.int 1)) (hlocks := hlocks) (fun h => by rw [hr] at h; cases h)
  have hmeth' : T.vm.method? m = some meth := X.method'
  refine ⟨T.setFrames fs, ?_, .returned (some (.int 1)), hrun, hended, rfl, ⟨_, rfl⟩, hW, hframe⟩
  jvm_step X.here [X.here.top, hx, hb, hdg, hmeth', hr, ret, narrow_b1]
  (try refine ⟨rfl, ?_⟩); (try refine ⟨rfl, ?_⟩)
  first | (intro acts; rw [hret _ acts rfl rfl rfl]) | rw [hret _ _ rfl rfl rfl]
  exact Steps.refl _
/-- what holds at the law's entry: the machine, the code, the tables' words (any of lw_tbl by 'hts w (by decide +kernel)'), the script of L ints xs at the cell b, what the Statement gives of the start (any of its parts by flat_of_before) -/
def lw_At (p : Program) (s : State) (m : MethodId) (meth : Method) (c : Code) (b L : Nat) (xs : Nat → Int32) : Prop :=
  p.tables.exec = Jvm.exec ∧ c.code = code ∧ meth.sig.returnType = ret ∧ c.maxLocals = 7 ∧ s.vm.findClass R_law = some m.cls ∧ (∀ w ∈ lw_tbl, w.before #[Value.ref b] s = true) ∧ va_X b L xs s s.heap ∧ b < s.heap.size ∧ meth.locks = false ∧ (Jvm.Cond.and given_1 narrow_1).before #[Value.ref b] s = true

/-! the law: its context, rows over the script, the state at its loop's head -/
section LL
variable {p : Program} {l : Launch} {e : Env} {R : Room} {s : State} {m : MethodId} {args : Array Value} {below : List Frame} {meth : Method} {c : Code} {H : Heap} {locs : List Loc} {cells slots : Nat} {Q : State → Prop}
variable {cc : ByteArray} {pc : Nat} {ls : Array Slot} {rest st0 : List Value} {D : va_G} {ws : va_W} {A0 : Nat → Prop} {H0 : Heap}
variable {y : MethodName} {bytes : ByteArray} {maxL nL mc ms n index : Nat} {ret : Option FieldType} {wy : List Cond} {rm : Room} {Ts : List Cond} {own : String} {As : List Value}
theorem lx_sld (hx : p.tables.exec = Jvm.exec) (hb : c.code = cc) {b L : Nat} {xs : Nat → Int32} (hX : va_X b L xs s H0) (hbl : b < H0.size) (hbA : ¬ A0 b) (hS : va_S A0 H0 H locs) {j : Nat} {v : Int32} (hj : j < L) (hL : L < 2 ^ 31) (hv : xs j = v) (hd : decode cc pc = .ok (.iaload, 1))
    (k : W p l e R s m args below meth c H locs cells slots Q (F0 m (pc + 1) ls (.int v :: rest))) : W p l e R s m args below meth c H locs cells slots Q (F0 m pc ls (.int (nI j) :: .ref b :: rest)) := by
  refine va_sld hx hb hX hbl hbA hS (vp_in_nI hj hL) hd ?_
  rw [nI_clamp (by omega), hv]
  exact k
theorem lx_slen (hx : p.tables.exec = Jvm.exec) (hb : c.code = cc) {b L : Nat} {xs : Nat → Int32} (hX : va_X b L xs s H0) (hbl : b < H0.size) (hbA : ¬ A0 b) (hS : va_S A0 H0 H locs) (hd : decode cc pc = .ok (.arraylength, 1))
    (k : W p l e R s m args below meth c H locs cells slots Q (F0 m (pc + 1) ls (.int (nI L) :: rest))) : W p l e R s m args below meth c H locs cells slots Q (F0 m pc ls (.ref b :: rest)) := va_slen hx hb hX hbl hbA hS hd k
abbrev pX (b L : Nat) (xs : Nat → Int32) (sz : Nat) : State → Prop := fun U => U.heap.size = sz ∧ va_X b L xs U U.heap
theorem pX_blind (b L : Nat) (xs : Nat → Int32) (sz : Nat) (av : List Value) : FrameBlind (va_Pc av (pX b L xs sz)) := fun a U g mk q => by
  obtain ⟨q0, q1, q2⟩ := q
  exact ⟨q0, q1, va_X.moved (u := U) (U := U.calling g mk a) (Vm.Alike.refl U.vm) q2⟩
/-- a call that reads the script alone -/
theorem lr_SX {post : Int32 → Unit → Prop} {b L : Nat} {xs : Nat → Int32} (S0 : CallFix p m c cc nL s args Ts own)
    (hM : Met l y wy rm (va_Pc As (pX b L xs H.size)) (va_Qi post (fun _ _ => True) (fun q => H.size ≤ q)) mc ms (fun q => H.size ≤ q))
    (cw : CallB R s args own index y bytes maxL ret wy rm mc ms n ∧ (Cond.static y).before args s = true) (hX : va_X b L xs s H0) (hbl : b < H0.size) (hbA : ¬ A0 b) (hP : va_P D vwCl ws H) (hS : va_S A0 H0 H locs) (hA : ∀ q, H0.size ≤ q → A0 q)
    (hsz : ls.size = nL) (hn : As.length = n) (hst : st0 = As.reverse ++ rest) (hw : (rest.map fun v => v.category).sum ≤ 8) (hd : decode cc pc = .ok (.invokestatic index, 3)) (hf : cells + mc ≤ R.cells ∧ slots + ms ≤ R.slots)
    (kk : ∀ (r : Int32) (H : Heap) (locs : List Loc), post r () → va_P D vwCl ws H → va_S A0 H0 H locs → W p l e R s m args below meth c H locs (cells + mc) (slots + ms) Q (F0 m (pc + 3) ls (.int r :: rest))) :
    W p l e R s m args below meth c H locs cells slots Q (F0 m pc ls st0) := by
  have hF : ∀ q : Nat, H.size ≤ q → A0 q := fun q h => hA q (Nat.le_trans hS.1 h)
  refine va_calli (va_runS (As := As) (rest := rest) S0 hM cw ⟨pX_blind _ _ _ _ _, fun U hU hW => ⟨rfl, by rw [hU], by rw [hU]; exact va_X.moved hW.alike (hX.kept (hS.2.1 b hbl hbA))⟩⟩ rfl hn hsz hst (lv_room hw) hd hf) hS (fun q _ h => hF q h) hF (fun r u t H1 locs1 ht hvm hp hB hz hk hS1 => ?_)
  refine kk r H1 locs1 hp (hP.kept (fun k q hq => ?_)) hS1
  have h9 : q.1 < H.size := (hP k q hq).lt
  exact hk q.1 h9 (by omega)
theorem wp_swap (a b : va_W) {r : va_W} (h : va_P D vwCl (a ++ (b ++ r)) H) : va_P D vwCl (b ++ (a ++ r)) H := wp_perm h (by rw [← List.append_assoc, ← List.append_assoc]; exact List.Perm.append_right r List.perm_append_comm)
theorem wd_swap (a b : va_W) {r : va_W} (h : va_D A0 (a ++ (b ++ r))) : va_D A0 (b ++ (a ++ r)) := wd_perm h (by rw [← List.append_assoc, ← List.append_assoc]; exact List.Perm.append_right r List.perm_append_comm)
end LL
theorem i32_ex (v : Int32) : ∃ k, k < 2 ^ 32 ∧ v = nI k := ⟨v.toBitVec.toNat, v.toBitVec.isLt, by
  apply Int32.toBitVec_inj.mp
  show v.toBitVec = BitVec.ofNat 32 v.toBitVec.toNat
  rw [BitVec.ofNat_toNat, BitVec.setWidth_eq]⟩
theorem i64_ex (v : Int64) : ∃ k, k < 2 ^ 64 ∧ v = lN k := ⟨v.toBitVec.toNat, v.toBitVec.isLt, by
  apply Int64.toBitVec_inj.mp
  show v.toBitVec = BitVec.ofNat 64 v.toBitVec.toNat
  rw [BitVec.ofNat_toNat, BitVec.setWidth_eq]⟩
theorem sw16 (v : Int32) : ∃ t, t < 16 ∧ v &&& nI 15 = nI t := by
  obtain ⟨k, hk, rfl⟩ := i32_ex v
  exact ⟨k &&& 15, Nat.lt_of_le_of_lt Nat.and_le_right (by decide), xn_and k 15⟩
theorem lw_gt {i L : Nat} (hi : i ≤ 4000) (hL : L ≤ 2050) : nI L - nI 4 < nI i ↔ L < i + 4 := by
  rcases Nat.lt_or_ge L 4 with h | h
  · refine ⟨fun _ => by omega, fun _ => ?_⟩
    have h0 : nI L - nI 4 < 0 := by
      rcases (show L = 0 ∨ L = 1 ∨ L = 2 ∨ L = 3 by omega) with rfl | rfl | rfl | rfl <;> decide
    exact Int32.lt_of_lt_of_le h0 (nI_ge0 (by omega))
  · rw [pk_sub h, nI_ltI (by omega) (by omega)]
    omega
theorem in16 (v : Int32) : (v < nI 1 ∨ ¬ v ≤ nI 6) ∨ ∃ k, 1 ≤ k ∧ k ≤ 6 ∧ v = nI k := by
  by_cases h1 : v < nI 1
  · exact Or.inl (Or.inl h1)
  · by_cases h2 : v ≤ nI 6
    · have h0 : ¬ v < 0 := fun q => h1 (Int32.lt_trans q (by decide))
      obtain ⟨k, hk, rfl⟩ := nI_of h0
      exact Or.inr ⟨k, Nat.le_of_not_lt (fun q => h1 ((nI_ltI hk (by decide)).mpr q)), (nI_leI hk (by decide)).mp h2, rfl⟩
    · exact Or.inl (Or.inr h2)
theorem in01 (v : Int32) : (¬ v = nI 0 ∧ ¬ v = nI 1) ∨ ∃ k, k ≤ 1 ∧ v = nI k := by
  by_cases h0 : v = nI 0
  · exact Or.inr ⟨0, by decide, h0⟩
  · by_cases h1 : v = nI 1
    · exact Or.inr ⟨1, by decide, h1⟩
    · exact Or.inl ⟨h0, h1⟩
/-- the spare rows, here and in the model -/
def SPK (su : Nat) (fs fsq : Nat → Int32) : Prop := su ≤ 8 ∧ (∀ k, k < su → ∃ j, j < 65536 ∧ fs k = nI j ∧ fsq k = nI j) ∧ (∀ k, su ≤ k → k < 8 → fsq k = -1) ∧ ∀ i k, i < k → k < su → ¬ fs i = fs k
theorem SPK.init (fs : Nat → Int32) : SPK 0 fs (fun _ => -1) := ⟨by decide, fun k h => by omega, fun _ _ _ => rfl, fun i k _ h => by omega⟩
theorem SPK.eq {su : Nat} {fs fsq : Nat → Int32} (h : SPK su fs fsq) {k : Nat} (hk : k < su) : fsq k = fs k := by
  obtain ⟨j, -, h1, h2⟩ := h.2.1 k hk
  rw [h1, h2]
theorem SPK.in {su j k : Nat} {fs fsq : Nat → Int32} (h : SPK su fs fsq) (hj : j < 65536) (hk : k < 8) (he : fsq k = nI j) : k < su := by
  rcases Nat.lt_or_ge k su with q | q
  · exact q
  · rw [h.2.2.1 k q hk] at he
    exact absurd he.symm (nI_nm1 (by omega))
theorem SPK.cases {su j : Nat} {fs fsq : Nat → Int32} (h : SPK su fs fsq) (hj : j < 65536) : (∃ i, i < su ∧ fs i = nI j ∧ fsq i = nI j ∧ (∀ k, k < i → ¬ fs k = nI j) ∧ (∀ k, k < i → ¬ fsq k = nI j)) ∨ ((∀ k, k < su → ¬ fs k = nI j) ∧ ∀ k, k < 8 → ¬ fsq k = nI j) := by
  by_cases c : ∃ i, i < su ∧ fs i = nI j
  · obtain ⟨i, hi, he⟩ := c
    have hno : ∀ k, k < i → ¬ fs k = nI j := fun k hk q => h.2.2.2 k i hk hi (q.trans he.symm)
    exact Or.inl ⟨i, hi, he, (h.eq hi).trans he, hno, fun k hk q => hno k hk ((h.eq (by omega)).symm.trans q)⟩
  · have hno : ∀ k, k < su → ¬ fs k = nI j := fun k hk q => c ⟨k, hk, q⟩
    exact Or.inr ⟨hno, fun k hk q => hno k (h.in hj hk q) ((h.eq (h.in hj hk q)).symm.trans q)⟩
theorem SPK.ng {su : Nat} {fs fsq : Nat → Int32} (h : SPK su fs fsq) (hs : su < 8) : fsq su < 0 := by rw [h.2.2.1 su (Nat.le_refl _) hs]; decide
theorem SPK.ps {su : Nat} {fs fsq : Nat → Int32} (h : SPK su fs fsq) : ∀ k, k < su → ¬ fsq k < 0 := fun k hk q => by
  obtain ⟨j, h0, -, h2⟩ := h.2.1 k hk
  rw [h2] at q
  exact absurd (nI_ge0 (k := j) (by omega)) (Int32.not_le.mpr q)
theorem SPK.add {su j : Nat} {fs fsq : Nat → Int32} (h : SPK su fs fsq) (hs : su < 8) (hj : j < 65536) (hno : ∀ k, k < su → ¬ fs k = nI j) : SPK (su + 1) (upd fs su (nI j)) (upd fsq su (nI j)) := by
  have e1 : ∀ f : Nat → Int32, upd f su (nI j) su = nI j := fun f => if_pos rfl
  have e2 : ∀ (f : Nat → Int32) k, k ≠ su → upd f su (nI j) k = f k := fun f k hk => if_neg hk
  refine ⟨by omega, fun k hk => ?_, fun k h1 h2 => ?_, fun i k h1 h2 => ?_⟩
  · by_cases c : k = su
    · subst c; exact ⟨j, hj, e1 _, e1 _⟩
    · obtain ⟨j9, q0, q1, q2⟩ := h.2.1 k (by omega)
      exact ⟨j9, q0, (e2 _ k c).trans q1, (e2 _ k c).trans q2⟩
  · rw [e2 _ k (by omega)]; exact h.2.2.1 k (by omega) h2
  · rw [e2 _ i (by omega)]
    by_cases c : k = su
    · subst c; rw [e1]; exact hno i h1
    · rw [e2 _ k c]; exact h.2.2.2 i k h1 (by omega)
theorem SPK.same {su j : Nat} {fs fsq : Nat → Int32} {u r : Int32} (h : SPK su fs fsq) (hj : j < 65536)
    (h1 : (∃ i, i < su ∧ u = nI i ∧ fs i = nI j ∧ ∀ i9, i9 < i → ¬ fs i9 = nI j) ∨ (u = -1 ∧ ∀ i9, i9 < su → ¬ fs i9 = nI j))
    (h2 : (∃ i, i < 8 ∧ r = nI i ∧ fsq i = nI j) ∨ (r = -1 ∧ ∀ i, i < 8 → ¬ fsq i = nI j)) : u = r := by
  rcases h1 with ⟨i, q1, rfl, q3, q4⟩ | ⟨rfl, q2⟩
  · rcases h2 with ⟨k, z1, rfl, z3⟩ | ⟨rfl, z2⟩
    · have hk := h.in hj z1 z3
      have e : fs k = nI j := (h.eq hk).symm.trans z3
      rcases Nat.lt_trichotomy i k with q | q | q
      · exact absurd (q3.trans e.symm) (h.2.2.2 i k q hk)
      · rw [q]
      · exact absurd e (q4 k q)
    · exact absurd ((h.eq q1).trans q3) (z2 i (Nat.lt_of_lt_of_le q1 h.1))
  · rcases h2 with ⟨k, z1, rfl, z3⟩ | ⟨rfl, z2⟩
    · have hk := h.in hj z1 z3
      exact absurd ((h.eq hk).symm.trans z3) (q2 k hk)
    · rfl
/-- what holds between both states -/
def LOK (kd M ha fl an su : Nat) (lb : Int32) (fa fs fsq : Nat → Int32) : Prop := ha ≤ 1 ∧ fl < 2 ^ ckb kd M ∧ ((an = 0 ∧ fa = fun _ => nI 0) ∨ (an = 1 ∧ fa = fun i => nI (tbl (pairA kd M) (M + ckb kd M) (M + ckb kd M) i))) ∧ (lb = -1 ∨ ∃ b, lb = nI b ∧ LB kd M b) ∧ SPK su fs fsq

set_option maxRecDepth 20000 in
theorem tb_AO : Cond.arrayOver (.object "CheckCodes$Lane") ∈ lw_tbl := List.mem_of_getElem? (i := 69) rfl
set_option maxRecDepth 20000 in
theorem tb_LN : (Cond.methodLinkNest "CheckCodes" 52 y_T_init "CheckCodes") ∈ lw_tbl := List.mem_of_getElem? (i := 189) rfl
set_option maxRecDepth 20000 in
theorem tb_DJ : Cond.declares y_K_judge ∈ lw_tbl := List.mem_of_getElem? (i := 447) rfl
set_option maxRecDepth 20000 in
theorem tb_D0 : Cond.declares ⟨"java/lang/RuntimeException", "<init>", "(Ljava/lang/String;)V"⟩ ∈ lw_tbl := List.mem_of_getElem? (i := 321) rfl
set_option maxRecDepth 20000 in
theorem tb_D1 : Cond.declares ⟨"java/lang/Exception", "<init>", "(Ljava/lang/String;)V"⟩ ∈ lw_tbl := List.mem_of_getElem? (i := 323) rfl
set_option maxRecDepth 20000 in
theorem tb_D2 : Cond.declares ⟨"java/lang/Throwable", "<init>", "(Ljava/lang/String;)V"⟩ ∈ lw_tbl := List.mem_of_getElem? (i := 325) rfl
set_option maxRecDepth 20000 in
theorem tb_CI : Cond.castable exI exI ∈ lw_tbl := List.mem_of_getElem? (i := 319) rfl
set_option maxRecDepth 20000 in
theorem tb_CU : Cond.castable exU exU ∈ lw_tbl := List.mem_of_getElem? (i := 387) rfl
set_option maxRecDepth 20000 in
theorem tb_CA : Cond.castable exA exA ∈ lw_tbl := List.mem_of_getElem? (i := 432) rfl
set_option maxRecDepth 20000 in
theorem tb_S73 : Cond.stringRef "CheckCodes" 73 "the word has no such bit" ∈ lw_tbl := List.mem_of_getElem? (i := 358) rfl
set_option maxRecDepth 20000 in
theorem tb_S80 : Cond.stringRef "CheckCodes" 80 "codes of nibbles have no columns" ∈ lw_tbl := List.mem_of_getElem? (i := 394) rfl
set_option maxRecDepth 20000 in
theorem tb_S87 : Cond.stringRef "CheckCodes" 87 "this kind folds no address in" ∈ lw_tbl := List.mem_of_getElem? (i := 417) rfl
set_option maxRecDepth 20000 in
theorem tb_S105 : Cond.stringRef "CheckCodes" 105 "the check has bits that no check of this code has" ∈ lw_tbl := List.mem_of_getElem? (i := 439) rfl
set_option maxRecDepth 20000 in
theorem tb_S140 : Cond.stringRef "CheckCodes" 140 "the stored one has no such bit" ∈ lw_tbl := List.mem_of_getElem? (i := 490) rfl
set_option maxRecDepth 20000 in
theorem tb_S145 : Cond.stringRef "CheckCodes" 145 "the table has no such place" ∈ lw_tbl := List.mem_of_getElem? (i := 521) rfl
set_option maxRecDepth 20000 in
theorem tb_S150 : Cond.stringRef "CheckCodes" 150 "bursts have 1 to 6 bits" ∈ lw_tbl := List.mem_of_getElem? (i := 537) rfl
set_option maxRecDepth 20000 in
theorem tb_S158 : Cond.stringRef "CheckCodes" 158 "there is no such row" ∈ lw_tbl := List.mem_of_getElem? (i := 561) rfl
set_option maxRecDepth 20000 in
theorem tb_S166 : Cond.stringRef "CheckCodes" 166 "no spare row is free" ∈ lw_tbl := List.mem_of_getElem? (i := 566) rfl
set_option maxRecDepth 20000 in
theorem tb_S168 : Cond.stringRef "CheckCodes" 168 "a fraction has two parts" ∈ lw_tbl := List.mem_of_getElem? (i := 581) rfl
set_option maxRecDepth 20000 in
theorem tb_Z1 : Cond.laysStatic tnN "UNASSIGNED_STACK" steT ∈ lw_tbl := List.mem_of_getElem? (i := 344) rfl
set_option maxRecDepth 20000 in
theorem tb_Z2 : Cond.laysStatic tnN "SUPPRESSED_SENTINEL" lisT ∈ lw_tbl := List.mem_of_getElem? (i := 346) rfl
set_option maxRecDepth 20000 in
theorem tb_ZI : Cond.initialized tnN ∈ lw_tbl := List.mem_of_getElem? (i := 41) rfl
set_option maxRecDepth 20000 in
theorem tb_ai : Cond.arrayClass .int ∈ lw_tbl := List.mem_of_getElem? (i := 115) rfl
set_option maxRecDepth 20000 in
theorem tb_al : Cond.arrayClass .long ∈ lw_tbl := List.mem_of_getElem? (i := 804) rfl
set_option maxRecDepth 20000 in
theorem tb_ab : Cond.arrayClass .boolean ∈ lw_tbl := List.mem_of_getElem? (i := 667) rfl
set_option maxRecDepth 20000 in
theorem nw_1 : Cond.not (.castable exU exI) ∈ flatC (Jvm.Cond.and given_1 narrow_1) := by decide +kernel
set_option maxRecDepth 20000 in
theorem nw_2 : Cond.isRef (.static tnN "UNASSIGNED_STACK" steT) ∈ flatC (Jvm.Cond.and given_1 narrow_1) := by decide +kernel
set_option maxRecDepth 20000 in
theorem nw_3 : Cond.isRef (.static tnN "SUPPRESSED_SENTINEL" lisT) ∈ flatC (Jvm.Cond.and given_1 narrow_1) := by decide +kernel
theorem lw_arr {s : State} {args : Array Value} {t : FieldType} (h : (Cond.arrayClass t).before args s = true) : ∃ cA, ArrOfT s cA t ∧ s.vm.findClass ("[" ++ t.toString) = some cA := by
  obtain ⟨cA, k, comp, h1, h2, h3⟩ := Cond.arrayClass_spec h
  exact ⟨cA, fun n z => ⟨fun k h => (by cases h), k, h2, comp, h3⟩, h1⟩
set_option maxRecDepth 20000 in
theorem lw_pK {s : State} {args : Array Value} (hts : ∀ w ∈ lw_tbl, w.before args s = true) : ∃ (D : va_G) (g : Nat → ClassId), pK D (tyl g) s := by
  have hA : ∀ w ∈ wA, w.before args s = true := fun w h => hts w (wA_tbl h)
  obtain ⟨c0, i0, h0⟩ := u_known (C := R_C) (T := F_C) (N := 17) (n := 17) hA i_C (hA _ m_49)
  obtain ⟨c1, i1, h1⟩ := u_known (C := R_S) (T := F_S) (N := 4) (n := 4) hA i_S (hA _ m_67)
  obtain ⟨c2, i2, h2⟩ := u_known (C := R_P) (T := F_P) (N := 3) (n := 3) hA i_P (hA _ m_150)
  obtain ⟨c3, i3, h3⟩ := u_known (C := R_N) (T := F_N) (N := 3) (n := 3) hA i_N (hA _ m_166)
  obtain ⟨c4, i4, h4⟩ := u_known (C := R_L) (T := F_L) (N := 4) (n := 4) hA i_L (hA _ m_70)
  obtain ⟨c5, i5, h5⟩ := u_known (C := R_T) (T := F_T) (N := 2) (n := 2) hA i_T (hA _ m_188)
  obtain ⟨c6, i6, h6⟩ := u_known (C := R_M) (T := F_M) (N := 21) (n := 21) hA i_M (hA _ m_586)
  obtain ⟨a0, p0, q0⟩ := lw_arr (hts _ tb_ai)
  obtain ⟨a1, p1, q1⟩ := lw_arr (hts _ tb_al)
  obtain ⟨a2, p2, q2⟩ := lw_arr (hts _ tb_ab)
  obtain ⟨comp, a3, k3, r1, -, r2, r3, r4⟩ := Cond.arrayOver_spec (hts _ tb_AO)
  refine ⟨(fun k => match k with
    | 0 => c0
    | 1 => c1
    | 2 => c2
    | 3 => c3
    | 4 => c4
    | 5 => c5
    | _ => c6, fun k => match k with
    | 0 => i0
    | 1 => i1
    | 2 => i2
    | 3 => i3
    | 4 => i4
    | 5 => i5
    | _ => i6), fun k => match k with | 0 => a0 | 1 => a1 | 2 => a2 | _ => a3, ⟨fun k q hq => ?_, fun k q hq => ?_⟩, va_AO.of (hts _ tb_AO), va_Nw.of rfl (hts _ tb_LN), va_Nw.of rfl (hts _ tb_DJ)⟩
  · match k, hq with
    | 0, hq => cases hq; exact h0
    | 1, hq => cases hq; exact h1
    | 2, hq => cases hq; exact h2
    | 3, hq => cases hq; exact h3
    | 4, hq => cases hq; exact h4
    | 5, hq => cases hq; exact h5
    | 6, hq => cases hq; exact h6
    | k + 7, hq => simp [vwCl] at hq
  · match k, hq with
    | 0, hq => cases hq; exact ⟨p0, q0⟩
    | 1, hq => cases hq; exact ⟨p1, q1⟩
    | 2, hq => cases hq; exact ⟨p2, q2⟩
    | 3, hq => cases hq; exact ⟨fun n z => ⟨fun k h => (by cases h), k3, r2, comp, r3⟩, k3, comp, r2, r3, r1, r4⟩
    | k + 4, hq => simp [tyl] at hq
theorem lw_str {s : State} {args : Array Value} {k : Nat} {tx : String} (hts : ∀ w ∈ lw_tbl, w.before args s = true) (h : Cond.stringRef "CheckCodes" k tx ∈ lw_tbl) : ∃ a, vk_R "CheckCodes" k tx a s := by
  have h1 := hts _ h
  obtain ⟨cC, iS, hk⟩ := u_known (C := R_C) (T := F_C) (N := 17) (n := 17) (fun w h => hts w (wA_tbl h)) i_C (hts _ (wA_tbl m_49))
  have hc : s.vm.findClass "CheckCodes" = some cC := hk.2.1
  obtain ⟨-, -, -, a, -, -, -, -, -, hev⟩ := Cond.stringRef_spec hc h1
  exact ⟨a, vk_R.of h1 hev⟩
theorem lw_tK {s : State} {args : Array Value} (hts : ∀ w ∈ lw_tbl, w.before args s = true) : tK s := by
  refine ⟨fun n hn => ?_, fun n hn => ?_, fun q hq => ?_⟩
  · simp only [thD, List.mem_cons, List.not_mem_nil, or_false] at hn
    rcases hn with rfl | rfl | rfl
    · exact va_Nw.of rfl (hts _ tb_D0)
    · exact va_Nw.of rfl (hts _ tb_D1)
    · exact va_Nw.of rfl (hts _ tb_D2)
  · simp only [List.mem_cons, List.not_mem_nil, or_false] at hn
    rcases hn with rfl | rfl | rfl
    · exact va_Nw.of rfl (hts _ tb_CI)
    · exact va_Nw.of rfl (hts _ tb_CU)
    · exact va_Nw.of rfl (hts _ tb_CA)
  · simp only [thS, List.mem_cons, List.not_mem_nil, or_false] at hq
    rcases hq with rfl | rfl | rfl | rfl | rfl | rfl | rfl | rfl | rfl | rfl
    · exact lw_str hts tb_S73
    · exact lw_str hts tb_S80
    · exact lw_str hts tb_S87
    · exact lw_str hts tb_S105
    · exact lw_str hts tb_S140
    · exact lw_str hts tb_S145
    · exact lw_str hts tb_S150
    · exact lw_str hts tb_S158
    · exact lw_str hts tb_S166
    · exact lw_str hts tb_S168
theorem lw_tS {s : State} {args : Array Value} (hts : ∀ w ∈ lw_tbl, w.before args s = true) (hgv : (Jvm.Cond.and given_1 narrow_1).before args s = true) : tS (fun q => s.heap.size ≤ q) s s.heap := by
  have hA : ∀ a : Nat, a < s.heap.size → ¬ (fun q => s.heap.size ≤ q) a := fun a h => Nat.not_le.mpr h
  exact ⟨⟨va_Zqof (hts _ tb_Z1) (hts _ tb_ZI) (flat_of_before _ hgv _ nw_2) hA, va_Zqof (hts _ tb_Z2) (hts _ tb_ZI) (flat_of_before _ hgv _ nw_3) hA⟩, lS.of (hts _ tb_Z1) hA, lS.of (hts _ tb_Z2) hA⟩
theorem lw_Nc {s : State} {args : Array Value} (hgv : (Jvm.Cond.and given_1 narrow_1).before args s = true) : va_Nc exU exI s := va_Nc.of (flat_of_before _ hgv _ nw_1)
