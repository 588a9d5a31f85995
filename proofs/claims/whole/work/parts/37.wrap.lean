/-! the law's own calls: methods with a table of handlers -/
section LW
variable {p : Program} {l : Launch} {e : Env} {R : Room} {s : State} {m : MethodId} {args : Array Value} {below : List Frame} {meth : Method} {c : Code} {H : Heap} {locs : List Loc} {cells slots : Nat} {Q : State → Prop}
variable {cc : ByteArray} {pc : Nat} {ls : Array Slot} {rest st0 : List Value} {D : va_G} {tys : List (ClassId × FieldType)} {ws : va_W} {A0 : Nat → Prop} {H0 : Heap}
variable {y : MethodName} {bytes : ByteArray} {maxL nL mc ms n index : Nat} {ret : Option FieldType} {wy : List Cond} {rm : Room} {Ts : List Cond} {own C host owner : String} {x : MethodName} {b : Addr} {As : List Value}
theorem callSW {T : State} (X : Stand p l e R s m args below meth c T locs cells slots) (hexec : p.tables.exec = Jvm.exec) {own : String} {index : Nat} {y : MethodName} {bytes : ByteArray} {maxL : Nat} {ret : Option FieldType} {hh : List (Nat × Nat × Nat × Nat)}
    (hown : s.vm.findClass own = some m.cls) (hlink : (Cond.methodLink own index y).before args s = true) (hstat : (Cond.static y).before args s = true) (hinit : (Cond.initialized y.cls).before args s = true)
    (hcode : (Cond.codeWith y bytes maxL ret hh).before args s = true) (hy : y.cls ≠ "java/lang/invoke/MethodHandle" ∧ y.cls ≠ "java/lang/invoke/VarHandle")
    {W9 : Nat} {Pre : Pt → Array Value → Prop} {Post : Pt → Array Value → Option Value → Pt → Prop} (hK : Back l R p e below s args y 3 W9 Pre Post)
    {g : JFrame} (hg : g.method = m) (hsize : g.locals.size = c.maxLocals) {argsL rest : List Value} (hlen : ∀ sig, parseMethodDescriptor y.desc = some sig → argsL.length = sig.parameters.length)
    (hstack : g.stack = argsL.reverse ++ rest) (hW : 2 * g.monitorRoom + (rest.map fun v => v.category).sum ≤ W9) (hdg : decode c.code g.pc = .ok (.invokestatic index, 3))
    (hpre : ∀ vm₁, s.WarmedH vm₁ → Pre ⟨T.setVm vm₁, locs, cells, slots⟩ argsL.toArray) :
    ∃ (v : Option Value) (vm₁ : Vm) (B : Pt), s.WarmedH vm₁ ∧ Stand p l e R s m args below meth c B.U B.locs B.cells B.slots ∧ Post ⟨T.setVm vm₁, locs, cells, slots⟩ argsL.toArray v B ∧
      ∀ target, Steps p.tables e below (B.U.setTop { g with pc := g.pc + 3, stack := v.toList ++ rest }) target → Steps p.tables e below (T.setTop g) target := by
  obtain ⟨mk, methM, cM, hnamed, hmethM, -, -, -, -, -, -, hsigM⟩ := Cond.codeWith_spec hcode
  have hstatic : methM.isStatic = true := Cond.static_spec hnamed hmethM hstat
  obtain ⟨kP, hkP, -⟩ := className_of_methodNamed hnamed
  have hinitP : kP.init = .initialized := Cond.initialized_spec (findClass_of_methodNamed hnamed) hkP hinit
  obtain ⟨vm₁, X₁, hstep₁⟩ := X.invokestatic hexec hown hlink hnamed hmethM hstatic hkP hinitP hy (g := g) hg (argsL := argsL) (rest := rest) (hlen _ hsigM) hstack hdg
  obtain ⟨v, B, X', hpost, hsteps⟩ := hK m meth c ⟨T.setVm vm₁, locs, cells, slots⟩ { g with stack := rest } (.invokestatic index) mk argsL.toArray X₁ hg hsize hdg hW (X₁.named hnamed) (hpre vm₁ X₁.warmed)
  exact ⟨v, vm₁, B, X₁.warmed, X', hpost, fun target h => hstep₁ _ fun acts => by rw [doInvoke_state]; exact hsteps.trans h⟩
/-- a call of such a method: what it asks -/
abbrev CallSW (R : Room) (s : State) (args : Array Value) (own : String) (index : Nat) (y : MethodName) (bytes : ByteArray) (maxL : Nat) (ret : Option FieldType) (hh : List (Nat × Nat × Nat × Nat)) (ws : List Cond) (rm : Room) (mc ms n : Nat) : Prop :=
  (rm.cells = mc ∧ rm.slots = ms ∧ rm.frames + 1 ≤ R.frames ∧ 8 + (maxL + 11) + rm.locals ≤ R.locals ∧ (∀ w ∈ ws, ∀ (a' : Array Value) (U : State), s.WarmedH U.vm → w.before a' U = true) ∧ Cond.codeWith y bytes maxL ret hh ∈ ws) ∧
  (Cond.codeWith y bytes maxL ret hh).before args s = true ∧ (Cond.initialized y.cls).before args s = true ∧ (y.cls ≠ "java/lang/invoke/MethodHandle" ∧ y.cls ≠ "java/lang/invoke/VarHandle") ∧ (∀ sig, parseMethodDescriptor y.desc = some sig → n = sig.parameters.length) ∧ (Cond.methodLink own index y).before args s = true ∧ (Cond.static y).before args s = true
theorem kSW {hh : List (Nat × Nat × Nat × Nat)} (n : Nat) (hts : ∀ w ∈ wA, w.before args s = true) (hc : Cond.codeWith y bytes maxL ret hh ∈ wA) (hl : Cond.methodLink own index y ∈ wA) (hst : Cond.static y ∈ wA) (hini : Cond.initialized y.cls ∈ wA)
    (hd : y.cls ≠ "java/lang/invoke/MethodHandle" ∧ y.cls ≠ "java/lang/invoke/VarHandle" ∧ (parseMethodDescriptor y.desc).map (fun d => d.parameters.length) = some n) (hR : rm.frames + 1 ≤ R.frames ∧ 8 + (maxL + 11) + rm.locals ≤ R.locals) :
    CallSW R s args own index y bytes maxL ret hh (.codeWith y bytes maxL ret hh :: wA) rm rm.cells rm.slots n := by
  refine ⟨⟨rfl, rfl, hR.1, hR.2, pay_in hts (wA_good hc), List.mem_cons_self⟩, hts _ hc, hts _ hini, ⟨hd.1, hd.2.1⟩, fun sig h => ?_, hts _ hl, hts _ hst⟩
  have h2 := hd.2.2
  rw [h] at h2
  exact (Option.some.inj h2).symm
theorem va_runSW {hh : List (Nat × Nat × Nat × Nat)} {Pc : Array Value → State → Prop} {Qc : Array Value → State → Outcome → State → Prop} {free : Addr → Prop} {g : JFrame} (S : CallFix p m c cc nL s args Ts own) (hM : Met l y wy rm Pc Qc mc ms free) (cw : CallSW R s args own index y bytes maxL ret hh wy rm mc ms n) (hp : PreS s H Pc As)
    (hg : g.method = m) (hn : As.length = n) (hsize : g.locals.size = nL) (hstack : g.stack = As.reverse ++ rest) (hW : 2 * g.monitorRoom + (rest.map fun v => v.category).sum ≤ 8) (hdg : decode cc g.pc = .ok (.invokestatic index, 3)) (hf : cells + mc ≤ R.cells ∧ slots + ms ≤ R.slots) :
    va_Run p l e R s m args below meth c H locs cells slots mc ms g rest (Qc As.toArray) (free) := by
  obtain ⟨⟨hrc, hrs, hfr, hlo, hws, hcw⟩, hcode, hini, hy, hlen, hl, hstt⟩ := cw
  have hK : Back l R p e below s args y 3 8 (PreOf R mc ms Pc) (PostOf Qc mc ms free) := va_backW (hh := hh) (bytes := bytes) (maxL := maxL) (ret := ret) hM hp.1 hrc hrs hfr hlo hws hcw (fun a' U hW => word_at hW (Or.inl (by first | rfl | simp [Cond.onTables, Cond.keeps, Cond.steady])) hini)
  obtain ⟨hx, hb, hml, ho, -⟩ := S
  intro T hT X
  obtain ⟨v, vm₁, ⟨U', l2, c2, s2⟩, hW₁, X', ⟨g', mk, t, L, e1, e2, hq, h1, hL, h2, h3⟩, st⟩ := callSW X hx (hh := hh) (bytes := bytes) (maxL := maxL) (ret := ret) ho hl hstt hini hcode hy hK hg (hsize.trans hml.symm) (argsL := As) (rest := rest) (fun sig h => hn.trans (hlen sig h)) hstack hW (by rw [hb]; exact hdg)
    (fun vm₁ hW₁ => ⟨hf.1, hf.2, hp.2 (T.setVm vm₁) hT hW₁⟩)
  dsimp only [Pt.U, Pt.locs, Pt.cells, Pt.slots] at X' e1 e2 h1 h2 h3 st
  subst h1; subst h2; subst h3
  exact ⟨v, (T.setVm vm₁).calling g' mk As.toArray, t, U', L, hT, X', hL, e1, e2, hq, st⟩
theorem lc_SWi {hh : List (Nat × Nat × Nat × Nat)} {S : Type} {post : Int32 → S → Prop} {wo : S → va_W} (S0 : CallFix p m c cc nL s args Ts own)
    (hM : Met l y wy rm (va_Pc As (pP D tys ws H.size)) (va_Qi post (fun u => qB D (va_A ws H.size) (wo u)) (va_A ws H.size)) mc ms (va_A ws H.size))
    (cw : CallSW R s args own index y bytes maxL ret hh wy rm mc ms n) (hK : pK D tys s) (hP : va_P D vwCl ws H) (hD : va_D A0 ws) (hS : va_S A0 H0 H locs) (hA : ∀ q, H0.size ≤ q → A0 q)
    (hsz : ls.size = nL) (hn : As.length = n) (hst : st0 = As.reverse ++ rest) (hw : (rest.map fun v => v.category).sum ≤ 8) (hd : decode cc pc = .ok (.invokestatic index, 3)) (hf : cells + mc ≤ R.cells ∧ slots + ms ≤ R.slots)
    (kk : ∀ (r : Int32) (u : S) (H1 : Heap) (locs1 : List Loc), post r u → va_P D vwCl (wo u) H1 → va_D A0 (wo u) → va_S A0 H0 H1 locs1 → W p l e R s m args below meth c H1 locs1 (cells + mc) (slots + ms) Q (F0 m (pc + 3) ls (.int r :: rest))) :
    W p l e R s m args below meth c H locs cells slots Q (F0 m pc ls st0) := by
  have hF := wA_in hD hS hA
  refine va_calli (va_runSW (As := As) (rest := rest) S0 hM cw ⟨pP_blind _ _ _ _ _, fun U hU hW => ⟨rfl, pP_of hU hW hP hK hD⟩⟩ rfl hn hsz hst (lv_room hw) hd hf) hS (fun q _ h => hF q h) hF (fun r u t H1 locs1 ht hvm hp hB hz hk hS1 => ?_)
  obtain ⟨hP1, hD1⟩ := hB
  rw [ht] at hP1
  exact kk r u H1 locs1 hp hP1 (hD1.weaken (fun _ q _ h => hF q.1 h)) hS1
/-- the start of a wrapper whose inner call will throw -/
abbrev pPW (D : va_G) (tys : List (ClassId × FieldType)) (ws : va_W) (sz : Nat) : State → Prop := fun U => pP D tys ws sz U ∧ (tK U ∧ va_Nc exU exI U) ∧ tS (va_A ws sz) U U.heap
theorem pPT_blind (D : va_G) (tys : List (ClassId × FieldType)) (ws : va_W) (sz : Nat) (av : List Value) : FrameBlind (va_Pc av (pPT D tys ws sz)) := fun a U g mk q => by
  obtain ⟨q0, ⟨q1, qP, qK, qD⟩, q2, q3⟩ := q
  exact ⟨q0, ⟨q1, qP, pK.same (s := U) (U := U.calling g mk a) rfl qK, qD⟩, tK.same (s := U) (U := U.calling g mk a) rfl q2, tS.moved (u := U) (U := U.calling g mk a) (Vm.Alike.refl U.vm) q3⟩
theorem pPT_of {A : Nat → Prop} {U : State} (hU : U.heap = H) (hW : s.WarmedH U.vm) (hP : va_P D vwCl ws H) (hK : pK D tys s) (hD : va_D A ws) (hT : tK s) (hS : tS (va_A ws H.size) s H) : pPT D tys ws H.size U := ⟨pP_of hU hW hP hK hD, hT.warm hW, by rw [hU]; exact hS.moved hW.alike⟩
theorem pPW_blind (D : va_G) (tys : List (ClassId × FieldType)) (ws : va_W) (sz : Nat) (av : List Value) : FrameBlind (va_Pc av (pPW D tys ws sz)) := fun a U g mk q => by
  obtain ⟨q0, ⟨q1, qP, qK, qD⟩, ⟨q2, q4⟩, q3⟩ := q
  exact ⟨q0, ⟨q1, qP, pK.same (s := U) (U := U.calling g mk a) rfl qK, qD⟩, ⟨tK.same (s := U) (U := U.calling g mk a) rfl q2, va_Nc.moved (u := U) (U := U.calling g mk a) (Vm.Alike.refl U.vm) q4⟩, tS.moved (u := U) (U := U.calling g mk a) (Vm.Alike.refl U.vm) q3⟩
theorem pPW_of {A : Nat → Prop} {U : State} (hU : U.heap = H) (hW : s.WarmedH U.vm) (hP : va_P D vwCl ws H) (hK : pK D tys s) (hD : va_D A ws) (hT : tK s ∧ va_Nc exU exI s) (hS : tS (va_A ws H.size) s H) : pPW D tys ws H.size U := ⟨pP_of hU hW hP hK hD, ⟨hT.1.warm hW, va_Nc.moved hW.alike hT.2⟩, by rw [hU]; exact hS.moved hW.alike⟩
/-- a wrapper's call, whose inner call throws: nothing that was there has changed -/
theorem lr_SWi {hh : List (Nat × Nat × Nat × Nat)} {post : Int32 → Unit → Prop} (S0 : CallFix p m c cc nL s args Ts own)
    (hM : Met l y wy rm (va_Pc As (pPW D tys ws H.size)) (va_Qi post (fun _ _ => True) (fun q => H.size ≤ q)) mc ms (fun q => H.size ≤ q))
    (cw : CallSW R s args own index y bytes maxL ret hh wy rm mc ms n) (hK : pK D tys s) (hP : va_P D vwCl ws H) (hD : va_D A0 ws) (hS : va_S A0 s.heap H locs) (hA : ∀ q, s.heap.size ≤ q → A0 q) (hT : tK s ∧ va_Nc exU exI s) (hTS : tS A0 s s.heap)
    (hsz : ls.size = nL) (hn : As.length = n) (hst : st0 = As.reverse ++ rest) (hw : (rest.map fun v => v.category).sum ≤ 8) (hd : decode cc pc = .ok (.invokestatic index, 3)) (hf : cells + mc ≤ R.cells ∧ slots + ms ≤ R.slots)
    (kk : ∀ (r : Int32) (H : Heap) (locs : List Loc), post r () → va_P D vwCl ws H → va_S A0 s.heap H locs → W p l e R s m args below meth c H locs (cells + mc) (slots + ms) Q (F0 m (pc + 3) ls (.int r :: rest))) :
    W p l e R s m args below meth c H locs cells slots Q (F0 m pc ls st0) := by
  have hF : ∀ q : Nat, H.size ≤ q → A0 q := fun q h => hA q (Nat.le_trans hS.1 h)
  have hS9 : tS (va_A ws H.size) s H := (hTS.kept hS.2.1).narrow (wA_in hD hS hA)
  refine va_calli (va_runSW (As := As) (rest := rest) S0 hM cw ⟨pPW_blind _ _ _ _ _, fun U hU hW => ⟨rfl, pPW_of hU hW hP hK hD hT hS9⟩⟩ rfl hn hsz hst (lv_room hw) hd hf) hS (fun q _ h => hF q h) hF (fun r u t H1 locs1 ht hvm hp hB hz hk hS1 => ?_)
  refine kk r H1 locs1 hp (hP.kept (fun k q hq => ?_)) hS1
  have h9 : q.1 < H.size := (hP k q hq).lt
  exact hk q.1 h9 (by omega)
abbrev hrow (x : ExceptionTableEntry) : Nat × Nat × Nat × Nat := (x.startPc, x.endPc, x.handlerPc, x.catchType)
theorem tabW_of {hh : List (Nat × Nat × Nat × Nat)} {s₁ : State} (B : BodyLoose p l y (headSpec wy rm) cc maxL ret e s m args below meth c s₁) (hw : wy = Cond.codeWith y cc maxL ret hh :: wA) : c.exceptionTable.toList.map hrow = hh := by
  obtain ⟨m', meth', c', hn', hm', hc', -, -, he', -⟩ := Cond.codeWith_spec (atoms_spec (ws := wy) B.pre _ (by rw [hw]; exact List.mem_cons_self))
  cases B.named.symm.trans hn'
  cases B.method.symm.trans hm'
  cases (Stand.of_body B).code.symm.trans hc'
  exact he'
theorem lt_cv1 {E name : String} {Pc : Array Value → State → Prop} {a1 a2 a3 a4 : Nat} {hh : List (Nat × Nat × Nat × Nat)}
    (S0 : CallFix p m c cc nL s args Ts own) (hM : tMet l y wy rm Pc E mc ms) (cw : CallW R s args own C index y bytes maxL ret wy rm mc ms n) (hp : PreV s H C b Pc As) (hS : va_S A0 H0 H locs) (hA : ∀ q, H0.size ≤ q → A0 q)
    (hsz : ls.size = nL) (hn : As.length = n) (hst : st0 = As.reverse ++ .ref b :: rest) (hw : (rest.map fun v => v.category).sum ≤ 8) (hd : decode cc pc = .ok (.invokevirtual index, 3)) (hf : cells + mc ≤ R.cells ∧ slots + ms ≤ R.slots)
    (htab : c.exceptionTable.toList.map hrow = (a1, a2, a3, a4) :: hh) (hcov : a1 ≤ pc ∧ pc < a2) (h0 : a4 ≠ 0)
    (hlink : (Cond.classLink own a4 name).before args s = true) (hcast : (Cond.castable E name).before args s = true)
    (kk : ∀ (q : Nat) (H : Heap) (locs : List Loc), va_S A0 H0 H locs → W p l e R s m args below meth c H locs (cells + mc) (slots + ms) Q (F0 m a3 ls [.ref q])) :
    W p l e R s m args below meth c H locs cells slots Q (F0 m pc ls st0) := by
  obtain ⟨x, suf, e1, e2, -⟩ := List.map_eq_cons_iff.mp htab
  cases e2
  exact lt_callV S0 hM cw hp hS hA hsz hn hst hw hd hf [] x suf e1 (fun z hz => by cases hz) (by unfold covers; simp [hcov.1, hcov.2]) h0 hlink hcast (fun q H1 locs1 _ _ hS1 => kk q H1 locs1 hS1)
theorem lt_cv2 {E name nm : String} {Pc : Array Value → State → Prop} {a1 a2 a3 a4 b1 b2 b3 b4 : Nat} {hh : List (Nat × Nat × Nat × Nat)}
    (S0 : CallFix p m c cc nL s args Ts own) (hM : tMet l y wy rm Pc E mc ms) (cw : CallW R s args own C index y bytes maxL ret wy rm mc ms n) (hp : PreV s H C b Pc As) (hS : va_S A0 H0 H locs) (hA : ∀ q, H0.size ≤ q → A0 q)
    (hsz : ls.size = nL) (hn : As.length = n) (hst : st0 = As.reverse ++ .ref b :: rest) (hw : (rest.map fun v => v.category).sum ≤ 8) (hd : decode cc pc = .ok (.invokevirtual index, 3)) (hf : cells + mc ≤ R.cells ∧ slots + ms ≤ R.slots)
    (htab : c.exceptionTable.toList.map hrow = (b1, b2, b3, b4) :: (a1, a2, a3, a4) :: hh) (hb0 : b4 ≠ 0) (hbl : (Cond.classLink own b4 nm).before args s = true) (hbn : va_Nc E nm s) (hcov : a1 ≤ pc ∧ pc < a2) (h0 : a4 ≠ 0)
    (hlink : (Cond.classLink own a4 name).before args s = true) (hcast : (Cond.castable E name).before args s = true)
    (kk : ∀ (q : Nat) (H : Heap) (locs : List Loc), va_S A0 H0 H locs → W p l e R s m args below meth c H locs (cells + mc) (slots + ms) Q (F0 m a3 ls [.ref q])) :
    W p l e R s m args below meth c H locs cells slots Q (F0 m pc ls st0) := by
  obtain ⟨x0, suf0, e1, e2, e3⟩ := List.map_eq_cons_iff.mp htab
  obtain ⟨x, suf, e4, e5, -⟩ := List.map_eq_cons_iff.mp e3
  cases e2
  cases e5
  subst e4
  exact lt_callV S0 hM cw hp hS hA hsz hn hst hw hd hf [x0] x suf e1 (fun z hz => by rw [List.mem_singleton.mp hz]; exact ⟨hb0, nm, hbl, hbn⟩) (by unfold covers; simp [hcov.1, hcov.2]) h0 hlink hcast (fun q H1 locs1 _ _ hS1 => kk q H1 locs1 hS1)
end LW
