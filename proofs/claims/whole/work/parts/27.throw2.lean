section LT
variable {p : Program} {l : Launch} {e : Env} {R : Room} {s : State} {m : MethodId} {args : Array Value} {below : List Frame} {meth : Method} {c : Code} {H : Heap} {locs : List Loc} {cells slots : Nat} {Q : State → Prop}
variable {cc : ByteArray} {pc : Nat} {ls : Array Slot} {rest : List Value}
/-- 'throw new E("text")' in a method without a table -/
theorem lt_throw (hx : p.tables.exec = Jvm.exec) (hb : c.code = cc) (hl : l.stackTraces = false) {own cls tx : String} {ik is ic mc ms : Nat} {A : Nat → Prop} (hown : s.vm.findClass own = some m.cls) (hcls : Bundle.fit cls = true)
    (hk : (Cond.classLink own ik cls).before args s = true) (hini : (Cond.initialized cls).before args s = true) (hst : ∃ a, vk_R own is tx a s)
    (hw : ∀ w ∈ Bundle.ownAtoms own ic cls exN, w.before args s = true) (hS : va_S (fun q => s.heap.size ≤ q) s.heap H locs) (hsize : ls.size = c.maxLocals) (htab : c.exceptionTable.isEmpty = true)
    (d0 : decode cc pc = .ok (.new ik, 3)) (d3 : decode cc (pc + 3) = .ok (.dup, 1)) (d4 : decode cc (pc + 3 + 1) = .ok (.ldc is, 2)) (d6 : decode cc (pc + 3 + 1 + 2) = .ok (.invokespecial ic, 3)) (d9 : decode cc (pc + 3 + 1 + 2 + 3) = .ok (.athrow, 1))
    (hf : 5 < R.frames) (hlo : (rest.map fun v => v.category).sum + 90 ≤ R.locals) (hc : cells + 1 ≤ R.cells) (hs : slots + 6 ≤ R.slots) (hlocks : meth.locks = false) (hmc : cells + 1 ≤ mc) (hms : slots + 6 ≤ ms) :
    W p l e R s m args below meth c H locs cells slots (tMQ below cls mc ms s) (F0 m pc ls rest) := by
  have hins : (Cond.instantiable cls 6).before args s = true := hw _ (by simp [Bundle.ownAtoms])
  obtain ⟨cX, kX, hfX, hkX, -⟩ := Cond.instantiable_spec hins
  obtain ⟨q, hst⟩ := hst
  refine W.newcK hx hb hown hk hins hini rfl d0 hc hs hfX rfl (fun H1 kC hkC e1 z1 o1 => ?_)
  refine W.eq (g2 := F0 m (pc + 3) ls (.ref H.size :: rest)) rfl ?_
  refine lv_dup hx hb d3 rfl ?_
  refine va_ldcS hx hb hown hst d4 ?_
  intro T hT X
  have htr : e.platform.stackTraces = false := (show e.platform.stackTraces = l.stackTraces by rw [X.admits.platform]).trans hl
  have hlocs : ∀ x ∈ locs, ∀ cell, s.heap[x.base]? = some cell → cell.vm.isStatics = false := fun x hx9 cell h9 => by
    have h1 : s.heap.size ≤ x.base := hS.2.2 x hx9
    have h2 := (Array.getElem?_eq_some_iff.mp h9).1
    omega
  obtain ⟨U, st, hrun, hend, hW, hsame, ce, hce, hO⟩ := X.ctorThrowS hx htr (own := own) (cls := cls) (names := exN) (ic := ic) hown hcls (by decide +kernel) hw hlocs (a := H.size) hfX hkC (by rw [hT]; exact e1) hS.1 (msg := .ref q) rfl
    (g := F0 m (pc + 3 + 1 + 2) ls (.ref q :: .ref H.size :: .ref H.size :: rest)) rfl hsize rfl rfl (rest := rest) rfl (by rw [hb]; exact d6) (by rw [hb]; exact d9)
    (fun x hx9 => by rw [Array.isEmpty_iff.mp htab] at hx9; cases hx9) (by show 2 + 3 < _; omega) (by show 2 * 0 + ((1 : Nat) + (rest.map fun v => v.category).sum) + (13 * (2 + 1) + 42) ≤ _; omega) hlocks
  obtain ⟨f1, f2⟩ := same_old hsame hS.2.2
  exact ⟨U, st, .threw H.size, hrun, hend, H.size, ce, locs, rfl, ⟨hce, hO.vm, hO.cls⟩, ⟨⟨_, rfl⟩, hW, hsame.mono hmc hms⟩, hS.2.2, f1, f2⟩
/-- a call of a method that throws: it comes back throwing -/
theorem tcallV {T : State} (X : Stand p l e R s m args below meth c T locs cells slots) (hexec : p.tables.exec = Jvm.exec) {own C : String} {index : Nat} {y : MethodName} {bytes : ByteArray} {maxL : Nat} {ret : Option FieldType}
    (hown : s.vm.findClass own = some m.cls) (hlink : (Cond.methodLink own index y).before args s = true) (hinst : (Cond.instanceMethod y).before args s = true) (hsel : (Cond.selects C y y).before args s = true)
    (hcode : (Cond.code y bytes maxL ret).before args s = true) (hy : y.cls ≠ "java/lang/invoke/MethodHandle" ∧ y.cls ≠ "java/lang/invoke/VarHandle")
    {W9 : Nat} {Pre : Pt → Array Value → Prop} {Post : Pt → Array Value → Addr → Pt → Prop} (hK : BackT l R p e below s args y 3 W9 Pre Post)
    {b : Addr} {cellB : Cell} (hcell : T.heap[b]? = some cellB) (hobj : cellB.vm.isStatics = false) (hcls : s.vm.findClass C = some cellB.cls)
    {g : JFrame} (hg : g.method = m) (hsize : g.locals.size = c.maxLocals) {argsL rest : List Value} (hlen : ∀ sig, parseMethodDescriptor y.desc = some sig → argsL.length = sig.parameters.length)
    (hstack : g.stack = argsL.reverse ++ .ref b :: rest) (hW : 2 * g.monitorRoom + (rest.map fun v => v.category).sum ≤ W9) (hdg : decode c.code g.pc = .ok (.invokevirtual index, 3))
    (hpre : ∀ vm₁, s.WarmedH vm₁ → Pre ⟨T.setVm vm₁, locs, cells, slots⟩ (Value.ref b :: argsL).toArray) :
    ∃ (q : Addr) (vm₁ : Vm) (B : Pt), s.WarmedH vm₁ ∧ Stand p l e R s m args below meth c B.U B.locs B.cells B.slots ∧ Post ⟨T.setVm vm₁, locs, cells, slots⟩ (Value.ref b :: argsL).toArray q B ∧
      Steps p.tables e below (T.setTop g) ((B.U.setTop { g with stack := rest }).pushFrame (.throwing q)) := by
  obtain ⟨mk, methM, hnamed, hmethM, hstM, habM⟩ := Cond.instanceMethod_spec hinst
  obtain ⟨methM', cM, hmethM', -, -, -, -, -, -, hsigM⟩ := Cond.code_spec hnamed hcode
  cases hmethM.symm.trans hmethM'
  obtain ⟨c2, r2, m2, q1, q2, q3, q4, kP, hkP, hkPi⟩ := Cond.selects_spec hsel
  cases hcls.symm.trans q1
  cases (State.methodFound?_of_named hnamed hy).symm.trans q2
  cases hnamed.symm.trans q3
  have hselP : selectMethod e.platform s.vm cellB.cls mk = .method mk := by rw [Launch.admits_selectMethod X.admits]; exact q4
  obtain ⟨vm₁, X₁, hstep₁⟩ := X.invokevirtual hexec hown hlink hnamed hmethM hstM hkP hkPi hy (a := b) (cell := cellB) hcell
    (fun z h => by rw [h] at hobj; cases hobj) hselP hmethM habM hkP hkPi (g := g) hg (argsL := argsL) (rest := rest) (hlen _ hsigM) hstack hdg
  obtain ⟨q, B, X', hpost, hsteps⟩ := hK m meth c ⟨T.setVm vm₁, locs, cells, slots⟩ { g with stack := rest } (.invokevirtual index) mk (Value.ref b :: argsL).toArray X₁ hg hsize hdg hW (X₁.named hnamed) (hpre vm₁ X₁.warmed)
  exact ⟨q, vm₁, B, X₁.warmed, X', hpost, hstep₁ _ fun acts => by rw [doInvoke_state]; exact hsteps⟩
/-- .. caught by a row of the caller's own table -/
theorem lt_callV {y : MethodName} {bytes : ByteArray} {maxL nL mc ms n index : Nat} {ret : Option FieldType} {wy : List Cond} {rm : Room} {Pc : Array Value → State → Prop} {E name own C : String} {Ts : List Cond} {b : Addr} {As st0 : List Value} {A0 : Nat → Prop} {H0 : Heap}
    (S0 : CallFix p m c cc nL s args Ts own) (hM : tMet l y wy rm Pc E mc ms) (cw : CallW R s args own C index y bytes maxL ret wy rm mc ms n) (hp : PreV s H C b Pc As) (hS : va_S A0 H0 H locs) (hA : ∀ q, H0.size ≤ q → A0 q)
    (hsz : ls.size = nL) (hn : As.length = n) (hst : st0 = As.reverse ++ .ref b :: rest) (hw : (rest.map fun v => v.category).sum ≤ 8) (hd : decode cc pc = .ok (.invokevirtual index, 3)) (hf : cells + mc ≤ R.cells ∧ slots + ms ≤ R.slots)
    (pre : List ExceptionTableEntry) (x : ExceptionTableEntry) (suf : List ExceptionTableEntry) (hsplit : c.exceptionTable.toList = pre ++ x :: suf)
    (hpass : ∀ z ∈ pre, z.catchType ≠ 0 ∧ ∃ nm : String, (Cond.classLink own z.catchType nm).before args s = true ∧ va_Nc E nm s) (hcov : covers x pc = true) (h0 : x.catchType ≠ 0)
    (hlink : (Cond.classLink own x.catchType name).before args s = true) (hcast : (Cond.castable E name).before args s = true)
    (kk : ∀ (q : Nat) (H1 : Heap) (locs1 : List Loc), H.size ≤ H1.size → (∀ z : Nat, z < H.size → H1[z]? = H[z]?) → va_S A0 H0 H1 locs1 → W p l e R s m args below meth c H1 locs1 (cells + mc) (slots + ms) Q (F0 m x.handlerPc ls [.ref q])) :
    W p l e R s m args below meth c H locs cells slots Q (F0 m pc ls st0) := by
  obtain ⟨⟨hrc, hrs, hfr, hlo, hws, hcw, hcode, hini, hy, hlen, hl⟩, hin, hse⟩ := cw
  obtain ⟨hx, hb, hml, ho, -⟩ := S0
  obtain ⟨hbl, ⟨cellB, hcB, hoB, hclB⟩, hPc⟩ := hp
  have hK : BackT l R p e below s args y 3 8 (PreOf R mc ms Pc) (fun A a q B => ∃ (g : JFrame) (mk : MethodId) (t : State) (L : List Loc) (ce : Cell), B.U.heap = t.heap ∧ (t.heap[q]? = some ce ∧ ce.vm = .none ∧ A.U.vm.findClass E = some ce.cls) ∧ B.locs = A.locs ++ L ∧ (∀ z ∈ L, A.U.heap.size ≤ z.base) ∧ (A.U.heap.size ≤ t.heap.size ∧ ∀ z : Nat, z < A.U.heap.size → t.heap[z]? = A.U.heap[z]?) ∧ B.cells = A.cells + mc ∧ B.slots = A.slots + ms) := by
    refine BackT.of_free (S := headSpec wy rm) (P := Pc) (K := fun _ _ _ _ _ => True) (Q := fun _ st o t => tQ E mc ms st o t) (bytes := bytes) (maxL := maxL) (ret := ret)
      (E := fun _ st o t L k n => k = mc ∧ n = ms ∧ ∃ (q : Addr) (ce : Cell), o = .threw q ∧ (t.heap[q]? = some ce ∧ ce.vm = .none ∧ st.vm.findClass E = some ce.cls) ∧ (∀ z ∈ L, st.heap.size ≤ z.base) ∧ st.heap.size ≤ t.heap.size ∧ ∀ z : Nat, z < st.heap.size → t.heap[z]? = st.heap[z]?) hM hfr hlo ?_ ?_ (fun _ _ _ _ _ _ _ _ _ => trivial) ?_ ?_
    · intro m meth c A a X hp
      exact ⟨atoms_intro fun w hw => hws w hw _ _ X.warmed, hws _ hcw _ _ X.warmed, word_at X.warmed (Or.inl (by first | rfl | simp [Cond.onTables, Cond.keeps, Cond.steady])) hini, by rw [show (headSpec wy rm).room.cells = mc from hrc]; exact hp.1, by rw [show (headSpec wy rm).room.slots = ms from hrs]; exact hp.2.1⟩
    · intro m meth c A a g mk X hp
      exact hbl _ _ _ _ hp.2.2
    · intro a st o t ⟨q, ce, L, h1, h2, h3, h4, h5, h6⟩
      exact ⟨L, mc, ms, h3, rfl, rfl, q, ce, h1, h2, h4, h5, h6⟩
    · intro m meth c A a g mk v t L k n X hp hq hF ⟨e1, e2, q, ce, h1, h2, h4, h5, h6⟩
      subst e1; subst e2
      cases h1
      exact ⟨g, mk, t, L, ce, rfl, h2, rfl, h4, ⟨h5, h6⟩, rfl, rfl⟩
  intro T hT X
  obtain ⟨q, vm₁, ⟨U', l2, c2, s2⟩, hW₁, X', ⟨g', mk, t, L, ce, e1, ⟨hce, hcv, hcl⟩, h1, hL, ⟨hz, hk⟩, h2, h3⟩, st⟩ := tcallV X hx (C := C) (bytes := bytes) (maxL := maxL) (ret := ret) ho hl hin hse hcode hy hK (by rw [hT]; exact hcB) hoB hclB (g := F0 m pc ls st0) rfl (hsz.trans hml.symm) (argsL := As) (rest := rest) (fun sig h => hn.trans (hlen sig h)) hst (lv_room hw) (by rw [hb]; exact hd)
    (fun vm₁ hW₁ => ⟨hf.1, hf.2, hPc (T.setVm vm₁) hT hW₁⟩)
  dsimp only [Pt.U, Pt.locs, Pt.cells, Pt.slots] at X' e1 h1 h2 h3 st hz hk hL hcl
  subst h1; subst h2; subst h3
  have hTh : (T.setVm vm₁).heap = H := hT
  rw [hTh] at hz hk hL
  have hcl' : s.vm.findClass E = some ce.cls := by
    have h9 : vm₁.findClass E = some ce.cls := hcl
    rw [hW₁.alike.findClass] at h9
    exact h9
  have hpl : e.platform.magicAccessors = ({} : Platform).magicAccessors := by rw [X.admits.platform]
  obtain ⟨c3, c4, hc3, hc4, hasg⟩ := Cond.castable_spec hcast
  cases Option.some.inj (hc3.symm.trans hcl')
  obtain ⟨c5, hc5, hcl5⟩ := Cond.classLink_spec ho hlink e.platform hpl
  cases Option.some.inj (hc4.symm.trans hc5)
  obtain ⟨vm', X2, st2⟩ := X'.thenCaughtThrough q (g := F0 m pc ls rest) rfl st (cell := ce) (by rw [e1]; exact hce) (by rw [hcv]; rfl) (by obtain ⟨k9, h9, -⟩ := Vm.findClass_spec hcl'; exact ⟨k9, h9⟩) pre x suf hsplit
    (fun z hz9 => by
      obtain ⟨hz0, nm, hl1, hn1⟩ := hpass z hz9
      obtain ⟨c6, hc6, hcl6⟩ := Cond.classLink_spec ho hl1 e.platform hpl
      obtain ⟨a8, b8, g1, g2, g3⟩ := hn1
      cases Option.some.inj (g1.symm.trans hcl')
      cases Option.some.inj (g2.symm.trans hc6)
      exact Or.inr ⟨hz0, _, hcl6, g3⟩) hcov (Or.inr ⟨h0, c4, hcl5, hasg⟩)
  obtain ⟨t2, a1, b1⟩ := kk q U'.heap (locs ++ L) (by rw [e1]; exact hz) (fun z h9 => by rw [e1]; exact hk z h9)
    ⟨Nat.le_trans hS.1 (by rw [e1]; exact hz), fun z h9 h8 => by rw [e1, hk z (Nat.lt_of_lt_of_le h9 hS.1)]; exact hS.2.1 z h9 h8, fun z hz9 => by
      rcases List.mem_append.mp hz9 with h9 | h9
      · exact hS.2.2 z h9
      · exact hA _ (Nat.le_trans hS.1 (hL z h9))⟩ (U'.setVm vm') rfl X2
  exact ⟨t2, st2.trans a1, b1⟩
end LT
