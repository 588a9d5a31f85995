/-! exceptions: a method that always throws under its start, its caller that catches (the launch keeps no traces) -/
abbrev exN : List String := ["java/lang/RuntimeException", "java/lang/Exception"]
abbrev exI : String := "java/lang/IndexOutOfBoundsException"
abbrev exU : String := "java/lang/UnsupportedOperationException"
abbrev exA : String := "java/lang/IllegalArgumentException"
def thD : List String := ["java/lang/RuntimeException", "java/lang/Exception", "java/lang/Throwable"]
def thS : List (Nat × String) := [(73, "the word has no such bit"), (80, "codes of nibbles have no columns"), (87, "this kind folds no address in"), (105, "the check has bits that no check of this code has"), (140, "the stored one has no such bit"), (145, "the table has no such place"), (150, "bursts have 1 to 6 bits"), (158, "there is no such row"), (166, "no spare row is free"), (168, "a fraction has two parts")]
/-- what a throw asks of the tables beside the good words -/
def tK (U : State) : Prop := (∀ n ∈ thD, va_Nw (.declares ⟨n, "<init>", "(Ljava/lang/String;)V"⟩) U) ∧ (∀ n ∈ [exI, exU, exA], va_Nw (.castable n n) U) ∧ ∀ q ∈ thS, ∃ a, vk_R "CheckCodes" q.1 q.2 a U
theorem tK.warm {s U : State} (hW : s.WarmedH U.vm) (h : tK s) : tK U := ⟨fun n hn => va_Nw.warmD hW (h.1 n hn), fun n hn => va_Nw.warmC hW (h.2.1 n hn), fun q hq => by obtain ⟨a, ha⟩ := h.2.2 q hq; exact ⟨a, ha.warm hW⟩⟩
theorem tK.same {s U : State} (hv : s.vm = U.vm) (h : tK s) : tK U := ⟨fun n hn => va_Nw.same rfl hv (h.1 n hn), fun n hn => va_Nw.same rfl hv (h.2.1 n hn), fun q hq => by obtain ⟨a, ha⟩ := h.2.2 q hq; exact ⟨a, ha.same hv.symm⟩⟩
abbrev tnN : String := "java/lang/Throwable"
abbrev steT : String := "[Ljava/lang/StackTraceElement;"
abbrev lisT : String := "Ljava/util/List;"
/-- a static's place, in a statics cell that nobody may change -/
def lS (C n d : String) (A : Nat → Prop) (U : State) (H : Heap) : Prop := ∃ (c : ClassId) (k : Class) (i : Nat) (f : Field) (a : Nat) (cell : Cell), (U.vm.findClass C = some c ∧ U.fieldFound? C n d = some (c, k, i, f) ∧ f.isStatic = true ∧ k.statics = some a ∧ k.staticTypes[f.slot]? = some f.type) ∧ (H[a]? = some cell ∧ cell.vm.isStatics = true ∧ cell.cls = c ∧ f.slot < cell.slots.size) ∧ ¬ A a
theorem lS.moved {C n d : String} {A : Nat → Prop} {u U : State} {H : Heap} (hvm : u.vm.Alike U.vm) (h : lS C n d A u H) : lS C n d A U H := by
  obtain ⟨c, k, i, f, a, cell, ⟨h1, h2, h3, h4, h5⟩, h6, h7⟩ := h
  obtain ⟨k', hi', he⟩ := State.fieldFound?_setVm hvm h2
  exact ⟨c, k', i, f, a, cell, ⟨by rw [hvm.findClass]; exact h1, hi', h3, by rw [he]; exact h4, by rw [he]; exact h5⟩, h6, h7⟩
theorem lS.kept {C n d : String} {A : Nat → Prop} {U : State} {H H1 : Heap} (h : lS C n d A U H) (hq : ∀ a : Nat, a < H.size → ¬ A a → H1[a]? = H[a]?) : lS C n d A U H1 := by
  obtain ⟨c, k, i, f, a, cell, h1, ⟨h2, h3⟩, h7⟩ := h
  exact ⟨c, k, i, f, a, cell, h1, ⟨by rw [hq a (Array.getElem?_eq_some_iff.mp h2).1 h7]; exact h2, h3⟩, h7⟩
theorem lS.narrow {C n d : String} {A B : Nat → Prop} {U : State} {H : Heap} (h : lS C n d A U H) (hAB : ∀ q, B q → A q) : lS C n d B U H := by
  obtain ⟨c, k, i, f, a, cell, h1, h2, h7⟩ := h
  exact ⟨c, k, i, f, a, cell, h1, h2, fun z => h7 (hAB _ z)⟩
theorem lS.of {args : Array Value} {s : State} {C n d : String} {A : Nat → Prop} (h : (Cond.laysStatic C n d).before args s = true) (hA : ∀ a : Nat, a < s.heap.size → ¬ A a) : lS C n d A s s.heap := by
  obtain ⟨c, k, i, f, a, cell, h1, h2, h3, h4, h5, h6, h7, h8, h9⟩ := Cond.laysStatic_spec h
  exact ⟨c, k, i, f, a, cell, ⟨h1, h2, h3, h4, h9⟩, ⟨h5, h6, h7, h8⟩, hA a (Array.getElem?_eq_some_iff.mp h5).1⟩
theorem lS.word {args : Array Value} {s : State} {C n d : String} {A : Nat → Prop} (h : lS C n d A s s.heap) : (Cond.laysStatic C n d).before args s = true := by
  obtain ⟨c, k, i, f, a, cell, ⟨h1, h2, h3, h4, h5⟩, ⟨h6, h7, h8, h9⟩, -⟩ := h
  exact Cond.laysStatic_of h1 h2 h3 h4 h6 h7 h8 h9 h5
theorem zq_word {args : Array Value} {s : State} {C n d : String} {A : Nat → Prop} (h : va_Zq C n d A s s.heap) : (Cond.isRef (.static C n d)).before args s = true := by
  have key : ∀ v : Value, va_Z C n d v A s s.heap → v.isRef = true → (Cond.isRef (.static C n d)).before args s = true := by
    rintro v ⟨cf, kf, fi, f, a, cell, h1, h2, -, h4, h5, h6, h7, -⟩ hv
    have he : (Term.static C n d).eval args s none [] s = some v := by simp [Term.eval, State.fieldNamed?, h1, h2, h4, h5, h6, h7]
    simp only [Cond.before, Cond.holds, Cond.value, he]
    cases v <;> simp_all [Value.isRef]
  rcases h with h | ⟨t, h⟩
  · exact key _ h rfl
  · exact key _ h rfl
/-- what a throw asks of the heap: two statics of Throwable's -/
def tS (A : Nat → Prop) (U : State) (H : Heap) : Prop := (va_Zq tnN "UNASSIGNED_STACK" steT A U H ∧ va_Zq tnN "SUPPRESSED_SENTINEL" lisT A U H) ∧ lS tnN "UNASSIGNED_STACK" steT A U H ∧ lS tnN "SUPPRESSED_SENTINEL" lisT A U H
theorem tS.moved {A : Nat → Prop} {u U : State} {H : Heap} (hvm : u.vm.Alike U.vm) (h : tS A u H) : tS A U H := ⟨⟨h.1.1.moved hvm, h.1.2.moved hvm⟩, h.2.1.moved hvm, h.2.2.moved hvm⟩
theorem tS.kept {A : Nat → Prop} {U : State} {H H1 : Heap} (h : tS A U H) (hq : ∀ a : Nat, a < H.size → ¬ A a → H1[a]? = H[a]?) : tS A U H1 := ⟨⟨h.1.1.kept hq, h.1.2.kept hq⟩, h.2.1.kept hq, h.2.2.kept hq⟩
theorem tS.narrow {A B : Nat → Prop} {U : State} {H : Heap} (h : tS A U H) (hAB : ∀ q, B q → A q) : tS B U H := ⟨⟨h.1.1.narrow hAB, h.1.2.narrow hAB⟩, h.2.1.narrow hAB, h.2.2.narrow hAB⟩
/-- the words of a throw that are no good words -/
def thB (cls : String) : List Cond := [.declares ⟨"java/lang/RuntimeException", "<init>", "(Ljava/lang/String;)V"⟩, .declares ⟨"java/lang/Exception", "<init>", "(Ljava/lang/String;)V"⟩, .declares ⟨"java/lang/Throwable", "<init>", "(Ljava/lang/String;)V"⟩, .castable cls cls, .laysStatic tnN "UNASSIGNED_STACK" steT, .laysStatic tnN "SUPPRESSED_SENTINEL" lisT, .isRef (.static tnN "UNASSIGNED_STACK" steT), .isRef (.static tnN "SUPPRESSED_SENTINEL" lisT)]
theorem th_words {args : Array Value} {s : State} {A : Nat → Prop} {cls : String} {L : List Cond} (hc : cls ∈ [exI, exU, exA]) (h1 : ∀ w ∈ L, w ∈ lw_tbl ∨ w ∈ thB cls) (h2 : ∀ w ∈ L, goodWord w = true ∨ w ∈ thB cls) (hts : ∀ w ∈ wA, w.before args s = true) (hK : tK s) (hS : tS A s s.heap) : ∀ w ∈ L, w.before args s = true := by
  have hB : ∀ w ∈ thB cls, w.before args s = true := by
    intro w hw
    simp only [thB, List.mem_cons, List.mem_nil_iff, or_false] at hw
    rcases hw with rfl | rfl | rfl | rfl | rfl | rfl | rfl | rfl
    · exact va_Nw.use rfl (hK.1 _ (by simp [thD]))
    · exact va_Nw.use rfl (hK.1 _ (by simp [thD]))
    · exact va_Nw.use rfl (hK.1 _ (by simp [thD]))
    · exact va_Nw.use rfl (hK.2.1 _ hc)
    · exact hS.2.1.word
    · exact hS.2.2.word
    · exact zq_word hS.1.1
    · exact zq_word hS.1.2
  intro w hw
  rcases h1 w hw with q | q
  · rcases h2 w hw with q2 | q2
    · exact hts w (in_wA q q2)
    · exact hB w q2
  · exact hB w q
/-- where a method has thrown: the object's class; nothing that was there has changed -/
def tQ (E : String) (mc ms : Nat) (st : State) (o : Outcome) (t : State) : Prop := ∃ (q : Addr) (ce : Cell) (L : List Loc), o = .threw q ∧ (t.heap[q]? = some ce ∧ ce.vm = .none ∧ st.vm.findClass E = some ce.cls) ∧ FrameEndT st o t L mc ms ∧ (∀ z ∈ L, st.heap.size ≤ z.base) ∧ st.heap.size ≤ t.heap.size ∧ ∀ z : Nat, z < st.heap.size → t.heap[z]? = st.heap[z]?
def tMQ (below : List Frame) (E : String) (mc ms : Nat) (s : State) : State → Prop := fun t => ∃ o, t.status = .running ∧ Ended t below o ∧ tQ E mc ms s o t
/-- a method that throws an E from every state with Pc -/
def tMet (l : Launch) (y : MethodName) (ws : List Cond) (rm : Room) (Pc : Array Value → State → Prop) (E : String) (mc ms : Nat) : Prop := MetFree l y (headSpec ws rm) Pc (fun _ _ _ _ _ => True) (fun _ st o t => tQ E mc ms st o t)
theorem tMet.ofW {l : Launch} {y : MethodName} {ws ws' : List Cond} {rm : Room} {Pc : Array Value → State → Prop} {E : String} {mc ms : Nat} {cc : ByteArray} {maxL : Nat} {ret : Option FieldType}
    (hy : plainName y.cls = true) (hw : ws = Cond.code y cc maxL ret :: ws')
    (body : ∀ p e s m args below meth c s₁, BodyLoose p l y (headSpec ws rm) cc maxL ret e s m args below meth c s₁ → c.maxLocals = maxL → Pc args s →
      W p l e (headSpec ws rm).room s m args below meth c s.heap [] 0 0 (tMQ below E mc ms s) (entryFrame m args maxL)) : tMet l y ws rm Pc E mc ms := by
  refine MetFree.of_bodyS (code := cc) (maxLocals := maxL) (ret := ret) hy ?_ ?_
  · intro args s m h hn
    obtain ⟨meth, c, h1, h2, h3, h4, h5, h6, -, -⟩ := Cond.code_spec hn (atoms_spec (ws := ws) h _ (by rw [hw]; exact List.mem_cons_self))
    exact ⟨meth, c, h1, h2, h3, h4, h5, h6⟩
  · intro p e s m args below meth c s₁ B hml hP _
    have hh0 : s₁.heap = s.heap := by rw [B.state]; rfl
    obtain ⟨t, a1, o, b1, b2, b3⟩ := body p e s m args below meth c s₁ B hml hP s₁ hh0 (Stand.of_body B)
    exact ⟨t, o, a1, b1, b2, b3⟩
theorem same_old {s U : State} {locs : List Loc} {k n : Nat} (h : s.sameButNew ({ U with vm := s.vm } : State) locs k n) (hl : ∀ z ∈ locs, s.heap.size ≤ z.base) : s.heap.size ≤ U.heap.size ∧ ∀ q : Nat, q < s.heap.size → U.heap[q]? = s.heap[q]? := by
  obtain ⟨-, h2, -, -, -, h6⟩ := h
  refine ⟨h2, fun q hq => ?_⟩
  obtain ⟨c9, e1, e2, e3, e4⟩ := h6 q _ (Array.getElem?_eq_getElem hq)
  have hs : c9.slots = (s.heap[q]).slots := Array.ext_getElem? fun i => e4 i fun hm => by
    have := hl _ hm
    simp only at this
    omega
  rw [hs] at e2
  have e5 : U.heap[q]? = some c9 := e1
  rw [e5, Array.getElem?_eq_getElem hq]
  exact congrArg some e2
