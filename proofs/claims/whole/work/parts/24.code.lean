/-- a code of sums with n lanes, one of parities, one of nibbles: its object o and all that belongs to it, somewhere in ws -/
def SumW (g : Nat → ClassId) (M n0 o : Nat) (ws : va_W) : Prop := ∃ (k0 k1 am kl al : Nat) (lf : Nat → Option Nat) (kL kc kr kb la ca ra ba9 : Nat → Nat),
  ws[k0]? = some (o, .inr (1, [.int (nI M), .int (nI (frm M n0 n0)), .ref am, .ref al])) ∧ ws[k1]? = some (am, .inl (g 0, M, .inl (fun k => nI (mkS M n0 k)))) ∧ ws[kl]? = some (al, .inl (g 3, n0, .inr (.inr (.inr (.inr lf))))) ∧ (∀ i, i < n0 → lf i = some (la i)) ∧
  (∀ i, i < n0 → ws[kL i]? = some (la i, .inr (4, [.int (nI (lr (wid M n0 i))), .ref (ca i), .ref (ra i), .ref (ba9 i)]))) ∧
  (∀ i, i < n0 → ws[kc i]? = some (ca i, .inl (g 0, wid M n0 i, .inl (fun j => nI (if j < wid M n0 i then cc_ (lr (wid M n0 i)) j else 0))))) ∧
  (∀ i, i < n0 → ws[kr i]? = some (ra i, .inl (g 0, lr (wid M n0 i), .inl (fun r => nI (rsf (lr (wid M n0 i)) (wid M n0 i) r))))) ∧
  (∀ i, i < n0 → ws[kb i]? = some (ba9 i, .inl (g 0, 2 ^ lr (wid M n0 i), .inl (fun s => oI (ba (lr (wid M n0 i)) (wid M n0 i) (wid M n0 i) s)))))
def ParW (g : Nat → ClassId) (M o : Nat) (ws : va_W) : Prop := ∃ (k0 k1 am : Nat), ws[k0]? = some (o, .inr (2, [.int (nI M), .int (nI (min M 4)), .ref am])) ∧ ws[k1]? = some (am, .inl (g 0, M, .inl (fun j => nI (if j < M then mkP (min M 4) j else 0))))
def NibW (g : Nat → ClassId) (M o : Nat) (ws : va_W) : Prop := ∃ (k0 k1 am : Nat), ws[k0]? = some (o, .inr (3, [.int (nI M), .int (nI 12), .ref am])) ∧ ws[k1]? = some (am, .inl (g 0, M, .inl (fun j => nI (if j < M then mkN j else 0))))
def CodeW (g : Nat → ClassId) (kd M o : Nat) (ws : va_W) : Prop := (kd = 0 ∧ SumW g M 1 o ws) ∨ (kd = 1 ∧ ParW g M o ws) ∨ (kd = 2 ∧ NibW g M o ws) ∨ (kd = 3 ∧ SumW g M 4 o ws)
/-- how many bits a check has -/
def ckb (kd M : Nat) : Nat := if kd = 0 then frm M 1 1 else if kd = 1 then min M 4 else if kd = 2 then 12 else frm M 4 4
def mrk (kd M k : Nat) : Nat := if kd = 0 then mkS M 1 k else if kd = 1 then (if k < M then mkP (min M 4) k else 0) else if kd = 2 then (if k < M then mkN k else 0) else mkS M 4 k
theorem ckb_le (kd M : Nat) : ckb kd M ≤ 28 := by
  unfold ckb
  have h1 := frm_le (M := M) (n := 1) 1
  have h4 := frm_le (M := M) (n := 4) 4
  (repeat' split) <;> omega
theorem CodeW.by {g : Nat → ClassId} {kd M o : Nat} {ws ws' : va_W} (h : CodeW g kd M o ws) (f : Nat → Nat) (hf : ∀ (k : Nat) (q : Nat × va_E), ws[k]? = some q → ws'[f k]? = some q) : CodeW g kd M o ws' := by
  have hs : ∀ n, SumW g M n o ws → SumW g M n o ws' := by
    rintro n ⟨k0, k1, am, kl, al, lf, kL, kc, kr, kb, la, ca, ra, ba9, h1, h2, h3, h4, h5, h6, h7, h8⟩
    exact ⟨f k0, f k1, am, f kl, al, lf, fun i => f (kL i), fun i => f (kc i), fun i => f (kr i), fun i => f (kb i), la, ca, ra, ba9, hf _ _ h1, hf _ _ h2, hf _ _ h3, h4, fun i hi => hf _ _ (h5 i hi), fun i hi => hf _ _ (h6 i hi), fun i hi => hf _ _ (h7 i hi), fun i hi => hf _ _ (h8 i hi)⟩
  rcases h with ⟨e, h⟩ | ⟨e, h⟩ | ⟨e, h⟩ | ⟨e, h⟩
  · exact Or.inl ⟨e, hs 1 h⟩
  · obtain ⟨k0, k1, am, h1, h2⟩ := h
    exact Or.inr (Or.inl ⟨e, f k0, f k1, am, hf _ _ h1, hf _ _ h2⟩)
  · obtain ⟨k0, k1, am, h1, h2⟩ := h
    exact Or.inr (Or.inr (Or.inl ⟨e, f k0, f k1, am, hf _ _ h1, hf _ _ h2⟩))
  · exact Or.inr (Or.inr (Or.inr ⟨e, hs 4 h⟩))
theorem CodeW.cons {g : Nat → ClassId} {kd M o : Nat} {ws : va_W} (x : Nat × va_E) (h : CodeW g kd M o ws) : CodeW g kd M o (x :: ws) := h.by (fun k => k + 1) (fun _ _ h => h)
theorem CodeW.app {g : Nat → ClassId} {kd M o : Nat} {ws : va_W} (wr : va_W) (h : CodeW g kd M o ws) : CodeW g kd M o (ws ++ wr) := h.by (fun k => k) (fun k q hk => by rw [List.getElem?_append_left (List.getElem?_eq_some_iff.mp hk).1]; exact hk)
