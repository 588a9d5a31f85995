theorem xor_back (f c x : Nat) : ((f ^^^ c) ^^^ f) ^^^ x = x ^^^ c := by
  rw [Nat.xor_comm f c, Nat.xor_assoc c f f, Nat.xor_self, Nat.xor_zero, Nat.xor_comm]
theorem xor_z {a b : Nat} : a ^^^ b = 0 ↔ b = a := by
  constructor
  · intro h
    have h1 : a ^^^ (a ^^^ b) = a ^^^ 0 := by rw [h]
    rw [← Nat.xor_assoc, Nat.xor_self, Nat.zero_xor, Nat.xor_zero] at h1
    exact h1
  · intro h; rw [h, Nat.xor_self]
theorem xor_f {f c x : Nat} : (f ^^^ c) ^^^ x = f ↔ x = c := by
  constructor
  · intro h
    have h1 : f ^^^ ((f ^^^ c) ^^^ x) = f ^^^ f := by rw [h]
    rw [Nat.xor_self, Nat.xor_assoc f c x, ← Nat.xor_assoc, Nat.xor_self, Nat.zero_xor] at h1
    exact xor_z.mp h1
  · intro h; rw [h, Nat.xor_assoc, Nat.xor_self, Nat.xor_zero]
/-- the answers counted one kind at a time -/
def m1 (f : Nat → Nat → Nat) (d : Nat) : Nat → Nat
  | 0 => 0
  | a + 1 => m1 f d a + if f a a = d then 1 else 0
def r2 (f : Nat → Nat → Nat) (a d : Nat) : Nat → Nat
  | 0 => 0
  | n + 1 => r2 f a d n + if f a (a + 1 + n) = d then 1 else 0
def m2 (f : Nat → Nat → Nat) (N d : Nat) : Nat → Nat
  | 0 => 0
  | a + 1 => m2 f N d a + r2 f a d (N - (a + 1))
theorem trow_1 {f : Nat → Nat → Nat} {a i : Nat} (hi : i < 4) : ∀ n, trow f a n i = if f a a = i then 1 else 0 := by
  intro n
  induction n with
  | zero => 
    show (if i = f a a then 1 else 0) = _
    by_cases h : f a a = i
    · rw [if_pos h, if_pos h.symm]
    · rw [if_neg h, if_neg (fun q => h q.symm)]
  | succ n ih =>
    show trow f a n i + (if i = 4 + f a (a + 1 + n) then 1 else 0) = _
    rw [ih, if_neg (show ¬ i = 4 + f a (a + 1 + n) by omega)]
    exact Nat.add_zero _
theorem tbl_1 {f : Nat → Nat → Nat} {N i : Nat} (hi : i < 4) : ∀ a, tbl f N a i = m1 f i a := by
  intro a
  induction a with
  | zero => rfl
  | succ a ih => show tbl f N a i + trow f a (N - (a + 1)) i = m1 f i a + _; rw [ih, trow_1 hi]
theorem trow_2 {f : Nat → Nat → Nat} {a d : Nat} (hf : f a a < 4) : ∀ n, trow f a n (4 + d) = r2 f a d n := by
  intro n
  induction n with
  | zero => show (if 4 + d = f a a then 1 else 0) = 0; rw [if_neg (by omega)]
  | succ n ih =>
    show trow f a n (4 + d) + (if 4 + d = 4 + f a (a + 1 + n) then 1 else 0) = r2 f a d n + (if f a (a + 1 + n) = d then 1 else 0)
    rw [ih]
    by_cases h : f a (a + 1 + n) = d
    · rw [if_pos h, if_pos (by omega)]
    · rw [if_neg h, if_neg (by omega)]
theorem tbl_2 {f : Nat → Nat → Nat} {N d : Nat} (hf : ∀ a, a < N → f a a < 4) : ∀ a, a ≤ N → tbl f N a (4 + d) = m2 f N d a := by
  intro a
  induction a with
  | zero => intro _; rfl
  | succ a ih => intro h; show tbl f N a (4 + d) + trow f a (N - (a + 1)) (4 + d) = m2 f N d a + _; rw [ih (by omega), trow_2 (hf a (by omega))]
theorem nI_pos9 {y : Nat} (hy : y < 2 ^ 32) (h : ¬ nI y < 0) : y < 2 ^ 31 := by
  obtain ⟨k, hk, e⟩ := i32_nn h
  have := xn_inj hy (by omega) e
  omega
theorem tbl_hi {kd M k : Nat} (hM0 : 0 < M) (hM : M ≤ 57) (h4 : 3 < k) (h8 : k < 8) : tbl (pairA kd M) (M + ckb kd M) (M + ckb kd M) k = m2 (pairA kd M) (M + ckb kd M) (k % 4) (M + ckb kd M) := by
  have h := tbl_2 (f := pairA kd M) (N := M + ckb kd M) (d := k % 4) (fun a ha => ans_lt (wf := wpt M a ||| wpt M a) (cf := cpt M a ||| cpt M a) hM0 hM (Nat.or_lt_two_pow (cpt_lt ha) (cpt_lt ha))) (M + ckb kd M) (Nat.le_refl _)
  rw [show 4 + k % 4 = k by omega] at h
  exact h
