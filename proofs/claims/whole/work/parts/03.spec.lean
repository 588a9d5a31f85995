/-- the exclusive or of f k over the bits k < n of x that are 1 -/
def xs (f : Nat → Nat) (x : Nat) : Nat → Nat
  | 0 => 0
  | n + 1 => xs f x n ^^^ (if x.testBit n then f n else 0)
theorem xs_stop {f : Nat → Nat} {x k : Nat} (h : x >>> k = 0) : ∀ n, k ≤ n → xs f x n = xs f x k := by
  intro n hn
  obtain ⟨d, rfl⟩ : ∃ d, n = k + d := ⟨n - k, by omega⟩
  induction d with
  | zero => rfl
  | succ d ih =>
    have hb : x.testBit (k + d) = false := by
      rw [← Nat.testBit_shiftRight, h]
      exact Nat.zero_testBit d
    show xs f x (k + d) ^^^ (if x.testBit (k + d) then f (k + d) else 0) = xs f x k
    rw [hb, ih (by omega)]
    simp
theorem xs_bit (x k : Nat) : x.testBit k = decide (x >>> k % 2 = 1) := by
  rw [Nat.testBit_eq_decide_div_mod_eq, Nat.shiftRight_eq_div_pow]
theorem xs_even {f : Nat → Nat} {x k : Nat} (hx : x >>> k < 2 ^ 64) (h : lN (x >>> k % 2) = lN 0) : xs f x (k + 1) = xs f x k := by
  have h1 := xl_inj (by omega) (by decide) h
  show xs f x k ^^^ (if x.testBit k then f k else 0) = xs f x k
  rw [xs_bit, h1]
  simp
theorem xs_odd {f : Nat → Nat} {x k : Nat} (hx : x >>> k < 2 ^ 64) (h : ¬ lN (x >>> k % 2) = lN 0) : xs f x (k + 1) = xs f x k ^^^ f k := by
  have h1 : x >>> k % 2 = 1 := by
    rcases Nat.mod_two_eq_zero_or_one (x >>> k) with h0 | h0
    · rw [h0] at h; exact absurd rfl h
    · exact h0
  show xs f x k ^^^ (if x.testBit k then f k else 0) = _
  rw [xs_bit, h1]
  simp
/-- a place or NONE -/
def oI (o : Option Nat) : Int32 := match o with
  | none => -1
  | some k => nI k
theorem oI_none {o : Option Nat} (h : ∀ k, o = some k → k < 2 ^ 31) : oI o = -1 ↔ o = none := by
  constructor
  · intro h1
    cases o with
    | none => rfl
    | some k =>
      have h2 := h k rfl
      have h3 : (nI k).toInt = (-1 : Int32).toInt := by rw [show nI k = -1 from h1]
      rw [nI_toInt h2] at h3
      have h4 : (-1 : Int32).toInt = -1 := by decide
      omega
  · intro h1
    rw [h1]
    rfl
/-- how many bits a check of b bits has -/
def lr (b : Nat) : Nat := if b = 0 then 0 else if b ≤ 4 then 4 else if b ≤ 11 then 5 else if b ≤ 26 then 6 else 7
/-- the greatest row sum with one column more -/
def gs (f : Nat → Nat) (c : Nat) : Nat → Nat
  | 0 => 0
  | n + 1 => max (gs f c n) (f n + c >>> n % 2)
theorem upd_lt (f h : Nat → Nat) (k : Nat) : upd (fun j => nI (if j < k then h j else f j)) k (nI (h k)) = fun j => nI (if j < k + 1 then h j else f j) := by
  funext j
  unfold upd
  by_cases e : j = k
  · subst e; simp
  · have : (j < k + 1) = (j < k) := by simp; omega
    simp [e, this]
theorem upd_fill (f : Nat → Int32) (v : Int32) (k : Nat) : upd (fun j => if j < k then v else f j) k v = fun j => if j < k + 1 then v else f j := by
  funext j
  unfold upd
  by_cases e : j = k
  · subst e; simp
  · have : (j < k + 1) = (j < k) := by simp; omega
    simp [e, this]
theorem lr_stop {b k : Nat} (h0 : b ≠ 0) (h : k = 4 ∨ k = 5 ∨ k = 6 ∨ k = 7) (hl : (k ≤ 4 ∨ 4 < b) ∧ (k ≤ 5 ∨ 11 < b) ∧ (k ≤ 6 ∨ 26 < b)) (hs : k = 7 ∨ b ≤ 1 <<< (k - 1) - k) : nI k = nI (lr b) := by
  congr 1
  unfold lr
  rcases h with rfl | rfl | rfl | rfl <;> simp at hs hl ⊢ <;> (repeat' split) <;> omega
