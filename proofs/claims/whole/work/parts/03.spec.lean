/-- the exclusive or of f k over the bits k < n of x that are 1 -/
def xs (f : Nat → Nat) (x : Nat) : Nat → Nat
  | 0 => 0
  | n + 1 => xs f x n ^^^ (if x.testBit n then f n else 0)
theorem xs_stop {f : Nat → Nat} {x k : Nat} (h : x >>> k = 0) : ∀ n, k ≤ n → xs f x n = xs f x k := by
  intro n hn
  obtain ⟨d, rfl⟩ : ∃ d, n = k + d := ⟨n - k, by omega⟩
  induction d with
  | zero => rfl
  | succ d ih =>
    have hb : x.testBit (k + d) = false := by
      rw [← Nat.testBit_shiftRight, h]
      exact Nat.zero_testBit d
    show xs f x (k + d) ^^^ (if x.testBit (k + d) then f (k + d) else 0) = xs f x k
    rw [hb, ih (by omega)]
    simp
theorem xs_bit (x k : Nat) : x.testBit k = decide (x >>> k % 2 = 1) := by
  rw [Nat.testBit_eq_decide_div_mod_eq, Nat.shiftRight_eq_div_pow]
theorem xs_even {f : Nat → Nat} {x k : Nat} (hx : x >>> k < 2 ^ 64) (h : lN (x >>> k % 2) = lN 0) : xs f x (k + 1) = xs f x k := by
  have h1 := xl_inj (by omega) (by decide) h
  show xs f x k ^^^ (if x.testBit k then f k else 0) = xs f x k
  rw [xs_bit, h1]
  simp
theorem xs_odd {f : Nat → Nat} {x k : Nat} (hx : x >>> k < 2 ^ 64) (h : ¬ lN (x >>> k % 2) = lN 0) : xs f x (k + 1) = xs f x k ^^^ f k := by
  have h1 : x >>> k % 2 = 1 := by
    rcases Nat.mod_two_eq_zero_or_one (x >>> k) with h0 | h0
    · rw [h0] at h; exact absurd rfl h
    · exact h0
  show xs f x k ^^^ (if x.testBit k then f k else 0) = _
  rw [xs_bit, h1]
  simp
