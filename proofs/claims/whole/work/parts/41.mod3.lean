theorem lr_stop2 {b k : Nat} (h0 : 0 < b) (h : k = 4 ∨ k = 5 ∨ k = 6 ∨ k = 7) (hl : (k ≤ 4 ∨ 4 < b) ∧ (k ≤ 5 ∨ 11 < b) ∧ (k ≤ 6 ∨ 26 < b)) (hs : b ≤ 1 <<< (k - 1) - k) : k = lr b := by
  unfold lr
  rcases h with rfl | rfl | rfl | rfl <;> simp at hs hl ⊢ <;> (repeat' split) <;> omega
theorem lr_more {b k : Nat} (hb : b ≤ 57) (h : k = 4 ∨ k = 5 ∨ k = 6 ∨ k = 7) (hl : (k ≤ 4 ∨ 4 < b) ∧ (k ≤ 5 ∨ 11 < b) ∧ (k ≤ 6 ∨ 26 < b)) (hs : 1 <<< (k - 1) - k < b) : (k + 1 = 4 ∨ k + 1 = 5 ∨ k + 1 = 6 ∨ k + 1 = 7) ∧ (k + 1 ≤ 4 ∨ 4 < b) ∧ (k + 1 ≤ 5 ∨ 11 < b) ∧ (k + 1 ≤ 6 ∨ 26 < b) := by
  rcases h with rfl | rfl | rfl | rfl <;> simp at hs hl ⊢ <;> omega
theorem k47 {k : Nat} (h : k = 4 ∨ k = 5 ∨ k = 6 ∨ k = 7) : k ≤ 1 <<< (k - 1) ∧ 1 <<< (k - 1) < 2 ^ 20 := by
  rcases h with rfl | rfl | rfl | rfl <;> decide
theorem us_0 (R x : Nat) : us R 0 x = false := rfl
theorem us_s (R b x : Nat) : us R (b + 1) x = (us R b x || decide (cc_ R b = x)) := by
  unfold us
  show (match fnd (cc_ R) x b with | some k => some k | none => if cc_ R b = x then some b else none).isSome = _
  cases fnd (cc_ R) x b with
  | some k => rfl
  | none =>
    by_cases h : cc_ R b = x
    · simp [h]
    · simp [h]
theorem us_upd (R b : Nat) : upd (fun x => nI (if us R b x then 1 else 0)) (cc_ R b) (vp_nar .boolean (nI 1)) = fun x => nI (if us R (b + 1) x then 1 else 0) := by
  funext x
  unfold upd
  rw [us_s]
  by_cases h : x = cc_ R b
  · rw [if_pos h, h, decide_eq_true rfl, Bool.or_true]; rfl
  · rw [if_neg h, decide_eq_false (fun q => h q.symm), Bool.or_false]
theorem rs7 {R b j : Nat} (hc : cc_ R b < 2 ^ R) : rsf R b j + cc_ R b >>> j % 2 = rsf R (b + 1) j := by
  show _ = if j < R then rsf R b j + cc_ R b >>> j % 2 else rsf R b j
  by_cases h : j < R
  · rw [if_pos h]
  · rw [if_neg h, Nat.shiftRight_eq_div_pow, Nat.div_eq_of_lt (Nat.lt_of_lt_of_le hc (Nat.pow_le_pow_right (by decide) (by omega)))]; rfl
theorem rs_out {R j : Nat} (h : R ≤ j) : ∀ b, rsf R b j = 0 := by
  intro b
  induction b with
  | zero => rfl
  | succ b ih =>
    show (if j < R then _ else rsf R b j) = 0
    rw [if_neg (by omega)]
    exact ih
theorem gs_pad {f : Nat → Nat} {R : Nat} : ∀ n, R ≤ n → (∀ j, R ≤ j → f j = 0) → gs f 0 n = gs f 0 R := by
  intro n
  induction n with
  | zero => intro h _; rw [show R = 0 by omega]
  | succ n ih =>
    intro h hf
    rcases Nat.lt_or_ge n R with q | q
    · rw [show R = n + 1 by omega]
    · show max (gs f 0 n) (f n + 0 >>> n % 2) = _
      rw [hf n q, ih q hf, Nat.zero_shiftRight]
      exact Nat.max_eq_left (Nat.zero_le _)
/-- the columns behind b of lane i -/
def cof (h : Nat → Int32) (R i b k : Nat) : Int32 := if 57 * i ≤ k ∧ k < 57 * i + b then nI (cc_ R (k - 57 * i)) else h k
theorem cof_0 (h : Nat → Int32) (R i : Nat) : cof h R i 0 = h := by
  funext k
  unfold cof
  rw [if_neg (by omega)]
theorem cof_upd (h : Nat → Int32) (R i b : Nat) : upd (cof h R i b) (57 * i + b) (nI (cc_ R b)) = cof h R i (b + 1) := by
  funext k
  unfold upd cof
  by_cases e : k = 57 * i + b
  · rw [if_pos e, if_pos (by omega), e, show 57 * i + b - 57 * i = b by omega]
  · rw [if_neg e]
    by_cases q : 57 * i ≤ k ∧ k < 57 * i + b
    · rw [if_pos q, if_pos (by omega)]
    · rw [if_neg q, if_neg (by omega)]
