/-- times g, over sixteen elements -/
def tg (e : Nat) : Nat := if 15 < 2 * e then (2 * e) ^^^ 19 else 2 * e
def rz (e : Nat) : Nat → Nat
  | 0 => e
  | p + 1 => tg (rz e p)
theorem tg_lt : ∀ e, e < 16 → tg e < 16 := by decide +kernel
theorem rz_lt {e : Nat} (h : e < 16) : ∀ p, rz e p < 16 := by
  intro p
  induction p with
  | zero => exact h
  | succ p ih => exact tg_lt _ ih
/-- marks of kind 1 and of kind 2 -/
def mkP (R k : Nat) : Nat := 1 <<< (k % R)
def mkN (k : Nat) : Nat := (1 <<< (k % 4) ||| rz (1 <<< (k % 4)) (k / 4) <<< 4) ||| rz (rz (1 <<< (k % 4)) (k / 4)) (k / 4) <<< 8
theorem mod_next {R k : Nat} (h : R = 1 ∨ R = 2 ∨ R = 3 ∨ R = 4) : (k + 1) % R = if k % R + 1 < R then k % R + 1 else 0 := by
  rcases h with rfl | rfl | rfl | rfl <;> split <;> omega
/-- what a nibble's reading turns in the word -/
def wfL (M s t u : Nat) : Nat → Nat → Nat
  | 0, _ => 0
  | n + 1, j => if M ≤ 4 * j then 0 else if rz s j = t ∧ rz s (2 * j) = u then (if (s <<< (4 * j)) >>> M = 0 then s <<< (4 * j) else 0) else wfL M s t u n (j + 1)
def wfN (M s t u : Nat) : Nat := if s = 0 then 0 else wfL M s t u 16 0
/-- a reading's answer, and what it turns in the word and in the check -/
def jdP (y : Nat) : Nat × Nat × Nat := if y = 0 then (0, 0, 0) else (2, 0, 0)
def jdN (M y : Nat) : Nat × Nat × Nat :=
  if y = 0 then (0, 0, 0)
  else if y = y % 16 ∨ y = (y >>> 4 % 16) <<< 4 ∨ y = (y >>> 8 % 16) <<< 8 then (1, 0, y)
  else if wfN M (y % 16) (y >>> 4 % 16) (y >>> 8 % 16) = 0 then (2, 0, 0)
  else (1, wfN M (y % 16) (y >>> 4 % 16) (y >>> 8 % 16), 0)
theorem wfL_lt {M s t u : Nat} (hs : s < 16) (hM : M ≤ 57) : ∀ n j, wfL M s t u n j < 2 ^ 62 := by
  intro n
  induction n with
  | zero => intro j; show 0 < 2 ^ 62; decide
  | succ n ih =>
    intro j
    show (if M ≤ 4 * j then 0 else if rz s j = t ∧ rz s (2 * j) = u then (if (s <<< (4 * j)) >>> M = 0 then s <<< (4 * j) else 0) else wfL M s t u n (j + 1)) < 2 ^ 62
    by_cases c1 : M ≤ 4 * j
    · rw [if_pos c1]; decide
    · rw [if_neg c1]
      by_cases c2 : rz s j = t ∧ rz s (2 * j) = u
      · rw [if_pos c2]
        by_cases c3 : (s <<< (4 * j)) >>> M = 0
        · rw [if_pos c3, Nat.shiftLeft_eq]
          have h1 : 2 ^ (4 * j) ≤ 2 ^ 56 := Nat.pow_le_pow_right (by decide) (by omega)
          have h2 : s * 2 ^ (4 * j) ≤ 15 * 2 ^ 56 := Nat.mul_le_mul (by omega) h1
          have h3 : 15 * 2 ^ 56 < 2 ^ 62 := by decide
          omega
        · rw [if_neg c3]; decide
      · rw [if_neg c2]; exact ih (j + 1)
theorem wfN_lt {M s t u : Nat} (hs : s < 16) (hM : M ≤ 57) : wfN M s t u < 2 ^ 62 := by
  unfold wfN
  split
  · decide
  · exact wfL_lt hs hM _ _
/-- one lane's part of a reading of sums -/
def stS (M n y i : Nat) (q : Nat × Nat × Nat) : Option (Nat × Nat × Nat) :=
  if y >>> frm M n i % 2 ^ lr (wid M n i) = 0 then some q
  else match ba (lr (wid M n i)) (wid M n i) (wid M n i) (y >>> frm M n i % 2 ^ lr (wid M n i)) with
    | none => none
    | some b => if b < wid M n i then some (1, q.2.1 ||| 1 <<< (b * n + i), q.2.2) else some (1, q.2.1, q.2.2 ||| 1 <<< (frm M n i + b - wid M n i))
def jS (M n y : Nat) : Nat → Option (Nat × Nat × Nat)
  | 0 => some (0, 0, 0)
  | i + 1 => match jS M n y i with
    | none => none
    | some q => stS M n y i q
def jdS (M n y : Nat) : Nat × Nat × Nat := match jS M n y n with
  | none => (2, 0, 0)
  | some q => q
theorem jS_none {M n y i : Nat} (h : jS M n y i = none) : ∀ k, i ≤ k → jS M n y k = none := by
  intro k hk
  obtain ⟨d, rfl⟩ : ∃ d, k = i + d := ⟨k - i, by omega⟩
  clear hk
  induction d with
  | zero => exact h
  | succ d ih =>
    show (match jS M n y (i + d) with | none => none | some q => stS M n y (i + d) q) = none
    rw [ih]
theorem jS_step {M n y i : Nat} {q : Nat × Nat × Nat} (h : jS M n y i = some q) : jS M n y (i + 1) = stS M n y i q := by
  show (match jS M n y i with | none => none | some q => stS M n y i q) = _
  rw [h]
theorem ba_in {R b k s j : Nat} (h : ba R b k s = some j) : j < k ∨ (b ≤ j ∧ j < b + R) := by
  unfold ba at h
  cases e : fnd (cc_ R) s k with
  | some i => rw [e] at h; have h1 : i = j := Option.some.inj h; have := (fnd_lt e).1; omega
  | none =>
    rw [e] at h
    cases e2 : fnd (fun r => 2 ^ r) s R with
    | some r => rw [e2] at h; have h1 : b + r = j := Option.some.inj h; have := (fnd_lt e2).1; omega
    | none => rw [e2] at h; cases h
theorem frm_lt {M n i : Nat} (hi : i < 4) : frm M n i ≤ 21 := by have := frm_le (M := M) (n := n) i; omega
theorem wfL_end {M s t u n j : Nat} (h : M ≤ 4 * j) : wfL M s t u (n + 1) j = 0 := by
  show (if M ≤ 4 * j then 0 else _) = 0
  rw [if_pos h]
theorem wfL_next {M s t u n j : Nat} (h : 4 * j < M) (h2 : ¬ (rz s j = t ∧ rz s (2 * j) = u)) : wfL M s t u (n + 1) j = wfL M s t u n (j + 1) := by
  show (if M ≤ 4 * j then 0 else if rz s j = t ∧ rz s (2 * j) = u then _ else wfL M s t u n (j + 1)) = _
  rw [if_neg (by omega), if_neg h2]
theorem wfL_hit {M s t u n j : Nat} (h : 4 * j < M) (h2 : rz s j = t ∧ rz s (2 * j) = u) : wfL M s t u (n + 1) j = if (s <<< (4 * j)) >>> M = 0 then s <<< (4 * j) else 0 := by
  show (if M ≤ 4 * j then 0 else if rz s j = t ∧ rz s (2 * j) = u then (if (s <<< (4 * j)) >>> M = 0 then s <<< (4 * j) else 0) else wfL M s t u n (j + 1)) = _
  rw [if_neg (by omega), if_pos h2]
theorem sh_lt {s k : Nat} (hs : s < 16) (hk : k ≤ 58) : s <<< k < 2 ^ 64 := by
  rw [Nat.shiftLeft_eq]
  have h1 : 2 ^ k ≤ 2 ^ 58 := Nat.pow_le_pow_right (by decide) hk
  have h2 : s * 2 ^ k ≤ 15 * 2 ^ 58 := Nat.mul_le_mul (by omega) h1
  have h3 : 15 * 2 ^ 58 < 2 ^ 64 := by decide
  omega
