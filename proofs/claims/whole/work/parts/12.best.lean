/-- the bits of a number, as Integer.bitCount counts them -/
def bc1 (a : Nat) : Nat := a - (a >>> 1 &&& 1431655765)
def bc2 (a : Nat) : Nat := (bc1 a &&& 858993459) + (bc1 a >>> 2 &&& 858993459)
def bc3 (a : Nat) : Nat := (bc2 a + bc2 a >>> 4) &&& 252645135
def bc4 (a : Nat) : Nat := bc3 a + bc3 a >>> 8
def bc5 (a : Nat) : Nat := bc4 a + bc4 a >>> 16
def bc32 (a : Nat) : Nat := bc5 a &&& 63
theorem bc1_le (a : Nat) : a >>> 1 &&& 1431655765 ≤ a := Nat.le_trans Nat.and_le_left (Nat.shiftRight_le a 1)
theorem bc1_lt {a : Nat} (h : a < 2 ^ 32) : bc1 a < 2 ^ 32 := Nat.lt_of_le_of_lt (Nat.sub_le _ _) h
theorem bc2_lt (a : Nat) : bc2 a < 2 ^ 31 := by
  have h1 : bc1 a &&& 858993459 ≤ 858993459 := Nat.and_le_right
  have h2 : bc1 a >>> 2 &&& 858993459 ≤ 858993459 := Nat.and_le_right
  unfold bc2; omega
theorem bc3_lt (a : Nat) : bc3 a < 2 ^ 28 := by
  have h1 : bc3 a ≤ 252645135 := Nat.and_le_right
  omega
theorem bc4_lt (a : Nat) : bc4 a < 2 ^ 29 := by
  have h1 := bc3_lt a
  have h2 : bc3 a >>> 8 ≤ bc3 a := Nat.shiftRight_le _ _
  unfold bc4; omega
theorem bc5_lt (a : Nat) : bc5 a < 2 ^ 30 := by
  have h1 := bc4_lt a
  have h2 : bc4 a >>> 16 ≤ bc4 a := Nat.shiftRight_le _ _
  unfold bc5; omega
theorem bc32_lt (a : Nat) : bc32 a < 64 := Nat.lt_of_le_of_lt Nat.and_le_right (by decide)
/-- of the candidates below n: the best of a weight, with its greatest row sum -/
def bw (fr : Nat → Bool) (f : Nat → Nat) (R wt : Nat) : Nat → Option (Nat × Nat)
  | 0 => none
  | n + 1 => match bw fr f R wt n with
    | none => if (bc32 n == wt && fr n) = true then some (n, gs f n R) else none
    | some q => if (bc32 n == wt && fr n && decide (gs f n R < q.2)) = true then some (n, gs f n R) else some q
def bwL (o : Option (Nat × Nat)) : Nat := match o with
  | none => 2147483647
  | some q => q.2
theorem bw_no {fr : Nat → Bool} {f : Nat → Nat} {R wt n : Nat} (h : ¬ (bc32 n = wt ∧ fr n = true ∧ gs f n R < bwL (bw fr f R wt n))) (hg : gs f n R < 2147483647) : bw fr f R wt (n + 1) = bw fr f R wt n := by
  show (match bw fr f R wt n with | none => _ | some q => _) = _
  cases e : bw fr f R wt n with
  | none =>
    rw [e] at h
    have : ¬ (bc32 n == wt && fr n) = true := by
      intro q
      simp only [Bool.and_eq_true, beq_iff_eq] at q
      exact h ⟨q.1, q.2, hg⟩
    simp only [if_neg this]
  | some q =>
    rw [e] at h
    have : ¬ (bc32 n == wt && fr n && decide (gs f n R < q.2)) = true := by
      intro z
      simp only [Bool.and_eq_true, beq_iff_eq, decide_eq_true_eq] at z
      exact h ⟨z.1.1, z.1.2, z.2⟩
    simp only [if_neg this]
theorem bw_yes {fr : Nat → Bool} {f : Nat → Nat} {R wt n : Nat} (h1 : bc32 n = wt) (h2 : fr n = true) (h3 : gs f n R < bwL (bw fr f R wt n)) : bw fr f R wt (n + 1) = some (n, gs f n R) := by
  show (match bw fr f R wt n with | none => _ | some q => _) = _
  cases e : bw fr f R wt n with
  | none => simp [h1, h2]
  | some q =>
    rw [e] at h3
    have h4 : gs f n R < q.2 := h3
    simp [h1, h2, h4]
/-- the best column: the least weight that has one -/
def bcol (fr : Nat → Bool) (f : Nat → Nat) (R nb : Nat) : Nat → Nat → Option Nat
  | 0, _ => none
  | n + 1, wt => if R < wt then none else match bw fr f R wt nb with
    | some q => some q.1
    | none => bcol fr f R nb n (wt + 2)
/-- the columns of kind 0 by the check's bits -/
def ct : Nat → List Nat
  | 4 => [7, 11, 13, 14]
  | 5 => [7, 11, 28, 13, 14, 19, 21, 26, 22, 25, 31]
  | 6 => [7, 56, 11, 52, 13, 50, 14, 49, 19, 44, 21, 42, 22, 41, 25, 38, 26, 37, 28, 35, 31, 47, 55, 59, 61, 62]
  | 7 => [7, 56, 11, 52, 13, 50, 14, 49, 19, 44, 21, 42, 22, 41, 25, 38, 26, 37, 28, 35, 67, 76, 112, 69, 74, 70, 73, 81, 82, 84, 104, 88, 97, 98, 100, 31, 47, 55, 59, 124, 61, 62, 79, 115, 87, 91, 93, 110, 94, 103, 121, 107, 109, 118, 117, 122, 127]
  | _ => []
def cc_ (R k : Nat) : Nat := (ct R).getD k 0
/-- the row sums behind k columns -/
def rsf (R : Nat) : Nat → Nat → Nat
  | 0, _ => 0
  | k + 1, j => if j < R then rsf R k j + cc_ R k >>> j % 2 else rsf R k j
/-- the first place below n where f is s -/
def fnd (f : Nat → Nat) (s : Nat) : Nat → Option Nat
  | 0 => none
  | n + 1 => match fnd f s n with
    | some k => some k
    | none => if f n = s then some n else none
def fr_ (R k s : Nat) : Bool := (fnd (cc_ R) s k).isNone && (fnd (fun r => 2 ^ r) s R).isNone
/-- which bit a syndrome points at, behind k columns of a word of b bits -/
def ba (R b k s : Nat) : Option Nat := match fnd (cc_ R) s k with
  | some j => some j
  | none => match fnd (fun r => 2 ^ r) s R with
    | some r => some (b + r)
    | none => none
theorem best4 : (List.range 4).all (fun k => bcol (fr_ 4 k) (rsf 4 k) 4 16 4 3 == some (cc_ 4 k)) = true := by decide +kernel
theorem best5 : (List.range 11).all (fun k => bcol (fr_ 5 k) (rsf 5 k) 5 32 4 3 == some (cc_ 5 k)) = true := by decide +kernel
theorem best6 : (List.range 26).all (fun k => bcol (fr_ 6 k) (rsf 6 k) 6 64 4 3 == some (cc_ 6 k)) = true := by decide +kernel
theorem best7 : (List.range 57).all (fun k => bcol (fr_ 7 k) (rsf 7 k) 7 128 4 3 == some (cc_ 7 k)) = true := by decide +kernel
theorem gs_lt {f : Nat → Nat} {c : Nat} : ∀ {n : Nat}, (∀ k, k < n → f k < 2 ^ 20) → gs f c n < 2 ^ 21 := by
  intro n
  induction n with
  | zero => intro _; show 0 < 2 ^ 21; decide
  | succ n ih =>
    intro h
    have h1 := ih (fun k hk => h k (by omega))
    have h2 := h n (by omega)
    show max (gs f c n) (f n + c >>> n % 2) < 2 ^ 21
    omega
theorem bwL_lt {fr : Nat → Bool} {f : Nat → Nat} {R wt : Nat} (h : ∀ k, k < R → f k < 2 ^ 20) : ∀ n, bwL (bw fr f R wt n) < 2 ^ 31 := by
  intro n
  induction n with
  | zero => show 2147483647 < 2 ^ 31; decide
  | succ n ih =>
    have hg : gs f n R < 2 ^ 21 := gs_lt h
    show bwL (match bw fr f R wt n with | none => _ | some q => _) < _
    cases e : bw fr f R wt n with
    | none =>
      by_cases c : (bc32 n == wt && fr n) = true
      · simp only [if_pos c]; show gs f n R < _; omega
      · simp only [if_neg c]; show 2147483647 < _; decide
    | some q =>
      rw [e] at ih
      by_cases c : (bc32 n == wt && fr n && decide (gs f n R < q.2)) = true
      · simp only [if_pos c]; show gs f n R < _; omega
      · simp only [if_neg c]; exact ih
theorem bw_lt {fr : Nat → Bool} {f : Nat → Nat} {R wt n : Nat} (hn : n ≤ 128) : ∀ k, (bw fr f R wt n).map (fun q => q.1) = some k → k < 2 ^ 31 := by
  have h : ∀ n q, bw fr f R wt n = some q → q.1 < n := by
    intro n
    induction n with
    | zero => intro q h; cases h
    | succ n ih =>
      intro q h
      have h1 : (match bw fr f R wt n with
        | none => if (bc32 n == wt && fr n) = true then some (n, gs f n R) else none
        | some q => if (bc32 n == wt && fr n && decide (gs f n R < q.2)) = true then some (n, gs f n R) else some q) = some q := h
      cases e : bw fr f R wt n with
      | none =>
        rw [e] at h1
        by_cases c : (bc32 n == wt && fr n) = true
        · simp only [if_pos c] at h1; cases h1; exact Nat.lt_succ_self n
        · simp only [if_neg c] at h1; cases h1
      | some p =>
        rw [e] at h1
        by_cases c : (bc32 n == wt && fr n && decide (gs f n R < p.2)) = true
        · simp only [if_pos c] at h1; cases h1; exact Nat.lt_succ_self n
        · simp only [if_neg c] at h1; have := ih q (by rw [e]; exact h1); omega
  intro k hk
  cases e : bw fr f R wt n with
  | none => rw [e] at hk; cases hk
  | some q => rw [e] at hk; have h1 : q.1 = k := Option.some.inj hk; have := h n q e; omega
theorem bcol_end {fr : Nat → Bool} {f : Nat → Nat} {R nb n wt : Nat} (h : R < wt) : (-1 : Int32) = oI (bcol fr f R nb (n + 1) wt) := by
  show _ = oI (if R < wt then none else _)
  rw [if_pos h]; rfl
theorem bcol_no {fr : Nat → Bool} {f : Nat → Nat} {R nb n wt : Nat} (e : bw fr f R wt nb = none) (h : ¬ R < wt) : bcol fr f R nb (n + 1) wt = bcol fr f R nb n (wt + 2) := by
  show (if R < wt then none else match bw fr f R wt nb with | some q => some q.1 | none => bcol fr f R nb n (wt + 2)) = _
  rw [if_neg h, e]
theorem bcol_yes {fr : Nat → Bool} {f : Nat → Nat} {R nb n wt : Nat} (e : ¬ bw fr f R wt nb = none) (h : ¬ R < wt) : oI ((bw fr f R wt nb).map (fun q => q.1)) = oI (bcol fr f R nb (n + 1) wt) := by
  show _ = oI (if R < wt then none else match bw fr f R wt nb with | some q => some q.1 | none => bcol fr f R nb n (wt + 2))
  rw [if_neg h]
  cases e1 : bw fr f R wt nb with
  | none => exact absurd e1 e
  | some q => rfl
