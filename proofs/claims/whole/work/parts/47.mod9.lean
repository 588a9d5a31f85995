theorem lN_m1 : (-1 : Int64) = lN 18446744073709551615 := by decide
theorem out_maskL {y K : Nat} (hy : y < 2 ^ 64) (hK : K ≤ 64) : (lN y &&& (lN (2 ^ K - 1) ^^^ (-1))) = lN 0 ↔ y < 2 ^ K := by
  rw [lN_m1, xl_xor, xl_and]
  have hz : lN (y &&& (2 ^ K - 1 ^^^ 18446744073709551615)) = lN 0 ↔ (y &&& (2 ^ K - 1 ^^^ 18446744073709551615)) = 0 := ⟨fun h => xl_inj (Nat.lt_of_le_of_lt Nat.and_le_left hy) (by decide) h, fun h => by rw [h]⟩
  rw [hz]
  have hb : ∀ i, ((2 ^ K - 1) ^^^ 18446744073709551615).testBit i = (decide (i < K) ^^ decide (i < 64)) := fun i => by
    rw [Nat.testBit_xor, Nat.testBit_two_pow_sub_one, show (18446744073709551615 : Nat) = 2 ^ 64 - 1 from by decide, Nat.testBit_two_pow_sub_one]
  constructor
  · intro h
    apply Nat.lt_pow_two_of_testBit
    intro i hi
    have h1 : (y &&& ((2 ^ K - 1) ^^^ 18446744073709551615)).testBit i = false := by rw [h]; exact Nat.zero_testBit i
    rw [Nat.testBit_and, hb, decide_eq_false (by omega : ¬ i < K)] at h1
    by_cases h32 : i < 64
    · rw [decide_eq_true h32] at h1; simpa using h1
    · exact Nat.testBit_lt_two_pow (Nat.lt_of_lt_of_le hy (Nat.pow_le_pow_right (by decide) (by omega)))
  · intro h
    apply Nat.eq_of_testBit_eq
    intro i
    rw [Nat.testBit_and, hb, Nat.zero_testBit]
    by_cases hi : i < K
    · rw [decide_eq_true hi, decide_eq_true (by omega : i < 64)]; simp
    · rw [Nat.testBit_lt_two_pow (Nat.lt_of_lt_of_le h (Nat.pow_le_pow_right (by decide) (by omega)))]; rfl
theorem by64 {P : Nat → Prop} (h : ∀ b, b < 64 → ∀ a, a < 64 → P (64 * b + a)) : ∀ y, y < 4096 → P y := by
  intro y hy
  have := h (y / 64) (by omega) (y % 64) (by omega)
  rw [show 64 * (y / 64) + y % 64 = y by omega] at this
  exact this
/-- how many of a reading's three sums are 0 -/
def zc (y : Nat) : Nat := ((if y % 16 = 0 then 1 else 0) + (if y >>> 4 % 16 = 0 then 1 else 0)) + (if y >>> 8 = 0 then 1 else 0)
theorem zc_2 : ∀ y, y < 4096 → zc y = 2 → y ≠ 0 ∧ (y = y % 16 ∨ y = (y >>> 4 % 16) <<< 4 ∨ y = (y >>> 8 % 16) <<< 8) := by64 (by decide +kernel)
theorem zc_01 : ∀ y, y < 4096 → zc y ≤ 1 → y ≠ 0 ∧ ¬ (y = y % 16 ∨ y = (y >>> 4 % 16) <<< 4 ∨ y = (y >>> 8 % 16) <<< 8) := by64 (by decide +kernel)
theorem zc_3 : ∀ y, y < 4096 → zc y = 3 → y = 0 := by64 (by decide +kernel)
theorem zc_le (y : Nat) : zc y ≤ 3 := by unfold zc; (repeat' split) <;> omega
theorem pc_32 : ∀ y, y < 4096 → pcn 64 y = pcn 32 y := by64 (by decide +kernel)
theorem rz_nz : ∀ s, s < 16 → s ≠ 0 → ∀ j, j < 32 → rz s j ≠ 0 := by decide +kernel
theorem rz_sq : ∀ s, s < 16 → ∀ j, j < 16 → tms (rz s j) (rz s j) = tms s (rz s (2 * j)) := by decide +kernel
theorem rz_can : ∀ s, s < 16 → s ≠ 0 → ∀ j, j < 16 → ∀ u, u < 16 → tms (rz s j) (rz s j) = tms s u → u = rz s (2 * j) := by decide +kernel
theorem rz_one : ∀ s, s < 16 → s ≠ 0 → ∀ j, j < 15 → ∀ k, k < 15 → rz s j = rz s k → j = k := by decide +kernel
theorem pc_sh : ∀ s, s < 16 → ∀ j, j < 15 → pcn 64 (s <<< (4 * j)) = pcn 64 s := by decide +kernel
theorem wfL_no {M s t u : Nat} : ∀ n j, (∀ k, j ≤ k → k < j + n → ¬ (rz s k = t ∧ rz s (2 * k) = u)) → wfL M s t u n j = 0 := by
  intro n
  induction n with
  | zero => intro j _; rfl
  | succ n ih =>
    intro j h
    rcases Nat.lt_or_ge (4 * j) M with q | q
    · rw [wfL_next q (h j (Nat.le_refl _) (by omega))]
      exact ih (j + 1) (fun k h1 h2 => h k (by omega) (by omega))
    · exact wfL_end q
theorem jdN_2 {M y : Nat} (hy : y < 4096) (h : zc y = 2) : jdN M y = (1, 0, y) := by
  obtain ⟨h1, h2⟩ := zc_2 y hy h
  unfold jdN
  rw [if_neg h1, if_pos h2]
theorem jdN_w {M y : Nat} (hy : y < 4096) (h : zc y ≤ 1) : jdN M y = if wfN M (y % 16) (y >>> 4 % 16) (y >>> 8) = 0 then (2, 0, 0) else (1, wfN M (y % 16) (y >>> 4 % 16) (y >>> 8), 0) := by
  obtain ⟨h1, h2⟩ := zc_01 y hy h
  have e : y >>> 8 % 16 = y >>> 8 := Nat.mod_eq_of_lt (by rw [Nat.shiftRight_eq_div_pow]; omega)
  unfold jdN
  rw [if_neg h1, if_neg h2, e]
theorem jdN_3 {M y : Nat} (hy : y < 4096) (h : zc y = 3) : jdN M y = (0, 0, 0) := by
  rw [zc_3 y hy h]
  rfl
theorem jdN_1 {M y : Nat} (hy : y < 4096) (h : zc y = 1) : jdN M y = (2, 0, 0) := by
  have hs : y % 16 < 16 := Nat.mod_lt _ (by decide)
  have hw : wfN M (y % 16) (y >>> 4 % 16) (y >>> 8) = 0 := by
    unfold wfN
    by_cases h0 : y % 16 = 0
    · rw [if_pos h0]
    · rw [if_neg h0]
      apply wfL_no
      rintro k - h2 ⟨q1, q2⟩
      have n1 := rz_nz _ hs h0 k (by omega)
      have n2 := rz_nz _ hs h0 (2 * k) (by omega)
      unfold zc at h
      rw [if_neg h0, if_neg (by omega), if_neg (by omega)] at h
      omega
  rw [jdN_w hy (by omega), if_pos hw]
theorem jdN_0 {M y : Nat} (hy : y < 4096) (h : zc y = 0) (hn : tms (y >>> 4 % 16) (y >>> 4 % 16) ≠ tms (y % 16) (y >>> 8)) : jdN M y = (2, 0, 0) := by
  have hs : y % 16 < 16 := Nat.mod_lt _ (by decide)
  have hw : wfN M (y % 16) (y >>> 4 % 16) (y >>> 8) = 0 := by
    unfold wfN
    split
    · rfl
    · apply wfL_no
      rintro k - h2 ⟨q1, q2⟩
      apply hn
      rw [← q1, ← q2]
      exact rz_sq _ hs k (by omega)
  rw [jdN_w hy (by omega), if_pos hw]
theorem mJ_end {M n y v c t a wv cv bv : Nat} (h : mJ M n y v c n t a wv cv bv) : (t = 1 ∧ jdS M n y = (2, 0, 0)) ∨ (t = 0 ∧ a = (jdS M n y).1 ∧ wv = v ^^^ (jdS M n y).2.1 ∧ cv = c ^^^ (jdS M n y).2.2 ∧ bv = pcn 64 (jdS M n y).2.1 + pcn 32 (jdS M n y).2.2) := by
  unfold mJ at h
  unfold jdS
  cases e : jS M n y n with
  | none => rw [e] at h; exact Or.inl ⟨h, rfl⟩
  | some q => rw [e] at h; exact Or.inr h
theorem ite_01 (p : Prop) [Decidable p] : (if p then 1 else 0) ≤ 1 := by split <;> decide
theorem mdS_le (M n i y : Nat) (q : Nat × Nat × Nat) : (mdS M n i y q).1 ≤ 2 := by
  unfold mdS
  split
  · exact Nat.zero_le 2
  · split
    · exact Nat.le_refl 2
    · split <;> exact Nat.le_succ 1
