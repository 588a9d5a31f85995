/-- the least place below 8 where p holds, sought from above -/
def fdn (f : Nat → Bool) : Nat → Option Nat
  | 0 => none
  | d + 1 => if f (7 - d) = true then some (7 - d) else fdn f d
theorem fdn_spec {f : Nat → Bool} : ∀ d, d ≤ 8 → match fdn f d with
    | none => ∀ k, 8 - d ≤ k → k < 8 → f k = false
    | some i => 8 - d ≤ i ∧ i < 8 ∧ f i = true ∧ ∀ k, 8 - d ≤ k → k < i → f k = false := by
  intro d
  induction d with
  | zero => intro _; intro k h1 h2; omega
  | succ d ih =>
    intro hd
    have h := ih (by omega)
    show match (if f (7 - d) = true then some (7 - d) else fdn f d) with | none => _ | some i => _
    by_cases c : f (7 - d) = true
    · rw [if_pos c]
      exact ⟨by omega, by omega, c, fun k h1 h2 => by omega⟩
    · rw [if_neg c]
      have c' : f (7 - d) = false := by cases e : f (7 - d) with | false => rfl | true => exact absurd e c
      cases e : fdn f d with
      | none =>
        rw [e] at h
        intro k h1 h2
        rcases Nat.lt_or_ge k (8 - d) with q | q
        · rw [show k = 7 - d by omega]; exact c'
        · exact h k q h2
      | some i =>
        rw [e] at h
        obtain ⟨a1, a2, a3, a4⟩ := h
        refine ⟨by omega, a2, a3, fun k h1 h2 => ?_⟩
        rcases Nat.lt_or_ge k (8 - d) with q | q
        · rw [show k = 7 - d by omega]; exact c'
        · exact a4 k q h2
theorem fdn_some {f : Nat → Bool} {i : Nat} (h : fdn f 8 = some i) : i < 8 ∧ f i = true ∧ ∀ k, k < i → f k = false := by
  have := fdn_spec (f := f) 8 (by decide)
  rw [h] at this
  exact ⟨this.2.1, this.2.2.1, fun k hk => this.2.2.2 k (by omega) hk⟩
theorem fdn_none {f : Nat → Bool} (h : fdn f 8 = none) : ∀ k, k < 8 → f k = false := by
  have := fdn_spec (f := f) 8 (by decide)
  rw [h] at this
  exact fun k hk => this k (by omega) hk
theorem fdn_first {f : Nat → Bool} {i : Nat} (hi : i < 8) (h : f i = true) (hn : ∀ k, k < i → f k = false) : fdn f 8 = some i := by
  cases e : fdn f 8 with
  | none => have := fdn_none e i hi; rw [h] at this; cases this
  | some j =>
    obtain ⟨a1, a2, a3⟩ := fdn_some e
    rcases Nat.lt_trichotomy i j with q | q | q
    · have := a3 i q; rw [h] at this; cases this
    · rw [q]
    · have := hn j q; rw [a2] at this; cases this
theorem fdn_no {f : Nat → Bool} (hn : ∀ k, k < 8 → f k = false) : fdn f 8 = none := by
  cases e : fdn f 8 with
  | none => rfl
  | some j => obtain ⟨a1, a2, a3⟩ := fdn_some e; have := hn j a1; rw [a2] at this; cases this
theorem fdn_s (f : Nat → Bool) (d : Nat) : fdn f (d + 1) = if f (7 - d) = true then some (7 - d) else fdn f d := rfl
/-- the part of a pattern's bits below k, moved to fr -/
def pk (q fr k : Nat) : Nat := (q % 2 ^ k) <<< fr
theorem pk_s (q fr k : Nat) : pk q fr (k + 1) = pk q fr k ^^^ (if q.testBit k then 1 <<< (fr + k) else 0) := by
  apply Nat.eq_of_testBit_eq
  intro i
  have hp : ∀ k, (pk q fr k).testBit i = (decide (fr ≤ i) && (decide (i - fr < k) && q.testBit (i - fr))) := fun k => by
    unfold pk
    rw [Nat.testBit_shiftLeft, Nat.testBit_mod_two_pow]
  rw [Nat.testBit_xor, hp, hp]
  by_cases c : q.testBit k = true
  · rw [if_pos c, Nat.one_shiftLeft, Nat.testBit_two_pow]
    by_cases h1 : fr + k = i
    · subst h1
      rw [show fr + k - fr = k by omega, c]
      simp
    · by_cases h2 : fr ≤ i
      · have h3 : (i - fr < k + 1) = (i - fr < k) := by simp only [eq_iff_iff]; omega
        simp [h1, h3]
      · simp [h1, h2]
  · have c' : q.testBit k = false := by cases e : q.testBit k with | false => rfl | true => exact absurd e c
    rw [if_neg c, Nat.zero_testBit, Bool.xor_false]
    by_cases h1 : fr + k = i
    · subst h1
      rw [show fr + k - fr = k by omega, c']
      simp
    · by_cases h2 : fr ≤ i
      · have h3 : (i - fr < k + 1) = (i - fr < k) := by simp only [eq_iff_iff]; omega
        simp [h3]
      · simp [h2]
theorem pk_0 (q fr : Nat) : pk q fr 0 = 0 := by unfold pk; rw [Nat.pow_zero, Nat.mod_one, Nat.zero_shiftLeft]
theorem pk_7 {q fr : Nat} (h : q < 2 ^ 7) : pk q fr 7 = q <<< fr := by unfold pk; rw [Nat.mod_eq_of_lt h]
theorem one_mod {M p : Nat} : (1 <<< p) % 2 ^ M = if p < M then 1 <<< p else 0 := by
  by_cases h : p < M
  · rw [if_pos h, Nat.one_shiftLeft]; exact Nat.mod_eq_of_lt (Nat.pow_lt_pow_right (by decide) h)
  · rw [if_neg h, Nat.one_shiftLeft]; exact Nat.mod_eq_zero_of_dvd (Nat.pow_dvd_pow 2 (by omega))
theorem one_shr {M p : Nat} : (1 <<< p) >>> M = if p < M then 0 else 1 <<< (p - M) := by
  rw [Nat.one_shiftLeft, Nat.shiftRight_eq_div_pow]
  by_cases h : p < M
  · rw [if_pos h]; exact Nat.div_eq_of_lt (Nat.pow_lt_pow_right (by decide) h)
  · rw [if_neg h, Nat.one_shiftLeft, Nat.pow_div (by omega) (by decide)]
theorem pk_w (M q fr k : Nat) : pk q fr (k + 1) % 2 ^ M = pk q fr k % 2 ^ M ^^^ (if q.testBit k = true ∧ fr + k < M then 1 <<< (fr + k) else 0) := by
  rw [pk_s, Nat.xor_mod_two_pow]
  by_cases c : q.testBit k = true
  · rw [if_pos c, one_mod]
    by_cases h : fr + k < M
    · rw [if_pos h, if_pos ⟨c, h⟩]
    · rw [if_neg h, if_neg (fun z => h z.2)]
  · rw [if_neg c, if_neg (fun z => c z.1), Nat.zero_mod]
theorem pk_c (M q fr k : Nat) : pk q fr (k + 1) >>> M = pk q fr k >>> M ^^^ (if q.testBit k = true ∧ M ≤ fr + k then 1 <<< (fr + k - M) else 0) := by
  rw [pk_s, Nat.shiftRight_xor_distrib]
  by_cases c : q.testBit k = true
  · rw [if_pos c, one_shr]
    by_cases h : fr + k < M
    · rw [if_pos h, if_neg (fun z => by omega)]
    · rw [if_neg h, if_pos ⟨c, by omega⟩]
  · rw [if_neg c, if_neg (fun z => c z.1), Nat.zero_shiftRight]
/-- the model's own word for bursts of at most n bits -/
def BM (kd M n : Nat) : Prop := ∀ q fr, q < 2 ^ n → q % 2 = 1 → fr < M + ckb kd M → q < 2 ^ (M + ckb kd M - fr) → patA kd M q fr = 1
theorem BM_iff {kd M n : Nat} : BM kd M n ↔ ∀ k, 1 ≤ k → k ≤ n → aM kd M k := by
  constructor
  · intro h k h1 h2 fr q h3 h4 h5 h6
    exact h q fr (pow_mono h5 h2) h6 (by omega) (pow_mono h5 (by omega))
  · intro h q fr h1 h2 h3 h4
    have hq : q ≠ 0 := by omega
    have l1 := Nat.log2_self_le hq
    have l2 : q < 2 ^ (q.log2 + 1) := Nat.lt_log2_self
    have l3 : q.log2 < n := by
      rcases Nat.lt_or_ge q.log2 n with z | z
      · exact z
      · have := Nat.pow_le_pow_right (show 0 < 2 by decide) z; omega
    have l4 : q.log2 < M + ckb kd M - fr := by
      rcases Nat.lt_or_ge q.log2 (M + ckb kd M - fr) with z | z
      · exact z
      · have := Nat.pow_le_pow_right (show 0 < 2 by decide) z; omega
    exact h (q.log2 + 1) (by omega) (by omega) fr q (by omega) (by rw [Nat.add_sub_cancel]; exact l1) l2 h2
theorem BM_LB {kd M n b : Nat} (h1 : 1 ≤ n) (h6 : n ≤ 6) (h : LB kd M b) : BM kd M n ↔ n ≤ b := by
  rw [BM_iff]
  constructor
  · intro q
    rcases Nat.lt_or_ge b n with z | z
    · exact absurd (q (b + 1) (by omega) (by omega)) (h.2.2 (by omega))
    · exact z
  · intro q k k1 k2
    exact h.2.1 k k1 (by omega)
