/-- a loop's counter that goes down from 7 to -1 -/
def kd8 (d : Nat) : Int32 := if d < 8 then nI (7 - d) else -1
theorem kd8_lt {d : Nat} (h : d < 8) : kd8 d = nI (7 - d) := if_pos h
theorem kd8_neg {d : Nat} : kd8 d < 0 ↔ ¬ d < 8 := by
  by_cases h : d < 8
  · rw [kd8_lt h]
    exact ⟨fun q => absurd (nI_pos' (show 7 - d < 2 ^ 31 by omega)) (Int32.not_le.mpr q), fun q => absurd h q⟩
  · unfold kd8
    rw [if_neg h]
    exact ⟨fun _ => h, fun _ => by decide⟩
theorem kd8_s {d : Nat} (h : d < 8) : nI (7 - d) + (-1) = kd8 (d + 1) := by
  by_cases h7 : d = 7
  · subst h7; decide
  · rw [kd8_lt (by omega), show 7 - d = 7 - (d + 1) + 1 by omega]; exact nI_dec _
theorem upd_same {f : Nat → Int32} {i : Nat} {v : Int32} (h : f i = v) : upd f i v = f := by
  funext j
  unfold upd
  split
  · next e => rw [e]; exact h.symm
  · rfl
theorem nI_ge0 {k : Nat} (h : k < 2 ^ 31) : (0 : Int32) ≤ nI k := nI_pos' h
/-- all patterns below s mend -/
def BQ (kd M s : Nat) : Prop := ∀ q fr, q < s → q % 2 = 1 → fr < M + ckb kd M → q < 2 ^ (M + ckb kd M - fr) → patA kd M q fr = 1
def BR (kd M s f : Nat) : Prop := ∀ fr, fr < f → s < 2 ^ (M + ckb kd M - fr) → patA kd M s fr = 1
theorem BQ_1 (kd M : Nat) : BQ kd M 1 := fun q fr h1 h2 => by omega
theorem BR_0 (kd M s : Nat) : BR kd M s 0 := fun fr h => by omega
theorem BQ_s {kd M i : Nat} : BQ kd M (2 * (i + 1) + 1) ↔ (BQ kd M (2 * i + 1) ∧ BR kd M (2 * i + 1) (M + ckb kd M)) := by
  constructor
  · intro h
    exact ⟨fun q fr h1 h2 h3 h4 => h q fr (by omega) h2 h3 h4, fun fr h1 h2 => h (2 * i + 1) fr (by omega) (by omega) h1 h2⟩
  · intro h q fr h1 h2 h3 h4
    rcases Nat.lt_or_ge q (2 * i + 1) with z | z
    · exact h.1 q fr z h2 h3 h4
    · obtain rfl : q = 2 * i + 1 := by omega
      exact h.2 fr h3 h4
theorem BR_s {kd M s f : Nat} : BR kd M s (f + 1) ↔ (BR kd M s f ∧ (s < 2 ^ (M + ckb kd M - f) → patA kd M s f = 1)) := by
  constructor
  · intro h
    exact ⟨fun fr h1 h2 => h fr (by omega) h2, fun h2 => h f (by omega) h2⟩
  · intro h fr h1 h2
    rcases Nat.lt_or_ge fr f with z | z
    · exact h.1 fr z h2
    · obtain rfl : fr = f := by omega
      exact h.2 h2
theorem BQ_end {kd M n i : Nat} (h1 : 1 ≤ n) (h2 : 2 ^ n ≤ 2 * i + 1) (h3 : 2 * i ≤ 2 ^ n) : BQ kd M (2 * i + 1) ↔ BM kd M n := by
  have e : 2 ^ n = 2 * 2 ^ (n - 1) := by rw [← Nat.pow_succ']; congr 1; omega
  constructor
  · intro h q fr q1 q2 q3 q4
    exact h q fr (by omega) q2 q3 q4
  · intro h q fr q1 q2 q3 q4
    exact h q fr (by omega) q2 q3 q4
theorem bit_lt {q k j : Nat} (h : q < 2 ^ j) (hb : q.testBit k = true) : k < j := by
  rcases Nat.lt_or_ge k j with z | z
  · exact z
  · rw [Nat.testBit_lt_two_pow (pow_mono h z)] at hb; cases hb
theorem shr0_iff {s k : Nat} : s >>> k = 0 ↔ s < 2 ^ k := by
  rw [Nat.shiftRight_eq_div_pow]
  exact Nat.div_eq_zero_iff_lt (Nat.two_pow_pos k)
