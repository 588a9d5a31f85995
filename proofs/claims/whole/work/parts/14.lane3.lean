theorem lr_in {b : Nat} (h : 0 < b) : lr b = 4 ∨ lr b = 5 ∨ lr b = 6 ∨ lr b = 7 := by
  unfold lr
  (repeat' split) <;> omega
theorem lr_le (b : Nat) : lr b ≤ 7 := by
  unfold lr
  (repeat' split) <;> omega
theorem lr_len {b : Nat} (h : b ≤ 57) : b ≤ (ct (lr b)).length := by
  unfold lr
  (repeat' split) <;> first | (show b ≤ 4; omega) | (show b ≤ 11; omega) | (show b ≤ 26; omega) | (show b ≤ 57; omega) | omega
theorem pow_le {R : Nat} (h : R ≤ 7) : 2 ^ R ≤ 128 := Nat.pow_le_pow_right (by decide) h
theorem best_ok {R k : Nat} (hR : R = 4 ∨ R = 5 ∨ R = 6 ∨ R = 7) (hk : k < (ct R).length) : bcol (fr_ R k) (rsf R k) R (2 ^ R) 4 3 = some (cc_ R k) := by
  rcases hR with rfl | rfl | rfl | rfl
  · have := List.all_eq_true.mp best4 k (List.mem_range.mpr hk); simpa using this
  · have := List.all_eq_true.mp best5 k (List.mem_range.mpr hk); simpa using this
  · have := List.all_eq_true.mp best6 k (List.mem_range.mpr hk); simpa using this
  · have := List.all_eq_true.mp best7 k (List.mem_range.mpr hk); simpa using this
theorem ba_fr (R b k : Nat) : (fun s => (ba R b k s).isNone) = fr_ R k := by
  funext s
  unfold ba fr_
  cases fnd (cc_ R) s k with
  | some j => rfl
  | none => cases fnd (fun r => 2 ^ r) s R <;> rfl
theorem fnd_lt {f : Nat → Nat} {s : Nat} : ∀ {n k : Nat}, fnd f s n = some k → k < n ∧ f k = s := by
  intro n
  induction n with
  | zero => intro k h; cases h
  | succ n ih =>
    intro k h
    have h1 : (match fnd f s n with | some k => some k | none => if f n = s then some n else none) = some k := h
    cases e : fnd f s n with
    | some j =>
      rw [e] at h1
      have h2 : j = k := Option.some.inj h1
      have := ih e
      rw [← h2]
      exact ⟨by omega, this.2⟩
    | none =>
      rw [e] at h1
      by_cases c : f n = s
      · simp only [if_pos c] at h1
        have h2 : n = k := Option.some.inj h1
        rw [← h2]
        exact ⟨Nat.lt_succ_self n, c⟩
      · simp only [if_neg c] at h1; cases h1
theorem fnd_none {f : Nat → Nat} {s : Nat} : ∀ {n : Nat}, (∀ k, k < n → f k ≠ s) → fnd f s n = none := by
  intro n h
  cases e : fnd f s n with
  | none => rfl
  | some k => exact absurd (fnd_lt e).2 (h k (fnd_lt e).1)
theorem ba_lt {R b k s : Nat} (hb : b ≤ 57) (hk : k ≤ 57) (hR : R ≤ 7) : ∀ j, ba R b k s = some j → j < 2 ^ 31 := by
  intro j h
  unfold ba at h
  cases e : fnd (cc_ R) s k with
  | some i => rw [e] at h; have h1 : i = j := Option.some.inj h; have := (fnd_lt e).1; omega
  | none =>
    rw [e] at h
    cases e2 : fnd (fun r => 2 ^ r) s R with
    | some r => rw [e2] at h; have h1 : b + r = j := Option.some.inj h; have := (fnd_lt e2).1; omega
    | none => rw [e2] at h; cases h
/-- the places of the check's own bits -/
def pw (b k s : Nat) : Option Nat := match fnd (fun r => 2 ^ r) s k with
  | some r => some (b + r)
  | none => none
theorem pw_upd (b k : Nat) : upd (fun s => oI (pw b k s)) (2 ^ k) (nI (b + k)) = fun s => oI (pw b (k + 1) s) := by
  funext s
  unfold upd
  by_cases e : s = 2 ^ k
  · subst e
    rw [if_pos rfl]
    have h1 : fnd (fun r => 2 ^ r) (2 ^ k) k = none := fnd_none (fun j hj q => by exact absurd q (Nat.ne_of_lt (Nat.pow_lt_pow_right (by decide) hj)))
    have h2 : fnd (fun r => 2 ^ r) (2 ^ k) (k + 1) = some k := by
      show (match fnd (fun r => 2 ^ r) (2 ^ k) k with | some k => some k | none => if 2 ^ k = 2 ^ k then some k else none) = some k
      rw [h1]; simp
    unfold pw
    rw [h2]; rfl
  · rw [if_neg e]
    have h2 : fnd (fun r => 2 ^ r) s (k + 1) = fnd (fun r => 2 ^ r) s k := by
      show (match fnd (fun r => 2 ^ r) s k with | some k => some k | none => if 2 ^ k = s then some k else none) = _
      cases fnd (fun r => 2 ^ r) s k with
      | some j => rfl
      | none => simp only [if_neg (fun q => e q.symm : ¬ 2 ^ k = s)]
    unfold pw
    rw [h2]
theorem ba_pw (R b s : Nat) : pw b R s = ba R b 0 s := rfl
theorem ba_upd {R b k : Nat} (h : fnd (cc_ R) (cc_ R k) k = none) : upd (fun s => oI (ba R b k s)) (cc_ R k) (nI k) = fun s => oI (ba R b (k + 1) s) := by
  funext s
  unfold upd
  by_cases e : s = cc_ R k
  · subst e
    rw [if_pos rfl]
    have h2 : fnd (cc_ R) (cc_ R k) (k + 1) = some k := by
      show (match fnd (cc_ R) (cc_ R k) k with | some k => some k | none => if cc_ R k = cc_ R k then some k else none) = some k
      rw [h]; simp
    unfold ba
    rw [h2]; rfl
  · rw [if_neg e]
    have h2 : fnd (cc_ R) s (k + 1) = fnd (cc_ R) s k := by
      show (match fnd (cc_ R) s k with | some k => some k | none => if cc_ R k = s then some k else none) = _
      cases fnd (cc_ R) s k with
      | some j => rfl
      | none => simp only [if_neg (fun q => e q.symm : ¬ cc_ R k = s)]
    unfold ba
    rw [h2]
theorem rsf_le {R : Nat} : ∀ k j, rsf R k j ≤ k := by
  intro k
  induction k with
  | zero => intro j; exact Nat.le_refl 0
  | succ k ih =>
    intro j
    have := ih j
    show (if j < R then rsf R k j + cc_ R k >>> j % 2 else rsf R k j) ≤ k + 1
    split <;> omega
theorem cc_in4 : (List.range 4).all (fun k => decide (cc_ 4 k < 16) && (fnd (cc_ 4) (cc_ 4 k) k).isNone) = true := by decide +kernel
theorem cc_in5 : (List.range 11).all (fun k => decide (cc_ 5 k < 32) && (fnd (cc_ 5) (cc_ 5 k) k).isNone) = true := by decide +kernel
theorem cc_in6 : (List.range 26).all (fun k => decide (cc_ 6 k < 64) && (fnd (cc_ 6) (cc_ 6 k) k).isNone) = true := by decide +kernel
theorem cc_in7 : (List.range 57).all (fun k => decide (cc_ 7 k < 128) && (fnd (cc_ 7) (cc_ 7 k) k).isNone) = true := by decide +kernel
theorem cc_in {R k : Nat} (hR : R = 4 ∨ R = 5 ∨ R = 6 ∨ R = 7) (hk : k < (ct R).length) : cc_ R k < 2 ^ R ∧ fnd (cc_ R) (cc_ R k) k = none := by
  rcases hR with rfl | rfl | rfl | rfl
  · have := List.all_eq_true.mp cc_in4 k (List.mem_range.mpr hk); simpa using this
  · have := List.all_eq_true.mp cc_in5 k (List.mem_range.mpr hk); simpa using this
  · have := List.all_eq_true.mp cc_in6 k (List.mem_range.mpr hk); simpa using this
  · have := List.all_eq_true.mp cc_in7 k (List.mem_range.mpr hk); simpa using this
