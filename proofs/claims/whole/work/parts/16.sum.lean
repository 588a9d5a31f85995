theorem xn_sa {a b c : Nat} (h : b ≤ a + c) : nI a - nI b + nI c = nI (a + c - b) := by
  rw [← pk_sub h, ← nI_add]
  rw [Int32.sub_eq_add_neg, Int32.sub_eq_add_neg, Int32.add_assoc, Int32.add_comm (-nI b), ← Int32.add_assoc]
/-- the bits of lane i of n -/
def wid (M n i : Nat) : Nat := (M + n - i - 1) / n
/-- where the check of lane i begins -/
def frm (M n : Nat) : Nat → Nat
  | 0 => 0
  | i + 1 => frm M n i + lr (wid M n i)
/-- the mark of bit k: its lane's column, moved -/
def mkS (M n k : Nat) : Nat := cc_ (lr (wid M n (k % n))) (k / n) <<< frm M n (k % n)
def mkp (M n i b k : Nat) : Nat := if k % n < i ∨ (k % n = i ∧ k / n < b) then mkS M n k else 0
theorem wid_le {M n i : Nat} (hM : M ≤ 57) (hn : n = 1 ∨ n = 4) : wid M n i ≤ 57 := by
  unfold wid
  rcases hn with rfl | rfl <;> omega
theorem wid_one (M : Nat) : wid M 1 0 = M := by
  unfold wid
  omega
theorem wid_at {M n i k : Nat} (hn : n = 1 ∨ n = 4) (hi : i < n) (hk : k < wid M n i) : k * n + i < M := by
  unfold wid at hk
  rcases hn with rfl | rfl <;> omega
theorem wid_of {M n k : Nat} (hn : n = 1 ∨ n = 4) (hk : k < M) : k / n < wid M n (k % n) := by
  unfold wid
  rcases hn with rfl | rfl <;> omega
theorem frm_le {M n : Nat} : ∀ i, frm M n i ≤ 7 * i := by
  intro i
  induction i with
  | zero => exact Nat.le_refl 0
  | succ i ih => have := lr_le (wid M n i); show frm M n i + lr (wid M n i) ≤ _; omega
theorem ln_div {n i b : Nat} (hn : n = 1 ∨ n = 4) (hi : i < n) : (b * n + i) / n = b := by rcases hn with rfl | rfl <;> omega
theorem ln_lt {M n i b : Nat} (hn : n = 1 ∨ n = 4) (hi : i < n) (h : b * n + i < M) : b < wid M n i := by
  unfold wid
  rcases hn with rfl | rfl <;> omega
theorem ln_bd {M n i b : Nat} (hM : M ≤ 57) (hn : n = 1 ∨ n = 4) (hi : i < n) (h : b ≤ wid M n i) : b * n + i < 2 ^ 20 := by
  unfold wid at h
  rcases hn with rfl | rfl <;> omega
theorem ln_next (n i b : Nat) : b * n + i + n = (b + 1) * n + i := by
  rw [Nat.add_mul, Nat.one_mul]
  omega
theorem mkp_upd {M n i b : Nat} (hn : n = 1 ∨ n = 4) (hi : i < n) : upd (fun k => nI (mkp M n i b k)) (b * n + i) (nI (cc_ (lr (wid M n i)) b <<< frm M n i)) = fun k => nI (mkp M n i (b + 1) k) := by
  funext k
  unfold upd
  have h1 : (b * n + i) % n = i := by rcases hn with rfl | rfl <;> omega
  have h2 : (b * n + i) / n = b := by rcases hn with rfl | rfl <;> omega
  by_cases e : k = b * n + i
  · subst e
    rw [if_pos rfl]
    unfold mkp
    rw [if_pos (Or.inr ⟨h1, by omega⟩)]
    unfold mkS
    rw [h1, h2]
  · rw [if_neg e]
    unfold mkp
    have h3 : (k % n < i ∨ (k % n = i ∧ k / n < b)) ↔ (k % n < i ∨ (k % n = i ∧ k / n < b + 1)) := by
      have : k % n = i → k / n = b → k = b * n + i := fun q1 q2 => by rcases hn with rfl | rfl <;> omega
      constructor
      · rintro (h | ⟨h, h'⟩)
        · exact Or.inl h
        · exact Or.inr ⟨h, by omega⟩
      · rintro (h | ⟨h, h'⟩)
        · exact Or.inl h
        · refine Or.inr ⟨h, ?_⟩
          by_cases q : k / n = b
          · exact absurd (this h q) e
          · omega
    simp only [h3]
theorem mkp_next {M n i : Nat} (hn : n = 1 ∨ n = 4) (k : Nat) (hk : k < M) : nI (mkp M n i (wid M n i) k) = nI (mkp M n (i + 1) 0 k) := by
  unfold mkp
  have h3 : (k % n < i ∨ (k % n = i ∧ k / n < wid M n i)) ↔ (k % n < i + 1 ∨ (k % n = i + 1 ∧ k / n < 0)) := by
    constructor
    · rintro (h | ⟨h, h'⟩)
      · exact Or.inl (by omega)
      · exact Or.inl (by omega)
    · rintro (h | ⟨h, h'⟩)
      · by_cases q : k % n = i
        · refine Or.inr ⟨q, ?_⟩
          have := wid_of hn hk
          rw [q] at this
          exact this
        · exact Or.inl (by omega)
      · exact absurd h' (Nat.not_lt_zero _)
  simp only [h3]
theorem mkp_end {M n : Nat} (hn : n = 1 ∨ n = 4) (k : Nat) : nI (mkp M n n 0 k) = nI (mkS M n k) := by
  unfold mkp
  rw [if_pos (Or.inl (Nat.mod_lt _ (by omega)))]
theorem mkp_0 (M n : Nat) (k : Nat) : nI 0 = nI (mkp M n 0 0 k) := by
  unfold mkp
  rw [if_neg (by rintro (h | ⟨h, h'⟩); exact Nat.not_lt_zero _ h; exact Nat.not_lt_zero _ h')]
