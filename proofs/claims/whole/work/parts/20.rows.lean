/-- the greatest row sum of the lanes below i -/
def grs (M n : Nat) : Nat → Nat
  | 0 => 0
  | i + 1 => max (grs M n i) (gs (rsf (lr (wid M n i)) (wid M n i)) 0 (lr (wid M n i)))
theorem grs_lt {M n : Nat} (hM : M ≤ 57) (hn : n = 1 ∨ n = 4) : ∀ i, grs M n i < 2 ^ 21 := by
  intro i
  induction i with
  | zero => show 0 < 2 ^ 21; decide
  | succ i ih =>
    have h : gs (rsf (lr (wid M n i)) (wid M n i)) 0 (lr (wid M n i)) < 2 ^ 21 := gs_lt (fun k _ => by have := rsf_le (R := lr (wid M n i)) (wid M n i) k; have := wid_le (i := i) hM hn; omega)
    show max _ _ < _
    omega
