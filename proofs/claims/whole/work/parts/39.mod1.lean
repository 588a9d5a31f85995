/-! the model: shifts, weights, columns, sixteen elements -/
theorem xn_sshr {a k : Nat} (ha : a < 2 ^ 31) (hk : k < 32) : nI a >>> (nI k &&& 31) = nI (a >>> k) := by
  apply Int32.toBitVec_inj.mp
  rw [Int32.toBitVec_shiftRight]
  show (BitVec.ofNat 32 a).sshiftRight' ((nI k &&& 31).toBitVec.smod 32) = BitVec.ofNat 32 (a >>> k)
  have hm : (BitVec.ofNat 32 a).msb = false := by
    rw [BitVec.msb_eq_decide, BitVec.toNat_ofNat, Nat.mod_eq_of_lt (by omega)]
    simp; omega
  show (BitVec.ofNat 32 a).sshiftRight ((nI k &&& 31).toBitVec.smod 32).toNat = _
  rw [xn_sc k hk, BitVec.sshiftRight_eq_of_msb_false hm]
  apply BitVec.eq_of_toNat_eq
  rw [BitVec.toNat_ushiftRight, BitVec.toNat_ofNat, BitVec.toNat_ofNat, Nat.mod_eq_of_lt (by omega), Nat.mod_eq_of_lt (Nat.lt_of_le_of_lt (Nat.shiftRight_le a k) (by omega))]
theorem xl_sshr {a k : Nat} (ha : a < 2 ^ 63) (hk : k < 64) : lN a >>> ((nI k).toInt64 &&& 63) = lN (a >>> k) := by
  rw [xl_c k hk]
  apply Int64.toBitVec_inj.mp
  rw [Int64.toBitVec_shiftRight]
  show (BitVec.ofNat 64 a).sshiftRight ((BitVec.ofNat 64 k).smod 64).toNat = BitVec.ofNat 64 (a >>> k)
  have hm : (BitVec.ofNat 64 a).msb = false := by
    rw [BitVec.msb_eq_decide, BitVec.toNat_ofNat, Nat.mod_eq_of_lt (by omega)]
    simp; omega
  rw [xl_sm k hk, BitVec.sshiftRight_eq_of_msb_false hm, BitVec.toNat_ofNat, Nat.mod_eq_of_lt (show k < 2 ^ 64 by omega)]
  apply BitVec.eq_of_toNat_eq
  rw [BitVec.toNat_ushiftRight, BitVec.toNat_ofNat, BitVec.toNat_ofNat, Nat.mod_eq_of_lt (by omega), Nat.mod_eq_of_lt (Nat.lt_of_le_of_lt (Nat.shiftRight_le a k) (by omega))]
theorem xl_bit {a k : Nat} (ha : a < 2 ^ 64) (hk : k < 64) : (lN a >>> ((nI k).toInt64 &&& 63)) &&& lN 1 = lN (a >>> k % 2) := by
  rw [xl_c k hk]
  apply Int64.toBitVec_inj.mp
  rw [Int64.toBitVec_and, Int64.toBitVec_shiftRight]
  show (BitVec.ofNat 64 a).sshiftRight ((BitVec.ofNat 64 k).smod 64).toNat &&& 1#64 = BitVec.ofNat 64 (a >>> k % 2)
  rw [xl_sm k hk, BitVec.toNat_ofNat, Nat.mod_eq_of_lt (show k < 2 ^ 64 by omega)]
  have h0 : ((BitVec.ofNat 64 a).sshiftRight k).getLsbD 0 = a.testBit k := by
    rw [BitVec.getLsbD_sshiftRight, if_pos (by omega : k + 0 < 64), BitVec.getLsbD_ofNat, Nat.add_zero, decide_eq_true hk]
    simp
  apply BitVec.eq_of_getLsbD_eq
  intro i hi
  rw [BitVec.getLsbD_and]
  rcases Nat.eq_zero_or_pos i with rfl | hp
  · rw [h0, xs_bit]
    rcases Nat.mod_two_eq_zero_or_one (a >>> k) with h | h <;> rw [h] <;> decide
  · have h1 : (1#64).getLsbD i = false := by
      rw [BitVec.getLsbD_one]
      simp; omega
    rw [h1, Bool.and_false]
    rcases Nat.mod_two_eq_zero_or_one (a >>> k) with h | h <;> rw [h]
    · exact (BitVec.getLsbD_zero).symm
    · exact h1.symm
/-- weights, bit by bit -/
def wtl (v : Nat) : Nat → Nat
  | 0 => 0
  | k + 1 => wtl v k + v >>> k % 2
theorem wtl_s (v : Nat) : ∀ n, wtl v (n + 1) = v % 2 + wtl (v / 2) n := by
  intro n
  induction n with
  | zero => show 0 + v >>> 0 % 2 = v % 2 + 0; rw [Nat.shiftRight_zero]; omega
  | succ n ih =>
    show wtl v (n + 1) + v >>> (n + 1) % 2 = v % 2 + (wtl (v / 2) n + (v / 2) >>> n % 2)
    rw [ih, show v >>> (n + 1) = (v / 2) >>> n from by rw [Nat.shiftRight_eq_div_pow, Nat.shiftRight_eq_div_pow, Nat.pow_succ, Nat.mul_comm, Nat.div_div_eq_div_mul]]
    omega
theorem wtl_eq : ∀ n v, wtl v n = pcn n v := by
  intro n
  induction n with
  | zero => intro v; rfl
  | succ n ih => intro v; rw [wtl_s, ih]; rfl
theorem pc7 : ∀ c, c < 128 → pcn 64 c = pcn 7 c := by decide +kernel
theorem pc7_le : ∀ c, c < 128 → pcn 7 c ≤ 7 := fun c _ => pcn_le 7 c
/-- the model's choice: the best of the candidates below c -/
def us (R b c : Nat) : Bool := (fnd (cc_ R) c b).isSome
def mb (R b : Nat) : Nat → Nat
  | 0 => 0
  | c + 1 => match mb R b c with
    | 0 => if (!us R b c && decide (2 < pcn 7 c) && pcn 7 c % 2 == 1) = true then c else 0
    | t + 1 => if (!us R b c && decide (2 < pcn 7 c) && pcn 7 c % 2 == 1 && (decide (pcn 7 c < pcn 7 (t + 1)) || (pcn 7 c == pcn 7 (t + 1) && decide (gs (rsf R b) c 7 < gs (rsf R b) (t + 1) 7)))) = true then c else t + 1
theorem mb4 : (List.range 4).all (fun k => mb 4 k 16 == cc_ 4 k) = true := by decide +kernel
theorem mb5 : (List.range 11).all (fun k => mb 5 k 32 == cc_ 5 k) = true := by decide +kernel
theorem mb6 : (List.range 26).all (fun k => mb 6 k 64 == cc_ 6 k) = true := by decide +kernel
theorem mb7 : (List.range 57).all (fun k => mb 7 k 128 == cc_ 7 k) = true := by decide +kernel
theorem mb_ok {R k : Nat} (hR : R = 4 ∨ R = 5 ∨ R = 6 ∨ R = 7) (hk : k < (ct R).length) : mb R k (2 ^ R) = cc_ R k := by
  rcases hR with rfl | rfl | rfl | rfl
  · have := List.all_eq_true.mp mb4 k (List.mem_range.mpr hk); simpa using this
  · have := List.all_eq_true.mp mb5 k (List.mem_range.mpr hk); simpa using this
  · have := List.all_eq_true.mp mb6 k (List.mem_range.mpr hk); simpa using this
  · have := List.all_eq_true.mp mb7 k (List.mem_range.mpr hk); simpa using this
theorem mb_le (R b : Nat) : ∀ c, mb R b c ≤ c := by
  intro c
  induction c with
  | zero => exact Nat.le_refl 0
  | succ c ih =>
    show (match mb R b c with | 0 => _ | t + 1 => _) ≤ c + 1
    cases e : mb R b c with
    | zero => simp only []; split <;> omega
    | succ t => rw [e] at ih; simp only []; split <;> omega
/-- a candidate that may be chosen -/
def may (R b c : Nat) : Prop := us R b c = false ∧ 2 < pcn 7 c ∧ pcn 7 c % 2 = 1
def btr (R b c t : Nat) : Prop := t = 0 ∨ pcn 7 c < pcn 7 t ∨ (pcn 7 c = pcn 7 t ∧ gs (rsf R b) c 7 < gs (rsf R b) t 7)
theorem mb_no {R b c : Nat} (h : ¬ (may R b c ∧ btr R b c (mb R b c))) : mb R b (c + 1) = mb R b c := by
  show (match mb R b c with | 0 => _ | t + 1 => _) = mb R b c
  cases e : mb R b c with
  | zero =>
    rw [e] at h
    simp only []
    rw [if_neg]
    intro q
    simp only [Bool.and_eq_true, Bool.not_eq_true', decide_eq_true_eq, beq_iff_eq] at q
    exact h ⟨⟨q.1.1, q.1.2, q.2⟩, Or.inl rfl⟩
  | succ t =>
    rw [e] at h
    simp only []
    rw [if_neg]
    intro q
    simp only [Bool.and_eq_true, Bool.or_eq_true, Bool.not_eq_true', decide_eq_true_eq, beq_iff_eq] at q
    exact h ⟨⟨q.1.1.1, q.1.1.2, q.1.2⟩, Or.inr q.2⟩
theorem mb_yes {R b c : Nat} (h : may R b c) (h2 : btr R b c (mb R b c)) : mb R b (c + 1) = c := by
  show (match mb R b c with | 0 => _ | t + 1 => _) = c
  cases e : mb R b c with
  | zero =>
    simp only []
    rw [if_pos]
    simp only [Bool.and_eq_true, Bool.not_eq_true', decide_eq_true_eq, beq_iff_eq]
    exact ⟨⟨h.1, h.2.1⟩, h.2.2⟩
  | succ t =>
    rw [e] at h2
    simp only []
    rw [if_pos]
    simp only [Bool.and_eq_true, Bool.or_eq_true, Bool.not_eq_true', decide_eq_true_eq, beq_iff_eq]
    refine ⟨⟨⟨h.1, h.2.1⟩, h.2.2⟩, ?_⟩
    rcases h2 with q | q | q
    · cases q
    · exact Or.inl q
    · exact Or.inr q
theorem mb_0 (R b : Nat) : mb R b 1 = 0 := by
  show (if (!us R b 0 && decide (2 < pcn 7 0) && pcn 7 0 % 2 == 1) = true then 0 else 0) = 0
  split <;> rfl
