theorem shl_lt {x a b : Nat} (h : x < 2 ^ a) : x <<< b < 2 ^ (a + b) := by
  rw [Nat.shiftLeft_eq, Nat.pow_add]
  exact Nat.mul_lt_mul_of_pos_right h (Nat.two_pow_pos b)
theorem pow_mono {x a b : Nat} (h : x < 2 ^ a) (hab : a ≤ b) : x < 2 ^ b := Nat.lt_of_lt_of_le h (Nat.pow_le_pow_right (by decide) hab)
theorem xs_lt {f : Nat → Nat} {x b : Nat} : ∀ {n : Nat}, (∀ k, k < n → f k < 2 ^ b) → xs f x n < 2 ^ b := by
  intro n
  induction n with
  | zero => intro _; exact Nat.two_pow_pos b
  | succ n ih =>
    intro h
    have h1 := ih (fun k hk => h k (by omega))
    show xs f x n ^^^ (if x.testBit n then f n else 0) < 2 ^ b
    apply Nat.xor_lt_two_pow h1
    split
    · exact h n (by omega)
    · exact Nat.two_pow_pos b
theorem frm_mono {M n : Nat} : ∀ {i j : Nat}, i ≤ j → frm M n i ≤ frm M n j := by
  intro i j h
  induction j with
  | zero => rw [Nat.le_zero.mp h]; exact Nat.le_refl _
  | succ j ih =>
    rcases Nat.lt_or_ge i (j + 1) with q | q
    · exact Nat.le_trans (ih (by omega)) (Nat.le_add_right _ _)
    · rw [show i = j + 1 by omega]; exact Nat.le_refl _
theorem cc_lt {b j : Nat} (hb : b ≤ 57) (hj : j < b) : cc_ (lr b) j < 2 ^ lr b := (cc_in (lr_in (by omega)) (Nat.lt_of_lt_of_le hj (lr_len hb))).1
theorem mkS_lt {M n k : Nat} (hM : M ≤ 57) (hn : n = 1 ∨ n = 4) (hk : k < M) : mkS M n k < 2 ^ frm M n n := by
  unfold mkS
  have h1 := cc_lt (wid_le (i := k % n) hM hn) (wid_of hn hk)
  have h2 : k % n < n := Nat.mod_lt _ (by omega)
  have h3 : frm M n (k % n + 1) ≤ frm M n n := frm_mono h2
  have h4 : frm M n (k % n + 1) = frm M n (k % n) + lr (wid M n (k % n)) := rfl
  exact pow_mono (shl_lt h1) (by omega)
theorem mkN_lt (k : Nat) : mkN k < 2 ^ 12 := by
  unfold mkN
  have h1 : 1 <<< (k % 4) < 16 := by rcases (show k % 4 = 0 ∨ k % 4 = 1 ∨ k % 4 = 2 ∨ k % 4 = 3 by omega) with h | h | h | h <;> rw [h] <;> decide
  have h2 := rz_lt h1 (k / 4)
  have h3 := rz_lt h2 (k / 4)
  apply Nat.or_lt_two_pow
  · apply Nat.or_lt_two_pow
    · omega
    · exact pow_mono (shl_lt (a := 4) (b := 4) h2) (by decide)
  · exact shl_lt (a := 4) (b := 8) h3
theorem mkP_lt {M k : Nat} (hM : 0 < M) : mkP (min M 4) k < 2 ^ min M 4 := by
  unfold mkP
  have h : k % min M 4 < min M 4 := Nat.mod_lt _ (by omega)
  rw [Nat.one_shiftLeft]
  exact Nat.pow_lt_pow_right (by decide) h
theorem mrk_lt {kd M : Nat} (hM0 : 0 < M) (hM : M ≤ 57) : ∀ k, k < M → mrk kd M k < 2 ^ ckb kd M := by
  intro k hk
  unfold mrk ckb
  by_cases h0 : kd = 0
  · rw [if_pos h0, if_pos h0]; exact mkS_lt hM (Or.inl rfl) hk
  · rw [if_neg h0, if_neg h0]
    by_cases h1 : kd = 1
    · rw [if_pos h1, if_pos h1, if_pos hk]; exact mkP_lt hM0
    · rw [if_neg h1, if_neg h1]
      by_cases h2 : kd = 2
      · rw [if_pos h2, if_pos h2, if_pos hk]; exact mkN_lt k
      · rw [if_neg h2, if_neg h2]; exact mkS_lt hM (Or.inr rfl) hk
theorem jS_bd {M n y : Nat} (hM : M ≤ 57) (hn : n = 1 ∨ n = 4) : ∀ i, i ≤ n → ∀ q, jS M n y i = some q → q.1 ≤ 1 ∧ q.2.1 < 2 ^ 57 ∧ q.2.2 < 2 ^ 28 := by
  intro i
  induction i with
  | zero => intro _ q h; cases h; exact ⟨by decide, by decide, by decide⟩
  | succ i ih =>
    intro hi q h
    cases e : jS M n y i with
    | none => rw [jS_none e (i + 1) (by omega)] at h; cases h
    | some q0 =>
      have hb := ih (by omega) q0 e
      rw [jS_step e] at h
      unfold stS at h
      by_cases c : y >>> frm M n i % 2 ^ lr (wid M n i) = 0
      · rw [if_pos c] at h; cases h; exact hb
      · rw [if_neg c] at h
        cases e2 : ba (lr (wid M n i)) (wid M n i) (wid M n i) (y >>> frm M n i % 2 ^ lr (wid M n i)) with
        | none => rw [e2] at h; cases h
        | some b =>
          rw [e2] at h
          have hbi := ba_in e2
          have hfl := frm_le (M := M) (n := n) i
          have hl7 := lr_le (wid M n i)
          by_cases c3 : b < wid M n i
          · simp only [if_pos c3] at h
            cases h
            have hat := wid_at hn (by omega) c3
            refine ⟨Nat.le_refl 1, Nat.or_lt_two_pow hb.2.1 ?_, hb.2.2⟩
            rw [Nat.one_shiftLeft]
            exact Nat.pow_lt_pow_right (by decide) (by omega)
          · simp only [if_neg c3] at h
            cases h
            refine ⟨Nat.le_refl 1, hb.2.1, Nat.or_lt_two_pow hb.2.2 ?_⟩
            rw [Nat.one_shiftLeft]
            exact Nat.pow_lt_pow_right (by decide) (by omega)
theorem jdS_bd {M n y : Nat} (hM : M ≤ 57) (hn : n = 1 ∨ n = 4) : (jdS M n y).1 ≤ 2 ∧ (jdS M n y).2.1 < 2 ^ 62 ∧ (jdS M n y).2.2 < 2 ^ 28 := by
  unfold jdS
  cases e : jS M n y n with
  | none => exact ⟨by decide, by decide, by decide⟩
  | some q =>
    have h := jS_bd hM hn n (Nat.le_refl n) q e
    exact ⟨by show q.1 ≤ 2; omega, by show q.2.1 < _; omega, h.2.2⟩
theorem jd_bd {kd M y : Nat} (hM : M ≤ 57) (hy : y < 2 ^ ckb kd M) : (jd kd M y).1 ≤ 2 ∧ (jd kd M y).2.1 < 2 ^ 62 ∧ (jd kd M y).2.2 < 2 ^ 28 := by
  have hpw := ckb_pow kd M
  unfold jd
  by_cases h0 : kd = 0
  · rw [if_pos h0]; exact jdS_bd hM (Or.inl rfl)
  · rw [if_neg h0]
    by_cases h1 : kd = 1
    · rw [if_pos h1]; unfold jdP; split <;> exact ⟨by decide, by decide, by decide⟩
    · rw [if_neg h1]
      by_cases h2 : kd = 2
      · rw [if_pos h2]
        unfold jdN
        split
        · exact ⟨by decide, by decide, by decide⟩
        · split
          · exact ⟨by show 1 ≤ 2; decide, by show 0 < _; decide, by show y < _; omega⟩
          · split
            · exact ⟨by decide, by decide, by decide⟩
            · exact ⟨by show 1 ≤ 2; decide, wfN_lt (by omega) hM, by show 0 < _; decide⟩
      · rw [if_neg h2]; exact jdS_bd hM (Or.inr rfl)
/-- what flipping these bits of a word 0 and its check answers -/
def ans (kd M wf cf : Nat) : Nat := if (jd kd M (xs (mrk kd M) wf M ^^^ cf)).1 = 1 ∧ ¬ ((jd kd M (xs (mrk kd M) wf M ^^^ cf)).2.1 = wf ∧ (jd kd M (xs (mrk kd M) wf M ^^^ cf)).2.2 = cf) then 3 else (jd kd M (xs (mrk kd M) wf M ^^^ cf)).1
theorem syn_lt {kd M x cf : Nat} (hM0 : 0 < M) (hM : M ≤ 57) (hc : cf < 2 ^ ckb kd M) : xs (mrk kd M) x M ^^^ cf < 2 ^ ckb kd M := Nat.xor_lt_two_pow (xs_lt (mrk_lt hM0 hM)) hc
theorem ans_lt {kd M wf cf : Nat} (hM0 : 0 < M) (hM : M ≤ 57) (hc : cf < 2 ^ ckb kd M) : ans kd M wf cf < 4 := by
  have h := (jd_bd hM (syn_lt (x := wf) hM0 hM hc)).1
  unfold ans
  split <;> omega
/-- the parts of a stored one's bit -/
def wpt (M a : Nat) : Nat := if a < M then 1 <<< a else 0
def cpt (M a : Nat) : Nat := if a < M then 0 else 1 <<< (a - M)
def pairA (kd M a b : Nat) : Nat := ans kd M (wpt M a ||| wpt M b) (cpt M a ||| cpt M b)
theorem wpt_lt {M a : Nat} (hM : M ≤ 57) : wpt M a < 2 ^ 57 := by
  unfold wpt
  split
  · rw [Nat.one_shiftLeft]; exact Nat.pow_lt_pow_right (by decide) (by omega)
  · decide
theorem cpt_lt {kd M a : Nat} (ha : a < M + ckb kd M) : cpt M a < 2 ^ ckb kd M := by
  unfold cpt
  split
  · exact Nat.two_pow_pos _
  · rw [Nat.one_shiftLeft]; exact Nat.pow_lt_pow_right (by decide) (by omega)
theorem xs_mod {f : Nat → Nat} {x M : Nat} : ∀ n, n ≤ M → xs f (x % 2 ^ M) n = xs f x n := by
  intro n
  induction n with
  | zero => intro _; rfl
  | succ n ih =>
    intro h
    show xs f (x % 2 ^ M) n ^^^ (if (x % 2 ^ M).testBit n then f n else 0) = xs f x n ^^^ (if x.testBit n then f n else 0)
    rw [ih (by omega), Nat.testBit_mod_two_pow, decide_eq_true (by omega : n < M), Bool.true_and]
theorem xs_zero {f : Nat → Nat} : ∀ n, xs f 0 n = 0 := by
  intro n
  induction n with
  | zero => rfl
  | succ n ih =>
    show xs f 0 n ^^^ (if (0 : Nat).testBit n then f n else 0) = 0
    rw [ih, Nat.zero_testBit, if_neg (by decide), Nat.zero_xor]
theorem xs_one {f : Nat → Nat} {a : Nat} : ∀ n, xs f (1 <<< a) n = if a < n then f a else 0 := by
  intro n
  rw [Nat.one_shiftLeft]
  induction n with
  | zero => rfl
  | succ n ih =>
    show xs f (2 ^ a) n ^^^ (if (2 ^ a).testBit n then f n else 0) = _
    rw [ih, Nat.testBit_two_pow]
    by_cases h : a = n
    · subst h
      rw [if_neg (Nat.lt_irrefl a), if_pos (by simp), if_pos (Nat.lt_succ_self a), Nat.zero_xor]
    · rw [if_neg (show ¬ (decide (a = n) = true) by simp [h]), Nat.xor_zero]
      by_cases q : a < n
      · rw [if_pos q, if_pos (by omega)]
      · rw [if_neg q, if_neg (by omega)]
theorem xor4 (a b c d : Nat) : (a ^^^ b) ^^^ (c ^^^ d) = (a ^^^ c) ^^^ (b ^^^ d) := by
  rw [Nat.xor_assoc, Nat.xor_assoc, ← Nat.xor_assoc b c d, Nat.xor_comm b c, Nat.xor_assoc c b d]
theorem xs_or {f : Nat → Nat} {x y : Nat} (h : ∀ k, x.testBit k = true → y.testBit k = false) : ∀ n, xs f (x ||| y) n = xs f x n ^^^ xs f y n := by
  intro n
  induction n with
  | zero => exact (Nat.zero_xor 0).symm
  | succ n ih =>
    show xs f (x ||| y) n ^^^ (if (x ||| y).testBit n then f n else 0) = (xs f x n ^^^ (if x.testBit n then f n else 0)) ^^^ (xs f y n ^^^ (if y.testBit n then f n else 0))
    rw [ih, xor4, Nat.testBit_or]
    congr 1
    cases e : x.testBit n with
    | false =>
      rw [Bool.false_or, if_neg (show ¬ (false = true) by decide), Nat.zero_xor]
    | true =>
      rw [h n e, Bool.true_or, if_pos rfl, if_neg (show ¬ (false = true) by decide), Nat.xor_zero]
theorem or_xor {x y : Nat} (h : ∀ k, x.testBit k = true → y.testBit k = false) : x ||| y = x ^^^ y := by
  apply Nat.eq_of_testBit_eq
  intro k
  rw [Nat.testBit_or, Nat.testBit_xor]
  cases e : x.testBit k with
  | false => rw [Bool.false_or, Bool.false_xor]
  | true => rw [h k e]; rfl
theorem bit1_no {a b : Nat} (h : a ≠ b) : ∀ k, (1 <<< a).testBit k = true → (1 <<< b).testBit k = false := by
  intro k
  rw [Nat.one_shiftLeft, Nat.one_shiftLeft, Nat.testBit_two_pow, Nat.testBit_two_pow]
  intro q
  have e : a = k := of_decide_eq_true q
  exact decide_eq_false (by omega)
theorem wpt_no {M a b : Nat} (h : a ≠ b) : ∀ k, (wpt M a).testBit k = true → (wpt M b).testBit k = false := by
  unfold wpt
  by_cases q1 : a < M
  · by_cases q2 : b < M
    · rw [if_pos q1, if_pos q2]; exact bit1_no h
    · rw [if_neg q2]; intro k _; exact Nat.zero_testBit k
  · rw [if_neg q1]; intro k q; rw [Nat.zero_testBit] at q; exact absurd q (by decide)
theorem cpt_no {M a b : Nat} (h : a ≠ b) : ∀ k, (cpt M a).testBit k = true → (cpt M b).testBit k = false := by
  unfold cpt
  by_cases q1 : a < M
  · rw [if_pos q1]; intro k q; rw [Nat.zero_testBit] at q; exact absurd q (by decide)
  · by_cases q2 : b < M
    · rw [if_pos q2]; intro k _; exact Nat.zero_testBit k
    · rw [if_neg q1, if_neg q2]; exact bit1_no (by omega)
theorem mka_eq (kd M a : Nat) : xs (mrk kd M) (wpt M a) M ^^^ cpt M a = mka kd M a := by
  unfold mka wpt cpt
  by_cases h : a < M
  · rw [if_pos h, if_pos h, if_pos h, xs_one, if_pos h, Nat.xor_zero]
  · rw [if_neg h, if_neg h, if_neg h, xs_zero, Nat.zero_xor]
theorem syn_one (kd M a : Nat) : mka kd M a = xs (mrk kd M) (wpt M a ||| wpt M a) M ^^^ (cpt M a ||| cpt M a) := by
  rw [Nat.or_self, Nat.or_self, mka_eq]
theorem syn_two (kd M : Nat) {a b : Nat} (h : a ≠ b) : mka kd M a ^^^ mka kd M b = xs (mrk kd M) (wpt M a ||| wpt M b) M ^^^ (cpt M a ||| cpt M b) := by
  rw [xs_or (wpt_no h), or_xor (cpt_no h), xor4, mka_eq, mka_eq]
theorem nar01 {a : Nat} (h : a ≤ 1) : narrow .boolean (.int (nI a)) = .int (nI a) := by
  rcases (show a = 0 ∨ a = 1 by omega) with rfl | rfl <;> rfl
theorem sw4 {y : Int32} (h0 : ¬ y = nI 0) (h1 : ¬ y = nI 1) (h2 : ¬ y = nI 2) (h3 : ¬ y = nI 3) : y.toInt < 0 ∨ 3 < y.toInt := by
  have e0 : (nI 0).toInt = 0 := by decide
  have e1 : (nI 1).toInt = 1 := by decide
  have e2 : (nI 2).toInt = 2 := by decide
  have e3 : (nI 3).toInt = 3 := by decide
  have q0 : y.toInt ≠ 0 := fun q => h0 (Int32.toInt_inj.mp (by rw [q, e0]))
  have q1 : y.toInt ≠ 1 := fun q => h1 (Int32.toInt_inj.mp (by rw [q, e1]))
  have q2 : y.toInt ≠ 2 := fun q => h2 (Int32.toInt_inj.mp (by rw [q, e2]))
  have q3 : y.toInt ≠ 3 := fun q => h3 (Int32.toInt_inj.mp (by rw [q, e3]))
  omega
/-- size's answer -/
def szK (kd M : Nat) (y : Int32) : Int32 := if y = nI 0 then nI M else if y = nI 1 then nI (ckb kd M) else if y = nI 2 then nI kd else if y = nI 3 then nI (grsK kd M) else -1
/-- an address folded to sixteen bits -/
def fold (a : Nat) : Nat := (((a >>> 16 ^^^ a) % 65536) <<< 3 ||| ((a >>> 16 ^^^ a) % 65536) >>> 13) % 65536
