/-- how often each answer comes: one bit, and pairs -/
def trow (f : Nat → Nat → Nat) (a : Nat) : Nat → Nat → Nat
  | 0, i => if i = f a a then 1 else 0
  | n + 1, i => trow f a n i + if i = 4 + f a (a + 1 + n) then 1 else 0
def tbl (f : Nat → Nat → Nat) (N : Nat) : Nat → Nat → Nat
  | 0, _ => 0
  | a + 1, i => tbl f N a i + trow f a (N - (a + 1)) i
theorem trow_le (f : Nat → Nat → Nat) (a i : Nat) : ∀ n, trow f a n i ≤ n + 1 := by
  intro n
  induction n with
  | zero => show (if i = f a a then 1 else 0) ≤ 0 + 1; split <;> omega
  | succ n ih => show trow f a n i + (if i = 4 + f a (a + 1 + n) then 1 else 0) ≤ n + 1 + 1; split <;> omega
theorem tbl_le (f : Nat → Nat → Nat) (N i : Nat) : ∀ a, tbl f N a i ≤ a * (N + 1) := by
  intro a
  induction a with
  | zero => exact Nat.zero_le _
  | succ a ih =>
    have h := trow_le f a i (N - (a + 1))
    show tbl f N a i + trow f a (N - (a + 1)) i ≤ (a + 1) * (N + 1)
    rw [Nat.add_mul, Nat.one_mul]
    omega
theorem tb_upd (F : Nat → Nat) (j : Nat) : upd (fun i => nI (F i)) j (nI (F j + 1)) = fun i => nI (F i + if i = j then 1 else 0) := by
  funext i
  unfold upd
  by_cases h : i = j
  · rw [if_pos h, if_pos h, h]
  · rw [if_neg h, if_neg h]; rfl
theorem tb_0 (f : Nat → Nat → Nat) (N a : Nat) : upd (fun i => nI (tbl f N a i)) (f a a) (nI (tbl f N a (f a a) + 1)) = fun i => nI (tbl f N a i + trow f a 0 i) := tb_upd (tbl f N a) (f a a)
theorem tb_s (f : Nat → Nat → Nat) (N a n : Nat) : upd (fun i => nI (tbl f N a i + trow f a n i)) (4 + f a (a + 1 + n)) (nI (tbl f N a (4 + f a (a + 1 + n)) + trow f a n (4 + f a (a + 1 + n)) + 1)) = fun i => nI (tbl f N a i + trow f a (n + 1) i) := by
  rw [tb_upd (fun i => tbl f N a i + trow f a n i)]
  funext i
  show nI (tbl f N a i + trow f a n i + _) = nI (tbl f N a i + (trow f a n i + _))
  rw [Nat.add_assoc]
theorem tb_0a (f : Nat → Nat → Nat) (N a : Nat) : upd (fun i => nI (tbl f N a i)) (f a a) ((fun i => nI (tbl f N a i)) (f a a) + nI 1) = fun i => nI (tbl f N a i + trow f a 0 i) := by
  show upd _ _ (nI (tbl f N a (f a a)) + nI 1) = _
  rw [nI_add]
  exact tb_0 f N a
theorem tb_sa (f : Nat → Nat → Nat) (N a n : Nat) : upd (fun i => nI (tbl f N a i + trow f a n i)) (4 + f a (a + 1 + n)) ((fun i => nI (tbl f N a i + trow f a n i)) (4 + f a (a + 1 + n)) + nI 1) = fun i => nI (tbl f N a i + trow f a (n + 1) i) := by
  show upd _ _ (nI (tbl f N a (4 + f a (a + 1 + n)) + trow f a n (4 + f a (a + 1 + n))) + nI 1) = _
  rw [nI_add]
  exact tb_s f N a n
/-- the common divisor's loop -/
def gcdI : Nat → Nat → Nat → Nat
  | 0, x, _ => x
  | n + 1, x, y => if y = 0 then x else gcdI n y (x % y)
theorem gcdI_0 (n x : Nat) : gcdI n x 0 = x := by cases n <;> rfl
theorem gcdI_s {n x y : Nat} (h : y ≠ 0) : gcdI (n + 1) x y = gcdI n y (x % y) := if_neg h
theorem gcdI_eq : ∀ n x y, y < 2 ^ n → gcdI (2 * n + 1) x y = Nat.gcd x y := by
  intro n
  induction n with
  | zero =>
    intro x y h
    obtain rfl : y = 0 := by rw [Nat.pow_zero] at h; omega
    rw [gcdI_0, Nat.gcd_zero_right]
  | succ n ih =>
    intro x y h
    by_cases h0 : y = 0
    · rw [h0, gcdI_0, Nat.gcd_zero_right]
    · have e : Nat.gcd x y = Nat.gcd (x % y) y := by rw [Nat.gcd_comm x y]; exact Nat.gcd_rec y x
      rw [show 2 * (n + 1) + 1 = (2 * n + 1 + 1) + 1 by omega, gcdI_s h0, e]
      by_cases h1 : x % y = 0
      · rw [h1, gcdI_0, Nat.gcd_zero_left]
      · have e2 : Nat.gcd (x % y) y = Nat.gcd (x % y) (y % (x % y)) := by rw [Nat.gcd_comm (x % y) (y % (x % y))]; exact Nat.gcd_rec (x % y) y
        rw [gcdI_s h1, e2]
        apply ih
        have hl : x % y < y := Nat.mod_lt _ (by omega)
        have h2 : y % (x % y) < x % y := Nat.mod_lt _ (by omega)
        have h3 := Nat.div_add_mod y (x % y)
        have h4 : 1 ≤ y / (x % y) := Nat.div_pos (by omega) (by omega)
        have h5 : x % y * 1 ≤ x % y * (y / (x % y)) := Nat.mul_le_mul_left _ h4
        rw [Nat.pow_succ] at h
        omega
theorem ckb_pos {kd M : Nat} (hM0 : 0 < M) : 0 < ckb kd M := by
  have h1 : frm M 1 1 = frm M 1 0 + lr (wid M 1 0) := rfl
  have h4 : frm M 4 1 = frm M 4 0 + lr (wid M 4 0) := rfl
  have h5 : frm M 4 1 ≤ frm M 4 4 := frm_mono (by decide)
  have w1 : 0 < wid M 1 0 := by unfold wid; omega
  have w4 : 0 < wid M 4 0 := by unfold wid; omega
  have g1 := lr_in w1
  have g4 := lr_in w4
  unfold ckb
  (repeat' split) <;> omega
/-- bursts: the pattern q, its lowest bit at fr -/
def patA (kd M q fr : Nat) : Nat := ans kd M ((q <<< fr) % 2 ^ M) ((q <<< fr) >>> M)
def aM (kd M n : Nat) : Prop := ∀ fr q, fr + n ≤ M + ckb kd M → 2 ^ (n - 1) ≤ q → q < 2 ^ n → q % 2 = 1 → patA kd M q fr = 1
def LB (kd M b : Nat) : Prop := b ≤ 6 ∧ (∀ n, 1 ≤ n → n ≤ b → aM kd M n) ∧ (b < 6 → ¬ aM kd M (b + 1))
theorem pat0 : ∀ n, n < 7 → 1 ≤ n → (2 ^ (n - 1) ||| 1) % 2 = 1 ∧ 2 ^ (n - 1) ≤ 2 ^ (n - 1) ||| 1 ∧ 2 ^ (n - 1) ||| 1 ≤ 2 ^ (n - 1) + 1 ∧ 2 ^ n ≤ 64 ∧ 2 * 2 ^ (n - 1) = 2 ^ n ∧ (2 ^ (n - 1) ||| 1 = 2 ^ (n - 1) + 1 → 2 ^ (n - 1) % 2 = 0) ∧ 2 ^ (n - 1) ||| 1 < 2 ^ n := by decide +kernel
theorem pat_hi {M q fr : Nat} (h : M ≤ fr) : (q <<< fr) % 2 ^ M = 0 ∧ (q <<< fr) >>> M = q <<< (fr - M) := by
  have e : q <<< fr = (q <<< (fr - M)) * 2 ^ M := by
    rw [Nat.shiftLeft_eq, Nat.shiftLeft_eq, Nat.mul_assoc, ← Nat.pow_add, show fr - M + M = fr by omega]
  rw [e]
  refine ⟨Nat.mul_mod_left _ _, ?_⟩
  rw [Nat.shiftRight_eq_div_pow, Nat.mul_div_cancel _ (Nat.two_pow_pos M)]
theorem pat_cf {kd M q fr n : Nat} (hq : q < 2 ^ n) (hf : fr + n ≤ M + ckb kd M) : (q <<< fr) >>> M < 2 ^ ckb kd M := by
  have h := pow_mono (shl_lt (b := fr) hq) (show n + fr ≤ ckb kd M + M by omega)
  rw [Nat.shiftRight_eq_div_pow]
  rw [Nat.pow_add] at h
  exact Nat.div_lt_of_lt_mul (by rw [Nat.mul_comm]; exact h)
/-- a fraction's parts -/
def shr (kd M z : Nat) : Nat := (if z = 0 then tbl (pairA kd M) (M + ckb kd M) (M + ckb kd M) 7 else (M + ckb kd M) * (M + ckb kd M - 1) / 2) / Nat.gcd (tbl (pairA kd M) (M + ckb kd M) (M + ckb kd M) 7) ((M + ckb kd M) * (M + ckb kd M - 1) / 2)
theorem shr_below {kd M : Nat} (hM0 : 0 < M) (hM : M ≤ 57) : 0 < (M + ckb kd M) * (M + ckb kd M - 1) / 2 ∧ (M + ckb kd M) * (M + ckb kd M - 1) ≤ 85 * 84 := by
  have h1 := ckb_pos (kd := kd) hM0
  have h2 := ckb_le kd M
  constructor
  · have h3 : 2 * 1 ≤ (M + ckb kd M) * (M + ckb kd M - 1) := Nat.mul_le_mul (by omega) (by omega)
    omega
  · exact Nat.mul_le_mul (by omega) (by omega)
theorem tbl7_le {kd M : Nat} (hM : M ≤ 57) : tbl (pairA kd M) (M + ckb kd M) (M + ckb kd M) 7 ≤ 85 * 86 := by
  have h2 := ckb_le kd M
  exact Nat.le_trans (tbl_le _ _ _ _) (Nat.mul_le_mul (by omega) (by omega))
theorem gcdI_64 {a b : Nat} (hb : b < 2 ^ 20) : gcdI 64 a b = Nat.gcd a b := by
  by_cases h0 : b = 0
  · rw [h0, gcdI_0, Nat.gcd_zero_right]
  · have e : Nat.gcd a b = Nat.gcd b (a % b) := by rw [Nat.gcd_comm a b, Nat.gcd_rec b a, Nat.gcd_comm]
    rw [gcdI_s h0, e]
    have hl : a % b < b := Nat.mod_lt _ (by omega)
    exact gcdI_eq 31 b (a % b) (by omega)
theorem patA_lt {kd M q fr n : Nat} (hM0 : 0 < M) (hM : M ≤ 57) (hq : q < 2 ^ n) (hf : fr + n ≤ M + ckb kd M) : patA kd M q fr < 4 := ans_lt hM0 hM (pat_cf hq hf)
