theorem nk_in (kd : Nat) : nk kd = 1 ∨ nk kd = 4 := by unfold nk; split <;> simp
theorem fre4 : (List.range 4).all (fun k => (fnd (cc_ 4) (cc_ 4 k) k).isNone) = true := by decide +kernel
theorem fre5 : (List.range 11).all (fun k => (fnd (cc_ 5) (cc_ 5 k) k).isNone) = true := by decide +kernel
theorem fre6 : (List.range 26).all (fun k => (fnd (cc_ 6) (cc_ 6 k) k).isNone) = true := by decide +kernel
theorem fre7 : (List.range 57).all (fun k => (fnd (cc_ 7) (cc_ 7 k) k).isNone) = true := by decide +kernel
theorem fre_ok {R k : Nat} (hR : R = 4 ∨ R = 5 ∨ R = 6 ∨ R = 7) (hk : k < (ct R).length) : fnd (cc_ R) (cc_ R k) k = none := by
  rcases hR with rfl | rfl | rfl | rfl
  · have := List.all_eq_true.mp fre4 k (List.mem_range.mpr hk); simpa using this
  · have := List.all_eq_true.mp fre5 k (List.mem_range.mpr hk); simpa using this
  · have := List.all_eq_true.mp fre6 k (List.mem_range.mpr hk); simpa using this
  · have := List.all_eq_true.mp fre7 k (List.mem_range.mpr hk); simpa using this
theorem one_bit : ∀ R, R < 8 → ∀ y, y < 128 → y < 2 ^ R → (decide (pcn 64 y = 1)) = (fnd (fun r => 2 ^ r) y R).isSome := by decide +kernel
theorem fnd_s (f : Nat → Nat) (s n : Nat) : fnd f s (n + 1) = match fnd f s n with | some k => some k | none => if f n = s then some n else none := rfl
/-- what the place of a found column turns -/
def trn (n i : Nat) (o : Option Nat) : Nat := match o with
  | none => 0
  | some j => 1 <<< (j * n + i)
def ow (o : Option Nat) : Nat := match o with
  | none => 2
  | some _ => 1
theorem trn_hit {R n i k wv : Nat} (hR : R = 4 ∨ R = 5 ∨ R = 6 ∨ R = 7) (hk : k < (ct R).length) : (wv ^^^ trn n i (fnd (cc_ R) (cc_ R k) k)) ^^^ 1 <<< (k * n + i) = wv ^^^ trn n i (fnd (cc_ R) (cc_ R k) (k + 1)) ∧ ow (fnd (cc_ R) (cc_ R k) (k + 1)) = 1 := by
  rw [fnd_s, fre_ok hR hk]
  simp only [if_pos]
  refine ⟨?_, rfl⟩
  show (wv ^^^ 0) ^^^ 1 <<< (k * n + i) = wv ^^^ 1 <<< (k * n + i)
  rw [Nat.xor_zero]
theorem fnd_miss {f : Nat → Nat} {s k : Nat} (h : f k ≠ s) : fnd f s (k + 1) = fnd f s k := by
  rw [fnd_s]
  cases fnd f s k with
  | some j => rfl
  | none => simp only [if_neg h]
/-- one code's mending, as the model does it: answer, word, check, bits -/
def mdS (M n i y : Nat) (q : Nat × Nat × Nat) : Nat × Nat × Nat × Nat :=
  if y = 0 then (0, q)
  else match ba (lr (wid M n i)) (wid M n i) (wid M n i) y with
    | none => (2, q)
    | some b => if b < wid M n i then (1, q.1 ^^^ 1 <<< (b * n + i), q.2.1, q.2.2 + 1) else (1, q.1, q.2.1 ^^^ 1 <<< (frm M n i + b - wid M n i), q.2.2 + 1)
theorem mdS_0 {M n i : Nat} {q : Nat × Nat × Nat} : mdS M n i 0 q = (0, q) := if_pos rfl
theorem mdS_word {M n i y j : Nat} {q : Nat × Nat × Nat} (h0 : y ≠ 0) (h : fnd (cc_ (lr (wid M n i))) y (wid M n i) = some j) : mdS M n i y q = (1, q.1 ^^^ 1 <<< (j * n + i), q.2.1, q.2.2 + 1) := by
  have hj := (fnd_lt h).1
  unfold mdS ba
  rw [if_neg h0, h]
  simp only [if_pos hj]
theorem mdS_chk {M n i y r : Nat} {q : Nat × Nat × Nat} (h0 : y ≠ 0) (h : fnd (cc_ (lr (wid M n i))) y (wid M n i) = none) (h2 : fnd (fun r => 2 ^ r) y (lr (wid M n i)) = some r) : mdS M n i y q = (1, q.1, q.2.1 ^^^ y <<< frm M n i, q.2.2 + 1) := by
  have hy : 2 ^ r = y := (fnd_lt h2).2
  unfold mdS ba
  rw [if_neg h0, h, h2]
  simp only [if_neg (show ¬ wid M n i + r < wid M n i by omega)]
  rw [show frm M n i + (wid M n i + r) - wid M n i = r + frm M n i by omega, Nat.one_shiftLeft, Nat.pow_add, ← hy, Nat.shiftLeft_eq]
theorem mdS_none {M n i y : Nat} {q : Nat × Nat × Nat} (h0 : y ≠ 0) (h : fnd (cc_ (lr (wid M n i))) y (wid M n i) = none) (h2 : fnd (fun r => 2 ^ r) y (lr (wid M n i)) = none) : mdS M n i y q = (2, q) := by
  unfold mdS ba
  rw [if_neg h0, h, h2]
theorem pcn_bit : ∀ n w p, p < n → w.testBit p = false → pcn n (w ^^^ 1 <<< p) = pcn n w + 1 := by
  intro n
  induction n with
  | zero => intro w p h; omega
  | succ n ih =>
    intro w p h hb
    have hx := Nat.xor_mod_two_pow (a := w) (b := 1 <<< p) (n := 1)
    have hd := Nat.xor_div_two_pow (a := w) (b := 1 <<< p) (n := 1)
    rw [Nat.pow_one] at hx hd
    show (w ^^^ 1 <<< p) % 2 + pcn n ((w ^^^ 1 <<< p) / 2) = w % 2 + pcn n (w / 2) + 1
    rw [hx, hd]
    cases p with
    | zero =>
      have h0 : w % 2 = 0 := by
        rw [Nat.testBit_zero] at hb
        have := of_decide_eq_false hb
        omega
      rw [h0]
      rw [show 1 <<< 0 % 2 = 1 from rfl, show 1 <<< 0 / 2 = 0 from rfl, Nat.xor_zero, Nat.zero_xor]
      omega
    | succ p =>
      have e1 : 1 <<< (p + 1) % 2 = 0 := by rw [Nat.shiftLeft_eq, Nat.pow_succ]; omega
      have e2 : 1 <<< (p + 1) / 2 = 1 <<< p := by rw [Nat.shiftLeft_eq, Nat.shiftLeft_eq, Nat.pow_succ]; omega
      rw [e1, e2, Nat.xor_zero, ih (w / 2) p (by omega) (by rw [← Nat.testBit_succ]; exact hb)]
      omega
theorem or_xor_bit {w p : Nat} (hb : w.testBit p = false) : w ||| 1 <<< p = w ^^^ 1 <<< p := by
  apply Nat.eq_of_testBit_eq
  intro i
  rw [Nat.testBit_or, Nat.testBit_xor, Nat.one_shiftLeft, Nat.testBit_two_pow]
  by_cases h : p = i
  · subst h; rw [hb, decide_eq_true rfl]; rfl
  · rw [decide_eq_false h]; simp
/-- the bits that the lanes before i have turned -/
theorem jS_apart {M n y : Nat} (hM : M ≤ 57) (hn : n = 1 ∨ n = 4) : ∀ i, i ≤ n → ∀ q, jS M n y i = some q → (∀ p, q.2.1.testBit p = true → p % n < i) ∧ q.2.2 < 2 ^ frm M n i ∧ q.1 ≤ 1 := by
  intro i
  induction i with
  | zero => intro _ q h; cases h; exact ⟨fun p hp => absurd (hp.symm.trans (Nat.zero_testBit p)) (by decide), Nat.two_pow_pos (frm M n 0), Nat.zero_le 1⟩
  | succ i ih =>
    intro hi q h
    cases e : jS M n y i with
    | none => rw [jS_none e (i + 1) (by omega)] at h; cases h
    | some q0 =>
      obtain ⟨h1, h2, h3⟩ := ih (by omega) q0 e
      rw [jS_step e] at h
      have hf : frm M n (i + 1) = frm M n i + lr (wid M n i) := rfl
      have hm : 2 ^ frm M n i ≤ 2 ^ frm M n (i + 1) := Nat.pow_le_pow_right (by decide) (by omega)
      unfold stS at h
      by_cases c : y >>> frm M n i % 2 ^ lr (wid M n i) = 0
      · rw [if_pos c] at h; cases h; exact ⟨fun p hp => by have := h1 p hp; omega, by omega, h3⟩
      · rw [if_neg c] at h
        cases e2 : ba (lr (wid M n i)) (wid M n i) (wid M n i) (y >>> frm M n i % 2 ^ lr (wid M n i)) with
        | none => rw [e2] at h; cases h
        | some b =>
          rw [e2] at h
          have hbi := ba_in e2
          by_cases c3 : b < wid M n i
          · simp only [if_pos c3] at h
            cases h
            refine ⟨fun p hp => ?_, by show q0.2.2 < _; omega, Nat.le_refl 1⟩
            have hp : (q0.2.1 ||| 1 <<< (b * n + i)).testBit p = true := hp
            rw [Nat.testBit_or, Nat.one_shiftLeft, Nat.testBit_two_pow, Bool.or_eq_true] at hp
            rcases hp with hp | hp
            · have := h1 p hp; omega
            · have hp := of_decide_eq_true hp
              rw [← hp, show (b * n + i) % n = i from by rw [Nat.mul_comm, Nat.mul_add_mod]; exact Nat.mod_eq_of_lt (by omega)]
              omega
          · simp only [if_neg c3] at h
            cases h
            refine ⟨fun p hp => by have := h1 p hp; omega, ?_, Nat.le_refl 1⟩
            show q0.2.2 ||| 1 <<< (frm M n i + b - wid M n i) < 2 ^ frm M n (i + 1)
            apply Nat.or_lt_two_pow (by omega)
            rw [Nat.one_shiftLeft]
            exact Nat.pow_lt_pow_right (by decide) (by omega)
/-- how the model stands behind i lanes: told of, or as the reading's picture says -/
def mJ (M n y v c i : Nat) (t a wv cv bv : Nat) : Prop := match jS M n y i with
  | none => t = 1
  | some q => t = 0 ∧ a = q.1 ∧ wv = v ^^^ q.2.1 ∧ cv = c ^^^ q.2.2 ∧ bv = pcn 64 q.2.1 + pcn 32 q.2.2
theorem lane_bit {M n i b p : Nat} (hi : i < n) {w : Nat} (h : ∀ p, w.testBit p = true → p % n < i) : w.testBit (b * n + i) = false := by
  cases e : w.testBit (b * n + i) with
  | false => rfl
  | true =>
    have := h _ e
    rw [Nat.mul_comm, Nat.mul_add_mod, Nat.mod_eq_of_lt hi] at this
    omega
theorem mJ_step {M n y v c i t a wv cv bv : Nat} (hM : M ≤ 57) (hn : n = 1 ∨ n = 4) (hi : i < n) (h : mJ M n y v c i t a wv cv bv) :
    mJ M n y v c (i + 1) (if t = 1 ∨ (mdS M n i (y >>> frm M n i % 2 ^ lr (wid M n i)) (wv, cv, bv)).1 = 2 then 1 else 0) (if a = 1 ∨ (mdS M n i (y >>> frm M n i % 2 ^ lr (wid M n i)) (wv, cv, bv)).1 = 1 then 1 else 0)
      (mdS M n i (y >>> frm M n i % 2 ^ lr (wid M n i)) (wv, cv, bv)).2.1 (mdS M n i (y >>> frm M n i % 2 ^ lr (wid M n i)) (wv, cv, bv)).2.2.1 (mdS M n i (y >>> frm M n i % 2 ^ lr (wid M n i)) (wv, cv, bv)).2.2.2 := by
  unfold mJ at h ⊢
  cases e : jS M n y i with
  | none => rw [e] at h; rw [jS_none e (i + 1) (by omega)]; exact if_pos (Or.inl h)
  | some q =>
    rw [e] at h
    obtain ⟨g1, g2, g3, g4, g5⟩ := h
    subst g1; subst g2; subst g3; subst g4
    obtain ⟨a1, a2, a3⟩ := jS_apart hM hn i (by omega) q e
    have hf9 := frm_lt (M := M) (n := n) (show i < 4 by omega)
    have hl7 := lr_le (wid M n i)
    rw [jS_step e]
    unfold stS
    generalize y >>> frm M n i % 2 ^ lr (wid M n i) = z
    by_cases c : z = 0
    · rw [if_pos c, c, mdS_0]
      refine ⟨if_neg (by simp), ?_, rfl, rfl, g5⟩
      rcases (show q.1 = 0 ∨ q.1 = 1 by omega) with h | h <;> simp [h]
    · rw [if_neg c]
      unfold mdS
      rw [if_neg c]
      cases e2 : ba (lr (wid M n i)) (wid M n i) (wid M n i) z with
      | none => exact if_pos (Or.inr rfl)
      | some b =>
        have hbi := ba_in e2
        by_cases c3 : b < wid M n i
        · simp only [if_pos c3]
          have hb := lane_bit (b := b) (M := M) (p := 0) hi a1
          have hat := wid_at hn hi c3
          refine ⟨by simp, by simp, ?_, by simp, ?_⟩
          · rw [or_xor_bit hb, Nat.xor_assoc]
          · rw [or_xor_bit hb, pcn_bit 64 _ _ (by omega) hb, g5]; omega
        · simp only [if_neg c3]
          have hb : q.2.2.testBit (frm M n i + b - wid M n i) = false := Nat.testBit_lt_two_pow (Nat.lt_of_lt_of_le a2 (Nat.pow_le_pow_right (by decide) (by omega)))
          refine ⟨by simp, by simp, by simp, ?_, ?_⟩
          · rw [or_xor_bit hb, Nat.xor_assoc]
          · rw [or_xor_bit hb, pcn_bit 32 _ _ (by omega) hb, g5]; omega
theorem tb_0' {b : Bool} (h : (if b then 1 else 0) = 0) : b = false := by cases b with | false => rfl | true => cases h
theorem tb_1' {b : Bool} (h : (if b then 1 else 0) ≠ 0) : b = true := by cases b with | false => exact absurd rfl h | true => rfl
