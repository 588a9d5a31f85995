/-! the model: shifts, weights, columns, sixteen elements -/
theorem xn_sshr {a k : Nat} (ha : a < 2 ^ 31) (hk : k < 32) : nI a >>> (nI k &&& 31) = nI (a >>> k) := by
  apply Int32.toBitVec_inj.mp
  rw [Int32.toBitVec_shiftRight]
  show (BitVec.ofNat 32 a).sshiftRight' ((nI k &&& 31).toBitVec.smod 32) = BitVec.ofNat 32 (a >>> k)
  have hm : (BitVec.ofNat 32 a).msb = false := by
    rw [BitVec.msb_eq_decide, BitVec.toNat_ofNat, Nat.mod_eq_of_lt (by omega)]
    simp; omega
  show (BitVec.ofNat 32 a).sshiftRight ((nI k &&& 31).toBitVec.smod 32).toNat = _
  rw [xn_sc k hk, BitVec.sshiftRight_eq_of_msb_false hm]
  apply BitVec.eq_of_toNat_eq
  rw [BitVec.toNat_ushiftRight, BitVec.toNat_ofNat, BitVec.toNat_ofNat, Nat.mod_eq_of_lt (by omega), Nat.mod_eq_of_lt (Nat.lt_of_le_of_lt (Nat.shiftRight_le a k) (by omega))]
theorem xl_sshr {a k : Nat} (ha : a < 2 ^ 63) (hk : k < 64) : lN a >>> ((nI k).toInt64 &&& 63) = lN (a >>> k) := by
  rw [xl_c k hk]
  apply Int64.toBitVec_inj.mp
  rw [Int64.toBitVec_shiftRight]
  show (BitVec.ofNat 64 a).sshiftRight ((BitVec.ofNat 64 k).smod 64).toNat = BitVec.ofNat 64 (a >>> k)
  have hm : (BitVec.ofNat 64 a).msb = false := by
    rw [BitVec.msb_eq_decide, BitVec.toNat_ofNat, Nat.mod_eq_of_lt (by omega)]
    simp; omega
  rw [xl_sm k hk, BitVec.sshiftRight_eq_of_msb_false hm, BitVec.toNat_ofNat, Nat.mod_eq_of_lt (show k < 2 ^ 64 by omega)]
  apply BitVec.eq_of_toNat_eq
  rw [BitVec.toNat_ushiftRight, BitVec.toNat_ofNat, BitVec.toNat_ofNat, Nat.mod_eq_of_lt (by omega), Nat.mod_eq_of_lt (Nat.lt_of_le_of_lt (Nat.shiftRight_le a k) (by omega))]
theorem xl_bit {a k : Nat} (ha : a < 2 ^ 64) (hk : k < 64) : (lN a >>> ((nI k).toInt64 &&& 63)) &&& lN 1 = lN (a >>> k % 2) := by
  rw [xl_c k hk]
  apply Int64.toBitVec_inj.mp
  rw [Int64.toBitVec_and, Int64.toBitVec_shiftRight]
  show (BitVec.ofNat 64 a).sshiftRight ((BitVec.ofNat 64 k).smod 64).toNat &&& 1#64 = BitVec.ofNat 64 (a >>> k % 2)
  rw [xl_sm k hk, BitVec.toNat_ofNat, Nat.mod_eq_of_lt (show k < 2 ^ 64 by omega)]
  have h0 : ((BitVec.ofNat 64 a).sshiftRight k).getLsbD 0 = a.testBit k := by
    rw [BitVec.getLsbD_sshiftRight, if_pos (by omega : k + 0 < 64), BitVec.getLsbD_ofNat, Nat.add_zero, decide_eq_true hk]
    simp
  apply BitVec.eq_of_getLsbD_eq
  intro i hi
  rw [BitVec.getLsbD_and]
  rcases Nat.eq_zero_or_pos i with rfl | hp
  · rw [h0, xs_bit]
    rcases Nat.mod_two_eq_zero_or_one (a >>> k) with h | h <;> rw [h] <;> decide
  · have h1 : (1#64).getLsbD i = false := by
      rw [BitVec.getLsbD_one]
      simp; omega
    rw [h1, Bool.and_false]
    rcases Nat.mod_two_eq_zero_or_one (a >>> k) with h | h <;> rw [h]
    · exact (BitVec.getLsbD_zero).symm
    · exact h1.symm
/-- weights, bit by bit -/
def wtl (v : Nat) : Nat → Nat
  | 0 => 0
  | k + 1 => wtl v k + v >>> k % 2
theorem wtl_s (v : Nat) : ∀ n, wtl v (n + 1) = v % 2 + wtl (v / 2) n := by
  intro n
  induction n with
  | zero => show 0 + v >>> 0 % 2 = v % 2 + 0; rw [Nat.shiftRight_zero]; omega
  | succ n ih =>
    show wtl v (n + 1) + v >>> (n + 1) % 2 = v % 2 + (wtl (v / 2) n + (v / 2) >>> n % 2)
    rw [ih, show v >>> (n + 1) = (v / 2) >>> n from by rw [Nat.shiftRight_eq_div_pow, Nat.shiftRight_eq_div_pow, Nat.pow_succ, Nat.mul_comm, Nat.div_div_eq_div_mul]]
    omega
theorem wtl_eq : ∀ n v, wtl v n = pcn n v := by
  intro n
  induction n with
  | zero => intro v; rfl
  | succ n ih => intro v; rw [wtl_s, ih]; rfl
theorem pc7 : ∀ c, c < 128 → pcn 64 c = pcn 7 c := by decide +kernel
theorem pc7_le : ∀ c, c < 128 → pcn 7 c ≤ 7 := fun c _ => pcn_le 7 c
/-- the model's choice: the best of the candidates below c -/
def us (R b c : Nat) : Bool := (fnd (cc_ R) c b).isSome
def mb (R b : Nat) : Nat → Nat
  | 0 => 0
  | c + 1 => match mb R b c with
    | 0 => if (!us R b c && decide (2 < pcn 7 c) && pcn 7 c % 2 == 1) = true then c else 0
    | t + 1 => if (!us R b c && decide (2 < pcn 7 c) && pcn 7 c % 2 == 1 && (decide (pcn 7 c < pcn 7 (t + 1)) || (pcn 7 c == pcn 7 (t + 1) && decide (gs (rsf R b) c 7 < gs (rsf R b) (t + 1) 7)))) = true then c else t + 1
theorem mb4 : (List.range 4).all (fun k => mb 4 k 16 == cc_ 4 k) = true := by decide +kernel
theorem mb5 : (List.range 11).all (fun k => mb 5 k 32 == cc_ 5 k) = true := by decide +kernel
theorem mb6 : (List.range 26).all (fun k => mb 6 k 64 == cc_ 6 k) = true := by decide +kernel
theorem mb7 : (List.range 57).all (fun k => mb 7 k 128 == cc_ 7 k) = true := by decide +kernel
theorem mb_ok {R k : Nat} (hR : R = 4 ∨ R = 5 ∨ R = 6 ∨ R = 7) (hk : k < (ct R).length) : mb R k (2 ^ R) = cc_ R k := by
  rcases hR with rfl | rfl | rfl | rfl
  · have := List.all_eq_true.mp mb4 k (List.mem_range.mpr hk); simpa using this
  · have := List.all_eq_true.mp mb5 k (List.mem_range.mpr hk); simpa using this
  · have := List.all_eq_true.mp mb6 k (List.mem_range.mpr hk); simpa using this
  · have := List.all_eq_true.mp mb7 k (List.mem_range.mpr hk); simpa using this
theorem mb_le (R b : Nat) : ∀ c, mb R b c ≤ c := by
  intro c
  induction c with
  | zero => exact Nat.le_refl 0
  | succ c ih =>
    show (match mb R b c with | 0 => _ | t + 1 => _) ≤ c + 1
    cases e : mb R b c with
    | zero => simp only []; split <;> omega
    | succ t => rw [e] at ih; simp only []; split <;> omega
/-- a candidate that may be chosen -/
def may (R b c : Nat) : Prop := us R b c = false ∧ 2 < pcn 7 c ∧ pcn 7 c % 2 = 1
def btr (R b c t : Nat) : Prop := t = 0 ∨ pcn 7 c < pcn 7 t ∨ (pcn 7 c = pcn 7 t ∧ gs (rsf R b) c 7 < gs (rsf R b) t 7)
theorem mb_no {R b c : Nat} (h : ¬ (may R b c ∧ btr R b c (mb R b c))) : mb R b (c + 1) = mb R b c := by
  show (match mb R b c with | 0 => _ | t + 1 => _) = mb R b c
  cases e : mb R b c with
  | zero =>
    rw [e] at h
    simp only []
    rw [if_neg]
    intro q
    simp only [Bool.and_eq_true, Bool.not_eq_true', decide_eq_true_eq, beq_iff_eq] at q
    exact h ⟨⟨q.1.1, q.1.2, q.2⟩, Or.inl rfl⟩
  | succ t =>
    rw [e] at h
    simp only []
    rw [if_neg]
    intro q
    simp only [Bool.and_eq_true, Bool.or_eq_true, Bool.not_eq_true', decide_eq_true_eq, beq_iff_eq] at q
    exact h ⟨⟨q.1.1.1, q.1.1.2, q.1.2⟩, Or.inr q.2⟩
theorem mb_yes {R b c : Nat} (h : may R b c) (h2 : btr R b c (mb R b c)) : mb R b (c + 1) = c := by
  show (match mb R b c with | 0 => _ | t + 1 => _) = c
  cases e : mb R b c with
  | zero =>
    simp only []
    rw [if_pos]
    simp only [Bool.and_eq_true, Bool.not_eq_true', decide_eq_true_eq, beq_iff_eq]
    exact ⟨⟨h.1, h.2.1⟩, h.2.2⟩
  | succ t =>
    rw [e] at h2
    simp only []
    rw [if_pos]
    simp only [Bool.and_eq_true, Bool.or_eq_true, Bool.not_eq_true', decide_eq_true_eq, beq_iff_eq]
    refine ⟨⟨⟨h.1, h.2.1⟩, h.2.2⟩, ?_⟩
    rcases h2 with q | q | q
    · cases q
    · exact Or.inl q
    · exact Or.inr q
theorem mb_0 (R b : Nat) : mb R b 1 = 0 := by
  show (if (!us R b 0 && decide (2 < pcn 7 0) && pcn 7 0 % 2 == 1) = true then 0 else 0) = 0
  split <;> rfl
section LZ
variable {p : Program} {l : Launch} {e : Env} {R : Room} {s : State} {m : MethodId} {args : Array Value} {below : List Frame} {meth : Method} {c : Code} {H : Heap} {locs : List Loc} {cells slots : Nat} {Q : State → Prop}
variable {cc : ByteArray} {pc : Nat} {ls : Array Slot} {rest : List Value} {D : va_G} {A : Nat → Prop} {a : Nat} {tys : List (ClassId × FieldType)} {ws : va_W} {H0 : Heap}
theorem lx_zald (hx : p.tables.exec = Jvm.exec) (hb : c.code = cc) (hK : va_K D vwCl tys s) (hP : va_P D vwCl ws H) (q0 t0 : Nat) {cA : ClassId} {n : Nat} {f : Nat → Int32} (ha : ws[q0]? = some (a, .inl (cA, n, .inl f))) (ht : tys[t0]? = some (cA, .boolean)) {j : Nat} (hj : j < n) (hn : n < 2 ^ 31) {v : Int32} (hv : f j = v) (hd : decode cc pc = .ok (.baload, 1)) (k : W p l e R s m args below meth c H locs cells slots Q (F0 m (pc + 1) ls (.int v :: rest))) : W p l e R s m args below meth c H locs cells slots Q (F0 m (pc) ls (.int (nI j) :: .ref a :: rest)) := by
  subst hv
  refine va_zald hx hb hK hP q0 t0 ha ht (vp_in_nI hj hn) hd ?_
  rw [nI_clamp (by omega)]
  exact k
theorem lx_zast (hx : p.tables.exec = Jvm.exec) (hb : c.code = cc) (hK : va_K D vwCl tys s) (hP : va_P D vwCl ws H) (hD : va_D A ws) (hS : va_S A H0 H locs) (q0 t0 : Nat) {cA : ClassId} {n : Nat} {f f' : Nat → Int32} (ha : ws[q0]? = some (a, .inl (cA, n, .inl f))) (ht : tys[t0]? = some (cA, .boolean)) {j : Nat} {x : Int32} (hj : j < n) (hn : n < 2 ^ 31) (hf : upd f j (vp_nar .boolean x) = f') (hd : decode cc pc = .ok (.bastore, 1)) (kk : ∀ (H1 : Heap) (locs1 : List Loc), va_P D vwCl (ws.set q0 (a, .inl (cA, n, .inl f'))) H1 → va_D A (ws.set q0 (a, .inl (cA, n, .inl f'))) → va_S A H0 H1 locs1 → W p l e R s m args below meth c H1 locs1 cells slots Q (F0 m (pc + 1) ls (rest))) : W p l e R s m args below meth c H locs cells slots Q (F0 m (pc) ls (.int x :: .int (nI j) :: .ref a :: rest)) := by
  subst hf
  refine va_zast hx hb hK hP hD hS q0 t0 ha ht (vp_in_nI hj hn) hd (fun H1 locs1 h1 h2 h3 => ?_)
  rw [nI_clamp (by omega)] at h1 h2
  exact kk H1 locs1 h1 h2 h3
end LZ
/-- times, over sixteen elements, as the model counts -/
def tA (a b : Nat) : Nat → Nat
  | 0 => 0
  | k + 1 => tA a b k ^^^ (if b >>> k % 2 = 1 then a <<< k else 0)
def tB (s : Nat) : Nat → Nat
  | 0 => s
  | d + 1 => tB s d ^^^ (if tB s d >>> (6 - d) % 2 = 1 then 19 <<< (2 - d) else 0)
def tms (a b : Nat) : Nat := tB (tA a b 4) 3
theorem tA_lt : ∀ a, a < 16 → ∀ b, b < 16 → ∀ k, k < 5 → tA a b k < 128 := by decide +kernel
theorem tB_lt : ∀ s, s < 128 → ∀ d, d < 4 → tB s d < 128 := by decide +kernel
theorem tms_lt : ∀ a, a < 16 → ∀ b, b < 16 → tms a b < 16 := by decide +kernel
theorem tms_2 : ∀ a, a < 16 → tms a 2 = tg a := by decide +kernel
theorem tms_rz : ∀ a, a < 16 → ∀ j, j < 31 → tms a (rz 1 j) = rz a j := by decide +kernel
theorem or_xor_dec : ∀ n, n < 16 → ∀ j, j < 15 → (n ||| rz n j <<< 4) ||| rz n (2 * j) <<< 8 = ((((if n.testBit 0 then mkN (4 * j) else 0) ^^^ (if n.testBit 1 then mkN (4 * j + 1) else 0)) ^^^ (if n.testBit 2 then mkN (4 * j + 2) else 0)) ^^^ (if n.testBit 3 then mkN (4 * j + 3) else 0)) := by decide +kernel
theorem testBit_nib (x j b : Nat) (hb : b < 4) : (x >>> (4 * j) % 16).testBit b = x.testBit (4 * j + b) := by
  rw [show (16 : Nat) = 2 ^ 4 from rfl, Nat.testBit_mod_two_pow, decide_eq_true hb, Bool.true_and, Nat.testBit_shiftRight]
theorem xs_nib (x j : Nat) (hj : j < 15) : xs mkN x (4 * (j + 1)) = xs mkN x (4 * j) ^^^ ((x >>> (4 * j) % 16 ||| rz (x >>> (4 * j) % 16) j <<< 4) ||| rz (x >>> (4 * j) % 16) (2 * j) <<< 8) := by
  rw [or_xor_dec (x >>> (4 * j) % 16) (Nat.mod_lt _ (by decide)) j hj]
  rw [testBit_nib x j 0 (by decide), testBit_nib x j 1 (by decide), testBit_nib x j 2 (by decide), testBit_nib x j 3 (by decide)]
  show (((xs mkN x (4 * j) ^^^ _) ^^^ _) ^^^ _) ^^^ _ = _
  simp only [Nat.xor_assoc]
  rfl
theorem xs_nibs {x M : Nat} : xs mkN (x % 2 ^ M) (4 * ((M + 3) / 4)) = xs mkN x M := by
  rw [xs_stop (k := M) (by rw [Nat.shiftRight_eq_div_pow]; exact Nat.div_eq_of_lt (Nat.mod_lt _ (Nat.two_pow_pos M))) _ (by omega)]
  exact xs_mod M (Nat.le_refl M)
theorem xs_ext {f h : Nat → Nat} {x : Nat} : ∀ n, (∀ k, k < n → f k = h k) → xs f x n = xs h x n := by
  intro n
  induction n with
  | zero => intro _; rfl
  | succ n ih =>
    intro q
    show xs f x n ^^^ (if x.testBit n then f n else 0) = xs h x n ^^^ (if x.testBit n then h n else 0)
    rw [ih (fun k hk => q k (by omega)), q n (by omega)]
/-- how many lanes a kind has -/
def nk (kd : Nat) : Nat := if kd = 3 then 4 else 1
theorem inBb_hi {n : Nat} {v : Int32} (hn : n < 2 ^ 31) (h1 : 0 < n) (h : nI (n - 1) < v) : inBb n v = 0 := by
  unfold inBb
  by_cases h0 : v < 0
  · rw [if_pos h0]
  · obtain ⟨k, hk, rfl⟩ := i32_nn h0
    have := (nI_ltI (by omega) hk).mp h
    rw [if_neg h0, if_pos ((nI_leI hn hk).mpr (by omega))]
theorem inBb_lo {n : Nat} {v : Int32} (hn : n < 2 ^ 31) (h1 : 0 < n) (h0 : ¬ v < nI 0) (h : ¬ nI (n - 1) < v) : inBb n v = 1 := by
  rw [nI_0] at h0
  obtain ⟨k, hk, rfl⟩ := i32_nn h0
  have h2 : k < n := by
    rcases Nat.lt_or_ge k n with q | q
    · exact q
    · exact absurd ((nI_ltI (by omega) hk).mpr (by omega)) h
  exact inBb_nI hn h2
theorem nI_dec (k : Nat) : nI (k + 1) + (-1) = nI k := by
  rw [← nI_1 k, Int32.add_assoc, show (1 : Int32) + -1 = 0 from by decide, Int32.add_zero]
