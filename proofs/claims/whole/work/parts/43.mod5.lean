theorem i32_sac (a b c : Int32) : a - b + c = a + c - b := by
  rw [Int32.sub_eq_add_neg, Int32.sub_eq_add_neg, Int32.add_assoc, Int32.add_comm (-b) c, ← Int32.add_assoc]
theorem kd_and (x : Int32) : x &&& nI 3 = nI (kdOf x) := by
  obtain ⟨n, hn, rfl⟩ := xn_of x
  rw [xn_and]
  congr 1
  have e : n &&& 3 = n % 4 := Nat.and_two_pow_sub_one_eq_mod (x := n) (n := 2)
  rw [e]
  unfold kdOf
  have h : (nI n).toInt = (BitVec.ofNat 32 n).toInt := rfl
  rw [h, BitVec.toInt_eq_toNat_cond, BitVec.toNat_ofNat, Nat.mod_eq_of_lt hn]
  split <;> omega
theorem rem57_0 {x : Int64} (q1 : -2 ^ 40 ≤ x.toInt) (q2 : x.toInt < 2 ^ 40) (h : lN 0 ≤ x - x / lN 57 * lN 57) : x - x / lN 57 * lN 57 = lN (x.toInt % 57).toNat := by
  have hrm := rem57 q1 q2
  have e0 : (lN 0).toInt = 0 := by decide
  rw [Int64.le_iff_toInt_le, hrm, e0] at h
  apply lN_of
  · rw [hrm]
    by_cases h0 : 0 ≤ x.toInt
    · rw [Int.tmod_eq_emod_of_nonneg h0]; omega
    · have h9 : x.toInt.tmod 57 = 0 := by
        have h8 := Int.tmod_nonneg 57 (show 0 ≤ -x.toInt by omega)
        rw [Int.neg_tmod] at h8
        omega
      rw [h9, fm_zero h9]; rfl
  · omega
theorem rem57_1 {x : Int64} (q1 : -2 ^ 40 ≤ x.toInt) (q2 : x.toInt < 2 ^ 40) (h : ¬ lN 0 ≤ x - x / lN 57 * lN 57) : x - x / lN 57 * lN 57 + lN 57 = lN (x.toInt % 57).toNat := by
  have hrm := rem57 q1 q2
  have e0 : (lN 0).toInt = 0 := by decide
  have e57 : (lN 57).toInt = 57 := by decide
  have hb1 : x.toInt.tmod 57 < 57 := Int.tmod_lt_of_pos _ (by decide)
  have hb2 : -57 < x.toInt.tmod 57 := Int.lt_tmod_of_pos _ (by decide)
  rw [Int64.le_iff_toInt_le, hrm, e0] at h
  apply lN_of
  · rw [Int64.toInt_add, hrm, e57, Int.bmod_eq_of_le_mul_two (by omega) (by omega), fm_neg (by decide) ?_ (by omega)]
    · omega
    · rcases Int.lt_or_le x.toInt 0 with q | q
      · exact q
      · exact absurd (Int.tmod_nonneg 57 q) h
  · omega
/-- the model's tables, as its constructor leaves them -/
def MWF (kd M : Nat) (fw fc ff fco : Nat → Int32) : Prop := (kd = 0 ∨ kd = 3) → (∀ k, k < nk kd → fw k = nI (wid M (nk kd) k) ∧ fc k = nI (lr (wid M (nk kd) k)) ∧ ff k = nI (frm M (nk kd) k)) ∧ ∀ i j, i < nk kd → j < wid M (nk kd) i → fco (57 * i + j) = nI (cc_ (lr (wid M (nk kd) i)) j)
theorem cof_keep {h : Nat → Int32} {R i b k : Nat} (hk : ¬ (57 * i ≤ k ∧ k < 57 * i + b)) : cof h R i b k = h k := if_neg hk
theorem cof_in {h : Nat → Int32} {R i b j : Nat} (hj : j < b) : cof h R i b (57 * i + j) = nI (cc_ R j) := by
  unfold cof
  rw [if_pos (by omega), show 57 * i + j - 57 * i = j by omega]
theorem lr_0' : lr 0 = 0 := rfl
theorem fc_skip {M n0 i : Nat} (h : wid M n0 i = 0) : (fun j => nI (if j < i then lr (wid M n0 j) else 0)) = fun j => nI (if j < i + 1 then lr (wid M n0 j) else 0) := by
  funext j
  by_cases e : j = i
  · subst e; rw [if_neg (Nat.lt_irrefl j), if_pos (Nat.lt_succ_self j), h]; rfl
  · by_cases q : j < i
    · rw [if_pos q, if_pos (by omega)]
    · rw [if_neg q, if_neg (by omega)]
theorem grs_skip {M n0 i : Nat} (h : wid M n0 i = 0) : grs M n0 i = grs M n0 (i + 1) := by
  show _ = max (grs M n0 i) (gs (rsf (lr (wid M n0 i)) (wid M n0 i)) 0 (lr (wid M n0 i)))
  rw [h]
  exact (Nat.max_eq_left (Nat.zero_le _)).symm
theorem grs_take (M n0 i : Nat) : max (grs M n0 i) (gs (rsf (lr (wid M n0 i)) (wid M n0 i)) 0 7) = grs M n0 (i + 1) := by
  show _ = max (grs M n0 i) (gs (rsf (lr (wid M n0 i)) (wid M n0 i)) 0 (lr (wid M n0 i)))
  rw [gs_pad 7 (lr_le _) (fun j hj => rs_out hj _)]
