/-- a reading's answer and what it turns, by kind -/
def jd (kd M y : Nat) : Nat × Nat × Nat := if kd = 0 then jdS M 1 y else if kd = 1 then jdP y else if kd = 2 then jdN M y else jdS M 4 y
/-- the column of a bit, the greatest row sum, by kind -/
def colK (kd M j : Nat) : Nat := if kd = 0 then cc_ (lr (wid M 1 (j % 1))) (j / 1) else if kd = 1 then mkP (min M 4) j else cc_ (lr (wid M 4 (j % 4))) (j / 4)
/-- the mark of a bit of the stored one -/
def mka (kd M j : Nat) : Nat := if j < M then mrk kd M j else 1 <<< (j - M)
def grsK (kd M : Nat) : Nat := if kd = 0 then grs M 1 1 else if kd = 1 then 0 else if kd = 2 then 0 else grs M 4 4
theorem ckb_pow (kd M : Nat) : 2 ^ ckb kd M ≤ 2 ^ 28 := Nat.pow_le_pow_right (by decide) (ckb_le kd M)
