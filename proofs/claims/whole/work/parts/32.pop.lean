/-- how many of the lowest n bits are set -/
def pcn : Nat → Nat → Nat
  | 0, _ => 0
  | n + 1, v => v % 2 + pcn n (v / 2)
def mk8 (c : Nat) : Nat → Nat
  | 0 => 0
  | n + 1 => c + 256 * mk8 c n
theorem and_split {a A k B : Nat} (ha : a < 256) (hk : k < 256) : (a + 256 * A) &&& (k + 256 * B) = (a &&& k) + 256 * (A &&& B) := by
  have h1 := Nat.and_mod_two_pow (a := a + 256 * A) (b := k + 256 * B) (n := 8)
  have h2 := Nat.and_div_two_pow (a := a + 256 * A) (b := k + 256 * B) (n := 8)
  rw [show (2 : Nat) ^ 8 = 256 from rfl] at h1 h2
  rw [show (a + 256 * A) % 256 = a by omega, show (k + 256 * B) % 256 = k by omega] at h1
  rw [show (a + 256 * A) / 256 = A by omega, show (k + 256 * B) / 256 = B by omega] at h2
  have h3 := Nat.mod_add_div ((a + 256 * A) &&& (k + 256 * B)) 256
  rw [h1, h2] at h3
  exact h3.symm
def f1 (n v : Nat) : Nat := v - (v / 2 &&& mk8 85 n)
def f2 (n v : Nat) : Nat := (v &&& mk8 51 n) + (v / 4 &&& mk8 51 n)
def f3 (n v : Nat) : Nat := (v + v / 16) &&& mk8 15 n
def g1 (b : Nat) : Nat := b - (b / 2 &&& 85)
def g2 (b : Nat) : Nat := (b &&& 51) + (b / 4 &&& 51)
def g3 (b : Nat) : Nat := (b + b / 16) &&& 15
def pb (b : Nat) : Nat := g3 (g2 (g1 b))
theorem pb_dec : ∀ b, b < 256 → g1 b < 256 ∧ g2 (g1 b) ≤ 68 ∧ g2 (g1 b) % 16 ≤ 4 ∧ pb b = pcn 8 b ∧ pb b ≤ 8 := by decide +kernel
theorem k1_dec : ∀ b, b < 256 → ∀ t, t < 2 → (b / 2 + 128 * t) &&& 85 = b / 2 &&& 85 := by decide +kernel
theorem k2_dec : ∀ b, b < 256 → ∀ t, t < 4 → (b / 4 + 64 * t) &&& 51 = b / 4 &&& 51 := by decide +kernel
theorem k3_dec : ∀ b, b < 69 → ∀ t, t < 16 → (b + b / 16 + 16 * t) &&& 15 = (b + b / 16) &&& 15 := by decide +kernel
theorem f1_step (n : Nat) {b u : Nat} (hb : b < 256) : f1 (n + 1) (b + 256 * u) = g1 b + 256 * f1 n u := by
  unfold f1 g1
  rw [show (b + 256 * u) / 2 = (b / 2 + 128 * (u % 2)) + 256 * (u / 2) by omega, show mk8 85 (n + 1) = 85 + 256 * mk8 85 n from rfl, and_split (by omega) (by decide), k1_dec b hb (u % 2) (by omega)]
  have h1 : b / 2 &&& 85 ≤ b / 2 := Nat.and_le_left
  have h2 : u / 2 &&& mk8 85 n ≤ u / 2 := Nat.and_le_left
  omega
theorem f2_step (n : Nat) {b u : Nat} (hb : b < 256) : f2 (n + 1) (b + 256 * u) = g2 b + 256 * f2 n u := by
  unfold f2 g2
  rw [show (b + 256 * u) / 4 = (b / 4 + 64 * (u % 4)) + 256 * (u / 4) by omega, show mk8 51 (n + 1) = 51 + 256 * mk8 51 n from rfl, and_split (by omega) (by decide), and_split (by omega) (by decide), k2_dec b hb (u % 4) (by omega)]
  omega
theorem f3_step (n : Nat) {b u : Nat} (hb : b < 69) (hu : u % 16 ≤ 4) : f3 (n + 1) (b + 256 * u) = g3 b + 256 * f3 n u := by
  unfold f3 g3
  rw [show b + 256 * u + (b + 256 * u) / 16 = (b + b / 16 + 16 * (u % 16)) + 256 * (u + u / 16) by omega, show mk8 15 (n + 1) = 15 + 256 * mk8 15 n from rfl, and_split (by omega) (by decide), k3_dec b hb (u % 16) (by omega)]
/-- the bytes' counts, each in its byte -/
def pbs : Nat → Nat → Nat
  | 0, _ => 0
  | n + 1, v => pb (v % 256) + 256 * pbs n (v / 256)
theorem f_all : ∀ n v, v < 256 ^ n → f2 n (f1 n v) % 16 ≤ 4 ∧ f3 n (f2 n (f1 n v)) = pbs n v := by
  intro n
  induction n with
  | zero =>
    intro v hv
    obtain rfl : v = 0 := by rw [Nat.pow_zero] at hv; omega
    decide
  | succ n ih =>
    intro v hv
    have hd : v / 256 < 256 ^ n := by rw [Nat.pow_succ] at hv; omega
    obtain ⟨h1, h2⟩ := ih (v / 256) hd
    have hb : v % 256 < 256 := Nat.mod_lt _ (by decide)
    obtain ⟨q1, q2, q3, -, -⟩ := pb_dec (v % 256) hb
    have hv2 : f2 (n + 1) (f1 (n + 1) v) = g2 (g1 (v % 256)) + 256 * f2 n (f1 n (v / 256)) := by
      have e : f1 (n + 1) v = g1 (v % 256) + 256 * f1 n (v / 256) := by
        conv => lhs; rw [show v = v % 256 + 256 * (v / 256) by omega]
        exact f1_step n hb
      rw [e, f2_step n q1]
    rw [hv2]
    refine ⟨by omega, ?_⟩
    rw [f3_step n (by omega) h1, h2]
    rfl
theorem pcn_add (k v : Nat) : pcn (k + 8) v = pcn 8 (v % 256) + pcn k (v / 256) := by
  show v % 2 + (v / 2 % 2 + (v / 2 / 2 % 2 + (v / 2 / 2 / 2 % 2 + (v / 2 / 2 / 2 / 2 % 2 + (v / 2 / 2 / 2 / 2 / 2 % 2 + (v / 2 / 2 / 2 / 2 / 2 / 2 % 2 + (v / 2 / 2 / 2 / 2 / 2 / 2 / 2 % 2 + pcn k (v / 2 / 2 / 2 / 2 / 2 / 2 / 2 / 2)))))))) =
    (v % 256 % 2 + (v % 256 / 2 % 2 + (v % 256 / 2 / 2 % 2 + (v % 256 / 2 / 2 / 2 % 2 + (v % 256 / 2 / 2 / 2 / 2 % 2 + (v % 256 / 2 / 2 / 2 / 2 / 2 % 2 + (v % 256 / 2 / 2 / 2 / 2 / 2 / 2 % 2 + (v % 256 / 2 / 2 / 2 / 2 / 2 / 2 / 2 % 2 + 0)))))))) + pcn k (v / 256)
  rw [show v / 2 / 2 / 2 / 2 / 2 / 2 / 2 / 2 = v / 256 by omega]
  omega
theorem pb_at (v : Nat) : pb (v % 256) = pcn 8 (v % 256) ∧ pb (v % 256) ≤ 8 := (pb_dec (v % 256) (Nat.mod_lt _ (by decide))).2.2.2
def bl1 (a : Nat) : Nat := a - (a >>> 1 &&& 6148914691236517205)
def bl2 (a : Nat) : Nat := (bl1 a &&& 3689348814741910323) + (bl1 a >>> 2 &&& 3689348814741910323)
def bl3 (a : Nat) : Nat := (bl2 a + bl2 a >>> 4) &&& 1085102592571150095
def bl4 (a : Nat) : Nat := bl3 a + bl3 a >>> 8
def bl5 (a : Nat) : Nat := bl4 a + bl4 a >>> 16
def bl6 (a : Nat) : Nat := bl5 a + bl5 a >>> 32
theorem bl1_le (a : Nat) : a >>> 1 &&& 6148914691236517205 ≤ a := Nat.le_trans Nat.and_le_left (Nat.shiftRight_le a 1)
theorem bl1_lt {a : Nat} (h : a < 2 ^ 64) : bl1 a < 2 ^ 64 := Nat.lt_of_le_of_lt (Nat.sub_le _ _) h
theorem bl2_lt (a : Nat) : bl2 a < 2 ^ 63 := by
  have h1 : bl1 a &&& 3689348814741910323 ≤ 3689348814741910323 := Nat.and_le_right
  have h2 : bl1 a >>> 2 &&& 3689348814741910323 ≤ 3689348814741910323 := Nat.and_le_right
  unfold bl2; omega
theorem bl3_lt (a : Nat) : bl3 a < 2 ^ 60 := by
  have h1 : bl3 a ≤ 1085102592571150095 := Nat.and_le_right
  omega
theorem bl4_lt (a : Nat) : bl4 a < 2 ^ 61 := by
  have h1 := bl3_lt a
  have h2 : bl3 a >>> 8 ≤ bl3 a := Nat.shiftRight_le _ _
  unfold bl4; omega
theorem bl5_lt (a : Nat) : bl5 a < 2 ^ 62 := by
  have h1 := bl4_lt a
  have h2 : bl4 a >>> 16 ≤ bl4 a := Nat.shiftRight_le _ _
  unfold bl5; omega
theorem bl3_eq {a : Nat} (h : a < 2 ^ 64) : bl3 a = pbs 8 a := by
  rw [← (f_all 8 a (by rw [show (256 : Nat) ^ 8 = 2 ^ 64 from by decide]; exact h)).2]
  unfold bl3 bl2 bl1 f3 f2 f1
  rw [show mk8 85 8 = 6148914691236517205 from by decide, show mk8 51 8 = 3689348814741910323 from by decide, show mk8 15 8 = 1085102592571150095 from by decide]
  simp only [Nat.shiftRight_eq_div_pow, show (2 : Nat) ^ 1 = 2 from rfl, show (2 : Nat) ^ 2 = 4 from rfl, show (2 : Nat) ^ 4 = 16 from rfl]
theorem bc64_eq {a : Nat} (h : a < 2 ^ 64) : bl6 a &&& 127 = pcn 64 a := by
  have e : bl6 a &&& 127 = bl6 a % 128 := Nat.and_two_pow_sub_one_eq_mod (x := bl6 a) (n := 7)
  rw [e]
  unfold bl6 bl5 bl4
  rw [bl3_eq h]
  simp only [Nat.shiftRight_eq_div_pow, show (2 : Nat) ^ 8 = 256 from rfl, show (2 : Nat) ^ 16 = 65536 from rfl, show (2 : Nat) ^ 32 = 4294967296 from rfl]
  rw [show pcn 64 (a) = pcn 8 ((a) % 256) + pcn 56 ((a) / 256) from pcn_add 56 (a), show pcn 56 (a / 256) = pcn 8 ((a / 256) % 256) + pcn 48 ((a / 256) / 256) from pcn_add 48 (a / 256), show pcn 48 (a / 256 / 256) = pcn 8 ((a / 256 / 256) % 256) + pcn 40 ((a / 256 / 256) / 256) from pcn_add 40 (a / 256 / 256), show pcn 40 (a / 256 / 256 / 256) = pcn 8 ((a / 256 / 256 / 256) % 256) + pcn 32 ((a / 256 / 256 / 256) / 256) from pcn_add 32 (a / 256 / 256 / 256), show pcn 32 (a / 256 / 256 / 256 / 256) = pcn 8 ((a / 256 / 256 / 256 / 256) % 256) + pcn 24 ((a / 256 / 256 / 256 / 256) / 256) from pcn_add 24 (a / 256 / 256 / 256 / 256), show pcn 24 (a / 256 / 256 / 256 / 256 / 256) = pcn 8 ((a / 256 / 256 / 256 / 256 / 256) % 256) + pcn 16 ((a / 256 / 256 / 256 / 256 / 256) / 256) from pcn_add 16 (a / 256 / 256 / 256 / 256 / 256), show pcn 16 (a / 256 / 256 / 256 / 256 / 256 / 256) = pcn 8 ((a / 256 / 256 / 256 / 256 / 256 / 256) % 256) + pcn 8 ((a / 256 / 256 / 256 / 256 / 256 / 256) / 256) from pcn_add 8 (a / 256 / 256 / 256 / 256 / 256 / 256), show pcn 8 (a / 256 / 256 / 256 / 256 / 256 / 256 / 256) = pcn 8 ((a / 256 / 256 / 256 / 256 / 256 / 256 / 256) % 256) + 0 from pcn_add 0 (a / 256 / 256 / 256 / 256 / 256 / 256 / 256)]
  simp only [← (pb_at _).1]
  unfold pbs pbs pbs pbs pbs pbs pbs pbs pbs
  have h0 := (pb_at a).2
  have h1 := (pb_at (a / 256)).2
  have h2 := (pb_at (a / 256 / 256)).2
  have h3 := (pb_at (a / 256 / 256 / 256)).2
  have h4 := (pb_at (a / 256 / 256 / 256 / 256)).2
  have h5 := (pb_at (a / 256 / 256 / 256 / 256 / 256)).2
  have h6 := (pb_at (a / 256 / 256 / 256 / 256 / 256 / 256)).2
  have h7 := (pb_at (a / 256 / 256 / 256 / 256 / 256 / 256 / 256)).2
  generalize pb (a % 256) = p0 at *
  generalize pb (a / 256 % 256) = p1 at *
  generalize pb (a / 256 / 256 % 256) = p2 at *
  generalize pb (a / 256 / 256 / 256 % 256) = p3 at *
  generalize pb (a / 256 / 256 / 256 / 256 % 256) = p4 at *
  generalize pb (a / 256 / 256 / 256 / 256 / 256 % 256) = p5 at *
  generalize pb (a / 256 / 256 / 256 / 256 / 256 / 256 % 256) = p6 at *
  generalize pb (a / 256 / 256 / 256 / 256 / 256 / 256 / 256 % 256) = p7 at *
  have e3 : (p0 + 256 * (p1 + 256 * (p2 + 256 * (p3 + 256 * (p4 + 256 * (p5 + 256 * (p6 + 256 * (p7 + 256 * 0)))))))) / 256 = p1 + 256 * (p2 + 256 * (p3 + 256 * (p4 + 256 * (p5 + 256 * (p6 + 256 * p7))))) := by omega
  rw [e3]
  have e4 : p0 + 256 * (p1 + 256 * (p2 + 256 * (p3 + 256 * (p4 + 256 * (p5 + 256 * (p6 + 256 * (p7 + 256 * 0))))))) + (p1 + 256 * (p2 + 256 * (p3 + 256 * (p4 + 256 * (p5 + 256 * (p6 + 256 * p7)))))) = (p0 + p1) + 256 * (p1 + p2) + 65536 * ((p2 + p3) + 256 * (p3 + p4) + 65536 * ((p4 + p5) + 256 * (p5 + p6) + 65536 * ((p6 + p7) + 256 * p7))) := by omega
  rw [e4]
  have e5 : ((p0 + p1) + 256 * (p1 + p2) + 65536 * ((p2 + p3) + 256 * (p3 + p4) + 65536 * ((p4 + p5) + 256 * (p5 + p6) + 65536 * ((p6 + p7) + 256 * p7)))) / 65536 = (p2 + p3) + 256 * (p3 + p4) + 65536 * ((p4 + p5) + 256 * (p5 + p6) + 65536 * ((p6 + p7) + 256 * p7)) := by omega
  rw [e5]
  have e6 : (p0 + p1) + 256 * (p1 + p2) + 65536 * ((p2 + p3) + 256 * (p3 + p4) + 65536 * ((p4 + p5) + 256 * (p5 + p6) + 65536 * ((p6 + p7) + 256 * p7))) + ((p2 + p3) + 256 * (p3 + p4) + 65536 * ((p4 + p5) + 256 * (p5 + p6) + 65536 * ((p6 + p7) + 256 * p7))) = (p0 + p1 + p2 + p3) + 256 * ((p1 + p2 + p3 + p4) + 256 * (p2 + p3 + p4 + p5) + 65536 * (p3 + p4 + p5 + p6)) + 4294967296 * ((p4 + p5 + p6 + p7) + 256 * ((p5 + p6 + p7) + 256 * (p6 + p7) + 65536 * p7)) := by omega
  rw [e6]
  have e7 : ((p0 + p1 + p2 + p3) + 256 * ((p1 + p2 + p3 + p4) + 256 * (p2 + p3 + p4 + p5) + 65536 * (p3 + p4 + p5 + p6)) + 4294967296 * ((p4 + p5 + p6 + p7) + 256 * ((p5 + p6 + p7) + 256 * (p6 + p7) + 65536 * p7))) / 4294967296 = (p4 + p5 + p6 + p7) + 256 * ((p5 + p6 + p7) + 256 * (p6 + p7) + 65536 * p7) := by omega
  rw [e7]
  clear e3 e4 e5 e6 e7
  omega
theorem bc32_eq {a : Nat} (h : a < 2 ^ 32) : bc32 a = pcn 32 a := by
  have h3 : bc3 a = pbs 4 a := by
    rw [← (f_all 4 a (by rw [show (256 : Nat) ^ 4 = 2 ^ 32 from by decide]; exact h)).2]
    unfold bc3 bc2 bc1 f3 f2 f1
    rw [show mk8 85 4 = 1431655765 from by decide, show mk8 51 4 = 858993459 from by decide, show mk8 15 4 = 252645135 from by decide]
    simp only [Nat.shiftRight_eq_div_pow, show (2 : Nat) ^ 1 = 2 from rfl, show (2 : Nat) ^ 2 = 4 from rfl, show (2 : Nat) ^ 4 = 16 from rfl]
  have e : bc32 a = bc5 a % 64 := Nat.and_two_pow_sub_one_eq_mod (x := bc5 a) (n := 6)
  rw [e]
  unfold bc5 bc4
  rw [h3]
  simp only [Nat.shiftRight_eq_div_pow, show (2 : Nat) ^ 8 = 256 from rfl, show (2 : Nat) ^ 16 = 65536 from rfl]
  rw [show pcn 32 (a) = pcn 8 ((a) % 256) + pcn 24 ((a) / 256) from pcn_add 24 (a), show pcn 24 (a / 256) = pcn 8 ((a / 256) % 256) + pcn 16 ((a / 256) / 256) from pcn_add 16 (a / 256), show pcn 16 (a / 256 / 256) = pcn 8 ((a / 256 / 256) % 256) + pcn 8 ((a / 256 / 256) / 256) from pcn_add 8 (a / 256 / 256), show pcn 8 (a / 256 / 256 / 256) = pcn 8 ((a / 256 / 256 / 256) % 256) + 0 from pcn_add 0 (a / 256 / 256 / 256)]
  simp only [← (pb_at _).1]
  unfold pbs pbs pbs pbs pbs
  have h0 := (pb_at a).2
  have h1 := (pb_at (a / 256)).2
  have h2 := (pb_at (a / 256 / 256)).2
  have h3 := (pb_at (a / 256 / 256 / 256)).2
  generalize pb (a % 256) = p0 at *
  generalize pb (a / 256 % 256) = p1 at *
  generalize pb (a / 256 / 256 % 256) = p2 at *
  generalize pb (a / 256 / 256 / 256 % 256) = p3 at *
  have e3 : (p0 + 256 * (p1 + 256 * (p2 + 256 * (p3 + 256 * 0)))) / 256 = p1 + 256 * (p2 + 256 * p3) := by omega
  rw [e3]
  have e4 : p0 + 256 * (p1 + 256 * (p2 + 256 * (p3 + 256 * 0))) + (p1 + 256 * (p2 + 256 * p3)) = (p0 + p1) + 256 * (p1 + p2) + 65536 * ((p2 + p3) + 256 * p3) := by omega
  rw [e4]
  have e5 : ((p0 + p1) + 256 * (p1 + p2) + 65536 * ((p2 + p3) + 256 * p3)) / 65536 = (p2 + p3) + 256 * p3 := by omega
  rw [e5]
  clear e3 e4 e5
  omega
theorem pcn_le : ∀ n v, pcn n v ≤ n := by
  intro n
  induction n with
  | zero => intro v; exact Nat.le_refl 0
  | succ n ih => intro v; have := ih (v / 2); show v % 2 + pcn n (v / 2) ≤ n + 1; omega
