/-! ===== counting bits as Long.bitCount does, byte by byte ===== -/
theorem nt_and {u w p q : Nat} (hu : u < 256) (hp : p < 256) : (u + 256 * w) &&& (p + 256 * q) = (u &&& p) + 256 * (w &&& q) := by
  have hup : u &&& p < 2 ^ 8 := Nat.lt_of_le_of_lt Nat.and_le_left hu
  apply Nat.eq_of_testBit_eq
  intro i
  rw [Nat.testBit_and, show u + 256 * w = 2 ^ 8 * w + u by omega, show p + 256 * q = 2 ^ 8 * q + p by omega, show (u &&& p) + 256 * (w &&& q) = 2 ^ 8 * (w &&& q) + (u &&& p) by omega, Nat.testBit_two_pow_mul_add _ hu, Nat.testBit_two_pow_mul_add _ hp, Nat.testBit_two_pow_mul_add _ hup]
  by_cases h : i < 8
  · simp only [if_pos h, Nat.testBit_and]
  · simp only [if_neg h, Nat.testBit_and]
def bm (c : Nat) : Nat → Nat
  | 0 => 0
  | n + 1 => c + 256 * bm c n
def q1 (n X : Nat) : Nat := X - ((X / 2) &&& bm 85 n)
def q2 (n X : Nat) : Nat := (X &&& bm 51 n) + ((X / 4) &&& bm 51 n)
def q3 (n X : Nat) : Nat := (X + X / 16) &&& bm 15 n
def f1 (a : Nat) : Nat := a - ((a / 2) &&& 85)
def f2 (a : Nat) : Nat := (a &&& 51) + ((a / 4) &&& 51)
def pcb (a : Nat) : Nat := (f2 (f1 a) + f2 (f1 a) / 16) % 16
theorem and85 : ∀ a, a < 256 → ∀ b, b < 2 → (a / 2 + 128 * b) &&& 85 = (a / 2) &&& 85 := by decide +kernel
theorem and51 : ∀ a, a < 256 → ∀ b, b < 4 → (a / 4 + 64 * b) &&& 51 = (a / 4) &&& 51 := by decide +kernel
theorem f_in : ∀ a, a < 256 → f1 a < 256 ∧ f2 (f1 a) ≤ 68 ∧ f2 (f1 a) % 16 ≤ 4 := by decide +kernel
def cnb (X : Nat) : Nat → Nat
  | 0 => 0
  | n + 1 => cnb X n + (bif X.testBit n then 1 else 0)
theorem pcb_c : ∀ a, a < 256 → pcb a = cnb a 8 := by decide +kernel
theorem q1_s {n a b : Nat} (ha : a < 256) : q1 (n + 1) (a + 256 * b) = f1 a + 256 * q1 n b := by
  unfold q1 f1
  show a + 256 * b - (((a + 256 * b) / 2) &&& (85 + 256 * bm 85 n)) = _
  rw [show (a + 256 * b) / 2 = (a / 2 + 128 * (b % 2)) + 256 * (b / 2) by omega, nt_and (by omega) (by decide), and85 a ha (b % 2) (by omega)]
  have h1 : (a / 2) &&& 85 ≤ a / 2 := Nat.and_le_left
  have h2 : (b / 2) &&& bm 85 n ≤ b / 2 := Nat.and_le_left
  omega
theorem q2_s {n a b : Nat} (ha : a < 256) : q2 (n + 1) (a + 256 * b) = f2 a + 256 * q2 n b := by
  unfold q2 f2
  show ((a + 256 * b) &&& (51 + 256 * bm 51 n)) + (((a + 256 * b) / 4) &&& (51 + 256 * bm 51 n)) = _
  rw [show (a + 256 * b) / 4 = (a / 4 + 64 * (b % 4)) + 256 * (b / 4) by omega, nt_and ha (by decide), nt_and (by omega) (by decide), and51 a ha (b % 4) (by omega)]
  omega
theorem q3_s {n a b : Nat} (ha : a ≤ 68) (hb : b % 16 ≤ 4) : q3 (n + 1) (a + 256 * b) = (a + a / 16) % 16 + 256 * q3 n b := by
  unfold q3
  show ((a + 256 * b) + (a + 256 * b) / 16) &&& (15 + 256 * bm 15 n) = _
  rw [show (a + 256 * b) + (a + 256 * b) / 16 = (a + a / 16 + 16 * (b % 16)) + 256 * (b + b / 16) by omega, nt_and (by omega) (by decide), show (15 : Nat) = 2 ^ 4 - 1 from rfl, Nat.and_two_pow_sub_one_eq_mod]
  omega
def q123 (n X : Nat) : Nat := q3 n (q2 n (q1 n X))
theorem q_lo : ∀ (n b : Nat), b < 256 ^ n → q2 n (q1 n b) % 16 ≤ 4
  | 0, b, _ => by
    have : q2 0 (q1 0 b) = 0 := by
      unfold q2
      show (_ &&& 0) + (_ &&& 0) = 0
      rw [Nat.and_zero, Nat.and_zero]
    omega
  | n + 1, b, h => by
    obtain ⟨a, c, ha, rfl⟩ : ∃ a c, a < 256 ∧ b = a + 256 * c := ⟨b % 256, b / 256, by omega, by omega⟩
    obtain ⟨g1, g2, g3⟩ := f_in a ha
    rw [q1_s ha, q2_s g1]
    omega
theorem q123_s {n a b : Nat} (ha : a < 256) (hb : b < 256 ^ n) : q123 (n + 1) (a + 256 * b) = pcb a + 256 * q123 n b := by
  obtain ⟨g1, g2, g3⟩ := f_in a ha
  unfold q123
  rw [q1_s ha, q2_s g1, q3_s g2 (q_lo n b hb)]
  rfl
theorem cnb_s {a b : Nat} (ha : a < 256) : ∀ n, cnb (a + 256 * b) (n + 8) = cnb a 8 + cnb b n := by
  have e : ∀ i, (a + 256 * b).testBit i = if i < 8 then a.testBit i else b.testBit (i - 8) := fun i => by
    rw [show a + 256 * b = 2 ^ 8 * b + a by omega, Nat.testBit_two_pow_mul_add _ ha]
  intro n
  induction n with
  | zero =>
    show cnb (a + 256 * b) 8 = cnb a 8 + 0
    unfold cnb cnb cnb cnb cnb cnb cnb cnb cnb
    rw [e 7, e 6, e 5, e 4, e 3, e 2, e 1, e 0]
    rfl
  | succ n ih =>
    show cnb (a + 256 * b) (n + 8) + _ = cnb a 8 + (cnb b n + _)
    rw [ih, e (n + 8), if_neg (by omega), show n + 8 - 8 = n by omega]
    omega
