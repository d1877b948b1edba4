/-! Integer.bitCount counts bits -/
def n_pc (N : Nat) : Nat → Nat
  | 0 => 0
  | n + 1 => n_pc N n + (N.testBit n).toNat
theorem n_pc_c {A B : Nat} : ∀ {n : Nat}, (∀ j, j < n → A.testBit j = B.testBit j) → n_pc A n = n_pc B n := by
  intro n
  induction n with
  | zero => intro _; rfl
  | succ n ih =>
    intro h
    show n_pc A n + (A.testBit n).toNat = n_pc B n + (B.testBit n).toNat
    rw [ih (fun j hj => h j (by omega)), h n (by omega)]
theorem n_pc_8 (N : Nat) : ∀ n : Nat, n_pc N (8 + n) = n_pc (N % 256) 8 + n_pc (N / 256) n := by
  intro n
  induction n with
  | zero =>
    show n_pc N 8 = n_pc (N % 256) 8 + 0
    rw [Nat.add_zero]
    exact n_pc_c (fun j hj => by rw [show 256 = 2 ^ 8 from rfl, Nat.testBit_mod_two_pow, decide_eq_true hj, Bool.true_and])
  | succ n ih =>
    show n_pc N (8 + n) + (N.testBit (8 + n)).toNat = n_pc (N % 256) 8 + (n_pc (N / 256) n + ((N / 256).testBit n).toNat)
    rw [ih, show 256 = 2 ^ 8 from rfl, Nat.testBit_div_two_pow, Nat.add_comm n 8]
    omega
theorem n_and {b m R Q : Nat} (hb : b < 256) (hm : m < 256) : (b + 256 * R) &&& (m + 256 * Q) = (b &&& m) + 256 * (R &&& Q) := by
  have hb8 : b < 2 ^ 8 := hb
  have hm8 : m < 2 ^ 8 := hm
  have h1 : b &&& m < 2 ^ 8 := Nat.and_lt_two_pow b hm8
  apply Nat.eq_of_testBit_eq
  intro j
  rw [Nat.testBit_and, Nat.add_comm b, Nat.add_comm m, Nat.add_comm (b &&& m), show 256 = 2 ^ 8 from rfl, Nat.testBit_two_pow_mul_add (i := 8) R hb8, Nat.testBit_two_pow_mul_add (i := 8) Q hm8, Nat.testBit_two_pow_mul_add (i := 8) (R &&& Q) h1]
  split
  · rw [Nat.testBit_and]
  · rw [Nat.testBit_and]
theorem n_k1 : ∀ y, y < 128 → ∀ r, r < 2 → (y + 128 * r) &&& 0x55 = y &&& 0x55 := by decide +kernel
theorem n_k2 : ∀ y, y < 64 → ∀ r, r < 4 → (y + 64 * r) &&& 0x33 = y &&& 0x33 := by decide +kernel
theorem n_s1 {b R Q : Nat} (hb : b < 256) : (b + 256 * R) / 2 &&& (0x55 + 256 * Q) = (b / 2 &&& 0x55) + 256 * (R / 2 &&& Q) := by
  rw [show (b + 256 * R) / 2 = (b / 2 + 128 * (R % 2)) + 256 * (R / 2) by omega, n_and (by omega) (by omega), n_k1 _ (by omega) _ (by omega)]
theorem n_s2 {b R Q : Nat} (hb : b < 256) : (b + 256 * R) / 4 &&& (0x33 + 256 * Q) = (b / 4 &&& 0x33) + 256 * (R / 4 &&& Q) := by
  rw [show (b + 256 * R) / 4 = (b / 4 + 64 * (R % 4)) + 256 * (R / 4) by omega, n_and (by omega) (by omega), n_k2 _ (by omega) _ (by omega)]
def n_f1 (b : Nat) : Nat := b - (b / 2 &&& 0x55)
def n_f2 (b : Nat) : Nat := (n_f1 b &&& 0x33) + (n_f1 b / 4 &&& 0x33)
theorem n_b1 : ∀ b, b < 256 → (b / 2 &&& 0x55) ≤ b ∧ n_f1 b < 256 := by decide +kernel
theorem n_b2 : ∀ b, b < 256 → n_f2 b ≤ 68 ∧ n_f2 b % 16 ≤ 4 := by decide +kernel
theorem n_b3 : ∀ b, b < 256 → (n_f2 b + n_f2 b / 16) % 16 = n_pc b 8 ∧ n_pc b 8 ≤ 8 := by decide +kernel
