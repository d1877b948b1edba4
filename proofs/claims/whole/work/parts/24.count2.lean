theorem n_e1 {b0 b1 b2 b3 : Nat} (h0 : b0 < 256) (h1 : b1 < 256) (h2 : b2 < 256) : (b0 + 256 * (b1 + 256 * (b2 + 256 * b3))) / 2 &&& 0x55555555 = (b0 / 2 &&& 0x55) + 256 * ((b1 / 2 &&& 0x55) + 256 * ((b2 / 2 &&& 0x55) + 256 * (b3 / 2 &&& 0x55))) := by
  have e : (0x55555555 : Nat) = 0x55 + 256 * (0x55 + 256 * (0x55 + 256 * 0x55)) := by decide
  rw [e, n_s1 h0, n_s1 h1, n_s1 h2]
theorem n_e3 {b0 b1 b2 b3 : Nat} (h0 : b0 < 256) (h1 : b1 < 256) (h2 : b2 < 256) : (b0 + 256 * (b1 + 256 * (b2 + 256 * b3))) &&& 0x33333333 = (b0 &&& 0x33) + 256 * ((b1 &&& 0x33) + 256 * ((b2 &&& 0x33) + 256 * (b3 &&& 0x33))) := by
  have e : (0x33333333 : Nat) = 0x33 + 256 * (0x33 + 256 * (0x33 + 256 * 0x33)) := by decide
  rw [e, n_and h0 (by decide), n_and h1 (by decide), n_and h2 (by decide)]
theorem n_e4 {b0 b1 b2 b3 : Nat} (h0 : b0 < 256) (h1 : b1 < 256) (h2 : b2 < 256) : (b0 + 256 * (b1 + 256 * (b2 + 256 * b3))) / 4 &&& 0x33333333 = (b0 / 4 &&& 0x33) + 256 * ((b1 / 4 &&& 0x33) + 256 * ((b2 / 4 &&& 0x33) + 256 * (b3 / 4 &&& 0x33))) := by
  have e : (0x33333333 : Nat) = 0x33 + 256 * (0x33 + 256 * (0x33 + 256 * 0x33)) := by decide
  rw [e, n_s2 h0, n_s2 h1, n_s2 h2]
theorem n_e5 {b0 b1 b2 b3 : Nat} (h0 : b0 < 256) (h1 : b1 < 256) (h2 : b2 < 256) : (b0 + 256 * (b1 + 256 * (b2 + 256 * b3))) &&& 0x0f0f0f0f = b0 % 16 + 256 * (b1 % 16 + 256 * (b2 % 16 + 256 * (b3 % 16))) := by
  have e : (0x0f0f0f0f : Nat) = 0x0f + 256 * (0x0f + 256 * (0x0f + 256 * 0x0f)) := by decide
  have k15 : ∀ x : Nat, x &&& 15 = x % 16 := fun x => Nat.and_two_pow_sub_one_eq_mod x 4
  rw [e, n_and h0 (by decide), n_and h1 (by decide), n_and h2 (by decide), k15, k15, k15, k15]
theorem n_d16 {l h R : Nat} (hl : l < 16) : (l + 16 * h + 256 * R) / 16 = h + 16 * R := by
  rw [show l + 16 * h + 256 * R = l + 16 * (h + 16 * R) by omega, Nat.add_mul_div_left _ _ (by decide), Nat.div_eq_of_lt hl, Nat.zero_add]
theorem n_sum {l0 h0 l1 h1 l2 h2 l3 h3 : Nat} (a0 : l0 < 16) : (l0 + 16 * h0 + 256 * (l1 + 16 * h1 + 256 * (l2 + 16 * h2 + 256 * (l3 + 16 * h3)))) + (l0 + 16 * h0 + 256 * (l1 + 16 * h1 + 256 * (l2 + 16 * h2 + 256 * (l3 + 16 * h3)))) / 16 = (l0 + 16 * h0 + h0 + 16 * l1) + 256 * ((l1 + 16 * h1 + h1 + 16 * l2) + 256 * ((l2 + 16 * h2 + h2 + 16 * l3) + 256 * (l3 + 16 * h3 + h3))) := by
  rw [n_d16 a0]
  omega
theorem n_mod {x l : Nat} : (x + 16 * l) % 16 = x % 16 := Nat.add_mul_mod_self_left x 16 l
theorem n_B {b : Nat} (hb : b < 256) : ∃ l h : Nat, n_f2 b = l + 16 * h ∧ l ≤ 4 ∧ h ≤ 4 ∧ (l + 16 * h + h) % 16 = n_pc b 8 := by
  have t := n_b2 b hb
  have p := (n_b3 b hb).1
  refine ⟨n_f2 b % 16, n_f2 b / 16, by omega, t.2, by omega, ?_⟩
  rw [show n_f2 b % 16 + 16 * (n_f2 b / 16) = n_f2 b by omega]
  exact p
theorem n_all1 {b0 b1 b2 b3 : Nat} (h0 : b0 < 256) (h1 : b1 < 256) (h2 : b2 < 256) (h3 : b3 < 256) : (b0 + 256 * (b1 + 256 * (b2 + 256 * b3))) - ((b0 + 256 * (b1 + 256 * (b2 + 256 * b3))) / 2 &&& 0x55555555) = n_f1 b0 + 256 * (n_f1 b1 + 256 * (n_f1 b2 + 256 * n_f1 b3)) ∧ ((b0 + 256 * (b1 + 256 * (b2 + 256 * b3))) / 2 &&& 0x55555555) ≤ b0 + 256 * (b1 + 256 * (b2 + 256 * b3)) := by
  rw [n_e1 h0 h1 h2]
  have g0 := (n_b1 b0 h0).1
  have g1 := (n_b1 b1 h1).1
  have g2 := (n_b1 b2 h2).1
  have g3 := (n_b1 b3 h3).1
  unfold n_f1
  generalize (b0 / 2 &&& 85) = x0 at *
  generalize (b1 / 2 &&& 85) = x1 at *
  generalize (b2 / 2 &&& 85) = x2 at *
  generalize (b3 / 2 &&& 85) = x3 at *
  omega
theorem n_all2 {b0 b1 b2 b3 : Nat} (h0 : b0 < 256) (h1 : b1 < 256) (h2 : b2 < 256) : ((n_f1 b0 + 256 * (n_f1 b1 + 256 * (n_f1 b2 + 256 * n_f1 b3))) &&& 0x33333333) + ((n_f1 b0 + 256 * (n_f1 b1 + 256 * (n_f1 b2 + 256 * n_f1 b3))) / 4 &&& 0x33333333) = n_f2 b0 + 256 * (n_f2 b1 + 256 * (n_f2 b2 + 256 * n_f2 b3)) := by
  rw [n_e3 (n_b1 b0 h0).2 (n_b1 b1 h1).2 (n_b1 b2 h2).2, n_e4 (n_b1 b0 h0).2 (n_b1 b1 h1).2 (n_b1 b2 h2).2]
  unfold n_f2
  generalize (n_f1 b0 &&& 51) = x0
  generalize (n_f1 b1 &&& 51) = x1
  generalize (n_f1 b2 &&& 51) = x2
  generalize (n_f1 b3 &&& 51) = x3
  generalize (n_f1 b0 / 4 &&& 51) = z0
  generalize (n_f1 b1 / 4 &&& 51) = z1
  generalize (n_f1 b2 / 4 &&& 51) = z2
  generalize (n_f1 b3 / 4 &&& 51) = z3
  omega
theorem n_all3 {b0 b1 b2 b3 : Nat} (h0 : b0 < 256) (h1 : b1 < 256) (h2 : b2 < 256) (h3 : b3 < 256) : ∀ B : Nat, B = n_f2 b0 + 256 * (n_f2 b1 + 256 * (n_f2 b2 + 256 * n_f2 b3)) → B + B / 16 < 4294967296 ∧ (B + B / 16) &&& 0x0f0f0f0f = n_pc b0 8 + 256 * (n_pc b1 8 + 256 * (n_pc b2 8 + 256 * n_pc b3 8)) := by
  intro B hB
  obtain ⟨l0, q0, e0, u0, v0, p0⟩ := n_B h0
  obtain ⟨l1, q1, e1, u1, v1, p1⟩ := n_B h1
  obtain ⟨l2, q2, e2, u2, v2, p2⟩ := n_B h2
  obtain ⟨l3, q3, e3, u3, v3, p3⟩ := n_B h3
  rw [e0, e1, e2, e3] at hB
  subst hB
  rw [n_sum (by omega)]
  refine ⟨by omega, ?_⟩
  rw [n_e5 (by omega) (by omega) (by omega), n_mod, n_mod, n_mod, p0, p1, p2, p3]
