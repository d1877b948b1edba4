/-! houses counted (two rows out of kit/laws/BITS.to-paste first) -/
theorem nx_and (a b : Nat) : nI a &&& nI b = nI (a &&& b) := by
  apply Int32.toBitVec_inj.1
  show BitVec.ofNat 32 a &&& BitVec.ofNat 32 b = BitVec.ofNat 32 (a &&& b)
  apply BitVec.eq_of_getLsbD_eq
  intro i hi
  simp [hi]
theorem wb_of32 (x : Int32) : ∃ n, n < 2 ^ 32 ∧ x = nI n := ⟨x.toBitVec.toNat, x.toBitVec.isLt, Int32.toBitVec_inj.mp (by show _ = BitVec.ofNat 32 _; simp)⟩
theorem n_fold {p0 p1 p2 p3 : Nat} (h0 : p0 ≤ 8) (h1 : p1 ≤ 8) (h2 : p2 ≤ 8) (h3 : p3 ≤ 8) : (p0 + 256 * (p1 + 256 * (p2 + 256 * p3)) + (p0 + 256 * (p1 + 256 * (p2 + 256 * p3))) / 256 + (p0 + 256 * (p1 + 256 * (p2 + 256 * p3)) + (p0 + 256 * (p1 + 256 * (p2 + 256 * p3))) / 256) / 65536) % 64 = p0 + p1 + p2 + p3 := by
  have e1 : (p0 + 256 * (p1 + 256 * (p2 + 256 * p3))) / 256 = p1 + 256 * (p2 + 256 * p3) := by
    rw [Nat.add_mul_div_left _ _ (by decide), Nat.div_eq_of_lt (by omega), Nat.zero_add]
  rw [e1]
  have e2 : (p0 + 256 * (p1 + 256 * (p2 + 256 * p3)) + (p1 + 256 * (p2 + 256 * p3))) / 65536 = p2 + p3 + 256 * p3 := by
    rw [show p0 + 256 * (p1 + 256 * (p2 + 256 * p3)) + (p1 + 256 * (p2 + 256 * p3)) = (p0 + p1 + 256 * (p1 + p2)) + 65536 * (p2 + p3 + 256 * p3) by omega, Nat.add_mul_div_left _ _ (by decide), Nat.div_eq_of_lt (by omega), Nat.zero_add]
  rw [e2, show p0 + 256 * (p1 + 256 * (p2 + 256 * p3)) + (p1 + 256 * (p2 + 256 * p3)) + (p2 + p3 + 256 * p3) = (p0 + p1 + p2 + p3) + 64 * (4 * (p1 + p2 + p3) + 1024 * (p2 + p3) + 262144 * p3) by omega, Nat.add_mul_mod_self_left, Nat.mod_eq_of_lt (by omega)]
section PH
variable {S : ZS} {d : Nat} {M : ZM}
theorem c_bitCount_b {b0 b1 b2 b3 : Nat} (h0 : b0 < 256) (h1 : b1 < 256) (h2 : b2 < 256) (h3 : b3 < 256) : z_C S d 165 [.int (nI (b0 + 256 * (b1 + 256 * (b2 + 256 * b3))))] M (some (.int (nI (n_pc b0 8 + n_pc b1 8 + n_pc b2 8 + n_pc b3 8)))) M := by
  have a1 := n_all1 h0 h1 h2 h3
  have f0 := (n_b1 b0 h0).2
  have f1 := (n_b1 b1 h1).2
  have f2 := (n_b1 b2 h2).2
  have f3 := (n_b1 b3 h3).2
  have d0 := (n_b3 b0 h0).2
  have d1 := (n_b3 b1 h1).2
  have d2 := (n_b3 b2 h2).2
  have d3 := (n_b3 b3 h3).2
  refine c_of rfl rfl (Nat.le_of_ble_eq_true rfl) ?_
  refine g_il rfl rfl ?_
  refine g_il rfl rfl ?_
  refine g_ic rfl ?_
  refine g_iushr rfl ?_
  refine g_ic rfl ?_
  refine g_iand rfl ?_
  refine g_isub rfl ?_
  refine g_is0 rfl ?_
  rw [pk_ushrN (by omega) (zI 1) 1 (by decide +kernel), show zI 1431655765 = nI 1431655765 from rfl, nx_and, show (2 : Nat) ^ 1 = 2 from rfl, pk_sub a1.2, a1.1]
  refine g_il rfl rfl ?_
  refine g_ic rfl ?_
  refine g_iand rfl ?_
  refine g_il rfl rfl ?_
  refine g_ic rfl ?_
  refine g_iushr rfl ?_
  refine g_ic rfl ?_
  refine g_iand rfl ?_
  refine g_iadd rfl ?_
  refine g_is0 rfl ?_
  rw [show zI 858993459 = nI 858993459 from rfl, nx_and, pk_ushrN (by omega) (zI 2) 2 (by decide +kernel), nx_and, show (2 : Nat) ^ 2 = 4 from rfl, nI_add, n_all2 h0 h1 h2]
  generalize hB : n_f2 b0 + 256 * (n_f2 b1 + 256 * (n_f2 b2 + 256 * n_f2 b3)) = B
  obtain ⟨c1, c2⟩ := n_all3 h0 h1 h2 h3 B hB.symm
  refine g_il rfl rfl ?_
  refine g_il rfl rfl ?_
  refine g_ic rfl ?_
  refine g_iushr rfl ?_
  refine g_iadd rfl ?_
  refine g_ic rfl ?_
  refine g_iand rfl ?_
  refine g_is0 rfl ?_
  rw [pk_ushrN (by omega) (zI 4) 4 (by decide +kernel), nI_add, show (2 : Nat) ^ 4 = 16 from rfl, show zI 252645135 = nI 252645135 from rfl, nx_and, c2]
  refine g_il rfl rfl ?_
  refine g_il rfl rfl ?_
  refine g_ic rfl ?_
  refine g_iushr rfl ?_
  refine g_iadd rfl ?_
  refine g_is0 rfl ?_
  rw [pk_ushrN (by omega) (zI 8) 8 (by decide +kernel), nI_add, show (2 : Nat) ^ 8 = 256 from rfl]
  refine g_il rfl rfl ?_
  refine g_il rfl rfl ?_
  refine g_ic rfl ?_
  refine g_iushr rfl ?_
  refine g_iadd rfl ?_
  refine g_is0 rfl ?_
  rw [pk_ushrN (by omega) (zI 16) 16 (by decide +kernel), nI_add, show (2 : Nat) ^ 16 = 65536 from rfl]
  refine g_il rfl rfl ?_
  refine g_ic rfl ?_
  refine g_iand rfl ?_
  rw [show zI 63 = nI 63 from rfl, nx_and, show (63 : Nat) = 2 ^ 6 - 1 from rfl, Nat.and_two_pow_sub_one_eq_mod, show (2 : Nat) ^ 6 = 64 from rfl]
  rw [n_fold d0 d1 d2 d3]
  exact g_reti rfl (rfl) rfl
theorem c_bitCount (x : Int32) : z_C S d 165 [.int x] M (some (.int (zI (n_pc x.toBitVec.toNat 32 : Int)))) M := by
  obtain ⟨N, hN, rfl⟩ := wb_of32 x
  rw [pk_tn hN]
  have e := c_bitCount_b (S := S) (d := d) (M := M) (b0 := N % 256) (b1 := N / 256 % 256) (b2 := N / 256 / 256 % 256) (b3 := N / 256 / 256 / 256) (by omega) (by omega) (by omega) (by omega)
  rw [show N % 256 + 256 * (N / 256 % 256 + 256 * (N / 256 / 256 % 256 + 256 * (N / 256 / 256 / 256))) = N by omega] at e
  have e2 : n_pc N 32 = n_pc (N % 256) 8 + n_pc (N / 256 % 256) 8 + n_pc (N / 256 / 256 % 256) 8 + n_pc (N / 256 / 256 / 256) 8 := by
    rw [show 32 = 8 + 24 from rfl, n_pc_8, show 24 = 8 + 16 from rfl, n_pc_8, show 16 = 8 + 8 from rfl, n_pc_8]
    rw [← Nat.add_assoc, ← Nat.add_assoc]
  rw [e2]
  exact e
end PH
/-- how many houses there are -/
def v_hc (hs : Int32) : Nat := n_pc hs.toBitVec.toNat 25
/-- houses stand on the yard's cells -/
def p_in (W H : Nat) (hs : Int32) : Prop := ∀ c, W * H ≤ c → bt hs c = false
theorem v_hc32 {W H : Nat} {hs : Int32} (h : p_in W H hs) (hC : W * H ≤ 25) : n_pc hs.toBitVec.toNat 32 = v_hc hs := by
  have z : ∀ c, 25 ≤ c → (hs.toBitVec.toNat.testBit c).toNat = 0 := fun c hc => by
    have e : hs.toBitVec.toNat.testBit c = false := h c (by omega)
    rw [e]
    rfl
  have q : ∀ k, n_pc hs.toBitVec.toNat (25 + k) = n_pc hs.toBitVec.toNat 25 := by
    intro k
    induction k with
    | zero => rfl
    | succ k ih =>
      show n_pc hs.toBitVec.toNat (25 + k) + (hs.toBitVec.toNat.testBit (25 + k)).toNat = _
      rw [ih, z _ (by omega), Nat.add_zero]
  exact q 7
theorem n_pc_le (N : Nat) : ∀ n, n_pc N n ≤ n := by
  intro n
  induction n with
  | zero => exact Nat.le_refl 0
  | succ n ih =>
    show n_pc N n + (N.testBit n).toNat ≤ n + 1
    have : (N.testBit n).toNat ≤ 1 := Bool.toNat_le _
    omega
theorem c_houseCount {S : ZS} {d : Nat} {M : ZM} {a W H L n : Nat} {hs lot : Int32} (h : k_O M a W H L hs n lot) : z_C S (d + 1) 40 [.ref a] M (some (.int (zI (n_pc hs.toBitVec.toNat 32 : Int)))) M := by
  refine c_of rfl rfl (Nat.le_of_ble_eq_true rfl) ?_
  refine g_al rfl rfl ?_
  refine g_gf rfl h.1 rfl rfl ?_
  refine g_cs1 rfl rfl rfl rfl (c_bitCount hs) ?_
  exact g_reti rfl (rfl) rfl
theorem m_houses_l {S : ZS} {d : Nat} {M : ZM} {tr : Int64} {v nw : Nat → Int32} {hs : Int32} (h1 : M[62]? = some (.inl (6, m_f tr v))) (h5 : M[67]? = some (.inr (0, 236, .inl nw))) (a1 : nw 0 = hs) : ∀ (m c : Nat), c + m = 25 → z_G S d 152 4 [some (.ref 62), some (.int (zI (n_pc hs.toBitVec.toNat c : Int))), some (.int (zI (c : Int)))] [] M (some (.int (zI (v_hc hs : Int)))) M := by
  intro m
  induction m with
  | zero =>
    intro c hc
    refine g_il rfl rfl ?_
    refine g_ic rfl ?_
    refine g_icT rfl (zcT3 ⟨by omega, by omega⟩ ⟨by omega, by omega⟩ (by omega)) ?_
    refine g_il rfl rfl ?_
    rw [show c = 25 by omega]
    exact g_reti rfl (rfl) rfl
  | succ m ih =>
    intro c hc
    refine g_il rfl rfl ?_
    refine g_ic rfl ?_
    refine g_icF rfl (zcF3 ⟨by omega, by omega⟩ ⟨by omega, by omega⟩ (by omega)) ?_
    refine g_il rfl rfl ?_
    refine g_al rfl rfl ?_
    refine g_gf rfl h1 rfl rfl ?_
    refine g_ic rfl ?_
    refine g_iaI rfl (by decide) h5 (by omega) (by omega) (by omega) ?_
    rw [show nw (Int.toNat 0) = hs from a1]
    refine g_il rfl rfl ?_
    refine g_ishr rfl ?_
    refine g_ic rfl ?_
    refine g_iand rfl ?_
    rw [z_bit hs (c := c) (by omega), show (if bt hs c = true then (1 : Int) else 0) = (((hs.toBitVec.toNat.testBit c).toNat : Nat) : Int) by rw [show hs.toBitVec.toNat.testBit c = bt hs c from rfl]; cases bt hs c <;> rfl]
    refine g_addI rfl ?_
    refine g_is1 rfl rfl ?_
    refine g_jj2 rfl rfl ?_
    refine g_goto rfl ?_
    rw [← Int.natCast_add]
    exact ih (c + 1) (by omega)
theorem m_houses {S : ZS} {d : Nat} {M : ZM} {tr : Int64} {v nw : Nat → Int32} {hs : Int32} (h1 : M[62]? = some (.inl (6, m_f tr v))) (h5 : M[67]? = some (.inr (0, 236, .inl nw))) (a1 : nw 0 = hs) : z_C S d 152 [.ref 62] M (some (.int (zI (v_hc hs : Int)))) M := by
  refine c_of rfl rfl (Nat.le_of_ble_eq_true rfl) ?_
  refine g_ic rfl ?_
  refine g_is1 rfl rfl ?_
  refine g_ic rfl ?_
  refine g_is2 rfl rfl ?_
  exact m_houses_l h1 h5 a1 25 0 (by omega)
