/-! type -/
/-- the byte of a long, as the class takes it -/
def p_byte (v : Int64) (i : Nat) : Int32 := (v.toUInt64 >>> ((zI (8 * (i : Int))).toInt64.toUInt64 &&& Int64.toUInt64 63)).toInt64.toInt32.toInt8.toInt32
theorem z_su : ∀ i : Nat, i < 8 → ((zI (8 * (i : Int))).toInt64.toUInt64 &&& Int64.toUInt64 63) = UInt64.ofNat (8 * i) := by decide +kernel
theorem z_ss : ∀ i : Nat, i < 8 → ((zI (8 * (i : Int))).toInt64.toBitVec &&& Int64.toBitVec 63).smod 64 = BitVec.ofNat 64 (8 * i) := by decide +kernel
theorem b64_255 : ∀ j : Nat, j < 8 → (Int64.ofInt 255).toBitVec.getLsbD j = true := by decide +kernel
/-- as the reference takes it -/
theorem p_byte_ref (v : Int64) {i : Nat} (hi : i < 8) : ((v >>> ((zI (8 * (i : Int))).toInt64 &&& 63)) &&& Int64.ofInt 255).toInt32.toInt8.toInt32 = p_byte v i := by
  unfold p_byte
  apply congrArg Int8.toInt32
  apply Int8.toBitVec_inj.mp
  apply BitVec.eq_of_getLsbD_eq
  intro j hj
  rw [z_su i hi]
  simp only [Int32.toBitVec_toInt8, Int64.toBitVec_toInt32, Int64.toBitVec_and, Int64.toBitVec_shiftRight, UInt64.toBitVec_toInt64, UInt64.toBitVec_shiftRight, Int64.toBitVec_toUInt64]
  rw [z_ss i hi]
  have e1 : (BitVec.ofNat 64 (8 * i)).toNat = 8 * i := by
    rw [BitVec.toNat_ofNat]
    omega
  have e2 : ((UInt64.ofNat (8 * i)).toBitVec % 64).toNat = 8 * i := by
    rw [BitVec.toNat_umod, UInt64.toBitVec_ofNat', BitVec.toNat_ofNat]
    have : (64 : BitVec 64).toNat = 64 := rfl
    rw [this]
    omega
  have h1 : 8 * i + j < 64 := by omega
  rw [BitVec.getLsbD_signExtend, BitVec.getLsbD_signExtend, BitVec.getLsbD_signExtend, BitVec.getLsbD_signExtend, if_pos (show j < 32 by omega), if_pos (show j < 64 by omega), if_pos (show j < 32 by omega), if_pos (show j < 64 by omega), BitVec.getLsbD_and, b64_255 j hj, Bool.and_true, BitVec.sshiftRight_eq', e1, BitVec.ushiftRight_eq', e2, BitVec.getLsbD_sshiftRight, BitVec.getLsbD_ushiftRight, if_pos h1, decide_eq_false (show ¬ 64 ≤ j by omega)]
  rfl

abbrev k_rd (T : Int) (i1 i2 i6 i7 i8 : Int32) : ZE := .inl (1, [.int (zI T), .int i1, .int i2, .ref 13, .ref 12, .ref 23, .int i6, .int i7, .int i8])
theorem w_two {M : ZM} {a b : Nat} {A B A2 B2 : ZE} (h : a ≠ b) : (((M.set a A).set b B).set a A2).set b B2 = (M.set a A2).set b B2 := by
  rw [List.set_comm B A2 (fun g => h g.symm), List.set_set, List.set_set]
/-- the text with t bytes more -/
def t_txt (g : Nat → Int32) (v : Int64) (T n t : Nat) : Nat → Int32 := fun j => if T ≤ j ∧ j < T + t then p_byte v (n - 1 - (j - T)) else g j
theorem t_txt_s (g : Nat → Int32) (v : Int64) (T n t : Nat) : upd (t_txt g v T n t) (T + t) (p_byte v (n - 1 - t)) = t_txt g v T n (t + 1) := by
  funext j
  by_cases h : j = T + t
  · subst h
    rw [pk_us]
    unfold t_txt
    rw [if_pos (by omega), show n - 1 - (T + t - T) = n - 1 - t by omega]
  · rw [pk_un h]
    unfold t_txt
    by_cases h2 : T ≤ j ∧ j < T + t
    · rw [if_pos h2, if_pos (by omega)]
    · rw [if_neg h2, if_neg (by omega)]
theorem t_txt_0 (g : Nat → Int32) (v : Int64) (T n : Nat) : t_txt g v T n 0 = g := by
  funext j
  unfold t_txt
  rw [if_neg (by omega)]
def v_type (T : Nat) (n : Int) : Int := if 1 ≤ n ∧ n ≤ 8 then (if 200 < (T : Int) + n then -3 else (T : Int) + n) else -1
def t_type (T : Nat) (tx : Nat → Int32) (v : Int64) (n : Int) : Nat × (Nat → Int32) := if (1 ≤ n ∧ n ≤ 8) ∧ ¬ 200 < (T : Int) + n then (T + n.toNat, t_txt tx v T n.toNat n.toNat) else (T, tx)
section PT
variable {S : ZS} {d nc : Nat} {M : ZM} {T : Nat} {tx : Nat → Int32} {W H L n : Nat} {hs lot : Int32} {kc : Nat → ZK} {im : Nat → Option ZB} {tr : Int64}
theorem c_append {i1 i2 i6 i7 i8 x : Int32} {g : Nat → Int32} (h : M[11]? = some (k_rd (T : Int) i1 i2 i6 i7 i8)) (ht : M[12]? = some (.inr (1, 200, .inl g))) (hT : T < 200) : z_C S d 11 [.ref 11, .int x] M none ((M.set 12 (.inr (1, 200, .inl (upd g T (vp_nar .byte x))))).set 11 (k_rd ((T + 1 : Nat) : Int) i1 i2 i6 i7 i8)) := by
  refine c_of rfl rfl (Nat.le_of_ble_eq_true rfl) ?_
  refine g_al rfl rfl ?_
  refine g_gf rfl h rfl rfl ?_
  refine g_ifF rfl (zcF2 ⟨by omega, by omega⟩ ⟨by omega, by omega⟩ (by omega)) ?_
  refine g_al rfl rfl ?_
  refine g_gf rfl h rfl rfl ?_
  refine g_ic rfl ?_
  refine g_icF rfl (zcF3 ⟨by omega, by omega⟩ ⟨by omega, by omega⟩ (by omega)) ?_
  refine g_al rfl rfl ?_
  refine g_gf rfl h rfl rfl ?_
  refine g_al rfl rfl ?_
  refine g_gf rfl h rfl rfl ?_
  refine g_il rfl rfl ?_
  refine g_bSI rfl ht (by omega) (by omega) (by omega) ?_
  refine g_al rfl rfl ?_
  refine g_dupA rfl ?_
  refine g_gf rfl (z_gn (by decide) h) rfl rfl ?_
  refine g_ic rfl ?_
  refine g_addI rfl ?_
  rw [Int.toNat_natCast]
  refine g_pf0 rfl (z_gn (by decide) h) rfl rfl rfl (Or.inl rfl) ?_
  rw [show (T : Int) + 1 = ((T + 1 : Nat) : Int) by omega]
  exact g_retv rfl (rfl) rfl
theorem x_type_l {i1 i2 i6 i7 i8 : Int32} {g : Nat → Int32} {v : Int64} (h0 : M[0]? = some (.inl (5, [.ref 1, .ref 11, .ref 25, .ref 33, .ref 38, .ref 40, .ref 61, .long tr]))) (h1 : M[11]? = some (k_rd (T : Int) i1 i2 i6 i7 i8)) (h2 : M[12]? = some (.inr (1, 200, .inl g))) (hn : n ≤ 8) (hT : T + n ≤ 200) : ∀ (m t : Nat), t + m = n → z_G S (d + 1) 70 36 [some (.ref 0), some (.long v), none, some (.int (zI (n : Int))), some (.int (zI ((n : Int) - 1 - (t : Int))))] [] ((M.set 12 (.inr (1, 200, .inl (t_txt g v T n t)))).set 11 (k_rd ((T + t : Nat) : Int) i1 i2 i6 i7 i8)) (some (.int (zI ((T + n : Nat) : Int)))) ((M.set 12 (.inr (1, 200, .inl (t_txt g v T n n)))).set 11 (k_rd ((T + n : Nat) : Int) i1 i2 i6 i7 i8)) := by
  intro m
  induction m with
  | zero =>
    intro t ht
    have q0 : (((M.set 12 (.inr (1, 200, .inl (t_txt g v T n t)))).set 11 (k_rd ((T + t : Nat) : Int) i1 i2 i6 i7 i8)))[0]? = _ := z_gn (show 11 ≠ 0 by decide) (z_gn (show 12 ≠ 0 by decide) h0)
    have q1 : (((M.set 12 (.inr (1, 200, .inl (t_txt g v T n t)))).set 11 (k_rd ((T + t : Nat) : Int) i1 i2 i6 i7 i8)))[11]? = _ := z_gs (z_gn (show 12 ≠ 11 by decide) h1)
    have q2 : (((M.set 12 (.inr (1, 200, .inl (t_txt g v T n t)))).set 11 (k_rd ((T + t : Nat) : Int) i1 i2 i6 i7 i8)))[12]? = _ := z_gn (show 11 ≠ 12 by decide) (z_gs h2)
    refine g_il rfl rfl ?_
    refine g_ifT rfl (zcT2 ⟨by omega, by omega⟩ ⟨by omega, by omega⟩ (by omega)) ?_
    refine g_al rfl rfl ?_
    refine g_gf rfl q0 rfl rfl ?_
    refine g_gf rfl q1 rfl rfl ?_
    rw [show t = n by omega]
    exact g_reti rfl (rfl) rfl
  | succ m ih =>
    intro t ht
    have q0 : (((M.set 12 (.inr (1, 200, .inl (t_txt g v T n t)))).set 11 (k_rd ((T + t : Nat) : Int) i1 i2 i6 i7 i8)))[0]? = _ := z_gn (show 11 ≠ 0 by decide) (z_gn (show 12 ≠ 0 by decide) h0)
    have q1 : (((M.set 12 (.inr (1, 200, .inl (t_txt g v T n t)))).set 11 (k_rd ((T + t : Nat) : Int) i1 i2 i6 i7 i8)))[11]? = _ := z_gs (z_gn (show 12 ≠ 11 by decide) h1)
    have q2 : (((M.set 12 (.inr (1, 200, .inl (t_txt g v T n t)))).set 11 (k_rd ((T + t : Nat) : Int) i1 i2 i6 i7 i8)))[12]? = _ := z_gn (show 11 ≠ 12 by decide) (z_gs h2)
    refine g_il rfl rfl ?_
    refine g_ifF rfl (zcF2 ⟨by omega, by omega⟩ ⟨by omega, by omega⟩ (by omega)) ?_
    refine g_al rfl rfl ?_
    refine g_gf rfl q0 rfl rfl ?_
    refine g_ll rfl rfl ?_
    refine g_ic rfl ?_
    refine g_il rfl rfl ?_
    refine g_mulI rfl ?_
    refine g_lushr rfl ?_
    refine g_l2i rfl ?_
    refine g_i2b rfl ?_
    refine g_cv1v rfl rfl q1 rfl (by decide) rfl (c_append (T := T + t) q1 q2 (by omega)) ?_
    rw [w_two (by decide)]
    have e1 : vp_nar .byte (v.toUInt64 >>> ((zI (8 * ((n : Int) - 1 - (t : Int)))).toInt64.toUInt64 &&& Int64.toUInt64 63)).toInt64.toInt32.toInt8.toInt32 = p_byte v (n - 1 - t) := by
      rw [pk_vb, show (n : Int) - 1 - (t : Int) = ((n - 1 - t : Nat) : Int) by omega]
      rfl
    rw [e1, t_txt_s, show T + t + 1 = T + (t + 1) by omega]
    refine g_jj4 rfl rfl ?_
    refine g_goto rfl ?_
    rw [show (n : Int) - 1 - (t : Int) + (-1) = (n : Int) - 1 - ((t + 1 : Nat) : Int) by omega]
    exact ih (t + 1) (by omega)
theorem x_type {v : Int64} {n : Int} (hn9 : z_sm n) : z_Xc S 70 [.long v, .int (zI n)] ((T, tx), (W, H, L), (hs, lot, nc, kc), im, tr) (.int (zI (v_type T n))) (t_type T tx v n, (W, H, L), (hs, lot, nc, kc), im, tr) := by
  intro d M hX
  obtain ⟨x1, x2, x3, x4, x5, x6, x7, x8⟩ := id hX
  have hA : k_A M 1 W H L hs lot nc kc := x3
  obtain ⟨ha, hO, ch, hR, hk9⟩ := id hA
  obtain ⟨o1, ⟨hW1, hW2⟩, ⟨hH1, hH2⟩, ⟨hL1, hL2⟩, hn⟩ := id hO
  have hC := p_WH hW2 hH2
  obtain ⟨t1, ⟨i1, i2, i6, i7, i8, t2⟩, ⟨g, t3, t4⟩, ⟨vd, t5⟩, ⟨cd, t6⟩, rt, t7⟩ := id x4
  have t4 : ∀ j, j < T → g j = tx j := t4
  have t1 : T ≤ 200 := t1
  have t2 : M[11]? = some (k_rd (T : Int) i1 i2 i6 i7 i8) := t2
  unfold v_type t_type
  by_cases hv : 1 ≤ n ∧ n ≤ 8
  · obtain ⟨q, rfl⟩ : ∃ q : Nat, n = (q : Int) := ⟨n.toNat, by omega⟩
    rw [if_pos hv]
    by_cases hf : 200 < (T : Int) + (q : Int)
    · rw [if_pos hf, if_neg (fun g => g.2 hf)]
      refine ⟨M, ?_, hX, .rf⟩
      refine c_of rfl rfl (Nat.le_of_ble_eq_true rfl) ?_
      refine g_il rfl rfl ?_
      refine g_ic rfl ?_
      refine g_icF rfl (zcF2 ⟨by omega, by omega⟩ ⟨by omega, by omega⟩ (by omega)) ?_
      refine g_il rfl rfl ?_
      refine g_ic rfl ?_
      refine g_icT rfl (zcT5 ⟨by omega, by omega⟩ ⟨by omega, by omega⟩ (by omega)) ?_
      refine g_al rfl rfl ?_
      refine g_gf rfl x2 rfl rfl ?_
      refine g_gf rfl t2 rfl rfl ?_
      refine g_il rfl rfl ?_
      refine g_addI rfl ?_
      refine g_ic rfl ?_
      refine g_icF rfl (zcF5 ⟨by omega, by omega⟩ ⟨by omega, by omega⟩ (by omega)) ?_
      refine g_ic rfl ?_
      exact g_reti rfl (rfl) rfl
    · rw [if_neg hf, if_pos ⟨hv, hf⟩, Int.toNat_natCast, show (T : Int) + (q : Int) = ((T + q : Nat) : Int) by omega]
      have e9 : z_ev M ((M.set 12 (.inr (1, 200, .inl (t_txt g v T q q)))).set 11 (k_rd ((T + q : Nat) : Int) i1 i2 i6 i7 i8)) (fun k => k = 11 ∨ k = 12) := (z_ev.set (Or.inr rfl)).tr (.set (Or.inl rfl))
      refine ⟨_, ?_, hX.read (T' := T + q) (tx' := t_txt tx v T q q) (e9.wk (fun k g => by omega)) ⟨by omega, ⟨i1, i2, i6, i7, i8, z_gs (z_gn (by decide) t2)⟩, ⟨_, z_gn (by decide) (z_gs t3), fun j hj => ?_⟩, ⟨vd, t5.ev e9 (by decide)⟩, ⟨cd, t6.eqv e9 (fun k g1 g2 => by omega)⟩, rt, t7.eqv e9 (by decide) (by decide)⟩, e9.wk (fun k g => by omega)⟩
      · refine c_of rfl rfl (Nat.le_of_ble_eq_true rfl) ?_
        refine g_il rfl rfl ?_
        refine g_ic rfl ?_
        refine g_icF rfl (zcF2 ⟨by omega, by omega⟩ ⟨by omega, by omega⟩ (by omega)) ?_
        refine g_il rfl rfl ?_
        refine g_ic rfl ?_
        refine g_icT rfl (zcT5 ⟨by omega, by omega⟩ ⟨by omega, by omega⟩ (by omega)) ?_
        refine g_al rfl rfl ?_
        refine g_gf rfl x2 rfl rfl ?_
        refine g_gf rfl t2 rfl rfl ?_
        refine g_il rfl rfl ?_
        refine g_addI rfl ?_
        refine g_ic rfl ?_
        refine g_icT rfl (zcT5 ⟨by omega, by omega⟩ ⟨by omega, by omega⟩ (by omega)) ?_
        refine g_il rfl rfl ?_
        refine g_ic rfl ?_
        refine g_subI rfl ?_
        refine g_is4 rfl rfl ?_
        have e1 := x_type_l (S := S) (d := d + 19) (T := T) (n := q) (v := v) x2 t2 t3 (by omega) (by omega) q 0 (by omega)
        rw [t_txt_0, show T + 0 = T from rfl, z_same t3, z_same t2, show (q : Int) - 1 - ((0 : Nat) : Int) = (q : Int) - 1 by omega] at e1
        exact e1
      · show t_txt g v T q q j = t_txt tx v T q q j
        unfold t_txt
        by_cases h5 : T ≤ j ∧ j < T + q
        · rw [if_pos h5, if_pos h5]
        · rw [if_neg h5, if_neg h5]
          exact t4 j (by omega)
  · rw [if_neg hv, if_neg (fun g => hv g.1)]
    refine ⟨M, ?_, hX, .rf⟩
    refine c_of rfl rfl (Nat.le_of_ble_eq_true rfl) ?_
    refine g_il rfl rfl ?_
    refine g_ic rfl ?_
    by_cases hl : n < 1
    · refine g_icT rfl (zcT2 ⟨by omega, by omega⟩ ⟨by omega, by omega⟩ (hl)) ?_
      refine g_ic rfl ?_
      exact g_reti rfl (rfl) rfl
    · refine g_icF rfl (zcF2 ⟨by omega, by omega⟩ ⟨by omega, by omega⟩ (hl)) ?_
      refine g_il rfl rfl ?_
      refine g_ic rfl ?_
      refine g_icF rfl (zcF5 ⟨by omega, by omega⟩ ⟨by omega, by omega⟩ (by omega)) ?_
      refine g_ic rfl ?_
      exact g_reti rfl (rfl) rfl
theorem y_type_l {u : Nat → Int32} {g : Nat → Int32} {v : Int64} (h1 : M[62]? = some (.inl (6, m_f tr u))) (h2 : M[63]? = some (.inr (1, 200, .inl g))) (hn : n ≤ 8) (hT : T + n ≤ 200) : ∀ (m t : Nat), t + m = n → z_G S (d + 1) 103 32 [some (.ref 62), some (.long v), none, some (.int (zI (n : Int))), some (.int (zI ((n : Int) - 1 - (t : Int))))] [] ((M.set 63 (.inr (1, 200, .inl (t_txt g v T n t)))).set 62 (.inl (6, m_f tr (upd u 2 (zI ((T + t : Nat) : Int)))))) (some (.int (zI ((T + n : Nat) : Int)))) ((M.set 63 (.inr (1, 200, .inl (t_txt g v T n n)))).set 62 (.inl (6, m_f tr (upd u 2 (zI ((T + n : Nat) : Int)))))) := by
  intro m
  induction m with
  | zero =>
    intro t ht
    have q0 : (((M.set 63 (.inr (1, 200, .inl (t_txt g v T n t)))).set 62 (.inl (6, m_f tr (upd u 2 (zI ((T + t : Nat) : Int)))))))[62]? = _ := z_gs (z_gn (show 63 ≠ 62 by decide) h1)
    have q1 : (((M.set 63 (.inr (1, 200, .inl (t_txt g v T n t)))).set 62 (.inl (6, m_f tr (upd u 2 (zI ((T + t : Nat) : Int)))))))[63]? = _ := z_gn (show 62 ≠ 63 by decide) (z_gs h2)
    refine g_il rfl rfl ?_
    refine g_ifT rfl (zcT2 ⟨by omega, by omega⟩ ⟨by omega, by omega⟩ (by omega)) ?_
    refine g_al rfl rfl ?_
    refine g_gf rfl q0 rfl rfl ?_
    rw [show t = n by omega]
    exact g_reti rfl (rfl) rfl
  | succ m ih =>
    intro t ht
    have q0 : (((M.set 63 (.inr (1, 200, .inl (t_txt g v T n t)))).set 62 (.inl (6, m_f tr (upd u 2 (zI ((T + t : Nat) : Int)))))))[62]? = _ := z_gs (z_gn (show 63 ≠ 62 by decide) h1)
    have q1 : (((M.set 63 (.inr (1, 200, .inl (t_txt g v T n t)))).set 62 (.inl (6, m_f tr (upd u 2 (zI ((T + t : Nat) : Int)))))))[63]? = _ := z_gn (show 62 ≠ 63 by decide) (z_gs h2)
    refine g_il rfl rfl ?_
    refine g_ifF rfl (zcF2 ⟨by omega, by omega⟩ ⟨by omega, by omega⟩ (by omega)) ?_
    refine g_al rfl rfl ?_
    refine g_gf rfl q0 rfl rfl ?_
    refine g_al rfl rfl ?_
    refine g_gf rfl q0 rfl rfl ?_
    refine g_ll rfl rfl ?_
    refine g_ic rfl ?_
    refine g_il rfl rfl ?_
    refine g_mulI rfl ?_
    refine g_lshr rfl ?_
    refine g_lc rfl ?_
    refine g_land rfl ?_
    refine g_l2i rfl ?_
    refine g_i2b rfl ?_
    rw [show upd u 2 (zI ((T + t : Nat) : Int)) 2 = zI ((T + t : Nat) : Int) from pk_us]
    refine g_bSI rfl q1 (by omega) (by omega) (by omega) ?_
    rw [Int.toNat_natCast, pk_vb]
    have e1 : ((v >>> ((zI (8 * ((n : Int) - 1 - (t : Int)))).toInt64 &&& 63)) &&& Int64.ofInt 255).toInt32.toInt8.toInt32 = p_byte v (n - 1 - t) := by
      rw [show (n : Int) - 1 - (t : Int) = ((n - 1 - t : Nat) : Int) by omega]
      exact p_byte_ref v (by omega)
    rw [e1, t_txt_s]
    refine g_al rfl rfl ?_
    refine g_dupA rfl ?_
    refine g_gf rfl (z_gn (by decide) q0) rfl rfl ?_
    refine g_ic rfl ?_
    refine g_addI rfl ?_
    refine g_pf2 rfl (z_gn (by decide) q0) rfl rfl rfl (Or.inl rfl) ?_
    rw [w_two (by decide)]
    refine g_jj4 rfl rfl ?_
    refine g_goto rfl ?_
    rw [show (n : Int) - 1 - (t : Int) + (-1) = (n : Int) - 1 - ((t + 1 : Nat) : Int) by omega]
    exact ih (t + 1) (by omega)
theorem upd_self {u : Nat → Int32} {k : Nat} {x : Int32} (h : u k = x) (j : Nat) : upd u k x j = u j := by
  by_cases hj : j = k
  · subst hj
    rw [pk_us, h]
  · rw [pk_un hj]
theorem y_type {v : Int64} {n : Int} (hn9 : z_sm n) : z_Yc S 103 [.long v, .int (zI n)] ((T, tx), (W, H, L), (hs, lot, nc, kc), im, tr) (.int (zI (v_type T n))) (t_type T tx v n, (W, H, L), (hs, lot, nc, kc), im, tr) := by
  intro d M hY
  obtain ⟨y1, u, wd, hd, ld, nw, h, y3, y4, y5, y6, y7, y8⟩ := id hY
  have h : m_Y M tr u wd hd ld nw W H L hs lot nc kc := h
  obtain ⟨⟨h1, h2, h3, h4, h5⟩, ⟨w1, w2, w3⟩, ⟨⟨hW1, hW2⟩, ⟨hH1, hH2⟩, ⟨hL1, hL2⟩, hn⟩, ⟨a1, a2, a3, a4⟩, hok⟩ := id h
  have hC := p_WH hW2 hH2
  obtain ⟨g, g1, g2⟩ := y5
  obtain ⟨kf, k1, k2⟩ := y6
  have g2 : ∀ j, j < T → g j = tx j := g2
  have y4 : T ≤ 200 := y4
  have y3 : u 2 = zI (T : Int) := y3
  unfold v_type t_type
  by_cases hv : 1 ≤ n ∧ n ≤ 8
  · obtain ⟨q, rfl⟩ : ∃ q : Nat, n = (q : Int) := ⟨n.toNat, by omega⟩
    rw [if_pos hv]
    by_cases hf : 200 < (T : Int) + (q : Int)
    · rw [if_pos hf, if_neg (fun g => g.2 hf)]
      refine ⟨M, ?_, hY, .rf⟩
      refine c_of rfl rfl (Nat.le_of_ble_eq_true rfl) ?_
      refine g_il rfl rfl ?_
      refine g_ic rfl ?_
      refine g_ic rfl ?_
      refine g_cs3 rfl rfl rfl rfl (m_in hn9 ⟨by omega, by omega⟩ ⟨by omega, by omega⟩) ?_
      rw [if_pos hv]
      refine g_ifT rfl (zcT1 ⟨by omega, by omega⟩ ⟨by omega, by omega⟩ (by decide)) ?_
      refine g_al rfl rfl ?_
      refine g_gf rfl h1 rfl rfl ?_
      refine g_il rfl rfl ?_
      rw [y3]
      refine g_addI rfl ?_
      refine g_ic rfl ?_
      refine g_icF rfl (zcF5 ⟨by omega, by omega⟩ ⟨by omega, by omega⟩ (by omega)) ?_
      refine g_ic rfl ?_
      exact g_reti rfl (rfl) rfl
    · rw [if_neg hf, if_pos ⟨hv, hf⟩, Int.toNat_natCast, show (T : Int) + (q : Int) = ((T + q : Nat) : Int) by omega]
      have e9 : z_ev M ((M.set 63 (.inr (1, 200, .inl (t_txt g v T q q)))).set 62 (.inl (6, m_f tr (upd u 2 (zI ((T + q : Nat) : Int)))))) (fun k => k = 62 ∨ k = 63) := (z_ev.set (Or.inr rfl)).tr (.set (Or.inl rfl))
      refine ⟨_, ?_, ⟨by rw [e9.1]; exact y1, upd u 2 (zI ((T + q : Nat) : Int)), wd, hd, ld, nw, ⟨⟨z_gs (z_gn (by decide) h1), (e9.2 64 (by decide)).trans h2, (e9.2 65 (by decide)).trans h3, (e9.2 66 (by decide)).trans h4, (e9.2 67 (by decide)).trans h5⟩, ⟨w1, w2, w3⟩, ⟨⟨hW1, hW2⟩, ⟨hH1, hH2⟩, ⟨hL1, hL2⟩, hn⟩, ⟨a1, a2, a3, a4⟩, hok⟩, pk_us, by show T + q ≤ 200; omega, ⟨_, z_gn (by decide) (z_gs g1), fun j hj => ?_⟩, ⟨kf, (e9.2 68 (by decide)).trans k1, k2⟩, y7, y8.ev e9 (fun k g1 g2 => by omega)⟩, e9.wk (fun k g => by omega)⟩
      · refine c_of rfl rfl (Nat.le_of_ble_eq_true rfl) ?_
        refine g_il rfl rfl ?_
        refine g_ic rfl ?_
        refine g_ic rfl ?_
        refine g_cs3 rfl rfl rfl rfl (m_in hn9 ⟨by omega, by omega⟩ ⟨by omega, by omega⟩) ?_
        rw [if_pos hv]
        refine g_ifT rfl (zcT1 ⟨by omega, by omega⟩ ⟨by omega, by omega⟩ (by decide)) ?_
        refine g_al rfl rfl ?_
        refine g_gf rfl h1 rfl rfl ?_
        refine g_il rfl rfl ?_
        rw [y3]
        refine g_addI rfl ?_
        refine g_ic rfl ?_
        refine g_icT rfl (zcT5 ⟨by omega, by omega⟩ ⟨by omega, by omega⟩ (by omega)) ?_
        refine g_il rfl rfl ?_
        refine g_ic rfl ?_
        refine g_subI rfl ?_
        refine g_is4 rfl rfl ?_
        have e1 := y_type_l (S := S) (d := d + 19) (T := T) (n := q) (v := v) h1 g1 (by omega) (by omega) q 0 (by omega)
        rw [t_txt_0, show T + 0 = T from rfl, z_same g1, show upd u 2 (zI (T : Int)) = u by funext j; exact upd_self y3 j, z_same h1, show (q : Int) - 1 - ((0 : Nat) : Int) = (q : Int) - 1 by omega] at e1
        exact e1
      · have hj : j < T + q := hj
        show t_txt g v T q q j = t_txt tx v T q q j
        unfold t_txt
        by_cases h5 : T ≤ j ∧ j < T + q
        · rw [if_pos h5, if_pos h5]
        · rw [if_neg h5, if_neg h5]
          exact g2 j (by omega)
  · rw [if_neg hv, if_neg (fun g => hv g.1)]
    refine ⟨M, ?_, hY, .rf⟩
    refine c_of rfl rfl (Nat.le_of_ble_eq_true rfl) ?_
    refine g_il rfl rfl ?_
    refine g_ic rfl ?_
    refine g_ic rfl ?_
    refine g_cs3 rfl rfl rfl rfl (m_in hn9 ⟨by omega, by omega⟩ ⟨by omega, by omega⟩) ?_
    rw [if_neg hv]
    refine g_ifF rfl (zcF1 (rfl)) ?_
    refine g_ic rfl ?_
    exact g_reti rfl (rfl) rfl
end PT
