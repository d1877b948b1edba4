/-! small writes -/
theorem k_R.upd {M : ZM} {a x : Nat} {ch : Nat → ZCh} {c : ZE} (h : k_R M a ch) (h0 : x = a + 1 → False) (h1 : ∀ k, a + 2 ≤ k → k < a + 10 → x = k → False) : k_R (M.set x c) a ch := by
  obtain ⟨⟨cf, g1, g2⟩, g3⟩ := h
  exact ⟨⟨cf, z_gn (fun g => h0 g) g1, g2⟩, fun k hk => ⟨z_gn (fun g => h1 _ (by omega) (by omega) g) (g3 k hk).1, z_gn (fun g => h1 _ (by omega) (by omega) g) (g3 k hk).2⟩⟩
theorem k_A.cell {M : ZM} {a W H L n n' : Nat} {hs lot lot' : Int32} {kc : Nat → ZK} (h : k_A M a W H L hs lot n kc) (hn : n' ≤ n) : k_A (M.set a (.inl (2, [.int (zI (W : Int)), .int (zI (H : Int)), .int (zI (L : Int)), .int hs, .int (zI (n' : Int)), .int lot', .ref (a + 1)]))) a W H L hs lot' n' kc := by
  obtain ⟨h1, hO, ch, hR, hk⟩ := h
  obtain ⟨o1, o2, o3, o4, o5⟩ := hO
  exact ⟨h1, ⟨z_gs o1, o2, o3, o4, by omega⟩, ch, hR.upd (fun g => by omega) (fun k g1 g2 g3 => by omega), fun k hk' => hk k (by omega)⟩
theorem X_I.site {M M' : ZM} {T : Nat} {tx : Nat → Int32} {W H L : Nat} {b b' : ZB} {im : Nat → Option ZB} {tr : Int64} (e : z_ev M M' (fun k => 1 ≤ k ∧ k < 11)) (h : X_I M ((T, tx), (W, H, L), b, im, tr)) (hA : k_A M' 1 W H L b'.1 b'.2.1 b'.2.2.1 b'.2.2.2) : X_I M' ((T, tx), (W, H, L), b', im, tr) := by
  obtain ⟨h1, h2, h3, h4, h5, h6, ⟨r, h7⟩, h8⟩ := h
  exact ⟨by rw [e.1]; exact h1, (e.2 _ (by omega)).trans h2, hA, h4.ev e (fun k g1 g2 => by omega), h5.ev e (fun k g1 g2 => by omega), h6.ev e (fun k g1 g2 => by omega), ⟨r, h7.eqv e (by omega) (by omega)⟩, h8.ev e (fun k g1 g2 => by omega)⟩
theorem X_I.read {M M' : ZM} {T T' : Nat} {tx tx' : Nat → Int32} {Y : Nat × Nat × Nat} {b : ZB} {im : Nat → Option ZB} {tr : Int64} (e : z_ev M M' (fun k => 11 ≤ k ∧ k < 25)) (h : X_I M ((T, tx), Y, b, im, tr)) (hR : x_R M' T' tx') : X_I M' ((T', tx'), Y, b, im, tr) := by
  obtain ⟨h1, h2, h3, h4, h5, h6, ⟨r, h7⟩, h8⟩ := h
  exact ⟨by rw [e.1]; exact h1, (e.2 _ (by omega)).trans h2, h3.ev e (fun k g1 g2 => by omega), hR, h5.ev e (fun k g1 g2 => by omega), h6.ev e (fun k g1 g2 => by omega), ⟨r, h7.eqv e (by omega) (by omega)⟩, h8.ev e (fun k g1 g2 => by omega)⟩
theorem Y_I.now {M : ZM} {T : Nat} {tx : Nat → Int32} {W H L : Nat} {b b' : ZB} {im : Nat → Option ZB} {tr : Int64} {v wd hd ld nw nw' : Nat → Int32} (h : Y_I M ((T, tx), (W, H, L), b, im, tr)) (hB : m_B M tr v wd hd ld nw) (h9 : ∀ j, 118 ≤ j → nw' j = nw j) (hA : m_A nw' 0 b'.1 b'.2.1 b'.2.2.1 b'.2.2.2) (hn : b'.2.2.1 ≤ 4) (hok : ∀ k, k < b'.2.2.1 → p_ok W H b'.1 (b'.2.2.2 k)) : Y_I (M.set 67 (.inr (0, 236, .inl nw'))) ((T, tx), (W, H, L), b', im, tr) := by
  obtain ⟨h1, v2, wd2, hd2, ld2, nw2, ⟨⟨a1, a2, a3, a4, a5⟩, g2, ⟨g3, g4, g5, -⟩, -, -⟩, h3, h4, ⟨g, h5, h5b⟩, ⟨kf, h6, h6b⟩, h7, h8⟩ := h
  have e5 : nw2 = nw := by
    have := a5.symm.trans hB.2.2.2.2
    cases this
    rfl
  subst e5
  refine ⟨by rw [List.length_set]; exact h1, v2, wd2, hd2, ld2, nw', ⟨⟨z_gn (by decide) a1, z_gn (by decide) a2, z_gn (by decide) a3, z_gn (by decide) a4, z_gs a5⟩, g2, ⟨g3, g4, g5, hn⟩, hA, hok⟩, h3, h4, ⟨g, z_gn (by decide) h5, h5b⟩, ⟨kf, z_gn (by decide) h6, h6b⟩, fun i hi b hb => ?_, h8.ev (.set (P := fun k => k = 67) rfl) (fun k g1 g2 => by omega)⟩
  obtain ⟨⟨m1, m2, m3, m4⟩, q1, q2⟩ := h7 i hi b hb
  refine ⟨⟨(h9 _ (by omega)).trans m1, (h9 _ (by omega)).trans m2, (h9 _ (by omega)).trans m3, fun k hk => ⟨(h9 _ (by omega)).trans (m4 k hk).1, (h9 _ (by omega)).trans (m4 k hk).2.1, fun j hj => (h9 _ (by omega)).trans ((m4 k hk).2.2 j hj)⟩⟩, q1, q2⟩
section PW
variable {S : ZS} {T : Nat} {tx : Nat → Int32} {W H L n : Nat} {hs lot : Int32} {kc : Nat → ZK} {im : Nat → Option ZB} {tr : Int64}
theorem x_lot {x : Int32} : z_Xc S 84 [.int x] ((T, tx), (W, H, L), (hs, lot, n, kc), im, tr) (.int lot) ((T, tx), (W, H, L), (hs, x, n, kc), im, tr) := by
  intro d M hX
  obtain ⟨x1, x2, x3, x4, x5, x6, x7, x8⟩ := id hX
  have hA : k_A M 1 W H L hs lot n kc := x3
  obtain ⟨ha, hO, ch, hR, hk9⟩ := id hA
  obtain ⟨o1, ⟨hW1, hW2⟩, ⟨hH1, hH2⟩, ⟨hL1, hL2⟩, hn⟩ := id hO
  have hC := p_WH hW2 hH2
  refine ⟨_, ?_, hX.site (b' := (hs, x, n, kc)) (.set (by omega)) (hA.cell (lot' := x) (Nat.le_refl n)), .set (by omega)⟩
  refine c_of rfl rfl (Nat.le_of_ble_eq_true rfl) ?_
  refine g_al rfl rfl ?_
  refine g_gf rfl x2 rfl rfl ?_
  refine g_gf rfl o1 rfl rfl ?_
  refine g_is2 rfl rfl ?_
  refine g_al rfl rfl ?_
  refine g_gf rfl x2 rfl rfl ?_
  refine g_il rfl rfl ?_
  refine g_pf5 rfl o1 rfl rfl rfl (Or.inl rfl) ?_
  refine g_il rfl rfl ?_
  exact g_reti rfl (rfl) rfl
theorem y_lot {x : Int32} : z_Yc S 151 [.int x] ((T, tx), (W, H, L), (hs, lot, n, kc), im, tr) (.int lot) ((T, tx), (W, H, L), (hs, x, n, kc), im, tr) := by
  intro d M hY
  obtain ⟨y1, v, wd, hd, ld, nw, h, y3, y4, y5, y6, y7, y8⟩ := id hY
  have h : m_Y M tr v wd hd ld nw W H L hs lot n kc := h
  obtain ⟨⟨h1, h2, h3, h4, h5⟩, ⟨w1, w2, w3⟩, ⟨⟨hW1, hW2⟩, ⟨hH1, hH2⟩, ⟨hL1, hL2⟩, hn⟩, ⟨a1, a2, a3, a4⟩, hok⟩ := id h
  have hC := p_WH hW2 hH2
  refine ⟨_, ?_, hY.now (b' := (hs, x, n, kc)) (nw' := upd nw (Int.toNat 2) x) ⟨h1, h2, h3, h4, h5⟩ (fun j hj => pk_un (by show j ≠ 2; omega)) ⟨(pk_un (by decide)).trans a1, (pk_un (by decide)).trans a2, pk_us, fun k hk => ⟨(pk_un (by show _ ≠ 2; omega)).trans (a4 k hk).1, (pk_un (by show _ ≠ 2; omega)).trans (a4 k hk).2.1, fun j hj => (pk_un (by show _ ≠ 2; omega)).trans ((a4 k hk).2.2 j hj)⟩⟩ hn hok, .set (by omega)⟩
  refine c_of rfl rfl (Nat.le_of_ble_eq_true rfl) ?_
  refine g_al rfl rfl ?_
  refine g_gf rfl h1 rfl rfl ?_
  refine g_ic rfl ?_
  refine g_iaI rfl (by decide) h5 (by omega) (by omega) (by omega) ?_
  refine g_is2 rfl rfl ?_
  refine g_al rfl rfl ?_
  refine g_gf rfl h1 rfl rfl ?_
  refine g_ic rfl ?_
  refine g_il rfl rfl ?_
  refine g_iSI rfl h5 (by omega) (by omega) (by omega) ?_
  refine g_il rfl rfl ?_
  exact g_reti rfl (by rw [show nw (Int.toNat 2) = lot from a3]) rfl
theorem x_clear : z_Xc S 71 [] ((T, tx), (W, H, L), (hs, lot, n, kc), im, tr) (.int (zI (T : Int))) ((0, tx), (W, H, L), (hs, lot, n, kc), im, tr) := by
  intro d M hX
  obtain ⟨x1, x2, x3, x4, x5, x6, x7, x8⟩ := id hX
  have hA : k_A M 1 W H L hs lot n kc := x3
  obtain ⟨ha, hO, ch, hR, hk9⟩ := id hA
  obtain ⟨o1, ⟨hW1, hW2⟩, ⟨hH1, hH2⟩, ⟨hL1, hL2⟩, hn⟩ := id hO
  have hC := p_WH hW2 hH2
  obtain ⟨t1, ⟨i1, i2, i6, i7, i8, t2⟩, ⟨g, t3, t4⟩, ⟨vd, t5⟩, ⟨cd, t6⟩, rt, t7⟩ := id x4
  have e : z_ev M (M.set 11 (.inl (1, [.int (zI ((0 : Nat) : Int)), .int i1, .int i2, .ref 13, .ref 12, .ref 23, .int i6, .int i7, .int i8]))) (fun k => k = 11) := .set rfl
  refine ⟨_, ?_, hX.read (T' := 0) (tx' := tx) (e.wk (fun k g => by omega)) ⟨by omega, ⟨i1, i2, i6, i7, i8, z_gs t2⟩, ⟨g, z_gn (by decide) t3, fun j hj => by omega⟩, ⟨vd, t5.ev e (by decide)⟩, ⟨cd, t6.eqv e (fun k g1 g2 => by omega)⟩, rt, t7.eqv e (by decide) (by decide)⟩, e.wk (fun k g => by omega)⟩
  refine c_of rfl rfl (Nat.le_of_ble_eq_true rfl) ?_
  refine g_al rfl rfl ?_
  refine g_gf rfl x2 rfl rfl ?_
  refine g_gf rfl t2 rfl rfl ?_
  refine g_is1 rfl rfl ?_
  refine g_al rfl rfl ?_
  refine g_gf rfl x2 rfl rfl ?_
  refine g_ic rfl ?_
  refine g_pf0 rfl t2 rfl rfl rfl (Or.inl rfl) ?_
  refine g_il rfl rfl ?_
  exact g_reti rfl (rfl) rfl
theorem y_clear : z_Yc S 104 [] ((T, tx), (W, H, L), (hs, lot, n, kc), im, tr) (.int (zI (T : Int))) ((0, tx), (W, H, L), (hs, lot, n, kc), im, tr) := by
  intro d M hY
  obtain ⟨y1, v, wd, hd, ld, nw, h, y3, y4, y5, y6, y7, y8⟩ := id hY
  have h : m_Y M tr v wd hd ld nw W H L hs lot n kc := h
  obtain ⟨⟨h1, h2, h3, h4, h5⟩, ⟨w1, w2, w3⟩, ⟨⟨hW1, hW2⟩, ⟨hH1, hH2⟩, ⟨hL1, hL2⟩, hn⟩, ⟨a1, a2, a3, a4⟩, hok⟩ := id h
  have hC := p_WH hW2 hH2
  obtain ⟨g, g1, g2⟩ := y5
  obtain ⟨kf, k1, k2⟩ := y6
  refine ⟨_, ?_, ⟨by rw [List.length_set]; exact y1, (fun k => if k = 2 then zI ((0 : Nat) : Int) else v k), wd, hd, ld, nw, ⟨⟨z_gs h1, z_gn (by decide) h2, z_gn (by decide) h3, z_gn (by decide) h4, z_gn (by decide) h5⟩, ⟨w1, w2, w3⟩, ⟨⟨hW1, hW2⟩, ⟨hH1, hH2⟩, ⟨hL1, hL2⟩, hn⟩, ⟨a1, a2, a3, a4⟩, hok⟩, rfl, by show 0 ≤ 200; omega, ⟨g, z_gn (by decide) g1, fun j hj => absurd hj (Nat.not_lt_zero j)⟩, ⟨kf, z_gn (by decide) k1, k2⟩, y7, y8.ev (.set (P := fun k => k = 62) rfl) (fun k g1 g2 => by omega)⟩, .set (by omega)⟩
  refine c_of rfl rfl (Nat.le_of_ble_eq_true rfl) ?_
  refine g_al rfl rfl ?_
  refine g_gf rfl h1 rfl rfl ?_
  refine g_is1 rfl rfl ?_
  refine g_al rfl rfl ?_
  refine g_ic rfl ?_
  refine g_pf2 rfl h1 rfl rfl rfl (Or.inl rfl) ?_
  refine g_il rfl rfl ?_
  exact g_reti rfl (by rw [y3]) rfl
def v_close (n : Nat) : Int := if n = 0 then -2 else ((n - 1 : Nat) : Int)
theorem x_close : z_Xc S 88 [] ((T, tx), (W, H, L), (hs, lot, n, kc), im, tr) (.int (zI (v_close n))) ((T, tx), (W, H, L), (hs, lot, n - 1, kc), im, tr) := by
  intro d M hX
  obtain ⟨x1, x2, x3, x4, x5, x6, x7, x8⟩ := id hX
  have hA : k_A M 1 W H L hs lot n kc := x3
  obtain ⟨ha, hO, ch, hR, hk9⟩ := id hA
  obtain ⟨o1, ⟨hW1, hW2⟩, ⟨hH1, hH2⟩, ⟨hL1, hL2⟩, hn⟩ := id hO
  have hC := p_WH hW2 hH2
  by_cases hz : n = 0
  · refine ⟨M, ?_, hX.site (b' := (hs, lot, n - 1, kc)) .rf (by rw [show n - 1 = n by omega]; exact hA), .rf⟩
    refine c_of rfl rfl (Nat.le_of_ble_eq_true rfl) ?_
    refine g_al rfl rfl ?_
    refine g_gf rfl x2 rfl rfl ?_
    refine g_gf rfl o1 rfl rfl ?_
    refine g_ic rfl ?_
    refine g_icF rfl (zcF3 ⟨by omega, by omega⟩ ⟨by omega, by omega⟩ (by omega)) ?_
    refine g_ic rfl ?_
    exact g_reti rfl (by unfold v_close; rw [if_pos hz]) rfl
  · refine ⟨_, ?_, hX.site (b' := (hs, lot, n - 1, kc)) (.set (by omega)) (hA.cell (lot' := lot) (Nat.sub_le n 1)), .set (by omega)⟩
    refine c_of rfl rfl (Nat.le_of_ble_eq_true rfl) ?_
    refine g_al rfl rfl ?_
    refine g_gf rfl x2 rfl rfl ?_
    refine g_gf rfl o1 rfl rfl ?_
    refine g_ic rfl ?_
    refine g_icT rfl (zcT3 ⟨by omega, by omega⟩ ⟨by omega, by omega⟩ (by omega)) ?_
    refine g_al rfl rfl ?_
    refine g_gf rfl x2 rfl rfl ?_
    refine g_dupA rfl ?_
    refine g_gf rfl o1 rfl rfl ?_
    refine g_ic rfl ?_
    refine g_subI rfl ?_
    rw [show (n : Int) - 1 = ((n - 1 : Nat) : Int) by omega]
    refine g_pf4 rfl o1 rfl rfl rfl (Or.inl rfl) ?_
    refine g_al rfl rfl ?_
    refine g_gf rfl (z_gn (by decide) x2) rfl rfl ?_
    refine g_gf rfl (z_gs o1) rfl rfl ?_
    exact g_reti rfl (by unfold v_close; rw [if_neg hz]) rfl
theorem y_close : z_Yc S 159 [] ((T, tx), (W, H, L), (hs, lot, n, kc), im, tr) (.int (zI (v_close n))) ((T, tx), (W, H, L), (hs, lot, n - 1, kc), im, tr) := by
  intro d M hY
  obtain ⟨y1, v, wd, hd, ld, nw, h, y3, y4, y5, y6, y7, y8⟩ := id hY
  have h : m_Y M tr v wd hd ld nw W H L hs lot n kc := h
  obtain ⟨⟨h1, h2, h3, h4, h5⟩, ⟨w1, w2, w3⟩, ⟨⟨hW1, hW2⟩, ⟨hH1, hH2⟩, ⟨hL1, hL2⟩, hn⟩, ⟨a1, a2, a3, a4⟩, hok⟩ := id h
  have hC := p_WH hW2 hH2
  by_cases hz : n = 0
  · refine ⟨M, ?_, by rw [show n - 1 = n by omega]; exact hY, .rf⟩
    refine c_of rfl rfl (Nat.le_of_ble_eq_true rfl) ?_
    refine g_al rfl rfl ?_
    refine g_gf rfl h1 rfl rfl ?_
    refine g_ic rfl ?_
    refine g_iaI rfl (by decide) h5 (by omega) (by omega) (by omega) ?_
    rw [show nw (Int.toNat 1) = zI (n : Int) from a2]
    refine g_ifF rfl (zcF1 (by omega)) ?_
    refine g_ic rfl ?_
    exact g_reti rfl (by unfold v_close; rw [if_pos hz]) rfl
  · refine ⟨_, ?_, hY.now (b' := (hs, lot, n - 1, kc)) (nw' := upd nw (Int.toNat 1) (zI ((n - 1 : Nat) : Int))) ⟨h1, h2, h3, h4, h5⟩ (fun j hj => pk_un (by show j ≠ 1; omega)) ⟨(pk_un (by decide)).trans a1, pk_us, (pk_un (by decide)).trans a3, fun k hk => ⟨(pk_un (by show _ ≠ 1; omega)).trans (a4 k (Nat.lt_of_lt_of_le hk (Nat.sub_le n 1))).1, (pk_un (by show _ ≠ 1; omega)).trans (a4 k (Nat.lt_of_lt_of_le hk (Nat.sub_le n 1))).2.1, fun j hj => (pk_un (by show _ ≠ 1; omega)).trans ((a4 k (Nat.lt_of_lt_of_le hk (Nat.sub_le n 1))).2.2 j hj)⟩⟩ (by show n - 1 ≤ 4; omega) (fun k hk => hok k (Nat.lt_of_lt_of_le hk (Nat.sub_le n 1))), .set (by omega)⟩
    refine c_of rfl rfl (Nat.le_of_ble_eq_true rfl) ?_
    refine g_al rfl rfl ?_
    refine g_gf rfl h1 rfl rfl ?_
    refine g_ic rfl ?_
    refine g_iaI rfl (by decide) h5 (by omega) (by omega) (by omega) ?_
    rw [show nw (Int.toNat 1) = zI (n : Int) from a2]
    refine g_ifT rfl (zcT1 ⟨by omega, by omega⟩ ⟨by omega, by omega⟩ (by omega)) ?_
    refine g_al rfl rfl ?_
    refine g_gf rfl h1 rfl rfl ?_
    refine g_ic rfl ?_
    refine g_dup2 rfl ?_
    refine g_iaI rfl (by decide) h5 (by omega) (by omega) (by omega) ?_
    rw [show nw (Int.toNat 1) = zI (n : Int) from a2]
    refine g_ic rfl ?_
    refine g_subI rfl ?_
    rw [show (n : Int) - 1 = ((n - 1 : Nat) : Int) by omega]
    refine g_iSI rfl h5 (by omega) (by omega) (by omega) ?_
    refine g_al rfl rfl ?_
    refine g_gf rfl (z_gn (by decide) h1) rfl rfl ?_
    refine g_ic rfl ?_
    refine g_iaI rfl (by decide) (z_gs h5) (by omega) (by omega) (by omega) ?_
    rw [pk_us]
    exact g_reti rfl (by unfold v_close; rw [if_neg hz]) rfl
end PW
