/-! THE LAW: both sides at once -/
/-- what a state keeps between calls besides the rows -/
def l_in (A : ZT) : Prop := p_in A.2.1.1 A.2.1.2.1 A.2.2.1.1 ∧ (∀ i b, A.2.2.2.1 i = some b → p_in A.2.1.1 A.2.1.2.1 b.1) ∧ t_oct A.1.1 A.1.2
def l_I (M : ZM) : Prop := ∃ A, X_I M A ∧ Y_I M A ∧ l_in A ∧ M.length = 78
theorem l_both {S : ZS} {y y' : Nat} {as : List Value} {A A' : ZT} {r : Value} {M : ZM} (hx : z_Xc S y as A r A') (hy : z_Yc S y' as A r A') (hX : X_I M A) (hY : Y_I M A) (hl : M.length = 78) (d : Nat) : ∃ M1 M2 fs0 fs6, M[0]? = some (.inl (5, fs0)) ∧ z_C S (d + 20) y (.ref 0 :: as) M (some r) M1 ∧ M1[62]? = some (.inl (6, fs6)) ∧ z_C S (d + 20) y' (.ref 62 :: as) M1 (some r) M2 ∧ X_I M2 A' ∧ Y_I M2 A' ∧ M2.length = 78 := by
  obtain ⟨M1, c1, X1, e1⟩ := hx d M hX
  have Y1 : Y_I M1 A := hY.ev e1 (fun k h g => absurd g (Nat.not_lt.mpr h))
  obtain ⟨M2, c2, Y2, e2⟩ := hy d M1 Y1
  have X2 : X_I M2 A' := X1.ev e2 (fun k h g => absurd h (Nat.not_lt.mpr g))
  obtain ⟨-, v, wd, hd, ld, nw, ⟨⟨h6, -⟩, -⟩, -⟩ := id Y1
  exact ⟨M1, M2, _, _, hX.2.1, c1, h6, c2, X2, Y2, by rw [e2.1, e1.1]; exact hl⟩
theorem l_cc {x : Int32} : z_cc 0 x x = true := decide_eq_true rfl
theorem l_cj {x : Int64} : z_cc 0 (lg_cmp x x) (zI 0) = true := by
  show decide (lg_cmp x x = 0) = true
  exact decide_eq_true (by rw [lg_cmp_eq])
theorem l_byte (v : Int64) (i : Nat) : ∃ z : Int, p_byte v i = zI z ∧ -128 ≤ z ∧ z ≤ 127 := by
  unfold p_byte
  generalize (v.toUInt64 >>> ((zI (8 * (i : Int))).toInt64.toUInt64 &&& Int64.toUInt64 63)).toInt64.toInt32.toInt8 = x
  refine ⟨x.toInt, ?_, ?_, ?_⟩
  · show x.toInt32 = Int32.ofInt x.toInt
    rw [← Int8.toInt_toInt32, Int32.ofInt_toInt]
  · have := Int8.le_toInt x; omega
  · have := Int8.toInt_lt x; omega
theorem l_type {T : Nat} {tx : Nat → Int32} {v : Int64} {n : Int} (h : t_oct T tx) : t_oct (t_type T tx v n).1 (t_type T tx v n).2 := by
  unfold t_type
  split
  · intro j hj
    show ∃ z : Int, t_txt tx v T n.toNat n.toNat j = zI z ∧ -128 ≤ z ∧ z ≤ 127
    have hj : j < T + n.toNat := hj
    unfold t_txt
    split
    · exact l_byte _ _
    · exact h j (by omega)
  · exact h
theorem l_yard {T : Nat} {tx : Nat → Int32} {A : ZT} (h : l_in A) : l_in (a_yard T tx A) := by
  unfold a_yard
  split
  · exact h
  · rename_i x hx
    have hw := t_run_wf (Nat.zero_le _) t_D0_wf (fun _ => ⟨rfl, rfl⟩) hx
    exact ⟨hw.2.2, fun i b hb => (by cases hb), fun j hj => absurd hj (Nat.not_lt_zero _)⟩
section LW
variable {S : ZS} {d : Nat} {M : ZM} {Q : Option Value → ZM → Prop} {A : ZT} {i : Int}
set_option maxRecDepth 20000 in
theorem l_c_type (hX : X_I M A) (hY : Y_I M A) (hI : l_in A) (hl : M.length = 78) (h0 : 0 ≤ i) (h4 : i + 4 ≤ (S.1 : Int)) (hS : S.1 ≤ 2048) (kx : ∀ M2, l_I M2 → z_R S (d + 21) 168 798 [some (.ref 1000), some (.ref 0), some (.ref 62), some (.int (zI i))] [] M2 Q) : z_R S (d + 21) 168 144 [some (.ref 1000), some (.ref 0), some (.ref 62), some (.int (zI i))] [] M Q := by
  obtain ⟨a1, e1, g1⟩ := zI_of (S.2 (zI (i + 1)).toNatClampNeg)
  obtain ⟨a2, e2, g2⟩ := zI_of (S.2 (zI (i + 2)).toNatClampNeg)
  obtain ⟨a3, e3, g3⟩ := zI_of (S.2 (zI (i + 3)).toNatClampNeg)
  obtain ⟨⟨T, tx⟩, ⟨W, H, L⟩, ⟨hs, lot, n, kc⟩, im, tr⟩ := A
  obtain ⟨M1, M2, fs0, fs6, q1, q2, q3, q4, hX2, hY2, hl2⟩ := l_both (x_type (S := S) (v := ((zI a1).toInt64 <<< ((zI 32).toInt64 &&& 63)) ||| ((zI a2).toInt64 &&& Int64.ofInt 4294967295)) g3) (y_type (S := S) (v := ((zI a1).toInt64 <<< ((zI 32).toInt64 &&& 63)) ||| ((zI a2).toInt64 &&& Int64.ofInt 4294967295)) g3) hX hY hl d
  refine r_al rfl rfl ?_
  refine r_al rfl rfl ?_
  refine r_il rfl rfl ?_
  refine r_ic rfl ?_
  refine r_addI rfl ?_
  refine r_sa rfl (zI_in (by omega) (by omega) (by omega)) ?_
  rw [e1]
  refine r_i2l rfl ?_
  refine r_ic rfl ?_
  refine r_lshl rfl ?_
  refine r_al rfl rfl ?_
  refine r_il rfl rfl ?_
  refine r_ic rfl ?_
  refine r_addI rfl ?_
  refine r_sa rfl (zI_in (by omega) (by omega) (by omega)) ?_
  rw [e2]
  refine r_i2l rfl ?_
  refine r_lc rfl ?_
  refine r_land rfl ?_
  refine r_lor rfl ?_
  refine r_al rfl rfl ?_
  refine r_il rfl rfl ?_
  refine r_ic rfl ?_
  refine r_addI rfl ?_
  refine r_sa rfl (zI_in (by omega) (by omega) (by omega)) ?_
  rw [e3]
  refine r_cv2 rfl rfl q1 rfl (by decide) rfl (q2) ?_
  refine r_al rfl rfl ?_
  refine r_al rfl rfl ?_
  refine r_il rfl rfl ?_
  refine r_ic rfl ?_
  refine r_addI rfl ?_
  refine r_sa rfl (zI_in (by omega) (by omega) (by omega)) ?_
  rw [e1]
  refine r_i2l rfl ?_
  refine r_ic rfl ?_
  refine r_lshl rfl ?_
  refine r_al rfl rfl ?_
  refine r_il rfl rfl ?_
  refine r_ic rfl ?_
  refine r_addI rfl ?_
  refine r_sa rfl (zI_in (by omega) (by omega) (by omega)) ?_
  rw [e2]
  refine r_i2l rfl ?_
  refine r_lc rfl ?_
  refine r_land rfl ?_
  refine r_lor rfl ?_
  refine r_al rfl rfl ?_
  refine r_il rfl rfl ?_
  refine r_ic rfl ?_
  refine r_addI rfl ?_
  refine r_sa rfl (zI_in (by omega) (by omega) (by omega)) ?_
  rw [e3]
  refine r_cv2 rfl rfl q3 rfl (by decide) rfl (q4) ?_
  refine r_icT rfl (l_cc) ?_
  exact kx M2 ⟨_, hX2, hY2, ⟨hI.1, hI.2.1, l_type hI.2.2⟩, hl2⟩
set_option maxRecDepth 20000 in
theorem l_c_clear (hX : X_I M A) (hY : Y_I M A) (hI : l_in A) (hl : M.length = 78) (h0 : 0 ≤ i) (h4 : i + 4 ≤ (S.1 : Int)) (hS : S.1 ≤ 2048) (kx : ∀ M2, l_I M2 → z_R S (d + 21) 168 798 [some (.ref 1000), some (.ref 0), some (.ref 62), some (.int (zI i))] [] M2 Q) : z_R S (d + 21) 168 207 [some (.ref 1000), some (.ref 0), some (.ref 62), some (.int (zI i))] [] M Q := by
  obtain ⟨⟨T, tx⟩, ⟨W, H, L⟩, ⟨hs, lot, n, kc⟩, im, tr⟩ := A
  obtain ⟨M1, M2, fs0, fs6, q1, q2, q3, q4, hX2, hY2, hl2⟩ := l_both (x_clear (S := S) ) (y_clear (S := S) ) hX hY hl d
  refine r_al rfl rfl ?_
  refine r_cv0 rfl rfl q1 rfl (by decide) rfl (q2) ?_
  refine r_al rfl rfl ?_
  refine r_cv0 rfl rfl q3 rfl (by decide) rfl (q4) ?_
  refine r_icT rfl (l_cc) ?_
  exact kx M2 ⟨_, hX2, hY2, ⟨hI.1, hI.2.1, fun j hj => absurd hj (Nat.not_lt_zero _)⟩, hl2⟩
set_option maxRecDepth 20000 in
theorem l_c_yard (hX : X_I M A) (hY : Y_I M A) (hI : l_in A) (hl : M.length = 78) (h0 : 0 ≤ i) (h4 : i + 4 ≤ (S.1 : Int)) (hS : S.1 ≤ 2048) (kx : ∀ M2, l_I M2 → z_R S (d + 21) 168 798 [some (.ref 1000), some (.ref 0), some (.ref 62), some (.int (zI i))] [] M2 Q) : z_R S (d + 21) 168 220 [some (.ref 1000), some (.ref 0), some (.ref 62), some (.int (zI i))] [] M Q := by
  obtain ⟨⟨T, tx⟩, ⟨W, H, L⟩, ⟨hs, lot, n, kc⟩, im, tr⟩ := A
  obtain ⟨M1, M2, fs0, fs6, q1, q2, q3, q4, hX2, hY2, hl2⟩ := l_both (x_yard (S := S) ) (y_yard (S := S) hI.2.2) hX hY hl d
  refine r_al rfl rfl ?_
  refine r_cv0 rfl rfl q1 rfl (by decide) rfl (q2) ?_
  refine r_al rfl rfl ?_
  refine r_cv0 rfl rfl q3 rfl (by decide) rfl (q4) ?_
  refine r_icT rfl (l_cc) ?_
  exact kx M2 ⟨_, hX2, hY2, l_yard hI, hl2⟩
set_option maxRecDepth 20000 in
theorem l_c_cell (hX : X_I M A) (hY : Y_I M A) (hI : l_in A) (hl : M.length = 78) (h0 : 0 ≤ i) (h4 : i + 4 ≤ (S.1 : Int)) (hS : S.1 ≤ 2048) (kx : ∀ M2, l_I M2 → z_R S (d + 21) 168 798 [some (.ref 1000), some (.ref 0), some (.ref 62), some (.int (zI i))] [] M2 Q) : z_R S (d + 21) 168 233 [some (.ref 1000), some (.ref 0), some (.ref 62), some (.int (zI i))] [] M Q := by
  obtain ⟨a1, e1, g1⟩ := zI_of (S.2 (zI (i + 1)).toNatClampNeg)
  obtain ⟨⟨T, tx⟩, ⟨W, H, L⟩, ⟨hs, lot, n, kc⟩, im, tr⟩ := A
  obtain ⟨M1, M2, fs0, fs6, q1, q2, q3, q4, hX2, hY2, hl2⟩ := l_both (x_cell (S := S) g1) (y_cell (S := S) g1) hX hY hl d
  refine r_al rfl rfl ?_
  refine r_al rfl rfl ?_
  refine r_il rfl rfl ?_
  refine r_ic rfl ?_
  refine r_addI rfl ?_
  refine r_sa rfl (zI_in (by omega) (by omega) (by omega)) ?_
  rw [e1]
  refine r_cv1 rfl rfl q1 rfl (by decide) rfl (q2) ?_
  refine r_al rfl rfl ?_
  refine r_al rfl rfl ?_
  refine r_il rfl rfl ?_
  refine r_ic rfl ?_
  refine r_addI rfl ?_
  refine r_sa rfl (zI_in (by omega) (by omega) (by omega)) ?_
  rw [e1]
  refine r_cv1 rfl rfl q3 rfl (by decide) rfl (q4) ?_
  refine r_icT rfl (l_cc) ?_
  exact kx M2 ⟨_, hX2, hY2, hI, hl2⟩
set_option maxRecDepth 20000 in
theorem l_c_chain (hX : X_I M A) (hY : Y_I M A) (hI : l_in A) (hl : M.length = 78) (h0 : 0 ≤ i) (h4 : i + 4 ≤ (S.1 : Int)) (hS : S.1 ≤ 2048) (kx : ∀ M2, l_I M2 → z_R S (d + 21) 168 798 [some (.ref 1000), some (.ref 0), some (.ref 62), some (.int (zI i))] [] M2 Q) : z_R S (d + 21) 168 256 [some (.ref 1000), some (.ref 0), some (.ref 62), some (.int (zI i))] [] M Q := by
  obtain ⟨a1, e1, g1⟩ := zI_of (S.2 (zI (i + 1)).toNatClampNeg)
  obtain ⟨a2, e2, g2⟩ := zI_of (S.2 (zI (i + 2)).toNatClampNeg)
  obtain ⟨⟨T, tx⟩, ⟨W, H, L⟩, ⟨hs, lot, n, kc⟩, im, tr⟩ := A
  obtain ⟨M1, M2, fs0, fs6, q1, q2, q3, q4, hX2, hY2, hl2⟩ := l_both (x_chain (S := S) g1 g2) (y_chain (S := S) g1 g2) hX hY hl d
  refine r_al rfl rfl ?_
  refine r_al rfl rfl ?_
  refine r_il rfl rfl ?_
  refine r_ic rfl ?_
  refine r_addI rfl ?_
  refine r_sa rfl (zI_in (by omega) (by omega) (by omega)) ?_
  rw [e1]
  refine r_al rfl rfl ?_
  refine r_il rfl rfl ?_
  refine r_ic rfl ?_
  refine r_addI rfl ?_
  refine r_sa rfl (zI_in (by omega) (by omega) (by omega)) ?_
  rw [e2]
  refine r_cv2 rfl rfl q1 rfl (by decide) rfl (q2) ?_
  refine r_al rfl rfl ?_
  refine r_al rfl rfl ?_
  refine r_il rfl rfl ?_
  refine r_ic rfl ?_
  refine r_addI rfl ?_
  refine r_sa rfl (zI_in (by omega) (by omega) (by omega)) ?_
  rw [e1]
  refine r_al rfl rfl ?_
  refine r_il rfl rfl ?_
  refine r_ic rfl ?_
  refine r_addI rfl ?_
  refine r_sa rfl (zI_in (by omega) (by omega) (by omega)) ?_
  rw [e2]
  refine r_cv2 rfl rfl q3 rfl (by decide) rfl (q4) ?_
  refine r_icT rfl (l_cc) ?_
  exact kx M2 ⟨_, hX2, hY2, hI, hl2⟩
set_option maxRecDepth 20000 in
theorem l_c_step (hX : X_I M A) (hY : Y_I M A) (hI : l_in A) (hl : M.length = 78) (h0 : 0 ≤ i) (h4 : i + 4 ≤ (S.1 : Int)) (hS : S.1 ≤ 2048) (kx : ∀ M2, l_I M2 → z_R S (d + 21) 168 798 [some (.ref 1000), some (.ref 0), some (.ref 62), some (.int (zI i))] [] M2 Q) : z_R S (d + 21) 168 289 [some (.ref 1000), some (.ref 0), some (.ref 62), some (.int (zI i))] [] M Q := by
  obtain ⟨a1, e1, g1⟩ := zI_of (S.2 (zI (i + 1)).toNatClampNeg)
  obtain ⟨a2, e2, g2⟩ := zI_of (S.2 (zI (i + 2)).toNatClampNeg)
  obtain ⟨⟨T, tx⟩, ⟨W, H, L⟩, ⟨hs, lot, n, kc⟩, im, tr⟩ := A
  obtain ⟨M1, M2, fs0, fs6, q1, q2, q3, q4, hX2, hY2, hl2⟩ := l_both (x_step (S := S) g1 g2) (y_step (S := S) g1 g2) hX hY hl d
  refine r_al rfl rfl ?_
  refine r_al rfl rfl ?_
  refine r_il rfl rfl ?_
  refine r_ic rfl ?_
  refine r_addI rfl ?_
  refine r_sa rfl (zI_in (by omega) (by omega) (by omega)) ?_
  rw [e1]
  refine r_al rfl rfl ?_
  refine r_il rfl rfl ?_
  refine r_ic rfl ?_
  refine r_addI rfl ?_
  refine r_sa rfl (zI_in (by omega) (by omega) (by omega)) ?_
  rw [e2]
  refine r_cv2 rfl rfl q1 rfl (by decide) rfl (q2) ?_
  refine r_al rfl rfl ?_
  refine r_al rfl rfl ?_
  refine r_il rfl rfl ?_
  refine r_ic rfl ?_
  refine r_addI rfl ?_
  refine r_sa rfl (zI_in (by omega) (by omega) (by omega)) ?_
  rw [e1]
  refine r_al rfl rfl ?_
  refine r_il rfl rfl ?_
  refine r_ic rfl ?_
  refine r_addI rfl ?_
  refine r_sa rfl (zI_in (by omega) (by omega) (by omega)) ?_
  rw [e2]
  refine r_cv2 rfl rfl q3 rfl (by decide) rfl (q4) ?_
  refine r_icT rfl (l_cc) ?_
  exact kx M2 ⟨_, hX2, hY2, hI, hl2⟩
set_option maxRecDepth 20000 in
theorem l_c_straight (hX : X_I M A) (hY : Y_I M A) (hI : l_in A) (hl : M.length = 78) (h0 : 0 ≤ i) (h4 : i + 4 ≤ (S.1 : Int)) (hS : S.1 ≤ 2048) (kx : ∀ M2, l_I M2 → z_R S (d + 21) 168 798 [some (.ref 1000), some (.ref 0), some (.ref 62), some (.int (zI i))] [] M2 Q) : z_R S (d + 21) 168 322 [some (.ref 1000), some (.ref 0), some (.ref 62), some (.int (zI i))] [] M Q := by
  obtain ⟨a1, e1, g1⟩ := zI_of (S.2 (zI (i + 1)).toNatClampNeg)
  obtain ⟨⟨T, tx⟩, ⟨W, H, L⟩, ⟨hs, lot, n, kc⟩, im, tr⟩ := A
  obtain ⟨M1, M2, fs0, fs6, q1, q2, q3, q4, hX2, hY2, hl2⟩ := l_both (x_straight (S := S) g1) (y_straight (S := S) g1) hX hY hl d
  refine r_al rfl rfl ?_
  refine r_al rfl rfl ?_
  refine r_il rfl rfl ?_
  refine r_ic rfl ?_
  refine r_addI rfl ?_
  refine r_sa rfl (zI_in (by omega) (by omega) (by omega)) ?_
  rw [e1]
  refine r_cv1 rfl rfl q1 rfl (by decide) rfl (q2) ?_
  refine r_al rfl rfl ?_
  refine r_al rfl rfl ?_
  refine r_il rfl rfl ?_
  refine r_ic rfl ?_
  refine r_addI rfl ?_
  refine r_sa rfl (zI_in (by omega) (by omega) (by omega)) ?_
  rw [e1]
  refine r_cv1 rfl rfl q3 rfl (by decide) rfl (q4) ?_
  refine r_icT rfl (l_cc) ?_
  exact kx M2 ⟨_, hX2, hY2, hI, hl2⟩
set_option maxRecDepth 20000 in
theorem l_c_joint (hX : X_I M A) (hY : Y_I M A) (hI : l_in A) (hl : M.length = 78) (h0 : 0 ≤ i) (h4 : i + 4 ≤ (S.1 : Int)) (hS : S.1 ≤ 2048) (kx : ∀ M2, l_I M2 → z_R S (d + 21) 168 798 [some (.ref 1000), some (.ref 0), some (.ref 62), some (.int (zI i))] [] M2 Q) : z_R S (d + 21) 168 345 [some (.ref 1000), some (.ref 0), some (.ref 62), some (.int (zI i))] [] M Q := by
  obtain ⟨a1, e1, g1⟩ := zI_of (S.2 (zI (i + 1)).toNatClampNeg)
  obtain ⟨a2, e2, g2⟩ := zI_of (S.2 (zI (i + 2)).toNatClampNeg)
  obtain ⟨⟨T, tx⟩, ⟨W, H, L⟩, ⟨hs, lot, n, kc⟩, im, tr⟩ := A
  obtain ⟨M1, M2, fs0, fs6, q1, q2, q3, q4, hX2, hY2, hl2⟩ := l_both (x_joint (S := S) g1 g2) (y_joint (S := S) g1 g2) hX hY hl d
  refine r_al rfl rfl ?_
  refine r_al rfl rfl ?_
  refine r_il rfl rfl ?_
  refine r_ic rfl ?_
  refine r_addI rfl ?_
  refine r_sa rfl (zI_in (by omega) (by omega) (by omega)) ?_
  rw [e1]
  refine r_al rfl rfl ?_
  refine r_il rfl rfl ?_
  refine r_ic rfl ?_
  refine r_addI rfl ?_
  refine r_sa rfl (zI_in (by omega) (by omega) (by omega)) ?_
  rw [e2]
  refine r_cv2 rfl rfl q1 rfl (by decide) rfl (q2) ?_
  refine r_al rfl rfl ?_
  refine r_al rfl rfl ?_
  refine r_il rfl rfl ?_
  refine r_ic rfl ?_
  refine r_addI rfl ?_
  refine r_sa rfl (zI_in (by omega) (by omega) (by omega)) ?_
  rw [e1]
  refine r_al rfl rfl ?_
  refine r_il rfl rfl ?_
  refine r_ic rfl ?_
  refine r_addI rfl ?_
  refine r_sa rfl (zI_in (by omega) (by omega) (by omega)) ?_
  rw [e2]
  refine r_cv2 rfl rfl q3 rfl (by decide) rfl (q4) ?_
  refine r_icT rfl (l_cc) ?_
  exact kx M2 ⟨_, hX2, hY2, hI, hl2⟩
set_option maxRecDepth 20000 in
theorem l_c_way (hX : X_I M A) (hY : Y_I M A) (hI : l_in A) (hl : M.length = 78) (h0 : 0 ≤ i) (h4 : i + 4 ≤ (S.1 : Int)) (hS : S.1 ≤ 2048) (kx : ∀ M2, l_I M2 → z_R S (d + 21) 168 798 [some (.ref 1000), some (.ref 0), some (.ref 62), some (.int (zI i))] [] M2 Q) : z_R S (d + 21) 168 378 [some (.ref 1000), some (.ref 0), some (.ref 62), some (.int (zI i))] [] M Q := by
  obtain ⟨a1, e1, g1⟩ := zI_of (S.2 (zI (i + 1)).toNatClampNeg)
  obtain ⟨a2, e2, g2⟩ := zI_of (S.2 (zI (i + 2)).toNatClampNeg)
  obtain ⟨a3, e3, g3⟩ := zI_of (S.2 (zI (i + 3)).toNatClampNeg)
  obtain ⟨⟨T, tx⟩, ⟨W, H, L⟩, ⟨hs, lot, n, kc⟩, im, tr⟩ := A
  obtain ⟨M1, M2, fs0, fs6, q1, q2, q3, q4, hX2, hY2, hl2⟩ := l_both (x_way (S := S) g1 g2 g3) (y_way (S := S) g1 g2 g3) hX hY hl d
  refine r_al rfl rfl ?_
  refine r_al rfl rfl ?_
  refine r_il rfl rfl ?_
  refine r_ic rfl ?_
  refine r_addI rfl ?_
  refine r_sa rfl (zI_in (by omega) (by omega) (by omega)) ?_
  rw [e1]
  refine r_al rfl rfl ?_
  refine r_il rfl rfl ?_
  refine r_ic rfl ?_
  refine r_addI rfl ?_
  refine r_sa rfl (zI_in (by omega) (by omega) (by omega)) ?_
  rw [e2]
  refine r_al rfl rfl ?_
  refine r_il rfl rfl ?_
  refine r_ic rfl ?_
  refine r_addI rfl ?_
  refine r_sa rfl (zI_in (by omega) (by omega) (by omega)) ?_
  rw [e3]
  refine r_cv3 rfl rfl q1 rfl (by decide) rfl (q2) ?_
  refine r_al rfl rfl ?_
  refine r_al rfl rfl ?_
  refine r_il rfl rfl ?_
  refine r_ic rfl ?_
  refine r_addI rfl ?_
  refine r_sa rfl (zI_in (by omega) (by omega) (by omega)) ?_
  rw [e1]
  refine r_al rfl rfl ?_
  refine r_il rfl rfl ?_
  refine r_ic rfl ?_
  refine r_addI rfl ?_
  refine r_sa rfl (zI_in (by omega) (by omega) (by omega)) ?_
  rw [e2]
  refine r_al rfl rfl ?_
  refine r_il rfl rfl ?_
  refine r_ic rfl ?_
  refine r_addI rfl ?_
  refine r_sa rfl (zI_in (by omega) (by omega) (by omega)) ?_
  rw [e3]
  refine r_cv3 rfl rfl q3 rfl (by decide) rfl (q4) ?_
  refine r_icT rfl (l_cc) ?_
  exact kx M2 ⟨_, hX2, hY2, hI, hl2⟩
set_option maxRecDepth 20000 in
theorem l_c_ways (hX : X_I M A) (hY : Y_I M A) (hI : l_in A) (hl : M.length = 78) (h0 : 0 ≤ i) (h4 : i + 4 ≤ (S.1 : Int)) (hS : S.1 ≤ 2048) (kx : ∀ M2, l_I M2 → z_R S (d + 21) 168 798 [some (.ref 1000), some (.ref 0), some (.ref 62), some (.int (zI i))] [] M2 Q) : z_R S (d + 21) 168 421 [some (.ref 1000), some (.ref 0), some (.ref 62), some (.int (zI i))] [] M Q := by
  obtain ⟨a1, e1, g1⟩ := zI_of (S.2 (zI (i + 1)).toNatClampNeg)
  obtain ⟨a2, e2, g2⟩ := zI_of (S.2 (zI (i + 2)).toNatClampNeg)
  obtain ⟨a3, e3, g3⟩ := zI_of (S.2 (zI (i + 3)).toNatClampNeg)
  obtain ⟨⟨T, tx⟩, ⟨W, H, L⟩, ⟨hs, lot, n, kc⟩, im, tr⟩ := A
  obtain ⟨M1, M2, fs0, fs6, q1, q2, q3, q4, hX2, hY2, hl2⟩ := l_both (x_ways (S := S) g1 g2 g3) (y_ways (S := S) g1 g2 g3) hX hY hl d
  refine r_al rfl rfl ?_
  refine r_al rfl rfl ?_
  refine r_il rfl rfl ?_
  refine r_ic rfl ?_
  refine r_addI rfl ?_
  refine r_sa rfl (zI_in (by omega) (by omega) (by omega)) ?_
  rw [e1]
  refine r_al rfl rfl ?_
  refine r_il rfl rfl ?_
  refine r_ic rfl ?_
  refine r_addI rfl ?_
  refine r_sa rfl (zI_in (by omega) (by omega) (by omega)) ?_
  rw [e2]
  refine r_al rfl rfl ?_
  refine r_il rfl rfl ?_
  refine r_ic rfl ?_
  refine r_addI rfl ?_
  refine r_sa rfl (zI_in (by omega) (by omega) (by omega)) ?_
  rw [e3]
  refine r_cv3 rfl rfl q1 rfl (by decide) rfl (q2) ?_
  refine r_al rfl rfl ?_
  refine r_al rfl rfl ?_
  refine r_il rfl rfl ?_
  refine r_ic rfl ?_
  refine r_addI rfl ?_
  refine r_sa rfl (zI_in (by omega) (by omega) (by omega)) ?_
  rw [e1]
  refine r_al rfl rfl ?_
  refine r_il rfl rfl ?_
  refine r_ic rfl ?_
  refine r_addI rfl ?_
  refine r_sa rfl (zI_in (by omega) (by omega) (by omega)) ?_
  rw [e2]
  refine r_al rfl rfl ?_
  refine r_il rfl rfl ?_
  refine r_ic rfl ?_
  refine r_addI rfl ?_
  refine r_sa rfl (zI_in (by omega) (by omega) (by omega)) ?_
  rw [e3]
  refine r_cv3 rfl rfl q3 rfl (by decide) rfl (q4) ?_
  refine r_lcmp rfl ?_
  refine r_ifT rfl (l_cj) ?_
  exact kx M2 ⟨_, hX2, hY2, hI, hl2⟩
set_option maxRecDepth 20000 in
theorem l_c_mend (hX : X_I M A) (hY : Y_I M A) (hI : l_in A) (hl : M.length = 78) (h0 : 0 ≤ i) (h4 : i + 4 ≤ (S.1 : Int)) (hS : S.1 ≤ 2048) (kx : ∀ M2, l_I M2 → z_R S (d + 21) 168 798 [some (.ref 1000), some (.ref 0), some (.ref 62), some (.int (zI i))] [] M2 Q) : z_R S (d + 21) 168 465 [some (.ref 1000), some (.ref 0), some (.ref 62), some (.int (zI i))] [] M Q := by
  obtain ⟨a1, e1, g1⟩ := zI_of (S.2 (zI (i + 1)).toNatClampNeg)
  obtain ⟨a2, e2, g2⟩ := zI_of (S.2 (zI (i + 2)).toNatClampNeg)
  obtain ⟨⟨T, tx⟩, ⟨W, H, L⟩, ⟨hs, lot, n, kc⟩, im, tr⟩ := A
  obtain ⟨M1, M2, fs0, fs6, q1, q2, q3, q4, hX2, hY2, hl2⟩ := l_both (x_mend (S := S) g1 g2) (y_mend (S := S) g1 g2) hX hY hl d
  refine r_al rfl rfl ?_
  refine r_al rfl rfl ?_
  refine r_il rfl rfl ?_
  refine r_ic rfl ?_
  refine r_addI rfl ?_
  refine r_sa rfl (zI_in (by omega) (by omega) (by omega)) ?_
  rw [e1]
  refine r_al rfl rfl ?_
  refine r_il rfl rfl ?_
  refine r_ic rfl ?_
  refine r_addI rfl ?_
  refine r_sa rfl (zI_in (by omega) (by omega) (by omega)) ?_
  rw [e2]
  refine r_cv2 rfl rfl q1 rfl (by decide) rfl (q2) ?_
  refine r_al rfl rfl ?_
  refine r_al rfl rfl ?_
  refine r_il rfl rfl ?_
  refine r_ic rfl ?_
  refine r_addI rfl ?_
  refine r_sa rfl (zI_in (by omega) (by omega) (by omega)) ?_
  rw [e1]
  refine r_al rfl rfl ?_
  refine r_il rfl rfl ?_
  refine r_ic rfl ?_
  refine r_addI rfl ?_
  refine r_sa rfl (zI_in (by omega) (by omega) (by omega)) ?_
  rw [e2]
  refine r_cv2 rfl rfl q3 rfl (by decide) rfl (q4) ?_
  refine r_icT rfl (l_cc) ?_
  exact kx M2 ⟨_, hX2, hY2, hI, hl2⟩
set_option maxRecDepth 20000 in
theorem l_c_lines (hX : X_I M A) (hY : Y_I M A) (hI : l_in A) (hl : M.length = 78) (h0 : 0 ≤ i) (h4 : i + 4 ≤ (S.1 : Int)) (hS : S.1 ≤ 2048) (kx : ∀ M2, l_I M2 → z_R S (d + 21) 168 798 [some (.ref 1000), some (.ref 0), some (.ref 62), some (.int (zI i))] [] M2 Q) : z_R S (d + 21) 168 498 [some (.ref 1000), some (.ref 0), some (.ref 62), some (.int (zI i))] [] M Q := by
  obtain ⟨a1, e1, g1⟩ := zI_of (S.2 (zI (i + 1)).toNatClampNeg)
  obtain ⟨⟨T, tx⟩, ⟨W, H, L⟩, ⟨hs, lot, n, kc⟩, im, tr⟩ := A
  obtain ⟨M1, M2, fs0, fs6, q1, q2, q3, q4, hX2, hY2, hl2⟩ := l_both (x_lines (S := S) g1 rfl) (y_lines (S := S) g1 rfl) hX hY hl d
  refine r_al rfl rfl ?_
  refine r_al rfl rfl ?_
  refine r_il rfl rfl ?_
  refine r_ic rfl ?_
  refine r_addI rfl ?_
  refine r_sa rfl (zI_in (by omega) (by omega) (by omega)) ?_
  rw [e1]
  refine r_cv1 rfl rfl q1 rfl (by decide) rfl (q2) ?_
  refine r_al rfl rfl ?_
  refine r_al rfl rfl ?_
  refine r_il rfl rfl ?_
  refine r_ic rfl ?_
  refine r_addI rfl ?_
  refine r_sa rfl (zI_in (by omega) (by omega) (by omega)) ?_
  rw [e1]
  refine r_cv1 rfl rfl q3 rfl (by decide) rfl (q4) ?_
  refine r_icT rfl (l_cc) ?_
  exact kx M2 ⟨_, hX2, hY2, hI, hl2⟩
set_option maxRecDepth 20000 in
theorem l_c_hedges (hX : X_I M A) (hY : Y_I M A) (hI : l_in A) (hl : M.length = 78) (h0 : 0 ≤ i) (h4 : i + 4 ≤ (S.1 : Int)) (hS : S.1 ≤ 2048) (kx : ∀ M2, l_I M2 → z_R S (d + 21) 168 798 [some (.ref 1000), some (.ref 0), some (.ref 62), some (.int (zI i))] [] M2 Q) : z_R S (d + 21) 168 521 [some (.ref 1000), some (.ref 0), some (.ref 62), some (.int (zI i))] [] M Q := by
  obtain ⟨a1, e1, g1⟩ := zI_of (S.2 (zI (i + 1)).toNatClampNeg)
  obtain ⟨⟨T, tx⟩, ⟨W, H, L⟩, ⟨hs, lot, n, kc⟩, im, tr⟩ := A
  obtain ⟨M1, M2, fs0, fs6, q1, q2, q3, q4, hX2, hY2, hl2⟩ := l_both (x_hedges (S := S) g1 rfl) (y_hedges (S := S) g1 rfl) hX hY hl d
  refine r_al rfl rfl ?_
  refine r_al rfl rfl ?_
  refine r_il rfl rfl ?_
  refine r_ic rfl ?_
  refine r_addI rfl ?_
  refine r_sa rfl (zI_in (by omega) (by omega) (by omega)) ?_
  rw [e1]
  refine r_cv1 rfl rfl q1 rfl (by decide) rfl (q2) ?_
  refine r_al rfl rfl ?_
  refine r_al rfl rfl ?_
  refine r_il rfl rfl ?_
  refine r_ic rfl ?_
  refine r_addI rfl ?_
  refine r_sa rfl (zI_in (by omega) (by omega) (by omega)) ?_
  rw [e1]
  refine r_cv1 rfl rfl q3 rfl (by decide) rfl (q4) ?_
  refine r_icT rfl (l_cc) ?_
  exact kx M2 ⟨_, hX2, hY2, hI, hl2⟩
set_option maxRecDepth 20000 in
theorem l_c_gusts (hX : X_I M A) (hY : Y_I M A) (hI : l_in A) (hl : M.length = 78) (h0 : 0 ≤ i) (h4 : i + 4 ≤ (S.1 : Int)) (hS : S.1 ≤ 2048) (kx : ∀ M2, l_I M2 → z_R S (d + 21) 168 798 [some (.ref 1000), some (.ref 0), some (.ref 62), some (.int (zI i))] [] M2 Q) : z_R S (d + 21) 168 544 [some (.ref 1000), some (.ref 0), some (.ref 62), some (.int (zI i))] [] M Q := by
  obtain ⟨a1, e1, g1⟩ := zI_of (S.2 (zI (i + 1)).toNatClampNeg)
  obtain ⟨⟨T, tx⟩, ⟨W, H, L⟩, ⟨hs, lot, n, kc⟩, im, tr⟩ := A
  obtain ⟨M1, M2, fs0, fs6, q1, q2, q3, q4, hX2, hY2, hl2⟩ := l_both (x_gusts (S := S) g1 rfl) (y_gusts (S := S) g1 rfl) hX hY hl d
  refine r_al rfl rfl ?_
  refine r_al rfl rfl ?_
  refine r_il rfl rfl ?_
  refine r_ic rfl ?_
  refine r_addI rfl ?_
  refine r_sa rfl (zI_in (by omega) (by omega) (by omega)) ?_
  rw [e1]
  refine r_cv1 rfl rfl q1 rfl (by decide) rfl (q2) ?_
  refine r_al rfl rfl ?_
  refine r_al rfl rfl ?_
  refine r_il rfl rfl ?_
  refine r_ic rfl ?_
  refine r_addI rfl ?_
  refine r_sa rfl (zI_in (by omega) (by omega) (by omega)) ?_
  rw [e1]
  refine r_cv1 rfl rfl q3 rfl (by decide) rfl (q4) ?_
  refine r_icT rfl (l_cc) ?_
  exact kx M2 ⟨_, hX2, hY2, hI, hl2⟩
set_option maxRecDepth 20000 in
theorem l_c_lot (hX : X_I M A) (hY : Y_I M A) (hI : l_in A) (hl : M.length = 78) (h0 : 0 ≤ i) (h4 : i + 4 ≤ (S.1 : Int)) (hS : S.1 ≤ 2048) (kx : ∀ M2, l_I M2 → z_R S (d + 21) 168 798 [some (.ref 1000), some (.ref 0), some (.ref 62), some (.int (zI i))] [] M2 Q) : z_R S (d + 21) 168 567 [some (.ref 1000), some (.ref 0), some (.ref 62), some (.int (zI i))] [] M Q := by
  obtain ⟨a1, e1, g1⟩ := zI_of (S.2 (zI (i + 1)).toNatClampNeg)
  obtain ⟨⟨T, tx⟩, ⟨W, H, L⟩, ⟨hs, lot, n, kc⟩, im, tr⟩ := A
  obtain ⟨M1, M2, fs0, fs6, q1, q2, q3, q4, hX2, hY2, hl2⟩ := l_both (x_lot (S := S) (x := zI a1)) (y_lot (S := S) (x := zI a1)) hX hY hl d
  refine r_al rfl rfl ?_
  refine r_al rfl rfl ?_
  refine r_il rfl rfl ?_
  refine r_ic rfl ?_
  refine r_addI rfl ?_
  refine r_sa rfl (zI_in (by omega) (by omega) (by omega)) ?_
  rw [e1]
  refine r_cv1 rfl rfl q1 rfl (by decide) rfl (q2) ?_
  refine r_al rfl rfl ?_
  refine r_al rfl rfl ?_
  refine r_il rfl rfl ?_
  refine r_ic rfl ?_
  refine r_addI rfl ?_
  refine r_sa rfl (zI_in (by omega) (by omega) (by omega)) ?_
  rw [e1]
  refine r_cv1 rfl rfl q3 rfl (by decide) rfl (q4) ?_
  refine r_icT rfl (l_cc) ?_
  exact kx M2 ⟨_, hX2, hY2, hI, hl2⟩
set_option maxRecDepth 20000 in
theorem l_c_build (hX : X_I M A) (hY : Y_I M A) (hI : l_in A) (hl : M.length = 78) (h0 : 0 ≤ i) (h4 : i + 4 ≤ (S.1 : Int)) (hS : S.1 ≤ 2048) (kx : ∀ M2, l_I M2 → z_R S (d + 21) 168 798 [some (.ref 1000), some (.ref 0), some (.ref 62), some (.int (zI i))] [] M2 Q) : z_R S (d + 21) 168 590 [some (.ref 1000), some (.ref 0), some (.ref 62), some (.int (zI i))] [] M Q := by
  obtain ⟨a1, e1, g1⟩ := zI_of (S.2 (zI (i + 1)).toNatClampNeg)
  obtain ⟨⟨T, tx⟩, ⟨W, H, L⟩, ⟨hs, lot, n, kc⟩, im, tr⟩ := A
  obtain ⟨M1, M2, fs0, fs6, q1, q2, q3, q4, hX2, hY2, hl2⟩ := l_both (x_build (S := S) hI.1 g1) (y_build (S := S) g1) hX hY hl d
  refine r_al rfl rfl ?_
  refine r_al rfl rfl ?_
  refine r_il rfl rfl ?_
  refine r_ic rfl ?_
  refine r_addI rfl ?_
  refine r_sa rfl (zI_in (by omega) (by omega) (by omega)) ?_
  rw [e1]
  refine r_cv1 rfl rfl q1 rfl (by decide) rfl (q2) ?_
  refine r_al rfl rfl ?_
  refine r_al rfl rfl ?_
  refine r_il rfl rfl ?_
  refine r_ic rfl ?_
  refine r_addI rfl ?_
  refine r_sa rfl (zI_in (by omega) (by omega) (by omega)) ?_
  rw [e1]
  refine r_cv1 rfl rfl q3 rfl (by decide) rfl (q4) ?_
  refine r_icT rfl (l_cc) ?_
  obtain ⟨-, v9, wd9, hd9, ld9, nw9, ⟨-, -, ⟨⟨-, b1⟩, ⟨-, b2⟩, -⟩, -⟩, -⟩ := id hY
  have hC := p_WH b1 b2
  have hp : p_in W H (h_build W H n hs kc a1) := by
    unfold h_build
    split
    · rename_i hh
      have hh := hh.1
      exact h_add_in hC (by omega) hI.1
    · exact hI.1
  exact kx M2 ⟨_, hX2, hY2, ⟨hp, hI.2⟩, hl2⟩
set_option maxRecDepth 20000 in
theorem l_c_raze (hX : X_I M A) (hY : Y_I M A) (hI : l_in A) (hl : M.length = 78) (h0 : 0 ≤ i) (h4 : i + 4 ≤ (S.1 : Int)) (hS : S.1 ≤ 2048) (kx : ∀ M2, l_I M2 → z_R S (d + 21) 168 798 [some (.ref 1000), some (.ref 0), some (.ref 62), some (.int (zI i))] [] M2 Q) : z_R S (d + 21) 168 613 [some (.ref 1000), some (.ref 0), some (.ref 62), some (.int (zI i))] [] M Q := by
  obtain ⟨a1, e1, g1⟩ := zI_of (S.2 (zI (i + 1)).toNatClampNeg)
  obtain ⟨⟨T, tx⟩, ⟨W, H, L⟩, ⟨hs, lot, n, kc⟩, im, tr⟩ := A
  obtain ⟨M1, M2, fs0, fs6, q1, q2, q3, q4, hX2, hY2, hl2⟩ := l_both (x_raze (S := S) hI.1 g1) (y_raze (S := S) g1) hX hY hl d
  refine r_al rfl rfl ?_
  refine r_al rfl rfl ?_
  refine r_il rfl rfl ?_
  refine r_ic rfl ?_
  refine r_addI rfl ?_
  refine r_sa rfl (zI_in (by omega) (by omega) (by omega)) ?_
  rw [e1]
  refine r_cv1 rfl rfl q1 rfl (by decide) rfl (q2) ?_
  refine r_al rfl rfl ?_
  refine r_al rfl rfl ?_
  refine r_il rfl rfl ?_
  refine r_ic rfl ?_
  refine r_addI rfl ?_
  refine r_sa rfl (zI_in (by omega) (by omega) (by omega)) ?_
  rw [e1]
  refine r_cv1 rfl rfl q3 rfl (by decide) rfl (q4) ?_
  refine r_icT rfl (l_cc) ?_
  obtain ⟨-, v9, wd9, hd9, ld9, nw9, ⟨-, -, ⟨⟨-, b1⟩, ⟨-, b2⟩, -⟩, -⟩, -⟩ := id hY
  have hC := p_WH b1 b2
  have hp : p_in W H (h_raze W H hs a1) := by
    unfold h_raze
    split
    · rename_i hh
      have hh := hh.1
      exact h_del_in hC (by omega) hI.1
    · exact hI.1
  exact kx M2 ⟨_, hX2, hY2, ⟨hp, hI.2⟩, hl2⟩
set_option maxRecDepth 20000 in
theorem l_c_street (hX : X_I M A) (hY : Y_I M A) (hI : l_in A) (hl : M.length = 78) (h0 : 0 ≤ i) (h4 : i + 4 ≤ (S.1 : Int)) (hS : S.1 ≤ 2048) (kx : ∀ M2, l_I M2 → z_R S (d + 21) 168 798 [some (.ref 1000), some (.ref 0), some (.ref 62), some (.int (zI i))] [] M2 Q) : z_R S (d + 21) 168 636 [some (.ref 1000), some (.ref 0), some (.ref 62), some (.int (zI i))] [] M Q := by
  obtain ⟨a1, e1, g1⟩ := zI_of (S.2 (zI (i + 1)).toNatClampNeg)
  obtain ⟨a2, e2, g2⟩ := zI_of (S.2 (zI (i + 2)).toNatClampNeg)
  obtain ⟨⟨T, tx⟩, ⟨W, H, L⟩, ⟨hs, lot, n, kc⟩, im, tr⟩ := A
  obtain ⟨M1, M2, fs0, fs6, q1, q2, q3, q4, hX2, hY2, hl2⟩ := l_both (x_street (S := S) g1 g2) (y_street (S := S) g1 g2) hX hY hl d
  refine r_al rfl rfl ?_
  refine r_al rfl rfl ?_
  refine r_il rfl rfl ?_
  refine r_ic rfl ?_
  refine r_addI rfl ?_
  refine r_sa rfl (zI_in (by omega) (by omega) (by omega)) ?_
  rw [e1]
  refine r_al rfl rfl ?_
  refine r_il rfl rfl ?_
  refine r_ic rfl ?_
  refine r_addI rfl ?_
  refine r_sa rfl (zI_in (by omega) (by omega) (by omega)) ?_
  rw [e2]
  refine r_cv2 rfl rfl q1 rfl (by decide) rfl (q2) ?_
  refine r_al rfl rfl ?_
  refine r_al rfl rfl ?_
  refine r_il rfl rfl ?_
  refine r_ic rfl ?_
  refine r_addI rfl ?_
  refine r_sa rfl (zI_in (by omega) (by omega) (by omega)) ?_
  rw [e1]
  refine r_al rfl rfl ?_
  refine r_il rfl rfl ?_
  refine r_ic rfl ?_
  refine r_addI rfl ?_
  refine r_sa rfl (zI_in (by omega) (by omega) (by omega)) ?_
  rw [e2]
  refine r_cv2 rfl rfl q3 rfl (by decide) rfl (q4) ?_
  refine r_icT rfl (l_cc) ?_
  have hp : (t_street W H L hs lot n kc a1 a2).1 = hs := by
    unfold t_street
    split <;> rfl
  exact kx M2 ⟨_, hX2, hY2, ⟨by show p_in W H (t_street W H L hs lot n kc a1 a2).1; rw [hp]; exact hI.1, hI.2⟩, hl2⟩
set_option maxRecDepth 20000 in
theorem l_c_close (hX : X_I M A) (hY : Y_I M A) (hI : l_in A) (hl : M.length = 78) (h0 : 0 ≤ i) (h4 : i + 4 ≤ (S.1 : Int)) (hS : S.1 ≤ 2048) (kx : ∀ M2, l_I M2 → z_R S (d + 21) 168 798 [some (.ref 1000), some (.ref 0), some (.ref 62), some (.int (zI i))] [] M2 Q) : z_R S (d + 21) 168 669 [some (.ref 1000), some (.ref 0), some (.ref 62), some (.int (zI i))] [] M Q := by
  obtain ⟨⟨T, tx⟩, ⟨W, H, L⟩, ⟨hs, lot, n, kc⟩, im, tr⟩ := A
  obtain ⟨M1, M2, fs0, fs6, q1, q2, q3, q4, hX2, hY2, hl2⟩ := l_both (x_close (S := S) ) (y_close (S := S) ) hX hY hl d
  refine r_al rfl rfl ?_
  refine r_cv0 rfl rfl q1 rfl (by decide) rfl (q2) ?_
  refine r_al rfl rfl ?_
  refine r_cv0 rfl rfl q3 rfl (by decide) rfl (q4) ?_
  refine r_icT rfl (l_cc) ?_
  exact kx M2 ⟨_, hX2, hY2, hI, hl2⟩
set_option maxRecDepth 20000 in
theorem l_c_mark (hX : X_I M A) (hY : Y_I M A) (hI : l_in A) (hl : M.length = 78) (h0 : 0 ≤ i) (h4 : i + 4 ≤ (S.1 : Int)) (hS : S.1 ≤ 2048) (kx : ∀ M2, l_I M2 → z_R S (d + 21) 168 798 [some (.ref 1000), some (.ref 0), some (.ref 62), some (.int (zI i))] [] M2 Q) : z_R S (d + 21) 168 682 [some (.ref 1000), some (.ref 0), some (.ref 62), some (.int (zI i))] [] M Q := by
  obtain ⟨a1, e1, g1⟩ := zI_of (S.2 (zI (i + 1)).toNatClampNeg)
  obtain ⟨a2, e2, g2⟩ := zI_of (S.2 (zI (i + 2)).toNatClampNeg)
  obtain ⟨⟨T, tx⟩, ⟨W, H, L⟩, ⟨hs, lot, n, kc⟩, im, tr⟩ := A
  obtain ⟨M1, M2, fs0, fs6, q1, q2, q3, q4, hX2, hY2, hl2⟩ := l_both (x_mark (S := S) hI.1 g1 g2) (y_mark (S := S) g1 g2) hX hY hl d
  refine r_al rfl rfl ?_
  refine r_al rfl rfl ?_
  refine r_il rfl rfl ?_
  refine r_ic rfl ?_
  refine r_addI rfl ?_
  refine r_sa rfl (zI_in (by omega) (by omega) (by omega)) ?_
  rw [e1]
  refine r_al rfl rfl ?_
  refine r_il rfl rfl ?_
  refine r_ic rfl ?_
  refine r_addI rfl ?_
  refine r_sa rfl (zI_in (by omega) (by omega) (by omega)) ?_
  rw [e2]
  refine r_cv2 rfl rfl q1 rfl (by decide) rfl (q2) ?_
  refine r_al rfl rfl ?_
  refine r_al rfl rfl ?_
  refine r_il rfl rfl ?_
  refine r_ic rfl ?_
  refine r_addI rfl ?_
  refine r_sa rfl (zI_in (by omega) (by omega) (by omega)) ?_
  rw [e1]
  refine r_al rfl rfl ?_
  refine r_il rfl rfl ?_
  refine r_ic rfl ?_
  refine r_addI rfl ?_
  refine r_sa rfl (zI_in (by omega) (by omega) (by omega)) ?_
  rw [e2]
  refine r_cv2 rfl rfl q3 rfl (by decide) rfl (q4) ?_
  refine r_icT rfl (l_cc) ?_
  exact kx M2 ⟨_, hX2, hY2, hI, hl2⟩
set_option maxRecDepth 20000 in
theorem l_c_keep (hX : X_I M A) (hY : Y_I M A) (hI : l_in A) (hl : M.length = 78) (h0 : 0 ≤ i) (h4 : i + 4 ≤ (S.1 : Int)) (hS : S.1 ≤ 2048) (kx : ∀ M2, l_I M2 → z_R S (d + 21) 168 798 [some (.ref 1000), some (.ref 0), some (.ref 62), some (.int (zI i))] [] M2 Q) : z_R S (d + 21) 168 715 [some (.ref 1000), some (.ref 0), some (.ref 62), some (.int (zI i))] [] M Q := by
  obtain ⟨a1, e1, g1⟩ := zI_of (S.2 (zI (i + 1)).toNatClampNeg)
  obtain ⟨⟨T, tx⟩, ⟨W, H, L⟩, ⟨hs, lot, n, kc⟩, im, tr⟩ := A
  obtain ⟨M1, M2, fs0, fs6, q1, q2, q3, q4, hX2, hY2, hl2⟩ := l_both (x_keep (S := S) g1) (y_keep (S := S) g1) hX hY hl d
  refine r_al rfl rfl ?_
  refine r_al rfl rfl ?_
  refine r_il rfl rfl ?_
  refine r_ic rfl ?_
  refine r_addI rfl ?_
  refine r_sa rfl (zI_in (by omega) (by omega) (by omega)) ?_
  rw [e1]
  refine r_cv1 rfl rfl q1 rfl (by decide) rfl (q2) ?_
  refine r_al rfl rfl ?_
  refine r_al rfl rfl ?_
  refine r_il rfl rfl ?_
  refine r_ic rfl ?_
  refine r_addI rfl ?_
  refine r_sa rfl (zI_in (by omega) (by omega) (by omega)) ?_
  rw [e1]
  refine r_cv1 rfl rfl q3 rfl (by decide) rfl (q4) ?_
  refine r_icT rfl (l_cc) ?_
  have hp : ∀ j b, t_keep im (hs, lot, n, kc) a1 j = some b → p_in W H b.1 := by
    intro j b hb
    unfold t_keep at hb
    split at hb
    · dsimp only at hb
      split at hb
      · cases hb; exact hI.1
      · exact hI.2.1 j b hb
    · exact hI.2.1 j b hb
  exact kx M2 ⟨_, hX2, hY2, ⟨hI.1, hp, hI.2.2⟩, hl2⟩
set_option maxRecDepth 20000 in
theorem l_c_back (hX : X_I M A) (hY : Y_I M A) (hI : l_in A) (hl : M.length = 78) (h0 : 0 ≤ i) (h4 : i + 4 ≤ (S.1 : Int)) (hS : S.1 ≤ 2048) (kx : ∀ M2, l_I M2 → z_R S (d + 21) 168 798 [some (.ref 1000), some (.ref 0), some (.ref 62), some (.int (zI i))] [] M2 Q) : z_R S (d + 21) 168 738 [some (.ref 1000), some (.ref 0), some (.ref 62), some (.int (zI i))] [] M Q := by
  obtain ⟨a1, e1, g1⟩ := zI_of (S.2 (zI (i + 1)).toNatClampNeg)
  obtain ⟨⟨T, tx⟩, ⟨W, H, L⟩, ⟨hs, lot, n, kc⟩, im, tr⟩ := A
  obtain ⟨M1, M2, fs0, fs6, q1, q2, q3, q4, hX2, hY2, hl2⟩ := l_both (x_back (S := S) g1) (y_back (S := S) g1) hX hY hl d
  refine r_al rfl rfl ?_
  refine r_al rfl rfl ?_
  refine r_il rfl rfl ?_
  refine r_ic rfl ?_
  refine r_addI rfl ?_
  refine r_sa rfl (zI_in (by omega) (by omega) (by omega)) ?_
  rw [e1]
  refine r_cv1 rfl rfl q1 rfl (by decide) rfl (q2) ?_
  refine r_al rfl rfl ?_
  refine r_al rfl rfl ?_
  refine r_il rfl rfl ?_
  refine r_ic rfl ?_
  refine r_addI rfl ?_
  refine r_sa rfl (zI_in (by omega) (by omega) (by omega)) ?_
  rw [e1]
  refine r_cv1 rfl rfl q3 rfl (by decide) rfl (q4) ?_
  refine r_icT rfl (l_cc) ?_
  have hp : p_in W H (t_back im (hs, lot, n, kc) a1).1 := by
    unfold t_back
    split
    · split
      · rename_i b hb
        exact hI.2.1 _ b hb
      · exact hI.1
    · exact hI.1
  exact kx M2 ⟨_, hX2, hY2, ⟨hp, hI.2⟩, hl2⟩
set_option maxRecDepth 20000 in
theorem l_c_count (hX : X_I M A) (hY : Y_I M A) (hI : l_in A) (hl : M.length = 78) (h0 : 0 ≤ i) (h4 : i + 4 ≤ (S.1 : Int)) (hS : S.1 ≤ 2048) (kx : ∀ M2, l_I M2 → z_R S (d + 21) 168 798 [some (.ref 1000), some (.ref 0), some (.ref 62), some (.int (zI i))] [] M2 Q) : z_R S (d + 21) 168 761 [some (.ref 1000), some (.ref 0), some (.ref 62), some (.int (zI i))] [] M Q := by
  obtain ⟨a1, e1, g1⟩ := zI_of (S.2 (zI (i + 1)).toNatClampNeg)
  obtain ⟨⟨T, tx⟩, ⟨W, H, L⟩, ⟨hs, lot, n, kc⟩, im, tr⟩ := A
  obtain ⟨M1, M2, fs0, fs6, q1, q2, q3, q4, hX2, hY2, hl2⟩ := l_both (x_count (S := S) hI.1 g1) (y_count (S := S) g1) hX hY hl d
  refine r_al rfl rfl ?_
  refine r_al rfl rfl ?_
  refine r_il rfl rfl ?_
  refine r_ic rfl ?_
  refine r_addI rfl ?_
  refine r_sa rfl (zI_in (by omega) (by omega) (by omega)) ?_
  rw [e1]
  refine r_cv1 rfl rfl q1 rfl (by decide) rfl (q2) ?_
  refine r_al rfl rfl ?_
  refine r_al rfl rfl ?_
  refine r_il rfl rfl ?_
  refine r_ic rfl ?_
  refine r_addI rfl ?_
  refine r_sa rfl (zI_in (by omega) (by omega) (by omega)) ?_
  rw [e1]
  refine r_cv1 rfl rfl q3 rfl (by decide) rfl (q4) ?_
  refine r_icT rfl (l_cc) ?_
  exact kx M2 ⟨_, hX2, hY2, hI, hl2⟩
set_option maxRecDepth 20000 in
theorem l_c_trace (hX : X_I M A) (hY : Y_I M A) (hI : l_in A) (hl : M.length = 78) (h0 : 0 ≤ i) (h4 : i + 4 ≤ (S.1 : Int)) (hS : S.1 ≤ 2048) (kx : ∀ M2, l_I M2 → z_R S (d + 21) 168 798 [some (.ref 1000), some (.ref 0), some (.ref 62), some (.int (zI i))] [] M2 Q) : z_R S (d + 21) 168 784 [some (.ref 1000), some (.ref 0), some (.ref 62), some (.int (zI i))] [] M Q := by
  obtain ⟨⟨T, tx⟩, ⟨W, H, L⟩, ⟨hs, lot, n, kc⟩, im, tr⟩ := A
  obtain ⟨M1, M2, fs0, fs6, q1, q2, q3, q4, hX2, hY2, hl2⟩ := l_both (x_trace (S := S) ) (y_trace (S := S) ) hX hY hl d
  refine r_al rfl rfl ?_
  refine r_cv0 rfl rfl q1 rfl (by decide) rfl (q2) ?_
  refine r_al rfl rfl ?_
  refine r_cv0 rfl rfl q3 rfl (by decide) rfl (q4) ?_
  refine r_lcmp rfl ?_
  refine r_ifT rfl (l_cj) ?_
  exact kx M2 ⟨_, hX2, hY2, hI, hl2⟩
set_option maxRecDepth 20000 in
theorem l_loop (hS : S.1 ≤ 2048) : ∀ (f : Nat) (i : Int) (M : ZM), 0 ≤ i → i ≤ (S.1 : Int) → (S.1 : Int) - i < f → l_I M → z_R S (d + 21) 168 18 [some (.ref 1000), some (.ref 0), some (.ref 62), some (.int (zI i))] [] M (fun r M1 => r = some (.int (zI 1)) ∧ l_I M1) := by
  intro f
  induction f with
  | zero => intro i M h0 h1 h2 _; exact absurd h2 (by omega)
  | succ f ih =>
    intro i M h0 h1 h2 hM
    refine r_il rfl rfl ?_
    refine r_al rfl rfl ?_
    refine r_slen rfl ?_
    refine r_ic rfl ?_
    refine r_subI rfl ?_
    by_cases hgt : (S.1 : Int) - 4 < i
    · refine r_icT rfl (zcT4 ⟨by omega, by omega⟩ ⟨by omega, by omega⟩ (by omega)) ?_
      refine r_ic rfl ?_
      refine r_reti rfl rfl ?_
      exact ⟨rfl, hM⟩
    · refine r_icF rfl (zcF4 ⟨by omega, by omega⟩ ⟨by omega, by omega⟩ (by omega)) ?_
      refine r_al rfl rfl ?_
      refine r_il rfl rfl ?_
      refine r_sa rfl (zI_in (by omega) (by omega) (by omega)) ?_
      refine r_ic rfl ?_
      refine r_iand rfl ?_
      obtain ⟨A, hX, hY, hI, hl⟩ := hM
      have kx : ∀ M2, l_I M2 → z_R S (d + 21) 168 798 [some (.ref 1000), some (.ref 0), some (.ref 62), some (.int (zI i))] [] M2 (fun r M1 => r = some (.int (zI 1)) ∧ l_I M1) := by
        intro M2 h2
        refine r_jj3 rfl rfl ?_
        refine r_goto rfl ?_
        exact ih (i + 4) M2 (by omega) (by omega) (by omega) h2
      generalize S.2 (zI i).toNatClampNeg &&& zI 31 = x
      have hc : x.toInt = 0 ∨ x.toInt = 1 ∨ x.toInt = 2 ∨ x.toInt = 3 ∨ x.toInt = 4 ∨ x.toInt = 5 ∨ x.toInt = 6 ∨ x.toInt = 7 ∨ x.toInt = 8 ∨ x.toInt = 9 ∨ x.toInt = 10 ∨ x.toInt = 11 ∨ x.toInt = 12 ∨ x.toInt = 13 ∨ x.toInt = 14 ∨ x.toInt = 15 ∨ x.toInt = 16 ∨ x.toInt = 17 ∨ x.toInt = 18 ∨ x.toInt = 19 ∨ x.toInt = 20 ∨ x.toInt = 21 ∨ x.toInt = 22 ∨ x.toInt = 23 ∨ (x.toInt < 0 ∨ 23 < x.toInt) := by omega
      rcases hc with hc | hc | hc | hc | hc | hc | hc | hc | hc | hc | hc | hc | hc | hc | hc | hc | hc | hc | hc | hc | hc | hc | hc | hc | hc
      · refine r_tsI (v := 144) rfl (by omega) (by rw [hc]; rfl) ?_
        exact l_c_type hX hY hI hl (by omega) (by omega) hS kx
      · refine r_tsI (v := 207) rfl (by omega) (by rw [hc]; rfl) ?_
        exact l_c_clear hX hY hI hl (by omega) (by omega) hS kx
      · refine r_tsI (v := 220) rfl (by omega) (by rw [hc]; rfl) ?_
        exact l_c_yard hX hY hI hl (by omega) (by omega) hS kx
      · refine r_tsI (v := 233) rfl (by omega) (by rw [hc]; rfl) ?_
        exact l_c_cell hX hY hI hl (by omega) (by omega) hS kx
      · refine r_tsI (v := 256) rfl (by omega) (by rw [hc]; rfl) ?_
        exact l_c_chain hX hY hI hl (by omega) (by omega) hS kx
      · refine r_tsI (v := 289) rfl (by omega) (by rw [hc]; rfl) ?_
        exact l_c_step hX hY hI hl (by omega) (by omega) hS kx
      · refine r_tsI (v := 322) rfl (by omega) (by rw [hc]; rfl) ?_
        exact l_c_straight hX hY hI hl (by omega) (by omega) hS kx
      · refine r_tsI (v := 345) rfl (by omega) (by rw [hc]; rfl) ?_
        exact l_c_joint hX hY hI hl (by omega) (by omega) hS kx
      · refine r_tsI (v := 378) rfl (by omega) (by rw [hc]; rfl) ?_
        exact l_c_way hX hY hI hl (by omega) (by omega) hS kx
      · refine r_tsI (v := 421) rfl (by omega) (by rw [hc]; rfl) ?_
        exact l_c_ways hX hY hI hl (by omega) (by omega) hS kx
      · refine r_tsI (v := 465) rfl (by omega) (by rw [hc]; rfl) ?_
        exact l_c_mend hX hY hI hl (by omega) (by omega) hS kx
      · refine r_tsI (v := 498) rfl (by omega) (by rw [hc]; rfl) ?_
        exact l_c_lines hX hY hI hl (by omega) (by omega) hS kx
      · refine r_tsI (v := 521) rfl (by omega) (by rw [hc]; rfl) ?_
        exact l_c_hedges hX hY hI hl (by omega) (by omega) hS kx
      · refine r_tsI (v := 544) rfl (by omega) (by rw [hc]; rfl) ?_
        exact l_c_gusts hX hY hI hl (by omega) (by omega) hS kx
      · refine r_tsI (v := 567) rfl (by omega) (by rw [hc]; rfl) ?_
        exact l_c_lot hX hY hI hl (by omega) (by omega) hS kx
      · refine r_tsI (v := 590) rfl (by omega) (by rw [hc]; rfl) ?_
        exact l_c_build hX hY hI hl (by omega) (by omega) hS kx
      · refine r_tsI (v := 613) rfl (by omega) (by rw [hc]; rfl) ?_
        exact l_c_raze hX hY hI hl (by omega) (by omega) hS kx
      · refine r_tsI (v := 636) rfl (by omega) (by rw [hc]; rfl) ?_
        exact l_c_street hX hY hI hl (by omega) (by omega) hS kx
      · refine r_tsI (v := 669) rfl (by omega) (by rw [hc]; rfl) ?_
        exact l_c_close hX hY hI hl (by omega) (by omega) hS kx
      · refine r_tsI (v := 682) rfl (by omega) (by rw [hc]; rfl) ?_
        exact l_c_mark hX hY hI hl (by omega) (by omega) hS kx
      · refine r_tsI (v := 715) rfl (by omega) (by rw [hc]; rfl) ?_
        exact l_c_keep hX hY hI hl (by omega) (by omega) hS kx
      · refine r_tsI (v := 738) rfl (by omega) (by rw [hc]; rfl) ?_
        exact l_c_back hX hY hI hl (by omega) (by omega) hS kx
      · refine r_tsI (v := 761) rfl (by omega) (by rw [hc]; rfl) ?_
        exact l_c_count hX hY hI hl (by omega) (by omega) hS kx
      · refine r_tsI (v := 784) rfl (by omega) (by rw [hc]; rfl) ?_
        exact l_c_trace hX hY hI hl (by omega) (by omega) hS kx
      · refine r_tsO rfl hc ?_
        exact kx M ⟨A, hX, hY, hI, hl⟩
set_option maxRecDepth 20000 in
theorem l_start (hS : S.1 ≤ 2048) : z_R S (d + 21) 168 0 [some (.ref 1000), none, none, none] [] [] (fun r M1 => r = some (.int (zI 1)) ∧ l_I M1) := by
  have p00 : ([] : ZM).length = 0 := rfl
  refine r_new (fs := [.null, .null, .null, .null, .null, .null, .null, .long 0]) rfl p00 ⟨by decide, by decide⟩ rfl ?_
  obtain ⟨p01, p02, -⟩ := z_ap (M := []) (x := .inl (5, [.null, .null, .null, .null, .null, .null, .null, .long 0])) p00
  obtain ⟨B0, k0, L0, O0, A0, R0, W0, V0, ⟨rr, C0⟩, G0⟩ := c_iB (S := S) (d := d + 17) (tx := fun _ => 0) (kc := fun _ => (0, 0, fun _ => 0)) p01 p02
  refine r_dupA rfl ?_
  refine r_cx0v rfl rfl rfl rfl rfl (k0) ?_
  refine r_as1 rfl rfl ?_
  refine r_new (fs := [.long 0, .null, .int (zI 0), .null, .null, .null, .null, .null, .int (zI 0), .int (zI 0), .int (zI 0), .int (zI 0), .int (zI 0), .int (zI 0), .null, .null, .null, .null, .null, .null, .null, .int (zI 0), .null, .null, .int (zI 0)]) rfl L0 ⟨by decide, by decide⟩ rfl ?_
  obtain ⟨p11, p12, p13⟩ := z_ap (x := .inl (6, [.long 0, .null, .int (zI 0), .null, .null, .null, .null, .null, .int (zI 0), .int (zI 0), .int (zI 0), .int (zI 0), .int (zI 0), .int (zI 0), .null, .null, .null, .null, .null, .null, .null, .int (zI 0), .null, .null, .int (zI 0)])) L0
  obtain ⟨B1, k1, L1, F1, v, wd, hd, ld, nw, hY⟩ := c_iM (S := S) (d := d + 20) (tx := fun _ => 0) (kc := fun _ => (0, 0, fun _ => 0)) p11 p12
  refine r_dupA rfl ?_
  refine r_cx0v rfl rfl rfl rfl rfl (k1) ?_
  refine r_as2 rfl rfl ?_
  refine r_ic rfl ?_
  refine r_is3 rfl rfl ?_
  have q : ∀ k, k < 62 → B1[k]? = B0[k]? := fun k hk => (F1 k hk).trans (p13 k hk)
  have hY2 : Y_I B1 ((0, fun _ => 0), (5, 5, 1), (zI 0, zI 1, 0, fun _ => (0, 0, fun _ => 0)), fun _ => none, Int64.ofInt 0) := ⟨by omega, v, wd, hd, ld, nw, hY⟩
  have hA : k_A B1 1 5 5 1 (zI 0) (zI 1) 0 (fun _ => (0, 0, fun _ => 0)) := by
    obtain ⟨h1, h2, ch, h3, h4⟩ := A0
    exact ⟨h1, ⟨(q 1 (by decide)).trans h2.1, h2.2⟩, ch, h3.pt (fun k g1 g2 => q k (by omega)), h4⟩
  have hG : x_G B1 5 5 1 (fun _ => none) := by
    obtain ⟨⟨f, h1, h2⟩, ⟨kf, h3, h4⟩, h5⟩ := G0
    refine ⟨⟨f, (q _ (by decide)).trans h1, h2⟩, ⟨kf, (q _ (by decide)).trans h3, h4⟩, fun i hi => ?_⟩
    obtain ⟨⟨v, g1⟩, ⟨ch, g2⟩, -⟩ := h5 i hi
    exact ⟨⟨v, (q _ (by omega)).trans g1⟩, ⟨ch, g2.pt (fun k x1 x2 => q k (by omega))⟩, fun b hb => by cases hb⟩
  have hX2 : X_I B1 ((0, fun _ => 0), (5, 5, 1), (zI 0, zI 1, 0, fun _ => (0, 0, fun _ => 0)), fun _ => none, Int64.ofInt 0) := ⟨by omega, (q 0 (by decide)).trans O0, hA, R0.pt (fun k g1 g2 => q k (by omega)), W0.pt (fun k g1 g2 => q k (by omega)), V0.pt (fun k g1 g2 => q k (by omega)), ⟨rr, C0.pt (fun k g1 g2 => q k (by omega))⟩, hG⟩
  exact l_loop hS (S.1 + 1) 0 B1 (by omega) (by omega) (by omega) ⟨_, hX2, hY2, ⟨p_in_0, fun i b hb => (by cases hb), fun j hj => absurd hj (Nat.not_lt_zero _)⟩, L1⟩
end LW
