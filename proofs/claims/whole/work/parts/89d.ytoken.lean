/-! YARD: the reference's tokens -/
/-- the reference's word for a token, and its value -/
def t_so (T : Nat) (tx : Nat → Int32) (q : Nat) : Int := if t_kd T tx q = 0 then 6 else if t_kd T tx q = 3 then 5 else if t_kd T tx q = 1 then (if t_yd T tx q then 0 else if t_hs T tx q then 1 else if t_ch T tx q then 2 else 3) else if t_kd T tx q = 2 then (if t_ok T tx q then 4 else 7) else 7
def t_va (T : Nat) (tx : Nat → Int32) (q : Nat) : Nat := if t_kd T tx q = 2 then t_rv tx (t_e T tx q - q) q 0 else 0
theorem t_rv_le {tx : Nat → Int32} : ∀ (k i a : Nat), a ≤ 10000 → t_rv tx k i a ≤ 10000 := by
  intro k
  induction k with
  | zero => intro i a h; exact h
  | succ k ih =>
    intro i a h
    refine ih (i + 1) _ ?_
    have := t_by_lt tx i
    split <;> omega
theorem t_va_val {T : Nat} {tx : Nat → Int32} {q : Nat} (h : t_kd T tx q = 2) : t_va T tx q = t_rv tx (t_e T tx q - q) q 0 ∧ t_val T tx q = min (t_va T tx q) 100 := by
  have e : t_va T tx q = t_rv tx (t_e T tx q - q) q 0 := if_pos h
  refine ⟨e, ?_⟩
  rw [e]
  exact t_nv_rv (t_e T tx q - q) q 0
theorem t_va_le {T : Nat} {tx : Nat → Int32} {q : Nat} : t_va T tx q ≤ 10000 := by
  unfold t_va
  split
  · exact t_rv_le _ _ _ (by omega)
  · omega
theorem t_so_in {T : Nat} {tx : Nat → Int32} {q : Nat} : 0 ≤ t_so T tx q ∧ t_so T tx q ≤ 7 := by
  unfold t_so
  repeat' split
  all_goals omega
theorem t_code_in {T : Nat} {tx : Nat → Int32} {q : Nat} (hq : q ≤ T) (h : t_kd T tx q = 1) : 0 ≤ t_code T tx q ∧ t_code T tx q ≤ 20000000 := by
  obtain ⟨w1, w2, w3, w4, w5⟩ := t_word h
  have he := (t_e_ok (tx := tx) hq).2.2 (by omega)
  unfold t_code
  by_cases h5 : 5 < t_e T tx q - q
  · rw [if_pos h5]
    omega
  · rw [if_neg h5]
    have b0 := w1 q (by omega) (by omega)
    obtain h1 | h1 | h1 | h1 | h1 : t_e T tx q - q = 1 ∨ t_e T tx q - q = 2 ∨ t_e T tx q - q = 3 ∨ t_e T tx q - q = 4 ∨ t_e T tx q - q = 5 := by omega
    · rw [h1, show t_cd T tx q 1 0 0 = 27 * 0 + t_b T tx (q + 0) - 96 from rfl, Nat.add_zero]
      omega
    · have b1 := w1 (q + 1) (by omega) (by omega)
      rw [h1, show t_cd T tx q 2 0 0 = 27 * (27 * 0 + t_b T tx (q + 0) - 96) + t_b T tx (q + 1) - 96 from rfl, Nat.add_zero]
      omega
    · have b1 := w1 (q + 1) (by omega) (by omega)
      have b2 := w1 (q + 2) (by omega) (by omega)
      rw [h1, show t_cd T tx q 3 0 0 = 27 * (27 * (27 * 0 + t_b T tx (q + 0) - 96) + t_b T tx (q + 1) - 96) + t_b T tx (q + 2) - 96 from rfl, Nat.add_zero]
      omega
    · have b1 := w1 (q + 1) (by omega) (by omega)
      have b2 := w1 (q + 2) (by omega) (by omega)
      have b3 := w1 (q + 3) (by omega) (by omega)
      rw [h1, show t_cd T tx q 4 0 0 = 27 * (27 * (27 * (27 * 0 + t_b T tx (q + 0) - 96) + t_b T tx (q + 1) - 96) + t_b T tx (q + 2) - 96) + t_b T tx (q + 3) - 96 from rfl, Nat.add_zero]
      omega
    · have b1 := w1 (q + 1) (by omega) (by omega)
      have b2 := w1 (q + 2) (by omega) (by omega)
      have b3 := w1 (q + 3) (by omega) (by omega)
      have b4 := w1 (q + 4) (by omega) (by omega)
      rw [h1, show t_cd T tx q 5 0 0 = 27 * (27 * (27 * (27 * (27 * 0 + t_b T tx (q + 0) - 96) + t_b T tx (q + 1) - 96) + t_b T tx (q + 2) - 96) + t_b T tx (q + 3) - 96) + t_b T tx (q + 4) - 96 from rfl, Nat.add_zero]
      omega
abbrev y_X (M : ZM) (T : Nat) (tx : Nat → Int32) : Prop := T ≤ 200 ∧ ∃ g : Nat → Int32, M[63]? = some (.inr (1, 200, .inl g)) ∧ ∀ j, j < T → g j = tx j
theorem y_X.ev {M M' : ZM} {P : Nat → Prop} {T : Nat} {tx : Nat → Int32} (e : z_ev M M' P) (h0 : ¬ P 63) (h : y_X M T tx) : y_X M' T tx := by
  obtain ⟨h1, g, h2, h3⟩ := h
  exact ⟨h1, g, (e.2 _ h0).trans h2, h3⟩
section TY
variable {S : ZS} {d : Nat} {M : ZM} {T : Nat} {tx : Nat → Int32} {tr : Int64} {v : Nat → Int32}
theorem m_here (g62 : M[62]? = some (.inl (6, m_f tr v))) (hX : y_X M T tx) (h2 : v 2 = zI (T : Int)) {p : Nat} (h8 : v 8 = zI (p : Int)) (hp : p ≤ 1000) : z_C S d 105 [.ref 62] M (some (.int (zI (t_b T tx p)))) M := by
  obtain ⟨hT, g, h63, hg⟩ := hX
  refine c_of rfl rfl (Nat.le_of_ble_eq_true rfl) ?_
  refine g_al rfl rfl ?_
  refine g_gf rfl g62 rfl rfl ?_
  rw [h8]
  refine g_al rfl rfl ?_
  refine g_gf rfl g62 rfl rfl ?_
  rw [h2]
  by_cases hp9 : p < T
  · rw [show t_b T tx p = (t_by tx p : Int) from if_pos hp9]
    refine g_icF rfl (zcF3 ⟨by omega, by omega⟩ ⟨by omega, by omega⟩ (by omega)) ?_
    refine g_al rfl rfl ?_
    refine g_gf rfl g62 rfl rfl ?_
    refine g_al rfl rfl ?_
    refine g_gf rfl g62 rfl rfl ?_
    rw [h8]
    refine g_baI rfl h63 (by omega) (by omega) (by omega) ?_
    refine g_ic rfl ?_
    refine g_iand rfl ?_
    refine g_goto rfl ?_
    rw [Int.toNat_natCast, hg p hp9, t_by_eq]
    exact g_reti rfl (rfl) rfl
  · rw [show t_b T tx p = -1 from if_neg hp9]
    refine g_icT rfl (zcT3 ⟨by omega, by omega⟩ ⟨by omega, by omega⟩ (by omega)) ?_
    refine g_ic rfl ?_
    exact g_reti rfl (rfl) rfl
theorem m_nx_s (hX : y_X M T tx) (h20 : v 2 = zI (T : Int)) {x1 x2 : Option Value} {Q : Option Value → ZM → Prop} : ∀ (f pn : Nat) (M1 : ZM), T ≤ pn + f → pn ≤ T → (∀ M1 : ZM, (z_ev M M1 (fun k => k = 62) ∧ ∃ v1, M1[62]? = some (.inl (6, m_f tr v1)) ∧ v1 8 = zI (t_sk T tx f pn : Int) ∧ ∀ j, j ≠ 8 → v1 j = v j) → z_R S (d + 1) 106 22 [some (.ref 62), x1, x2] [] M1 Q) → (z_ev M M1 (fun k => k = 62) ∧ ∃ v1, M1[62]? = some (.inl (6, m_f tr v1)) ∧ v1 8 = zI (pn : Int) ∧ ∀ j, j ≠ 8 → v1 j = v j) → z_R S (d + 1) 106 0 [some (.ref 62), x1, x2] [] M1 Q := by
  intro f
  induction f with
  | zero =>
    intro pn M1 h1 h2' hx hI
    obtain ⟨he, v1, g62, h8, hvr⟩ := id hI
    have X1 := hX.ev he (by decide)
    have h2 : v1 2 = zI (T : Int) := (hvr 2 (by decide)).trans h20
    have hT := hX.1
    have eb : t_b T tx pn = -1 := if_neg (by omega)
    refine r_al rfl rfl ?_
    refine r_cv0 rfl rfl g62 rfl (by decide) rfl (m_here g62 X1 h2 (p := pn) h8 (by omega)) ?_
    refine r_ic rfl ?_
    refine r_icT rfl (zcT1 ⟨by omega, by omega⟩ ⟨by omega, by omega⟩ (by omega)) ?_
    exact hx M1 hI
  | succ f ih =>
    intro pn M1 h1 h2' hx hI
    obtain ⟨he, v1, g62, h8, hvr⟩ := id hI
    have X1 := hX.ev he (by decide)
    have h2 : v1 2 = zI (T : Int) := (hvr 2 (by decide)).trans h20
    have hT := hX.1
    have bi := t_b_in (T := T) (tx := tx) (i := pn)
    refine r_al rfl rfl ?_
    refine r_cv0 rfl rfl g62 rfl (by decide) rfl (m_here g62 X1 h2 (p := pn) h8 (by omega)) ?_
    refine r_ic rfl ?_
    by_cases hb : t_b T tx pn = 32
    · have hpT : pn < T := by
        by_cases g9 : pn < T
        · exact g9
        · have eb : t_b T tx pn = -1 := if_neg g9
          omega
      rw [show t_sk T tx (f + 1) pn = t_sk T tx f (pn + 1) from if_pos hb] at hx
      refine r_icF rfl (zcF1 (hb)) ?_
      refine r_al rfl rfl ?_
      refine r_dupA rfl ?_
      refine r_gf rfl g62 rfl rfl ?_
      rw [h8]
      refine r_ic rfl ?_
      refine r_addI rfl ?_
      refine r_pf8 rfl g62 rfl rfl rfl (Or.inl rfl) ?_
      refine r_goto rfl ?_
      refine ih (pn + 1) _ (by omega) (by omega) hx ⟨he.tr (.set rfl), upd v1 8 (zI ((pn + 1 : Nat) : Int)), z_gs g62, pk_us, fun j hj => ?_⟩
      rw [pk_un hj]
      exact hvr j hj
    · rw [show t_sk T tx (f + 1) pn = pn from if_neg hb] at hx
      refine r_icT rfl (zcT1 ⟨by omega, by omega⟩ ⟨by omega, by omega⟩ (hb)) ?_
      exact hx M1 hI
theorem m_nx_l (hX : y_X M T tx) (h20 : v 2 = zI (T : Int)) {q e : Nat} (hq : q ≤ T) (hrun : ∀ i, q ≤ i → i < e → t_let (t_b T tx i)) (hend : ¬ t_let (t_b T tx e)) (heT : e ≤ T) {c : Int} {Q : Option Value → ZM → Prop} : ∀ (k j : Nat) (a : Int) (M1 : ZM), q + j + k = e → (∀ M1 : ZM, (z_ev M M1 (fun k => k = 62) ∧ ∃ v1, M1[62]? = some (.inl (6, m_f tr v1)) ∧ v1 8 = zI (e : Int) ∧ v1 9 = zI (q : Int) ∧ v1 11 = zI (((0 : Nat) : Int) : Int) ∧ ∀ j, ¬ (8 ≤ j ∧ j ≤ 11) → v1 j = v j) → z_R S (d + 1) 106 123 [some (.ref 62), some (.int (zI c)), some (.int (zI (t_cd T tx q k j a)))] [] M1 Q) → (z_ev M M1 (fun k => k = 62) ∧ ∃ v1, M1[62]? = some (.inl (6, m_f tr v1)) ∧ v1 8 = zI ((q + j : Nat) : Int) ∧ v1 9 = zI (q : Int) ∧ v1 11 = zI (((0 : Nat) : Int) : Int) ∧ ∀ j, ¬ (8 ≤ j ∧ j ≤ 11) → v1 j = v j) → z_R S (d + 1) 106 66 [some (.ref 62), some (.int (zI c)), some (.int (zI a))] [] M1 Q := by
  intro k
  induction k with
  | zero =>
    intro j a M1 h1 hx hI
    obtain rfl : e = q + j := by omega
    obtain ⟨he, v1, g62, h8, h9, h11, hvr⟩ := id hI
    have X1 := hX.ev he (by decide)
    have h2 : v1 2 = zI (T : Int) := (hvr 2 (by decide)).trans h20
    have hT := hX.1
    have bi := t_b_in (T := T) (tx := tx) (i := (q + j))
    refine r_al rfl rfl ?_
    refine r_cv0 rfl rfl g62 rfl (by decide) rfl (m_here g62 X1 h2 (p := q + j) h8 (by omega)) ?_
    refine r_ic rfl ?_
    refine r_ic rfl ?_
    refine r_cs3 rfl rfl rfl rfl (m_in (x := t_b T tx (q + j)) ⟨by omega, by omega⟩ ⟨by omega, by omega⟩ ⟨by omega, by omega⟩) ?_
    rw [if_neg hend]
    refine r_ifT rfl (zcT0 (rfl)) ?_
    exact hx M1 hI
  | succ k ih =>
    intro j a M1 h1 hx hI
    obtain ⟨he, v1, g62, h8, h9, h11, hvr⟩ := id hI
    have X1 := hX.ev he (by decide)
    have h2 : v1 2 = zI (T : Int) := (hvr 2 (by decide)).trans h20
    have hT := hX.1
    have bi := t_b_in (T := T) (tx := tx) (i := (q + j))
    have hl := hrun (q + j) (by omega) (by omega)
    refine r_al rfl rfl ?_
    refine r_cv0 rfl rfl g62 rfl (by decide) rfl (m_here g62 X1 h2 (p := q + j) h8 (by omega)) ?_
    refine r_ic rfl ?_
    refine r_ic rfl ?_
    refine r_cs3 rfl rfl rfl rfl (m_in (x := t_b T tx (q + j)) ⟨by omega, by omega⟩ ⟨by omega, by omega⟩ ⟨by omega, by omega⟩) ?_
    rw [if_pos hl]
    refine r_ifF rfl (zcF0 ⟨by omega, by omega⟩ ⟨by omega, by omega⟩ (by decide)) ?_
    refine r_al rfl rfl ?_
    refine r_gf rfl g62 rfl rfl ?_
    rw [h8]
    refine r_al rfl rfl ?_
    refine r_gf rfl g62 rfl rfl ?_
    rw [h9]
    refine r_subI rfl ?_
    refine r_ic rfl ?_
    by_cases h5 : j < 5
    · rw [show t_cd T tx q (k + 1) j a = t_cd T tx q k (j + 1) (27 * a + t_b T tx (q + j) - 96) by show t_cd T tx q k (j + 1) (if j < 5 then _ else _) = _; rw [if_pos h5]] at hx
      refine r_icF rfl (zcF3 ⟨by omega, by omega⟩ ⟨by omega, by omega⟩ (by omega)) ?_
      refine r_ic rfl ?_
      refine r_il rfl rfl ?_
      refine r_mulI rfl ?_
      refine r_al rfl rfl ?_
      refine r_cv0 rfl rfl g62 rfl (by decide) rfl (m_here g62 X1 h2 (p := q + j) h8 (by omega)) ?_
      refine r_addI rfl ?_
      refine r_ic rfl ?_
      refine r_subI rfl ?_
      refine r_goto rfl ?_
      refine r_is2 rfl rfl ?_
      refine r_al rfl rfl ?_
      refine r_dupA rfl ?_
      refine r_gf rfl g62 rfl rfl ?_
      rw [h8]
      refine r_ic rfl ?_
      refine r_addI rfl ?_
      refine r_pf8 rfl g62 rfl rfl rfl (Or.inl rfl) ?_
      refine r_goto rfl ?_
      refine ih (j + 1) (27 * a + t_b T tx (q + j) - 96) _ (by omega) hx ⟨he.tr (.set rfl), upd v1 8 (zI ((q + (j + 1) : Nat) : Int)), z_gs g62, pk_us, (pk_un (by decide)).trans h9, (pk_un (by decide)).trans h11, fun i hi => ?_⟩
      rw [pk_un (by omega)]
      exact hvr i hi
    · rw [show t_cd T tx q (k + 1) j a = t_cd T tx q k (j + 1) 0 by show t_cd T tx q k (j + 1) (if j < 5 then _ else _) = _; rw [if_neg h5]] at hx
      refine r_icT rfl (zcT3 ⟨by omega, by omega⟩ ⟨by omega, by omega⟩ (by omega)) ?_
      refine r_ic rfl ?_
      refine r_is2 rfl rfl ?_
      refine r_al rfl rfl ?_
      refine r_dupA rfl ?_
      refine r_gf rfl g62 rfl rfl ?_
      rw [h8]
      refine r_ic rfl ?_
      refine r_addI rfl ?_
      refine r_pf8 rfl g62 rfl rfl rfl (Or.inl rfl) ?_
      refine r_goto rfl ?_
      refine ih (j + 1) 0 _ (by omega) hx ⟨he.tr (.set rfl), upd v1 8 (zI ((q + (j + 1) : Nat) : Int)), z_gs g62, pk_us, (pk_un (by decide)).trans h9, (pk_un (by decide)).trans h11, fun i hi => ?_⟩
      rw [pk_un (by omega)]
      exact hvr i hi
theorem m_nx_f (hX : y_X M T tx) (h20 : v 2 = zI (T : Int)) {q e : Nat} (hq : q ≤ T) (hrun : ∀ i, q ≤ i → i < e → t_fig (t_b T tx i)) (hend : ¬ t_fig (t_b T tx e)) (heT : e ≤ T) {c : Int} {x2 : Option Value} {Q : Option Value → ZM → Prop} : ∀ (k j a : Nat) (M1 : ZM), q + j + k = e → a ≤ 10000 → (∀ M1 : ZM, (z_ev M M1 (fun k => k = 62) ∧ ∃ v1, M1[62]? = some (.inl (6, m_f tr v1)) ∧ v1 8 = zI (e : Int) ∧ v1 9 = zI (q : Int) ∧ v1 11 = zI (t_rv tx k (q + j) a : Int) ∧ ∀ j, ¬ (8 ≤ j ∧ j ≤ 11) → v1 j = v j) → z_R S (d + 1) 106 253 [some (.ref 62), some (.int (zI c)), x2] [] M1 Q) → (z_ev M M1 (fun k => k = 62) ∧ ∃ v1, M1[62]? = some (.inl (6, m_f tr v1)) ∧ v1 8 = zI ((q + j : Nat) : Int) ∧ v1 9 = zI (q : Int) ∧ v1 11 = zI (a : Int) ∧ ∀ j, ¬ (8 ≤ j ∧ j ≤ 11) → v1 j = v j) → z_R S (d + 1) 106 191 [some (.ref 62), some (.int (zI c)), x2] [] M1 Q := by
  intro k
  induction k with
  | zero =>
    intro j a M1 h1 ha hx hI
    obtain rfl : e = q + j := by omega
    obtain ⟨he, v1, g62, h8, h9, h11, hvr⟩ := id hI
    have X1 := hX.ev he (by decide)
    have h2 : v1 2 = zI (T : Int) := (hvr 2 (by decide)).trans h20
    have hT := hX.1
    have bi := t_b_in (T := T) (tx := tx) (i := (q + j))
    refine r_al rfl rfl ?_
    refine r_cv0 rfl rfl g62 rfl (by decide) rfl (m_here g62 X1 h2 (p := q + j) h8 (by omega)) ?_
    refine r_ic rfl ?_
    refine r_ic rfl ?_
    refine r_cs3 rfl rfl rfl rfl (m_in (x := t_b T tx (q + j)) ⟨by omega, by omega⟩ ⟨by omega, by omega⟩ ⟨by omega, by omega⟩) ?_
    rw [if_neg hend]
    refine r_ifT rfl (zcT0 (rfl)) ?_
    exact hx M1 hI
  | succ k ih =>
    intro j a M1 h1 ha hx hI
    have bl := t_by_lt tx (q + j)
    obtain ⟨he, v1, g62, h8, h9, h11, hvr⟩ := id hI
    have X1 := hX.ev he (by decide)
    have h2 : v1 2 = zI (T : Int) := (hvr 2 (by decide)).trans h20
    have hT := hX.1
    have bi := t_b_in (T := T) (tx := tx) (i := (q + j))
    have hl := hrun (q + j) (by omega) (by omega)
    have eb : t_b T tx (q + j) = (t_by tx (q + j) : Int) := if_pos (by omega)
    refine r_al rfl rfl ?_
    refine r_cv0 rfl rfl g62 rfl (by decide) rfl (m_here g62 X1 h2 (p := q + j) h8 (by omega)) ?_
    refine r_ic rfl ?_
    refine r_ic rfl ?_
    refine r_cs3 rfl rfl rfl rfl (m_in (x := t_b T tx (q + j)) ⟨by omega, by omega⟩ ⟨by omega, by omega⟩ ⟨by omega, by omega⟩) ?_
    rw [if_pos hl]
    refine r_ifF rfl (zcF0 ⟨by omega, by omega⟩ ⟨by omega, by omega⟩ (by decide)) ?_
    refine r_al rfl rfl ?_
    refine r_al rfl rfl ?_
    refine r_gf rfl g62 rfl rfl ?_
    rw [h11]
    refine r_ic rfl ?_
    by_cases h99 : 99 < a
    · rw [show t_rv tx (k + 1) (q + j) a = t_rv tx k (q + (j + 1)) a by show t_rv tx k (q + j + 1) (if 99 < a then a else _) = _; rw [if_pos h99]; rfl] at hx
      refine r_icF rfl (zcF5 ⟨by omega, by omega⟩ ⟨by omega, by omega⟩ (by omega)) ?_
      refine r_al rfl rfl ?_
      refine r_gf rfl g62 rfl rfl ?_
      rw [h11]
      refine r_goto rfl ?_
      refine r_pf11 rfl g62 rfl rfl rfl (Or.inl rfl) ?_
      refine r_al rfl rfl ?_
      refine r_dupA rfl ?_
      refine r_gf rfl (z_gs g62) rfl rfl ?_
      rw [h8]
      refine r_ic rfl ?_
      refine r_addI rfl ?_
      refine r_pf8 rfl (z_gs g62) rfl rfl rfl (Or.inl rfl) ?_
      rw [List.set_set]
      refine r_goto rfl ?_
      refine ih (j + 1) (a) _ (by omega) (by omega) hx ⟨he.tr (.set rfl), upd (upd v1 11 (zI (a : Int))) 8 (zI ((q + (j + 1) : Nat) : Int)), z_gs g62, pk_us, (pk_un (by decide)).trans ((pk_un (by decide)).trans h9), (pk_un (by decide)).trans pk_us, fun i hi => ?_⟩
      rw [pk_un (by omega), pk_un (by omega)]
      exact hvr i hi
    · rw [show t_rv tx (k + 1) (q + j) a = t_rv tx k (q + (j + 1)) (10 * a + (t_by tx (q + j) - 48)) by show t_rv tx k (q + j + 1) (if 99 < a then a else _) = _; rw [if_neg h99]; rfl] at hx
      refine r_icT rfl (zcT5 ⟨by omega, by omega⟩ ⟨by omega, by omega⟩ (by omega)) ?_
      refine r_ic rfl ?_
      refine r_al rfl rfl ?_
      refine r_gf rfl g62 rfl rfl ?_
      rw [h11]
      refine r_mulI rfl ?_
      refine r_al rfl rfl ?_
      refine r_cv0 rfl rfl g62 rfl (by decide) rfl (m_here g62 X1 h2 (p := q + j) h8 (by omega)) ?_
      rw [eb]
      refine r_addI rfl ?_
      refine r_ic rfl ?_
      refine r_subI rfl ?_
      rw [show (10 : Int) * (a : Int) + (t_by tx (q + j) : Int) - 48 = ((10 * a + (t_by tx (q + j) - 48) : Nat) : Int) by omega]
      refine r_pf11 rfl g62 rfl rfl rfl (Or.inl rfl) ?_
      refine r_al rfl rfl ?_
      refine r_dupA rfl ?_
      refine r_gf rfl (z_gs g62) rfl rfl ?_
      rw [h8]
      refine r_ic rfl ?_
      refine r_addI rfl ?_
      refine r_pf8 rfl (z_gs g62) rfl rfl rfl (Or.inl rfl) ?_
      rw [List.set_set]
      refine r_goto rfl ?_
      refine ih (j + 1) (10 * a + (t_by tx (q + j) - 48)) _ (by omega) (by omega) hx ⟨he.tr (.set rfl), upd (upd v1 11 (zI (((10 * a + (t_by tx (q + j) - 48) : Nat) : Int) : Int))) 8 (zI ((q + (j + 1) : Nat) : Int)), z_gs g62, pk_us, (pk_un (by decide)).trans ((pk_un (by decide)).trans h9), (pk_un (by decide)).trans pk_us, fun i hi => ?_⟩
      rw [pk_un (by omega), pk_un (by omega)]
      exact hvr i hi
set_option maxRecDepth 20000 in
theorem m_next (g62 : M[62]? = some (.inl (6, m_f tr v))) (hX : y_X M T tx) (h2 : v 2 = zI (T : Int)) {pos : Nat} (h8 : v 8 = zI (pos : Int)) (hpos : pos ≤ T) : ∃ M', z_C S (d + 1) 106 [.ref 62] M none M' ∧ (z_ev M M' (fun k => k = 62) ∧ ∃ v', M'[62]? = some (.inl (6, m_f tr v')) ∧ v' 8 = zI (t_e T tx (t_q T tx pos) : Int) ∧ v' 9 = zI ((t_q T tx pos) : Int) ∧ v' 10 = zI (t_so T tx (t_q T tx pos)) ∧ v' 11 = zI (t_va T tx (t_q T tx pos) : Int) ∧ ∀ j, ¬ (8 ≤ j ∧ j ≤ 11) → v' j = v j) := by
  refine k_an ?_
  refine k_of rfl rfl (Nat.le_of_ble_eq_true rfl) ?_
  refine m_nx_s (M := M) (v := v) hX h2 T pos M (by omega) hpos (fun M1 hI => ?_) ⟨.rf, v, g62, h8, fun j _ => rfl⟩
  show z_R S (d + 1) 106 22 _ _ M1 (fun r M' => r = none ∧ (z_ev M M' (fun k => k = 62) ∧ ∃ v', M'[62]? = some (.inl (6, m_f tr v')) ∧ v' 8 = zI (t_e T tx (t_q T tx pos) : Int) ∧ v' 9 = zI ((t_q T tx pos) : Int) ∧ v' 10 = zI (t_so T tx (t_q T tx pos)) ∧ v' 11 = zI (t_va T tx (t_q T tx pos) : Int) ∧ ∀ j, ¬ (8 ≤ j ∧ j ≤ 11) → v' j = v j))
  rw [show t_sk T tx T pos = t_q T tx pos from rfl] at hI
  obtain ⟨q1, q2, q3⟩ := t_q_ok (tx := tx) hpos
  have hT := hX.1
  generalize t_q T tx pos = qn at *
  obtain ⟨he, v1, c62, c8, hvr⟩ := id hI
  have X1 := hX.ev he (by decide)
  have bi := t_b_in (T := T) (tx := tx) (i := qn)
  refine r_al rfl rfl ?_
  refine r_al rfl rfl ?_
  refine r_gf rfl c62 rfl rfl ?_
  rw [c8]
  refine r_pf9 rfl c62 rfl rfl rfl (Or.inl rfl) ?_
  refine r_al rfl rfl ?_
  refine r_ic rfl ?_
  refine r_pf11 rfl (z_gs c62) rfl rfl rfl (Or.inl rfl) ?_
  rw [List.set_set]
  have s1 : z_ev M1 (M1.set 62 (.inl (6, m_f tr (upd (upd v1 9 (zI (qn : Int))) 11 (zI 0))))) (fun k => k = 62) := .set rfl
  have w62 : (M1.set 62 (.inl (6, m_f tr (upd (upd v1 9 (zI (qn : Int))) 11 (zI 0)))))[62]? = some (.inl (6, m_f tr (upd (upd v1 9 (zI (qn : Int))) 11 (zI 0)))) := z_gs c62
  have w8 : upd (upd v1 9 (zI (qn : Int))) 11 (zI 0) 8 = zI (qn : Int) := (pk_un (by decide)).trans ((pk_un (by decide)).trans c8)
  have w9 : upd (upd v1 9 (zI (qn : Int))) 11 (zI 0) 9 = zI (qn : Int) := (pk_un (by decide)).trans pk_us
  have w11 : upd (upd v1 9 (zI (qn : Int))) 11 (zI 0) 11 = zI ((0 : Nat) : Int) := pk_us
  have wr : ∀ j, ¬ (8 ≤ j ∧ j ≤ 11) → upd (upd v1 9 (zI (qn : Int))) 11 (zI 0) j = v j := fun j hj => (pk_un (by omega)).trans ((pk_un (by omega)).trans (hvr j (by omega)))
  have X2 := X1.ev s1 (by decide)
  have w2 : upd (upd v1 9 (zI (qn : Int))) 11 (zI 0) 2 = zI (T : Int) := (wr 2 (by omega)).trans h2
  have E2 := he.tr s1
  change z_R S (d + 1) 106 35 _ _ (M1.set 62 (.inl (6, m_f tr (upd (upd v1 9 (zI (qn : Int))) 11 (zI 0))))) _
  generalize hv2 : upd (upd v1 9 (zI (qn : Int))) 11 (zI 0) = v2 at *
  generalize M1.set 62 (.inl (6, m_f tr v2)) = M2 at *
  refine r_al rfl rfl ?_
  refine r_cv0 rfl rfl w62 rfl (by decide) rfl (m_here w62 X2 w2 (p := qn) w8 (by omega)) ?_
  refine r_is1 rfl rfl ?_
  refine r_il rfl rfl ?_
  by_cases hqT : qn < T
  · have nT : ¬ T ≤ qn := by omega
    have eb : t_b T tx qn = (t_by tx qn : Int) := if_pos hqT
    refine r_ifT rfl (zcT3 ⟨by omega, by omega⟩ ⟨by omega, by omega⟩ (by omega)) ?_
    refine r_il rfl rfl ?_
    refine r_ic rfl ?_
    refine r_ic rfl ?_
    refine r_cs3 rfl rfl rfl rfl (m_in (x := t_b T tx qn) ⟨by omega, by omega⟩ ⟨by omega, by omega⟩ ⟨by omega, by omega⟩) ?_
    by_cases hl : t_let (t_b T tx qn)
    · have n59 : ¬ t_b T tx qn = 59 := by omega
      have k0 : t_kd T tx qn = 1 := by unfold t_kd; rw [if_neg nT, if_neg n59, if_pos hl]
      have a0 : t_va T tx qn = 0 := if_neg (by omega)
      obtain ⟨x1, x2, x3, x4, x5⟩ := t_word k0
      obtain ⟨ek1, ek2, ek3⟩ := t_e_ok (tx := tx) q2
      have ek3 := ek3 (by omega)
      have hend : ¬ t_let (t_b T tx (t_e T tx qn)) := by rw [x5]; exact (t_le_ok T (qn + 1)).2.2.1 (by omega)
      obtain ⟨cw1, cw2, cw3⟩ := t_code_w q2 k0
      have cin := t_code_in q2 k0
      rw [if_pos hl]
      refine r_ifF rfl (zcF0 ⟨by omega, by omega⟩ ⟨by omega, by omega⟩ (by decide)) ?_
      refine r_ic rfl ?_
      refine r_is2 rfl rfl ?_
      refine m_nx_l (M := M) (v := v) hX h2 (q := qn) (e := t_e T tx qn) q2 x1 hend ek2 (t_e T tx qn - qn) 0 0 M2 (by omega) (fun M3 hI3 => ?_) ⟨E2, v2, w62, w8, w9, w11, wr⟩
      obtain ⟨E3, v3, y62, y8, y9, y11, yr⟩ := hI3
      refine r_al rfl rfl ?_
      refine r_gf rfl y62 rfl rfl ?_
      rw [y8]
      refine r_al rfl rfl ?_
      refine r_gf rfl y62 rfl rfl ?_
      rw [y9]
      refine r_subI rfl ?_
      refine r_ic rfl ?_
      by_cases h5 : 5 < t_e T tx qn - qn
      · have ec : t_code T tx qn = 0 := if_pos h5
        refine r_icF rfl (zcF5 ⟨by omega, by omega⟩ ⟨by omega, by omega⟩ (by omega)) ?_
        refine r_ic rfl ?_
        refine r_goto rfl ?_
        rw [show zI 0 = zI (t_code T tx qn) by rw [ec]]
        refine r_is2 rfl rfl ?_
        refine r_al rfl rfl ?_
        refine r_il rfl rfl ?_
        refine r_ic rfl ?_
        by_cases c1 : t_code T tx qn = 493294
        · have s0 : t_so T tx qn = 0 := by unfold t_so; rw [if_neg (by omega), if_neg (by omega), if_pos k0, if_pos (cw1.mp c1)]
          refine r_icF rfl (zcF1 (c1)) ?_
          refine r_ic rfl ?_
          refine r_goto rfl ?_
          refine r_pf10 rfl y62 rfl rfl rfl (Or.inl rfl) ?_
          refine r_goto rfl ?_
          refine r_retv rfl rfl ?_
          rw [s0, a0]
          exact ⟨rfl, E3.tr (.set rfl), upd v3 10 (zI 0), z_gs y62, (pk_un (by decide)).trans y8, (pk_un (by decide)).trans y9, pk_us, (pk_un (by decide)).trans y11, fun j hj => (pk_un (by omega)).trans (yr j hj)⟩
        · refine r_icT rfl (zcT1 ⟨by omega, by omega⟩ ⟨by omega, by omega⟩ (c1)) ?_
          refine r_il rfl rfl ?_
          refine r_ic rfl ?_
          by_cases c2 : t_code T tx qn = 4562600
          · have s0 : t_so T tx qn = 1 := by unfold t_so; rw [if_neg (by omega), if_neg (by omega), if_pos k0, if_neg (fun g => c1 (cw1.mpr g)), if_pos (cw2.mp c2)]
            refine r_icF rfl (zcF1 (c2)) ?_
            refine r_ic rfl ?_
            refine r_goto rfl ?_
            refine r_pf10 rfl y62 rfl rfl rfl (Or.inl rfl) ?_
            refine r_goto rfl ?_
            refine r_retv rfl rfl ?_
            rw [s0, a0]
            exact ⟨rfl, E3.tr (.set rfl), upd v3 10 (zI 1), z_gs y62, (pk_un (by decide)).trans y8, (pk_un (by decide)).trans y9, pk_us, (pk_un (by decide)).trans y11, fun j hj => (pk_un (by omega)).trans (yr j hj)⟩
          · refine r_icT rfl (zcT1 ⟨by omega, by omega⟩ ⟨by omega, by omega⟩ (c2)) ?_
            refine r_il rfl rfl ?_
            refine r_ic rfl ?_
            by_cases c3 : t_code T tx qn = 1752773
            · have s0 : t_so T tx qn = 2 := by unfold t_so; rw [if_neg (by omega), if_neg (by omega), if_pos k0, if_neg (fun g => c1 (cw1.mpr g)), if_neg (fun g => c2 (cw2.mpr g)), if_pos (cw3.mp c3)]
              refine r_icF rfl (zcF1 (c3)) ?_
              refine r_ic rfl ?_
              refine r_goto rfl ?_
              refine r_pf10 rfl y62 rfl rfl rfl (Or.inl rfl) ?_
              refine r_goto rfl ?_
              refine r_retv rfl rfl ?_
              rw [s0, a0]
              exact ⟨rfl, E3.tr (.set rfl), upd v3 10 (zI 2), z_gs y62, (pk_un (by decide)).trans y8, (pk_un (by decide)).trans y9, pk_us, (pk_un (by decide)).trans y11, fun j hj => (pk_un (by omega)).trans (yr j hj)⟩
            · have s0 : t_so T tx qn = 3 := by unfold t_so; rw [if_neg (by omega), if_neg (by omega), if_pos k0, if_neg (fun g => c1 (cw1.mpr g)), if_neg (fun g => c2 (cw2.mpr g)), if_neg (fun g => c3 (cw3.mpr g))]
              refine r_icT rfl (zcT1 ⟨by omega, by omega⟩ ⟨by omega, by omega⟩ (c3)) ?_
              refine r_ic rfl ?_
              refine r_pf10 rfl y62 rfl rfl rfl (Or.inl rfl) ?_
              refine r_goto rfl ?_
              refine r_retv rfl rfl ?_
              rw [s0, a0]
              exact ⟨rfl, E3.tr (.set rfl), upd v3 10 (zI 3), z_gs y62, (pk_un (by decide)).trans y8, (pk_un (by decide)).trans y9, pk_us, (pk_un (by decide)).trans y11, fun j hj => (pk_un (by omega)).trans (yr j hj)⟩
      · have ec : t_code T tx qn = t_cd T tx qn (t_e T tx qn - qn) 0 0 := if_neg h5
        rw [← ec]
        refine r_icT rfl (zcT5 ⟨by omega, by omega⟩ ⟨by omega, by omega⟩ (by omega)) ?_
        refine r_il rfl rfl ?_
        refine r_is2 rfl rfl ?_
        refine r_al rfl rfl ?_
        refine r_il rfl rfl ?_
        refine r_ic rfl ?_
        by_cases c1 : t_code T tx qn = 493294
        · have s0 : t_so T tx qn = 0 := by unfold t_so; rw [if_neg (by omega), if_neg (by omega), if_pos k0, if_pos (cw1.mp c1)]
          refine r_icF rfl (zcF1 (c1)) ?_
          refine r_ic rfl ?_
          refine r_goto rfl ?_
          refine r_pf10 rfl y62 rfl rfl rfl (Or.inl rfl) ?_
          refine r_goto rfl ?_
          refine r_retv rfl rfl ?_
          rw [s0, a0]
          exact ⟨rfl, E3.tr (.set rfl), upd v3 10 (zI 0), z_gs y62, (pk_un (by decide)).trans y8, (pk_un (by decide)).trans y9, pk_us, (pk_un (by decide)).trans y11, fun j hj => (pk_un (by omega)).trans (yr j hj)⟩
        · refine r_icT rfl (zcT1 ⟨by omega, by omega⟩ ⟨by omega, by omega⟩ (c1)) ?_
          refine r_il rfl rfl ?_
          refine r_ic rfl ?_
          by_cases c2 : t_code T tx qn = 4562600
          · have s0 : t_so T tx qn = 1 := by unfold t_so; rw [if_neg (by omega), if_neg (by omega), if_pos k0, if_neg (fun g => c1 (cw1.mpr g)), if_pos (cw2.mp c2)]
            refine r_icF rfl (zcF1 (c2)) ?_
            refine r_ic rfl ?_
            refine r_goto rfl ?_
            refine r_pf10 rfl y62 rfl rfl rfl (Or.inl rfl) ?_
            refine r_goto rfl ?_
            refine r_retv rfl rfl ?_
            rw [s0, a0]
            exact ⟨rfl, E3.tr (.set rfl), upd v3 10 (zI 1), z_gs y62, (pk_un (by decide)).trans y8, (pk_un (by decide)).trans y9, pk_us, (pk_un (by decide)).trans y11, fun j hj => (pk_un (by omega)).trans (yr j hj)⟩
          · refine r_icT rfl (zcT1 ⟨by omega, by omega⟩ ⟨by omega, by omega⟩ (c2)) ?_
            refine r_il rfl rfl ?_
            refine r_ic rfl ?_
            by_cases c3 : t_code T tx qn = 1752773
            · have s0 : t_so T tx qn = 2 := by unfold t_so; rw [if_neg (by omega), if_neg (by omega), if_pos k0, if_neg (fun g => c1 (cw1.mpr g)), if_neg (fun g => c2 (cw2.mpr g)), if_pos (cw3.mp c3)]
              refine r_icF rfl (zcF1 (c3)) ?_
              refine r_ic rfl ?_
              refine r_goto rfl ?_
              refine r_pf10 rfl y62 rfl rfl rfl (Or.inl rfl) ?_
              refine r_goto rfl ?_
              refine r_retv rfl rfl ?_
              rw [s0, a0]
              exact ⟨rfl, E3.tr (.set rfl), upd v3 10 (zI 2), z_gs y62, (pk_un (by decide)).trans y8, (pk_un (by decide)).trans y9, pk_us, (pk_un (by decide)).trans y11, fun j hj => (pk_un (by omega)).trans (yr j hj)⟩
            · have s0 : t_so T tx qn = 3 := by unfold t_so; rw [if_neg (by omega), if_neg (by omega), if_pos k0, if_neg (fun g => c1 (cw1.mpr g)), if_neg (fun g => c2 (cw2.mpr g)), if_neg (fun g => c3 (cw3.mpr g))]
              refine r_icT rfl (zcT1 ⟨by omega, by omega⟩ ⟨by omega, by omega⟩ (c3)) ?_
              refine r_ic rfl ?_
              refine r_pf10 rfl y62 rfl rfl rfl (Or.inl rfl) ?_
              refine r_goto rfl ?_
              refine r_retv rfl rfl ?_
              rw [s0, a0]
              exact ⟨rfl, E3.tr (.set rfl), upd v3 10 (zI 3), z_gs y62, (pk_un (by decide)).trans y8, (pk_un (by decide)).trans y9, pk_us, (pk_un (by decide)).trans y11, fun j hj => (pk_un (by omega)).trans (yr j hj)⟩
    · rw [if_neg hl]
      refine r_ifT rfl (zcT0 (rfl)) ?_
      refine r_il rfl rfl ?_
      refine r_ic rfl ?_
      refine r_ic rfl ?_
      refine r_cs3 rfl rfl rfl rfl (m_in (x := t_b T tx qn) ⟨by omega, by omega⟩ ⟨by omega, by omega⟩ ⟨by omega, by omega⟩) ?_
      by_cases hf : t_fig (t_b T tx qn)
      · have n59 : ¬ t_b T tx qn = 59 := by omega
        have k0 : t_kd T tx qn = 2 := by unfold t_kd; rw [if_neg nT, if_neg n59, if_neg hl, if_pos hf]
        obtain ⟨a0, av⟩ := t_va_val k0
        have al := t_va_le (T := T) (tx := tx) (q := qn)
        obtain ⟨x1, x2, x3, x5⟩ := t_figs k0
        obtain ⟨ek1, ek2, ek3⟩ := t_e_ok (tx := tx) q2
        have ek3 := ek3 (by omega)
        have hend : ¬ t_fig (t_b T tx (t_e T tx qn)) := by rw [x5]; exact (t_fe_ok T (qn + 1)).2.2.1 (by omega)
        rw [if_pos hf]
        refine r_ifF rfl (zcF0 ⟨by omega, by omega⟩ ⟨by omega, by omega⟩ (by decide)) ?_
        refine m_nx_f (M := M) (v := v) hX h2 (q := qn) (e := t_e T tx qn) q2 x1 hend ek2 (t_e T tx qn - qn) 0 0 M2 (by omega) (by omega) (fun M3 hI3 => ?_) ⟨E2, v2, w62, w8, w9, w11, wr⟩
        obtain ⟨E3, v3, y62, y8, y9, y11, yr⟩ := hI3
        rw [show t_rv tx (t_e T tx qn - qn) (qn + 0) 0 = t_va T tx qn from a0.symm] at y11
        refine r_al rfl rfl ?_
        refine r_al rfl rfl ?_
        refine r_gf rfl y62 rfl rfl ?_
        rw [y11]
        refine r_ic rfl ?_
        by_cases h99 : 99 < t_va T tx qn
        · refine r_icT rfl (zcT4 ⟨by omega, by omega⟩ ⟨by omega, by omega⟩ (by omega)) ?_
          have s0 : t_so T tx qn = 7 := by unfold t_so; rw [if_neg (by omega), if_neg (by omega), if_neg (by omega), if_pos k0, if_neg (fun g => by have := g.2; omega)]
          refine r_ic rfl ?_
          refine r_goto rfl ?_
          refine r_pf10 rfl y62 rfl rfl rfl (Or.inl rfl) ?_
          refine r_goto rfl ?_
          refine r_retv rfl rfl ?_
          rw [s0]
          exact ⟨rfl, E3.tr (.set rfl), upd v3 10 (zI 7), z_gs y62, (pk_un (by decide)).trans y8, (pk_un (by decide)).trans y9, pk_us, (pk_un (by decide)).trans y11, fun j hj => (pk_un (by omega)).trans (yr j hj)⟩
        · refine r_icF rfl (zcF4 ⟨by omega, by omega⟩ ⟨by omega, by omega⟩ (by omega)) ?_
          refine r_il rfl rfl ?_
          refine r_ic rfl ?_
          by_cases hz : t_b T tx qn = 48
          · refine r_icF rfl (zcF1 (hz)) ?_
            refine r_al rfl rfl ?_
            refine r_gf rfl y62 rfl rfl ?_
            rw [y8]
            refine r_al rfl rfl ?_
            refine r_gf rfl y62 rfl rfl ?_
            rw [y9]
            refine r_subI rfl ?_
            refine r_ic rfl ?_
            by_cases hz2 : qn + 1 < t_e T tx qn
            · refine r_icF rfl (zcF5 ⟨by omega, by omega⟩ ⟨by omega, by omega⟩ (by omega)) ?_
              have s0 : t_so T tx qn = 7 := by unfold t_so; rw [if_neg (by omega), if_neg (by omega), if_neg (by omega), if_pos k0, if_neg (fun g => g.1 ⟨hz, hz2⟩)]
              refine r_ic rfl ?_
              refine r_goto rfl ?_
              refine r_pf10 rfl y62 rfl rfl rfl (Or.inl rfl) ?_
              refine r_goto rfl ?_
              refine r_retv rfl rfl ?_
              rw [s0]
              exact ⟨rfl, E3.tr (.set rfl), upd v3 10 (zI 7), z_gs y62, (pk_un (by decide)).trans y8, (pk_un (by decide)).trans y9, pk_us, (pk_un (by decide)).trans y11, fun j hj => (pk_un (by omega)).trans (yr j hj)⟩
            · refine r_icT rfl (zcT5 ⟨by omega, by omega⟩ ⟨by omega, by omega⟩ (by omega)) ?_
              have s0 : t_so T tx qn = 4 := by unfold t_so; rw [if_neg (by omega), if_neg (by omega), if_neg (by omega), if_pos k0, if_pos (⟨fun g => hz2 g.2, by omega⟩)]
              refine r_ic rfl ?_
              refine r_pf10 rfl y62 rfl rfl rfl (Or.inl rfl) ?_
              refine r_goto rfl ?_
              refine r_retv rfl rfl ?_
              rw [s0]
              exact ⟨rfl, E3.tr (.set rfl), upd v3 10 (zI 4), z_gs y62, (pk_un (by decide)).trans y8, (pk_un (by decide)).trans y9, pk_us, (pk_un (by decide)).trans y11, fun j hj => (pk_un (by omega)).trans (yr j hj)⟩
          · refine r_icT rfl (zcT1 ⟨by omega, by omega⟩ ⟨by omega, by omega⟩ (hz)) ?_
            have s0 : t_so T tx qn = 4 := by unfold t_so; rw [if_neg (by omega), if_neg (by omega), if_neg (by omega), if_pos k0, if_pos (⟨fun g => hz g.1, by omega⟩)]
            refine r_ic rfl ?_
            refine r_pf10 rfl y62 rfl rfl rfl (Or.inl rfl) ?_
            refine r_goto rfl ?_
            refine r_retv rfl rfl ?_
            rw [s0]
            exact ⟨rfl, E3.tr (.set rfl), upd v3 10 (zI 4), z_gs y62, (pk_un (by decide)).trans y8, (pk_un (by decide)).trans y9, pk_us, (pk_un (by decide)).trans y11, fun j hj => (pk_un (by omega)).trans (yr j hj)⟩
      · rw [if_neg hf]
        have e0 : t_e T tx qn = qn + 1 := by
          unfold t_e
          rw [if_neg nT, if_neg hl, if_neg hf]
          by_cases g : t_b T tx qn = 59
          · rw [if_pos g]
          · rw [if_neg g]
        refine r_ifT rfl (zcT0 (rfl)) ?_
        refine r_al rfl rfl ?_
        refine r_dupA rfl ?_
        refine r_gf rfl w62 rfl rfl ?_
        rw [w8]
        refine r_ic rfl ?_
        refine r_addI rfl ?_
        refine r_pf8 rfl w62 rfl rfl rfl (Or.inl rfl) ?_
        refine r_al rfl rfl ?_
        refine r_il rfl rfl ?_
        refine r_ic rfl ?_
        by_cases h59 : t_b T tx qn = 59
        · have k0 : t_kd T tx qn = 3 := by unfold t_kd; rw [if_neg nT, if_pos h59]
          have s0 : t_so T tx qn = 5 := by unfold t_so; rw [if_neg (by omega), if_pos k0]
          have a0 : t_va T tx qn = 0 := if_neg (by omega)
          refine r_icF rfl (zcF1 (h59)) ?_
          refine r_ic rfl ?_
          refine r_goto rfl ?_
          refine r_pf10 rfl (z_gs w62) rfl rfl rfl (Or.inl rfl) ?_
          rw [List.set_set]
          refine r_retv rfl rfl ?_
          rw [e0, s0, a0]
          exact ⟨rfl, E2.tr (.set rfl), upd (upd v2 8 (zI ((qn + 1 : Nat) : Int))) 10 (zI 5), z_gs w62, (pk_un (by decide)).trans pk_us, (pk_un (by decide)).trans ((pk_un (by decide)).trans w9), pk_us, (pk_un (by decide)).trans ((pk_un (by decide)).trans w11), fun j hj => (pk_un (by omega)).trans ((pk_un (by omega)).trans (wr j hj))⟩
        · have k0 : t_kd T tx qn = 4 := by unfold t_kd; rw [if_neg nT, if_neg h59, if_neg hl, if_neg hf]
          have s0 : t_so T tx qn = 7 := by unfold t_so; rw [if_neg (by omega), if_neg (by omega), if_neg (by omega), if_neg (by omega)]
          have a0 : t_va T tx qn = 0 := if_neg (by omega)
          refine r_icT rfl (zcT1 ⟨by omega, by omega⟩ ⟨by omega, by omega⟩ (h59)) ?_
          refine r_ic rfl ?_
          refine r_pf10 rfl (z_gs w62) rfl rfl rfl (Or.inl rfl) ?_
          rw [List.set_set]
          refine r_retv rfl rfl ?_
          rw [e0, s0, a0]
          exact ⟨rfl, E2.tr (.set rfl), upd (upd v2 8 (zI ((qn + 1 : Nat) : Int))) 10 (zI 7), z_gs w62, (pk_un (by decide)).trans pk_us, (pk_un (by decide)).trans ((pk_un (by decide)).trans w9), pk_us, (pk_un (by decide)).trans ((pk_un (by decide)).trans w11), fun j hj => (pk_un (by omega)).trans ((pk_un (by omega)).trans (wr j hj))⟩
  · have eb : t_b T tx qn = -1 := if_neg hqT
    have k0 : t_kd T tx qn = 0 := if_pos (by omega)
    have e0 : t_e T tx qn = qn := if_pos (by omega)
    have s0 : t_so T tx qn = 6 := if_pos k0
    have a0 : t_va T tx qn = 0 := if_neg (by omega)
    refine r_ifF rfl (zcF3 ⟨by omega, by omega⟩ ⟨by omega, by omega⟩ (by omega)) ?_
    refine r_al rfl rfl ?_
    refine r_ic rfl ?_
    refine r_pf10 rfl w62 rfl rfl rfl (Or.inl rfl) ?_
    refine r_goto rfl ?_
    refine r_retv rfl rfl ?_
    rw [e0, s0, a0]
    exact ⟨rfl, E2.tr (.set rfl), upd v2 10 (zI 6), z_gs w62, (pk_un (by decide)).trans w8, (pk_un (by decide)).trans w9, pk_us, (pk_un (by decide)).trans w11, fun j hj => (pk_un (by omega)).trans (wr j hj)⟩
end TY
