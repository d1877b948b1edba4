/-! YARD: the class's reader: tokens -/
def x_T (M : ZM) (T : Nat) (tx : Nat → Int32) (m q kd e : Nat) (nm : Int32) : Prop := T ≤ 200 ∧ M[11]? = some (.inl (1, [.int (zI (T : Int)), .int (zI (m : Int)), .int (zI (q : Int)), .ref 13, .ref 12, .ref 23, .int (zI (kd : Int)), .int (zI (e : Int)), .int nm])) ∧ ∃ g : Nat → Int32, M[12]? = some (.inr (1, 200, .inl g)) ∧ ∀ j, j < T → g j = tx j
theorem x_T.ev {M M' : ZM} {P : Nat → Prop} {T : Nat} {tx : Nat → Int32} {m q kd e : Nat} {nm : Int32} (he : z_ev M M' P) (h1 : ¬ P 11) (h2 : ¬ P 12) (h : x_T M T tx m q kd e nm) : x_T M' T tx m q kd e nm := by
  obtain ⟨g1, g2, g, g3, g4⟩ := h
  exact ⟨g1, (he.2 _ h1).trans g2, g, (he.2 _ h2).trans g3, g4⟩
theorem x_T.set {M : ZM} {T : Nat} {tx : Nat → Int32} {m q kd e m' q' kd' e' : Nat} {nm nm' : Int32} (h : x_T M T tx m q kd e nm) : x_T (M.set 11 (.inl (1, [.int (zI (T : Int)), .int (zI (m' : Int)), .int (zI (q' : Int)), .ref 13, .ref 12, .ref 23, .int (zI (kd' : Int)), .int (zI (e' : Int)), .int nm']))) T tx m' q' kd' e' nm' := by
  obtain ⟨g1, g2, g, g3, g4⟩ := h
  exact ⟨g1, z_gs g2, g, z_gn (by decide) g3, g4⟩
theorem z_min100 {x : Nat} (h : x ≤ 100000) : (if zI 100 < zI (x : Int) then zI 100 else zI (x : Int)) = zI ((min x 100 : Nat) : Int) := by
  by_cases g : 100 < x
  · rw [if_pos (by rw [zI_lt ⟨by omega, by omega⟩ ⟨by omega, by omega⟩]; omega), show min x 100 = 100 by omega]
    rfl
  · rw [if_neg (by rw [zI_lt ⟨by omega, by omega⟩ ⟨by omega, by omega⟩]; omega), show min x 100 = x by omega]
section RX
variable {S : ZS} {d : Nat} {M : ZM} {T : Nat} {tx : Nat → Int32} {m q kd e : Nat} {nm : Int32}
theorem c_byteAt (h : x_T M T tx m q kd e nm) {i : Nat} (hi : i ≤ 1000) : z_C S d 27 [.ref 11, .int (zI (i : Int))] M (some (.int (zI (t_b T tx i)))) M := by
  obtain ⟨hT, h11, g, h12, hg⟩ := id h
  refine c_of rfl rfl (Nat.le_of_ble_eq_true rfl) ?_
  refine g_il rfl rfl ?_
  refine g_ifF rfl (zcF2 ⟨by omega, by omega⟩ ⟨by omega, by omega⟩ (by omega)) ?_
  refine g_il rfl rfl ?_
  refine g_al rfl rfl ?_
  refine g_gf rfl h11 rfl rfl ?_
  by_cases hi9 : i < T
  · rw [show t_b T tx i = (t_by tx i : Int) from if_pos hi9]
    refine g_icF rfl (zcF3 ⟨by omega, by omega⟩ ⟨by omega, by omega⟩ (by omega)) ?_
    refine g_il rfl rfl ?_
    refine g_ic rfl ?_
    refine g_icF rfl (zcF3 ⟨by omega, by omega⟩ ⟨by omega, by omega⟩ (by omega)) ?_
    refine g_al rfl rfl ?_
    refine g_gf rfl h11 rfl rfl ?_
    refine g_il rfl rfl ?_
    refine g_baI rfl h12 (by omega) (by omega) (by omega) ?_
    refine g_ic rfl ?_
    refine g_iand rfl ?_
    refine g_goto rfl ?_
    rw [Int.toNat_natCast, hg i hi9, t_by_eq]
    exact g_reti rfl (rfl) rfl
  · rw [show t_b T tx i = -1 from if_neg hi9]
    refine g_icT rfl (zcT3 ⟨by omega, by omega⟩ ⟨by omega, by omega⟩ (by omega)) ?_
    refine g_ic rfl ?_
    exact g_reti rfl (rfl) rfl
theorem c_isLetter {x : Int} (hx : z_sm x) : z_C S d 28 [.int (zI x)] M (some (.int (zI (if t_let x then 1 else 0)))) M := by
  refine c_of rfl rfl (Nat.le_of_ble_eq_true rfl) ?_
  refine g_il rfl rfl ?_
  refine g_ic rfl ?_
  by_cases ha : x < 97
  · refine g_icT rfl (zcT2 ⟨by omega, by omega⟩ ⟨by omega, by omega⟩ (ha)) ?_
    refine g_ic rfl ?_
    exact g_reti rfl (by rw [if_neg (by omega)]) rfl
  · refine g_icF rfl (zcF2 ⟨by omega, by omega⟩ ⟨by omega, by omega⟩ (ha)) ?_
    refine g_il rfl rfl ?_
    refine g_ic rfl ?_
    by_cases hb : 122 < x
    · refine g_icT rfl (zcT4 ⟨by omega, by omega⟩ ⟨by omega, by omega⟩ (hb)) ?_
      refine g_ic rfl ?_
      exact g_reti rfl (by rw [if_neg (by omega)]) rfl
    · refine g_icF rfl (zcF4 ⟨by omega, by omega⟩ ⟨by omega, by omega⟩ (hb)) ?_
      refine g_ic rfl ?_
      refine g_goto rfl ?_
      exact g_reti rfl (by rw [if_pos (by omega)]) rfl
theorem c_isFigure {x : Int} (hx : z_sm x) : z_C S d 29 [.int (zI x)] M (some (.int (zI (if t_fig x then 1 else 0)))) M := by
  refine c_of rfl rfl (Nat.le_of_ble_eq_true rfl) ?_
  refine g_il rfl rfl ?_
  refine g_ic rfl ?_
  by_cases ha : x < 48
  · refine g_icT rfl (zcT2 ⟨by omega, by omega⟩ ⟨by omega, by omega⟩ (ha)) ?_
    refine g_ic rfl ?_
    exact g_reti rfl (by rw [if_neg (by omega)]) rfl
  · refine g_icF rfl (zcF2 ⟨by omega, by omega⟩ ⟨by omega, by omega⟩ (ha)) ?_
    refine g_il rfl rfl ?_
    refine g_ic rfl ?_
    by_cases hb : 57 < x
    · refine g_icT rfl (zcT4 ⟨by omega, by omega⟩ ⟨by omega, by omega⟩ (hb)) ?_
      refine g_ic rfl ?_
      exact g_reti rfl (by rw [if_neg (by omega)]) rfl
    · refine g_icF rfl (zcF4 ⟨by omega, by omega⟩ ⟨by omega, by omega⟩ (hb)) ?_
      refine g_ic rfl ?_
      refine g_goto rfl ?_
      exact g_reti rfl (by rw [if_pos (by omega)]) rfl
theorem c_nT_s {x1 : Option Value} {Q : Option Value → ZM → Prop} : ∀ (f pn : Nat) (M1 : ZM), T ≤ pn + f → pn ≤ T → (∀ M1 : ZM, (z_ev M M1 (fun k => k = 11) ∧ x_T M1 T tx m (t_sk T tx f pn) kd e nm) → z_R S (d + 1) 25 45 [some (.ref 11), x1] [] M1 Q) → (z_ev M M1 (fun k => k = 11) ∧ x_T M1 T tx m pn kd e nm) → z_R S (d + 1) 25 8 [some (.ref 11), x1] [] M1 Q := by
  intro f
  induction f with
  | zero =>
    intro pn M1 h1 h2 hx hI
    obtain ⟨he, h⟩ := id hI
    obtain ⟨hT, h11, g, h12, hg⟩ := id h
    refine r_al rfl rfl ?_
    refine r_gf rfl h11 rfl rfl ?_
    refine r_al rfl rfl ?_
    refine r_gf rfl h11 rfl rfl ?_
    refine r_icT rfl (zcT3 ⟨by omega, by omega⟩ ⟨by omega, by omega⟩ (by omega)) ?_
    exact hx M1 hI
  | succ f ih =>
    intro pn M1 h1 h2 hx hI
    obtain ⟨he, h⟩ := id hI
    obtain ⟨hT, h11, g, h12, hg⟩ := id h
    refine r_al rfl rfl ?_
    refine r_gf rfl h11 rfl rfl ?_
    refine r_al rfl rfl ?_
    refine r_gf rfl h11 rfl rfl ?_
    by_cases hp9 : pn < T
    · have bi := t_b_in (T := T) (tx := tx) (i := pn)
      refine r_icF rfl (zcF3 ⟨by omega, by omega⟩ ⟨by omega, by omega⟩ (by omega)) ?_
      refine r_al rfl rfl ?_
      refine r_al rfl rfl ?_
      refine r_gf rfl h11 rfl rfl ?_
      refine r_cv1 rfl rfl h11 rfl (by decide) rfl (c_byteAt h (i := pn) (by omega)) ?_
      refine r_ic rfl ?_
      by_cases hb : t_b T tx pn = 32
      · rw [show t_sk T tx (f + 1) pn = t_sk T tx f (pn + 1) from if_pos hb] at hx
        refine r_icF rfl (zcF1 (hb)) ?_
        refine r_al rfl rfl ?_
        refine r_dupA rfl ?_
        refine r_gf rfl h11 rfl rfl ?_
        refine r_ic rfl ?_
        refine r_addI rfl ?_
        refine r_pf2 rfl h11 rfl rfl rfl (Or.inl rfl) ?_
        refine r_goto rfl ?_
        exact ih (pn + 1) _ (by omega) (by omega) hx ⟨he.tr (.set rfl), h.set⟩
      · rw [show t_sk T tx (f + 1) pn = pn from if_neg hb] at hx
        refine r_icT rfl (zcT1 ⟨by omega, by omega⟩ ⟨by omega, by omega⟩ (hb)) ?_
        exact hx M1 hI
    · have hb : ¬ t_b T tx pn = 32 := by rw [show t_b T tx pn = -1 from if_neg hp9]; decide
      rw [show t_sk T tx (f + 1) pn = pn from if_neg hb] at hx
      refine r_icT rfl (zcT3 ⟨by omega, by omega⟩ ⟨by omega, by omega⟩ (by omega)) ?_
      exact hx M1 hI
theorem c_nT_l {x1 : Option Value} : ∀ (f pn : Nat) (M1 : ZM), T ≤ pn + f → pn ≤ T → (z_ev M M1 (fun k => k = 11) ∧ x_T M1 T tx m q 1 pn nm) → z_R S (d + 1) 25 117 [some (.ref 11), x1] [] M1 (fun r M1 => r = none ∧ (z_ev M M1 (fun k => k = 11) ∧ x_T M1 T tx m q 1 (t_le T tx f pn) nm)) := by
  intro f
  induction f with
  | zero =>
    intro pn M1 h1 h2 hI
    obtain ⟨he, h⟩ := id hI
    obtain ⟨hT, h11, g, h12, hg⟩ := id h
    refine r_al rfl rfl ?_
    refine r_gf rfl h11 rfl rfl ?_
    refine r_al rfl rfl ?_
    refine r_gf rfl h11 rfl rfl ?_
    refine r_icT rfl (zcT3 ⟨by omega, by omega⟩ ⟨by omega, by omega⟩ (by omega)) ?_
    refine r_retv rfl rfl ?_
    exact ⟨rfl, hI⟩
  | succ f ih =>
    intro pn M1 h1 h2 hI
    obtain ⟨he, h⟩ := id hI
    obtain ⟨hT, h11, g, h12, hg⟩ := id h
    refine r_al rfl rfl ?_
    refine r_gf rfl h11 rfl rfl ?_
    refine r_al rfl rfl ?_
    refine r_gf rfl h11 rfl rfl ?_
    by_cases hp9 : pn < T
    · have bi := t_b_in (T := T) (tx := tx) (i := pn)
      refine r_icF rfl (zcF3 ⟨by omega, by omega⟩ ⟨by omega, by omega⟩ (by omega)) ?_
      refine r_al rfl rfl ?_
      refine r_al rfl rfl ?_
      refine r_gf rfl h11 rfl rfl ?_
      refine r_cv1 rfl rfl h11 rfl (by decide) rfl (c_byteAt h (i := pn) (by omega)) ?_
      refine r_cs1 rfl rfl rfl rfl (c_isLetter (x := t_b T tx pn) ⟨by omega, by omega⟩) ?_
      by_cases hb : t_let (t_b T tx pn)
      · rw [if_pos hb, show t_le T tx (f + 1) pn = t_le T tx f (pn + 1) from if_pos hb]
        refine r_ifF rfl (zcF0 ⟨by omega, by omega⟩ ⟨by omega, by omega⟩ (by decide)) ?_
        refine r_al rfl rfl ?_
        refine r_dupA rfl ?_
        refine r_gf rfl h11 rfl rfl ?_
        refine r_ic rfl ?_
        refine r_addI rfl ?_
        refine r_pf7 rfl h11 rfl rfl rfl (Or.inl rfl) ?_
        refine r_goto rfl ?_
        exact ih (pn + 1) _ (by omega) (by omega) ⟨he.tr (.set rfl), h.set⟩
      · rw [if_neg hb, show t_le T tx (f + 1) pn = pn from if_neg hb]
        refine r_ifT rfl (zcT0 (rfl)) ?_
        refine r_retv rfl rfl ?_
        exact ⟨rfl, hI⟩
    · have eb : t_b T tx pn = -1 := if_neg hp9
      have hb : ¬ t_let (t_b T tx pn) := by omega
      rw [show t_le T tx (f + 1) pn = pn from if_neg hb]
      refine r_icT rfl (zcT3 ⟨by omega, by omega⟩ ⟨by omega, by omega⟩ (by omega)) ?_
      refine r_retv rfl rfl ?_
      exact ⟨rfl, hI⟩
theorem c_nT_f {x1 : Option Value} : ∀ (f pn : Nat) (M1 : ZM), T ≤ pn + f → pn ≤ T → (z_ev M M1 (fun k => k = 11) ∧ x_T M1 T tx m q 2 pn nm) → z_R S (d + 1) 25 167 [some (.ref 11), x1] [] M1 (fun r M1 => r = none ∧ (z_ev M M1 (fun k => k = 11) ∧ x_T M1 T tx m q 2 (t_fe T tx f pn) nm)) := by
  intro f
  induction f with
  | zero =>
    intro pn M1 h1 h2 hI
    obtain ⟨he, h⟩ := id hI
    obtain ⟨hT, h11, g, h12, hg⟩ := id h
    refine r_al rfl rfl ?_
    refine r_gf rfl h11 rfl rfl ?_
    refine r_al rfl rfl ?_
    refine r_gf rfl h11 rfl rfl ?_
    refine r_icT rfl (zcT3 ⟨by omega, by omega⟩ ⟨by omega, by omega⟩ (by omega)) ?_
    refine r_retv rfl rfl ?_
    exact ⟨rfl, hI⟩
  | succ f ih =>
    intro pn M1 h1 h2 hI
    obtain ⟨he, h⟩ := id hI
    obtain ⟨hT, h11, g, h12, hg⟩ := id h
    refine r_al rfl rfl ?_
    refine r_gf rfl h11 rfl rfl ?_
    refine r_al rfl rfl ?_
    refine r_gf rfl h11 rfl rfl ?_
    by_cases hp9 : pn < T
    · have bi := t_b_in (T := T) (tx := tx) (i := pn)
      refine r_icF rfl (zcF3 ⟨by omega, by omega⟩ ⟨by omega, by omega⟩ (by omega)) ?_
      refine r_al rfl rfl ?_
      refine r_al rfl rfl ?_
      refine r_gf rfl h11 rfl rfl ?_
      refine r_cv1 rfl rfl h11 rfl (by decide) rfl (c_byteAt h (i := pn) (by omega)) ?_
      refine r_cs1 rfl rfl rfl rfl (c_isFigure (x := t_b T tx pn) ⟨by omega, by omega⟩) ?_
      by_cases hb : t_fig (t_b T tx pn)
      · rw [if_pos hb, show t_fe T tx (f + 1) pn = t_fe T tx f (pn + 1) from if_pos hb]
        refine r_ifF rfl (zcF0 ⟨by omega, by omega⟩ ⟨by omega, by omega⟩ (by decide)) ?_
        refine r_al rfl rfl ?_
        refine r_dupA rfl ?_
        refine r_gf rfl h11 rfl rfl ?_
        refine r_ic rfl ?_
        refine r_addI rfl ?_
        refine r_pf7 rfl h11 rfl rfl rfl (Or.inl rfl) ?_
        refine r_goto rfl ?_
        exact ih (pn + 1) _ (by omega) (by omega) ⟨he.tr (.set rfl), h.set⟩
      · rw [if_neg hb, show t_fe T tx (f + 1) pn = pn from if_neg hb]
        refine r_ifT rfl (zcT0 (rfl)) ?_
        refine r_retv rfl rfl ?_
        exact ⟨rfl, hI⟩
    · have eb : t_b T tx pn = -1 := if_neg hp9
      have hb : ¬ t_fig (t_b T tx pn) := by omega
      rw [show t_fe T tx (f + 1) pn = pn from if_neg hb]
      refine r_icT rfl (zcT3 ⟨by omega, by omega⟩ ⟨by omega, by omega⟩ (by omega)) ?_
      refine r_retv rfl rfl ?_
      exact ⟨rfl, hI⟩
theorem c_nextToken {pos : Nat} (h : x_T M T tx m q kd pos nm) (hpos : pos ≤ T) : ∃ M', z_C S (d + 1) 25 [.ref 11] M none M' ∧ z_ev M M' (fun k => k = 11) ∧ x_T M' T tx m (t_q T tx pos) (t_kd T tx (t_q T tx pos)) (t_e T tx (t_q T tx pos)) nm := by
  obtain ⟨hT, h11, g, h12, hg⟩ := id h
  refine k_an ?_
  refine k_of rfl rfl (Nat.le_of_ble_eq_true rfl) ?_
  refine r_al rfl rfl ?_
  refine r_al rfl rfl ?_
  refine r_gf rfl h11 rfl rfl ?_
  refine r_pf2 rfl h11 rfl rfl rfl (Or.inl rfl) ?_
  refine c_nT_s (M := M) T pos _ (by omega) hpos (fun M1 hI => ?_) ⟨.set rfl, h.set⟩
  obtain ⟨q1, q2, q3⟩ := t_q_ok (tx := tx) hpos
  show z_R S (d + 1) 25 45 _ _ M1 (fun r M' => r = none ∧ z_ev M M' (fun k => k = 11) ∧ x_T M' T tx m (t_q T tx pos) (t_kd T tx (t_q T tx pos)) (t_e T tx (t_q T tx pos)) nm)
  rw [show t_sk T tx T pos = t_q T tx pos from rfl] at hI
  generalize t_q T tx pos = qn at *
  obtain ⟨he, h'⟩ := id hI
  obtain ⟨-, h11', -⟩ := id h'
  have bi := t_b_in (T := T) (tx := tx) (i := qn)
  refine r_al rfl rfl ?_
  refine r_al rfl rfl ?_
  refine r_gf rfl h11' rfl rfl ?_
  refine r_ic rfl ?_
  refine r_addI rfl ?_
  refine r_pf7 rfl h11' rfl rfl rfl (Or.inl rfl) ?_
  refine r_al rfl rfl ?_
  refine r_al rfl rfl ?_
  refine r_gf rfl (z_gs h11') rfl rfl ?_
  refine r_cv1 rfl rfl (z_gs h11') rfl (by decide) rfl (c_byteAt (h'.set) (i := qn) (by omega)) ?_
  refine r_is1 rfl rfl ?_
  refine r_al rfl rfl ?_
  refine r_gf rfl (z_gs h11') rfl rfl ?_
  refine r_al rfl rfl ?_
  refine r_gf rfl (z_gs h11') rfl rfl ?_
  by_cases hqT : qn < T
  · have nT : ¬ T ≤ qn := by omega
    refine r_icT rfl (zcT2 ⟨by omega, by omega⟩ ⟨by omega, by omega⟩ (by omega)) ?_
    refine r_il rfl rfl ?_
    refine r_ic rfl ?_
    by_cases h59 : t_b T tx qn = 59
    · have k0 : t_kd T tx qn = 3 := by unfold t_kd; rw [if_neg nT, if_pos h59]
      have e0 : t_e T tx qn = qn + 1 := by unfold t_e; rw [if_neg nT, if_pos h59]
      rw [k0, e0]
      refine r_icF rfl (zcF1 (h59)) ?_
      refine r_al rfl rfl ?_
      refine r_ic rfl ?_
      refine r_pf6 rfl (z_gs h11') rfl rfl rfl (Or.inl rfl) ?_
      rw [List.set_set]
      refine r_goto rfl ?_
      refine r_retv rfl rfl ?_
      exact ⟨rfl, he.tr (.set rfl), h'.set⟩
    · refine r_icT rfl (zcT1 ⟨by omega, by omega⟩ ⟨by omega, by omega⟩ (h59)) ?_
      refine r_il rfl rfl ?_
      refine r_cs1 rfl rfl rfl rfl (c_isLetter (x := t_b T tx qn) ⟨by omega, by omega⟩) ?_
      by_cases hl : t_let (t_b T tx qn)
      · have k0 : t_kd T tx qn = 1 := by unfold t_kd; rw [if_neg nT, if_neg h59, if_pos hl]
        have e0 : t_e T tx qn = t_le T tx T (qn + 1) := by unfold t_e; rw [if_neg nT, if_neg h59, if_pos hl]
        rw [k0, e0, if_pos hl]
        refine r_ifF rfl (zcF0 ⟨by omega, by omega⟩ ⟨by omega, by omega⟩ (by decide)) ?_
        refine r_al rfl rfl ?_
        refine r_ic rfl ?_
        refine r_pf6 rfl (z_gs h11') rfl rfl rfl (Or.inl rfl) ?_
        rw [List.set_set]
        exact c_nT_l T (qn + 1) _ (by omega) (by omega) ⟨he.tr (.set rfl), h'.set⟩
      · rw [if_neg hl]
        refine r_ifT rfl (zcT0 (rfl)) ?_
        refine r_il rfl rfl ?_
        refine r_cs1 rfl rfl rfl rfl (c_isFigure (x := t_b T tx qn) ⟨by omega, by omega⟩) ?_
        by_cases hf : t_fig (t_b T tx qn)
        · have k0 : t_kd T tx qn = 2 := by unfold t_kd; rw [if_neg nT, if_neg h59, if_neg hl, if_pos hf]
          have e0 : t_e T tx qn = t_fe T tx T (qn + 1) := by unfold t_e; rw [if_neg nT, if_neg h59, if_neg hl, if_pos hf]
          rw [k0, e0, if_pos hf]
          refine r_ifF rfl (zcF0 ⟨by omega, by omega⟩ ⟨by omega, by omega⟩ (by decide)) ?_
          refine r_al rfl rfl ?_
          refine r_ic rfl ?_
          refine r_pf6 rfl (z_gs h11') rfl rfl rfl (Or.inl rfl) ?_
          rw [List.set_set]
          exact c_nT_f T (qn + 1) _ (by omega) (by omega) ⟨he.tr (.set rfl), h'.set⟩
        · have k0 : t_kd T tx qn = 4 := by unfold t_kd; rw [if_neg nT, if_neg h59, if_neg hl, if_neg hf]
          have e0 : t_e T tx qn = qn + 1 := by unfold t_e; rw [if_neg nT, if_neg h59, if_neg hl, if_neg hf]
          rw [k0, e0, if_neg hf]
          refine r_ifT rfl (zcT0 (rfl)) ?_
          refine r_al rfl rfl ?_
          refine r_ic rfl ?_
          refine r_pf6 rfl (z_gs h11') rfl rfl rfl (Or.inl rfl) ?_
          rw [List.set_set]
          refine r_retv rfl rfl ?_
          exact ⟨rfl, he.tr (.set rfl), h'.set⟩
  · have k0 : t_kd T tx qn = 0 := if_pos (by omega)
    have e0 : t_e T tx qn = qn := if_pos (by omega)
    rw [k0, e0]
    refine r_icF rfl (zcF2 ⟨by omega, by omega⟩ ⟨by omega, by omega⟩ (by omega)) ?_
    refine r_al rfl rfl ?_
    refine r_ic rfl ?_
    refine r_pf6 rfl (z_gs h11') rfl rfl rfl (Or.inl rfl) ?_
    rw [List.set_set]
    refine r_al rfl rfl ?_
    refine r_al rfl rfl ?_
    refine r_gf rfl (z_gs h11') rfl rfl ?_
    refine r_pf7 rfl (z_gs h11') rfl rfl rfl (Or.inl rfl) ?_
    rw [List.set_set]
    refine r_goto rfl ?_
    refine r_retv rfl rfl ?_
    exact ⟨rfl, he.tr (.set rfl), h'.set⟩
theorem c_tN_l (hfg : ∀ i, q ≤ i → i < e → t_fig (t_b T tx i)) (he9 : e ≤ T) {Q : Option Value → ZM → Prop} : ∀ (k i a : Nat) (M1 : ZM), i + k = e → q ≤ i ∧ a ≤ 100 → (∀ (M1 : ZM) (x1 : Option Value), (z_ev M M1 (fun k => k = 11) ∧ x_T M1 T tx m q 2 e (zI (t_nv tx k i a : Int))) → z_R S (d + 1) 26 49 [some (.ref 11), x1] [] M1 Q) → (z_ev M M1 (fun k => k = 11) ∧ x_T M1 T tx m q 2 e (zI (a : Int))) → z_R S (d + 1) 26 10 [some (.ref 11), some (.int (zI (i : Int)))] [] M1 Q := by
  intro k
  induction k with
  | zero =>
    intro i a M1 h1 h2 hx hI
    obtain ⟨he, h⟩ := id hI
    obtain ⟨hT, h11, g, h12, hg⟩ := id h
    refine r_il rfl rfl ?_
    refine r_al rfl rfl ?_
    refine r_gf rfl h11 rfl rfl ?_
    refine r_icT rfl (zcT3 ⟨by omega, by omega⟩ ⟨by omega, by omega⟩ (by omega)) ?_
    exact hx M1 _ hI
  | succ k ih =>
    intro i a M1 h1 h2 hx hI
    obtain ⟨he, h⟩ := id hI
    obtain ⟨hT, h11, g, h12, hg⟩ := id h
    have hf := hfg i (by omega) (by omega)
    have eb : t_b T tx i = (t_by tx i : Int) := if_pos (by omega)
    have bl := t_by_lt tx i
    refine r_il rfl rfl ?_
    refine r_al rfl rfl ?_
    refine r_gf rfl h11 rfl rfl ?_
    refine r_icF rfl (zcF3 ⟨by omega, by omega⟩ ⟨by omega, by omega⟩ (by omega)) ?_
    refine r_al rfl rfl ?_
    refine r_al rfl rfl ?_
    refine r_gf rfl h11 rfl rfl ?_
    refine r_ic rfl ?_
    refine r_mulI rfl ?_
    refine r_al rfl rfl ?_
    refine r_il rfl rfl ?_
    refine r_cv1 rfl rfl h11 rfl (by decide) rfl (c_byteAt h (i := i) (by omega)) ?_
    rw [eb]
    refine r_addI rfl ?_
    refine r_ic rfl ?_
    refine r_subI rfl ?_
    refine r_ic rfl ?_
    refine r_min rfl rfl ?_
    rw [show (a : Int) * 10 + (t_by tx i : Int) - 48 = ((10 * a + (t_by tx i - 48) : Nat) : Int) by omega, z_min100 (by omega)]
    refine r_pf8 rfl h11 rfl rfl rfl (Or.inl rfl) ?_
    refine r_jj1 rfl rfl ?_
    refine r_goto rfl ?_
    exact ih (i + 1) (min (10 * a + (t_by tx i - 48)) 100) _ (by omega) (by omega) hx ⟨he.tr (.set rfl), h.set⟩
theorem c_takeNumber (h : x_T M T tx m q 2 (t_e T tx q) nm) (hk : t_kd T tx q = 2) : ∃ M', z_C S (d + 1) 26 [.ref 11] M (some (.int (zI (if t_ok T tx q then 1 else 0)))) M' ∧ z_ev M M' (fun k => k = 11) ∧ x_T M' T tx m q 2 (t_e T tx q) (zI (t_val T tx q : Int)) := by
  obtain ⟨hT, h11, g, h12, hg⟩ := id h
  refine k_an ?_
  refine k_of rfl rfl (Nat.le_of_ble_eq_true rfl) ?_
  obtain ⟨f1, f2, f3, f4⟩ := t_figs hk
  have he := t_e_ok (tx := tx) (show q ≤ T by omega)
  have hv := t_nv_le (tx := tx) (t_e T tx q - q) q 0 (by omega)
  refine r_al rfl rfl ?_
  refine r_ic rfl ?_
  refine r_pf8 rfl h11 rfl rfl rfl (Or.inl rfl) ?_
  refine r_al rfl rfl ?_
  refine r_gf rfl (z_gs h11) rfl rfl ?_
  refine r_is1 rfl rfl ?_
  refine c_tN_l (M := M) f1 he.2.1 (t_e T tx q - q) q 0 _ (by omega) ⟨Nat.le_refl _, by omega⟩ (fun M1 x1 hI => ?_) ⟨.set rfl, h.set⟩
  rw [show t_nv tx (t_e T tx q - q) q 0 = t_val T tx q from rfl] at hI hv
  obtain ⟨he1, h'⟩ := id hI
  obtain ⟨-, h11', -⟩ := id h'
  have bi := t_b_in (T := T) (tx := tx) (i := q)
  refine r_al rfl rfl ?_
  refine r_al rfl rfl ?_
  refine r_gf rfl h11' rfl rfl ?_
  refine r_cv1 rfl rfl h11' rfl (by decide) rfl (c_byteAt h' (i := q) (by omega)) ?_
  refine r_ic rfl ?_
  by_cases hz : t_b T tx q = 48
  · refine r_icF rfl (zcF1 (hz)) ?_
    refine r_al rfl rfl ?_
    refine r_gf rfl h11' rfl rfl ?_
    refine r_al rfl rfl ?_
    refine r_gf rfl h11' rfl rfl ?_
    refine r_ic rfl ?_
    refine r_addI rfl ?_
    by_cases hz2 : q + 1 < t_e T tx q
    · refine r_icF rfl (zcF5 ⟨by omega, by omega⟩ ⟨by omega, by omega⟩ (by omega)) ?_
      refine r_ic rfl ?_
      refine r_goto rfl ?_
      refine r_is1 rfl rfl ?_
      refine r_il rfl rfl ?_
      rw [if_neg (fun g => g.1 ⟨hz, hz2⟩)]
      refine r_ifT rfl (zcT1 ⟨by omega, by omega⟩ ⟨by omega, by omega⟩ (by decide)) ?_
      refine r_ic rfl ?_
      refine r_reti rfl rfl ?_
      exact ⟨rfl, hI⟩
    · have hnz : ¬ (t_b T tx q = 48 ∧ q + 1 < t_e T tx q) := fun g => hz2 g.2
      refine r_icT rfl (zcT5 ⟨by omega, by omega⟩ ⟨by omega, by omega⟩ (by omega)) ?_
      refine r_ic rfl ?_
      refine r_is1 rfl rfl ?_
      refine r_il rfl rfl ?_
      refine r_ifF rfl (zcF1 (rfl)) ?_
      refine r_al rfl rfl ?_
      refine r_gf rfl h11' rfl rfl ?_
      refine r_ic rfl ?_
      by_cases h99 : 99 < t_val T tx q
      · rw [if_neg (fun g => by have := g.2; omega)]
        refine r_icT rfl (zcT4 ⟨by omega, by omega⟩ ⟨by omega, by omega⟩ (by omega)) ?_
        refine r_ic rfl ?_
        refine r_reti rfl rfl ?_
        exact ⟨rfl, hI⟩
      · rw [if_pos ⟨hnz, by omega⟩]
        refine r_icF rfl (zcF4 ⟨by omega, by omega⟩ ⟨by omega, by omega⟩ (by omega)) ?_
        refine r_ic rfl ?_
        refine r_goto rfl ?_
        refine r_reti rfl rfl ?_
        exact ⟨rfl, hI⟩
  · have hnz : ¬ (t_b T tx q = 48 ∧ q + 1 < t_e T tx q) := fun g => hz g.1
    refine r_icT rfl (zcT1 ⟨by omega, by omega⟩ ⟨by omega, by omega⟩ (hz)) ?_
    refine r_ic rfl ?_
    refine r_is1 rfl rfl ?_
    refine r_il rfl rfl ?_
    refine r_ifF rfl (zcF1 (rfl)) ?_
    refine r_al rfl rfl ?_
    refine r_gf rfl h11' rfl rfl ?_
    refine r_ic rfl ?_
    by_cases h99 : 99 < t_val T tx q
    · rw [if_neg (fun g => by have := g.2; omega)]
      refine r_icT rfl (zcT4 ⟨by omega, by omega⟩ ⟨by omega, by omega⟩ (by omega)) ?_
      refine r_ic rfl ?_
      refine r_reti rfl rfl ?_
      exact ⟨rfl, hI⟩
    · rw [if_pos ⟨hnz, by omega⟩]
      refine r_icF rfl (zcF4 ⟨by omega, by omega⟩ ⟨by omega, by omega⟩ (by omega)) ?_
      refine r_ic rfl ?_
      refine r_goto rfl ?_
      refine r_reti rfl rfl ?_
      exact ⟨rfl, hI⟩
theorem c_nextNumber {pos : Nat} (h : x_T M T tx m q kd pos nm) (hpos : pos ≤ T) {lo hi : Int} (hlo9 : z_sm lo) (hhi9 : z_sm hi) : ∃ M', z_C S (d + 2) 22 [.ref 11, .int (zI lo), .int (zI hi)] M (some (.int (zI (if t_isn T tx lo hi (t_q T tx pos) then 1 else 0)))) M' ∧ z_ev M M' (fun k => k = 11) ∧ ∃ nm', x_T M' T tx m (t_q T tx pos) (t_kd T tx (t_q T tx pos)) (t_e T tx (t_q T tx pos)) nm' ∧ (t_isn T tx lo hi (t_q T tx pos) → nm' = zI (t_val T tx (t_q T tx pos) : Int)) := by
  obtain ⟨hT, h11, g, h12, hg⟩ := id h
  refine k_an ?_
  refine k_of rfl rfl (Nat.le_of_ble_eq_true rfl) ?_
  obtain ⟨M1, k1, e1, h1⟩ := c_nextToken (S := S) (d := d) h hpos
  obtain ⟨q1, q2, q3⟩ := t_q_ok (tx := tx) hpos
  have kl := t_kd_le (T := T) (tx := tx) (q := t_q T tx pos)
  generalize t_q T tx pos = qn at *
  obtain ⟨-, b11, -⟩ := id h1
  refine r_al rfl rfl ?_
  refine r_cv0v rfl rfl h11 rfl (by decide) rfl (k1) ?_
  refine r_al rfl rfl ?_
  refine r_gf rfl b11 rfl rfl ?_
  refine r_ic rfl ?_
  by_cases hk2 : t_kd T tx qn = 2
  · rw [hk2] at h1
    obtain ⟨M2, k2, e2, h2⟩ := c_takeNumber (S := S) (d := d) h1 hk2
    have hv := t_nv_le (tx := tx) (t_e T tx qn - qn) qn 0 (by omega)
    rw [show t_nv tx (t_e T tx qn - qn) qn 0 = t_val T tx qn from rfl] at hv
    obtain ⟨-, c11, -⟩ := id h2
    refine r_icF rfl (zcF1 (by omega)) ?_
    refine r_al rfl rfl ?_
    refine r_cv0 rfl rfl b11 rfl (by decide) rfl (k2) ?_
    by_cases hok : t_ok T tx qn
    · rw [if_pos hok]
      refine r_ifF rfl (zcF0 ⟨by omega, by omega⟩ ⟨by omega, by omega⟩ (by decide)) ?_
      refine r_al rfl rfl ?_
      refine r_gf rfl c11 rfl rfl ?_
      refine r_il rfl rfl ?_
      by_cases hlo : (t_val T tx qn : Int) < lo
      · rw [if_neg (fun g => by have := g.2.2.1; omega)]
        refine r_icT rfl (zcT2 ⟨by omega, by omega⟩ ⟨by omega, by omega⟩ (hlo)) ?_
        refine r_ic rfl ?_
        refine r_reti rfl rfl ?_
        exact ⟨rfl, e1.tr e2, _, by rw [hk2]; exact h2, fun _ => rfl⟩
      · refine r_icF rfl (zcF2 ⟨by omega, by omega⟩ ⟨by omega, by omega⟩ (hlo)) ?_
        refine r_al rfl rfl ?_
        refine r_gf rfl c11 rfl rfl ?_
        refine r_il rfl rfl ?_
        by_cases hhi : hi < (t_val T tx qn : Int)
        · rw [if_neg (fun g => by have := g.2.2.2; omega)]
          refine r_icT rfl (zcT4 ⟨by omega, by omega⟩ ⟨by omega, by omega⟩ (hhi)) ?_
          refine r_ic rfl ?_
          refine r_reti rfl rfl ?_
          exact ⟨rfl, e1.tr e2, _, by rw [hk2]; exact h2, fun _ => rfl⟩
        · rw [if_pos ⟨hk2, hok, by omega, by omega⟩]
          refine r_icF rfl (zcF4 ⟨by omega, by omega⟩ ⟨by omega, by omega⟩ (hhi)) ?_
          refine r_ic rfl ?_
          refine r_goto rfl ?_
          refine r_reti rfl rfl ?_
          exact ⟨rfl, e1.tr e2, _, by rw [hk2]; exact h2, fun _ => rfl⟩
    · rw [if_neg hok, if_neg (fun g => hok g.2.1)]
      refine r_ifT rfl (zcT0 (rfl)) ?_
      refine r_ic rfl ?_
      refine r_reti rfl rfl ?_
      exact ⟨rfl, e1.tr e2, _, by rw [hk2]; exact h2, fun _ => rfl⟩
  · rw [if_neg (fun g => hk2 g.1)]
    refine r_icT rfl (zcT1 ⟨by omega, by omega⟩ ⟨by omega, by omega⟩ (by omega)) ?_
    refine r_ic rfl ?_
    refine r_reti rfl rfl ?_
    exact ⟨rfl, e1, _, h1, fun g => absurd g.1 hk2⟩
theorem c_nextSemi {pos : Nat} (h : x_T M T tx m q kd pos nm) (hpos : pos ≤ T) : ∃ M', z_C S (d + 2) 23 [.ref 11] M (some (.int (zI (if t_kd T tx (t_q T tx pos) = 3 then 1 else 0)))) M' ∧ z_ev M M' (fun k => k = 11) ∧ x_T M' T tx m (t_q T tx pos) (t_kd T tx (t_q T tx pos)) (t_e T tx (t_q T tx pos)) nm := by
  obtain ⟨hT, h11, g, h12, hg⟩ := id h
  refine k_an ?_
  refine k_of rfl rfl (Nat.le_of_ble_eq_true rfl) ?_
  obtain ⟨M1, k1, e1, h1⟩ := c_nextToken (S := S) (d := d) h hpos
  have kl := t_kd_le (T := T) (tx := tx) (q := t_q T tx pos)
  generalize t_q T tx pos = qn at *
  obtain ⟨-, b11, -⟩ := id h1
  refine r_al rfl rfl ?_
  refine r_cv0v rfl rfl h11 rfl (by decide) rfl (k1) ?_
  refine r_al rfl rfl ?_
  refine r_gf rfl b11 rfl rfl ?_
  refine r_ic rfl ?_
  by_cases hk3 : t_kd T tx qn = 3
  · rw [if_pos hk3]
    refine r_icF rfl (zcF1 (by omega)) ?_
    refine r_ic rfl ?_
    refine r_goto rfl ?_
    refine r_reti rfl rfl ?_
    exact ⟨rfl, e1, h1⟩
  · rw [if_neg hk3]
    refine r_icT rfl (zcT1 ⟨by omega, by omega⟩ ⟨by omega, by omega⟩ (by omega)) ?_
    refine r_ic rfl ?_
    refine r_reti rfl rfl ?_
    exact ⟨rfl, e1, h1⟩
set_option maxRecDepth 20000 in
theorem c_isWord0 (h : x_T M T tx m q (t_kd T tx q) (t_e T tx q) nm) (hq : q ≤ T) : z_C S (d + 1) 24 [.ref 11, .ref 1001] M (some (.int (zI (if t_yd T tx q then 1 else 0)))) M := by
  obtain ⟨hT, h11, g, h12, hg⟩ := id h
  have he := t_e_ok (tx := tx) hq
  have kl := t_kd_le (T := T) (tx := tx) (q := q)
  refine c_of rfl rfl (Nat.le_of_ble_eq_true rfl) ?_
  refine g_al rfl rfl ?_
  refine g_gf rfl h11 rfl rfl ?_
  refine g_ic rfl ?_
  by_cases hk1 : t_kd T tx q = 1
  · refine g_icF rfl (zcF1 (by omega)) ?_
    refine g_al rfl rfl ?_
    refine g_gf rfl h11 rfl rfl ?_
    refine g_al rfl rfl ?_
    refine g_gf rfl h11 rfl rfl ?_
    refine g_subI rfl ?_
    refine g_al rfl rfl ?_
    refine g_sl rfl ⟨by decide, by decide, rfl⟩ ?_
    rw [show (z_wlen (1001 - 1001) : Int) = 4 from rfl]
    by_cases hln : t_e T tx q = q + 4
    · refine g_icT rfl (zcT0 (by omega)) ?_
      refine g_ic rfl ?_
      refine g_is2 rfl rfl ?_
      refine g_il rfl rfl ?_
      refine g_al rfl rfl ?_
      refine g_sl rfl ⟨by decide, by decide, rfl⟩ ?_
      rw [show (z_wlen (1001 - 1001) : Int) = 4 from rfl]
      refine g_icF rfl (zcF3 ⟨by omega, by omega⟩ ⟨by omega, by omega⟩ (by decide)) ?_
      refine g_al rfl rfl ?_
      refine g_al rfl rfl ?_
      refine g_gf rfl h11 rfl rfl ?_
      refine g_il rfl rfl ?_
      refine g_addI rfl ?_
      rw [show (q : Int) + 0 = ((q + 0 : Nat) : Int) by omega]
      have bi := t_b_in (T := T) (tx := tx) (i := (q + 0))
      refine g_cv1 rfl rfl h11 rfl (by decide) rfl (c_byteAt h (i := q + 0) (by omega)) ?_
      refine g_al rfl rfl ?_
      refine g_il rfl rfl ?_
      refine g_sc rfl ⟨by decide, by decide, by decide, rfl⟩ ?_
      rw [show (z_wch (1001 - 1001)).getD (zI 0).toNatClampNeg 0 = zI 121 from by decide]
      rw [Nat.add_zero]
      by_cases hc0 : t_b T tx q = 121
      · refine g_icT rfl (zcT0 (hc0)) ?_
        refine g_jj2 rfl rfl ?_
        refine g_goto rfl ?_
        refine g_il rfl rfl ?_
        refine g_al rfl rfl ?_
        refine g_sl rfl ⟨by decide, by decide, rfl⟩ ?_
        rw [show (z_wlen (1001 - 1001) : Int) = 4 from rfl]
        refine g_icF rfl (zcF3 ⟨by omega, by omega⟩ ⟨by omega, by omega⟩ (by decide)) ?_
        refine g_al rfl rfl ?_
        refine g_al rfl rfl ?_
        refine g_gf rfl h11 rfl rfl ?_
        refine g_il rfl rfl ?_
        refine g_addI rfl ?_
        rw [show (q : Int) + (0 + 1) = ((q + 1 : Nat) : Int) by omega]
        have bi := t_b_in (T := T) (tx := tx) (i := (q + 1))
        refine g_cv1 rfl rfl h11 rfl (by decide) rfl (c_byteAt h (i := q + 1) (by omega)) ?_
        refine g_al rfl rfl ?_
        refine g_il rfl rfl ?_
        refine g_sc rfl ⟨by decide, by decide, by decide, rfl⟩ ?_
        rw [show (z_wch (1001 - 1001)).getD (zI (0 + 1)).toNatClampNeg 0 = zI 97 from by decide]
        by_cases hc1 : t_b T tx (q + 1) = 97
        · refine g_icT rfl (zcT0 (hc1)) ?_
          refine g_jj2 rfl rfl ?_
          refine g_goto rfl ?_
          refine g_il rfl rfl ?_
          refine g_al rfl rfl ?_
          refine g_sl rfl ⟨by decide, by decide, rfl⟩ ?_
          rw [show (z_wlen (1001 - 1001) : Int) = 4 from rfl]
          refine g_icF rfl (zcF3 ⟨by omega, by omega⟩ ⟨by omega, by omega⟩ (by decide)) ?_
          refine g_al rfl rfl ?_
          refine g_al rfl rfl ?_
          refine g_gf rfl h11 rfl rfl ?_
          refine g_il rfl rfl ?_
          refine g_addI rfl ?_
          rw [show (q : Int) + ((0 + 1) + 1) = ((q + 2 : Nat) : Int) by omega]
          have bi := t_b_in (T := T) (tx := tx) (i := (q + 2))
          refine g_cv1 rfl rfl h11 rfl (by decide) rfl (c_byteAt h (i := q + 2) (by omega)) ?_
          refine g_al rfl rfl ?_
          refine g_il rfl rfl ?_
          refine g_sc rfl ⟨by decide, by decide, by decide, rfl⟩ ?_
          rw [show (z_wch (1001 - 1001)).getD (zI ((0 + 1) + 1)).toNatClampNeg 0 = zI 114 from by decide]
          by_cases hc2 : t_b T tx (q + 2) = 114
          · refine g_icT rfl (zcT0 (hc2)) ?_
            refine g_jj2 rfl rfl ?_
            refine g_goto rfl ?_
            refine g_il rfl rfl ?_
            refine g_al rfl rfl ?_
            refine g_sl rfl ⟨by decide, by decide, rfl⟩ ?_
            rw [show (z_wlen (1001 - 1001) : Int) = 4 from rfl]
            refine g_icF rfl (zcF3 ⟨by omega, by omega⟩ ⟨by omega, by omega⟩ (by decide)) ?_
            refine g_al rfl rfl ?_
            refine g_al rfl rfl ?_
            refine g_gf rfl h11 rfl rfl ?_
            refine g_il rfl rfl ?_
            refine g_addI rfl ?_
            rw [show (q : Int) + (((0 + 1) + 1) + 1) = ((q + 3 : Nat) : Int) by omega]
            have bi := t_b_in (T := T) (tx := tx) (i := (q + 3))
            refine g_cv1 rfl rfl h11 rfl (by decide) rfl (c_byteAt h (i := q + 3) (by omega)) ?_
            refine g_al rfl rfl ?_
            refine g_il rfl rfl ?_
            refine g_sc rfl ⟨by decide, by decide, by decide, rfl⟩ ?_
            rw [show (z_wch (1001 - 1001)).getD (zI (((0 + 1) + 1) + 1)).toNatClampNeg 0 = zI 100 from by decide]
            by_cases hc3 : t_b T tx (q + 3) = 100
            · refine g_icT rfl (zcT0 (hc3)) ?_
              refine g_jj2 rfl rfl ?_
              refine g_goto rfl ?_
              refine g_il rfl rfl ?_
              refine g_al rfl rfl ?_
              refine g_sl rfl ⟨by decide, by decide, rfl⟩ ?_
              rw [show (z_wlen (1001 - 1001) : Int) = 4 from rfl]
              refine g_icT rfl (zcT3 ⟨by omega, by omega⟩ ⟨by omega, by omega⟩ (by decide)) ?_
              refine g_ic rfl ?_
              exact g_reti rfl (by rw [if_pos ⟨hk1, hln, hc0, hc1, hc2, hc3⟩]) rfl
            · refine g_icF rfl (zcF0 ⟨by omega, by omega⟩ ⟨by omega, by omega⟩ (hc3)) ?_
              refine g_ic rfl ?_
              exact g_reti rfl (by rw [if_neg (fun g => hc3 g.2.2.2.2.2)]) rfl
          · refine g_icF rfl (zcF0 ⟨by omega, by omega⟩ ⟨by omega, by omega⟩ (hc2)) ?_
            refine g_ic rfl ?_
            exact g_reti rfl (by rw [if_neg (fun g => hc2 g.2.2.2.2.1)]) rfl
        · refine g_icF rfl (zcF0 ⟨by omega, by omega⟩ ⟨by omega, by omega⟩ (hc1)) ?_
          refine g_ic rfl ?_
          exact g_reti rfl (by rw [if_neg (fun g => hc1 g.2.2.2.1)]) rfl
      · refine g_icF rfl (zcF0 ⟨by omega, by omega⟩ ⟨by omega, by omega⟩ (hc0)) ?_
        refine g_ic rfl ?_
        exact g_reti rfl (by rw [if_neg (fun g => hc0 g.2.2.1)]) rfl
    · refine g_icF rfl (zcF0 ⟨by omega, by omega⟩ ⟨by omega, by omega⟩ (by omega)) ?_
      refine g_ic rfl ?_
      exact g_reti rfl (by rw [if_neg (fun g => hln g.2.1)]) rfl
  · refine g_icT rfl (zcT1 ⟨by omega, by omega⟩ ⟨by omega, by omega⟩ (by omega)) ?_
    refine g_ic rfl ?_
    exact g_reti rfl (by rw [if_neg (fun g => hk1 g.1)]) rfl
set_option maxRecDepth 20000 in
theorem c_isWord1 (h : x_T M T tx m q (t_kd T tx q) (t_e T tx q) nm) (hq : q ≤ T) : z_C S (d + 1) 24 [.ref 11, .ref 1002] M (some (.int (zI (if t_hs T tx q then 1 else 0)))) M := by
  obtain ⟨hT, h11, g, h12, hg⟩ := id h
  have he := t_e_ok (tx := tx) hq
  have kl := t_kd_le (T := T) (tx := tx) (q := q)
  refine c_of rfl rfl (Nat.le_of_ble_eq_true rfl) ?_
  refine g_al rfl rfl ?_
  refine g_gf rfl h11 rfl rfl ?_
  refine g_ic rfl ?_
  by_cases hk1 : t_kd T tx q = 1
  · refine g_icF rfl (zcF1 (by omega)) ?_
    refine g_al rfl rfl ?_
    refine g_gf rfl h11 rfl rfl ?_
    refine g_al rfl rfl ?_
    refine g_gf rfl h11 rfl rfl ?_
    refine g_subI rfl ?_
    refine g_al rfl rfl ?_
    refine g_sl rfl ⟨by decide, by decide, rfl⟩ ?_
    rw [show (z_wlen (1002 - 1001) : Int) = 5 from rfl]
    by_cases hln : t_e T tx q = q + 5
    · refine g_icT rfl (zcT0 (by omega)) ?_
      refine g_ic rfl ?_
      refine g_is2 rfl rfl ?_
      refine g_il rfl rfl ?_
      refine g_al rfl rfl ?_
      refine g_sl rfl ⟨by decide, by decide, rfl⟩ ?_
      rw [show (z_wlen (1002 - 1001) : Int) = 5 from rfl]
      refine g_icF rfl (zcF3 ⟨by omega, by omega⟩ ⟨by omega, by omega⟩ (by decide)) ?_
      refine g_al rfl rfl ?_
      refine g_al rfl rfl ?_
      refine g_gf rfl h11 rfl rfl ?_
      refine g_il rfl rfl ?_
      refine g_addI rfl ?_
      rw [show (q : Int) + 0 = ((q + 0 : Nat) : Int) by omega]
      have bi := t_b_in (T := T) (tx := tx) (i := (q + 0))
      refine g_cv1 rfl rfl h11 rfl (by decide) rfl (c_byteAt h (i := q + 0) (by omega)) ?_
      refine g_al rfl rfl ?_
      refine g_il rfl rfl ?_
      refine g_sc rfl ⟨by decide, by decide, by decide, rfl⟩ ?_
      rw [show (z_wch (1002 - 1001)).getD (zI 0).toNatClampNeg 0 = zI 104 from by decide]
      rw [Nat.add_zero]
      by_cases hc0 : t_b T tx q = 104
      · refine g_icT rfl (zcT0 (hc0)) ?_
        refine g_jj2 rfl rfl ?_
        refine g_goto rfl ?_
        refine g_il rfl rfl ?_
        refine g_al rfl rfl ?_
        refine g_sl rfl ⟨by decide, by decide, rfl⟩ ?_
        rw [show (z_wlen (1002 - 1001) : Int) = 5 from rfl]
        refine g_icF rfl (zcF3 ⟨by omega, by omega⟩ ⟨by omega, by omega⟩ (by decide)) ?_
        refine g_al rfl rfl ?_
        refine g_al rfl rfl ?_
        refine g_gf rfl h11 rfl rfl ?_
        refine g_il rfl rfl ?_
        refine g_addI rfl ?_
        rw [show (q : Int) + (0 + 1) = ((q + 1 : Nat) : Int) by omega]
        have bi := t_b_in (T := T) (tx := tx) (i := (q + 1))
        refine g_cv1 rfl rfl h11 rfl (by decide) rfl (c_byteAt h (i := q + 1) (by omega)) ?_
        refine g_al rfl rfl ?_
        refine g_il rfl rfl ?_
        refine g_sc rfl ⟨by decide, by decide, by decide, rfl⟩ ?_
        rw [show (z_wch (1002 - 1001)).getD (zI (0 + 1)).toNatClampNeg 0 = zI 111 from by decide]
        by_cases hc1 : t_b T tx (q + 1) = 111
        · refine g_icT rfl (zcT0 (hc1)) ?_
          refine g_jj2 rfl rfl ?_
          refine g_goto rfl ?_
          refine g_il rfl rfl ?_
          refine g_al rfl rfl ?_
          refine g_sl rfl ⟨by decide, by decide, rfl⟩ ?_
          rw [show (z_wlen (1002 - 1001) : Int) = 5 from rfl]
          refine g_icF rfl (zcF3 ⟨by omega, by omega⟩ ⟨by omega, by omega⟩ (by decide)) ?_
          refine g_al rfl rfl ?_
          refine g_al rfl rfl ?_
          refine g_gf rfl h11 rfl rfl ?_
          refine g_il rfl rfl ?_
          refine g_addI rfl ?_
          rw [show (q : Int) + ((0 + 1) + 1) = ((q + 2 : Nat) : Int) by omega]
          have bi := t_b_in (T := T) (tx := tx) (i := (q + 2))
          refine g_cv1 rfl rfl h11 rfl (by decide) rfl (c_byteAt h (i := q + 2) (by omega)) ?_
          refine g_al rfl rfl ?_
          refine g_il rfl rfl ?_
          refine g_sc rfl ⟨by decide, by decide, by decide, rfl⟩ ?_
          rw [show (z_wch (1002 - 1001)).getD (zI ((0 + 1) + 1)).toNatClampNeg 0 = zI 117 from by decide]
          by_cases hc2 : t_b T tx (q + 2) = 117
          · refine g_icT rfl (zcT0 (hc2)) ?_
            refine g_jj2 rfl rfl ?_
            refine g_goto rfl ?_
            refine g_il rfl rfl ?_
            refine g_al rfl rfl ?_
            refine g_sl rfl ⟨by decide, by decide, rfl⟩ ?_
            rw [show (z_wlen (1002 - 1001) : Int) = 5 from rfl]
            refine g_icF rfl (zcF3 ⟨by omega, by omega⟩ ⟨by omega, by omega⟩ (by decide)) ?_
            refine g_al rfl rfl ?_
            refine g_al rfl rfl ?_
            refine g_gf rfl h11 rfl rfl ?_
            refine g_il rfl rfl ?_
            refine g_addI rfl ?_
            rw [show (q : Int) + (((0 + 1) + 1) + 1) = ((q + 3 : Nat) : Int) by omega]
            have bi := t_b_in (T := T) (tx := tx) (i := (q + 3))
            refine g_cv1 rfl rfl h11 rfl (by decide) rfl (c_byteAt h (i := q + 3) (by omega)) ?_
            refine g_al rfl rfl ?_
            refine g_il rfl rfl ?_
            refine g_sc rfl ⟨by decide, by decide, by decide, rfl⟩ ?_
            rw [show (z_wch (1002 - 1001)).getD (zI (((0 + 1) + 1) + 1)).toNatClampNeg 0 = zI 115 from by decide]
            by_cases hc3 : t_b T tx (q + 3) = 115
            · refine g_icT rfl (zcT0 (hc3)) ?_
              refine g_jj2 rfl rfl ?_
              refine g_goto rfl ?_
              refine g_il rfl rfl ?_
              refine g_al rfl rfl ?_
              refine g_sl rfl ⟨by decide, by decide, rfl⟩ ?_
              rw [show (z_wlen (1002 - 1001) : Int) = 5 from rfl]
              refine g_icF rfl (zcF3 ⟨by omega, by omega⟩ ⟨by omega, by omega⟩ (by decide)) ?_
              refine g_al rfl rfl ?_
              refine g_al rfl rfl ?_
              refine g_gf rfl h11 rfl rfl ?_
              refine g_il rfl rfl ?_
              refine g_addI rfl ?_
              rw [show (q : Int) + ((((0 + 1) + 1) + 1) + 1) = ((q + 4 : Nat) : Int) by omega]
              have bi := t_b_in (T := T) (tx := tx) (i := (q + 4))
              refine g_cv1 rfl rfl h11 rfl (by decide) rfl (c_byteAt h (i := q + 4) (by omega)) ?_
              refine g_al rfl rfl ?_
              refine g_il rfl rfl ?_
              refine g_sc rfl ⟨by decide, by decide, by decide, rfl⟩ ?_
              rw [show (z_wch (1002 - 1001)).getD (zI ((((0 + 1) + 1) + 1) + 1)).toNatClampNeg 0 = zI 101 from by decide]
              by_cases hc4 : t_b T tx (q + 4) = 101
              · refine g_icT rfl (zcT0 (hc4)) ?_
                refine g_jj2 rfl rfl ?_
                refine g_goto rfl ?_
                refine g_il rfl rfl ?_
                refine g_al rfl rfl ?_
                refine g_sl rfl ⟨by decide, by decide, rfl⟩ ?_
                rw [show (z_wlen (1002 - 1001) : Int) = 5 from rfl]
                refine g_icT rfl (zcT3 ⟨by omega, by omega⟩ ⟨by omega, by omega⟩ (by decide)) ?_
                refine g_ic rfl ?_
                exact g_reti rfl (by rw [if_pos ⟨hk1, hln, hc0, hc1, hc2, hc3, hc4⟩]) rfl
              · refine g_icF rfl (zcF0 ⟨by omega, by omega⟩ ⟨by omega, by omega⟩ (hc4)) ?_
                refine g_ic rfl ?_
                exact g_reti rfl (by rw [if_neg (fun g => hc4 g.2.2.2.2.2.2)]) rfl
            · refine g_icF rfl (zcF0 ⟨by omega, by omega⟩ ⟨by omega, by omega⟩ (hc3)) ?_
              refine g_ic rfl ?_
              exact g_reti rfl (by rw [if_neg (fun g => hc3 g.2.2.2.2.2.1)]) rfl
          · refine g_icF rfl (zcF0 ⟨by omega, by omega⟩ ⟨by omega, by omega⟩ (hc2)) ?_
            refine g_ic rfl ?_
            exact g_reti rfl (by rw [if_neg (fun g => hc2 g.2.2.2.2.1)]) rfl
        · refine g_icF rfl (zcF0 ⟨by omega, by omega⟩ ⟨by omega, by omega⟩ (hc1)) ?_
          refine g_ic rfl ?_
          exact g_reti rfl (by rw [if_neg (fun g => hc1 g.2.2.2.1)]) rfl
      · refine g_icF rfl (zcF0 ⟨by omega, by omega⟩ ⟨by omega, by omega⟩ (hc0)) ?_
        refine g_ic rfl ?_
        exact g_reti rfl (by rw [if_neg (fun g => hc0 g.2.2.1)]) rfl
    · refine g_icF rfl (zcF0 ⟨by omega, by omega⟩ ⟨by omega, by omega⟩ (by omega)) ?_
      refine g_ic rfl ?_
      exact g_reti rfl (by rw [if_neg (fun g => hln g.2.1)]) rfl
  · refine g_icT rfl (zcT1 ⟨by omega, by omega⟩ ⟨by omega, by omega⟩ (by omega)) ?_
    refine g_ic rfl ?_
    exact g_reti rfl (by rw [if_neg (fun g => hk1 g.1)]) rfl
set_option maxRecDepth 20000 in
theorem c_isWord2 (h : x_T M T tx m q (t_kd T tx q) (t_e T tx q) nm) (hq : q ≤ T) : z_C S (d + 1) 24 [.ref 11, .ref 1003] M (some (.int (zI (if t_ch T tx q then 1 else 0)))) M := by
  obtain ⟨hT, h11, g, h12, hg⟩ := id h
  have he := t_e_ok (tx := tx) hq
  have kl := t_kd_le (T := T) (tx := tx) (q := q)
  refine c_of rfl rfl (Nat.le_of_ble_eq_true rfl) ?_
  refine g_al rfl rfl ?_
  refine g_gf rfl h11 rfl rfl ?_
  refine g_ic rfl ?_
  by_cases hk1 : t_kd T tx q = 1
  · refine g_icF rfl (zcF1 (by omega)) ?_
    refine g_al rfl rfl ?_
    refine g_gf rfl h11 rfl rfl ?_
    refine g_al rfl rfl ?_
    refine g_gf rfl h11 rfl rfl ?_
    refine g_subI rfl ?_
    refine g_al rfl rfl ?_
    refine g_sl rfl ⟨by decide, by decide, rfl⟩ ?_
    rw [show (z_wlen (1003 - 1001) : Int) = 5 from rfl]
    by_cases hln : t_e T tx q = q + 5
    · refine g_icT rfl (zcT0 (by omega)) ?_
      refine g_ic rfl ?_
      refine g_is2 rfl rfl ?_
      refine g_il rfl rfl ?_
      refine g_al rfl rfl ?_
      refine g_sl rfl ⟨by decide, by decide, rfl⟩ ?_
      rw [show (z_wlen (1003 - 1001) : Int) = 5 from rfl]
      refine g_icF rfl (zcF3 ⟨by omega, by omega⟩ ⟨by omega, by omega⟩ (by decide)) ?_
      refine g_al rfl rfl ?_
      refine g_al rfl rfl ?_
      refine g_gf rfl h11 rfl rfl ?_
      refine g_il rfl rfl ?_
      refine g_addI rfl ?_
      rw [show (q : Int) + 0 = ((q + 0 : Nat) : Int) by omega]
      have bi := t_b_in (T := T) (tx := tx) (i := (q + 0))
      refine g_cv1 rfl rfl h11 rfl (by decide) rfl (c_byteAt h (i := q + 0) (by omega)) ?_
      refine g_al rfl rfl ?_
      refine g_il rfl rfl ?_
      refine g_sc rfl ⟨by decide, by decide, by decide, rfl⟩ ?_
      rw [show (z_wch (1003 - 1001)).getD (zI 0).toNatClampNeg 0 = zI 99 from by decide]
      rw [Nat.add_zero]
      by_cases hc0 : t_b T tx q = 99
      · refine g_icT rfl (zcT0 (hc0)) ?_
        refine g_jj2 rfl rfl ?_
        refine g_goto rfl ?_
        refine g_il rfl rfl ?_
        refine g_al rfl rfl ?_
        refine g_sl rfl ⟨by decide, by decide, rfl⟩ ?_
        rw [show (z_wlen (1003 - 1001) : Int) = 5 from rfl]
        refine g_icF rfl (zcF3 ⟨by omega, by omega⟩ ⟨by omega, by omega⟩ (by decide)) ?_
        refine g_al rfl rfl ?_
        refine g_al rfl rfl ?_
        refine g_gf rfl h11 rfl rfl ?_
        refine g_il rfl rfl ?_
        refine g_addI rfl ?_
        rw [show (q : Int) + (0 + 1) = ((q + 1 : Nat) : Int) by omega]
        have bi := t_b_in (T := T) (tx := tx) (i := (q + 1))
        refine g_cv1 rfl rfl h11 rfl (by decide) rfl (c_byteAt h (i := q + 1) (by omega)) ?_
        refine g_al rfl rfl ?_
        refine g_il rfl rfl ?_
        refine g_sc rfl ⟨by decide, by decide, by decide, rfl⟩ ?_
        rw [show (z_wch (1003 - 1001)).getD (zI (0 + 1)).toNatClampNeg 0 = zI 104 from by decide]
        by_cases hc1 : t_b T tx (q + 1) = 104
        · refine g_icT rfl (zcT0 (hc1)) ?_
          refine g_jj2 rfl rfl ?_
          refine g_goto rfl ?_
          refine g_il rfl rfl ?_
          refine g_al rfl rfl ?_
          refine g_sl rfl ⟨by decide, by decide, rfl⟩ ?_
          rw [show (z_wlen (1003 - 1001) : Int) = 5 from rfl]
          refine g_icF rfl (zcF3 ⟨by omega, by omega⟩ ⟨by omega, by omega⟩ (by decide)) ?_
          refine g_al rfl rfl ?_
          refine g_al rfl rfl ?_
          refine g_gf rfl h11 rfl rfl ?_
          refine g_il rfl rfl ?_
          refine g_addI rfl ?_
          rw [show (q : Int) + ((0 + 1) + 1) = ((q + 2 : Nat) : Int) by omega]
          have bi := t_b_in (T := T) (tx := tx) (i := (q + 2))
          refine g_cv1 rfl rfl h11 rfl (by decide) rfl (c_byteAt h (i := q + 2) (by omega)) ?_
          refine g_al rfl rfl ?_
          refine g_il rfl rfl ?_
          refine g_sc rfl ⟨by decide, by decide, by decide, rfl⟩ ?_
          rw [show (z_wch (1003 - 1001)).getD (zI ((0 + 1) + 1)).toNatClampNeg 0 = zI 97 from by decide]
          by_cases hc2 : t_b T tx (q + 2) = 97
          · refine g_icT rfl (zcT0 (hc2)) ?_
            refine g_jj2 rfl rfl ?_
            refine g_goto rfl ?_
            refine g_il rfl rfl ?_
            refine g_al rfl rfl ?_
            refine g_sl rfl ⟨by decide, by decide, rfl⟩ ?_
            rw [show (z_wlen (1003 - 1001) : Int) = 5 from rfl]
            refine g_icF rfl (zcF3 ⟨by omega, by omega⟩ ⟨by omega, by omega⟩ (by decide)) ?_
            refine g_al rfl rfl ?_
            refine g_al rfl rfl ?_
            refine g_gf rfl h11 rfl rfl ?_
            refine g_il rfl rfl ?_
            refine g_addI rfl ?_
            rw [show (q : Int) + (((0 + 1) + 1) + 1) = ((q + 3 : Nat) : Int) by omega]
            have bi := t_b_in (T := T) (tx := tx) (i := (q + 3))
            refine g_cv1 rfl rfl h11 rfl (by decide) rfl (c_byteAt h (i := q + 3) (by omega)) ?_
            refine g_al rfl rfl ?_
            refine g_il rfl rfl ?_
            refine g_sc rfl ⟨by decide, by decide, by decide, rfl⟩ ?_
            rw [show (z_wch (1003 - 1001)).getD (zI (((0 + 1) + 1) + 1)).toNatClampNeg 0 = zI 105 from by decide]
            by_cases hc3 : t_b T tx (q + 3) = 105
            · refine g_icT rfl (zcT0 (hc3)) ?_
              refine g_jj2 rfl rfl ?_
              refine g_goto rfl ?_
              refine g_il rfl rfl ?_
              refine g_al rfl rfl ?_
              refine g_sl rfl ⟨by decide, by decide, rfl⟩ ?_
              rw [show (z_wlen (1003 - 1001) : Int) = 5 from rfl]
              refine g_icF rfl (zcF3 ⟨by omega, by omega⟩ ⟨by omega, by omega⟩ (by decide)) ?_
              refine g_al rfl rfl ?_
              refine g_al rfl rfl ?_
              refine g_gf rfl h11 rfl rfl ?_
              refine g_il rfl rfl ?_
              refine g_addI rfl ?_
              rw [show (q : Int) + ((((0 + 1) + 1) + 1) + 1) = ((q + 4 : Nat) : Int) by omega]
              have bi := t_b_in (T := T) (tx := tx) (i := (q + 4))
              refine g_cv1 rfl rfl h11 rfl (by decide) rfl (c_byteAt h (i := q + 4) (by omega)) ?_
              refine g_al rfl rfl ?_
              refine g_il rfl rfl ?_
              refine g_sc rfl ⟨by decide, by decide, by decide, rfl⟩ ?_
              rw [show (z_wch (1003 - 1001)).getD (zI ((((0 + 1) + 1) + 1) + 1)).toNatClampNeg 0 = zI 110 from by decide]
              by_cases hc4 : t_b T tx (q + 4) = 110
              · refine g_icT rfl (zcT0 (hc4)) ?_
                refine g_jj2 rfl rfl ?_
                refine g_goto rfl ?_
                refine g_il rfl rfl ?_
                refine g_al rfl rfl ?_
                refine g_sl rfl ⟨by decide, by decide, rfl⟩ ?_
                rw [show (z_wlen (1003 - 1001) : Int) = 5 from rfl]
                refine g_icT rfl (zcT3 ⟨by omega, by omega⟩ ⟨by omega, by omega⟩ (by decide)) ?_
                refine g_ic rfl ?_
                exact g_reti rfl (by rw [if_pos ⟨hk1, hln, hc0, hc1, hc2, hc3, hc4⟩]) rfl
              · refine g_icF rfl (zcF0 ⟨by omega, by omega⟩ ⟨by omega, by omega⟩ (hc4)) ?_
                refine g_ic rfl ?_
                exact g_reti rfl (by rw [if_neg (fun g => hc4 g.2.2.2.2.2.2)]) rfl
            · refine g_icF rfl (zcF0 ⟨by omega, by omega⟩ ⟨by omega, by omega⟩ (hc3)) ?_
              refine g_ic rfl ?_
              exact g_reti rfl (by rw [if_neg (fun g => hc3 g.2.2.2.2.2.1)]) rfl
          · refine g_icF rfl (zcF0 ⟨by omega, by omega⟩ ⟨by omega, by omega⟩ (hc2)) ?_
            refine g_ic rfl ?_
            exact g_reti rfl (by rw [if_neg (fun g => hc2 g.2.2.2.2.1)]) rfl
        · refine g_icF rfl (zcF0 ⟨by omega, by omega⟩ ⟨by omega, by omega⟩ (hc1)) ?_
          refine g_ic rfl ?_
          exact g_reti rfl (by rw [if_neg (fun g => hc1 g.2.2.2.1)]) rfl
      · refine g_icF rfl (zcF0 ⟨by omega, by omega⟩ ⟨by omega, by omega⟩ (hc0)) ?_
        refine g_ic rfl ?_
        exact g_reti rfl (by rw [if_neg (fun g => hc0 g.2.2.1)]) rfl
    · refine g_icF rfl (zcF0 ⟨by omega, by omega⟩ ⟨by omega, by omega⟩ (by omega)) ?_
      refine g_ic rfl ?_
      exact g_reti rfl (by rw [if_neg (fun g => hln g.2.1)]) rfl
  · refine g_icT rfl (zcT1 ⟨by omega, by omega⟩ ⟨by omega, by omega⟩ (by omega)) ?_
    refine g_ic rfl ?_
    exact g_reti rfl (by rw [if_neg (fun g => hk1 g.1)]) rfl
end RX
