/-! YARD: the class: items one behind the other, the call -/
theorem x_U.tr {M M1 M2 : ZM} {T : Nat} {tx : Nat → Int32} {m : Nat} {lot : Int32} {u : Nat ⊕ (ZD × Nat)} {r : Option Value} (e : z_ev M M1 (fun k => 11 ≤ k ∧ k < 25)) (h : x_U M1 M2 T tx m lot u r) : x_U M M2 T tx m lot u r := ⟨e.tr h.1, h.2⟩
theorem t_semi_pos {T : Nat} {tx : Nat → Int32} {D : ZD} {pos : Nat} {x : ZD × Nat} (hp : pos ≤ T) (h : t_semi T tx D pos = .inr x) : x.2 ≤ T ∧ pos < x.2 := by
  obtain ⟨p1, p2, p3, p4⟩ := t_pos (tx := tx) hp
  by_cases g : t_kd T tx (t_q T tx pos) = 3
  · rw [t_semi_p g] at h
    cases h
    have := (t_e_ok (tx := tx) p1).2.2 (by omega)
    exact ⟨p2, by show pos < t_e T tx (t_q T tx pos); omega⟩
  · rw [t_semi_n g] at h
    cases h
theorem t_num_pos {T : Nat} {tx : Nat → Int32} {lo hi : Int} {pos : Nat} {k : Nat → Nat → Nat ⊕ (ZD × Nat)} {x : ZD × Nat} (hp : pos ≤ T) (h : t_num T tx lo hi pos k = .inr x) : ∃ v e, pos ≤ e ∧ e ≤ T ∧ k v e = .inr x := by
  obtain ⟨p1, p2, p3, p4⟩ := t_pos (tx := tx) hp
  by_cases g : t_isn T tx lo hi (t_q T tx pos)
  · rw [t_num_p g] at h
    exact ⟨_, _, by omega, p2, h⟩
  · rw [t_num_n g] at h
    cases h
theorem t_item_pos {T : Nat} {tx : Nat → Int32} {m : Nat} {D : ZD} {q : Nat} {x : ZD × Nat} (hq : q ≤ T) (h : t_item T tx m D q = .inr x) : x.2 ≤ T ∧ q < x.2 := by
  obtain ⟨e1, e2, -⟩ := t_e_ok (tx := tx) hq
  unfold t_item at h
  by_cases hy : t_yd T tx q
  · rw [if_pos hy] at h
    by_cases hm : m = 0
    · rw [if_pos hm] at h
      obtain ⟨v1, f1, g1, g2, h⟩ := t_num_pos e2 h
      obtain ⟨v2, f2, g3, g4, h⟩ := t_num_pos g2 h
      obtain ⟨v3, f3, g5, g6, h⟩ := t_num_pos g4 h
      obtain ⟨g7, g8⟩ := t_semi_pos g6 h
      exact ⟨g7, by omega⟩
    · rw [if_neg hm] at h
      cases h
  · rw [if_neg hy] at h
    by_cases hh : t_hs T tx q ∧ D.2.2.1 = 0
    · rw [if_pos hh] at h
      obtain ⟨v1, f1, g1, g2, h⟩ := t_num_pos e2 h
      obtain ⟨v2, f2, g3, g4, h⟩ := t_num_pos g2 h
      obtain ⟨g7, g8⟩ := t_semi_pos g4 h
      exact ⟨g7, by omega⟩
    · rw [if_neg hh] at h
      by_cases hc : t_ch T tx q ∧ D.2.2.1 < 4
      · rw [if_pos hc] at h
        obtain ⟨v1, f1, g1, g2, h⟩ := t_num_pos e2 h
        obtain ⟨v2, f2, g3, g4, h⟩ := t_num_pos g2 h
        by_cases hb : bt D.2.1 (D.1.1 * v2 + v1) = true
        · rw [if_pos hb] at h
          cases h
        · rw [if_neg hb] at h
          obtain ⟨p1, p2, p3, p4⟩ := t_pos (tx := tx) g4
          unfold t_steps at h
          split at h
          · obtain ⟨g7, g8⟩ := t_semi_pos p2 h
            exact ⟨g7, by omega⟩
          · cases h
      · rw [if_neg hc] at h
        cases h
def x_J (M M' : ZM) (T : Nat) (tx : Nat → Int32) (m : Nat) (lot : Int32) (u : Nat ⊕ (ZD × Nat)) (r : Option Value) : Prop := z_ev M M' (fun k => 11 ≤ k ∧ k < 25) ∧ match u with
  | .inl f => r = some (.int (zI 0)) ∧ x_F M' T tx m f
  | .inr x => r = some (.int (zI 1)) ∧ ∃ nm, x_D M' T tx (m + 1) x.1 lot (t_q T tx x.2) (t_kd T tx (t_q T tx x.2)) (t_e T tx (t_q T tx x.2)) nm
section RJ
variable {S : ZS} {d : Nat} {M : ZM} {T : Nat} {tx : Nat → Int32} {m q kd e : Nat} {nm lot : Int32} {D : ZD}
set_option maxRecDepth 20000 in
theorem c_rO_h {pos : Nat} (hD : x_D M T tx m D lot q kd pos nm) (hpos : pos ≤ T) (hn0 : D.2.2.1 = 0) {u2 : Int} {x3 : Option Value} : z_R S (d + 5) 16 61 [some (.ref 11), some (.int (zI 1)), some (.int (zI u2)), x3] [] M (fun r M' => x_U M M' T tx m lot (t_house T tx D pos) r) := by
  obtain ⟨h, hA, r0, hr0⟩ := id hD
  obtain ⟨hT, h11, -⟩ := id h
  obtain ⟨ha, hO, ch, hR, hk9⟩ := id hA
  obtain ⟨o1, ⟨hW1, hW2⟩, ⟨hH1, hH2⟩, ⟨hL1, hL2⟩, hn⟩ := id hO
  have hC := p_WH hW2 hH2
  obtain ⟨rr, M1, k1, hcs⟩ := c_nextCell (S := S) (d := d + 1) h hpos hO
  obtain ⟨p1, p2, p3, p4⟩ := t_pos (tx := tx) hpos
  refine r_al rfl rfl ?_
  rcases hcs with ⟨hn1, rfl, e1, nm1, t1⟩ | ⟨hn1, hn2, rfl, e1, nm1, t1⟩ | ⟨hn1, hn2, rfl, e1, nm1, t1⟩
  · refine r_cv0 rfl rfl h11 rfl (by decide) rfl (k1) ?_
    refine r_is3 rfl rfl ?_
    refine r_il rfl rfl ?_
    refine r_ic rfl ?_
    refine r_icF rfl (zcF1 (rfl)) ?_
    refine r_ic rfl ?_
    refine r_reti rfl rfl ?_
    rw [show t_house T tx D pos = .inl _ from t_num_n hn1]
    exact ⟨e1.wk (fun k g => by omega), rfl, (hD.tok e1 t1).fl⟩
  · refine r_cv0 rfl rfl h11 rfl (by decide) rfl (k1) ?_
    refine r_is3 rfl rfl ?_
    refine r_il rfl rfl ?_
    refine r_ic rfl ?_
    refine r_icF rfl (zcF1 (rfl)) ?_
    refine r_ic rfl ?_
    refine r_reti rfl rfl ?_
    rw [show t_house T tx D pos = .inl _ from (t_num_p hn1).trans (t_num_n hn2)]
    exact ⟨e1.wk (fun k g => by omega), rfl, (hD.tok e1 t1).fl⟩
  · refine r_cv0 rfl rfl h11 rfl (by decide) rfl (k1) ?_
    obtain ⟨q1, q2, q3, q4⟩ := t_pos (tx := tx) p2
    have D1 := hD.tok e1 t1
    have E1 : z_ev M M1 (fun k => 11 ≤ k ∧ k < 25) := e1.wk (fun k g => by omega)
    obtain ⟨-, b11, -⟩ := id t1
    have x1 := hn1.2.2
    have x2 := hn2.2.2
    have hc9 := w_cell (W := D.1.1) (H := D.1.2.1) (y := t_val T tx (t_q T tx (t_e T tx (t_q T tx pos)))) (i := t_val T tx (t_q T tx pos)) (by omega) (by omega)
    rw [show t_house T tx D pos = _ from (t_num_p hn1).trans (t_num_p hn2)]
    generalize D.1.1 * t_val T tx (t_q T tx (t_e T tx (t_q T tx pos))) + t_val T tx (t_q T tx pos) = cn at *
    obtain ⟨r2, M2, k2, u2⟩ := c_endHouse (S := S) (d := d + 1) (c := cn) D1 q2 hn0
    refine r_is3 rfl rfl ?_
    refine r_il rfl rfl ?_
    refine r_ic rfl ?_
    refine r_icT rfl (zcT1 ⟨by omega, by omega⟩ ⟨by omega, by omega⟩ (by omega)) ?_
    refine r_il rfl rfl ?_
    refine r_ifF rfl (zcF0 ⟨by omega, by omega⟩ ⟨by omega, by omega⟩ (by decide)) ?_
    refine r_al rfl rfl ?_
    refine r_il rfl rfl ?_
    have u3 := u2.tr E1
    have hr : r2 = some (.int (zI 0)) ∨ r2 = some (.int (zI 1)) := by
      have g := u3.2
      split at g
      · exact Or.inl g.1
      · exact Or.inr g.1
    rcases hr with rfl | rfl
    · refine r_cv1 rfl rfl b11 rfl (by decide) rfl (k2) ?_
      refine r_goto rfl ?_
      refine r_reti rfl rfl ?_
      exact u3
    · refine r_cv1 rfl rfl b11 rfl (by decide) rfl (k2) ?_
      refine r_goto rfl ?_
      refine r_reti rfl rfl ?_
      exact u3
set_option maxRecDepth 20000 in
theorem c_rO_c {pos : Nat} (hD : x_D M T tx m D lot q kd pos nm) (hpos : pos ≤ T) (hn4 : D.2.2.1 < 4) {u2 : Int} {x3 : Option Value} : z_R S (d + 5) 16 61 [some (.ref 11), some (.int (zI 0)), some (.int (zI u2)), x3] [] M (fun r M' => x_U M M' T tx m lot (t_chain T tx D pos) r) := by
  obtain ⟨h, hA, r0, hr0⟩ := id hD
  obtain ⟨hT, h11, -⟩ := id h
  obtain ⟨ha, hO, ch, hR, hk9⟩ := id hA
  obtain ⟨o1, ⟨hW1, hW2⟩, ⟨hH1, hH2⟩, ⟨hL1, hL2⟩, hn⟩ := id hO
  have hC := p_WH hW2 hH2
  obtain ⟨rr, M1, k1, hcs⟩ := c_nextCell (S := S) (d := d + 1) h hpos hO
  obtain ⟨p1, p2, p3, p4⟩ := t_pos (tx := tx) hpos
  refine r_al rfl rfl ?_
  rcases hcs with ⟨hn1, rfl, e1, nm1, t1⟩ | ⟨hn1, hn2, rfl, e1, nm1, t1⟩ | ⟨hn1, hn2, rfl, e1, nm1, t1⟩
  · refine r_cv0 rfl rfl h11 rfl (by decide) rfl (k1) ?_
    refine r_is3 rfl rfl ?_
    refine r_il rfl rfl ?_
    refine r_ic rfl ?_
    refine r_icF rfl (zcF1 (rfl)) ?_
    refine r_ic rfl ?_
    refine r_reti rfl rfl ?_
    rw [show t_chain T tx D pos = .inl _ from t_num_n hn1]
    exact ⟨e1.wk (fun k g => by omega), rfl, (hD.tok e1 t1).fl⟩
  · refine r_cv0 rfl rfl h11 rfl (by decide) rfl (k1) ?_
    refine r_is3 rfl rfl ?_
    refine r_il rfl rfl ?_
    refine r_ic rfl ?_
    refine r_icF rfl (zcF1 (rfl)) ?_
    refine r_ic rfl ?_
    refine r_reti rfl rfl ?_
    rw [show t_chain T tx D pos = .inl _ from (t_num_p hn1).trans (t_num_n hn2)]
    exact ⟨e1.wk (fun k g => by omega), rfl, (hD.tok e1 t1).fl⟩
  · refine r_cv0 rfl rfl h11 rfl (by decide) rfl (k1) ?_
    obtain ⟨q1, q2, q3, q4⟩ := t_pos (tx := tx) p2
    have D1 := hD.tok e1 t1
    have E1 : z_ev M M1 (fun k => 11 ≤ k ∧ k < 25) := e1.wk (fun k g => by omega)
    obtain ⟨-, b11, -⟩ := id t1
    have x1 := hn1.2.2
    have x2 := hn2.2.2
    have hc9 := w_cell (W := D.1.1) (H := D.1.2.1) (y := t_val T tx (t_q T tx (t_e T tx (t_q T tx pos)))) (i := t_val T tx (t_q T tx pos)) (by omega) (by omega)
    rw [show t_chain T tx D pos = _ from (t_num_p hn1).trans (t_num_p hn2)]
    generalize D.1.1 * t_val T tx (t_q T tx (t_e T tx (t_q T tx pos))) + t_val T tx (t_q T tx pos) = cn at *
    obtain ⟨r2, M2, k2, u2⟩ := c_endChain (S := S) (d := d) (c := cn) D1 q2 hn4 hc9
    refine r_is3 rfl rfl ?_
    refine r_il rfl rfl ?_
    refine r_ic rfl ?_
    refine r_icT rfl (zcT1 ⟨by omega, by omega⟩ ⟨by omega, by omega⟩ (by omega)) ?_
    refine r_il rfl rfl ?_
    refine r_ifT rfl (zcT0 (rfl)) ?_
    refine r_al rfl rfl ?_
    refine r_il rfl rfl ?_
    have u3 := u2.tr E1
    have hr : r2 = some (.int (zI 0)) ∨ r2 = some (.int (zI 1)) := by
      have g := u3.2
      split at g
      · exact Or.inl g.1
      · exact Or.inr g.1
    rcases hr with rfl | rfl
    · refine r_cv1 rfl rfl b11 rfl (by decide) rfl (k2) ?_
      refine r_reti rfl rfl ?_
      exact u3
    · refine r_cv1 rfl rfl b11 rfl (by decide) rfl (k2) ?_
      refine r_reti rfl rfl ?_
      exact u3
set_option maxRecDepth 20000 in
theorem c_readOnCell (hD : x_D M T tx m D lot q (t_kd T tx q) (t_e T tx q) nm) (hq : q ≤ T) : ∃ r M', z_C S (d + 5) 16 [.ref 11] M r M' ∧ x_U M M' T tx m lot (if t_hs T tx q ∧ D.2.2.1 = 0 then t_house T tx D (t_e T tx q) else if t_ch T tx q ∧ D.2.2.1 < 4 then t_chain T tx D (t_e T tx q) else .inl q) r := by
  obtain ⟨h, hA, r0, hr0⟩ := id hD
  obtain ⟨hT, h11, -⟩ := id h
  obtain ⟨ha, hO, ch, hR, hk9⟩ := id hA
  obtain ⟨o1, ⟨hW1, hW2⟩, ⟨hH1, hH2⟩, ⟨hL1, hL2⟩, hn⟩ := id hO
  have hC := p_WH hW2 hH2
  have hpos := (t_e_ok (tx := tx) hq).2.1
  refine k_of rfl rfl (Nat.le_of_ble_eq_true rfl) ?_
  refine r_al rfl rfl ?_
  refine r_ldc rfl (by decide) ?_
  refine r_cv1 rfl rfl h11 rfl (by decide) rfl (c_isWord1 h hq) ?_
  by_cases hh : t_hs T tx q
  · rw [if_pos hh]
    refine r_ifF rfl (zcF0 ⟨by omega, by omega⟩ ⟨by omega, by omega⟩ (by decide)) ?_
    refine r_al rfl rfl ?_
    refine r_gf rfl h11 rfl rfl ?_
    refine r_gf rfl o1 rfl rfl ?_
    by_cases hn0 : D.2.2.1 = 0
    · refine r_ifF rfl (zcF1 (by omega)) ?_
      refine r_ic rfl ?_
      refine r_goto rfl ?_
      refine r_is1 rfl rfl ?_
      refine r_al rfl rfl ?_
      refine r_ldc rfl (by decide) ?_
      refine r_cv1 rfl rfl h11 rfl (by decide) rfl (c_isWord2 h hq) ?_
      by_cases hc : t_ch T tx q
      · rw [if_pos hc]
        refine r_ifF rfl (zcF0 ⟨by omega, by omega⟩ ⟨by omega, by omega⟩ (by decide)) ?_
        refine r_al rfl rfl ?_
        refine r_gf rfl h11 rfl rfl ?_
        refine r_gf rfl o1 rfl rfl ?_
        refine r_ic rfl ?_
        by_cases hn4 : D.2.2.1 < 4
        · refine r_icF rfl (zcF3 ⟨by omega, by omega⟩ ⟨by omega, by omega⟩ (by omega)) ?_
          refine r_ic rfl ?_
          refine r_goto rfl ?_
          refine r_is2 rfl rfl ?_
          refine r_il rfl rfl ?_
          refine r_ifT rfl (zcT1 ⟨by omega, by omega⟩ ⟨by omega, by omega⟩ (by decide)) ?_
          rw [if_pos ⟨hh, hn0⟩]
          exact c_rO_h hD hpos hn0
        · refine r_icT rfl (zcT3 ⟨by omega, by omega⟩ ⟨by omega, by omega⟩ (by omega)) ?_
          refine r_ic rfl ?_
          refine r_is2 rfl rfl ?_
          refine r_il rfl rfl ?_
          refine r_ifT rfl (zcT1 ⟨by omega, by omega⟩ ⟨by omega, by omega⟩ (by decide)) ?_
          rw [if_pos ⟨hh, hn0⟩]
          exact c_rO_h hD hpos hn0
      · rw [if_neg hc]
        refine r_ifT rfl (zcT0 (rfl)) ?_
        refine r_ic rfl ?_
        refine r_is2 rfl rfl ?_
        refine r_il rfl rfl ?_
        refine r_ifT rfl (zcT1 ⟨by omega, by omega⟩ ⟨by omega, by omega⟩ (by decide)) ?_
        rw [if_pos ⟨hh, hn0⟩]
        exact c_rO_h hD hpos hn0
    · have hnh : ¬ (t_hs T tx q ∧ D.2.2.1 = 0) := fun g => hn0 g.2
      refine r_ifT rfl (zcT1 ⟨by omega, by omega⟩ ⟨by omega, by omega⟩ (by omega)) ?_
      refine r_ic rfl ?_
      refine r_is1 rfl rfl ?_
      refine r_al rfl rfl ?_
      refine r_ldc rfl (by decide) ?_
      refine r_cv1 rfl rfl h11 rfl (by decide) rfl (c_isWord2 h hq) ?_
      by_cases hc : t_ch T tx q
      · rw [if_pos hc]
        refine r_ifF rfl (zcF0 ⟨by omega, by omega⟩ ⟨by omega, by omega⟩ (by decide)) ?_
        refine r_al rfl rfl ?_
        refine r_gf rfl h11 rfl rfl ?_
        refine r_gf rfl o1 rfl rfl ?_
        refine r_ic rfl ?_
        by_cases hn4 : D.2.2.1 < 4
        · refine r_icF rfl (zcF3 ⟨by omega, by omega⟩ ⟨by omega, by omega⟩ (by omega)) ?_
          refine r_ic rfl ?_
          refine r_goto rfl ?_
          refine r_is2 rfl rfl ?_
          refine r_il rfl rfl ?_
          refine r_ifF rfl (zcF1 (rfl)) ?_
          refine r_il rfl rfl ?_
          refine r_ifT rfl (zcT1 ⟨by omega, by omega⟩ ⟨by omega, by omega⟩ (by decide)) ?_
          rw [if_neg hnh, if_pos ⟨hc, hn4⟩]
          exact c_rO_c hD hpos hn4
        · refine r_icT rfl (zcT3 ⟨by omega, by omega⟩ ⟨by omega, by omega⟩ (by omega)) ?_
          refine r_ic rfl ?_
          refine r_is2 rfl rfl ?_
          refine r_il rfl rfl ?_
          refine r_ifF rfl (zcF1 (rfl)) ?_
          refine r_il rfl rfl ?_
          rw [if_neg hnh, if_neg (fun g => hn4 g.2)]
          refine r_ifF rfl (zcF1 (rfl)) ?_
          refine r_ic rfl ?_
          refine r_reti rfl rfl ?_
          exact ⟨.rf, rfl, hD.fl⟩
      · rw [if_neg hc]
        refine r_ifT rfl (zcT0 (rfl)) ?_
        refine r_ic rfl ?_
        refine r_is2 rfl rfl ?_
        refine r_il rfl rfl ?_
        refine r_ifF rfl (zcF1 (rfl)) ?_
        refine r_il rfl rfl ?_
        rw [if_neg hnh, if_neg (fun g => hc g.1)]
        refine r_ifF rfl (zcF1 (rfl)) ?_
        refine r_ic rfl ?_
        refine r_reti rfl rfl ?_
        exact ⟨.rf, rfl, hD.fl⟩
  · have hnh : ¬ (t_hs T tx q ∧ D.2.2.1 = 0) := fun g => hh g.1
    rw [if_neg hh]
    refine r_ifT rfl (zcT0 (rfl)) ?_
    refine r_ic rfl ?_
    refine r_is1 rfl rfl ?_
    refine r_al rfl rfl ?_
    refine r_ldc rfl (by decide) ?_
    refine r_cv1 rfl rfl h11 rfl (by decide) rfl (c_isWord2 h hq) ?_
    by_cases hc : t_ch T tx q
    · rw [if_pos hc]
      refine r_ifF rfl (zcF0 ⟨by omega, by omega⟩ ⟨by omega, by omega⟩ (by decide)) ?_
      refine r_al rfl rfl ?_
      refine r_gf rfl h11 rfl rfl ?_
      refine r_gf rfl o1 rfl rfl ?_
      refine r_ic rfl ?_
      by_cases hn4 : D.2.2.1 < 4
      · refine r_icF rfl (zcF3 ⟨by omega, by omega⟩ ⟨by omega, by omega⟩ (by omega)) ?_
        refine r_ic rfl ?_
        refine r_goto rfl ?_
        refine r_is2 rfl rfl ?_
        refine r_il rfl rfl ?_
        refine r_ifF rfl (zcF1 (rfl)) ?_
        refine r_il rfl rfl ?_
        refine r_ifT rfl (zcT1 ⟨by omega, by omega⟩ ⟨by omega, by omega⟩ (by decide)) ?_
        rw [if_neg hnh, if_pos ⟨hc, hn4⟩]
        exact c_rO_c hD hpos hn4
      · refine r_icT rfl (zcT3 ⟨by omega, by omega⟩ ⟨by omega, by omega⟩ (by omega)) ?_
        refine r_ic rfl ?_
        refine r_is2 rfl rfl ?_
        refine r_il rfl rfl ?_
        refine r_ifF rfl (zcF1 (rfl)) ?_
        refine r_il rfl rfl ?_
        rw [if_neg hnh, if_neg (fun g => hn4 g.2)]
        refine r_ifF rfl (zcF1 (rfl)) ?_
        refine r_ic rfl ?_
        refine r_reti rfl rfl ?_
        exact ⟨.rf, rfl, hD.fl⟩
    · rw [if_neg hc]
      refine r_ifT rfl (zcT0 (rfl)) ?_
      refine r_ic rfl ?_
      refine r_is2 rfl rfl ?_
      refine r_il rfl rfl ?_
      refine r_ifF rfl (zcF1 (rfl)) ?_
      refine r_il rfl rfl ?_
      rw [if_neg hnh, if_neg (fun g => hc g.1)]
      refine r_ifF rfl (zcF1 (rfl)) ?_
      refine r_ic rfl ?_
      refine r_reti rfl rfl ?_
      exact ⟨.rf, rfl, hD.fl⟩
theorem c_rI_e {uu : Nat ⊕ (ZD × Nat)} {v : Int} {M1 : ZM} (hu : x_U M M1 T tx m lot uu (some (.int (zI v)))) (hv : v = 0 ∨ v = 1) (hp : ∀ x, uu = .inr x → x.2 ≤ T) : z_R S (d + 2) 14 36 [some (.ref 11), some (.int (zI v))] [] M1 (fun r M' => x_J M M' T tx m lot (uu) r) := by
  have hv9 : ∀ a b : Int, z_sm a → z_sm b → some (Value.int (zI a)) = some (Value.int (zI b)) → a = b := fun a b h1 h2 g => by
    injection g with g
    injection g with g
    exact (zI_eq h1 h2).mp g
  obtain ⟨E1, g⟩ := hu
  rcases uu with f | x
  · obtain ⟨g1, g2⟩ := g
    obtain rfl := hv9 v 0 (by omega) (by omega) g1
    refine r_il rfl rfl ?_
    refine r_ifT rfl (zcT0 (rfl)) ?_
    refine r_il rfl rfl ?_
    refine r_reti rfl rfl ?_
    exact ⟨E1, rfl, g2⟩
  · obtain ⟨g1, q1, kd1, nm1, D1⟩ := g
    obtain rfl := hv9 v 1 (by omega) (by omega) g1
    have hx2 := hp x rfl
    obtain ⟨-, b11, -⟩ := id D1.1
    have t1 := D1.1.set (m' := m + 1) (q' := q1) (kd' := kd1) (e' := x.2) (nm' := nm1)
    obtain ⟨M2, k2, e2, t2⟩ := c_nextToken (S := S) (d := d) t1 hx2
    have s1 : z_ev M1 (M1.set 11 (.inl (1, [.int (zI (T : Int)), .int (zI ((m + 1 : Nat) : Int)), .int (zI (q1 : Int)), .ref 13, .ref 12, .ref 23, .int (zI (kd1 : Int)), .int (zI (x.2 : Int)), .int nm1]))) (fun k => k = 11) := .set rfl
    refine r_il rfl rfl ?_
    refine r_ifF rfl (zcF0 ⟨by omega, by omega⟩ ⟨by omega, by omega⟩ (by decide)) ?_
    refine r_al rfl rfl ?_
    refine r_dupA rfl ?_
    refine r_gf rfl b11 rfl rfl ?_
    refine r_ic rfl ?_
    refine r_addI rfl ?_
    refine r_pf1 rfl b11 rfl rfl rfl (Or.inl rfl) ?_
    refine r_al rfl rfl ?_
    refine r_cv0v rfl rfl (z_gs b11) rfl (by decide) rfl (k2) ?_
    refine r_il rfl rfl ?_
    refine r_reti rfl rfl ?_
    exact ⟨E1.tr ((s1.tr e2).wk (fun k g => by omega)), rfl, nm1, (D1.tok s1 t1).tok e2 t2⟩
set_option maxRecDepth 20000 in
theorem c_readItem (hD : x_D M T tx m D lot q (t_kd T tx q) (t_e T tx q) nm) (hq : q ≤ T) (hm9 : m = 0 → D.2.2.1 = 0) (hmT : m ≤ 1000) : ∃ r M', z_C S (d + 6) 14 [.ref 11] M r M' ∧ x_J M M' T tx m lot (t_item T tx m D q) r := by
  obtain ⟨h, hA, r0, hr0⟩ := id hD
  obtain ⟨hT, h11, -⟩ := id h
  obtain ⟨ha, hO, ch, hR, hk9⟩ := id hA
  obtain ⟨o1, ⟨hW1, hW2⟩, ⟨hH1, hH2⟩, ⟨hL1, hL2⟩, hn⟩ := id hO
  have hC := p_WH hW2 hH2
  have hpos := (t_e_ok (tx := tx) hq).2.1
  refine k_of rfl rfl (Nat.le_of_ble_eq_true rfl) ?_
  refine r_al rfl rfl ?_
  refine r_ldc rfl (by decide) ?_
  refine r_cv1 rfl rfl h11 rfl (by decide) rfl (c_isWord0 h hq) ?_
  by_cases hy : t_yd T tx q
  · rw [if_pos hy]
    refine r_ifF rfl (zcF0 ⟨by omega, by omega⟩ ⟨by omega, by omega⟩ (by decide)) ?_
    refine r_al rfl rfl ?_
    refine r_gf rfl h11 rfl rfl ?_
    by_cases hm0 : m = 0
    · refine r_ifF rfl (zcF1 (by omega)) ?_
      refine r_al rfl rfl ?_
      obtain ⟨r1, M1, k1, u1⟩ := c_readYard (S := S) (d := d + 2) hD hpos (hm9 hm0)
      have hr : ∃ v : Int, r1 = some (.int (zI v)) ∧ (v = 0 ∨ v = 1) := by
        have g := u1.2
        split at g
        · exact ⟨0, g.1, Or.inl rfl⟩
        · exact ⟨1, g.1, Or.inr rfl⟩
      obtain ⟨v, rfl, hv⟩ := hr
      rw [show t_item T tx m D q = t_yard T tx D (t_e T tx q) by unfold t_item; rw [if_pos hy, if_pos hm0]]
      refine r_cv0 rfl rfl h11 rfl (by decide) rfl (k1) ?_
      by_cases hv1 : v = 0
      · subst hv1
        refine r_ifT rfl (zcT0 (rfl)) ?_
        refine r_ic rfl ?_
        refine r_goto rfl ?_
        refine r_is1 rfl rfl ?_
        exact c_rI_e (d := d + 4) u1 hv (fun x hx => (t_item_pos hq ((show t_item T tx m D q = _ from by unfold t_item; rw [if_pos hy, if_pos hm0]).trans hx)).1)
      · obtain rfl : v = 1 := by omega
        refine r_ifF rfl (zcF0 ⟨by omega, by omega⟩ ⟨by omega, by omega⟩ (by decide)) ?_
        refine r_ic rfl ?_
        refine r_goto rfl ?_
        refine r_is1 rfl rfl ?_
        exact c_rI_e (d := d + 4) u1 hv (fun x hx => (t_item_pos hq ((show t_item T tx m D q = _ from by unfold t_item; rw [if_pos hy, if_pos hm0]).trans hx)).1)
    · rw [show t_item T tx m D q = .inl q by unfold t_item; rw [if_pos hy, if_neg hm0]]
      refine r_ifT rfl (zcT1 ⟨by omega, by omega⟩ ⟨by omega, by omega⟩ (by omega)) ?_
      refine r_ic rfl ?_
      refine r_goto rfl ?_
      refine r_is1 rfl rfl ?_
      refine r_il rfl rfl ?_
      refine r_ifT rfl (zcT0 (rfl)) ?_
      refine r_il rfl rfl ?_
      refine r_reti rfl rfl ?_
      exact ⟨.rf, rfl, hD.fl⟩
  · rw [if_neg hy]
    refine r_ifT rfl (zcT0 (rfl)) ?_
    refine r_al rfl rfl ?_
    obtain ⟨r1, M1, k1, u1⟩ := c_readOnCell (S := S) (d := d) hD hq
    have hr : ∃ v : Int, r1 = some (.int (zI v)) ∧ (v = 0 ∨ v = 1) := by
      have g := u1.2
      split at g
      · exact ⟨0, g.1, Or.inl rfl⟩
      · exact ⟨1, g.1, Or.inr rfl⟩
    obtain ⟨v, rfl, hv⟩ := hr
    rw [show t_item T tx m D q = (if t_hs T tx q ∧ D.2.2.1 = 0 then t_house T tx D (t_e T tx q) else if t_ch T tx q ∧ D.2.2.1 < 4 then t_chain T tx D (t_e T tx q) else .inl q) by unfold t_item; rw [if_neg hy]]
    refine r_cv0 rfl rfl h11 rfl (by decide) rfl (k1) ?_
    refine r_is1 rfl rfl ?_
    exact c_rI_e (d := d + 4) u1 hv (fun x hx => (t_item_pos hq ((show t_item T tx m D q = _ from by unfold t_item; rw [if_neg hy]).trans hx)).1)
end RJ
