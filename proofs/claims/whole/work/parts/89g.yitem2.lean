/-! YARD: the reference: a chain; an item -/
section TU
variable {S : ZS} {d : Nat} {M : ZM} {T : Nat} {tx : Nat → Int32} {tr : Int64} {v wd hd ld nw : Nat → Int32} {D : ZD}
set_option maxRecDepth 20000 in
theorem m_readChain {M1 : ZM} {v1 wd1 hd1 ld1 nw1 : Nat → Int32} (hE : y_E M M1 tr v wd hd ld nw v1 wd1 hd1 ld1 nw1) {pos : Nat} (hS : y_S M1 tr v1 T tx (.inr (t_q T tx pos))) (hDr : y_Dr wd1 hd1 ld1 nw1 D) (hwf : (1 ≤ D.1.1 ∧ D.1.1 ≤ 5) ∧ (1 ≤ D.1.2.1 ∧ D.1.2.1 ≤ 5) ∧ (1 ≤ D.1.2.2 ∧ D.1.2.2 ≤ 3) ∧ D.2.2.1 ≤ 4) (hn4 : D.2.2.1 < 4) (hlen : ∀ k, k < D.2.2.1 → (D.2.2.2 k).2.1 ≤ 12) (hoc : t_oct T tx) : ∃ r M', z_C S (d + 4) 112 [.ref 62] M1 r M' ∧ r = none ∧ ∃ v' wd' hd' ld' nw' u D', y_E M M' tr v wd hd ld nw v' wd' hd' ld' nw' ∧ y_S M' tr v' T tx u ∧ (∀ q9, u = .inr q9 → y_Dr wd' hd' ld' nw' D') ∧ t_chain T tx D pos = t_end T tx D' u := by
  refine k_of rfl rfl (Nat.le_of_ble_eq_true rfl) ?_
  obtain ⟨a1, ⟨b1, b2, b3, b4, b5⟩, a3, a4, a5⟩ := id hE
  obtain ⟨⟨hW1, hW2⟩, ⟨hH1, hH2⟩, -, -⟩ := id hwf
  have hC := p_WH hW2 hH2
  obtain ⟨⟨d1, d2, d3⟩, dA⟩ := id hDr
  have hT := hS.2.1.1
  obtain ⟨hq0, z12, z8, z9, z10, z11⟩ := id hS.2.2.2
  have zl := t_va_le (T := T) (tx := tx) (q := (t_q T tx pos))
  obtain ⟨M2, k2, e2, v2, s2, r2⟩ := m_number (S := S) (d := d) hS (lo := 0) (hi := (D.1.1 : Int) - 1) ⟨by omega, by omega⟩ ⟨by omega, by omega⟩
  have E2 := hE.v e2 s2.1 (r2 2 (by omega))
  obtain ⟨-, ⟨c1, c2, c3, c4, c5⟩, -⟩ := id E2
  refine r_al rfl rfl ?_
  refine r_gf rfl b1 rfl rfl ?_
  refine r_ic rfl ?_
  refine r_iaI rfl (by decide) b5 (by omega) (by omega) (by omega) ?_
  rw [show (60 : Int).toNat = 60 from rfl, dA.2.1]
  refine r_is1 rfl rfl ?_
  refine r_al rfl rfl ?_
  refine r_ic rfl ?_
  refine r_al rfl rfl ?_
  refine r_gf rfl b1 rfl rfl ?_
  refine r_ic rfl ?_
  refine r_iaI rfl (by decide) b2 (by omega) (by omega) (by omega) ?_
  rw [show (1 : Int).toNat = 1 from rfl, d1]
  refine r_ic rfl ?_
  refine r_subI rfl ?_
  refine r_cv2 rfl rfl b1 rfl (by decide) rfl (k2) ?_
  rw [z11]
  refine r_is2 rfl rfl ?_
  by_cases i1 : t_isn T tx 0 ((D.1.1 : Int) - 1) (t_q T tx pos)
  · rw [t_nu_p i1] at s2
    have zv := (t_va_val i1.1).2
    have zo := i1.2.1.2
    have zr := i1.2.2
    obtain ⟨hq2, g12, g8, g9, g10, g11⟩ := id s2.2.2.2
    have sk := (t_so_k (T := T) (tx := tx) (q := (t_q T tx (t_e T tx (t_q T tx pos))))).1
    have si := t_so_in (T := T) (tx := tx) (q := (t_q T tx (t_e T tx (t_q T tx pos))))
    have vl := t_va_le (T := T) (tx := tx) (q := (t_q T tx (t_e T tx (t_q T tx pos))))
    rw [show (t_va T tx (t_q T tx pos) : Int) = (t_val T tx (t_q T tx pos) : Int) by omega]
    refine r_al rfl rfl ?_
    refine r_gf rfl c1 rfl rfl ?_
    rw [g10]
    refine r_ic rfl ?_
    by_cases h4 : t_so T tx (t_q T tx (t_e T tx (t_q T tx pos))) = 4
    · have hk := sk.mp h4
      have yv := (t_va_val hk.1).2
      have yo := hk.2.2
      refine r_icF rfl (zcF1 (h4)) ?_
      refine r_al rfl rfl ?_
      refine r_gf rfl c1 rfl rfl ?_
      rw [g11]
      refine r_ic rfl ?_
      refine r_al rfl rfl ?_
      refine r_gf rfl c1 rfl rfl ?_
      refine r_ic rfl ?_
      refine r_iaI rfl (by decide) c3 (by omega) (by omega) (by omega) ?_
      rw [show (1 : Int).toNat = 1 from rfl, d2]
      refine r_ic rfl ?_
      refine r_subI rfl ?_
      refine r_cs3 rfl rfl rfl rfl (m_in (x := (t_va T tx (t_q T tx (t_e T tx (t_q T tx pos))) : Int)) ⟨by omega, by omega⟩ ⟨by omega, by omega⟩ ⟨by omega, by omega⟩) ?_
      by_cases hin : 0 ≤ (t_va T tx (t_q T tx (t_e T tx (t_q T tx pos))) : Int) ∧ (t_va T tx (t_q T tx (t_e T tx (t_q T tx pos))) : Int) ≤ (D.1.2.1 : Int) - 1
      · rw [if_pos hin]
        have i2 : t_isn T tx 0 ((D.1.2.1 : Int) - 1) (t_q T tx (t_e T tx (t_q T tx pos))) := ⟨hk.1, hk.2, by omega, by omega⟩
        have hu0 : t_chain T tx D pos = (if bt D.2.1 (D.1.1 * t_val T tx (t_q T tx (t_e T tx (t_q T tx pos))) + t_val T tx (t_q T tx pos)) = true then .inl (t_q T tx (t_e T tx (t_q T tx pos))) else t_steps T tx D (D.1.1 * t_val T tx (t_q T tx (t_e T tx (t_q T tx pos))) + t_val T tx (t_q T tx pos)) (t_e T tx (t_q T tx (t_e T tx (t_q T tx pos))))) := (t_num_p i1).trans (t_num_p i2)
        have hc9 := w_cell (W := D.1.1) (H := D.1.2.1) (y := t_val T tx (t_q T tx (t_e T tx (t_q T tx pos)))) (i := t_val T tx (t_q T tx pos)) (by omega) (by omega)
        refine r_ifF rfl (zcF0 ⟨by omega, by omega⟩ ⟨by omega, by omega⟩ (by decide)) ?_
        refine r_al rfl rfl ?_
        refine r_gf rfl c1 rfl rfl ?_
        refine r_ic rfl ?_
        refine r_iaI rfl (by decide) c5 (by omega) (by omega) (by omega) ?_
        rw [show (59 : Int).toNat = 59 from rfl, dA.1]
        refine r_al rfl rfl ?_
        refine r_gf rfl c1 rfl rfl ?_
        refine r_ic rfl ?_
        refine r_iaI rfl (by decide) c2 (by omega) (by omega) (by omega) ?_
        rw [show (1 : Int).toNat = 1 from rfl, d1]
        refine r_al rfl rfl ?_
        refine r_gf rfl c1 rfl rfl ?_
        rw [g11]
        refine r_mulI rfl ?_
        refine r_il rfl rfl ?_
        refine r_addI rfl ?_
        refine r_ishr rfl ?_
        refine r_ic rfl ?_
        refine r_iand rfl ?_
        rw [show (D.1.1 : Int) * (t_va T tx (t_q T tx (t_e T tx (t_q T tx pos))) : Int) + (t_val T tx (t_q T tx pos) : Int) = ((D.1.1 * t_val T tx (t_q T tx (t_e T tx (t_q T tx pos))) + t_val T tx (t_q T tx pos) : Nat) : Int) by rw [show (t_va T tx (t_q T tx (t_e T tx (t_q T tx pos))) : Int) = (t_val T tx (t_q T tx (t_e T tx (t_q T tx pos))) : Int) by omega, Int.natCast_add, Int.natCast_mul]]
        generalize hcn : D.1.1 * t_val T tx (t_q T tx (t_e T tx (t_q T tx pos))) + t_val T tx (t_q T tx pos) = cn at *
        rw [z_bit D.2.1 (c := cn) (by omega)]
        by_cases hb : bt D.2.1 cn = true
        · rw [if_pos hb]
          have hu : t_chain T tx D pos = t_end T tx D (.inl (t_q T tx (t_e T tx (t_q T tx pos)))) := hu0.trans (if_pos hb)
          refine r_ifT rfl (zcT1 ⟨by omega, by omega⟩ ⟨by omega, by omega⟩ (by decide)) ?_
          obtain ⟨M3, k3, e3, v3, s3, r3⟩ := m_due (S := S) (d := d + 1) s2 false
          rw [show t_du T tx (.inr (t_q T tx (t_e T tx (t_q T tx pos)))) false = .inl (t_q T tx (t_e T tx (t_q T tx pos))) from rfl] at s3
          obtain ⟨f9, g12b⟩ := id s3.2.2.2
          refine r_ic rfl ?_
          refine r_is3 rfl rfl ?_
          refine r_al rfl rfl ?_
          refine r_il rfl rfl ?_
          refine r_cv1 rfl rfl c1 rfl (by decide) rfl (k3) ?_
          refine r_is4 rfl rfl ?_
          refine r_al rfl rfl ?_
          refine r_gf rfl s3.1 rfl rfl ?_
          rw [g12b]
          refine r_ic rfl ?_
          refine r_icT rfl (zcT1 ⟨by omega, by omega⟩ ⟨by omega, by omega⟩ (by omega)) ?_
          refine r_retv rfl rfl ?_
          exact ⟨rfl, v3, wd1, hd1, ld1, nw1, _, D, E2.v e3 s3.1 (r3 2 (by omega)), s3, fun q9 hq9 => (by cases hq9), hu⟩
        · rw [if_neg hb]
          have hu1 := hu0.trans (if_neg hb)
          obtain ⟨M3, k3, e3, v3, s3, r3⟩ := m_due (S := S) (d := d + 1) s2 true
          rw [show t_du T tx (.inr (t_q T tx (t_e T tx (t_q T tx pos)))) true = .inr (t_q T tx (t_e T tx (t_q T tx (t_e T tx (t_q T tx pos))))) from rfl] at s3
          have E3 := E2.v e3 s3.1 (r3 2 (by omega))
          obtain ⟨-, ⟨x1, x2, x3, x4, x5⟩, -⟩ := id E3
          obtain ⟨hq3, m12, m8, m9, m10, m11⟩ := id s3.2.2.2
          refine r_ifF rfl (zcF1 (rfl)) ?_
          refine r_ic rfl ?_
          refine r_goto rfl ?_
          refine r_is3 rfl rfl ?_
          refine r_al rfl rfl ?_
          refine r_il rfl rfl ?_
          refine r_cv1 rfl rfl c1 rfl (by decide) rfl (k3) ?_
          refine r_is4 rfl rfl ?_
          refine r_al rfl rfl ?_
          refine r_gf rfl x1 rfl rfl ?_
          rw [m12]
          refine r_ic rfl ?_
          refine r_icF rfl (zcF1 (rfl)) ?_
          refine r_al rfl rfl ?_
          refine r_al rfl rfl ?_
          refine r_gf rfl x1 rfl rfl ?_
          refine r_ic rfl ?_
          refine r_iaI rfl (by decide) x2 (by omega) (by omega) (by omega) ?_
          rw [show (1 : Int).toNat = 1 from rfl, d1]
          rw [g11, show (t_va T tx (t_q T tx (t_e T tx (t_q T tx pos))) : Int) = (t_val T tx (t_q T tx (t_e T tx (t_q T tx pos))) : Int) by omega]
          refine r_il rfl rfl ?_
          refine r_mulI rfl ?_
          refine r_il rfl rfl ?_
          refine r_addI rfl ?_
          rw [show (D.1.1 : Int) * (t_val T tx (t_q T tx (t_e T tx (t_q T tx pos))) : Int) + (t_val T tx (t_q T tx pos) : Int) = (cn : Int) by rw [← hcn, Int.natCast_add, Int.natCast_mul]]
          refine r_pf13 rfl x1 rfl rfl rfl (Or.inl rfl) ?_
          refine r_al rfl rfl ?_
          refine r_gf rfl (z_gs x1) rfl rfl ?_
          refine r_ic rfl ?_
          refine r_il rfl rfl ?_
          refine r_addI rfl ?_
          refine r_al rfl rfl ?_
          refine r_gf rfl (z_gs x1) rfl rfl ?_
          refine r_iSI rfl (z_gn (by decide) x5) (by omega) (by omega) (by omega) ?_
          rw [show (62 + (D.2.2.1 : Int)).toNat = 62 + D.2.2.1 by omega]
          have y62 : ((M3.set 62 (.inl (6, m_f tr (upd v3 13 (zI (cn : Int)))))).set 67 (zA 236 (upd nw1 (62 + D.2.2.1) (zI (cn : Int)))))[62]? = some (.inl (6, m_f tr (upd v3 13 (zI (cn : Int))))) := z_gn (by decide) (z_gs x1)
          have B4 : m_B ((M3.set 62 (.inl (6, m_f tr (upd v3 13 (zI (cn : Int)))))).set 67 (zA 236 (upd nw1 (62 + D.2.2.1) (zI (cn : Int))))) tr (upd v3 13 (zI (cn : Int))) wd1 hd1 ld1 (upd nw1 (62 + D.2.2.1) (zI (cn : Int))) := ⟨y62, z_gn (by decide) (z_gn (by decide) x2), z_gn (by decide) (z_gn (by decide) x3), z_gn (by decide) (z_gn (by decide) x4), z_gs (z_gn (by decide) x5)⟩
          have s4 : z_ev M3 ((M3.set 62 (.inl (6, m_f tr (upd v3 13 (zI (cn : Int)))))).set 67 (zA 236 (upd nw1 (62 + D.2.2.1) (zI (cn : Int))))) (fun k => k = 62 ∨ k = 67) := (z_ev.set (Or.inl rfl)).tr (.set (Or.inr rfl))
          have X4 := s3.2.1.ev s4 (by decide)
          obtain ⟨rg, M5, k5, nw5, rfl, hn5, hcs⟩ := m_goesOn (S := S) (d := d + 1) (nn := D.2.2.1) B4 X4 hoc d1 d2 ⟨hW1, hW2⟩ ⟨hH1, hH2⟩ hn4 ((pk_un (by omega)).trans dA.1) ((pk_un (by omega)).trans dA.2.1) (c0 := cn) (by omega) (q := (t_q T tx (t_e T tx (t_q T tx (t_e T tx (t_q T tx pos)))))) hq3 ((pk_un (by decide)).trans m8) ((pk_un (by decide)).trans m9) ((pk_un (by decide)).trans m10) pk_us
          rw [List.set_set] at k5
          have y62b : ((M3.set 62 (.inl (6, m_f tr (upd v3 13 (zI (cn : Int)))))).set 67 (zA 236 nw5))[62]? = some (.inl (6, m_f tr (upd v3 13 (zI (cn : Int))))) := z_gn (by decide) (z_gs x1)
          have S5 : y_S ((M3.set 62 (.inl (6, m_f tr (upd v3 13 (zI (cn : Int)))))).set 67 (zA 236 nw5)) tr (upd v3 13 (zI (cn : Int))) T tx (.inr (t_q T tx (t_e T tx (t_q T tx (t_e T tx (t_q T tx pos)))))) := ⟨y62b, s3.2.1.ev (P := fun k => k = 62 ∨ k = 67) ((z_ev.set (Or.inl rfl)).tr (.set (Or.inr rfl))) (by decide), (pk_un (by decide)).trans s3.2.2.1, hq3, (pk_un (by decide)).trans m12, (pk_un (by decide)).trans m8, (pk_un (by decide)).trans m9, (pk_un (by decide)).trans m10, (pk_un (by decide)).trans m11⟩
          have E5 : y_E M ((M3.set 62 (.inl (6, m_f tr (upd v3 13 (zI (cn : Int)))))).set 67 (zA 236 nw5)) tr v wd hd ld nw (upd v3 13 (zI (cn : Int))) wd1 hd1 ld1 nw5 := (E3.v (.set rfl) (z_gs x1) (pk_un (by decide))).n nw5 (fun j hj => (hn5 j (by omega) (by omega)).trans (pk_un (by omega)))
          have n60 : nw5 60 = zI (D.2.2.1 : Int) := (hn5 60 (by omega) (by omega)).trans ((pk_un (by omega)).trans dA.2.1)
          refine r_al rfl rfl ?_
          refine r_al rfl rfl ?_
          rcases hcs with ⟨rfl, hgo, nl, ns⟩ | ⟨rfl, hno⟩
          · refine r_cv0 rfl rfl y62 rfl (by decide) rfl (k5) ?_
            obtain ⟨M6, k6, e6, v6, s6, r6⟩ := m_due (S := S) (d := d + 1) S5 true
            rw [show t_du T tx (.inr (t_q T tx (t_e T tx (t_q T tx (t_e T tx (t_q T tx pos)))))) true = .inr (t_q T tx (t_e T tx (t_q T tx (t_e T tx (t_q T tx (t_e T tx (t_q T tx pos))))))) from rfl] at s6
            have E6 := E5.v e6 s6.1 (r6 2 (by omega))
            obtain ⟨-, ⟨w1, w2, w3, w4, w5⟩, -⟩ := id E6
            refine r_cv1 rfl rfl y62b rfl (by decide) rfl (k6) ?_
            refine r_popI rfl ?_
            refine r_al rfl rfl ?_
            refine r_gf rfl w1 rfl rfl ?_
            refine r_ic rfl ?_
            refine r_dup2 rfl ?_
            refine r_iaI rfl (by decide) w5 (by omega) (by omega) (by omega) ?_
            rw [show (60 : Int).toNat = 60 from rfl, n60]
            refine r_ic rfl ?_
            refine r_addI rfl ?_
            refine r_iSI rfl w5 (by omega) (by omega) (by omega) ?_
            refine r_retv rfl rfl ?_
            rw [show (60 : Int).toNat = 60 from rfl]
            have hu : t_chain T tx D pos = t_end T tx (t_add T tx D cn (t_q T tx (t_e T tx (t_q T tx (t_e T tx (t_q T tx pos)))))) (.inr (t_q T tx (t_e T tx (t_q T tx (t_e T tx (t_q T tx (t_e T tx (t_q T tx pos)))))))) := hu1.trans (if_pos hgo)
            refine ⟨rfl, v6, wd1, hd1, ld1, upd nw5 60 (zI ((D.2.2.1 + 1 : Nat) : Int)), _, t_add T tx D cn (t_q T tx (t_e T tx (t_q T tx (t_e T tx (t_q T tx pos))))), E6.n _ (fun j hj => pk_un (by omega)), s6.ev (.set (P := fun k => k = 67) rfl) (by decide) (by decide), fun q9 hq9 => ⟨⟨d1, d2, d3⟩, ?_, pk_us, rfl, fun k hk => ?_⟩, hu⟩
            · exact (pk_un (by decide)).trans ((hn5 59 (by omega) (by omega)).trans ((pk_un (by omega)).trans dA.1))
            · have hk : k < D.2.2.1 + 1 := hk
              unfold t_add
              dsimp only
              by_cases e9 : k = D.2.2.1
              · subst e9
                rw [if_pos rfl]
                refine ⟨?_, ?_, fun j hj => ?_⟩
                · rw [pk_un (by omega), hn5 _ (by omega) (by omega), show 59 + 3 + D.2.2.1 = 62 + D.2.2.1 by omega]
                  exact pk_us
                · rw [pk_un (by omega), show 59 + 7 + D.2.2.1 = 66 + D.2.2.1 by omega]
                  exact nl
                · rw [pk_un (by omega), show 59 + 11 + 12 * D.2.2.1 + j = 70 + 12 * D.2.2.1 + j by omega]
                  exact ns j hj
              · rw [if_neg e9]
                obtain ⟨l1, l2, l3⟩ := dA.2.2.2 k (by omega)
                have hl := hlen k (by omega)
                refine ⟨?_, ?_, fun j hj => ?_⟩
                · rw [pk_un (by omega), hn5 _ (by omega) (by omega), pk_un (by omega)]
                  exact l1
                · rw [pk_un (by omega), hn5 _ (by omega) (by omega), pk_un (by omega)]
                  exact l2
                · rw [pk_un (by omega), hn5 _ (by omega) (by omega), pk_un (by omega)]
                  exact l3 j hj
          · refine r_cv0 rfl rfl y62 rfl (by decide) rfl (k5) ?_
            obtain ⟨M6, k6, e6, v6, s6, r6⟩ := m_due (S := S) (d := d + 1) S5 false
            rw [show t_du T tx (.inr (t_q T tx (t_e T tx (t_q T tx (t_e T tx (t_q T tx pos)))))) false = .inl (t_q T tx (t_e T tx (t_q T tx (t_e T tx (t_q T tx pos))))) from rfl] at s6
            have E6 := E5.v e6 s6.1 (r6 2 (by omega))
            obtain ⟨-, ⟨w1, w2, w3, w4, w5⟩, -⟩ := id E6
            refine r_cv1 rfl rfl y62b rfl (by decide) rfl (k6) ?_
            refine r_popI rfl ?_
            refine r_al rfl rfl ?_
            refine r_gf rfl w1 rfl rfl ?_
            refine r_ic rfl ?_
            refine r_dup2 rfl ?_
            refine r_iaI rfl (by decide) w5 (by omega) (by omega) (by omega) ?_
            rw [show (60 : Int).toNat = 60 from rfl, n60]
            refine r_ic rfl ?_
            refine r_addI rfl ?_
            refine r_iSI rfl w5 (by omega) (by omega) (by omega) ?_
            refine r_retv rfl rfl ?_
            rw [show (60 : Int).toNat = 60 from rfl]
            have hu : t_chain T tx D pos = t_end T tx D (.inl (t_q T tx (t_e T tx (t_q T tx (t_e T tx (t_q T tx pos)))))) := hu1.trans (if_neg hno)
            exact ⟨rfl, v6, wd1, hd1, ld1, _, _, D, E6.n _ (fun j hj => pk_un (by omega)), s6.ev (.set (P := fun k => k = 67) rfl) (by decide) (by decide), fun q9 hq9 => (by cases hq9), hu⟩
      · rw [if_neg hin]
        refine r_ifT rfl (zcT0 (rfl)) ?_
        have i2 : ¬ t_isn T tx 0 ((D.1.2.1 : Int) - 1) (t_q T tx (t_e T tx (t_q T tx pos))) := fun g => hin (by have := g.2.2; omega)
        have hu := (show t_chain T tx D pos = t_end T tx D (.inl (t_q T tx (t_e T tx (t_q T tx pos)))) from (t_num_p i1).trans (t_num_n i2))
        obtain ⟨M3, k3, e3, v3, s3, r3⟩ := m_due (S := S) (d := d + 1) s2 false
        rw [show t_du T tx (.inr (t_q T tx (t_e T tx (t_q T tx pos)))) false = .inl (t_q T tx (t_e T tx (t_q T tx pos))) from rfl] at s3
        obtain ⟨f9, g12b⟩ := id s3.2.2.2
        refine r_ic rfl ?_
        refine r_is3 rfl rfl ?_
        refine r_al rfl rfl ?_
        refine r_il rfl rfl ?_
        refine r_cv1 rfl rfl c1 rfl (by decide) rfl (k3) ?_
        refine r_is4 rfl rfl ?_
        refine r_al rfl rfl ?_
        refine r_gf rfl s3.1 rfl rfl ?_
        rw [g12b]
        refine r_ic rfl ?_
        refine r_icT rfl (zcT1 ⟨by omega, by omega⟩ ⟨by omega, by omega⟩ (by omega)) ?_
        refine r_retv rfl rfl ?_
        exact ⟨rfl, v3, wd1, hd1, ld1, nw1, _, D, E2.v e3 s3.1 (r3 2 (by omega)), s3, fun q9 hq9 => (by cases hq9), hu⟩
    · refine r_icT rfl (zcT1 ⟨by omega, by omega⟩ ⟨by omega, by omega⟩ (h4)) ?_
      have i2 : ¬ t_isn T tx 0 ((D.1.2.1 : Int) - 1) (t_q T tx (t_e T tx (t_q T tx pos))) := fun g => h4 (sk.mpr ⟨g.1, g.2.1⟩)
      have hu := (show t_chain T tx D pos = t_end T tx D (.inl (t_q T tx (t_e T tx (t_q T tx pos)))) from (t_num_p i1).trans (t_num_n i2))
      obtain ⟨M3, k3, e3, v3, s3, r3⟩ := m_due (S := S) (d := d + 1) s2 false
      rw [show t_du T tx (.inr (t_q T tx (t_e T tx (t_q T tx pos)))) false = .inl (t_q T tx (t_e T tx (t_q T tx pos))) from rfl] at s3
      obtain ⟨f9, g12b⟩ := id s3.2.2.2
      refine r_ic rfl ?_
      refine r_is3 rfl rfl ?_
      refine r_al rfl rfl ?_
      refine r_il rfl rfl ?_
      refine r_cv1 rfl rfl c1 rfl (by decide) rfl (k3) ?_
      refine r_is4 rfl rfl ?_
      refine r_al rfl rfl ?_
      refine r_gf rfl s3.1 rfl rfl ?_
      rw [g12b]
      refine r_ic rfl ?_
      refine r_icT rfl (zcT1 ⟨by omega, by omega⟩ ⟨by omega, by omega⟩ (by omega)) ?_
      refine r_retv rfl rfl ?_
      exact ⟨rfl, v3, wd1, hd1, ld1, nw1, _, D, E2.v e3 s3.1 (r3 2 (by omega)), s3, fun q9 hq9 => (by cases hq9), hu⟩
  · rw [t_nu_n i1] at s2
    have hu : t_chain T tx D pos = t_end T tx D (.inl (t_q T tx pos)) := t_num_n i1
    obtain ⟨a10, e10, b10⟩ := zI_of (v2 10)
    obtain ⟨a11, e11, b11⟩ := zI_of (v2 11)
    refine r_al rfl rfl ?_
    refine r_gf rfl c1 rfl rfl ?_
    rw [e10]
    refine r_ic rfl ?_
    by_cases h4 : a10 = 4
    · refine r_icF rfl (zcF1 (h4)) ?_
      refine r_al rfl rfl ?_
      refine r_gf rfl c1 rfl rfl ?_
      rw [e11]
      refine r_ic rfl ?_
      refine r_al rfl rfl ?_
      refine r_gf rfl c1 rfl rfl ?_
      refine r_ic rfl ?_
      refine r_iaI rfl (by decide) c3 (by omega) (by omega) (by omega) ?_
      rw [show (1 : Int).toNat = 1 from rfl, d2]
      refine r_ic rfl ?_
      refine r_subI rfl ?_
      refine r_cs3 rfl rfl rfl rfl (m_in (x := a11) b11 ⟨by omega, by omega⟩ ⟨by omega, by omega⟩) ?_
      by_cases hin : 0 ≤ a11 ∧ a11 ≤ (D.1.2.1 : Int) - 1
      · rw [if_pos hin]
        refine r_ifF rfl (zcF0 ⟨by omega, by omega⟩ ⟨by omega, by omega⟩ (by decide)) ?_
        refine r_al rfl rfl ?_
        refine r_gf rfl c1 rfl rfl ?_
        refine r_ic rfl ?_
        refine r_iaI rfl (by decide) c5 (by omega) (by omega) (by omega) ?_
        refine r_al rfl rfl ?_
        refine r_gf rfl c1 rfl rfl ?_
        refine r_ic rfl ?_
        refine r_iaI rfl (by decide) c2 (by omega) (by omega) (by omega) ?_
        rw [show (1 : Int).toNat = 1 from rfl, d1]
        refine r_al rfl rfl ?_
        refine r_gf rfl c1 rfl rfl ?_
        rw [e11]
        refine r_mulI rfl ?_
        refine r_il rfl rfl ?_
        refine r_addI rfl ?_
        refine r_ishr rfl ?_
        refine r_ic rfl ?_
        refine r_iand rfl ?_
        by_cases hx0 : (nw1 (59 : Int).toNat >>> (zI ((D.1.1 : Int) * a11 + (t_va T tx (t_q T tx pos) : Int)) &&& 31)) &&& zI 1 = zI 0
        · refine r_ifF rfl (zx_F1 hx0) ?_
          obtain ⟨M3, k3, e3, v3, s3, r3⟩ := m_due (S := S) (d := d + 1) s2 true
          obtain ⟨f9, g12⟩ := id s3.2.2.2
          refine r_ic rfl ?_
          refine r_goto rfl ?_
          refine r_is3 rfl rfl ?_
          refine r_al rfl rfl ?_
          refine r_il rfl rfl ?_
          refine r_cv1 rfl rfl c1 rfl (by decide) rfl (k3) ?_
          refine r_is4 rfl rfl ?_
          refine r_al rfl rfl ?_
          refine r_gf rfl s3.1 rfl rfl ?_
          rw [g12]
          refine r_ic rfl ?_
          refine r_icT rfl (zcT1 ⟨by omega, by omega⟩ ⟨by omega, by omega⟩ (by omega)) ?_
          refine r_retv rfl rfl ?_
          exact ⟨rfl, v3, wd1, hd1, ld1, nw1, _, D, E2.v e3 s3.1 (r3 2 (by omega)), s3, fun q9 hq9 => (by cases hq9), hu⟩
        · refine r_ifT rfl (zx_T1 hx0) ?_
          obtain ⟨M3, k3, e3, v3, s3, r3⟩ := m_due (S := S) (d := d + 1) s2 false
          obtain ⟨f9, g12⟩ := id s3.2.2.2
          refine r_ic rfl ?_
          refine r_is3 rfl rfl ?_
          refine r_al rfl rfl ?_
          refine r_il rfl rfl ?_
          refine r_cv1 rfl rfl c1 rfl (by decide) rfl (k3) ?_
          refine r_is4 rfl rfl ?_
          refine r_al rfl rfl ?_
          refine r_gf rfl s3.1 rfl rfl ?_
          rw [g12]
          refine r_ic rfl ?_
          refine r_icT rfl (zcT1 ⟨by omega, by omega⟩ ⟨by omega, by omega⟩ (by omega)) ?_
          refine r_retv rfl rfl ?_
          exact ⟨rfl, v3, wd1, hd1, ld1, nw1, _, D, E2.v e3 s3.1 (r3 2 (by omega)), s3, fun q9 hq9 => (by cases hq9), hu⟩
      · rw [if_neg hin]
        refine r_ifT rfl (zcT0 (rfl)) ?_
        obtain ⟨M3, k3, e3, v3, s3, r3⟩ := m_due (S := S) (d := d + 1) s2 false
        obtain ⟨f9, g12⟩ := id s3.2.2.2
        refine r_ic rfl ?_
        refine r_is3 rfl rfl ?_
        refine r_al rfl rfl ?_
        refine r_il rfl rfl ?_
        refine r_cv1 rfl rfl c1 rfl (by decide) rfl (k3) ?_
        refine r_is4 rfl rfl ?_
        refine r_al rfl rfl ?_
        refine r_gf rfl s3.1 rfl rfl ?_
        rw [g12]
        refine r_ic rfl ?_
        refine r_icT rfl (zcT1 ⟨by omega, by omega⟩ ⟨by omega, by omega⟩ (by omega)) ?_
        refine r_retv rfl rfl ?_
        exact ⟨rfl, v3, wd1, hd1, ld1, nw1, _, D, E2.v e3 s3.1 (r3 2 (by omega)), s3, fun q9 hq9 => (by cases hq9), hu⟩
    · refine r_icT rfl (zcT1 ⟨by omega, by omega⟩ ⟨by omega, by omega⟩ (h4)) ?_
      obtain ⟨M3, k3, e3, v3, s3, r3⟩ := m_due (S := S) (d := d + 1) s2 false
      obtain ⟨f9, g12⟩ := id s3.2.2.2
      refine r_ic rfl ?_
      refine r_is3 rfl rfl ?_
      refine r_al rfl rfl ?_
      refine r_il rfl rfl ?_
      refine r_cv1 rfl rfl c1 rfl (by decide) rfl (k3) ?_
      refine r_is4 rfl rfl ?_
      refine r_al rfl rfl ?_
      refine r_gf rfl s3.1 rfl rfl ?_
      rw [g12]
      refine r_ic rfl ?_
      refine r_icT rfl (zcT1 ⟨by omega, by omega⟩ ⟨by omega, by omega⟩ (by omega)) ?_
      refine r_retv rfl rfl ?_
      exact ⟨rfl, v3, wd1, hd1, ld1, nw1, _, D, E2.v e3 s3.1 (r3 2 (by omega)), s3, fun q9 hq9 => (by cases hq9), hu⟩
set_option maxRecDepth 20000 in
theorem m_readItem {M1 : ZM} {v1 wd1 hd1 ld1 nw1 : Nat → Int32} (hE : y_E M M1 tr v wd hd ld nw v1 wd1 hd1 ld1 nw1) {q m : Nat} (hS : y_S M1 tr v1 T tx (.inr q)) (hDr : y_Dr wd1 hd1 ld1 nw1 D) (hwf : (1 ≤ D.1.1 ∧ D.1.1 ≤ 5) ∧ (1 ≤ D.1.2.1 ∧ D.1.2.1 ≤ 5) ∧ (1 ≤ D.1.2.2 ∧ D.1.2.2 ≤ 3) ∧ D.2.2.1 ≤ 4) (hlen : ∀ k, k < D.2.2.1 → (D.2.2.2 k).2.1 ≤ 12) (hoc : t_oct T tx) (hm9 : m ≤ 1000) : ∃ M', z_C S (d + 5) 113 [.ref 62, .int (zI (m : Int))] M1 none M' ∧ y_O M M' tr v wd hd ld nw T tx (t_item T tx m D q) := by
  refine k_an ?_
  refine k_of rfl rfl (Nat.le_of_ble_eq_true rfl) ?_
  obtain ⟨a1, ⟨b1, b2, b3, b4, b5⟩, a3, a4, a5⟩ := id hE
  obtain ⟨⟨d1, d2, d3⟩, dA⟩ := id hDr
  have hn9 := hwf.2.2.2
  obtain ⟨hq, h12, h8, h9, h10, h11⟩ := id hS.2.2.2
  have hT := hS.2.1.1
  obtain ⟨e1, e2, -⟩ := t_e_ok (tx := tx) hq
  obtain ⟨-, -, -, -, sy, sh, sc⟩ := t_so_k (T := T) (tx := tx) (q := q)
  have si := t_so_in (T := T) (tx := tx) (q := q)
  refine r_al rfl rfl ?_
  refine r_gf rfl b1 rfl rfl ?_
  rw [h10]
  refine r_is2 rfl rfl ?_
  refine r_al rfl rfl ?_
  refine r_il rfl rfl ?_
  by_cases hy : t_yd T tx q
  · have h0 := sy.mpr hy
    have nh : ¬ t_hs T tx q := fun g => by have := sh.mpr g; omega
    have nc : ¬ t_ch T tx q := fun g => by have := sc.mpr g; omega
    refine r_ifF rfl (zcF1 (h0)) ?_
    refine r_il rfl rfl ?_
    by_cases hm : m = 0
    · refine r_ifT rfl (zcT0 (by omega)) ?_
      have hu : t_item T tx m D q = t_yard T tx D (t_e T tx q) := by unfold t_item; rw [if_pos hy, if_pos hm]
      obtain ⟨M2, k2, x2, v2, s2, r2⟩ := m_due (S := S) (d := d + 2) hS true
      rw [show t_du T tx (.inr q) true = .inr (t_q T tx (t_e T tx q)) from rfl] at s2
      have g12 := s2.2.2.2.2.1
      have X2 := hE.v x2 s2.1 (r2 2 (by omega))
      refine r_ic rfl ?_
      refine r_goto rfl ?_
      refine r_cv1 rfl rfl b1 rfl (by decide) rfl (k2) ?_
      refine r_popI rfl ?_
      refine r_al rfl rfl ?_
      refine r_gf rfl s2.1 rfl rfl ?_
      rw [g12]
      refine r_ic rfl ?_
      refine r_icT rfl (zcT0 (rfl)) ?_
      refine r_il rfl rfl ?_
      refine r_ifF rfl (zcF1 (h0)) ?_
      rw [hu]
      exact m_rI_y X2 s2 hDr
    · refine r_ifF rfl (zcF0 ⟨by omega, by omega⟩ ⟨by omega, by omega⟩ (by omega)) ?_
      refine r_il rfl rfl ?_
      refine r_ic rfl ?_
      refine r_icT rfl (zcT1 ⟨by omega, by omega⟩ ⟨by omega, by omega⟩ (by omega)) ?_
      refine r_il rfl rfl ?_
      refine r_ic rfl ?_
      refine r_icT rfl (zcT1 ⟨by omega, by omega⟩ ⟨by omega, by omega⟩ (by omega)) ?_
      refine r_ic rfl ?_
      have hu : t_item T tx m D q = .inl q := by unfold t_item; rw [if_pos hy, if_neg hm]
      obtain ⟨M2, k2, x2, v2, s2, r2⟩ := m_due (S := S) (d := d + 2) hS false
      rw [show t_du T tx (.inr q) false = .inl q from rfl] at s2
      obtain ⟨f9, g12⟩ := id s2.2.2.2
      refine r_cv1 rfl rfl b1 rfl (by decide) rfl (k2) ?_
      refine r_popI rfl ?_
      refine r_al rfl rfl ?_
      refine r_gf rfl s2.1 rfl rfl ?_
      rw [g12]
      refine r_ic rfl ?_
      refine r_icF rfl (zcF0 ⟨by omega, by omega⟩ ⟨by omega, by omega⟩ (by omega)) ?_
      refine r_retv rfl rfl ?_
      rw [hu]
      exact ⟨rfl, v2, wd1, hd1, ld1, nw1, hE.v x2 s2.1 (r2 2 (by omega)), f9, g12⟩
  · have h0 : ¬ t_so T tx q = 0 := fun g => hy (sy.mp g)
    refine r_ifT rfl (zcT1 ⟨by omega, by omega⟩ ⟨by omega, by omega⟩ (h0)) ?_
    refine r_il rfl rfl ?_
    refine r_ic rfl ?_
    by_cases hh : t_hs T tx q
    · have h1 := sh.mpr hh
      refine r_icF rfl (zcF1 (h1)) ?_
      refine r_al rfl rfl ?_
      refine r_gf rfl b1 rfl rfl ?_
      refine r_ic rfl ?_
      refine r_iaI rfl (by decide) b5 (by omega) (by omega) (by omega) ?_
      rw [show (60 : Int).toNat = 60 from rfl, dA.2.1]
      by_cases hn0 : D.2.2.1 = 0
      · refine r_ifT rfl (zcT0 (by omega)) ?_
        have hu : t_item T tx m D q = t_house T tx D (t_e T tx q) := by unfold t_item; rw [if_neg hy, if_pos ⟨hh, hn0⟩]
        obtain ⟨M2, k2, x2, v2, s2, r2⟩ := m_due (S := S) (d := d + 2) hS true
        rw [show t_du T tx (.inr q) true = .inr (t_q T tx (t_e T tx q)) from rfl] at s2
        have g12 := s2.2.2.2.2.1
        have X2 := hE.v x2 s2.1 (r2 2 (by omega))
        refine r_ic rfl ?_
        refine r_goto rfl ?_
        refine r_cv1 rfl rfl b1 rfl (by decide) rfl (k2) ?_
        refine r_popI rfl ?_
        refine r_al rfl rfl ?_
        refine r_gf rfl s2.1 rfl rfl ?_
        rw [g12]
        refine r_ic rfl ?_
        refine r_icT rfl (zcT0 (rfl)) ?_
        refine r_il rfl rfl ?_
        refine r_ifT rfl (zcT1 ⟨by omega, by omega⟩ ⟨by omega, by omega⟩ (by omega)) ?_
        refine r_il rfl rfl ?_
        refine r_ic rfl ?_
        refine r_icF rfl (zcF1 (h1)) ?_
        rw [hu]
        exact m_rI_h X2 s2 hDr hwf hn0
      · have nc : ¬ t_ch T tx q := fun g => by have := sc.mpr g; omega
        refine r_ifF rfl (zcF0 ⟨by omega, by omega⟩ ⟨by omega, by omega⟩ (by omega)) ?_
        refine r_il rfl rfl ?_
        refine r_ic rfl ?_
        refine r_icT rfl (zcT1 ⟨by omega, by omega⟩ ⟨by omega, by omega⟩ (by omega)) ?_
        have hu : t_item T tx m D q = .inl q := by unfold t_item; rw [if_neg hy, if_neg (fun g => hn0 g.2), if_neg (fun g => nc g.1)]
        obtain ⟨M2, k2, x2, v2, s2, r2⟩ := m_due (S := S) (d := d + 2) hS false
        rw [show t_du T tx (.inr q) false = .inl q from rfl] at s2
        obtain ⟨f9, g12⟩ := id s2.2.2.2
        refine r_ic rfl ?_
        refine r_cv1 rfl rfl b1 rfl (by decide) rfl (k2) ?_
        refine r_popI rfl ?_
        refine r_al rfl rfl ?_
        refine r_gf rfl s2.1 rfl rfl ?_
        rw [g12]
        refine r_ic rfl ?_
        refine r_icF rfl (zcF0 ⟨by omega, by omega⟩ ⟨by omega, by omega⟩ (by omega)) ?_
        refine r_retv rfl rfl ?_
        rw [hu]
        exact ⟨rfl, v2, wd1, hd1, ld1, nw1, hE.v x2 s2.1 (r2 2 (by omega)), f9, g12⟩
    · have h1 : ¬ t_so T tx q = 1 := fun g => hh (sh.mp g)
      refine r_icT rfl (zcT1 ⟨by omega, by omega⟩ ⟨by omega, by omega⟩ (h1)) ?_
      refine r_il rfl rfl ?_
      refine r_ic rfl ?_
      by_cases hc : t_ch T tx q
      · have h2 := sc.mpr hc
        refine r_icF rfl (zcF1 (h2)) ?_
        refine r_al rfl rfl ?_
        refine r_gf rfl b1 rfl rfl ?_
        refine r_ic rfl ?_
        refine r_iaI rfl (by decide) b5 (by omega) (by omega) (by omega) ?_
        rw [show (60 : Int).toNat = 60 from rfl, dA.2.1]
        refine r_ic rfl ?_
        by_cases hn4 : D.2.2.1 < 4
        · refine r_icF rfl (zcF3 ⟨by omega, by omega⟩ ⟨by omega, by omega⟩ (by omega)) ?_
          have hu : t_item T tx m D q = t_chain T tx D (t_e T tx q) := by unfold t_item; rw [if_neg hy, if_neg (fun g => hh g.1), if_pos ⟨hc, hn4⟩]
          obtain ⟨M2, k2, x2, v2, s2, r2⟩ := m_due (S := S) (d := d + 2) hS true
          rw [show t_du T tx (.inr q) true = .inr (t_q T tx (t_e T tx q)) from rfl] at s2
          have g12 := s2.2.2.2.2.1
          have X2 := hE.v x2 s2.1 (r2 2 (by omega))
          refine r_ic rfl ?_
          refine r_goto rfl ?_
          refine r_cv1 rfl rfl b1 rfl (by decide) rfl (k2) ?_
          refine r_popI rfl ?_
          refine r_al rfl rfl ?_
          refine r_gf rfl s2.1 rfl rfl ?_
          rw [g12]
          refine r_ic rfl ?_
          refine r_icT rfl (zcT0 (rfl)) ?_
          refine r_il rfl rfl ?_
          refine r_ifT rfl (zcT1 ⟨by omega, by omega⟩ ⟨by omega, by omega⟩ (by omega)) ?_
          refine r_il rfl rfl ?_
          refine r_ic rfl ?_
          refine r_icT rfl (zcT1 ⟨by omega, by omega⟩ ⟨by omega, by omega⟩ (by omega)) ?_
          refine r_al rfl rfl ?_
          obtain ⟨r3, M3, k3, rfl, v3, wd3, hd3, ld3, nw3, u3, D3, E3, s3, f3, hu3⟩ := m_readChain (S := S) (d := d) X2 s2 hDr hwf hn4 hlen hoc
          refine r_cv0v rfl rfl s2.1 rfl (by decide) rfl (k3) ?_
          rw [hu, hu3]
          exact m_rI_e (d := d + 2) E3 s3 f3
        · refine r_icT rfl (zcT3 ⟨by omega, by omega⟩ ⟨by omega, by omega⟩ (by omega)) ?_
          have hu : t_item T tx m D q = .inl q := by unfold t_item; rw [if_neg hy, if_neg (fun g => hh g.1), if_neg (fun g => hn4 g.2)]
          obtain ⟨M2, k2, x2, v2, s2, r2⟩ := m_due (S := S) (d := d + 2) hS false
          rw [show t_du T tx (.inr q) false = .inl q from rfl] at s2
          obtain ⟨f9, g12⟩ := id s2.2.2.2
          refine r_ic rfl ?_
          refine r_cv1 rfl rfl b1 rfl (by decide) rfl (k2) ?_
          refine r_popI rfl ?_
          refine r_al rfl rfl ?_
          refine r_gf rfl s2.1 rfl rfl ?_
          rw [g12]
          refine r_ic rfl ?_
          refine r_icF rfl (zcF0 ⟨by omega, by omega⟩ ⟨by omega, by omega⟩ (by omega)) ?_
          refine r_retv rfl rfl ?_
          rw [hu]
          exact ⟨rfl, v2, wd1, hd1, ld1, nw1, hE.v x2 s2.1 (r2 2 (by omega)), f9, g12⟩
      · have h2 : ¬ t_so T tx q = 2 := fun g => hc (sc.mp g)
        refine r_icT rfl (zcT1 ⟨by omega, by omega⟩ ⟨by omega, by omega⟩ (h2)) ?_
        have hu : t_item T tx m D q = .inl q := by unfold t_item; rw [if_neg hy, if_neg (fun g => hh g.1), if_neg (fun g => hc g.1)]
        obtain ⟨M2, k2, x2, v2, s2, r2⟩ := m_due (S := S) (d := d + 2) hS false
        rw [show t_du T tx (.inr q) false = .inl q from rfl] at s2
        obtain ⟨f9, g12⟩ := id s2.2.2.2
        refine r_ic rfl ?_
        refine r_cv1 rfl rfl b1 rfl (by decide) rfl (k2) ?_
        refine r_popI rfl ?_
        refine r_al rfl rfl ?_
        refine r_gf rfl s2.1 rfl rfl ?_
        rw [g12]
        refine r_ic rfl ?_
        refine r_icF rfl (zcF0 ⟨by omega, by omega⟩ ⟨by omega, by omega⟩ (by omega)) ?_
        refine r_retv rfl rfl ?_
        rw [hu]
        exact ⟨rfl, v2, wd1, hd1, ld1, nw1, hE.v x2 s2.1 (r2 2 (by omega)), f9, g12⟩
end TU
