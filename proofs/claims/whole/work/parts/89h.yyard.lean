/-! YARD: drafts in order; the reference's call -/
section TS
variable {T : Nat} {tx : Nat → Int32}
theorem t_semi_wf {D : ZD} {pos : Nat} {x : ZD × Nat} (h : t_semi T tx D pos = .inr x) : x.1 = D := by
  by_cases g : t_kd T tx (t_q T tx pos) = 3
  · rw [t_semi_p g] at h
    cases h
    rfl
  · rw [t_semi_n g] at h
    cases h
theorem t_num_wf {lo hi : Int} {pos : Nat} {k : Nat → Nat → Nat ⊕ (ZD × Nat)} {x : ZD × Nat} (h : t_num T tx lo hi pos k = .inr x) : ∃ vv e : Nat, (lo ≤ (vv : Int) ∧ (vv : Int) ≤ hi) ∧ k vv e = .inr x := by
  by_cases g : t_isn T tx lo hi (t_q T tx pos)
  · rw [t_num_p g] at h
    exact ⟨_, _, g.2.2, h⟩
  · rw [t_num_n g] at h
    cases h
theorem p_in_0 {W H : Nat} : p_in W H (zI 0) := fun c _ => b_zero c
theorem t_item_wf {m : Nat} {D : ZD} {q : Nat} {x : ZD × Nat} (hq : q ≤ T) (hD : t_wf D) (h0 : m = 0 → D.2.1 = zI 0 ∧ D.2.2.1 = 0) (h : t_item T tx m D q = .inr x) : t_wf x.1 := by
  obtain ⟨⟨⟨w1, w2⟩, ⟨w3, w4⟩, w5, w6⟩, hok, hin⟩ := id hD
  have hC := p_WH w2 w4
  unfold t_item at h
  by_cases hy : t_yd T tx q
  · rw [if_pos hy] at h
    by_cases hm : m = 0
    · rw [if_pos hm] at h
      obtain ⟨z1, z2⟩ := h0 hm
      obtain ⟨a1, f1, g1, h⟩ := t_num_wf h
      obtain ⟨a2, f2, g2, h⟩ := t_num_wf h
      obtain ⟨a3, f3, g3, h⟩ := t_num_wf h
      rw [t_semi_wf h]
      refine ⟨⟨⟨?_, ?_⟩, ⟨?_, ?_⟩, ⟨?_, ?_⟩, w6⟩, fun k hk => ?_, ?_⟩
      · show 1 ≤ a1; omega
      · show a1 ≤ 5; omega
      · show 1 ≤ a2; omega
      · show a2 ≤ 5; omega
      · show 1 ≤ a3; omega
      · show a3 ≤ 3; omega
      · have hk : k < D.2.2.1 := hk
        rw [z2] at hk
        omega
      · show p_in a1 a2 D.2.1
        rw [z1]
        exact p_in_0
    · rw [if_neg hm] at h
      cases h
  · rw [if_neg hy] at h
    by_cases hh : t_hs T tx q ∧ D.2.2.1 = 0
    · rw [if_pos hh] at h
      obtain ⟨a1, f1, g1, h⟩ := t_num_wf h
      obtain ⟨a2, f2, g2, h⟩ := t_num_wf h
      rw [t_semi_wf h]
      have hc := w_cell (W := D.1.1) (H := D.1.2.1) (y := a2) (i := a1) (by omega) (by omega)
      refine ⟨⟨⟨w1, w2⟩, ⟨w3, w4⟩, w5, w6⟩, fun k hk => ?_, h_add_in hC hc hin⟩
      have hk : k < D.2.2.1 := hk
      rw [hh.2] at hk
      omega
    · rw [if_neg hh] at h
      by_cases hc : t_ch T tx q ∧ D.2.2.1 < 4
      · rw [if_pos hc] at h
        obtain ⟨a1, f1, g1, h⟩ := t_num_wf h
        obtain ⟨a2, f2, g2, h⟩ := t_num_wf h
        have hc9 := w_cell (W := D.1.1) (H := D.1.2.1) (y := a2) (i := a1) (by omega) (by omega)
        by_cases hb : bt D.2.1 (D.1.1 * a2 + a1) = true
        · rw [if_pos hb] at h
          cases h
        · rw [if_neg hb] at h
          unfold t_steps at h
          by_cases hg : t_go T tx D (D.1.1 * a2 + a1) (t_q T tx f2)
          · rw [if_pos hg] at h
            rw [t_semi_wf h]
            have hN : 1 ≤ t_e T tx (t_q T tx f2) - t_q T tx f2 := by
              obtain ⟨y1, y2, y3, y4, y5⟩ := t_word hg.1
              have := (t_le_ok (T := T) (tx := tx) T (t_q T tx f2 + 1)).1
              omega
            obtain ⟨hok0, -, -⟩ := p_pos_ok hc9 hb hN hg.2.1 hg.2.2
            refine ⟨⟨⟨w1, w2⟩, ⟨w3, w4⟩, w5, ?_⟩, fun k hk => ?_, hin⟩
            · show D.2.2.1 + 1 ≤ 4
              omega
            · have hk : k < D.2.2.1 + 1 := hk
              unfold t_add
              dsimp only
              by_cases e9 : k = D.2.2.1
              · rw [if_pos e9]
                exact hok0
              · rw [if_neg e9]
                exact hok k (by omega)
          · rw [if_neg hg] at h
            cases h
      · rw [if_neg hc] at h
        cases h
theorem t_run_wf : ∀ {f m : Nat} {D : ZD} {pos : Nat} {x : Nat × ZD}, pos ≤ T → t_wf D → (m = 0 → D.2.1 = zI 0 ∧ D.2.2.1 = 0) → t_run T tx f m D pos = .inr x → t_wf x.2 := by
  intro f
  induction f with
  | zero =>
    intro m D pos x _ hD _ h
    have h : (Sum.inr (m, D) : Nat ⊕ (Nat × ZD)) = .inr x := h
    cases h
    exact hD
  | succ f ih =>
    intro m D pos x hp hD h0 h
    have h : (if t_kd T tx (t_q T tx pos) = 0 then .inr (m, D) else match t_item T tx m D (t_q T tx pos) with | .inl z => .inl z | .inr x => t_run T tx f (m + 1) x.1 x.2) = (Sum.inr x : Nat ⊕ (Nat × ZD)) := h
    have hq := (t_pos (tx := tx) hp).1
    split at h
    · cases h
      exact hD
    · cases hi : t_item T tx m D (t_q T tx pos) with
      | inl z =>
        rw [hi] at h
        cases h
      | inr y =>
        rw [hi] at h
        exact ih (t_item_pos hq hi).1 (t_item_wf hq hD h0 hi) (fun g => by omega) h
theorem t_D0_wf : t_wf t_D0 := ⟨⟨⟨by decide, by decide⟩, ⟨by decide, by decide⟩, ⟨by decide, by decide⟩, by decide⟩, fun k hk => absurd hk (Nat.not_lt_zero _), p_in_0⟩
end TS
section TR
variable {S : ZS} {d : Nat} {M : ZM} {T : Nat} {tx : Nat → Int32} {W H L n : Nat} {hs lot : Int32} {kc : Nat → ZK} {im : Nat → Option ZB} {tr : Int64} {v wd hd ld nw : Nat → Int32}
theorem m_yd_l (hoc : t_oct T tx) {Q : Option Value → ZM → Prop} : ∀ (f m : Nat) (D : ZD) (pos : Nat) (M1 : ZM), m + f = 201 → pos ≤ T → m ≤ pos → t_wf D → (m = 0 → D.2.1 = zI 0 ∧ D.2.2.1 = 0) → (∃ v1 wd1 hd1 ld1 nw1, y_E M M1 tr v wd hd ld nw v1 wd1 hd1 ld1 nw1 ∧ y_S M1 tr v1 T tx (.inr (t_q T tx pos)) ∧ y_Dr wd1 hd1 ld1 nw1 D) → (∀ (m9 : Nat) (D9 : ZD), t_run T tx f m D pos = .inr (m9, D9) → ∀ M1 : ZM, (∃ v1 wd1 hd1 ld1 nw1, y_E M M1 tr v wd hd ld nw v1 wd1 hd1 ld1 nw1 ∧ v1 12 = zI (-9) ∧ y_Dr wd1 hd1 ld1 nw1 D9) → t_wf D9 → z_R S (d + 6) 114 83 [some (.ref 62), some (.int (zI (m9 : Int)))] [] M1 Q) → (∀ f9 : Nat, t_run T tx f m D pos = .inl f9 → ∀ M1 : ZM, (∃ v1 wd1 hd1 ld1 nw1, y_E M M1 tr v wd hd ld nw v1 wd1 hd1 ld1 nw1) → Q (some (.int (zI (-10 - (f9 : Int))))) M1) → z_R S (d + 6) 114 54 [some (.ref 62), some (.int (zI (m : Int)))] [] M1 Q := by
  intro f
  induction f with
  | zero =>
    intro m D pos M1 hm hpos hmp hD h0 hI hok hno
    obtain ⟨v1, wd1, hd1, ld1, nw1, hE, hS, hDr⟩ := id hI
    obtain ⟨a1, ⟨b1, b2, b3, b4, b5⟩, a3, a4, a5⟩ := id hE
    obtain ⟨hq, h12, h8, h9, h10, h11⟩ := id hS.2.2.2
    have hT := hS.2.1.1
    have sk := (t_so_k (T := T) (tx := tx) (q := t_q T tx pos)).2.2.1
    have si := t_so_in (T := T) (tx := tx) (q := t_q T tx pos)
    omega
  | succ f ih =>
    intro m D pos M1 hm hpos hmp hD h0 hI hok hno
    obtain ⟨v1, wd1, hd1, ld1, nw1, hE, hS, hDr⟩ := id hI
    obtain ⟨a1, ⟨b1, b2, b3, b4, b5⟩, a3, a4, a5⟩ := id hE
    obtain ⟨hq, h12, h8, h9, h10, h11⟩ := id hS.2.2.2
    have hT := hS.2.1.1
    have sk := (t_so_k (T := T) (tx := tx) (q := t_q T tx pos)).2.2.1
    have si := t_so_in (T := T) (tx := tx) (q := t_q T tx pos)
    refine r_al rfl rfl ?_
    refine r_gf rfl b1 rfl rfl ?_
    rw [h12]
    refine r_ic rfl ?_
    refine r_icF rfl (zcF1 (rfl)) ?_
    refine r_al rfl rfl ?_
    refine r_gf rfl b1 rfl rfl ?_
    rw [h10]
    refine r_ic rfl ?_
    by_cases h6 : t_so T tx (t_q T tx pos) = 6
    · have hk0 := sk.mp h6
      refine r_icT rfl (zcT0 (h6)) ?_
      exact hok m D (if_pos hk0) M1 ⟨v1, wd1, hd1, ld1, nw1, hE, h12, hDr⟩ hD
    · have hk0 : ¬ t_kd T tx (t_q T tx pos) = 0 := fun g => h6 (sk.mpr g)
      have er : t_run T tx (f + 1) m D pos = (match t_item T tx m D (t_q T tx pos) with | .inl z => .inl z | .inr x => t_run T tx f (m + 1) x.1 x.2) := if_neg hk0
      obtain ⟨M2, k2, hO⟩ := m_readItem (S := S) (d := d) (m := m) hE hS hDr hD.1 (fun k hk => (hD.2.1 k hk).2.1.2) hoc (by omega)
      refine r_icF rfl (zcF0 ⟨by omega, by omega⟩ ⟨by omega, by omega⟩ (h6)) ?_
      refine r_al rfl rfl ?_
      refine r_il rfl rfl ?_
      refine r_cv1v rfl rfl b1 rfl (by decide) rfl (k2) ?_
      rcases hu9 : t_item T tx m D (t_q T tx pos) with f9 | x
      · rw [hu9] at er hO
        obtain ⟨v2, wd2, hd2, ld2, nw2, E2, hf2, g12⟩ := hO
        obtain ⟨-, ⟨c1, -⟩, -⟩ := id E2
        refine r_jj1 rfl rfl ?_
        refine r_goto rfl ?_
        refine r_al rfl rfl ?_
        refine r_gf rfl c1 rfl rfl ?_
        rw [g12]
        refine r_ic rfl ?_
        refine r_icT rfl (zcT1 ⟨by omega, by omega⟩ ⟨by omega, by omega⟩ (by omega)) ?_
        refine r_al rfl rfl ?_
        refine r_gf rfl c1 rfl rfl ?_
        rw [g12]
        refine r_ic rfl ?_
        refine r_icF rfl (zcF0 ⟨by omega, by omega⟩ ⟨by omega, by omega⟩ (by omega)) ?_
        refine r_ic rfl ?_
        refine r_al rfl rfl ?_
        refine r_gf rfl c1 rfl rfl ?_
        rw [g12]
        refine r_subI rfl ?_
        refine r_reti rfl rfl ?_
        exact hno f9 er M2 ⟨v2, wd2, hd2, ld2, nw2, E2⟩
      · rw [hu9] at er hO
        obtain ⟨v2, wd2, hd2, ld2, nw2, E2, s2, dr2⟩ := hO
        obtain ⟨y1, y2⟩ := t_item_pos hq hu9
        have hp1 := (t_pos (tx := tx) hpos).2.2.1
        have er : t_run T tx (f + 1) m D pos = t_run T tx f (m + 1) x.1 x.2 := er
        rw [er] at hok hno
        refine r_jj1 rfl rfl ?_
        refine r_goto rfl ?_
        exact ih (m + 1) x.1 x.2 M2 (by omega) y1 (by omega) (t_item_wf hq hD h0 hu9) (fun g => by omega) ⟨v2, wd2, hd2, ld2, nw2, E2, s2, dr2⟩ hok hno
theorem Y_I.keep {M M' : ZM} {b : ZB} {v' wd' hd' ld' nw' : Nat → Int32} (h : Y_I M ((T, tx), (W, H, L), b, im, tr)) (hm : m_Y M tr v wd hd ld nw W H L b.1 b.2.1 b.2.2.1 b.2.2.2) (h2 : v 2 = zI (T : Int)) (hi : ∀ i, i < 2 → ∀ c, im i = some c → m_A nw (59 * (2 + i)) c.1 c.2.1 c.2.2.1 c.2.2.2 ∧ c.2.2.1 ≤ 4 ∧ ∀ k, k < c.2.2.1 → p_ok W H c.1 (c.2.2.2 k)) (hE : y_E M M' tr v wd hd ld nw v' wd' hd' ld' nw') : Y_I M' ((T, tx), (W, H, L), b, im, tr) := by
  obtain ⟨h1, v9, wd9, hd9, ld9, nw9, -, -, h4, ⟨g, h5, h5b⟩, ⟨kf, h6, h6b⟩, h7, h8⟩ := h
  obtain ⟨a1, a2, a3, ⟨a4, a5, a6⟩, a7⟩ := hE
  obtain ⟨-, ⟨w1, w2, w3⟩, hb, ⟨x1, x2, x3, x4⟩, hok⟩ := hm
  refine ⟨by rw [a1.1]; exact h1, v', wd', hd', ld', nw', ⟨a2, ⟨a4.trans w1, a5.trans w2, a6.trans w3⟩, hb, ⟨(a7 0 (by omega)).trans x1, (a7 1 (by omega)).trans x2, (a7 2 (by omega)).trans x3, fun k hk => ?_⟩, hok⟩, a3.trans h2, h4, ⟨g, (a1.2 _ (by decide)).trans h5, h5b⟩, ⟨kf, (a1.2 _ (by decide)).trans h6, h6b⟩, fun i hi9 c hc => ?_, h8.ev a1 (fun k g1 g2 => by omega)⟩
  · have hk : k < b.2.2.1 := hk
    obtain ⟨y1, y2, y3⟩ := x4 k hk
    have hl := (hok k hk).2.1.2
    have h4' := hb.2.2.2
    exact ⟨(a7 _ (by omega)).trans y1, (a7 _ (by omega)).trans y2, fun j hj => (a7 _ (by have hj : j < (b.2.2.2 k).2.1 := hj; omega)).trans (y3 j hj)⟩
  · obtain ⟨⟨y1, y2, y3, y4⟩, y5, y6⟩ := hi i hi9 c hc
    refine ⟨⟨(a7 _ (by omega)).trans y1, (a7 _ (by omega)).trans y2, (a7 _ (by omega)).trans y3, fun k hk => ?_⟩, y5, y6⟩
    obtain ⟨z1, z2, z3⟩ := y4 k hk
    exact ⟨(a7 _ (by omega)).trans z1, (a7 _ (by omega)).trans z2, fun j hj => (a7 _ (by omega)).trans (z3 j hj)⟩
set_option maxRecDepth 20000 in
theorem y_yard (hoc : t_oct T tx) : z_Yc S 114 [] ((T, tx), (W, H, L), (hs, lot, n, kc), im, tr) (.int (zI (v_yard T tx))) (a_yard T tx ((T, tx), (W, H, L), (hs, lot, n, kc), im, tr)) := by
  intro d M hY
  obtain ⟨y1, v, wd, hd, ld, nw, h, y3, y4, y5, y6, y7, y8⟩ := id hY
  have h : m_Y M tr v wd hd ld nw W H L hs lot n kc := h
  obtain ⟨⟨h1, h2, h3, h4, h5⟩, ⟨w1, w2, w3⟩, ⟨⟨hW1, hW2⟩, ⟨hH1, hH2⟩, ⟨hL1, hL2⟩, hn⟩, ⟨a1, a2, a3, a4⟩, hok⟩ := id h
  have hC := p_WH hW2 hH2
  refine k_an ?_
  refine k_of rfl rfl (Nat.le_of_ble_eq_true rfl) ?_
  refine r_al rfl rfl ?_
  refine r_ic rfl ?_
  refine r_pf8 rfl h1 rfl rfl rfl (Or.inl rfl) ?_
  refine r_al rfl rfl ?_
  refine r_ic rfl ?_
  refine r_pf12 rfl (z_gs h1) rfl rfl rfl (Or.inl rfl) ?_
  rw [List.set_set]
  refine r_al rfl rfl ?_
  refine r_gf rfl (z_gs h1) rfl rfl ?_
  refine r_ic rfl ?_
  refine r_ic rfl ?_
  refine r_iSI rfl (z_gn (by decide) h2) (by omega) (by omega) (by omega) ?_
  refine r_al rfl rfl ?_
  refine r_gf rfl (z_gn (by decide) (z_gs h1)) rfl rfl ?_
  refine r_ic rfl ?_
  refine r_ic rfl ?_
  refine r_iSI rfl (z_gn (by decide) (z_gn (by decide) h3)) (by omega) (by omega) (by omega) ?_
  refine r_al rfl rfl ?_
  refine r_gf rfl (z_gn (by decide) (z_gn (by decide) (z_gs h1))) rfl rfl ?_
  refine r_ic rfl ?_
  refine r_ic rfl ?_
  refine r_iSI rfl (z_gn (by decide) (z_gn (by decide) (z_gn (by decide) h4))) (by omega) (by omega) (by omega) ?_
  refine r_al rfl rfl ?_
  refine r_gf rfl (z_gn (by decide) (z_gn (by decide) (z_gn (by decide) (z_gs h1)))) rfl rfl ?_
  refine r_ic rfl ?_
  refine r_ic rfl ?_
  refine r_iSI rfl (z_gn (by decide) (z_gn (by decide) (z_gn (by decide) (z_gn (by decide) h5)))) (by omega) (by omega) (by omega) ?_
  refine r_al rfl rfl ?_
  refine r_gf rfl (z_gn (by decide) (z_gn (by decide) (z_gn (by decide) (z_gn (by decide) (z_gs h1))))) rfl rfl ?_
  refine r_ic rfl ?_
  refine r_ic rfl ?_
  refine r_iSI rfl (z_gs (z_gn (by decide) (z_gn (by decide) (z_gn (by decide) (z_gn (by decide) h5))))) (by omega) (by omega) (by omega) ?_
  rw [List.set_set]
  have y3 : v 2 = zI (T : Int) := y3
  have y4 : T ≤ 200 := y4
  obtain ⟨g63, r63, hg63⟩ := id y5
  have hX0 : y_X M T tx := ⟨y4, g63, r63, hg63⟩
  change z_R S _ _ _ _ _ (((((M.set 62 (.inl (6, m_f tr (upd (upd v 8 (zI 0)) 12 (zI (-9)))))).set 64 (zA 2 (upd wd 1 (zI 5)))).set 65 (zA 2 (upd hd 1 (zI 5)))).set 66 (zA 2 (upd ld 1 (zI 1)))).set 67 (zA 236 (upd (upd nw 59 (zI 0)) 60 (zI 0)))) _
  have B1 : m_B (((((M.set 62 (.inl (6, m_f tr (upd (upd v 8 (zI 0)) 12 (zI (-9)))))).set 64 (zA 2 (upd wd 1 (zI 5)))).set 65 (zA 2 (upd hd 1 (zI 5)))).set 66 (zA 2 (upd ld 1 (zI 1)))).set 67 (zA 236 (upd (upd nw 59 (zI 0)) 60 (zI 0)))) tr (upd (upd v 8 (zI 0)) 12 (zI (-9))) (upd wd 1 (zI 5)) (upd hd 1 (zI 5)) (upd ld 1 (zI 1)) (upd (upd nw 59 (zI 0)) 60 (zI 0)) := ⟨z_gn (by decide) (z_gn (by decide) (z_gn (by decide) (z_gn (by decide) (z_gs h1)))), z_gn (by decide) (z_gn (by decide) (z_gn (by decide) (z_gs (z_gn (by decide) h2)))), z_gn (by decide) (z_gn (by decide) (z_gs (z_gn (by decide) (z_gn (by decide) h3)))), z_gn (by decide) (z_gs (z_gn (by decide) (z_gn (by decide) (z_gn (by decide) h4)))), z_gs (z_gn (by decide) (z_gn (by decide) (z_gn (by decide) (z_gn (by decide) h5))))⟩
  have V1 : z_ev M (((((M.set 62 (.inl (6, m_f tr (upd (upd v 8 (zI 0)) 12 (zI (-9)))))).set 64 (zA 2 (upd wd 1 (zI 5)))).set 65 (zA 2 (upd hd 1 (zI 5)))).set 66 (zA 2 (upd ld 1 (zI 1)))).set 67 (zA 236 (upd (upd nw 59 (zI 0)) 60 (zI 0)))) (fun k => k = 62 ∨ (64 ≤ k ∧ k < 68)) := ((((z_ev.set (by omega)).tr (.set (by omega))).tr (.set (by omega))).tr (.set (by omega))).tr (.set (by omega))
  generalize (((((M.set 62 (.inl (6, m_f tr (upd (upd v 8 (zI 0)) 12 (zI (-9)))))).set 64 (zA 2 (upd wd 1 (zI 5)))).set 65 (zA 2 (upd hd 1 (zI 5)))).set 66 (zA 2 (upd ld 1 (zI 1)))).set 67 (zA 236 (upd (upd nw 59 (zI 0)) 60 (zI 0)))) = M1 at *
  obtain ⟨M2, k2, e2, v2, c62, c8, c9, c10, c11, cr⟩ := m_next (S := S) (d := d + 18) B1.1 (hX0.ev V1 (by decide)) ((pk_un (by decide)).trans ((pk_un (by decide)).trans y3)) (pos := 0) ((pk_un (by decide)).trans pk_us) (Nat.zero_le T)
  have E2 : y_E M M2 tr v wd hd ld nw v2 (upd wd 1 (zI 5)) (upd hd 1 (zI 5)) (upd ld 1 (zI 1)) (upd (upd nw 59 (zI 0)) 60 (zI 0)) := ⟨V1.tr (e2.wk (fun k g => Or.inl g)), ⟨c62, (e2.2 _ (by decide)).trans B1.2.1, (e2.2 _ (by decide)).trans B1.2.2.1, (e2.2 _ (by decide)).trans B1.2.2.2.1, (e2.2 _ (by decide)).trans B1.2.2.2.2⟩, (cr 2 (by omega)).trans ((pk_un (by decide)).trans (pk_un (by decide))), ⟨pk_un (by decide), pk_un (by decide), pk_un (by decide)⟩, fun j hj => (pk_un (by omega)).trans (pk_un (by omega))⟩
  have S2 : y_S M2 tr v2 T tx (.inr (t_q T tx 0)) := ⟨c62, hX0.ev E2.1 (by decide), (cr 2 (by omega)).trans ((pk_un (by decide)).trans ((pk_un (by decide)).trans y3)), (t_pos (tx := tx) (Nat.zero_le T)).1, (cr 12 (by omega)).trans pk_us, c8, c9, c10, c11⟩
  have R2 : y_Dr (upd wd 1 (zI 5)) (upd hd 1 (zI 5)) (upd ld 1 (zI 1)) (upd (upd nw 59 (zI 0)) 60 (zI 0)) t_D0 := ⟨⟨pk_us, pk_us, pk_us⟩, (pk_un (by decide)).trans pk_us, pk_us, rfl, fun k hk => absurd hk (Nat.not_lt_zero _)⟩
  refine r_ic rfl ?_
  refine r_is1 rfl rfl ?_
  refine r_al rfl rfl ?_
  refine r_cv0v rfl rfl B1.1 rfl (by decide) rfl (k2) ?_
  refine m_yd_l (d := d + 14) hoc 201 0 t_D0 0 M2 (by omega) (Nat.zero_le T) (Nat.le_refl 0) t_D0_wf (fun _ => ⟨rfl, rfl⟩) ⟨v2, _, _, _, _, E2, S2, R2⟩ (fun m9 D9 hr9 M3 hI3 hw9 => ?_) (fun f9 hr9 M3 hI3 => ?_)
  · obtain ⟨v3, wd3, hd3, ld3, nw3, E3, g12, R3⟩ := hI3
    obtain ⟨a1', ⟨c1, c2, c3, c4, c5⟩, a3', a4', a5'⟩ := id E3
    obtain ⟨⟨q1, q2, q3⟩, dA⟩ := id R3
    obtain ⟨hwb, hwk, hwi⟩ := id hw9
    have hm9 := t_run_le hr9
    have n2 : nw3 2 = lot := (a5' 2 (by omega)).trans a3
    rw [show v_yard T tx = (m9 : Int) by unfold v_yard; rw [hr9], show a_yard T tx ((T, tx), (W, H, L), (hs, lot, n, kc), im, tr) = ((0, tx), D9.1, (D9.2.1, lot, D9.2.2.1, D9.2.2.2), fun _ => none, tr) by unfold a_yard; rw [hr9]]
    obtain ⟨kf, k1, k2'⟩ := id y6
    have d68 := (a1'.2 68 (by decide)).trans k1
    refine r_al rfl rfl ?_
    refine r_gf rfl c1 rfl rfl ?_
    rw [g12]
    refine r_ic rfl ?_
    refine r_icT rfl (zcT0 (rfl)) ?_
    refine r_al rfl rfl ?_
    refine r_gf rfl c1 rfl rfl ?_
    refine r_ic rfl ?_
    refine r_al rfl rfl ?_
    refine r_gf rfl c1 rfl rfl ?_
    refine r_ic rfl ?_
    refine r_iaI rfl (by decide) c2 (by omega) (by omega) (by omega) ?_
    rw [show (1 : Int).toNat = 1 from rfl, q1]
    refine r_iSI rfl c2 (by omega) (by omega) (by omega) ?_
    refine r_al rfl rfl ?_
    refine r_gf rfl (z_gn (by decide) c1) rfl rfl ?_
    refine r_ic rfl ?_
    refine r_al rfl rfl ?_
    refine r_gf rfl (z_gn (by decide) c1) rfl rfl ?_
    refine r_ic rfl ?_
    refine r_iaI rfl (by decide) (z_gn (by decide) c3) (by omega) (by omega) (by omega) ?_
    rw [show (1 : Int).toNat = 1 from rfl, q2]
    refine r_iSI rfl (z_gn (by decide) c3) (by omega) (by omega) (by omega) ?_
    refine r_al rfl rfl ?_
    refine r_gf rfl (z_gn (by decide) (z_gn (by decide) c1)) rfl rfl ?_
    refine r_ic rfl ?_
    refine r_al rfl rfl ?_
    refine r_gf rfl (z_gn (by decide) (z_gn (by decide) c1)) rfl rfl ?_
    refine r_ic rfl ?_
    refine r_iaI rfl (by decide) (z_gn (by decide) (z_gn (by decide) c4)) (by omega) (by omega) (by omega) ?_
    rw [show (1 : Int).toNat = 1 from rfl, q3]
    refine r_iSI rfl (z_gn (by decide) (z_gn (by decide) c4)) (by omega) (by omega) (by omega) ?_
    refine r_al rfl rfl ?_
    refine r_gf rfl (z_gn (by decide) (z_gn (by decide) (z_gn (by decide) c1))) rfl rfl ?_
    refine r_ic rfl ?_
    refine r_al rfl rfl ?_
    refine r_gf rfl (z_gn (by decide) (z_gn (by decide) (z_gn (by decide) c1))) rfl rfl ?_
    refine r_ic rfl ?_
    refine r_iaI rfl (by decide) (z_gn (by decide) (z_gn (by decide) (z_gn (by decide) c5))) (by omega) (by omega) (by omega) ?_
    rw [show (2 : Int).toNat = 2 from rfl, n2]
    refine r_iSI rfl (z_gn (by decide) (z_gn (by decide) (z_gn (by decide) c5))) (by omega) (by omega) (by omega) ?_
    rw [show (0 : Int).toNat = 0 from rfl, show (61 : Int).toNat = 61 from rfl]
    have z62 : ((((M3.set 64 (zA 2 (upd wd3 0 (zI (D9.1.1 : Int))))).set 65 (zA 2 (upd hd3 0 (zI (D9.1.2.1 : Int))))).set 66 (zA 2 (upd ld3 0 (zI (D9.1.2.2 : Int))))).set 67 (zA 236 (upd nw3 61 lot)))[62]? = some (.inl (6, m_f tr v3)) := z_gn (by decide) (z_gn (by decide) (z_gn (by decide) (z_gn (by decide) c1)))
    have z67 : ((((M3.set 64 (zA 2 (upd wd3 0 (zI (D9.1.1 : Int))))).set 65 (zA 2 (upd hd3 0 (zI (D9.1.2.1 : Int))))).set 66 (zA 2 (upd ld3 0 (zI (D9.1.2.2 : Int))))).set 67 (zA 236 (upd nw3 61 lot)))[67]? = some (zA 236 (upd nw3 61 lot)) := z_gs (z_gn (by decide) (z_gn (by decide) (z_gn (by decide) c5)))
    have kcp := m_copy (S := S) (d := d + 19) (a := 59) (b := 0) (by omega) (by omega) (by omega) z62 z67
    rw [List.set_set] at kcp
    have e68 : ((((M3.set 64 (zA 2 (upd wd3 0 (zI (D9.1.1 : Int))))).set 65 (zA 2 (upd hd3 0 (zI (D9.1.2.1 : Int))))).set 66 (zA 2 (upd ld3 0 (zI (D9.1.2.2 : Int))))).set 67 (zA 236 (va_cpy (upd nw3 61 lot) (upd nw3 61 lot) 59 0 59)))[68]? = some (.inr (2, 2, .inl kf)) := z_gn (by decide) (z_gn (by decide) (z_gn (by decide) (z_gn (by decide) d68)))
    have e62 : ((((M3.set 64 (zA 2 (upd wd3 0 (zI (D9.1.1 : Int))))).set 65 (zA 2 (upd hd3 0 (zI (D9.1.2.1 : Int))))).set 66 (zA 2 (upd ld3 0 (zI (D9.1.2.2 : Int))))).set 67 (zA 236 (va_cpy (upd nw3 61 lot) (upd nw3 61 lot) 59 0 59)))[62]? = some (.inl (6, m_f tr v3)) := z_gn (by decide) (z_gn (by decide) (z_gn (by decide) (z_gn (by decide) c1)))
    refine r_al rfl rfl ?_
    refine r_ic rfl ?_
    refine r_ic rfl ?_
    refine r_cv2v rfl rfl z62 rfl (by decide) rfl (kcp) ?_
    refine r_al rfl rfl ?_
    refine r_gf rfl e62 rfl rfl ?_
    refine r_ic rfl ?_
    refine r_ic rfl ?_
    refine r_zSI rfl e68 (by omega) (by omega) (by omega) ?_
    refine r_al rfl rfl ?_
    refine r_gf rfl (z_gn (by decide) e62) rfl rfl ?_
    refine r_ic rfl ?_
    refine r_ic rfl ?_
    refine r_zSI rfl (z_gs e68) (by omega) (by omega) (by omega) ?_
    rw [List.set_set]
    refine r_al rfl rfl ?_
    refine r_ic rfl ?_
    refine r_pf2 rfl (z_gn (by decide) e62) rfl rfl rfl (Or.inl rfl) ?_
    refine r_il rfl rfl ?_
    refine r_reti rfl rfl ?_
    have F' : ∀ x5 x6 : ZE, z_ev M ((((((M3.set 64 (zA 2 (upd wd3 0 (zI (D9.1.1 : Int))))).set 65 (zA 2 (upd hd3 0 (zI (D9.1.2.1 : Int))))).set 66 (zA 2 (upd ld3 0 (zI (D9.1.2.2 : Int))))).set 67 (zA 236 (va_cpy (upd nw3 61 lot) (upd nw3 61 lot) 59 0 59))).set 68 x5).set 62 x6) (fun k => k = 62 ∨ (64 ≤ k ∧ k < 69)) := fun x5 x6 => ((((((a1'.wk (fun k g => by omega)).tr (.set (by omega))).tr (.set (by omega))).tr (.set (by omega))).tr (.set (by omega))).tr (.set (by omega))).tr (.set (by omega))
    have hA3 : m_A (upd nw3 61 lot) 59 D9.2.1 lot D9.2.2.1 D9.2.2.2 := by
      obtain ⟨u1, u2, u3, u4⟩ := dA
      refine ⟨(pk_un (by decide)).trans u1, (pk_un (by decide)).trans u2, pk_us, fun k hk => ⟨(pk_un (by omega)).trans (u4 k hk).1, (pk_un (by omega)).trans (u4 k hk).2.1, fun j hj => (pk_un (by omega)).trans ((u4 k hk).2.2 j hj)⟩⟩
    have hA4 := hA3.cpy (b := 0) hwb.2.2.2 (fun k hk => (hwk k hk).2.1.2)
    refine ⟨rfl, ⟨by rw [(F' _ _).1]; exact y1, upd v3 2 (zI 0), upd wd3 0 (zI (D9.1.1 : Int)), upd hd3 0 (zI (D9.1.2.1 : Int)), upd ld3 0 (zI (D9.1.2.2 : Int)), va_cpy (upd nw3 61 lot) (upd nw3 61 lot) 59 0 59, ⟨⟨z_gs (z_gn (by decide) e62), z_gn (by decide) (z_gn (by decide) (z_gn (by decide) (z_gn (by decide) (z_gn (by decide) (z_gs c2))))), z_gn (by decide) (z_gn (by decide) (z_gn (by decide) (z_gn (by decide) (z_gs (z_gn (by decide) c3))))), z_gn (by decide) (z_gn (by decide) (z_gn (by decide) (z_gs (z_gn (by decide) (z_gn (by decide) c4))))), z_gn (by decide) (z_gn (by decide) (z_gs (z_gn (by decide) (z_gn (by decide) (z_gn (by decide) c5)))))⟩, ⟨pk_us, pk_us, pk_us⟩, hwb, hA4, hwk⟩, pk_us, Nat.zero_le _, ⟨g63, ((F' _ _).2 63 (by decide)).trans r63, fun j hj => absurd hj (Nat.not_lt_zero _)⟩, ⟨_, z_gn (by decide) (z_gs e68), fun i hi => ?_⟩, fun i hi b hb => (by cases hb), y8.ev (F' _ _) (fun k g1 g2 => by omega)⟩, (F' _ _).wk (fun k g => by omega)⟩
    show _ = zI 0
    obtain rfl | rfl : i = 0 ∨ i = 1 := by omega
    · rw [pk_un (by decide)]
      exact (pk_us (k := 0)).trans (by decide)
    · exact (pk_us (k := 1)).trans (by decide)
  · obtain ⟨v3, wd3, hd3, ld3, nw3, E3⟩ := hI3
    rw [show v_yard T tx = -10 - (f9 : Int) by unfold v_yard; rw [hr9], show a_yard T tx ((T, tx), (W, H, L), (hs, lot, n, kc), im, tr) = ((T, tx), (W, H, L), (hs, lot, n, kc), im, tr) by unfold a_yard; rw [hr9]]
    exact ⟨rfl, hY.keep h y3 y7 E3, E3.1.wk (fun k g => by omega)⟩
end TR
