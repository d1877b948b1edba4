/-! YARD: the class's call -/
section RK
variable {S : ZS} {d : Nat} {M : ZM} {T : Nat} {tx : Nat → Int32} {W H L n : Nat} {hs lot : Int32} {kc : Nat → ZK} {im : Nat → Option ZB} {tr : Int64}
theorem c_beginAnew {v : Nat → Int32} (h : k_o M 13 v) : z_C S d 31 [.ref 13] M none (M.set 13 (.inl (2, [.int (zI 5), .int (zI 5), .int (zI 1), .int (zI 0), .int (zI 0), .int (v 5), .ref 14]))) := by
  refine c_of rfl rfl (Nat.le_of_ble_eq_true rfl) ?_
  refine g_al rfl rfl ?_
  refine g_ic rfl ?_
  refine g_pf0 rfl h rfl rfl rfl (Or.inl rfl) ?_
  refine g_al rfl rfl ?_
  refine g_ic rfl ?_
  refine g_pf1 rfl (z_gs h) rfl rfl rfl (Or.inl rfl) ?_
  rw [List.set_set]
  refine g_al rfl rfl ?_
  refine g_ic rfl ?_
  refine g_pf2 rfl (z_gs h) rfl rfl rfl (Or.inl rfl) ?_
  rw [List.set_set]
  refine g_al rfl rfl ?_
  refine g_ic rfl ?_
  refine g_pf3 rfl (z_gs h) rfl rfl rfl (Or.inl rfl) ?_
  rw [List.set_set]
  refine g_al rfl rfl ?_
  refine g_ic rfl ?_
  refine g_pf4 rfl (z_gs h) rfl rfl rfl (Or.inl rfl) ?_
  rw [List.set_set]
  exact g_retv rfl (rfl) rfl
theorem c_begin {m0 q0 k0 e0 : Nat} {i8 : Int32} (h : x_T M T tx m0 q0 k0 e0 i8) {v : Nat → Int32} (hv : k_o M 13 v) {ch : Nat → ZCh} (hR : k_R M 13 ch) {r0 : ZCh} (hr0 : k_c M 23 r0) : ∃ M', z_C S (d + 2) 12 [.ref 11] M none M' ∧ z_ev M M' (fun k => 11 ≤ k ∧ k < 25) ∧ ∃ nm, x_D M' T tx 0 t_D0 (v 5) (t_q T tx 0) (t_kd T tx (t_q T tx 0)) (t_e T tx (t_q T tx 0)) nm := by
  obtain ⟨hT, h11, -⟩ := id h
  refine k_an ?_
  refine k_of rfl rfl (Nat.le_of_ble_eq_true rfl) ?_
  refine r_al rfl rfl ?_
  refine r_gf rfl h11 rfl rfl ?_
  refine r_cv0v rfl rfl hv rfl (by decide) rfl (c_beginAnew hv) ?_
  refine r_al rfl rfl ?_
  refine r_ic rfl ?_
  refine r_pf1 rfl (z_gn (by decide) h11) rfl rfl rfl (Or.inl rfl) ?_
  refine r_al rfl rfl ?_
  refine r_ic rfl ?_
  refine r_pf7 rfl (z_gs (z_gn (by decide) h11)) rfl rfl rfl (Or.inl rfl) ?_
  rw [List.set_set]
  have s0 : z_ev M (M.set 13 (.inl (2, [.int (zI 5), .int (zI 5), .int (zI 1), .int (zI 0), .int (zI 0), .int (v 5), .ref 14]))) (fun k => k = 13) := .set rfl
  have t0 : x_T (M.set 13 (.inl (2, [.int (zI 5), .int (zI 5), .int (zI 1), .int (zI 0), .int (zI 0), .int (v 5), .ref 14]))) T tx m0 q0 k0 e0 i8 := h.ev s0 (by decide) (by decide)
  have t1 := t0.set (m' := 0) (q' := q0) (kd' := k0) (e' := 0) (nm' := i8)
  obtain ⟨M2, k2, e2, t2⟩ := c_nextToken (S := S) (d := d) t1 (Nat.zero_le T)
  have s1 : z_ev (M.set 13 (.inl (2, [.int (zI 5), .int (zI 5), .int (zI 1), .int (zI 0), .int (zI 0), .int (v 5), .ref 14]))) ((M.set 13 (.inl (2, [.int (zI 5), .int (zI 5), .int (zI 1), .int (zI 0), .int (zI 0), .int (v 5), .ref 14]))).set 11 (.inl (1, [.int (zI (T : Int)), .int (zI ((0 : Nat) : Int)), .int (zI (q0 : Int)), .ref 13, .ref 12, .ref 23, .int (zI (k0 : Int)), .int (zI ((0 : Nat) : Int)), .int i8]))) (fun k => k = 11) := .set rfl
  have f2 := s1.tr e2
  refine r_al rfl rfl ?_
  refine r_cv0v rfl rfl (z_gs (z_gn (by decide) h11)) rfl (by decide) rfl (k2) ?_
  refine r_retv rfl rfl ?_
  refine ⟨rfl, (s0.wk (fun k g => by omega)).tr (f2.wk (fun k g => by omega)), i8, t2, ⟨by decide, ⟨(f2.2 13 (by decide)).trans (z_gs hv), by decide, by decide, by decide, by decide⟩, ch, ((hR.upd (by decide) (fun k g1 g2 g3 => by omega)).eqv f2 (fun k g1 g2 => by omega)), fun k hk => absurd hk (Nat.not_lt_zero _)⟩, r0, (hr0.eqv s0 (by decide) (by decide)).eqv f2 (by decide) (by decide)⟩
theorem c_isAtEnd {m q kd e : Nat} {nm : Int32} (h : x_T M T tx m q kd e nm) (hk : kd ≤ 4) : z_C S d 13 [.ref 11] M (some (.int (zI (if kd = 0 then 1 else 0)))) M := by
  obtain ⟨hT, h11, -⟩ := id h
  refine c_of rfl rfl (Nat.le_of_ble_eq_true rfl) ?_
  refine g_al rfl rfl ?_
  refine g_gf rfl h11 rfl rfl ?_
  by_cases h0 : kd = 0
  · rw [if_pos h0]
    refine g_ifF rfl (zcF1 (by omega)) ?_
    refine g_ic rfl ?_
    refine g_goto rfl ?_
    exact g_reti rfl (rfl) rfl
  · rw [if_neg h0]
    refine g_ifT rfl (zcT1 ⟨by omega, by omega⟩ ⟨by omega, by omega⟩ (by omega)) ?_
    refine g_ic rfl ?_
    exact g_reti rfl (rfl) rfl
theorem x_yd_l (hT9 : T ≤ 200) {lo9 : Int32} (h00 : M[0]? = some (k_bt tr)) {Q : Option Value → ZM → Prop} : ∀ (f i : Nat) (D : ZD) (pos : Nat) (M1 : ZM) (x2 : Option Value), i + f = 201 → pos ≤ T → i ≤ pos → (i = 0 → D.2.2.1 = 0) → (z_ev M M1 (fun k => 11 ≤ k ∧ k < 25) ∧ ∃ nm, x_D M1 T tx i D lo9 (t_q T tx pos) (t_kd T tx (t_q T tx pos)) (t_e T tx (t_q T tx pos)) nm) → (∀ (i9 : Nat) (D9 : ZD) (p9 : Nat), t_run T tx f i D pos = .inr (i9, D9) → p9 ≤ T → ∀ (M1 : ZM) (x2 : Option Value), (z_ev M M1 (fun k => 11 ≤ k ∧ k < 25) ∧ ∃ nm, x_D M1 T tx i9 D9 lo9 (t_q T tx p9) (t_kd T tx (t_q T tx p9)) (t_e T tx (t_q T tx p9)) nm) → z_R S (d + 7) 72 53 [some (.ref 0), some (.int (zI (i9 : Int))), x2] [] M1 Q) → (∀ f9 : Nat, t_run T tx f i D pos = .inl f9 → ∀ (M1 : ZM) (i9 : Nat), (z_ev M M1 (fun k => 11 ≤ k ∧ k < 25) ∧ x_F M1 T tx i9 f9) → Q (some (.int (zI (-10 - (f9 : Int))))) M1) → z_R S (d + 7) 72 9 [some (.ref 0), some (.int (zI (i : Int))), x2] [] M1 Q := by
  intro f
  induction f with
  | zero =>
    intro i D pos M1 x2 hi hpos hip hm9 hI hok hno
    omega
  | succ f ih =>
    intro i D pos M1 x2 hi hpos hip hm9 hI hok hno
    obtain ⟨he, nm, hD⟩ := id hI
    have z0 := (he.2 0 (by decide)).trans h00
    obtain ⟨hT, h11, -⟩ := id hD.1
    obtain ⟨p1, p2, p3, p4⟩ := t_pos (tx := tx) hpos
    have kl := t_kd_le (T := T) (tx := tx) (q := t_q T tx pos)
    refine r_il rfl rfl ?_
    refine r_ic rfl ?_
    by_cases hi2 : i < 200
    · refine r_icF rfl (zcF3 ⟨by omega, by omega⟩ ⟨by omega, by omega⟩ (by omega)) ?_
      refine r_al rfl rfl ?_
      refine r_gf rfl z0 rfl rfl ?_
      refine r_cv0 rfl rfl h11 rfl (by decide) rfl (c_isAtEnd hD.1 kl) ?_
      by_cases hk0 : t_kd T tx (t_q T tx pos) = 0
      · rw [if_pos hk0]
        refine r_ifT rfl (zcT1 ⟨by omega, by omega⟩ ⟨by omega, by omega⟩ (by decide)) ?_
        exact hok i D pos (if_pos hk0) (by omega) M1 _ hI
      · rw [if_neg hk0]
        have er : t_run T tx (f + 1) i D pos = (match t_item T tx i D (t_q T tx pos) with | .inl z => .inl z | .inr x => t_run T tx f (i + 1) x.1 x.2) := if_neg hk0
        obtain ⟨r1, M2, k1, e2, u2⟩ := c_readItem (S := S) (d := d) hD p1 hm9 (by omega)
        refine r_ifF rfl (zcF1 (rfl)) ?_
        refine r_al rfl rfl ?_
        refine r_gf rfl z0 rfl rfl ?_
        rcases hu9 : t_item T tx i D (t_q T tx pos) with f9 | x
        · rw [hu9] at er u2
          obtain ⟨rfl, hF⟩ := u2
          obtain ⟨⟨kd1, e1, nm1, t1⟩, -⟩ := id hF
          obtain ⟨-, c11, -⟩ := id t1
          have z2 := ((he.tr e2).2 0 (by decide)).trans h00
          refine r_cv0 rfl rfl h11 rfl (by decide) rfl (k1) ?_
          refine r_ifF rfl (zcF1 (rfl)) ?_
          refine r_ic rfl ?_
          refine r_al rfl rfl ?_
          refine r_gf rfl z2 rfl rfl ?_
          refine r_gf rfl c11 rfl rfl ?_
          refine r_subI rfl ?_
          refine r_reti rfl rfl ?_
          exact hno f9 er M2 i ⟨he.tr e2, hF⟩
        · rw [hu9] at er u2
          obtain ⟨rfl, nm2, D2⟩ := u2
          obtain ⟨y1, y2⟩ := t_item_pos p1 hu9
          refine r_cv0 rfl rfl h11 rfl (by decide) rfl (k1) ?_
          refine r_ifT rfl (zcT1 ⟨by omega, by omega⟩ ⟨by omega, by omega⟩ (by decide)) ?_
          refine r_jj1 rfl rfl ?_
          refine r_goto rfl ?_
          have er : t_run T tx (f + 1) i D pos = t_run T tx f (i + 1) x.1 x.2 := er
          rw [er] at hok hno
          exact ih (i + 1) x.1 x.2 M2 _ (by omega) y1 (by omega) (fun g => by omega) ⟨he.tr e2, nm2, D2⟩ hok hno
    · have hk0 : t_kd T tx (t_q T tx pos) = 0 := if_pos (by omega)
      refine r_icT rfl (zcT3 ⟨by omega, by omega⟩ ⟨by omega, by omega⟩ (by omega)) ?_
      exact hok i D pos (if_pos hk0) (by omega) M1 _ hI
theorem t_run_le {T : Nat} {tx : Nat → Int32} {i9 : Nat} {D9 : ZD} : ∀ {f i : Nat} {D : ZD} {pos : Nat}, t_run T tx f i D pos = .inr (i9, D9) → i9 ≤ i + f := by
  intro f
  induction f with
  | zero =>
    intro i D pos h
    have h : Sum.inr (i, D) = (Sum.inr (i9, D9) : Nat ⊕ (Nat × ZD)) := h
    cases h
    exact Nat.le_refl _
  | succ f ih =>
    intro i D pos h
    have h : (if t_kd T tx (t_q T tx pos) = 0 then .inr (i, D) else match t_item T tx i D (t_q T tx pos) with | .inl z => .inl z | .inr x => t_run T tx f (i + 1) x.1 x.2) = (Sum.inr (i9, D9) : Nat ⊕ (Nat × ZD)) := h
    split at h
    · cases h
      omega
    · split at h
      · cases h
      · have := ih h
        omega
theorem c_beginI (hT : T ≤ 200) {i1 i2 i6 i7 i8 : Int32} (h11 : M[11]? = some (.inl (1, [.int (zI (T : Int)), .int i1, .int i2, .ref 13, .ref 12, .ref 23, .int i6, .int i7, .int i8]))) {g : Nat → Int32} (h12 : M[12]? = some (.inr (1, 200, .inl g))) (hg : ∀ j, j < T → g j = tx j) {v : Nat → Int32} (hv : k_o M 13 v) {ch : Nat → ZCh} (hR : k_R M 13 ch) {r0 : ZCh} (hr0 : k_c M 23 r0) : ∃ M', z_C S (d + 2) 12 [.ref 11] M none M' ∧ z_ev M M' (fun k => 11 ≤ k ∧ k < 25) ∧ ∃ nm, x_D M' T tx 0 t_D0 (v 5) (t_q T tx 0) (t_kd T tx (t_q T tx 0)) (t_e T tx (t_q T tx 0)) nm := by
  obtain ⟨a1, -, rfl⟩ := wb_of32 i1
  obtain ⟨a2, -, rfl⟩ := wb_of32 i2
  obtain ⟨a6, -, rfl⟩ := wb_of32 i6
  obtain ⟨a7, -, rfl⟩ := wb_of32 i7
  exact c_begin (m0 := a1) (q0 := a2) (k0 := a6) (e0 := a7) ⟨hT, h11, g, h12, hg⟩ hv hR hr0
set_option maxRecDepth 20000 in
theorem x_yard : z_Xc S 72 [] ((T, tx), (W, H, L), (hs, lot, n, kc), im, tr) (.int (zI (v_yard T tx))) (a_yard T tx ((T, tx), (W, H, L), (hs, lot, n, kc), im, tr)) := by
  intro d M hX
  obtain ⟨x1, x2, x3, x4, x5, x6, x7, x8⟩ := id hX
  have hA : k_A M 1 W H L hs lot n kc := x3
  obtain ⟨ha, hO, ch, hR, hk9⟩ := id hA
  obtain ⟨o1, ⟨hW1, hW2⟩, ⟨hH1, hH2⟩, ⟨hL1, hL2⟩, hn⟩ := id hO
  have hC := p_WH hW2 hH2
  refine k_an ?_
  refine k_of rfl rfl (Nat.le_of_ble_eq_true rfl) ?_
  obtain ⟨hT9, ⟨i1, i2, i6, i7, i8, r11⟩, ⟨g0, r12, hg0⟩, ⟨v13, hv13⟩, ⟨ch13, hR13⟩, r23, hr23⟩ := id x4
  have hT9 : T ≤ 200 := hT9
  obtain ⟨⟨fim, r40, f0, f1⟩, ⟨kf, r61, hkf⟩, him⟩ := id x8
  have h00 : M[0]? = some (k_bt tr) := x2
  obtain ⟨M1, k1, e1, nm1, D1⟩ := c_beginI (S := S) (d := d + 17) hT9 r11 r12 hg0 hv13 hR13 hr23
  refine r_al rfl rfl ?_
  refine r_gf rfl x2 rfl rfl ?_
  refine r_cv0v rfl rfl r11 rfl (by decide) rfl (k1) ?_
  refine r_ic rfl ?_
  refine r_is1 rfl rfl ?_
  refine x_yd_l (d := d + 13) (lo9 := v13 5) hT9 h00 201 0 t_D0 0 M1 _ (by omega) (Nat.zero_le T) (Nat.le_refl 0) (fun _ => rfl) ⟨e1, nm1, D1⟩ (fun i9 D9 p9 hr9 hp9 M2 x2' hI2 => ?_) (fun f9 hr9 M2 i9 hI2 => ?_)
  · obtain ⟨e2, nm2, D2⟩ := hI2
    obtain ⟨t2, A2, rr2, C2⟩ := id D2
    obtain ⟨-, c11, gt, c12, hgt⟩ := id t2
    obtain ⟨-, O2, ch2, R2, hk2⟩ := id A2
    have hi9 : z_sm (i9 : Int) := by
      have := t_run_le hr9
      omega
    have z2 := (e2.2 0 (by decide)).trans x2
    have A1 := hA.ev e2 (fun k g1 g2 => by omega)
    obtain ⟨M3, k3, e3, A3⟩ := c_copyA (S := S) (d := d + 18) (a := 1) (b := 13) (by omega) (by omega) A2 A1.fo.1 A1.fo.2
    have z3 := (e3.2 0 (by unfold z_sI; omega)).trans z2
    have A4 := A3.cell (n' := D9.2.2.1) (lot' := lot) (Nat.le_refl _)
    rw [show v_yard T tx = (i9 : Int) by unfold v_yard; rw [hr9], show a_yard T tx ((T, tx), (W, H, L), (hs, lot, n, kc), im, tr) = ((0, tx), D9.1, (D9.2.1, lot, D9.2.2.1, D9.2.2.2), fun _ => none, tr) by unfold a_yard; rw [hr9]]
    have e4 : z_ev M3 (M3.set 1 (.inl (2, [.int (zI (D9.1.1 : Int)), .int (zI (D9.1.2.1 : Int)), .int (zI (D9.1.2.2 : Int)), .int D9.2.1, .int (zI (D9.2.2.1 : Int)), .int lot, .ref 2]))) (fun k => k = 1) := .set rfl
    have d11 := (e3.2 11 (by unfold z_sI; omega)).trans c11
    have d61 := (e3.2 61 (by unfold z_sI; omega)).trans ((e2.2 61 (by decide)).trans r61)
    refine r_al rfl rfl ?_
    refine r_gf rfl z2 rfl rfl ?_
    refine r_gf rfl A1.2.1.1 rfl rfl ?_
    refine r_is1 rfl rfl ?_
    refine r_al rfl rfl ?_
    refine r_gf rfl z2 rfl rfl ?_
    refine r_al rfl rfl ?_
    refine r_gf rfl z2 rfl rfl ?_
    refine r_gf rfl c11 rfl rfl ?_
    refine r_cv1v rfl rfl A1.2.1.1 rfl (by decide) rfl (k3) ?_
    refine r_al rfl rfl ?_
    refine r_gf rfl z3 rfl rfl ?_
    refine r_il rfl rfl ?_
    refine r_pf5 rfl A3.2.1.1 rfl rfl rfl (Or.inl rfl) ?_
    refine r_ic rfl ?_
    refine r_is2 rfl rfl ?_
    refine r_il rfl rfl ?_
    refine r_ic rfl ?_
    refine r_icF rfl (zcF3 ⟨by omega, by omega⟩ ⟨by omega, by omega⟩ (by decide)) ?_
    refine r_al rfl rfl ?_
    refine r_gf rfl (z_gn (by decide) z3) rfl rfl ?_
    refine r_il rfl rfl ?_
    refine r_ic rfl ?_
    refine r_zSI rfl (z_gn (by decide) d61) (by omega) (by omega) (by omega) ?_
    refine r_jj2 rfl rfl ?_
    refine r_goto rfl ?_
    refine r_il rfl rfl ?_
    refine r_ic rfl ?_
    refine r_icF rfl (zcF3 ⟨by omega, by omega⟩ ⟨by omega, by omega⟩ (by decide)) ?_
    refine r_al rfl rfl ?_
    refine r_gf rfl (z_gn (by decide) (z_gn (by decide) z3)) rfl rfl ?_
    refine r_il rfl rfl ?_
    refine r_ic rfl ?_
    refine r_zSI rfl (z_gs (z_gn (by decide) d61)) (by omega) (by omega) (by omega) ?_
    rw [List.set_set]
    refine r_jj2 rfl rfl ?_
    refine r_goto rfl ?_
    refine r_il rfl rfl ?_
    refine r_ic rfl ?_
    refine r_icT rfl (zcT3 ⟨by omega, by omega⟩ ⟨by omega, by omega⟩ (by decide)) ?_
    refine r_al rfl rfl ?_
    refine r_gf rfl (z_gn (by decide) (z_gn (by decide) z3)) rfl rfl ?_
    refine r_ic rfl ?_
    refine r_pf0 rfl (z_gn (by decide) (z_gn (by decide) d11)) rfl rfl rfl (Or.inl rfl) ?_
    refine r_al rfl rfl ?_
    refine r_gf rfl (z_gn (by decide) (z_gn (by decide) (z_gn (by decide) z3))) rfl rfl ?_
    refine r_gf rfl (z_gs (z_gn (by decide) (z_gn (by decide) d11))) rfl rfl ?_
    refine r_reti rfl rfl ?_
    have E' : ∀ a b c : ZE, z_ev M3 (((M3.set 1 a).set 61 b).set 11 c) (fun k => k = 1 ∨ k = 61 ∨ k = 11) := fun a b c => ((z_ev.set (P := fun k => k = 1 ∨ k = 61 ∨ k = 11) (Or.inl rfl)).tr (.set (Or.inr (Or.inl rfl)))).tr (.set (Or.inr (Or.inr rfl)))
    have F' : ∀ a b c : ZE, z_ev M (((M3.set 1 a).set 61 b).set 11 c) (fun k => k = 61 ∨ (1 ≤ k ∧ k < 25)) := fun a b c => ((e2.wk (fun k g => by omega)).tr (e3.wk (fun k g => by have := g.1; have := g.2; omega))).tr ((E' a b c).wk (fun k g => by omega))
    refine ⟨rfl, ⟨by rw [(F' _ _ _).1]; exact x1, ((F' _ _ _).2 0 (by decide)).trans x2, ?_, ⟨Nat.zero_le _, ⟨_, _, _, _, _, z_gs (z_gn (by decide) (z_gn (by decide) d11))⟩, ⟨gt, ((E' _ _ _).2 12 (by decide)).trans ((e3.2 12 (by unfold z_sI; omega)).trans c12), fun j hj => absurd hj (Nat.not_lt_zero _)⟩, ?_, ?_, rr2, (C2.eqv e3 (by unfold z_sI; omega) (by unfold z_sI; omega)).eqv (E' _ _ _) (by decide) (by decide)⟩, x5.ev (F' _ _ _) (fun k g1 g2 => by omega), x6.ev (F' _ _ _) (fun k g1 g2 => by omega), ?_, ⟨⟨fim, ((F' _ _ _).2 40 (by decide)).trans r40, f0, f1⟩, ⟨_, z_gn (by decide) (z_gs (z_gn (by decide) d61)), fun i hi => ?_⟩, fun i hi => ?_⟩⟩, (F' _ _ _).wk (fun k g => by omega)⟩
    · exact A4.ev (P := fun k => k = 61 ∨ k = 11) ((z_ev.set (Or.inl rfl)).tr (.set (Or.inr rfl))) (fun k g1 g2 => by omega)
    · exact ⟨_, ((A2.fo.1.choose_spec).ev e3 (by unfold z_sI; omega)).ev (E' _ _ _) (by decide)⟩
    · exact ⟨ch2, (R2.eqv e3 (fun k g1 g2 => by unfold z_sI; omega)).eqv (E' _ _ _) (fun k g1 g2 => by omega)⟩
    · obtain ⟨r38, h38⟩ := x7
      exact ⟨r38, h38.eqv (F' _ _ _) (by decide) (by decide)⟩
    · show _ = zI 0
      obtain rfl | rfl : i = 0 ∨ i = 1 := by omega
      · rw [pk_un (by decide)]
        exact (pk_us (k := 0)).trans (by decide)
      · exact (pk_us (k := 1)).trans (by decide)
    · obtain ⟨⟨w1, w2⟩, ⟨c1, w3⟩, -⟩ := him i hi
      exact ⟨⟨w1, w2.ev (F' _ _ _) (by omega)⟩, ⟨c1, w3.eqv (F' _ _ _) (fun k g1 g2 => by omega)⟩, fun b hb => by cases hb⟩
  · obtain ⟨e2, ⟨kd2, en2, nm2, t2⟩, hv2, hR2, hr2⟩ := hI2
    obtain ⟨-, c11, gt, c12, hgt⟩ := id t2
    rw [show v_yard T tx = -10 - (f9 : Int) by unfold v_yard; rw [hr9], show a_yard T tx ((T, tx), (W, H, L), (hs, lot, n, kc), im, tr) = ((T, tx), (W, H, L), (hs, lot, n, kc), im, tr) by unfold a_yard; rw [hr9]]
    exact ⟨rfl, hX.read e2 ⟨hT9, ⟨_, _, _, _, _, c11⟩, ⟨gt, c12, hgt⟩, hv2, hR2, hr2⟩, e2.wk (fun k g => by omega)⟩
end RK
