/-! STREET: the class's side -/
section SX
variable {S : ZS} {d : Nat} {M : ZM} {T : Nat} {tx : Nat → Int32} {W H L n : Nat} {hs lot : Int32} {kc : Nat → ZK} {im : Nat → Option ZB} {tr : Int64} {c : Nat}
set_option maxRecDepth 20000 in
theorem c_takeF_l {x1 x2 x4 : Int32} {z : Nat} (hz1 : 1 ≤ z) (hz2 : z ≤ 999999999) (hN : s_dl z ≤ 9) : ∀ (m : Nat) (M1 : ZM), m ≤ 9 → (z_ev M M1 (fun k => k = c ∨ k = c + 1) ∧ ∃ g, k_c M1 c (x1, x2, zI ((s_dl z - m : Nat) : Int), x4, g) ∧ (∀ i, i < s_dl z - m → g i = zI (s_st z i) ∧ 0 ≤ s_st z i ∧ s_st z i ≤ 3)) → z_R S (d + 1) 4 23 [some (.ref c), some (.int (zI (z : Int))), some (.int (zI ((z % 10 ^ m : Nat) : Int))), some (.int (zI ((p_un m : Nat) : Int)))] [] M1 (fun r M2 => z_ev M M2 (fun k => k = c ∨ k = c + 1) ∧ ∃ x3 g, k_c M2 c (x1, x2, x3, x4, g) ∧ ((r = some (.int (zI 1)) ∧ x3 = zI (s_dl z : Int) ∧ (∀ i, i < s_dl z → g i = zI (s_st z i) ∧ 0 ≤ s_st z i ∧ s_st z i ≤ 3)) ∨ (r = some (.int (zI 0)) ∧ ∃ i, i < s_dl z ∧ ¬ (0 ≤ s_st z i ∧ s_st z i ≤ 3)))) := by
  intro m
  induction m with
  | zero =>
    intro M1 hm hI
    obtain ⟨he, g, hk, hg⟩ := hI
    rw [show p_un 0 = 0 from rfl]
    refine r_il rfl rfl ?_
    refine r_ifT rfl (zcT5 ⟨by omega, by omega⟩ ⟨by omega, by omega⟩ (by decide)) ?_
    refine r_ic rfl ?_
    refine r_reti rfl rfl ?_
    exact ⟨he, _, g, hk, Or.inl ⟨rfl, rfl, hg⟩⟩
  | succ m ih =>
    intro M1 hm hI
    obtain ⟨he, g, hk, hg⟩ := hI
    have hU1 := s_pow m
    have hU2 : 10 ^ m ≤ 10 ^ 8 := Nat.pow_le_pow_right (by decide) (by omega)
    rw [show (10 : Nat) ^ 8 = 100000000 from rfl] at hU2
    have hmod : z % 10 ^ (m + 1) ≤ z := Nat.mod_le _ _
    have hdl := s_dl_iff (z := z) (j := m) (by omega)
    have hun : p_un (m + 1) = 10 ^ m := rfl
    rw [hun]
    refine r_il rfl rfl ?_
    refine r_ifF rfl (zcF5 ⟨by omega, by omega⟩ ⟨by omega, by omega⟩ (by omega)) ?_
    refine r_il rfl rfl ?_
    refine r_il rfl rfl ?_
    by_cases hz9 : 10 ^ m ≤ z
    · refine r_icF rfl (zcF2 ⟨by omega, by omega⟩ ⟨by omega, by omega⟩ (by omega)) ?_
      refine r_al rfl rfl ?_
      refine r_il rfl rfl ?_
      refine r_il rfl rfl ?_
      refine r_divI rfl (⟨by omega, by omega⟩) (⟨by omega, by omega⟩) ?_
      rw [show ((z % 10 ^ (m + 1) : Nat) : Int) / ((10 ^ m : Nat) : Int) = ((z / 10 ^ m % 10 : Nat) : Int) by rw [← Int.natCast_ediv, s_dig]]
      refine r_ic rfl ?_
      refine r_subI rfl ?_
      have hms : m < s_dl z := hdl.mpr hz9
      rw [← s_st_at hms, show s_dl z - 1 - m = s_dl z - (m + 1) by omega]
      have hdi := s_st_in (z := z) (i := s_dl z - (m + 1))
      obtain ⟨M2, k2, e2, a2, b2⟩ := c_addStep (S := S) (d := d) hk (show s_dl z - (m + 1) ≤ 12 by omega) (t := s_st z (s_dl z - (m + 1))) ⟨by omega, by omega⟩
      refine r_cv1 rfl rfl hk.1 rfl (by decide) rfl (k2) ?_
      by_cases hok9 : (0 ≤ s_st z (s_dl z - (m + 1)) ∧ s_st z (s_dl z - (m + 1)) ≤ 3) ∧ s_dl z - (m + 1) < 12
      · rw [if_pos hok9]
        have k3 := a2 hok9
        refine r_ifT rfl (zcT1 ⟨by omega, by omega⟩ ⟨by omega, by omega⟩ (by decide)) ?_
        refine r_il rfl rfl ?_
        refine r_il rfl rfl ?_
        refine r_remI rfl (⟨by omega, by omega⟩) (⟨by omega, by omega⟩) ?_
        rw [show ((z % 10 ^ (m + 1) : Nat) : Int) % ((10 ^ m : Nat) : Int) = ((z % 10 ^ m : Nat) : Int) by rw [← Int.natCast_emod, s_rem]]
        refine r_is2 rfl rfl ?_
        refine r_il rfl rfl ?_
        refine r_ic rfl ?_
        refine r_divI rfl (⟨by omega, by omega⟩) (⟨by omega, by omega⟩) ?_
        rw [show ((10 ^ m : Nat) : Int) / 10 = ((p_un m : Nat) : Int) by rw [← s_un, hun]; exact (Int.natCast_ediv _ 10).symm]
        refine r_is3 rfl rfl ?_
        refine r_goto rfl ?_
        refine ih M2 (by omega) ⟨he.tr e2, upd g (s_dl z - (m + 1)) (zI (s_st z (s_dl z - (m + 1)))), ?_, fun i hi => ?_⟩
        · rw [show s_dl z - m = s_dl z - (m + 1) + 1 by omega]
          exact k3
        · by_cases e : i = s_dl z - (m + 1)
          · subst e
            exact ⟨pk_us, hok9.1⟩
          · rw [pk_un e]
            exact hg i (by omega)
      · rw [if_neg hok9]
        obtain rfl := b2 hok9
        refine r_ifF rfl (zcF1 (rfl)) ?_
        refine r_ic rfl ?_
        refine r_reti rfl rfl ?_
        exact ⟨he, _, g, hk, Or.inr ⟨rfl, s_dl z - (m + 1), by omega, fun g => hok9 ⟨g, by omega⟩⟩⟩
    · refine r_icT rfl (zcT2 ⟨by omega, by omega⟩ ⟨by omega, by omega⟩ (by omega)) ?_
      refine r_il rfl rfl ?_
      refine r_il rfl rfl ?_
      refine r_remI rfl (⟨by omega, by omega⟩) (⟨by omega, by omega⟩) ?_
      rw [show ((z % 10 ^ (m + 1) : Nat) : Int) % ((10 ^ m : Nat) : Int) = ((z % 10 ^ m : Nat) : Int) by rw [← Int.natCast_emod, s_rem]]
      refine r_is2 rfl rfl ?_
      refine r_il rfl rfl ?_
      refine r_ic rfl ?_
      refine r_divI rfl (⟨by omega, by omega⟩) (⟨by omega, by omega⟩) ?_
      rw [show ((10 ^ m : Nat) : Int) / 10 = ((p_un m : Nat) : Int) by rw [← s_un, hun]; exact (Int.natCast_ediv _ 10).symm]
      refine r_is3 rfl rfl ?_
      refine r_goto rfl ?_
      refine ih M1 (by omega) ⟨he, g, ?_, fun i hi => by omega⟩
      rw [show s_dl z - m = s_dl z - (m + 1) by omega]
      exact hk
theorem c_takeF {x1 x2 x3 x4 : Int32} {g0 : Nat → Int32} (h : k_c M c (x1, x2, x3, x4, g0)) {z : Int} (hz : z_sm z) : ∃ r M', z_C S (d + 1) 4 [.ref c, .int (zI z)] M r M' ∧ z_ev M M' (fun k => k = c ∨ k = c + 1) ∧ ∃ x3 g, k_c M' c (x1, x2, x3, x4, g) ∧ ((r = some (.int (zI 1)) ∧ (1 ≤ z ∧ z ≤ 999999999) ∧ x3 = zI (s_dl z.toNat : Int) ∧ (∀ i, i < s_dl z.toNat → g i = zI (s_st z.toNat i) ∧ 0 ≤ s_st z.toNat i ∧ s_st z.toNat i ≤ 3)) ∨ (r = some (.int (zI 0)) ∧ ¬ ((1 ≤ z ∧ z ≤ 999999999) ∧ ∀ i, i < s_dl z.toNat → 0 ≤ s_st z.toNat i ∧ s_st z.toNat i ≤ 3))) := by
  obtain ⟨h1, h2⟩ := h
  have h1 : M[c]? = some (.inl (0, [.int x1, .int x2, .int x3, .int x4, .ref (c + 1)])) := h1
  have h2 : M[c + 1]? = some (.inr (0, 12, .inl g0)) := h2
  refine k_of rfl rfl (Nat.le_of_ble_eq_true rfl) ?_
  refine r_al rfl rfl ?_
  refine r_ic rfl ?_
  refine r_pf2 rfl h1 rfl rfl rfl (Or.inl rfl) ?_
  refine r_il rfl rfl ?_
  refine r_ic rfl ?_
  by_cases h9 : z < 1
  · refine r_icT rfl (zcT2 ⟨by omega, by omega⟩ ⟨by omega, by omega⟩ (h9)) ?_
    refine r_ic rfl ?_
    refine r_reti rfl rfl ?_
    exact ⟨(z_ev.set (Or.inl rfl)), zI 0, g0, ⟨z_gs h1, z_gn (by omega) h2⟩, Or.inr ⟨rfl, fun g => by omega⟩⟩
  · refine r_icF rfl (zcF2 ⟨by omega, by omega⟩ ⟨by omega, by omega⟩ (h9)) ?_
    refine r_il rfl rfl ?_
    refine r_ic rfl ?_
    by_cases h8 : z ≤ 999999999
    · refine r_icT rfl (zcT5 ⟨by omega, by omega⟩ ⟨by omega, by omega⟩ (by omega)) ?_
      refine r_il rfl rfl ?_
      refine r_is2 rfl rfl ?_
      refine r_ic rfl ?_
      refine r_is3 rfl rfl ?_
      obtain ⟨q, rfl⟩ : ∃ q : Nat, z = (q : Int) := ⟨z.toNat, by omega⟩
      rw [Int.toNat_natCast]
      have hN : s_dl q ≤ 9 := s_dl_9.mpr (by omega)
      have em : q % 10 ^ 9 = q := Nat.mod_eq_of_lt (by rw [show (10 : Nat) ^ 9 = 1000000000 from rfl]; omega)
      have e0 : z_ev M (M.set c (.inl (0, [.int x1, .int x2, .int (zI 0), .int x4, .ref (c + 1)]))) (fun k => k = c ∨ k = c + 1) := z_ev.set (Or.inl rfl)
      have t := c_takeF_l (S := S) (d := d) (c := c) (M := M.set c (.inl (0, [.int x1, .int x2, .int (zI 0), .int x4, .ref (c + 1)]))) (x1 := x1) (x2 := x2) (x4 := x4) (z := q) (by omega) (by omega) hN 9 _ (Nat.le_refl 9) ⟨.rf, g0, by rw [show s_dl q - 9 = 0 by omega]; exact ⟨z_gs h1, z_gn (by omega) h2⟩, fun i hi => by omega⟩
      rw [em] at t
      refine r_of t (fun r M2 hq => ?_)
      obtain ⟨e2, x3, g, k3, k4⟩ := hq
      refine ⟨e0.tr e2, x3, g, k3, ?_⟩
      rcases k4 with ⟨rfl, h5, h6⟩ | ⟨rfl, i, h5, h6⟩
      · exact Or.inl ⟨rfl, ⟨by omega, by omega⟩, h5, h6⟩
      · exact Or.inr ⟨rfl, fun g => h6 (g.2 i h5)⟩
    · refine r_icF rfl (zcF5 ⟨by omega, by omega⟩ ⟨by omega, by omega⟩ (by omega)) ?_
      refine r_ic rfl ?_
      refine r_reti rfl rfl ?_
      exact ⟨(z_ev.set (Or.inl rfl)), zI 0, g0, ⟨z_gs h1, z_gn (by omega) h2⟩, Or.inr ⟨rfl, fun g => by omega⟩⟩
theorem X_I.trial {M M' : ZM} {T : Nat} {tx : Nat → Int32} {W H L : Nat} {b : ZB} {im : Nat → Option ZB} {tr : Int64} (e : z_ev M M' (fun k => k = 38 ∨ k = 39)) (h : X_I M ((T, tx), (W, H, L), b, im, tr)) (hr : ∃ r, k_c M' 38 r) : X_I M' ((T, tx), (W, H, L), b, im, tr) := by
  obtain ⟨h1, h2, h3, h4, h5, h6, h7, h8⟩ := h
  exact ⟨by rw [e.1]; exact h1, (e.2 _ (by omega)).trans h2, h3.ev e (fun k g1 g2 => by omega), h4.ev e (fun k g1 g2 => by omega), h5.ev e (fun k g1 g2 => by omega), h6.ev e (fun k g1 g2 => by omega), hr, h8.ev e (fun k g1 g2 => by omega)⟩
set_option maxRecDepth 20000 in
theorem x_street {c z : Int} (hc : z_sm c) (hz : z_sm z) : z_Xc S 87 [.int (zI c), .int (zI z)] ((T, tx), (W, H, L), (hs, lot, n, kc), im, tr) (.int (zI (v_street W H L hs n kc c z))) ((T, tx), (W, H, L), t_street W H L hs lot n kc c z, im, tr) := by
  intro d M hX
  obtain ⟨x1, x2, x3, x4, x5, x6, x7, x8⟩ := id hX
  have hA : k_A M 1 W H L hs lot n kc := x3
  obtain ⟨ha, hO, ch, hR, hk9⟩ := id hA
  obtain ⟨o1, ⟨hW1, hW2⟩, ⟨hH1, hH2⟩, ⟨hL1, hL2⟩, hn⟩ := id hO
  have hC := p_WH hW2 hH2
  unfold v_street t_street
  refine k_an ?_
  refine k_of rfl rfl (Nat.le_of_ble_eq_true rfl) ?_
  refine r_al rfl rfl ?_
  refine r_gf rfl x2 rfl rfl ?_
  refine r_il rfl rfl ?_
  refine r_cv1 rfl rfl o1 rfl (by decide) rfl (c_isFree hO hc) ?_
  by_cases h1 : 0 ≤ c ∧ c < ((W * H : Nat) : Int) ∧ ¬ bt hs c.toNat = true
  · rw [if_pos h1]
    obtain ⟨⟨x1', x2', x3', x4', g0⟩, x7⟩ := x7
    obtain ⟨rr, M1, k1, e1, y3, g1, kc1, k4⟩ := c_takeF (S := S) (d := d + 18) x7 hz
    have hX1 := hX.trial e1 ⟨_, kc1⟩
    have hX1' := id hX1
    obtain ⟨z1, z2, z3, -⟩ := hX1'
    have hA1 : k_A M1 1 W H L hs lot n kc := z3
    obtain ⟨-, hO1, ch1, hR1, hk91⟩ := id hA1
    have e19 : z_ev M M1 (fun k => k < 62) := e1.wk (fun k g => by omega)
    refine r_ifF rfl (zcF0 ⟨by omega, by omega⟩ ⟨by omega, by omega⟩ (by decide)) ?_
    refine r_al rfl rfl ?_
    refine r_gf rfl x2 rfl rfl ?_
    refine r_il rfl rfl ?_
    rcases k4 with ⟨rfl, hz2, rfl, hg1⟩ | ⟨rfl, hno⟩
    · refine r_cv1 rfl rfl x7.1 rfl (by decide) rfl (k1) ?_
      obtain ⟨q, rfl⟩ : ∃ q : Nat, c = (q : Int) := ⟨c.toNat, by omega⟩
      obtain ⟨z', rfl⟩ : ∃ q : Nat, z = (q : Int) := ⟨z.toNat, by omega⟩
      have hf9 : p_fr2 W H hs (q : Int) := h1
      have hS : p_isS W H hs (q : Int) (z' : Int) ↔ (p_pos W H hs q (s_st z') (s_dl z')).isSome = true := by
        unfold p_isS
        rw [Int.toNat_natCast, Int.toNat_natCast]
        exact ⟨fun g => g.2.2, fun g => ⟨hf9, hz2, g⟩⟩
      rw [Int.toNat_natCast] at h1 hg1 kc1
      rw [show k_str (q : Int) (z' : Int) = (q, s_dl z', s_st z') by unfold k_str; rw [Int.toNat_natCast, Int.toNat_natCast]]
      have hN9 : s_dl z' ≤ 9 := s_dl_9.mpr (by omega)
      have hN1 : 1 ≤ s_dl z' := s_dl_1 (by omega)
      have kk := kc1.1
      have kk2 := kc1.2
      generalize hN : s_dl z' = N at *
      generalize hs9 : s_st z' = s at *
      refine r_ifT rfl (zcT1 ⟨by omega, by omega⟩ ⟨by omega, by omega⟩ (by decide)) ?_
      refine r_al rfl rfl ?_
      refine r_gf rfl z2 rfl rfl ?_
      refine r_il rfl rfl ?_
      refine r_pf0 rfl kk rfl rfl rfl (Or.inl rfl) ?_
      have e2 : z_ev M1 (M1.set 38 (.inl (0, [.int (zI (q : Int)), .int x2', .int (zI (N : Int)), .int x4', .ref 39]))) (fun k => k = 38 ∨ k = 39) := .set (Or.inl rfl)
      obtain ⟨la, rfl, -⟩ := zI_of x2'
      have hkC : k_C (M1.set 38 (.inl (0, [.int (zI (q : Int)), .int (zI la), .int (zI (N : Int)), .int x4', .ref 39]))) 38 39 (q : Int) la N x4' g1 s := ⟨z_gs kk, z_gn (by decide) kk2, by omega, by decide, hg1⟩
      have hX2 := hX1.trial e2 ⟨(zI (q : Int), zI la, zI (N : Int), x4', g1), z_gs kk, z_gn (by decide) kk2⟩
      obtain ⟨-, z4, z5, -⟩ := id hX2
      have hA2 : k_A _ 1 W H L hs lot n kc := z5
      have hO2 := hA2.2.1
      have hw := c_walkOver (S := S) (d := d + 16) hO2 (f := q) (by omega) h1.2.2 hkC
      refine r_al rfl rfl ?_
      refine r_gf rfl z4 rfl rfl ?_
      refine r_al rfl rfl ?_
      refine r_gf rfl z4 rfl rfl ?_
      by_cases hp9 : (p_pos W H hs q s N).isSome = true
      · rw [if_pos hp9] at hw
        obtain ⟨hok0, hpl, hmk⟩ := p_pos_ok (by omega) h1.2.2 hN1 (by omega) hp9
        have l1 := k_last_lt hok0
        have ew : w_walk (M1.set 38 (.inl (0, [.int (zI (q : Int)), .int (zI la), .int (zI (N : Int)), .int x4', .ref 39]))) W H hs 38 39 q N s = M1.set 38 (.inl (0, [.int (zI (q : Int)), .int (zI (k_last W H (q, N, s) : Int)), .int (zI (N : Int)), .int (q_msk W H q s N), .ref 39])) := by
          unfold w_walk
          rw [hpl, hmk]
          exact List.set_set ..
        rw [ew] at hw
        have hcnd := hS.mpr hp9
        have e3 : z_ev M1 (M1.set 38 (.inl (0, [.int (zI (q : Int)), .int (zI (k_last W H (q, N, s) : Int)), .int (zI (N : Int)), .int (q_msk W H q s N), .ref 39]))) (fun k => k = 38 ∨ k = 39) := .set (Or.inl rfl)
        have hkC3 : k_C (M1.set 38 (.inl (0, [.int (zI (q : Int)), .int (zI (k_last W H (q, N, s) : Int)), .int (zI (N : Int)), .int (q_msk W H q s N), .ref 39]))) 38 39 (q : Int) (k_last W H (q, N, s) : Int) N (q_msk W H q s N) g1 s := ⟨z_gs kk, z_gn (by decide) kk2, by omega, by decide, hg1⟩
        have hr3 : k_c (M1.set 38 (.inl (0, [.int (zI (q : Int)), .int (zI (k_last W H (q, N, s) : Int)), .int (zI (N : Int)), .int (q_msk W H q s N), .ref 39]))) 38 (zI (q : Int), zI (k_last W H (q, N, s) : Int), zI (N : Int), q_msk W H q s N, g1) := ⟨z_gs kk, z_gn (by decide) kk2⟩
        have hX3 := hX1.trial e3 ⟨_, hr3⟩
        have e39 := e19.tr (e3.wk (Q := fun k => k < 62) (fun k g => by omega))
        obtain ⟨-, z6, z7, -⟩ := id hX3
        have hA3 : k_A _ 1 W H L hs lot n kc := z7
        have hO3 := hA3.2.1
        have hrng : z_sm (p_str s L N) := by
          have := p_strF_in s L N N 0
          unfold p_str
          omega
        rw [if_pos hcnd]
        refine r_cv1 rfl rfl hO2.1 rfl (by decide) rfl (hw) ?_
        refine r_ifT rfl (zcT1 ⟨by omega, by omega⟩ ⟨by omega, by omega⟩ (by decide)) ?_
        refine r_al rfl rfl ?_
        refine r_gf rfl z6 rfl rfl ?_
        refine r_al rfl rfl ?_
        refine r_gf rfl z6 rfl rfl ?_
        refine r_gf rfl hO3.1 rfl rfl ?_
        refine r_cv1 rfl rfl hkC3.1 rfl (by decide) rfl (c_straightAt hkC3 (lim := L) (by omega)) ?_
        refine r_ic rfl ?_
        by_cases hst : p_str s L N = -9
        · refine r_icF rfl (zcF1 (hst)) ?_
          refine r_al rfl rfl ?_
          refine r_gf rfl z6 rfl rfl ?_
          refine r_al rfl rfl ?_
          refine r_gf rfl z6 rfl rfl ?_
          refine r_cv1 rfl rfl hO3.1 rfl (by decide) rfl (c_joinsAny hA3 hkC3 hN1 (by omega) l1) ?_
          by_cases hnj : p_nj W H L kc (q, N, s) n = true
          · rw [if_pos hnj, if_pos (show p_bnt W H L n kc (q, N, s) from ⟨hst, hnj⟩)]
            refine r_ifT rfl (zcT0 (rfl)) ?_
            refine r_al rfl rfl ?_
            refine r_gf rfl z6 rfl rfl ?_
            refine r_al rfl rfl ?_
            refine r_gf rfl z6 rfl rfl ?_
            by_cases hn4 : n = 4
            · subst hn4
              rw [if_pos rfl, if_neg (fun g => g.2.2 rfl)]
              refine r_cv1 rfl rfl hO3.1 rfl (by decide) rfl (c_addChain4 hA3) ?_
              refine r_ifT rfl (zcT0 (rfl)) ?_
              refine r_ic rfl ?_
              refine r_reti rfl rfl ?_
              exact ⟨rfl, hX3, e39⟩
            · rw [if_neg hn4, if_pos ⟨hcnd, ⟨hst, hnj⟩, hn4⟩]
              obtain ⟨M4, k4, e4, hA4⟩ := c_addChain (S := S) (d := d + 18) hA3 hr3 (k0 := (q, N, s)) ⟨rfl, rfl, rfl, rfl, fun j hj => (hg1 j hj).1⟩ hok0 (by omega) (by omega)
              refine r_cv1 rfl rfl hO3.1 rfl (by decide) rfl (k4) ?_
              refine r_ifF rfl (zcF0 ⟨by omega, by omega⟩ ⟨by omega, by omega⟩ (by decide)) ?_
              refine r_al rfl rfl ?_
              refine r_gf rfl ((e4.2 0 (by unfold z_sI; omega)).trans z6) rfl rfl ?_
              refine r_gf rfl hA4.2.1.1 rfl rfl ?_
              refine r_goto rfl ?_
              refine r_reti rfl rfl ?_
              exact ⟨rfl, hX3.site (b' := (hs, lot, n + 1, fun k => if k = n then (q, N, s) else kc k)) (e4.wk (fun k g => ⟨g.1, g.2⟩)) hA4, e39.tr (e4.wk (fun k g => by have := g.2; omega))⟩
          · rw [if_neg hnj, if_neg (fun g => hnj g.2), if_neg (fun g => hnj g.2.1.2)]
            refine r_ifF rfl (zcF0 ⟨by omega, by omega⟩ ⟨by omega, by omega⟩ (by decide)) ?_
            refine r_ic rfl ?_
            refine r_reti rfl rfl ?_
            exact ⟨rfl, hX3, e39⟩
        · rw [if_neg (fun g => hst g.1), if_neg (fun g => hst g.2.1.1)]
          refine r_icT rfl (zcT1 hrng ⟨by omega, by omega⟩ (hst)) ?_
          refine r_ic rfl ?_
          refine r_reti rfl rfl ?_
          exact ⟨rfl, hX3, e39⟩
      · rw [if_neg hp9] at hw
        have ew : w_walk (M1.set 38 (.inl (0, [.int (zI (q : Int)), .int (zI la), .int (zI (N : Int)), .int x4', .ref 39]))) W H hs 38 39 q N s = M1.set 38 (.inl (0, [.int (zI (q : Int)), .int (zI la), .int (zI (N : Int)), .int x4', .ref 39])) := by
          unfold w_walk
          cases e : p_pos W H hs q s N with
          | none => rfl
          | some t => rw [e] at hp9; exact absurd rfl hp9
        rw [ew] at hw
        rw [if_neg (fun g => hp9 (hS.mp g)), if_neg (fun g => hp9 (hS.mp g.1))]
        refine r_cv1 rfl rfl hO2.1 rfl (by decide) rfl (hw) ?_
        refine r_ifF rfl (zcF1 (rfl)) ?_
        refine r_ic rfl ?_
        refine r_reti rfl rfl ?_
        exact ⟨rfl, hX2, e19.tr (e2.wk (fun k g => by omega))⟩
    · refine r_cv1 rfl rfl x7.1 rfl (by decide) rfl (k1) ?_
      have hS : ¬ p_isS W H hs c z := fun g => hno ⟨g.2.1, p_pos_dir g.2.2⟩
      rw [if_neg hS, if_neg (fun g => hS g.1)]
      refine r_ifF rfl (zcF1 (rfl)) ?_
      refine r_ic rfl ?_
      refine r_reti rfl rfl ?_
      exact ⟨rfl, hX1, e19⟩
  · rw [if_neg h1, if_neg (fun g => h1 g.1), if_neg (fun g => h1 g.1.1)]
    refine r_ifT rfl (zcT0 (rfl)) ?_
    refine r_ic rfl ?_
    refine r_reti rfl rfl ?_
    exact ⟨rfl, hX, .rf⟩
end SX
