/-! images -/
theorem c_copyA {S : ZS} {d : Nat} {M : ZM} {a b W H L n : Nat} {hs lot : Int32} {kc : Nat → ZK} (hab : a + 10 ≤ b ∨ b + 10 ≤ a) (ha : a ≤ 60) (hA : k_A M b W H L hs lot n kc) (h1 : ∃ v, k_o M a v) (hR : ∃ ch, k_R M a ch) : ∃ M', z_C S (d + 1) 32 [.ref a, .ref b] M none M' ∧ z_ev M M' (z_sI a) ∧ k_A M' a W H L hs lot n kc := by
  obtain ⟨v, h1⟩ := h1
  obtain ⟨ch, hR⟩ := hR
  obtain ⟨g1, ⟨o1, o2, o3, o4, o5⟩, ch2, g3, g4⟩ := hA
  obtain ⟨M', e1, e2, e3, ch3, e4, e5⟩ := c_copyS (S := S) (d := d) (v2 := fun k => match k with | 0 => zI (W : Int) | 1 => zI (H : Int) | 2 => zI (L : Int) | 3 => hs | 4 => zI (n : Int) | _ => lot) hab h1 hR o1 g3
  exact ⟨M', e1, e2, ha, ⟨e3, o2, o3, o4, o5⟩, ch3, e4, fun k hk => ⟨(g4 k hk).1, (g4 k hk).2.alk (e5 k (by omega)) (g4 k hk).1.2.1.2⟩⟩
theorem m_A.cpy {nw : Nat → Int32} {a b n : Nat} {hs lot : Int32} {kc : Nat → ZK} (h : m_A nw a hs lot n kc) (hn : n ≤ 4) (hk : ∀ k, k < n → (kc k).2.1 ≤ 12) : m_A (va_cpy nw nw a b 59) b hs lot n kc := by
  obtain ⟨h1, h2, h3, h4⟩ := h
  have q : ∀ j, j < 59 → va_cpy nw nw a b 59 (b + j) = nw (a + j) := fun j hj => by
    rw [pk_cpy_in (by omega) (by omega), show a + (b + j - b) = a + j by omega]
  refine ⟨(q 0 (by omega)).trans h1, (q 1 (by omega)).trans h2, (q 2 (by omega)).trans h3, fun k hk2 => ⟨?_, ?_, fun j hj => ?_⟩⟩
  · rw [show b + 3 + k = b + (3 + k) by omega, q _ (by omega), show a + (3 + k) = a + 3 + k by omega]
    exact (h4 k hk2).1
  · rw [show b + 7 + k = b + (7 + k) by omega, q _ (by omega), show a + (7 + k) = a + 7 + k by omega]
    exact (h4 k hk2).2.1
  · have := hk k hk2
    rw [show b + 11 + 12 * k + j = b + (11 + 12 * k + j) by omega, q _ (by omega), show a + (11 + 12 * k + j) = a + 11 + 12 * k + j by omega]
    exact (h4 k hk2).2.2 j hj
theorem m_A.off {nw : Nat → Int32} {a b c n : Nat} {hs lot : Int32} {kc : Nat → ZK} (h : m_A nw c hs lot n kc) (hn : n ≤ 4) (hk : ∀ k, k < n → (kc k).2.1 ≤ 12) (hc : c + 59 ≤ b ∨ b + 59 ≤ c) : m_A (va_cpy nw nw a b 59) c hs lot n kc := by
  obtain ⟨h1, h2, h3, h4⟩ := h
  have q : ∀ j, j < 59 → va_cpy nw nw a b 59 (c + j) = nw (c + j) := fun j hj => pk_cpy_out (by omega)
  refine ⟨(q 0 (by omega)).trans h1, (q 1 (by omega)).trans h2, (q 2 (by omega)).trans h3, fun k hk2 => ⟨?_, ?_, fun j hj => ?_⟩⟩
  · rw [show c + 3 + k = c + (3 + k) by omega, q _ (by omega), show c + (3 + k) = c + 3 + k by omega]
    exact (h4 k hk2).1
  · rw [show c + 7 + k = c + (7 + k) by omega, q _ (by omega), show c + (7 + k) = c + 7 + k by omega]
    exact (h4 k hk2).2.1
  · have := hk k hk2
    rw [show c + 11 + 12 * k + j = c + (11 + 12 * k + j) by omega, q _ (by omega), show c + (11 + 12 * k + j) = c + 11 + 12 * k + j by omega]
    exact (h4 k hk2).2.2 j hj
section PI
variable {S : ZS} {d : Nat} {M : ZM} {T : Nat} {tx : Nat → Int32} {W H L n : Nat} {hs lot : Int32} {kc : Nat → ZK} {im : Nat → Option ZB} {tr : Int64}
theorem m_copy_l {v nw : Nat → Int32} {a b : Nat} (hab : a + 59 ≤ b ∨ b + 59 ≤ a) (ha : a ≤ 177) (hb : b ≤ 177) (h1 : M[62]? = some (.inl (6, m_f tr v))) (h5 : M[67]? = some (.inr (0, 236, .inl nw))) : ∀ (m i : Nat), i + m = 59 → z_G S d 115 2 [some (.ref 62), some (.int (zI (a : Int))), some (.int (zI (b : Int))), some (.int (zI (i : Int)))] [] (M.set 67 (.inr (0, 236, .inl (va_cpy nw nw a b i)))) none (M.set 67 (.inr (0, 236, .inl (va_cpy nw nw a b 59)))) := by
  intro m
  induction m with
  | zero =>
    intro i hi
    have g1 := z_gn (e := .inr (0, 236, .inl (va_cpy nw nw a b i))) (show 67 ≠ 62 by decide) h1
    have g2 := z_gs (e := .inr (0, 236, .inl (va_cpy nw nw a b i))) h5
    refine g_il rfl rfl ?_
    refine g_ic rfl ?_
    refine g_icT rfl (zcT3 ⟨by omega, by omega⟩ ⟨by omega, by omega⟩ (by omega)) ?_
    rw [show i = 59 by omega]
    exact g_retv rfl (rfl) rfl
  | succ m ih =>
    intro i hi
    have g1 := z_gn (e := .inr (0, 236, .inl (va_cpy nw nw a b i))) (show 67 ≠ 62 by decide) h1
    have g2 := z_gs (e := .inr (0, 236, .inl (va_cpy nw nw a b i))) h5
    refine g_il rfl rfl ?_
    refine g_ic rfl ?_
    refine g_icF rfl (zcF3 ⟨by omega, by omega⟩ ⟨by omega, by omega⟩ (by omega)) ?_
    refine g_al rfl rfl ?_
    refine g_gf rfl g1 rfl rfl ?_
    refine g_il rfl rfl ?_
    refine g_il rfl rfl ?_
    refine g_addI rfl ?_
    refine g_al rfl rfl ?_
    refine g_gf rfl g1 rfl rfl ?_
    refine g_il rfl rfl ?_
    refine g_il rfl rfl ?_
    refine g_addI rfl ?_
    refine g_iaI rfl (by decide) g2 (by omega) (by omega) (by omega) ?_
    refine g_iSI rfl g2 (by omega) (by omega) (by omega) ?_
    rw [List.set_set]
    refine g_jj3 rfl rfl ?_
    refine g_goto rfl ?_
    have e1 : upd (va_cpy nw nw a b i) ((b : Int) + (i : Int)).toNat (va_cpy nw nw a b i ((a : Int) + (i : Int)).toNat) = va_cpy nw nw a b (i + 1) := by
      rw [show ((b : Int) + (i : Int)).toNat = b + i by omega, show ((a : Int) + (i : Int)).toNat = a + i by omega, pk_cpy_out (j := a + i) (by omega)]
      funext j
      by_cases hj : j = b + i
      · subst hj
        rw [pk_us, pk_cpy_in (by omega) (by omega), show a + (b + i - b) = a + i by omega]
      · rw [pk_un hj]
        unfold va_cpy
        by_cases h9 : b ≤ j ∧ j < b + i
        · rw [if_pos h9, if_pos (by omega)]
        · rw [if_neg h9, if_neg (by omega)]
    rw [e1]
    exact ih (i + 1) (by omega)
theorem z_same {M : ZM} {a : Nat} {x : ZE} (h : M[a]? = some x) : M.set a x = M := by
  apply List.ext_getElem?
  intro i
  by_cases e : a = i
  · subst e
    rw [z_gs h, h]
  · exact z_gn e rfl
theorem m_copy {v nw : Nat → Int32} {a b : Nat} (hab : a + 59 ≤ b ∨ b + 59 ≤ a) (ha : a ≤ 177) (hb : b ≤ 177) (h1 : M[62]? = some (.inl (6, m_f tr v))) (h5 : M[67]? = some (.inr (0, 236, .inl nw))) : z_C S d 115 [.ref 62, .int (zI (a : Int)), .int (zI (b : Int))] M none (M.set 67 (.inr (0, 236, .inl (va_cpy nw nw a b 59)))) := by
  refine c_of rfl rfl (Nat.le_of_ble_eq_true rfl) ?_
  refine g_ic rfl ?_
  refine g_is3 rfl rfl ?_
  have e1 := m_copy_l (S := S) (d := d) hab ha hb h1 h5 59 0 (by omega)
  rw [show M.set 67 (.inr (0, 236, .inl (va_cpy nw nw a b 0))) = M by
    rw [show va_cpy nw nw a b 0 = nw by funext j; exact pk_cpy_out (by omega)]
    exact z_same h5] at e1
  exact e1
def v_keep (n : Nat) (i : Int) : Int := if 0 ≤ i ∧ i ≤ 1 then (n : Int) else -1
def t_keep (im : Nat → Option ZB) (b : ZB) (i : Int) : Nat → Option ZB := if 0 ≤ i ∧ i ≤ 1 then (fun j => if j = i.toNat then some b else im j) else im
def v_back (im : Nat → Option ZB) (i : Int) : Int := if 0 ≤ i ∧ i ≤ 1 then (match im i.toNat with | some b => (b.2.2.1 : Int) | none => -2) else -1
def t_back (im : Nat → Option ZB) (b : ZB) (i : Int) : ZB := if 0 ≤ i ∧ i ≤ 1 then (match im i.toNat with | some b => b | none => b) else b
theorem x_keep {i : Int} (hi : z_sm i) : z_Xc S 90 [.int (zI i)] ((T, tx), (W, H, L), (hs, lot, n, kc), im, tr) (.int (zI (v_keep n i))) ((T, tx), (W, H, L), (hs, lot, n, kc), t_keep im (hs, lot, n, kc) i, tr) := by
  intro d M hX
  obtain ⟨x1, x2, x3, x4, x5, x6, x7, x8⟩ := id hX
  have hA : k_A M 1 W H L hs lot n kc := x3
  obtain ⟨ha, hO, ch, hR, hk9⟩ := id hA
  obtain ⟨o1, ⟨hW1, hW2⟩, ⟨hH1, hH2⟩, ⟨hL1, hL2⟩, hn⟩ := id hO
  have hC := p_WH hW2 hH2
  obtain ⟨⟨imf, u1, u2, u3⟩, ⟨kf, u4, u5⟩, u6⟩ := id x8
  have u5 : ∀ i, i < 2 → kf i = zI (if (im i).isSome = true then 1 else 0) := u5
  by_cases hv : 0 ≤ i ∧ i ≤ 1
  · obtain ⟨q, rfl⟩ : ∃ q : Nat, i = (q : Int) := ⟨i.toNat, by omega⟩
    have hq : q < 2 := by omega
    obtain ⟨g1, g2, g3⟩ := u6 q hq
    obtain ⟨M1, c1, c2, c3⟩ := c_copyA (S := S) (d := d + 18) (a := 41 + 10 * q) (b := 1) (by omega) (by omega) hA g1 g2
    have e0 : ∀ k, k < 41 ∨ k = 61 → ¬ z_sI (41 + 10 * q) k := fun k hk g => by unfold z_sI at g; omega
    have n0 : M1[0]? = _ := (c2.2 0 (e0 0 (by omega))).trans x2
    have n61 : M1[61]? = _ := (c2.2 61 (e0 61 (by omega))).trans u4
    have n1 : M1[1]? = _ := (c2.2 1 (e0 1 (by omega))).trans o1
    have e9 : z_ev M (M1.set 61 (.inr (2, 2, .inl (upd kf q (vp_nar .boolean (zI 1)))))) (fun k => 41 ≤ k ∧ k < 62) := (c2.wk (fun k g => by unfold z_sI at g; omega)).tr (.set (by omega))
    have hs1 : z_ev M1 (M1.set 61 (.inr (2, 2, .inl (upd kf q (vp_nar .boolean (zI 1)))))) (fun k => k = 61) := .set rfl
    refine ⟨_, ?_, ⟨by rw [e9.1]; exact x1, (e9.2 0 (by omega)).trans x2, x3.ev e9 (fun k g1 g2 => by omega), x4.ev e9 (fun k g1 g2 => by omega), x5.ev e9 (fun k g1 g2 => by omega), x6.ev e9 (fun k g1 g2 => by omega), by
      obtain ⟨r, h7⟩ := x7
      exact ⟨r, h7.eqv e9 (by omega) (by omega)⟩, ⟨imf, (e9.2 40 (by omega)).trans u1, u2, u3⟩, ⟨_, z_gs n61, fun j hj => ?_⟩, fun j hj => ?_⟩, e9.wk (fun k g => by omega)⟩
    · unfold v_keep
      rw [if_pos hv]
      refine c_of rfl rfl (Nat.le_of_ble_eq_true rfl) ?_
      refine g_il rfl rfl ?_
      refine g_ifF rfl (zcF2 ⟨by omega, by omega⟩ ⟨by omega, by omega⟩ (by omega)) ?_
      refine g_il rfl rfl ?_
      refine g_ic rfl ?_
      refine g_icT rfl (zcT2 ⟨by omega, by omega⟩ ⟨by omega, by omega⟩ (by omega)) ?_
      refine g_al rfl rfl ?_
      refine g_gf rfl x2 rfl rfl ?_
      refine g_il rfl rfl ?_
      refine g_aaI5 rfl u1 (by omega) (by omega) (by omega) (v := .ref (41 + 10 * q)) (by rw [Int.toNat_natCast]; rcases (show q = 0 ∨ q = 1 by omega) with rfl | rfl; rw [u2]; rfl; rw [u3]; rfl) ?_
      refine g_al rfl rfl ?_
      refine g_gf rfl x2 rfl rfl ?_
      obtain ⟨vi, hvi⟩ := g1
      refine g_cv1v rfl rfl hvi rfl (by decide) rfl (c1) ?_
      refine g_al rfl rfl ?_
      refine g_gf rfl n0 rfl rfl ?_
      refine g_il rfl rfl ?_
      refine g_ic rfl ?_
      refine g_zSI rfl n61 (by omega) (by omega) (by omega) ?_
      rw [Int.toNat_natCast]
      refine g_al rfl rfl ?_
      refine g_gf rfl (z_gn (by decide) n0) rfl rfl ?_
      refine g_gf rfl (z_gn (by decide) n1) rfl rfl ?_
      exact g_reti rfl (rfl) rfl
    · show upd kf q (vp_nar .boolean (zI 1)) j = zI (if (t_keep im (hs, lot, n, kc) (q : Int) j).isSome = true then 1 else 0)
      unfold t_keep
      rw [if_pos hv, Int.toNat_natCast]
      by_cases e : j = q
      · subst e
        rw [pk_us, if_pos rfl]
        rfl
      · rw [pk_un e, if_neg e]
        exact u5 j hj
    · show (∃ v, k_o _ (41 + 10 * j) v) ∧ (∃ ch, k_R _ (41 + 10 * j) ch) ∧ ∀ b, t_keep im (hs, lot, n, kc) (q : Int) j = some b → k_A _ (41 + 10 * j) W H L b.1 b.2.1 b.2.2.1 b.2.2.2
      unfold t_keep
      rw [if_pos hv, Int.toNat_natCast]
      by_cases e : j = q
      · subst e
        have c4 := c3.ev hs1 (fun k g1 g2 => by omega)
        obtain ⟨-, hO2, ch2, hR2, -⟩ := id c4
        refine ⟨⟨fun k => match k with | 0 => zI (W : Int) | 1 => zI (H : Int) | 2 => zI (L : Int) | 3 => hs | 4 => zI (n : Int) | _ => lot, hO2.1⟩, ⟨ch2, hR2⟩, fun b hb => ?_⟩
        rw [if_pos rfl] at hb
        cases hb
        exact c4
      · obtain ⟨f1, f2, f3⟩ := u6 j hj
        have e7 : z_ev M (M1.set 61 (.inr (2, 2, .inl (upd kf q (vp_nar .boolean (zI 1)))))) (fun k => (41 + 10 * q ≤ k ∧ k < 41 + 10 * q + 10) ∨ k = 61) := (c2.wk (fun k g => Or.inl g)).tr (.set (Or.inr rfl))
        obtain ⟨v3, f1⟩ := f1
        obtain ⟨ch3, f2⟩ := f2
        refine ⟨⟨v3, f1.ev e7 (by omega)⟩, ⟨ch3, f2.eqv e7 (fun k g1 g2 => by omega)⟩, fun b hb => ?_⟩
        rw [if_neg e] at hb
        exact (f3 b hb).ev e7 (fun k g1 g2 => by omega)
  · refine ⟨M, ?_, by unfold t_keep; rw [if_neg hv]; exact hX, .rf⟩
    refine c_of rfl rfl (Nat.le_of_ble_eq_true rfl) ?_
    unfold v_keep
    rw [if_neg hv]
    refine g_il rfl rfl ?_
    by_cases h0 : i < 0
    · refine g_ifT rfl (zcT2 ⟨by omega, by omega⟩ ⟨by omega, by omega⟩ (h0)) ?_
      refine g_ic rfl ?_
      exact g_reti rfl (rfl) rfl
    · refine g_ifF rfl (zcF2 ⟨by omega, by omega⟩ ⟨by omega, by omega⟩ (h0)) ?_
      refine g_il rfl rfl ?_
      refine g_ic rfl ?_
      refine g_icF rfl (zcF2 ⟨by omega, by omega⟩ ⟨by omega, by omega⟩ (by omega)) ?_
      refine g_ic rfl ?_
      exact g_reti rfl (rfl) rfl
theorem x_back {i : Int} (hi : z_sm i) : z_Xc S 91 [.int (zI i)] ((T, tx), (W, H, L), (hs, lot, n, kc), im, tr) (.int (zI (v_back im i))) ((T, tx), (W, H, L), t_back im (hs, lot, n, kc) i, im, tr) := by
  intro d M hX
  obtain ⟨x1, x2, x3, x4, x5, x6, x7, x8⟩ := id hX
  have hA : k_A M 1 W H L hs lot n kc := x3
  obtain ⟨ha, hO, ch, hR, hk9⟩ := id hA
  obtain ⟨o1, ⟨hW1, hW2⟩, ⟨hH1, hH2⟩, ⟨hL1, hL2⟩, hn⟩ := id hO
  have hC := p_WH hW2 hH2
  obtain ⟨⟨imf, u1, u2, u3⟩, ⟨kf, u4, u5⟩, u6⟩ := id x8
  have u5 : ∀ i, i < 2 → kf i = zI (if (im i).isSome = true then 1 else 0) := u5
  by_cases hv : 0 ≤ i ∧ i ≤ 1
  · obtain ⟨q, rfl⟩ : ∃ q : Nat, i = (q : Int) := ⟨i.toNat, by omega⟩
    have hq : q < 2 := by omega
    obtain ⟨g1, g2, g3⟩ := u6 q hq
    unfold v_back t_back
    rw [if_pos hv, if_pos hv, Int.toNat_natCast]
    cases hb : im q with
    | none =>
      refine ⟨M, ?_, hX, .rf⟩
      refine c_of rfl rfl (Nat.le_of_ble_eq_true rfl) ?_
      refine g_il rfl rfl ?_
      refine g_ifF rfl (zcF2 ⟨by omega, by omega⟩ ⟨by omega, by omega⟩ (by omega)) ?_
      refine g_il rfl rfl ?_
      refine g_ic rfl ?_
      refine g_icT rfl (zcT2 ⟨by omega, by omega⟩ ⟨by omega, by omega⟩ (by omega)) ?_
      refine g_al rfl rfl ?_
      refine g_gf rfl x2 rfl rfl ?_
      refine g_il rfl rfl ?_
      refine g_zaI rfl u4 (by omega) (by omega) (by omega) ?_
      rw [Int.toNat_natCast, u5 q hq]
      rw [hb]
      show z_G S (d + 20) 91 17 _ [.int (zI 0)] _ _ _
      refine g_ifF rfl (zcF1 (rfl)) ?_
      refine g_ic rfl ?_
      exact g_reti rfl (rfl) rfl
    | some b =>
      have hAb : k_A M (41 + 10 * q) W H L b.1 b.2.1 b.2.2.1 b.2.2.2 := g3 b hb
      obtain ⟨M1, c1, c2, c3⟩ := c_copyA (S := S) (d := d + 18) (a := 1) (b := 41 + 10 * q) (by omega) (by omega) hAb ⟨fun k => match k with | 0 => zI (W : Int) | 1 => zI (H : Int) | 2 => zI (L : Int) | 3 => hs | 4 => zI (n : Int) | _ => lot, o1⟩ ⟨ch, hR⟩
      have n0 : M1[0]? = _ := (c2.2 0 (fun g => by unfold z_sI at g; omega)).trans x2
      obtain ⟨-, ⟨n1, -⟩, -⟩ := id c3
      have c4 : z_ev M M1 (fun k => 1 ≤ k ∧ k < 11) := c2.wk (fun k g => by unfold z_sI at g; omega)
      refine ⟨M1, ?_, hX.site c4 c3, c4.wk (fun k g => by omega)⟩
      refine c_of rfl rfl (Nat.le_of_ble_eq_true rfl) ?_
      refine g_il rfl rfl ?_
      refine g_ifF rfl (zcF2 ⟨by omega, by omega⟩ ⟨by omega, by omega⟩ (by omega)) ?_
      refine g_il rfl rfl ?_
      refine g_ic rfl ?_
      refine g_icT rfl (zcT2 ⟨by omega, by omega⟩ ⟨by omega, by omega⟩ (by omega)) ?_
      refine g_al rfl rfl ?_
      refine g_gf rfl x2 rfl rfl ?_
      refine g_il rfl rfl ?_
      refine g_zaI rfl u4 (by omega) (by omega) (by omega) ?_
      rw [Int.toNat_natCast, u5 q hq]
      rw [hb]
      show z_G S (d + 20) 91 17 _ [.int (zI 1)] _ _ _
      refine g_ifT rfl (zcT1 ⟨by omega, by omega⟩ ⟨by omega, by omega⟩ (by decide)) ?_
      refine g_al rfl rfl ?_
      refine g_gf rfl x2 rfl rfl ?_
      refine g_al rfl rfl ?_
      refine g_gf rfl x2 rfl rfl ?_
      refine g_il rfl rfl ?_
      refine g_aaI5 rfl u1 (by omega) (by omega) (by omega) (v := .ref (41 + 10 * q)) (by rw [Int.toNat_natCast]; rcases (show q = 0 ∨ q = 1 by omega) with rfl | rfl; rw [u2]; rfl; rw [u3]; rfl) ?_
      refine g_cv1v rfl rfl o1 rfl (by decide) rfl (c1) ?_
      refine g_al rfl rfl ?_
      refine g_gf rfl n0 rfl rfl ?_
      refine g_gf rfl n1 rfl rfl ?_
      exact g_reti rfl (rfl) rfl
  · refine ⟨M, ?_, by unfold t_back; rw [if_neg hv]; exact hX, .rf⟩
    refine c_of rfl rfl (Nat.le_of_ble_eq_true rfl) ?_
    unfold v_back
    rw [if_neg hv]
    refine g_il rfl rfl ?_
    by_cases h0 : i < 0
    · refine g_ifT rfl (zcT2 ⟨by omega, by omega⟩ ⟨by omega, by omega⟩ (h0)) ?_
      refine g_ic rfl ?_
      exact g_reti rfl (rfl) rfl
    · refine g_ifF rfl (zcF2 ⟨by omega, by omega⟩ ⟨by omega, by omega⟩ (h0)) ?_
      refine g_il rfl rfl ?_
      refine g_ic rfl ?_
      refine g_icF rfl (zcF2 ⟨by omega, by omega⟩ ⟨by omega, by omega⟩ (by omega)) ?_
      refine g_ic rfl ?_
      exact g_reti rfl (rfl) rfl
theorem y_keep {i : Int} (hi : z_sm i) : z_Yc S 161 [.int (zI i)] ((T, tx), (W, H, L), (hs, lot, n, kc), im, tr) (.int (zI (v_keep n i))) ((T, tx), (W, H, L), (hs, lot, n, kc), t_keep im (hs, lot, n, kc) i, tr) := by
  intro d M hY
  obtain ⟨y1, v, wd, hd, ld, nw, h, y3, y4, y5, y6, y7, y8⟩ := id hY
  have h : m_Y M tr v wd hd ld nw W H L hs lot n kc := h
  obtain ⟨⟨h1, h2, h3, h4, h5⟩, ⟨w1, w2, w3⟩, ⟨⟨hW1, hW2⟩, ⟨hH1, hH2⟩, ⟨hL1, hL2⟩, hn⟩, ⟨a1, a2, a3, a4⟩, hok⟩ := id h
  have hC := p_WH hW2 hH2
  obtain ⟨g, g1, g2⟩ := y5
  obtain ⟨kf, k1, k2⟩ := y6
  have k2 : ∀ i, i < 2 → kf i = zI (if (im i).isSome = true then 1 else 0) := k2
  have hN : ∀ k, k < n → (kc k).2.1 ≤ 12 := fun k hk => (hok k hk).2.1.2
  by_cases hv : 0 ≤ i ∧ i ≤ 1
  · obtain ⟨q, rfl⟩ : ∃ q : Nat, i = (q : Int) := ⟨i.toNat, by omega⟩
    have hq : q < 2 := by omega
    unfold v_keep
    rw [if_pos hv]
    refine ⟨(M.set 67 (.inr (0, 236, .inl (va_cpy nw nw 0 (59 * (2 + q)) 59)))).set 68 (.inr (2, 2, .inl (upd kf q (vp_nar .boolean (zI 1))))), ?_, ⟨by rw [List.length_set, List.length_set]; exact y1, v, wd, hd, ld, va_cpy nw nw 0 (59 * (2 + q)) 59, ⟨⟨z_gn (by decide) (z_gn (by decide) h1), z_gn (by decide) (z_gn (by decide) h2), z_gn (by decide) (z_gn (by decide) h3), z_gn (by decide) (z_gn (by decide) h4), z_gn (by decide) (z_gs h5)⟩, ⟨w1, w2, w3⟩, ⟨⟨hW1, hW2⟩, ⟨hH1, hH2⟩, ⟨hL1, hL2⟩, hn⟩, m_A.off (c := 0) ⟨a1, a2, a3, a4⟩ hn hN (by omega), hok⟩, y3, y4, ⟨g, z_gn (by decide) (z_gn (by decide) g1), g2⟩, ⟨_, z_gs (z_gn (by decide) k1), fun j hj => ?_⟩, fun j hj b hb => ?_, y8.ev (P := fun k => k = 67 ∨ k = 68) ((z_ev.set (Or.inl rfl)).tr (.set (Or.inr rfl))) (fun k g1 g2 => by omega)⟩, (z_ev.set (by omega)).tr (.set (by omega))⟩
    · refine c_of rfl rfl (Nat.le_of_ble_eq_true rfl) ?_
      refine g_il rfl rfl ?_
      refine g_ic rfl ?_
      refine g_ic rfl ?_
      refine g_cs3 rfl rfl rfl rfl (m_in hi ⟨by omega, by omega⟩ ⟨by omega, by omega⟩) ?_
      rw [if_pos hv]
      refine g_ifT rfl (zcT1 ⟨by omega, by omega⟩ ⟨by omega, by omega⟩ (by decide)) ?_
      refine g_al rfl rfl ?_
      refine g_ic rfl ?_
      refine g_ic rfl ?_
      refine g_ic rfl ?_
      refine g_il rfl rfl ?_
      refine g_addI rfl ?_
      refine g_mulI rfl ?_
      rw [show (59 : Int) * (2 + (q : Int)) = ((59 * (2 + q) : Nat) : Int) by omega]
      refine g_cv2v rfl rfl h1 rfl (by decide) rfl (m_copy (a := 0) (b := 59 * (2 + q)) (by omega) (by omega) (by omega) h1 h5) ?_
      refine g_al rfl rfl ?_
      refine g_gf rfl (z_gn (by decide) h1) rfl rfl ?_
      refine g_il rfl rfl ?_
      refine g_ic rfl ?_
      refine g_zSI rfl (z_gn (by decide) k1) (by omega) (by omega) (by omega) ?_
      rw [Int.toNat_natCast]
      refine g_al rfl rfl ?_
      refine g_gf rfl (z_gn (by decide) (z_gn (by decide) h1)) rfl rfl ?_
      refine g_ic rfl ?_
      refine g_iaI rfl (by decide) (z_gn (by decide) (z_gs h5)) (by omega) (by omega) (by omega) ?_
      rw [show va_cpy nw nw 0 (59 * (2 + q)) 59 (Int.toNat 1) = zI (n : Int) from (pk_cpy_out (by left; show 1 < _; omega)).trans a2]
      exact g_reti rfl (rfl) rfl
    · show upd kf q (vp_nar .boolean (zI 1)) j = zI (if (t_keep im (hs, lot, n, kc) (q : Int) j).isSome = true then 1 else 0)
      unfold t_keep
      rw [if_pos hv, Int.toNat_natCast]
      by_cases e : j = q
      · subst e
        rw [pk_us, if_pos rfl]
        rfl
      · rw [pk_un e, if_neg e]
        exact k2 j hj
    · have hb : t_keep im (hs, lot, n, kc) (q : Int) j = some b := hb
      unfold t_keep at hb
      rw [if_pos hv, Int.toNat_natCast] at hb
      by_cases e : j = q
      · subst e
        rw [if_pos rfl] at hb
        cases hb
        exact ⟨m_A.cpy ⟨a1, a2, a3, a4⟩ hn hN, hn, hok⟩
      · rw [if_neg e] at hb
        obtain ⟨f1, f2, f3⟩ := y7 j hj b hb
        exact ⟨f1.off f2 (fun k hk => (f3 k hk).2.1.2) (by omega), f2, f3⟩
  · refine ⟨M, ?_, by unfold t_keep; rw [if_neg hv]; exact hY, .rf⟩
    refine c_of rfl rfl (Nat.le_of_ble_eq_true rfl) ?_
    unfold v_keep
    rw [if_neg hv]
    refine g_il rfl rfl ?_
    refine g_ic rfl ?_
    refine g_ic rfl ?_
    refine g_cs3 rfl rfl rfl rfl (m_in hi ⟨by omega, by omega⟩ ⟨by omega, by omega⟩) ?_
    rw [if_neg hv]
    refine g_ifF rfl (zcF1 (rfl)) ?_
    refine g_ic rfl ?_
    exact g_reti rfl (rfl) rfl
theorem y_back {i : Int} (hi : z_sm i) : z_Yc S 162 [.int (zI i)] ((T, tx), (W, H, L), (hs, lot, n, kc), im, tr) (.int (zI (v_back im i))) ((T, tx), (W, H, L), t_back im (hs, lot, n, kc) i, im, tr) := by
  intro d M hY
  obtain ⟨y1, v, wd, hd, ld, nw, h, y3, y4, y5, y6, y7, y8⟩ := id hY
  have h : m_Y M tr v wd hd ld nw W H L hs lot n kc := h
  obtain ⟨⟨h1, h2, h3, h4, h5⟩, ⟨w1, w2, w3⟩, ⟨⟨hW1, hW2⟩, ⟨hH1, hH2⟩, ⟨hL1, hL2⟩, hn⟩, ⟨a1, a2, a3, a4⟩, hok⟩ := id h
  have hC := p_WH hW2 hH2
  obtain ⟨g, g1, g2⟩ := y5
  obtain ⟨kf, k1, k2⟩ := y6
  have k2 : ∀ i, i < 2 → kf i = zI (if (im i).isSome = true then 1 else 0) := k2
  have hN : ∀ k, k < n → (kc k).2.1 ≤ 12 := fun k hk => (hok k hk).2.1.2
  by_cases hv : 0 ≤ i ∧ i ≤ 1
  · obtain ⟨q, rfl⟩ : ∃ q : Nat, i = (q : Int) := ⟨i.toNat, by omega⟩
    have hq : q < 2 := by omega
    unfold v_back t_back
    rw [if_pos hv, if_pos hv, Int.toNat_natCast]
    cases hb : im q with
    | none =>
      refine ⟨M, ?_, hY, .rf⟩
      refine c_of rfl rfl (Nat.le_of_ble_eq_true rfl) ?_
      refine g_il rfl rfl ?_
      refine g_ic rfl ?_
      refine g_ic rfl ?_
      refine g_cs3 rfl rfl rfl rfl (m_in hi ⟨by omega, by omega⟩ ⟨by omega, by omega⟩) ?_
      rw [if_pos hv]
      refine g_ifT rfl (zcT1 ⟨by omega, by omega⟩ ⟨by omega, by omega⟩ (by decide)) ?_
      refine g_al rfl rfl ?_
      refine g_gf rfl h1 rfl rfl ?_
      refine g_il rfl rfl ?_
      refine g_zaI rfl k1 (by omega) (by omega) (by omega) ?_
      rw [Int.toNat_natCast, k2 q hq]
      rw [hb]
      show z_G S (d + 20) 162 17 _ [.int (zI 0)] _ _ _
      refine g_ifF rfl (zcF1 (rfl)) ?_
      refine g_ic rfl ?_
      exact g_reti rfl (rfl) rfl
    | some b =>
      obtain ⟨f1, f2, f3⟩ := y7 q hq b hb
      have m1 := m_A.cpy (b := 0) f1 f2 (fun k hk => (f3 k hk).2.1.2)
      refine ⟨_, ?_, hY.now (b' := b) (nw' := va_cpy nw nw (59 * (2 + q)) 0 59) ⟨h1, h2, h3, h4, h5⟩ (fun j hj => pk_cpy_out (by omega)) m1 f2 f3, .set (by omega)⟩
      refine c_of rfl rfl (Nat.le_of_ble_eq_true rfl) ?_
      refine g_il rfl rfl ?_
      refine g_ic rfl ?_
      refine g_ic rfl ?_
      refine g_cs3 rfl rfl rfl rfl (m_in hi ⟨by omega, by omega⟩ ⟨by omega, by omega⟩) ?_
      rw [if_pos hv]
      refine g_ifT rfl (zcT1 ⟨by omega, by omega⟩ ⟨by omega, by omega⟩ (by decide)) ?_
      refine g_al rfl rfl ?_
      refine g_gf rfl h1 rfl rfl ?_
      refine g_il rfl rfl ?_
      refine g_zaI rfl k1 (by omega) (by omega) (by omega) ?_
      rw [Int.toNat_natCast, k2 q hq]
      rw [hb]
      show z_G S (d + 20) 162 17 _ [.int (zI 1)] _ _ _
      refine g_ifT rfl (zcT1 ⟨by omega, by omega⟩ ⟨by omega, by omega⟩ (by decide)) ?_
      refine g_al rfl rfl ?_
      refine g_ic rfl ?_
      refine g_ic rfl ?_
      refine g_il rfl rfl ?_
      refine g_addI rfl ?_
      refine g_mulI rfl ?_
      refine g_ic rfl ?_
      rw [show (59 : Int) * (2 + (q : Int)) = ((59 * (2 + q) : Nat) : Int) by omega]
      refine g_cv2v rfl rfl h1 rfl (by decide) rfl (m_copy (a := 59 * (2 + q)) (b := 0) (by omega) (by omega) (by omega) h1 h5) ?_
      refine g_al rfl rfl ?_
      refine g_gf rfl (z_gn (by decide) h1) rfl rfl ?_
      refine g_ic rfl ?_
      refine g_iaI rfl (by decide) (z_gs h5) (by omega) (by omega) (by omega) ?_
      rw [show va_cpy nw nw (59 * (2 + q)) 0 59 (Int.toNat 1) = zI (b.2.2.1 : Int) from m1.2.1]
      exact g_reti rfl (rfl) rfl
  · refine ⟨M, ?_, by unfold t_back; rw [if_neg hv]; exact hY, .rf⟩
    refine c_of rfl rfl (Nat.le_of_ble_eq_true rfl) ?_
    unfold v_back
    rw [if_neg hv]
    refine g_il rfl rfl ?_
    refine g_ic rfl ?_
    refine g_ic rfl ?_
    refine g_cs3 rfl rfl rfl rfl (m_in hi ⟨by omega, by omega⟩ ⟨by omega, by omega⟩) ?_
    rw [if_neg hv]
    refine g_ifF rfl (zcF1 (rfl)) ?_
    refine g_ic rfl ?_
    exact g_reti rfl (rfl) rfl
end PI
