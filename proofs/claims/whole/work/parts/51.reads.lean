/-! calls that only read: what they answer, on either side -/
theorem p_trod_c {f g : Nat → Int32} : ∀ {n : Nat}, (∀ k, k < n → f k = g k) → p_trod f n = p_trod g n := by
  intro n
  induction n with
  | zero => intro _; rfl
  | succ n ih =>
    intro h
    show p_trod f n ||| f n = p_trod g n ||| g n
    rw [ih (fun k hk => h k (by omega)), h n (by omega)]
/-- the cells that chains begin on or come to -/
def v_trod (W H n : Nat) (kc : Nat → ZK) : Int32 := p_trod (fun k => q_msk W H (kc k).1 (kc k).2.2 (kc k).2.1) n
def v_cell (W H : Nat) (hs : Int32) (n : Nat) (kc : Nat → ZK) (c : Int) : Int := if 0 ≤ c ∧ c < ((W * H : Nat) : Int) then (if bt hs c.toNat = true then 1 else if bt (v_trod W H n kc) c.toNat = true then 2 else 0) else -1
def v_chain (W H n : Nat) (kc : Nat → ZK) (k w : Int) : Int := if 0 ≤ k ∧ k < (n : Int) then (if w = 0 then ((kc k.toNat).1 : Int) else if w = 1 then (k_last W H (kc k.toNat) : Int) else if w = 2 then ((kc k.toNat).2.1 : Int) else if w = 3 then (p_long (kc k.toNat).2.2 (kc k.toNat).2.1 : Int) else -1) else -1
def v_step (n : Nat) (kc : Nat → ZK) (k i : Int) : Int := if (0 ≤ k ∧ k < (n : Int)) ∧ 0 ≤ i then (if i < ((kc k.toNat).2.1 : Int) then (kc k.toNat).2.2 i.toNat else -5) else -1
def v_straight (L n : Nat) (kc : Nat → ZK) (k : Int) : Int := if 0 ≤ k ∧ k < (n : Int) then p_str (kc k.toNat).2.2 L (kc k.toNat).2.1 else -1
def v_joint (W H L n : Nat) (kc : Nat → ZK) (k j : Int) : Int := if (0 ≤ k ∧ k < (n : Int)) ∧ 0 ≤ j ∧ j < (n : Int) then (if p_join (k_last W H (kc k.toNat) : Int) (kc k.toNat).2.2 (kc k.toNat).2.1 ((kc j.toNat).1 : Int) (kc j.toNat).2.2 (kc j.toNat).2.1 L = true then 1 else 0) else -1
theorem k_last_lt {W H : Nat} {hs : Int32} {k : ZK} (h : p_ok W H hs k) : k_last W H k < W * H := by
  obtain ⟨c, g1, -⟩ := h.2.2.2 k.2.1 (Nat.le_refl _)
  unfold k_last
  rw [g1]
  exact q_lt h.1 _ _ g1
section PR
variable {S : ZS} {T : Nat} {tx : Nat → Int32} {W H L n : Nat} {hs lot : Int32} {kc : Nat → ZK} {im : Nat → Option ZB} {tr : Int64}
theorem x_cell {c : Int} (hc : z_sm c) : z_Xc S 73 [.int (zI c)] ((T, tx), (W, H, L), (hs, lot, n, kc), im, tr) (.int (zI (v_cell W H hs n kc c))) ((T, tx), (W, H, L), (hs, lot, n, kc), im, tr) := by
  intro d M hX
  obtain ⟨x1, x2, x3, x4, x5, x6, x7, x8⟩ := id hX
  have hA : k_A M 1 W H L hs lot n kc := x3
  obtain ⟨ha, hO, ch, hR, hk9⟩ := id hA
  obtain ⟨o1, ⟨hW1, hW2⟩, ⟨hH1, hH2⟩, ⟨hL1, hL2⟩, hn⟩ := id hO
  have hC := p_WH hW2 hH2
  have hTR : p_trod (fun k => (ch k).2.2.2.1) n = v_trod W H n kc := p_trod_c (fun k hk => (hk9 k hk).2.2.2.2.1)
  refine ⟨M, ?_, hX, .rf⟩
  refine c_of rfl rfl (Nat.le_of_ble_eq_true rfl) ?_
  refine g_al rfl rfl ?_
  refine g_gf rfl x2 rfl rfl ?_
  refine g_il rfl rfl ?_
  refine g_cv1 rfl rfl o1 rfl (by decide) rfl (c_has hO hc) ?_
  unfold v_cell
  by_cases h0 : 0 ≤ c ∧ c < ((W * H : Nat) : Int)
  · rw [if_pos h0, if_pos h0]
    refine g_ifT rfl (zcT1 ⟨by omega, by omega⟩ ⟨by omega, by omega⟩ (by decide)) ?_
    refine g_al rfl rfl ?_
    refine g_gf rfl x2 rfl rfl ?_
    refine g_il rfl rfl ?_
    refine g_cv1 rfl rfl o1 rfl (by decide) rfl (c_isHouse hO hc) ?_
    by_cases hb : bt hs c.toNat = true
    · rw [if_pos ⟨h0.1, h0.2, hb⟩, if_pos hb]
      refine g_ifF rfl (zcF0 ⟨by omega, by omega⟩ ⟨by omega, by omega⟩ (by decide)) ?_
      refine g_ic rfl ?_
      exact g_reti rfl (rfl) rfl
    · rw [if_neg (fun g => hb g.2.2), if_neg hb]
      refine g_ifT rfl (zcT0 (rfl)) ?_
      refine g_al rfl rfl ?_
      refine g_gf rfl x2 rfl rfl ?_
      refine g_il rfl rfl ?_
      refine g_cv1 rfl rfl o1 rfl (by decide) rfl (c_isTrodden hO hR hc) ?_
      rw [hTR]
      by_cases ht : bt (v_trod W H n kc) c.toNat = true
      · rw [if_pos ⟨h0.1, h0.2, ht⟩, if_pos ht]
        refine g_ifF rfl (zcF0 ⟨by omega, by omega⟩ ⟨by omega, by omega⟩ (by decide)) ?_
        refine g_ic rfl ?_
        refine g_goto rfl ?_
        exact g_reti rfl (rfl) rfl
      · rw [if_neg (fun g => ht g.2.2), if_neg ht]
        refine g_ifT rfl (zcT0 (rfl)) ?_
        refine g_ic rfl ?_
        exact g_reti rfl (rfl) rfl
  · rw [if_neg h0, if_neg h0]
    refine g_ifF rfl (zcF1 (rfl)) ?_
    refine g_ic rfl ?_
    exact g_reti rfl (rfl) rfl
theorem y_cell {c : Int} (hc : z_sm c) : z_Yc S 125 [.int (zI c)] ((T, tx), (W, H, L), (hs, lot, n, kc), im, tr) (.int (zI (v_cell W H hs n kc c))) ((T, tx), (W, H, L), (hs, lot, n, kc), im, tr) := by
  intro d M hY
  obtain ⟨y1, v, wd, hd, ld, nw, h, y3, y4, y5, y6, y7, y8⟩ := id hY
  have h : m_Y M tr v wd hd ld nw W H L hs lot n kc := h
  obtain ⟨⟨h1, h2, h3, h4, h5⟩, ⟨w1, w2, w3⟩, ⟨⟨hW1, hW2⟩, ⟨hH1, hH2⟩, ⟨hL1, hL2⟩, hn⟩, ⟨a1, a2, a3, a4⟩, hok⟩ := id h
  have hC := p_WH hW2 hH2
  refine ⟨M, ?_, hY, .rf⟩
  refine c_of rfl rfl (Nat.le_of_ble_eq_true rfl) ?_
  refine g_al rfl rfl ?_
  refine g_il rfl rfl ?_
  refine g_cv1 rfl rfl h1 rfl (by decide) rfl (m_isCell h hc) ?_
  unfold v_cell
  by_cases h0 : 0 ≤ c ∧ c < ((W * H : Nat) : Int)
  · rw [if_pos h0, if_pos h0]
    refine g_ifT rfl (zcT1 ⟨by omega, by omega⟩ ⟨by omega, by omega⟩ (by decide)) ?_
    refine g_al rfl rfl ?_
    refine g_il rfl rfl ?_
    obtain ⟨q, rfl⟩ : ∃ q : Nat, c = (q : Int) := ⟨c.toNat, by omega⟩
    rw [Int.toNat_natCast]
    refine g_cv1 rfl rfl h1 rfl (by decide) rfl (m_isHouse h (c := q) (by omega)) ?_
    by_cases hb : bt hs q = true
    · rw [if_pos hb, if_pos hb]
      refine g_ifF rfl (zcF0 ⟨by omega, by omega⟩ ⟨by omega, by omega⟩ (by decide)) ?_
      refine g_ic rfl ?_
      refine g_goto rfl ?_
      exact g_reti rfl (rfl) rfl
    · rw [if_neg hb, if_neg hb]
      refine g_ifT rfl (zcT0 (rfl)) ?_
      refine g_al rfl rfl ?_
      refine g_cv0 rfl rfl h1 rfl (by decide) rfl (m_onChains h) ?_
      refine g_il rfl rfl ?_
      refine g_ishr rfl ?_
      refine g_ic rfl ?_
      refine g_iand rfl ?_
      refine g_ic rfl ?_
      rw [show p_trod (fun k => q_msk W H (kc k).1 (kc k).2.2 (kc k).2.1) n = v_trod W H n kc from rfl, z_bit _ (c := q) (by omega)]
      by_cases ht : bt (v_trod W H n kc) q = true
      · rw [if_pos ht, if_pos ht]
        refine g_icF rfl (zcF1 (rfl)) ?_
        refine g_ic rfl ?_
        refine g_goto rfl ?_
        exact g_reti rfl (rfl) rfl
      · rw [if_neg ht, if_neg ht]
        refine g_icT rfl (zcT1 ⟨by omega, by omega⟩ ⟨by omega, by omega⟩ (by decide)) ?_
        refine g_ic rfl ?_
        exact g_reti rfl (rfl) rfl
  · rw [if_neg h0, if_neg h0]
    refine g_ifF rfl (zcF1 (rfl)) ?_
    refine g_ic rfl ?_
    refine g_goto rfl ?_
    exact g_reti rfl (rfl) rfl
theorem x_chain {k w : Int} (hk : z_sm k) (hw9 : z_sm w) : z_Xc S 74 [.int (zI k), .int (zI w)] ((T, tx), (W, H, L), (hs, lot, n, kc), im, tr) (.int (zI (v_chain W H n kc k w))) ((T, tx), (W, H, L), (hs, lot, n, kc), im, tr) := by
  intro d M hX
  obtain ⟨x1, x2, x3, x4, x5, x6, x7, x8⟩ := id hX
  have hA : k_A M 1 W H L hs lot n kc := x3
  obtain ⟨ha, hO, ch, hR, hk9⟩ := id hA
  obtain ⟨o1, ⟨hW1, hW2⟩, ⟨hH1, hH2⟩, ⟨hL1, hL2⟩, hn⟩ := id hO
  have hC := p_WH hW2 hH2
  refine ⟨M, ?_, hX, .rf⟩
  refine c_of rfl rfl (Nat.le_of_ble_eq_true rfl) ?_
  refine g_al rfl rfl ?_
  refine g_gf rfl x2 rfl rfl ?_
  refine g_il rfl rfl ?_
  unfold v_chain
  by_cases h0 : 0 ≤ k ∧ k < (n : Int)
  · rw [if_pos h0]
    refine g_cv1 rfl rfl o1 rfl (by decide) rfl (c_chainAt hO hR h0.1 h0.2) ?_
    obtain ⟨q, rfl⟩ : ∃ q : Nat, k = (q : Int) := ⟨k.toNat, by omega⟩
    obtain ⟨cs, g, hq⟩ := hA.chain (k := q) (by omega)
    obtain ⟨q1, q2, q3, q4, q5⟩ := id hq
    have hpk := (hk9 q (by omega)).1
    rw [Int.toNat_natCast]
    refine g_as3 rfl rfl ?_
    refine g_al rfl rfl ?_
    refine g_nnT rfl ?_
    refine g_il rfl rfl ?_
    rcases (show w = 0 ∨ w = 1 ∨ w = 2 ∨ w = 3 ∨ (w < 0 ∨ 3 < w) by omega) with hw | hw | hw | hw | hw
    · subst hw
      refine g_tsI rfl (by rw [zI_toInt ⟨by omega, by omega⟩]; omega) (v := 48) (by rw [zI_toInt ⟨by omega, by omega⟩]; rfl) ?_
      refine g_al rfl rfl ?_
      refine g_gf rfl q1 rfl rfl ?_
      exact g_reti rfl (by rfl) rfl
    · subst hw
      refine g_tsI rfl (by rw [zI_toInt ⟨by omega, by omega⟩]; omega) (v := 53) (by rw [zI_toInt ⟨by omega, by omega⟩]; rfl) ?_
      refine g_al rfl rfl ?_
      refine g_gf rfl q1 rfl rfl ?_
      exact g_reti rfl (by rfl) rfl
    · subst hw
      refine g_tsI rfl (by rw [zI_toInt ⟨by omega, by omega⟩]; omega) (v := 58) (by rw [zI_toInt ⟨by omega, by omega⟩]; rfl) ?_
      refine g_al rfl rfl ?_
      refine g_gf rfl q1 rfl rfl ?_
      exact g_reti rfl (by rfl) rfl
    · subst hw
      refine g_tsI rfl (by rw [zI_toInt ⟨by omega, by omega⟩]; omega) (v := 63) (by rw [zI_toInt ⟨by omega, by omega⟩]; rfl) ?_
      refine g_al rfl rfl ?_
      refine g_cv0 rfl rfl q1 rfl (by decide) rfl (c_longestRun hq) ?_
      exact g_reti rfl (by rfl) rfl
    · refine g_tsO rfl (by rw [zI_toInt hw9]; exact hw) ?_
      refine g_ic rfl ?_
      exact g_reti rfl (by rw [if_neg (by omega), if_neg (by omega), if_neg (by omega), if_neg (by omega)]) rfl
  · rw [if_neg h0]
    refine g_cv1 rfl rfl o1 rfl (by decide) rfl (c_chainAtN hO hR hk (by omega)) ?_
    refine g_an3 rfl rfl ?_
    refine g_aln rfl rfl ?_
    refine g_nnF rfl ?_
    refine g_ic rfl ?_
    exact g_reti rfl (rfl) rfl
theorem y_chain {k w : Int} (hk : z_sm k) (hw9 : z_sm w) : z_Yc S 128 [.int (zI k), .int (zI w)] ((T, tx), (W, H, L), (hs, lot, n, kc), im, tr) (.int (zI (v_chain W H n kc k w))) ((T, tx), (W, H, L), (hs, lot, n, kc), im, tr) := by
  intro d M hY
  obtain ⟨y1, v, wd, hd, ld, nw, h, y3, y4, y5, y6, y7, y8⟩ := id hY
  have h : m_Y M tr v wd hd ld nw W H L hs lot n kc := h
  obtain ⟨⟨h1, h2, h3, h4, h5⟩, ⟨w1, w2, w3⟩, ⟨⟨hW1, hW2⟩, ⟨hH1, hH2⟩, ⟨hL1, hL2⟩, hn⟩, ⟨a1, a2, a3, a4⟩, hok⟩ := id h
  have hC := p_WH hW2 hH2
  refine ⟨M, ?_, hY, .rf⟩
  refine c_of rfl rfl (Nat.le_of_ble_eq_true rfl) ?_
  refine g_al rfl rfl ?_
  refine g_il rfl rfl ?_
  refine g_cv1 rfl rfl h1 rfl (by decide) rfl (m_isChain h hk) ?_
  unfold v_chain
  by_cases h0 : 0 ≤ k ∧ k < (n : Int)
  · rw [if_pos h0, if_pos h0]
    refine g_ifF rfl (zcF0 ⟨by omega, by omega⟩ ⟨by omega, by omega⟩ (by decide)) ?_
    refine g_il rfl rfl ?_
    refine g_ic rfl ?_
    refine g_ic rfl ?_
    refine g_cs3 rfl rfl rfl rfl (m_in hw9 ⟨by omega, by omega⟩ ⟨by omega, by omega⟩) ?_
    obtain ⟨q, rfl⟩ : ∃ q : Nat, k = (q : Int) := ⟨k.toNat, by omega⟩
    have hq : q < n := by omega
    rw [Int.toNat_natCast]
    rcases (show w = 0 ∨ w = 1 ∨ w = 2 ∨ w = 3 ∨ (w < 0 ∨ 3 < w) by omega) with hw | hw | hw | hw | hw
    · subst hw
      refine g_ifT rfl (zcT1 ⟨by omega, by omega⟩ ⟨by omega, by omega⟩ (by decide)) ?_
      refine g_il rfl rfl ?_
      refine g_ifF rfl (zcF1 (rfl)) ?_
      refine g_al rfl rfl ?_
      refine g_gf rfl h1 rfl rfl ?_
      refine g_ic rfl ?_
      refine g_il rfl rfl ?_
      refine g_addI rfl ?_
      refine g_iaI rfl (by decide) h5 (by omega) (by omega) (by omega) ?_
      rw [show (3 + (q : Int)).toNat = 0 + 3 + q by omega, (a4 q hq).1]
      refine g_goto rfl ?_
      exact g_reti rfl (by rfl) rfl
    · subst hw
      refine g_ifT rfl (zcT1 ⟨by omega, by omega⟩ ⟨by omega, by omega⟩ (by decide)) ?_
      refine g_il rfl rfl ?_
      refine g_ifT rfl (zcT1 ⟨by omega, by omega⟩ ⟨by omega, by omega⟩ (by decide)) ?_
      refine g_il rfl rfl ?_
      refine g_ic rfl ?_
      refine g_icF rfl (zcF1 (rfl)) ?_
      refine g_al rfl rfl ?_
      refine g_il rfl rfl ?_
      refine g_cv1 rfl rfl h1 rfl (by decide) rfl (m_lastCell h hq) ?_
      refine g_goto rfl ?_
      exact g_reti rfl (by rfl) rfl
    · subst hw
      refine g_ifT rfl (zcT1 ⟨by omega, by omega⟩ ⟨by omega, by omega⟩ (by decide)) ?_
      refine g_il rfl rfl ?_
      refine g_ifT rfl (zcT1 ⟨by omega, by omega⟩ ⟨by omega, by omega⟩ (by decide)) ?_
      refine g_il rfl rfl ?_
      refine g_ic rfl ?_
      refine g_icT rfl (zcT1 ⟨by omega, by omega⟩ ⟨by omega, by omega⟩ (by decide)) ?_
      refine g_il rfl rfl ?_
      refine g_ic rfl ?_
      refine g_icF rfl (zcF1 (rfl)) ?_
      refine g_al rfl rfl ?_
      refine g_il rfl rfl ?_
      refine g_cv1 rfl rfl h1 rfl (by decide) rfl (m_steps h hq) ?_
      refine g_goto rfl ?_
      exact g_reti rfl (by rfl) rfl
    · subst hw
      refine g_ifT rfl (zcT1 ⟨by omega, by omega⟩ ⟨by omega, by omega⟩ (by decide)) ?_
      refine g_il rfl rfl ?_
      refine g_ifT rfl (zcT1 ⟨by omega, by omega⟩ ⟨by omega, by omega⟩ (by decide)) ?_
      refine g_il rfl rfl ?_
      refine g_ic rfl ?_
      refine g_icT rfl (zcT1 ⟨by omega, by omega⟩ ⟨by omega, by omega⟩ (by decide)) ?_
      refine g_il rfl rfl ?_
      refine g_ic rfl ?_
      refine g_icT rfl (zcT1 ⟨by omega, by omega⟩ ⟨by omega, by omega⟩ (by decide)) ?_
      refine g_al rfl rfl ?_
      refine g_il rfl rfl ?_
      refine g_cv1 rfl rfl h1 rfl (by decide) rfl (m_longest h hq) ?_
      exact g_reti rfl (by rfl) rfl
    · rw [if_neg (show ¬ (0 ≤ w ∧ w ≤ 3) by omega)]
      refine g_ifF rfl (zcF1 (rfl)) ?_
      refine g_ic rfl ?_
      exact g_reti rfl (by rw [if_neg (by omega), if_neg (by omega), if_neg (by omega), if_neg (by omega)]) rfl
  · rw [if_neg h0, if_neg h0]
    refine g_ifT rfl (zcT0 (rfl)) ?_
    refine g_ic rfl ?_
    exact g_reti rfl (rfl) rfl
theorem x_step {k i : Int} (hk : z_sm k) (hi9 : z_sm i) : z_Xc S 75 [.int (zI k), .int (zI i)] ((T, tx), (W, H, L), (hs, lot, n, kc), im, tr) (.int (zI (v_step n kc k i))) ((T, tx), (W, H, L), (hs, lot, n, kc), im, tr) := by
  intro d M hX
  obtain ⟨x1, x2, x3, x4, x5, x6, x7, x8⟩ := id hX
  have hA : k_A M 1 W H L hs lot n kc := x3
  obtain ⟨ha, hO, ch, hR, hk9⟩ := id hA
  obtain ⟨o1, ⟨hW1, hW2⟩, ⟨hH1, hH2⟩, ⟨hL1, hL2⟩, hn⟩ := id hO
  have hC := p_WH hW2 hH2
  refine ⟨M, ?_, hX, .rf⟩
  refine c_of rfl rfl (Nat.le_of_ble_eq_true rfl) ?_
  refine g_al rfl rfl ?_
  refine g_gf rfl x2 rfl rfl ?_
  refine g_il rfl rfl ?_
  unfold v_step
  by_cases h0 : 0 ≤ k ∧ k < (n : Int)
  · refine g_cv1 rfl rfl o1 rfl (by decide) rfl (c_chainAt hO hR h0.1 h0.2) ?_
    obtain ⟨q, rfl⟩ : ∃ q : Nat, k = (q : Int) := ⟨k.toNat, by omega⟩
    obtain ⟨cs, g, hq⟩ := hA.chain (k := q) (by omega)
    obtain ⟨q1, q2, q3, q4, q5⟩ := id hq
    have hpk := (hk9 q (by omega)).1
    rw [Int.toNat_natCast]
    refine g_as3 rfl rfl ?_
    refine g_al rfl rfl ?_
    refine g_nuF rfl ?_
    refine g_il rfl rfl ?_
    by_cases hi : 0 ≤ i
    · rw [if_pos ⟨h0, hi⟩]
      refine g_ifT rfl (zcT3 ⟨by omega, by omega⟩ ⟨by omega, by omega⟩ (by omega)) ?_
      refine g_il rfl rfl ?_
      refine g_al rfl rfl ?_
      refine g_gf rfl q1 rfl rfl ?_
      by_cases hl : i < ((kc q).2.1 : Int)
      · rw [if_pos hl]
        refine g_icF rfl (zcF3 ⟨by omega, by omega⟩ ⟨by omega, by omega⟩ (hl)) ?_
        refine g_al rfl rfl ?_
        refine g_il rfl rfl ?_
        refine g_cv1 rfl rfl q1 rfl (by decide) rfl (c_stepAt hq hi hl) ?_
        refine g_goto rfl ?_
        exact g_reti rfl (rfl) rfl
      · rw [if_neg hl]
        refine g_icT rfl (zcT3 ⟨by omega, by omega⟩ ⟨by omega, by omega⟩ (hl)) ?_
        refine g_ic rfl ?_
        exact g_reti rfl (rfl) rfl
    · rw [if_neg (fun g => hi g.2)]
      refine g_ifF rfl (zcF3 ⟨by omega, by omega⟩ ⟨by omega, by omega⟩ (by omega)) ?_
      refine g_ic rfl ?_
      exact g_reti rfl (rfl) rfl
  · rw [if_neg (fun g => h0 g.1)]
    refine g_cv1 rfl rfl o1 rfl (by decide) rfl (c_chainAtN hO hR hk (by omega)) ?_
    refine g_an3 rfl rfl ?_
    refine g_aln rfl rfl ?_
    refine g_nuT rfl ?_
    refine g_ic rfl ?_
    exact g_reti rfl (rfl) rfl
theorem y_step {k i : Int} (hk : z_sm k) (hi9 : z_sm i) : z_Yc S 129 [.int (zI k), .int (zI i)] ((T, tx), (W, H, L), (hs, lot, n, kc), im, tr) (.int (zI (v_step n kc k i))) ((T, tx), (W, H, L), (hs, lot, n, kc), im, tr) := by
  intro d M hY
  obtain ⟨y1, v, wd, hd, ld, nw, h, y3, y4, y5, y6, y7, y8⟩ := id hY
  have h : m_Y M tr v wd hd ld nw W H L hs lot n kc := h
  obtain ⟨⟨h1, h2, h3, h4, h5⟩, ⟨w1, w2, w3⟩, ⟨⟨hW1, hW2⟩, ⟨hH1, hH2⟩, ⟨hL1, hL2⟩, hn⟩, ⟨a1, a2, a3, a4⟩, hok⟩ := id h
  have hC := p_WH hW2 hH2
  refine ⟨M, ?_, hY, .rf⟩
  refine c_of rfl rfl (Nat.le_of_ble_eq_true rfl) ?_
  refine g_al rfl rfl ?_
  refine g_il rfl rfl ?_
  refine g_cv1 rfl rfl h1 rfl (by decide) rfl (m_isChain h hk) ?_
  unfold v_step
  by_cases h0 : 0 ≤ k ∧ k < (n : Int)
  · rw [if_pos h0]
    refine g_ifF rfl (zcF0 ⟨by omega, by omega⟩ ⟨by omega, by omega⟩ (by decide)) ?_
    refine g_il rfl rfl ?_
    obtain ⟨q, rfl⟩ : ∃ q : Nat, k = (q : Int) := ⟨k.toNat, by omega⟩
    have hq : q < n := by omega
    have hpk := hok q hq
    by_cases hi : 0 ≤ i
    · rw [if_pos ⟨h0, hi⟩, Int.toNat_natCast]
      obtain ⟨p1, p2, p3, p4⟩ := id hpk
      refine g_ifT rfl (zcT3 ⟨by omega, by omega⟩ ⟨by omega, by omega⟩ (by omega)) ?_
      refine g_il rfl rfl ?_
      refine g_al rfl rfl ?_
      refine g_il rfl rfl ?_
      refine g_cv1 rfl rfl h1 rfl (by decide) rfl (m_steps h hq) ?_
      by_cases hl : i < ((kc q).2.1 : Int)
      · rw [if_pos hl]
        refine g_icF rfl (zcF3 ⟨by omega, by omega⟩ ⟨by omega, by omega⟩ (hl)) ?_
        refine g_al rfl rfl ?_
        refine g_il rfl rfl ?_
        refine g_il rfl rfl ?_
        obtain ⟨j, rfl⟩ : ∃ j : Nat, i = (j : Int) := ⟨i.toNat, by omega⟩
        refine g_cv2 rfl rfl h1 rfl (by decide) rfl (m_stepIn h hq (j := j) (by omega)) ?_
        refine g_goto rfl ?_
        exact g_reti rfl (by rw [Int.toNat_natCast]) rfl
      · rw [if_neg hl]
        refine g_icT rfl (zcT3 ⟨by omega, by omega⟩ ⟨by omega, by omega⟩ (hl)) ?_
        refine g_ic rfl ?_
        exact g_reti rfl (rfl) rfl
    · rw [if_neg (fun g => hi g.2)]
      refine g_ifF rfl (zcF3 ⟨by omega, by omega⟩ ⟨by omega, by omega⟩ (by omega)) ?_
      refine g_ic rfl ?_
      exact g_reti rfl (rfl) rfl
  · rw [if_neg h0, if_neg (fun g => h0 g.1)]
    refine g_ifT rfl (zcT0 (rfl)) ?_
    refine g_ic rfl ?_
    exact g_reti rfl (rfl) rfl
theorem x_straight {k : Int} (hk : z_sm k) : z_Xc S 76 [.int (zI k)] ((T, tx), (W, H, L), (hs, lot, n, kc), im, tr) (.int (zI (v_straight L n kc k))) ((T, tx), (W, H, L), (hs, lot, n, kc), im, tr) := by
  intro d M hX
  obtain ⟨x1, x2, x3, x4, x5, x6, x7, x8⟩ := id hX
  have hA : k_A M 1 W H L hs lot n kc := x3
  obtain ⟨ha, hO, ch, hR, hk9⟩ := id hA
  obtain ⟨o1, ⟨hW1, hW2⟩, ⟨hH1, hH2⟩, ⟨hL1, hL2⟩, hn⟩ := id hO
  have hC := p_WH hW2 hH2
  refine ⟨M, ?_, hX, .rf⟩
  refine c_of rfl rfl (Nat.le_of_ble_eq_true rfl) ?_
  refine g_al rfl rfl ?_
  refine g_gf rfl x2 rfl rfl ?_
  refine g_il rfl rfl ?_
  unfold v_straight
  by_cases h0 : 0 ≤ k ∧ k < (n : Int)
  · rw [if_pos h0]
    refine g_cv1 rfl rfl o1 rfl (by decide) rfl (c_chainAt hO hR h0.1 h0.2) ?_
    obtain ⟨q, rfl⟩ : ∃ q : Nat, k = (q : Int) := ⟨k.toNat, by omega⟩
    obtain ⟨cs, g, hq⟩ := hA.chain (k := q) (by omega)
    obtain ⟨q1, q2, q3, q4, q5⟩ := id hq
    have hpk := (hk9 q (by omega)).1
    rw [Int.toNat_natCast]
    refine g_as2 rfl rfl ?_
    refine g_al rfl rfl ?_
    refine g_nnT rfl ?_
    refine g_al rfl rfl ?_
    refine g_al rfl rfl ?_
    refine g_gf rfl x2 rfl rfl ?_
    refine g_gf rfl o1 rfl rfl ?_
    refine g_cv1 rfl rfl q1 rfl (by decide) rfl (c_straightAt hq (by omega)) ?_
    exact g_reti rfl (by rfl) rfl
  · rw [if_neg h0]
    refine g_cv1 rfl rfl o1 rfl (by decide) rfl (c_chainAtN hO hR hk (by omega)) ?_
    refine g_an2 rfl rfl ?_
    refine g_aln rfl rfl ?_
    refine g_nnF rfl ?_
    refine g_ic rfl ?_
    refine g_goto rfl ?_
    exact g_reti rfl (rfl) rfl
theorem y_straight {k : Int} (hk : z_sm k) : z_Yc S 131 [.int (zI k)] ((T, tx), (W, H, L), (hs, lot, n, kc), im, tr) (.int (zI (v_straight L n kc k))) ((T, tx), (W, H, L), (hs, lot, n, kc), im, tr) := by
  intro d M hY
  obtain ⟨y1, v, wd, hd, ld, nw, h, y3, y4, y5, y6, y7, y8⟩ := id hY
  have h : m_Y M tr v wd hd ld nw W H L hs lot n kc := h
  obtain ⟨⟨h1, h2, h3, h4, h5⟩, ⟨w1, w2, w3⟩, ⟨⟨hW1, hW2⟩, ⟨hH1, hH2⟩, ⟨hL1, hL2⟩, hn⟩, ⟨a1, a2, a3, a4⟩, hok⟩ := id h
  have hC := p_WH hW2 hH2
  refine ⟨M, ?_, hY, .rf⟩
  refine c_of rfl rfl (Nat.le_of_ble_eq_true rfl) ?_
  refine g_al rfl rfl ?_
  refine g_il rfl rfl ?_
  refine g_cv1 rfl rfl h1 rfl (by decide) rfl (m_isChain h hk) ?_
  unfold v_straight
  by_cases h0 : 0 ≤ k ∧ k < (n : Int)
  · rw [if_pos h0, if_pos h0]
    refine g_ifF rfl (zcF0 ⟨by omega, by omega⟩ ⟨by omega, by omega⟩ (by decide)) ?_
    refine g_al rfl rfl ?_
    refine g_il rfl rfl ?_
    obtain ⟨q, rfl⟩ : ∃ q : Nat, k = (q : Int) := ⟨k.toNat, by omega⟩
    rw [Int.toNat_natCast]
    refine g_cv1 rfl rfl h1 rfl (by decide) rfl (m_straightOf h (k := q) (by omega)) ?_
    refine g_goto rfl ?_
    exact g_reti rfl (by rfl) rfl
  · rw [if_neg h0, if_neg h0]
    refine g_ifT rfl (zcT0 (rfl)) ?_
    refine g_ic rfl ?_
    exact g_reti rfl (rfl) rfl
theorem x_trace : z_Xc S 93 [] ((T, tx), (W, H, L), (hs, lot, n, kc), im, tr) (.long (tr)) ((T, tx), (W, H, L), (hs, lot, n, kc), im, tr) := by
  intro d M hX
  obtain ⟨x1, x2, x3, x4, x5, x6, x7, x8⟩ := id hX
  have hA : k_A M 1 W H L hs lot n kc := x3
  obtain ⟨ha, hO, ch, hR, hk9⟩ := id hA
  obtain ⟨o1, ⟨hW1, hW2⟩, ⟨hH1, hH2⟩, ⟨hL1, hL2⟩, hn⟩ := id hO
  have hC := p_WH hW2 hH2
  refine ⟨M, ?_, hX, .rf⟩
  refine c_of rfl rfl (Nat.le_of_ble_eq_true rfl) ?_
  refine g_al rfl rfl ?_
  refine g_gf rfl x2 rfl rfl ?_
  exact g_retl rfl (rfl) rfl
theorem y_trace : z_Yc S 164 [] ((T, tx), (W, H, L), (hs, lot, n, kc), im, tr) (.long (tr)) ((T, tx), (W, H, L), (hs, lot, n, kc), im, tr) := by
  intro d M hY
  obtain ⟨y1, v, wd, hd, ld, nw, h, y3, y4, y5, y6, y7, y8⟩ := id hY
  have h : m_Y M tr v wd hd ld nw W H L hs lot n kc := h
  obtain ⟨⟨h1, h2, h3, h4, h5⟩, ⟨w1, w2, w3⟩, ⟨⟨hW1, hW2⟩, ⟨hH1, hH2⟩, ⟨hL1, hL2⟩, hn⟩, ⟨a1, a2, a3, a4⟩, hok⟩ := id h
  have hC := p_WH hW2 hH2
  refine ⟨M, ?_, hY, .rf⟩
  refine c_of rfl rfl (Nat.le_of_ble_eq_true rfl) ?_
  refine g_al rfl rfl ?_
  refine g_gf rfl h1 rfl rfl ?_
  exact g_retl rfl (rfl) rfl
theorem x_joint {k j : Int} (hk : z_sm k) (hj : z_sm j) : z_Xc S 77 [.int (zI k), .int (zI j)] ((T, tx), (W, H, L), (hs, lot, n, kc), im, tr) (.int (zI (v_joint W H L n kc k j))) ((T, tx), (W, H, L), (hs, lot, n, kc), im, tr) := by
  intro d M hX
  obtain ⟨x1, x2, x3, x4, x5, x6, x7, x8⟩ := id hX
  have hA : k_A M 1 W H L hs lot n kc := x3
  obtain ⟨ha, hO, ch, hR, hk9⟩ := id hA
  obtain ⟨o1, ⟨hW1, hW2⟩, ⟨hH1, hH2⟩, ⟨hL1, hL2⟩, hn⟩ := id hO
  have hC := p_WH hW2 hH2
  refine ⟨M, ?_, hX, .rf⟩
  refine c_of rfl rfl (Nat.le_of_ble_eq_true rfl) ?_
  refine g_al rfl rfl ?_
  refine g_gf rfl x2 rfl rfl ?_
  refine g_il rfl rfl ?_
  unfold v_joint
  by_cases h0 : 0 ≤ k ∧ k < (n : Int)
  · refine g_cv1 rfl rfl o1 rfl (by decide) rfl (c_chainAt hO hR h0.1 h0.2) ?_
    obtain ⟨q, rfl⟩ : ∃ q : Nat, k = (q : Int) := ⟨k.toNat, by omega⟩
    obtain ⟨cs, g, hq⟩ := hA.chain (k := q) (by omega)
    obtain ⟨q1, q2, q3, q4, q5⟩ := id hq
    have hpk := (hk9 q (by omega)).1
    rw [Int.toNat_natCast]
    refine g_as3 rfl rfl ?_
    refine g_al rfl rfl ?_
    refine g_gf rfl x2 rfl rfl ?_
    refine g_il rfl rfl ?_
    by_cases hj0 : 0 ≤ j ∧ j < (n : Int)
    · rw [if_pos ⟨h0, hj0⟩]
      refine g_cv1 rfl rfl o1 rfl (by decide) rfl (c_chainAt hO hR hj0.1 hj0.2) ?_
      obtain ⟨p, rfl⟩ : ∃ p : Nat, j = (p : Int) := ⟨j.toNat, by omega⟩
      obtain ⟨cs2, g2, hp⟩ := hA.chain (k := p) (by omega)
      obtain ⟨r1, r2, r3, r4, r5⟩ := id hp
      have hpp := (hk9 p (by omega)).1
      have l1 := k_last_lt hpk
      have l2 := hpp.1
      rw [Int.toNat_natCast]
      refine g_as4 rfl rfl ?_
      refine g_al rfl rfl ?_
      refine g_nuF rfl ?_
      refine g_al rfl rfl ?_
      refine g_nnT rfl ?_
      refine g_al rfl rfl ?_
      refine g_al rfl rfl ?_
      refine g_al rfl rfl ?_
      refine g_gf rfl x2 rfl rfl ?_
      refine g_gf rfl o1 rfl rfl ?_
      refine g_cv2 rfl rfl q1 rfl (by decide) rfl (c_joins hq hp hpk.2.1.1 hpp.2.1.1 ⟨by omega, by omega⟩ ⟨by omega, by omega⟩ (by omega)) ?_
      by_cases hb : p_join (k_last W H (kc q) : Int) (kc q).2.2 (kc q).2.1 ((kc p).1 : Int) (kc p).2.2 (kc p).2.1 L = true
      · rw [if_pos hb]
        refine g_ifF rfl (zcF0 ⟨by omega, by omega⟩ ⟨by omega, by omega⟩ (by decide)) ?_
        refine g_ic rfl ?_
        refine g_goto rfl ?_
        exact g_reti rfl (rfl) rfl
      · rw [if_neg hb]
        refine g_ifT rfl (zcT0 (rfl)) ?_
        refine g_ic rfl ?_
        exact g_reti rfl (rfl) rfl
    · rw [if_neg (fun g => hj0 g.2)]
      refine g_cv1 rfl rfl o1 rfl (by decide) rfl (c_chainAtN hO hR hj (by omega)) ?_
      refine g_an4 rfl rfl ?_
      refine g_al rfl rfl ?_
      refine g_nuF rfl ?_
      refine g_aln rfl rfl ?_
      refine g_nnF rfl ?_
      refine g_ic rfl ?_
      exact g_reti rfl (rfl) rfl
  · rw [if_neg (fun g => h0 g.1)]
    refine g_cv1 rfl rfl o1 rfl (by decide) rfl (c_chainAtN hO hR hk (by omega)) ?_
    refine g_an3 rfl rfl ?_
    refine g_al rfl rfl ?_
    refine g_gf rfl x2 rfl rfl ?_
    refine g_il rfl rfl ?_
    by_cases hj0 : 0 ≤ j ∧ j < (n : Int)
    · refine g_cv1 rfl rfl o1 rfl (by decide) rfl (c_chainAt hO hR hj0.1 hj0.2) ?_
      refine g_as4 rfl rfl ?_
      refine g_aln rfl rfl ?_
      refine g_nuT rfl ?_
      refine g_ic rfl ?_
      exact g_reti rfl (rfl) rfl
    · refine g_cv1 rfl rfl o1 rfl (by decide) rfl (c_chainAtN hO hR hj (by omega)) ?_
      refine g_an4 rfl rfl ?_
      refine g_aln rfl rfl ?_
      refine g_nuT rfl ?_
      refine g_ic rfl ?_
      exact g_reti rfl (rfl) rfl
theorem y_joint {k j : Int} (hk : z_sm k) (hj : z_sm j) : z_Yc S 134 [.int (zI k), .int (zI j)] ((T, tx), (W, H, L), (hs, lot, n, kc), im, tr) (.int (zI (v_joint W H L n kc k j))) ((T, tx), (W, H, L), (hs, lot, n, kc), im, tr) := by
  intro d M hY
  obtain ⟨y1, v, wd, hd, ld, nw, h, y3, y4, y5, y6, y7, y8⟩ := id hY
  have h : m_Y M tr v wd hd ld nw W H L hs lot n kc := h
  obtain ⟨⟨h1, h2, h3, h4, h5⟩, ⟨w1, w2, w3⟩, ⟨⟨hW1, hW2⟩, ⟨hH1, hH2⟩, ⟨hL1, hL2⟩, hn⟩, ⟨a1, a2, a3, a4⟩, hok⟩ := id h
  have hC := p_WH hW2 hH2
  refine ⟨M, ?_, hY, .rf⟩
  refine c_of rfl rfl (Nat.le_of_ble_eq_true rfl) ?_
  refine g_al rfl rfl ?_
  refine g_il rfl rfl ?_
  refine g_cv1 rfl rfl h1 rfl (by decide) rfl (m_isChain h hk) ?_
  unfold v_joint
  by_cases h0 : 0 ≤ k ∧ k < (n : Int)
  · rw [if_pos h0]
    refine g_ifF rfl (zcF0 ⟨by omega, by omega⟩ ⟨by omega, by omega⟩ (by decide)) ?_
    refine g_al rfl rfl ?_
    refine g_il rfl rfl ?_
    refine g_cv1 rfl rfl h1 rfl (by decide) rfl (m_isChain h hj) ?_
    by_cases hj0 : 0 ≤ j ∧ j < (n : Int)
    · rw [if_pos hj0, if_pos ⟨h0, hj0⟩]
      refine g_ifF rfl (zcF0 ⟨by omega, by omega⟩ ⟨by omega, by omega⟩ (by decide)) ?_
      refine g_al rfl rfl ?_
      refine g_il rfl rfl ?_
      refine g_il rfl rfl ?_
      obtain ⟨q, rfl⟩ : ∃ q : Nat, k = (q : Int) := ⟨k.toNat, by omega⟩
      obtain ⟨p, rfl⟩ : ∃ p : Nat, j = (p : Int) := ⟨j.toNat, by omega⟩
      rw [Int.toNat_natCast, Int.toNat_natCast]
      refine g_cv2 rfl rfl h1 rfl (by decide) rfl (m_isJoint h (k := q) (by omega) (j := p) (by omega)) ?_
      by_cases hb : p_join (k_last W H (kc q) : Int) (kc q).2.2 (kc q).2.1 ((kc p).1 : Int) (kc p).2.2 (kc p).2.1 L = true
      · rw [if_pos hb]
        refine g_ifF rfl (zcF0 ⟨by omega, by omega⟩ ⟨by omega, by omega⟩ (by decide)) ?_
        refine g_ic rfl ?_
        refine g_goto rfl ?_
        exact g_reti rfl (rfl) rfl
      · rw [if_neg hb]
        refine g_ifT rfl (zcT0 (rfl)) ?_
        refine g_ic rfl ?_
        refine g_goto rfl ?_
        exact g_reti rfl (rfl) rfl
    · rw [if_neg hj0, if_neg (fun g => hj0 g.2)]
      refine g_ifT rfl (zcT0 (rfl)) ?_
      refine g_ic rfl ?_
      exact g_reti rfl (rfl) rfl
  · rw [if_neg h0, if_neg (fun g => h0 g.1)]
    refine g_ifT rfl (zcT0 (rfl)) ?_
    refine g_ic rfl ?_
    exact g_reti rfl (rfl) rfl
end PR
