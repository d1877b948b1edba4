/-! count, build, raze -/
theorem q_msk_bit {W H f : Nat} {s : Nat → Int} (hf : f < 32) : ∀ (N i c : Nat), (∀ j x, q_pos W H f s j = some x → x < 32) → i ≤ N → q_pos W H f s i = some c → bt (q_msk W H f s N) c = true := by
  intro N
  induction N with
  | zero =>
    intro i c hb hi h
    obtain rfl : i = 0 := by omega
    cases h
    show bt (zI 1 <<< (zI (f : Int) &&& 31)) f = true
    rw [b_pow hf hf]
    exact decide_eq_true rfl
  | succ N ih =>
    intro i c hb hi h
    show bt (q_msk W H f s N ||| (zI 1 <<< (zI (oI (q_pos W H f s (N + 1)) 0) &&& 31))) c = true
    rw [b_or]
    by_cases e : i = N + 1
    · subst e
      rw [h]
      have := hb _ _ h
      rw [show oI (some c) 0 = (c : Int) from rfl, b_pow this this, decide_eq_true rfl, Bool.or_true]
    · rw [ih i c hb (by omega) h, Bool.true_or]
theorem p_trod_bit {f : Nat → Int32} {c : Nat} : ∀ (n k : Nat), k < n → bt (f k) c = true → bt (p_trod f n) c = true := by
  intro n
  induction n with
  | zero => intro k hk; omega
  | succ n ih =>
    intro k hk h
    show bt (p_trod f n ||| f n) c = true
    rw [b_or]
    by_cases e : k = n
    · subst e
      rw [h, Bool.or_true]
    · rw [ih k (by omega) h, Bool.true_or]
/-- fewer houses, or houses off the chain's cells: the chain stays right -/
theorem p_ok.houses {W H : Nat} {hs hs' : Int32} {k : ZK} (h : p_ok W H hs k) (g : ∀ i c, i ≤ k.2.1 → q_pos W H k.1 k.2.2 i = some c → ¬ bt hs c = true → ¬ bt hs' c = true) : p_ok W H hs' k :=
  ⟨h.1, h.2.1, h.2.2.1, fun i hi => by
    obtain ⟨c, h1, h2⟩ := h.2.2.2 i hi
    exact ⟨c, h1, g i c hi h1 h2⟩⟩
def h_add (hs : Int32) (c : Nat) : Int32 := hs ||| (zI 1 <<< (zI (c : Int) &&& 31))
def h_del (hs : Int32) (c : Nat) : Int32 := hs &&& ((zI 1 <<< (zI (c : Int) &&& 31)) ^^^ zI (-1))
theorem h_add_bt {hs : Int32} {c i : Nat} (hc : c < 32) (hi : i < 32) : bt (h_add hs c) i = (bt hs i || decide (i = c)) := by
  unfold h_add
  rw [b_or, b_pow hc hi]
theorem h_del_bt {hs : Int32} {c i : Nat} (hc : c < 32) (hi : i < 32) : bt (h_del hs c) i = (bt hs i && !decide (i = c)) := by
  unfold h_del
  rw [b_and, b_neg _ hi, b_pow hc hi]
theorem h_add_ok {W H n : Nat} {hs : Int32} {kc : Nat → ZK} {c : Nat} (hC : W * H ≤ 25) (hc : c < W * H) (ht : ¬ bt (v_trod W H n kc) c = true) (hok : ∀ k, k < n → p_ok W H hs (kc k)) : ∀ k, k < n → p_ok W H (h_add hs c) (kc k) := by
  intro k hk
  have h0 := hok k hk
  refine h0.houses (fun i x hi hx hb => ?_)
  have hx9 := q_lt h0.1 i x hx
  rw [h_add_bt (by omega) (by omega)]
  intro g
  have hb : bt hs x = false := by
    cases e : bt hs x with
    | true => exact absurd e hb
    | false => rfl
  rw [hb, Bool.false_or] at g
  have g := of_decide_eq_true g
  subst g
  refine ht (p_trod_bit n k hk (q_msk_bit (by have := h0.1; omega) _ i x (fun j y hy => by have := q_lt h0.1 j y hy; omega) hi hx))
theorem h_del_ok {W H n : Nat} {hs : Int32} {kc : Nat → ZK} {c : Nat} (hC : W * H ≤ 25) (hc : c < W * H) (hok : ∀ k, k < n → p_ok W H hs (kc k)) : ∀ k, k < n → p_ok W H (h_del hs c) (kc k) := by
  intro k hk
  have h0 := hok k hk
  refine h0.houses (fun i x hi hx hb => ?_)
  have hx9 := q_lt h0.1 i x hx
  rw [h_del_bt (by omega) (by omega)]
  intro g
  rw [Bool.and_eq_true] at g
  exact hb g.1
theorem h_add_in {W H : Nat} {hs : Int32} {c : Nat} (hC : W * H ≤ 25) (hc : c < W * H) (h : p_in W H hs) : p_in W H (h_add hs c) := by
  intro i hi
  by_cases h32 : i < 32
  · rw [h_add_bt (by omega) h32, h i hi, decide_eq_false (by omega)]
    rfl
  · exact b_big (by omega)
theorem h_del_in {W H : Nat} {hs : Int32} {c : Nat} (hC : W * H ≤ 25) (hc : c < W * H) (h : p_in W H hs) : p_in W H (h_del hs c) := by
  intro i hi
  by_cases h32 : i < 32
  · rw [h_del_bt (by omega) h32, h i hi]
    rfl
  · exact b_big (by omega)
theorem k_A.house {M : ZM} {a W H L n : Nat} {hs hs' lot : Int32} {kc : Nat → ZK} (h : k_A M a W H L hs lot n kc) (hok : ∀ k, k < n → p_ok W H hs' (kc k)) : k_A (M.set a (.inl (2, [.int (zI (W : Int)), .int (zI (H : Int)), .int (zI (L : Int)), .int hs', .int (zI (n : Int)), .int lot, .ref (a + 1)]))) a W H L hs' lot n kc := by
  obtain ⟨h1, hO, ch, hR, hk⟩ := h
  obtain ⟨o1, o2, o3, o4, o5⟩ := hO
  exact ⟨h1, ⟨z_gs o1, o2, o3, o4, o5⟩, ch, hR.upd (fun g => by omega) (fun k g1 g2 g3 => by omega), fun k hk' => ⟨hok k hk', (hk k hk').2⟩⟩
def v_count (W H L T n : Nat) (hs : Int32) (w : Int) : Int := if w = 0 then (W : Int) else if w = 1 then (H : Int) else if w = 2 then (L : Int) else if w = 3 then (v_hc hs : Int) else if w = 4 then (n : Int) else if w = 5 then (T : Int) else -1
def h_build (W H n : Nat) (hs : Int32) (kc : Nat → ZK) (c : Int) : Int32 := if (0 ≤ c ∧ c < ((W * H : Nat) : Int)) ∧ ¬ bt hs c.toNat = true ∧ ¬ bt (v_trod W H n kc) c.toNat = true then h_add hs c.toNat else hs
def v_build (W H n : Nat) (hs : Int32) (kc : Nat → ZK) (c : Int) : Int := if (0 ≤ c ∧ c < ((W * H : Nat) : Int)) then (if ¬ bt hs c.toNat = true ∧ ¬ bt (v_trod W H n kc) c.toNat = true then (v_hc (h_add hs c.toNat) : Int) else -2) else -1
def h_raze (W H : Nat) (hs : Int32) (c : Int) : Int32 := if (0 ≤ c ∧ c < ((W * H : Nat) : Int)) ∧ bt hs c.toNat = true then h_del hs c.toNat else hs
def v_raze (W H : Nat) (hs : Int32) (c : Int) : Int := if (0 ≤ c ∧ c < ((W * H : Nat) : Int)) then (if bt hs c.toNat = true then (v_hc (h_del hs c.toNat) : Int) else -2) else -1
section PB
variable {S : ZS} {T : Nat} {tx : Nat → Int32} {W H L n : Nat} {hs lot : Int32} {kc : Nat → ZK} {im : Nat → Option ZB} {tr : Int64}
theorem m_cell {d : Nat} {M : ZM} {v wd hd ld nw : Nat → Int32} (h : m_Y M tr v wd hd ld nw W H L hs lot n kc) {c : Int} (hc : z_sm c) : z_C S (d + 3) 125 [.ref 62, .int (zI c)] M (some (.int (zI (v_cell W H hs n kc c)))) M := by
  obtain ⟨⟨h1, h2, h3, h4, h5⟩, ⟨w1, w2, w3⟩, ⟨⟨hW1, hW2⟩, ⟨hH1, hH2⟩, ⟨hL1, hL2⟩, hn⟩, ⟨a1, a2, a3, a4⟩, hok⟩ := id h
  have hC := p_WH hW2 hH2
  refine c_of rfl rfl (Nat.le_of_ble_eq_true rfl) ?_
  refine g_al rfl rfl ?_
  refine g_il rfl rfl ?_
  refine g_cv1 rfl rfl h1 rfl (by decide) rfl (m_isCell h hc) ?_
  unfold v_cell
  by_cases h0 : 0 ≤ c ∧ c < ((W * H : Nat) : Int)
  · rw [if_pos h0, if_pos h0]
    refine g_ifT rfl (zcT1 ⟨by omega, by omega⟩ ⟨by omega, by omega⟩ (by decide)) ?_
    refine g_al rfl rfl ?_
    refine g_il rfl rfl ?_
    obtain ⟨q, rfl⟩ : ∃ q : Nat, c = (q : Int) := ⟨c.toNat, by omega⟩
    rw [Int.toNat_natCast]
    refine g_cv1 rfl rfl h1 rfl (by decide) rfl (m_isHouse h (c := q) (by omega)) ?_
    by_cases hb : bt hs q = true
    · rw [if_pos hb, if_pos hb]
      refine g_ifF rfl (zcF0 ⟨by omega, by omega⟩ ⟨by omega, by omega⟩ (by decide)) ?_
      refine g_ic rfl ?_
      refine g_goto rfl ?_
      exact g_reti rfl (rfl) rfl
    · rw [if_neg hb, if_neg hb]
      refine g_ifT rfl (zcT0 (rfl)) ?_
      refine g_al rfl rfl ?_
      refine g_cv0 rfl rfl h1 rfl (by decide) rfl (m_onChains h) ?_
      refine g_il rfl rfl ?_
      refine g_ishr rfl ?_
      refine g_ic rfl ?_
      refine g_iand rfl ?_
      refine g_ic rfl ?_
      rw [show p_trod (fun k => q_msk W H (kc k).1 (kc k).2.2 (kc k).2.1) n = v_trod W H n kc from rfl, z_bit _ (c := q) (by omega)]
      by_cases ht : bt (v_trod W H n kc) q = true
      · rw [if_pos ht, if_pos ht]
        refine g_icF rfl (zcF1 (rfl)) ?_
        refine g_ic rfl ?_
        refine g_goto rfl ?_
        exact g_reti rfl (rfl) rfl
      · rw [if_neg ht, if_neg ht]
        refine g_icT rfl (zcT1 ⟨by omega, by omega⟩ ⟨by omega, by omega⟩ (by decide)) ?_
        refine g_ic rfl ?_
        exact g_reti rfl (rfl) rfl
  · rw [if_neg h0, if_neg h0]
    refine g_ifF rfl (zcF1 (rfl)) ?_
    refine g_ic rfl ?_
    refine g_goto rfl ?_
    exact g_reti rfl (rfl) rfl
theorem x_count (hp : p_in W H hs) {w : Int} (hw9 : z_sm w) : z_Xc S 92 [.int (zI w)] ((T, tx), (W, H, L), (hs, lot, n, kc), im, tr) (.int (zI (v_count W H L T n hs w))) ((T, tx), (W, H, L), (hs, lot, n, kc), im, tr) := by
  intro d M hX
  obtain ⟨x1, x2, x3, x4, x5, x6, x7, x8⟩ := id hX
  have hA : k_A M 1 W H L hs lot n kc := x3
  obtain ⟨ha, hO, ch, hR, hk9⟩ := id hA
  obtain ⟨o1, ⟨hW1, hW2⟩, ⟨hH1, hH2⟩, ⟨hL1, hL2⟩, hn⟩ := id hO
  have hC := p_WH hW2 hH2
  obtain ⟨t1, ⟨i1, i2, i6, i7, i8, t2⟩, ⟨g, t3, t4⟩, ⟨vd, t5⟩, ⟨cd, t6⟩, rt, t7⟩ := id x4
  refine ⟨M, ?_, hX, .rf⟩
  refine c_of rfl rfl (Nat.le_of_ble_eq_true rfl) ?_
  refine g_il rfl rfl ?_
  unfold v_count
  rcases (show w = 0 ∨ w = 1 ∨ w = 2 ∨ w = 3 ∨ w = 4 ∨ w = 5 ∨ (w < 0 ∨ 5 < w) by omega) with hw | hw | hw | hw | hw | hw | hw
  · subst hw
    refine g_tsI rfl (by rw [zI_toInt ⟨by omega, by omega⟩]; omega) (v := 40) (by rw [zI_toInt ⟨by omega, by omega⟩]; rfl) ?_
    refine g_al rfl rfl ?_
    refine g_gf rfl x2 rfl rfl ?_
    refine g_gf rfl o1 rfl rfl ?_
    exact g_reti rfl (rfl) rfl
  · subst hw
    refine g_tsI rfl (by rw [zI_toInt ⟨by omega, by omega⟩]; omega) (v := 48) (by rw [zI_toInt ⟨by omega, by omega⟩]; rfl) ?_
    refine g_al rfl rfl ?_
    refine g_gf rfl x2 rfl rfl ?_
    refine g_gf rfl o1 rfl rfl ?_
    exact g_reti rfl (rfl) rfl
  · subst hw
    refine g_tsI rfl (by rw [zI_toInt ⟨by omega, by omega⟩]; omega) (v := 56) (by rw [zI_toInt ⟨by omega, by omega⟩]; rfl) ?_
    refine g_al rfl rfl ?_
    refine g_gf rfl x2 rfl rfl ?_
    refine g_gf rfl o1 rfl rfl ?_
    exact g_reti rfl (rfl) rfl
  · subst hw
    refine g_tsI rfl (by rw [zI_toInt ⟨by omega, by omega⟩]; omega) (v := 64) (by rw [zI_toInt ⟨by omega, by omega⟩]; rfl) ?_
    refine g_al rfl rfl ?_
    refine g_gf rfl x2 rfl rfl ?_
    refine g_cv0 rfl rfl o1 rfl (by decide) rfl (c_houseCount hO) ?_
    rw [v_hc32 hp hC]
    exact g_reti rfl (rfl) rfl
  · subst hw
    refine g_tsI rfl (by rw [zI_toInt ⟨by omega, by omega⟩]; omega) (v := 72) (by rw [zI_toInt ⟨by omega, by omega⟩]; rfl) ?_
    refine g_al rfl rfl ?_
    refine g_gf rfl x2 rfl rfl ?_
    refine g_gf rfl o1 rfl rfl ?_
    exact g_reti rfl (rfl) rfl
  · subst hw
    refine g_tsI rfl (by rw [zI_toInt ⟨by omega, by omega⟩]; omega) (v := 80) (by rw [zI_toInt ⟨by omega, by omega⟩]; rfl) ?_
    refine g_al rfl rfl ?_
    refine g_gf rfl x2 rfl rfl ?_
    refine g_gf rfl t2 rfl rfl ?_
    exact g_reti rfl (rfl) rfl
  · refine g_tsO rfl (by rw [zI_toInt hw9]; exact hw) ?_
    refine g_ic rfl ?_
    exact g_reti rfl (by rw [if_neg (by omega), if_neg (by omega), if_neg (by omega), if_neg (by omega), if_neg (by omega), if_neg (by omega)]) rfl
theorem y_count {w : Int} (hw9 : z_sm w) : z_Yc S 163 [.int (zI w)] ((T, tx), (W, H, L), (hs, lot, n, kc), im, tr) (.int (zI (v_count W H L T n hs w))) ((T, tx), (W, H, L), (hs, lot, n, kc), im, tr) := by
  intro d M hY
  obtain ⟨y1, v, wd, hd, ld, nw, h, y3, y4, y5, y6, y7, y8⟩ := id hY
  have h : m_Y M tr v wd hd ld nw W H L hs lot n kc := h
  obtain ⟨⟨h1, h2, h3, h4, h5⟩, ⟨w1, w2, w3⟩, ⟨⟨hW1, hW2⟩, ⟨hH1, hH2⟩, ⟨hL1, hL2⟩, hn⟩, ⟨a1, a2, a3, a4⟩, hok⟩ := id h
  have hC := p_WH hW2 hH2
  refine ⟨M, ?_, hY, .rf⟩
  refine c_of rfl rfl (Nat.le_of_ble_eq_true rfl) ?_
  refine g_il rfl rfl ?_
  unfold v_count
  rcases (show w = 0 ∨ w = 1 ∨ w = 2 ∨ w = 3 ∨ w = 4 ∨ w = 5 ∨ (w < 0 ∨ 5 < w) by omega) with hw | hw | hw | hw | hw | hw | hw
  · subst hw
    refine g_tsI rfl (by rw [zI_toInt ⟨by omega, by omega⟩]; omega) (v := 40) (by rw [zI_toInt ⟨by omega, by omega⟩]; rfl) ?_
    refine g_al rfl rfl ?_
    refine g_gf rfl h1 rfl rfl ?_
    refine g_ic rfl ?_
    refine g_iaI rfl (by decide) h2 (by omega) (by omega) (by omega) ?_
    rw [show wd (Int.toNat 0) = zI (W : Int) from w1]
    exact g_reti rfl (rfl) rfl
  · subst hw
    refine g_tsI rfl (by rw [zI_toInt ⟨by omega, by omega⟩]; omega) (v := 47) (by rw [zI_toInt ⟨by omega, by omega⟩]; rfl) ?_
    refine g_al rfl rfl ?_
    refine g_gf rfl h1 rfl rfl ?_
    refine g_ic rfl ?_
    refine g_iaI rfl (by decide) h3 (by omega) (by omega) (by omega) ?_
    rw [show hd (Int.toNat 0) = zI (H : Int) from w2]
    exact g_reti rfl (rfl) rfl
  · subst hw
    refine g_tsI rfl (by rw [zI_toInt ⟨by omega, by omega⟩]; omega) (v := 54) (by rw [zI_toInt ⟨by omega, by omega⟩]; rfl) ?_
    refine g_al rfl rfl ?_
    refine g_gf rfl h1 rfl rfl ?_
    refine g_ic rfl ?_
    refine g_iaI rfl (by decide) h4 (by omega) (by omega) (by omega) ?_
    rw [show ld (Int.toNat 0) = zI (L : Int) from w3]
    exact g_reti rfl (rfl) rfl
  · subst hw
    refine g_tsI rfl (by rw [zI_toInt ⟨by omega, by omega⟩]; omega) (v := 61) (by rw [zI_toInt ⟨by omega, by omega⟩]; rfl) ?_
    refine g_al rfl rfl ?_
    refine g_cv0 rfl rfl h1 rfl (by decide) rfl (m_houses h1 h5 a1) ?_
    exact g_reti rfl (rfl) rfl
  · subst hw
    refine g_tsI rfl (by rw [zI_toInt ⟨by omega, by omega⟩]; omega) (v := 66) (by rw [zI_toInt ⟨by omega, by omega⟩]; rfl) ?_
    refine g_al rfl rfl ?_
    refine g_gf rfl h1 rfl rfl ?_
    refine g_ic rfl ?_
    refine g_iaI rfl (by decide) h5 (by omega) (by omega) (by omega) ?_
    rw [show nw (Int.toNat 1) = zI (n : Int) from a2]
    exact g_reti rfl (rfl) rfl
  · subst hw
    refine g_tsI rfl (by rw [zI_toInt ⟨by omega, by omega⟩]; omega) (v := 73) (by rw [zI_toInt ⟨by omega, by omega⟩]; rfl) ?_
    refine g_al rfl rfl ?_
    refine g_gf rfl h1 rfl rfl ?_
    exact g_reti rfl (by rw [y3]; rfl) rfl
  · refine g_tsO rfl (by rw [zI_toInt hw9]; exact hw) ?_
    refine g_ic rfl ?_
    exact g_reti rfl (by rw [if_neg (by omega), if_neg (by omega), if_neg (by omega), if_neg (by omega), if_neg (by omega), if_neg (by omega)]) rfl
theorem x_build (hp : p_in W H hs) {c : Int} (hc : z_sm c) : z_Xc S 85 [.int (zI c)] ((T, tx), (W, H, L), (hs, lot, n, kc), im, tr) (.int (zI (v_build W H n hs kc c))) ((T, tx), (W, H, L), (h_build W H n hs kc c, lot, n, kc), im, tr) := by
  intro d M hX
  obtain ⟨x1, x2, x3, x4, x5, x6, x7, x8⟩ := id hX
  have hA : k_A M 1 W H L hs lot n kc := x3
  obtain ⟨ha, hO, ch, hR, hk9⟩ := id hA
  obtain ⟨o1, ⟨hW1, hW2⟩, ⟨hH1, hH2⟩, ⟨hL1, hL2⟩, hn⟩ := id hO
  have hC := p_WH hW2 hH2
  have hTR : p_trod (fun k => (ch k).2.2.2.1) n = v_trod W H n kc := p_trod_c (fun k hk => (hk9 k hk).2.2.2.2.1)
  unfold v_build h_build
  by_cases h0 : 0 ≤ c ∧ c < ((W * H : Nat) : Int)
  · obtain ⟨q, rfl⟩ : ∃ q : Nat, c = (q : Int) := ⟨c.toNat, by omega⟩
    rw [Int.toNat_natCast]
    by_cases h2 : ¬ bt hs q = true ∧ ¬ bt (v_trod W H n kc) q = true
    · rw [if_pos h0, if_pos h2, if_pos ⟨h0, h2⟩]
      refine ⟨_, ?_, hX.site (b' := (h_add hs q, lot, n, kc)) (.set (by omega)) (hA.house (hs' := h_add hs q) (h_add_ok hC (show q < W * H by omega) h2.2 (fun k hk => (hk9 k hk).1))), .set (by omega)⟩
      refine c_of rfl rfl (Nat.le_of_ble_eq_true rfl) ?_
      refine g_al rfl rfl ?_
      refine g_gf rfl x2 rfl rfl ?_
      refine g_il rfl rfl ?_
      refine g_cv1 rfl rfl o1 rfl (by decide) rfl (c_has hO hc) ?_
      rw [if_pos h0]
      refine g_ifT rfl (zcT1 ⟨by omega, by omega⟩ ⟨by omega, by omega⟩ (by decide)) ?_
      refine g_al rfl rfl ?_
      refine g_gf rfl x2 rfl rfl ?_
      refine g_il rfl rfl ?_
      refine g_cv1 rfl rfl o1 rfl (by decide) rfl (c_isOpen hO hR hc) ?_
      rw [hTR, if_pos ⟨h0.1, h0.2, h2.1, h2.2⟩]
      refine g_ifT rfl (zcT1 ⟨by omega, by omega⟩ ⟨by omega, by omega⟩ (by decide)) ?_
      refine g_al rfl rfl ?_
      refine g_gf rfl x2 rfl rfl ?_
      refine g_dupA rfl ?_
      refine g_gf rfl o1 rfl rfl ?_
      refine g_ic rfl ?_
      refine g_il rfl rfl ?_
      refine g_ishl rfl ?_
      refine g_ior rfl ?_
      refine g_pf3 rfl o1 rfl rfl rfl (Or.inl rfl) ?_
      refine g_al rfl rfl ?_
      refine g_gf rfl (z_gn (by decide) x2) rfl rfl ?_
      refine g_cv0 rfl rfl (z_gs o1) rfl (by decide) rfl (c_houseCount (W := W) (H := H) (L := L) (hs := h_add hs q) (n := n) (lot := lot) ⟨z_gs o1, ⟨hW1, hW2⟩, ⟨hH1, hH2⟩, ⟨hL1, hL2⟩, hn⟩) ?_
      rw [v_hc32 (h_add_in hC (show q < W * H by omega) hp) hC]
      exact g_reti rfl (rfl) rfl
    · rw [if_pos h0, if_neg h2, if_neg (fun g => h2 g.2)]
      refine ⟨M, ?_, hX, .rf⟩
      refine c_of rfl rfl (Nat.le_of_ble_eq_true rfl) ?_
      refine g_al rfl rfl ?_
      refine g_gf rfl x2 rfl rfl ?_
      refine g_il rfl rfl ?_
      refine g_cv1 rfl rfl o1 rfl (by decide) rfl (c_has hO hc) ?_
      rw [if_pos h0]
      refine g_ifT rfl (zcT1 ⟨by omega, by omega⟩ ⟨by omega, by omega⟩ (by decide)) ?_
      refine g_al rfl rfl ?_
      refine g_gf rfl x2 rfl rfl ?_
      refine g_il rfl rfl ?_
      refine g_cv1 rfl rfl o1 rfl (by decide) rfl (c_isOpen hO hR hc) ?_
      rw [hTR, if_neg (fun g => h2 ⟨g.2.2.1, g.2.2.2⟩)]
      refine g_ifF rfl (zcF1 (rfl)) ?_
      refine g_ic rfl ?_
      exact g_reti rfl (rfl) rfl
  · rw [if_neg h0, if_neg (fun g => h0 g.1)]
    refine ⟨M, ?_, hX, .rf⟩
    refine c_of rfl rfl (Nat.le_of_ble_eq_true rfl) ?_
    refine g_al rfl rfl ?_
    refine g_gf rfl x2 rfl rfl ?_
    refine g_il rfl rfl ?_
    refine g_cv1 rfl rfl o1 rfl (by decide) rfl (c_has hO hc) ?_
    rw [if_neg h0]
    refine g_ifF rfl (zcF1 (rfl)) ?_
    refine g_ic rfl ?_
    exact g_reti rfl (rfl) rfl
theorem y_build {c : Int} (hc : z_sm c) : z_Yc S 153 [.int (zI c)] ((T, tx), (W, H, L), (hs, lot, n, kc), im, tr) (.int (zI (v_build W H n hs kc c))) ((T, tx), (W, H, L), (h_build W H n hs kc c, lot, n, kc), im, tr) := by
  intro d M hY
  obtain ⟨y1, v, wd, hd, ld, nw, h, y3, y4, y5, y6, y7, y8⟩ := id hY
  have h : m_Y M tr v wd hd ld nw W H L hs lot n kc := h
  obtain ⟨⟨h1, h2', h3, h4, h5⟩, ⟨w1, w2, w3⟩, ⟨⟨hW1, hW2⟩, ⟨hH1, hH2⟩, ⟨hL1, hL2⟩, hn⟩, ⟨a1, a2, a3, a4⟩, hok⟩ := id h
  have hC := p_WH hW2 hH2
  unfold v_build h_build
  by_cases h0 : 0 ≤ c ∧ c < ((W * H : Nat) : Int)
  · obtain ⟨q, rfl⟩ : ∃ q : Nat, c = (q : Int) := ⟨c.toNat, by omega⟩
    rw [Int.toNat_natCast]
    by_cases h2 : ¬ bt hs q = true ∧ ¬ bt (v_trod W H n kc) q = true
    · rw [if_pos h0, if_pos h2, if_pos ⟨h0, h2⟩]
      refine ⟨_, ?_, hY.now (b' := (h_add hs q, lot, n, kc)) (nw' := upd nw (Int.toNat 0) (h_add hs q)) ⟨h1, h2', h3, h4, h5⟩ (fun j hj => pk_un (by show j ≠ 0; omega)) ⟨pk_us, (pk_un (by decide)).trans a2, (pk_un (by decide)).trans a3, fun k hk => ⟨(pk_un (by show _ ≠ 0; omega)).trans (a4 k hk).1, (pk_un (by show _ ≠ 0; omega)).trans (a4 k hk).2.1, fun j hj => (pk_un (by show _ ≠ 0; omega)).trans ((a4 k hk).2.2 j hj)⟩⟩ hn (h_add_ok hC (show q < W * H by omega) h2.2 hok), .set (by omega)⟩
      refine c_of rfl rfl (Nat.le_of_ble_eq_true rfl) ?_
      refine g_al rfl rfl ?_
      refine g_il rfl rfl ?_
      refine g_cv1 rfl rfl h1 rfl (by decide) rfl (m_isCell h hc) ?_
      rw [if_pos h0]
      refine g_ifT rfl (zcT1 ⟨by omega, by omega⟩ ⟨by omega, by omega⟩ (by decide)) ?_
      refine g_al rfl rfl ?_
      refine g_il rfl rfl ?_
      refine g_cv1 rfl rfl h1 rfl (by decide) rfl (m_cell h hc) ?_
      rw [show v_cell W H hs n kc (q : Int) = 0 by unfold v_cell; rw [if_pos h0, Int.toNat_natCast, if_neg h2.1, if_neg h2.2]]
      refine g_ifT rfl (zcT0 (rfl)) ?_
      refine g_al rfl rfl ?_
      refine g_gf rfl h1 rfl rfl ?_
      refine g_ic rfl ?_
      refine g_dup2 rfl ?_
      refine g_iaI rfl (by decide) h5 (by omega) (by omega) (by omega) ?_
      rw [show nw (Int.toNat 0) = hs from a1]
      refine g_ic rfl ?_
      refine g_il rfl rfl ?_
      refine g_ishl rfl ?_
      refine g_ior rfl ?_
      refine g_iSI rfl h5 (by omega) (by omega) (by omega) ?_
      refine g_al rfl rfl ?_
      refine g_cv0 rfl rfl (z_gn (by decide) h1) rfl (by decide) rfl (m_houses (hs := h_add hs q) (z_gn (by decide) h1) (z_gs h5) pk_us) ?_
      exact g_reti rfl (rfl) rfl
    · rw [if_pos h0, if_neg h2, if_neg (fun g => h2 g.2)]
      refine ⟨M, ?_, hY, .rf⟩
      refine c_of rfl rfl (Nat.le_of_ble_eq_true rfl) ?_
      refine g_al rfl rfl ?_
      refine g_il rfl rfl ?_
      refine g_cv1 rfl rfl h1 rfl (by decide) rfl (m_isCell h hc) ?_
      rw [if_pos h0]
      refine g_ifT rfl (zcT1 ⟨by omega, by omega⟩ ⟨by omega, by omega⟩ (by decide)) ?_
      refine g_al rfl rfl ?_
      refine g_il rfl rfl ?_
      refine g_cv1 rfl rfl h1 rfl (by decide) rfl (m_cell h hc) ?_
      have e9 : v_cell W H hs n kc (q : Int) = 1 ∨ v_cell W H hs n kc (q : Int) = 2 := by
        unfold v_cell
        rw [if_pos h0, Int.toNat_natCast]
        by_cases g1 : bt hs q = true
        · exact Or.inl (if_pos g1)
        · rw [if_neg g1]
          by_cases g2 : bt (v_trod W H n kc) q = true
          · exact Or.inr (if_pos g2)
          · exact absurd ⟨g1, g2⟩ h2
      refine g_ifF rfl (zcF0 ⟨by omega, by omega⟩ ⟨by omega, by omega⟩ (by omega)) ?_
      refine g_ic rfl ?_
      exact g_reti rfl (rfl) rfl
  · rw [if_neg h0, if_neg (fun g => h0 g.1)]
    refine ⟨M, ?_, hY, .rf⟩
    refine c_of rfl rfl (Nat.le_of_ble_eq_true rfl) ?_
    refine g_al rfl rfl ?_
    refine g_il rfl rfl ?_
    refine g_cv1 rfl rfl h1 rfl (by decide) rfl (m_isCell h hc) ?_
    rw [if_neg h0]
    refine g_ifF rfl (zcF1 (rfl)) ?_
    refine g_ic rfl ?_
    exact g_reti rfl (rfl) rfl
theorem x_raze (hp : p_in W H hs) {c : Int} (hc : z_sm c) : z_Xc S 86 [.int (zI c)] ((T, tx), (W, H, L), (hs, lot, n, kc), im, tr) (.int (zI (v_raze W H hs c))) ((T, tx), (W, H, L), (h_raze W H hs c, lot, n, kc), im, tr) := by
  intro d M hX
  obtain ⟨x1, x2, x3, x4, x5, x6, x7, x8⟩ := id hX
  have hA : k_A M 1 W H L hs lot n kc := x3
  obtain ⟨ha, hO, ch, hR, hk9⟩ := id hA
  obtain ⟨o1, ⟨hW1, hW2⟩, ⟨hH1, hH2⟩, ⟨hL1, hL2⟩, hn⟩ := id hO
  have hC := p_WH hW2 hH2
  have hTR : p_trod (fun k => (ch k).2.2.2.1) n = v_trod W H n kc := p_trod_c (fun k hk => (hk9 k hk).2.2.2.2.1)
  unfold v_raze h_raze
  by_cases h0 : 0 ≤ c ∧ c < ((W * H : Nat) : Int)
  · obtain ⟨q, rfl⟩ : ∃ q : Nat, c = (q : Int) := ⟨c.toNat, by omega⟩
    rw [Int.toNat_natCast]
    by_cases h2 : bt hs q = true
    · rw [if_pos h0, if_pos h2, if_pos ⟨h0, h2⟩]
      refine ⟨_, ?_, hX.site (b' := (h_del hs q, lot, n, kc)) (.set (by omega)) (hA.house (hs' := h_del hs q) (h_del_ok hC (show q < W * H by omega) (fun k hk => (hk9 k hk).1))), .set (by omega)⟩
      refine c_of rfl rfl (Nat.le_of_ble_eq_true rfl) ?_
      refine g_al rfl rfl ?_
      refine g_gf rfl x2 rfl rfl ?_
      refine g_il rfl rfl ?_
      refine g_cv1 rfl rfl o1 rfl (by decide) rfl (c_has hO hc) ?_
      rw [if_pos h0]
      refine g_ifT rfl (zcT1 ⟨by omega, by omega⟩ ⟨by omega, by omega⟩ (by decide)) ?_
      refine g_al rfl rfl ?_
      refine g_gf rfl x2 rfl rfl ?_
      refine g_il rfl rfl ?_
      refine g_cv1 rfl rfl o1 rfl (by decide) rfl (c_isHouse hO hc) ?_
      rw [if_pos ⟨h0.1, h0.2, h2⟩]
      refine g_ifT rfl (zcT1 ⟨by omega, by omega⟩ ⟨by omega, by omega⟩ (by decide)) ?_
      refine g_al rfl rfl ?_
      refine g_gf rfl x2 rfl rfl ?_
      refine g_dupA rfl ?_
      refine g_gf rfl o1 rfl rfl ?_
      refine g_ic rfl ?_
      refine g_il rfl rfl ?_
      refine g_ishl rfl ?_
      refine g_ic rfl ?_
      refine g_ixor rfl ?_
      refine g_iand rfl ?_
      refine g_pf3 rfl o1 rfl rfl rfl (Or.inl rfl) ?_
      refine g_al rfl rfl ?_
      refine g_gf rfl (z_gn (by decide) x2) rfl rfl ?_
      refine g_cv0 rfl rfl (z_gs o1) rfl (by decide) rfl (c_houseCount (W := W) (H := H) (L := L) (hs := h_del hs q) (n := n) (lot := lot) ⟨z_gs o1, ⟨hW1, hW2⟩, ⟨hH1, hH2⟩, ⟨hL1, hL2⟩, hn⟩) ?_
      rw [v_hc32 (h_del_in hC (show q < W * H by omega) hp) hC]
      exact g_reti rfl (rfl) rfl
    · rw [if_pos h0, if_neg h2, if_neg (fun g => h2 g.2)]
      refine ⟨M, ?_, hX, .rf⟩
      refine c_of rfl rfl (Nat.le_of_ble_eq_true rfl) ?_
      refine g_al rfl rfl ?_
      refine g_gf rfl x2 rfl rfl ?_
      refine g_il rfl rfl ?_
      refine g_cv1 rfl rfl o1 rfl (by decide) rfl (c_has hO hc) ?_
      rw [if_pos h0]
      refine g_ifT rfl (zcT1 ⟨by omega, by omega⟩ ⟨by omega, by omega⟩ (by decide)) ?_
      refine g_al rfl rfl ?_
      refine g_gf rfl x2 rfl rfl ?_
      refine g_il rfl rfl ?_
      refine g_cv1 rfl rfl o1 rfl (by decide) rfl (c_isHouse hO hc) ?_
      rw [if_neg (fun g => h2 g.2.2)]
      refine g_ifF rfl (zcF1 (rfl)) ?_
      refine g_ic rfl ?_
      exact g_reti rfl (rfl) rfl
  · rw [if_neg h0, if_neg (fun g => h0 g.1)]
    refine ⟨M, ?_, hX, .rf⟩
    refine c_of rfl rfl (Nat.le_of_ble_eq_true rfl) ?_
    refine g_al rfl rfl ?_
    refine g_gf rfl x2 rfl rfl ?_
    refine g_il rfl rfl ?_
    refine g_cv1 rfl rfl o1 rfl (by decide) rfl (c_has hO hc) ?_
    rw [if_neg h0]
    refine g_ifF rfl (zcF1 (rfl)) ?_
    refine g_ic rfl ?_
    exact g_reti rfl (rfl) rfl
theorem y_raze {c : Int} (hc : z_sm c) : z_Yc S 154 [.int (zI c)] ((T, tx), (W, H, L), (hs, lot, n, kc), im, tr) (.int (zI (v_raze W H hs c))) ((T, tx), (W, H, L), (h_raze W H hs c, lot, n, kc), im, tr) := by
  intro d M hY
  obtain ⟨y1, v, wd, hd, ld, nw, h, y3, y4, y5, y6, y7, y8⟩ := id hY
  have h : m_Y M tr v wd hd ld nw W H L hs lot n kc := h
  obtain ⟨⟨h1, h2', h3, h4, h5⟩, ⟨w1, w2, w3⟩, ⟨⟨hW1, hW2⟩, ⟨hH1, hH2⟩, ⟨hL1, hL2⟩, hn⟩, ⟨a1, a2, a3, a4⟩, hok⟩ := id h
  have hC := p_WH hW2 hH2
  unfold v_raze h_raze
  by_cases h0 : 0 ≤ c ∧ c < ((W * H : Nat) : Int)
  · obtain ⟨q, rfl⟩ : ∃ q : Nat, c = (q : Int) := ⟨c.toNat, by omega⟩
    rw [Int.toNat_natCast]
    by_cases h2 : bt hs q = true
    · rw [if_pos h0, if_pos h2, if_pos ⟨h0, h2⟩]
      refine ⟨_, ?_, hY.now (b' := (h_del hs q, lot, n, kc)) (nw' := upd nw (Int.toNat 0) (h_del hs q)) ⟨h1, h2', h3, h4, h5⟩ (fun j hj => pk_un (by show j ≠ 0; omega)) ⟨pk_us, (pk_un (by decide)).trans a2, (pk_un (by decide)).trans a3, fun k hk => ⟨(pk_un (by show _ ≠ 0; omega)).trans (a4 k hk).1, (pk_un (by show _ ≠ 0; omega)).trans (a4 k hk).2.1, fun j hj => (pk_un (by show _ ≠ 0; omega)).trans ((a4 k hk).2.2 j hj)⟩⟩ hn (h_del_ok hC (show q < W * H by omega) hok), .set (by omega)⟩
      refine c_of rfl rfl (Nat.le_of_ble_eq_true rfl) ?_
      refine g_al rfl rfl ?_
      refine g_il rfl rfl ?_
      refine g_cv1 rfl rfl h1 rfl (by decide) rfl (m_isCell h hc) ?_
      rw [if_pos h0]
      refine g_ifT rfl (zcT1 ⟨by omega, by omega⟩ ⟨by omega, by omega⟩ (by decide)) ?_
      refine g_al rfl rfl ?_
      refine g_il rfl rfl ?_
      refine g_cv1 rfl rfl h1 rfl (by decide) rfl (m_isHouse h (c := q) (by omega)) ?_
      rw [if_pos h2]
      refine g_ifT rfl (zcT1 ⟨by omega, by omega⟩ ⟨by omega, by omega⟩ (by decide)) ?_
      refine g_al rfl rfl ?_
      refine g_gf rfl h1 rfl rfl ?_
      refine g_ic rfl ?_
      refine g_dup2 rfl ?_
      refine g_iaI rfl (by decide) h5 (by omega) (by omega) (by omega) ?_
      rw [show nw (Int.toNat 0) = hs from a1]
      refine g_ic rfl ?_
      refine g_il rfl rfl ?_
      refine g_ishl rfl ?_
      refine g_ic rfl ?_
      refine g_ixor rfl ?_
      refine g_iand rfl ?_
      refine g_iSI rfl h5 (by omega) (by omega) (by omega) ?_
      refine g_al rfl rfl ?_
      refine g_cv0 rfl rfl (z_gn (by decide) h1) rfl (by decide) rfl (m_houses (hs := h_del hs q) (z_gn (by decide) h1) (z_gs h5) pk_us) ?_
      exact g_reti rfl (rfl) rfl
    · rw [if_pos h0, if_neg h2, if_neg (fun g => h2 g.2)]
      refine ⟨M, ?_, hY, .rf⟩
      refine c_of rfl rfl (Nat.le_of_ble_eq_true rfl) ?_
      refine g_al rfl rfl ?_
      refine g_il rfl rfl ?_
      refine g_cv1 rfl rfl h1 rfl (by decide) rfl (m_isCell h hc) ?_
      rw [if_pos h0]
      refine g_ifT rfl (zcT1 ⟨by omega, by omega⟩ ⟨by omega, by omega⟩ (by decide)) ?_
      refine g_al rfl rfl ?_
      refine g_il rfl rfl ?_
      refine g_cv1 rfl rfl h1 rfl (by decide) rfl (m_isHouse h (c := q) (by omega)) ?_
      rw [if_neg h2]
      refine g_ifF rfl (zcF1 (rfl)) ?_
      refine g_ic rfl ?_
      exact g_reti rfl (rfl) rfl
  · rw [if_neg h0, if_neg (fun g => h0 g.1)]
    refine ⟨M, ?_, hY, .rf⟩
    refine c_of rfl rfl (Nat.le_of_ble_eq_true rfl) ?_
    refine g_al rfl rfl ?_
    refine g_il rfl rfl ?_
    refine g_cv1 rfl rfl h1 rfl (by decide) rfl (m_isCell h hc) ?_
    rw [if_neg h0]
    refine g_ifF rfl (zcF1 (rfl)) ?_
    refine g_ic rfl ?_
    exact g_reti rfl (rfl) rfl
end PB
