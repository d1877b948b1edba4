/-! ways, both sides -/
abbrev p_fr2 (W H : Nat) (hs : Int32) (c : Int) : Prop := 0 ≤ c ∧ c < ((W * H : Nat) : Int) ∧ ¬ bt hs c.toNat = true
def v_ways (W H L : Nat) (hs : Int32) (a b n : Int) : Int64 := if p_fr2 W H hs a ∧ p_fr2 W H hs b ∧ 0 ≤ n ∧ n ≤ 20 then p_cnt (p_aC W H L hs) b.toNat n.toNat (13 * a.toNat) else Int64.ofInt (-1)
section WB
variable {S : ZS} {d : Nat} {M : ZM} {T : Nat} {tx : Nat → Int32} {W H L n : Nat} {hs lot : Int32} {kc : Nat → ZK} {im : Nat → Option ZB} {tr : Int64}
theorem x_ways {a b m : Int} (ha9 : z_sm a) (hb : z_sm b) (hm : z_sm m) : z_Xc S 79 [.int (zI a), .int (zI b), .int (zI m)] ((T, tx), (W, H, L), (hs, lot, n, kc), im, tr) (.long (v_ways W H L hs a b m)) ((T, tx), (W, H, L), (hs, lot, n, kc), im, tr) := by
  intro d M hX
  obtain ⟨x1, x2, x3, x4, x5, x6, x7, x8⟩ := id hX
  have hA : k_A M 1 W H L hs lot n kc := x3
  obtain ⟨ha, hO, ch, hR, hk9⟩ := id hA
  obtain ⟨o1, ⟨hW1, hW2⟩, ⟨hH1, hH2⟩, ⟨hL1, hL2⟩, hn⟩ := id hO
  have hC := p_WH hW2 hH2
  unfold v_ways p_fr2
  refine k_an ?_
  refine k_of rfl rfl (Nat.le_of_ble_eq_true rfl) ?_
  refine r_al rfl rfl ?_
  refine r_gf rfl x2 rfl rfl ?_
  refine r_il rfl rfl ?_
  refine r_cv1 rfl rfl o1 rfl (by decide) rfl (c_isFree hO ha9) ?_
  by_cases h1 : 0 ≤ a ∧ a < ((W * H : Nat) : Int) ∧ ¬ bt hs a.toNat = true
  · rw [if_pos h1]
    refine r_ifF rfl (zcF0 ⟨by omega, by omega⟩ ⟨by omega, by omega⟩ (by decide)) ?_
    refine r_al rfl rfl ?_
    refine r_gf rfl x2 rfl rfl ?_
    refine r_il rfl rfl ?_
    refine r_cv1 rfl rfl o1 rfl (by decide) rfl (c_isFree hO hb) ?_
    by_cases h2 : 0 ≤ b ∧ b < ((W * H : Nat) : Int) ∧ ¬ bt hs b.toNat = true
    · rw [if_pos h2]
      refine r_ifF rfl (zcF0 ⟨by omega, by omega⟩ ⟨by omega, by omega⟩ (by decide)) ?_
      refine r_il rfl rfl ?_
      by_cases h3 : m < 0
      · rw [if_neg (fun g => by have := g.2.2.1; omega)]
        refine r_ifT rfl (zcT2 ⟨by omega, by omega⟩ ⟨by omega, by omega⟩ (h3)) ?_
        refine r_lc rfl ?_
        refine r_retl rfl rfl ?_
        exact ⟨rfl, hX, .rf⟩
      · refine r_ifF rfl (zcF2 ⟨by omega, by omega⟩ ⟨by omega, by omega⟩ (h3)) ?_
        refine r_il rfl rfl ?_
        refine r_ic rfl ?_
        by_cases h4 : 20 < m
        · rw [if_neg (fun g => by have := g.2.2.2; omega)]
          refine r_icF rfl (zcF5 ⟨by omega, by omega⟩ ⟨by omega, by omega⟩ (h4)) ?_
          refine r_lc rfl ?_
          refine r_retl rfl rfl ?_
          exact ⟨rfl, hX, .rf⟩
        · rw [if_pos ⟨h1, h2, by omega, by omega⟩]
          refine r_icT rfl (zcT5 ⟨by omega, by omega⟩ ⟨by omega, by omega⟩ (by omega)) ?_
          refine r_al rfl rfl ?_
          refine r_gf rfl x2 rfl rfl ?_
          refine r_al rfl rfl ?_
          refine r_gf rfl x2 rfl rfl ?_
          refine r_il rfl rfl ?_
          refine r_il rfl rfl ?_
          refine r_il rfl rfl ?_
          obtain ⟨qa, rfl⟩ : ∃ q : Nat, a = (q : Int) := ⟨a.toNat, by omega⟩
          obtain ⟨qb, rfl⟩ : ∃ q : Nat, b = (q : Int) := ⟨b.toNat, by omega⟩
          obtain ⟨qm, rfl⟩ : ∃ q : Nat, m = (q : Int) := ⟨m.toNat, by omega⟩
          rw [Int.toNat_natCast, Int.toNat_natCast, Int.toNat_natCast]
          obtain ⟨M2, k2, e2, w2⟩ := c_howMany (S := S) (d := d + 15) hO x5 (a := qa) (b := qb) (n := qm) (by omega) (by omega) (by omega)
          obtain ⟨⟨u1, u2, v25⟩, -⟩ := id x5
          refine r_cv4 rfl rfl v25 rfl (by decide) rfl (k2) ?_
          refine r_retl rfl rfl ?_
          exact ⟨rfl, hX.walk e2 w2, e2.wk (fun k g => by omega)⟩
    · rw [if_neg h2, if_neg (fun g => h2 g.2.1)]
      refine r_ifT rfl (zcT0 (rfl)) ?_
      refine r_lc rfl ?_
      refine r_retl rfl rfl ?_
      exact ⟨rfl, hX, .rf⟩
  · rw [if_neg h1, if_neg (fun g => h1 g.1)]
    refine r_ifT rfl (zcT0 (rfl)) ?_
    refine r_lc rfl ?_
    refine r_retl rfl rfl ?_
    exact ⟨rfl, hX, .rf⟩
theorem m_ways_s {v wd hd ld nw : Nat → Int32} {a b m : Nat} (hY : m_Y M tr v wd hd ld nw W H L hs lot n kc) {k p : Nat} (hp : p < (13 * (W * H))) {Q : Option Value → ZM → Prop} (hx : ∀ (M1 : ZM) (x : Option Value), (z_ev M M1 (fun k => k = 70 ∨ k = 71) ∧ ∃ f g, M1[70]? = some (zJ 325 f) ∧ M1[71]? = some (zJ 325 g) ∧ (∀ q, q < (13 * (W * H)) → f q = p_cnt (p_aR W H L hs) b k q) ∧ (∀ q, q < p + 1 → g q = p_cnt (p_aR W H L hs) b (k + 1) q)) → z_R S (d + 3) 139 80 [some (.ref 62), some (.int (zI (a : Int))), some (.int (zI (b : Int))), some (.int (zI (m : Int))), some (.int (zI (k : Int))), some (.int (zI ((p + 1 : Nat) : Int))), x] [] M1 Q) : ∀ (j s : Nat) (M1 : ZM), s + j = 4 → (z_ev M M1 (fun k => k = 70 ∨ k = 71) ∧ ∃ f g, M1[70]? = some (zJ 325 f) ∧ M1[71]? = some (zJ 325 g) ∧ (∀ q, q < (13 * (W * H)) → f q = p_cnt (p_aR W H L hs) b k q) ∧ ((∀ q, q < p → g q = p_cnt (p_aR W H L hs) b (k + 1) q) ∧ g p = p_sum4 (p_aR W H L hs) (p_cnt (p_aR W H L hs) b k) p s)) → z_R S (d + 3) 139 103 [some (.ref 62), some (.int (zI (a : Int))), some (.int (zI (b : Int))), some (.int (zI (m : Int))), some (.int (zI (k : Int))), some (.int (zI (p : Int))), some (.int (zI (s : Int)))] [] M1 Q := by
  intro j
  induction j with
  | zero =>
    intro s M1 hs9 hI
    obtain ⟨he, f, g, g1, g2, hf, hg⟩ := hI
    have h := hY.ev he (fun k x1 x2 => by omega)
    obtain ⟨⟨h1, h2, h3, h4, h5⟩, ⟨w1, w2, w3⟩, ⟨⟨hW1, hW2⟩, ⟨hH1, hH2⟩, ⟨hL1, hL2⟩, hn⟩, ⟨a1, a2, a3, a4⟩, hok⟩ := id h
    have hC := p_WH hW2 hH2
    refine r_il rfl rfl ?_
    refine r_ic rfl ?_
    refine r_icT rfl (zcT3 ⟨by omega, by omega⟩ ⟨by omega, by omega⟩ (by omega)) ?_
    refine r_jj5 rfl rfl ?_
    refine r_goto rfl ?_
    refine hx M1 _ ⟨he, f, g, g1, g2, hf, fun q hq => ?_⟩
    by_cases e : q = p
    · subst e
      rw [hg.2, show s = 4 by omega]
      rfl
    · exact hg.1 q (by omega)
  | succ j ih =>
    intro s M1 hs9 hI
    obtain ⟨he, f, g, g1, g2, hf, hg⟩ := hI
    have h := hY.ev he (fun k x1 x2 => by omega)
    obtain ⟨⟨h1, h2, h3, h4, h5⟩, ⟨w1, w2, w3⟩, ⟨⟨hW1, hW2⟩, ⟨hH1, hH2⟩, ⟨hL1, hL2⟩, hn⟩, ⟨a1, a2, a3, a4⟩, hok⟩ := id h
    have hC := p_WH hW2 hH2
    refine r_il rfl rfl ?_
    refine r_ic rfl ?_
    refine r_icF rfl (zcF3 ⟨by omega, by omega⟩ ⟨by omega, by omega⟩ (by omega)) ?_
    refine r_al rfl rfl ?_
    refine r_gf rfl h1 rfl rfl ?_
    refine r_il rfl rfl ?_
    refine r_dup2 rfl ?_
    refine r_jaI rfl g2 (by omega) (by omega) (by omega) ?_
    rw [Int.toNat_natCast]
    refine r_al rfl rfl ?_
    refine r_il rfl rfl ?_
    refine r_il rfl rfl ?_
    refine r_cv2 rfl rfl h1 rfl (by decide) rfl (m_after h (p := p) (s := s) hp (by omega)) ?_
    refine r_ic rfl ?_
    rcases ha : p_aR W H L hs p s with - | q
    · rw [show oI none (-9) = -9 from rfl]
      refine r_icF rfl (zcF1 (rfl)) ?_
      refine r_lc rfl ?_
      refine r_goto rfl ?_
      refine r_ladd rfl ?_
      refine r_jSI rfl g2 (by omega) (by omega) (by omega) ?_
      refine r_jj6 rfl rfl ?_
      refine r_goto rfl ?_
      refine ih (s + 1) _ (by omega) ⟨he.tr (.set (Or.inr rfl)), f, _, z_gn (by decide) g1, z_gs g2, hf, fun q hq => ?_, ?_⟩
      · rw [Int.toNat_natCast, ul_n (by omega)]
        exact hg.1 q hq
      · rw [Int.toNat_natCast, ul_s, hg.2]
        show _ = p_sum4 (p_aR W H L hs) (p_cnt (p_aR W H L hs) b k) p s + p_hv (p_cnt (p_aR W H L hs) b k) (p_aR W H L hs p s)
        rw [ha]
        rfl
    · have hq := p_aR_lt (by omega) hp ha
      rw [show oI (some q) (-9) = (q : Int) from rfl]
      refine r_icT rfl (zcT1 ⟨by omega, by omega⟩ ⟨by omega, by omega⟩ (by omega)) ?_
      refine r_al rfl rfl ?_
      refine r_gf rfl h1 rfl rfl ?_
      refine r_al rfl rfl ?_
      refine r_il rfl rfl ?_
      refine r_il rfl rfl ?_
      refine r_cv2 rfl rfl h1 rfl (by decide) rfl (m_after h (p := p) (s := s) hp (by omega)) ?_
      rw [ha, show oI (some q) (-9) = (q : Int) from rfl]
      refine r_jaI rfl g1 (by omega) (by omega) (by omega) ?_
      rw [Int.toNat_natCast, hf q hq]
      refine r_ladd rfl ?_
      refine r_jSI rfl g2 (by omega) (by omega) (by omega) ?_
      refine r_jj6 rfl rfl ?_
      refine r_goto rfl ?_
      refine ih (s + 1) _ (by omega) ⟨he.tr (.set (Or.inr rfl)), f, _, z_gn (by decide) g1, z_gs g2, hf, fun q hq => ?_, ?_⟩
      · rw [Int.toNat_natCast, ul_n (by omega)]
        exact hg.1 q hq
      · rw [Int.toNat_natCast, ul_s, hg.2]
        show _ = p_sum4 (p_aR W H L hs) (p_cnt (p_aR W H L hs) b k) p s + p_hv (p_cnt (p_aR W H L hs) b k) (p_aR W H L hs p s)
        rw [ha]
        rfl
theorem m_ways_p {v wd hd ld nw : Nat → Int32} {a b m : Nat} (hY : m_Y M tr v wd hd ld nw W H L hs lot n kc) {k : Nat} {Q : Option Value → ZM → Prop} (hx : ∀ (M1 : ZM) (x : Option Value), (z_ev M M1 (fun k => k = 70 ∨ k = 71) ∧ ∃ f g, M1[70]? = some (zJ 325 f) ∧ M1[71]? = some (zJ 325 g) ∧ (∀ q, q < 0 → f q = p_cnt (p_aR W H L hs) b (k + 1) q) ∧ (∀ q, q < (13 * (W * H)) → g q = p_cnt (p_aR W H L hs) b (k + 1) q)) → z_R S (d + 3) 139 164 [some (.ref 62), some (.int (zI (a : Int))), some (.int (zI (b : Int))), some (.int (zI (m : Int))), some (.int (zI (k : Int))), some (.int (zI 0)), x] [] M1 Q) : ∀ (j p : Nat) (M1 : ZM) (x : Option Value), p + j = (13 * (W * H)) → (z_ev M M1 (fun k => k = 70 ∨ k = 71) ∧ ∃ f g, M1[70]? = some (zJ 325 f) ∧ M1[71]? = some (zJ 325 g) ∧ (∀ q, q < (13 * (W * H)) → f q = p_cnt (p_aR W H L hs) b k q) ∧ (∀ q, q < p → g q = p_cnt (p_aR W H L hs) b (k + 1) q)) → z_R S (d + 3) 139 80 [some (.ref 62), some (.int (zI (a : Int))), some (.int (zI (b : Int))), some (.int (zI (m : Int))), some (.int (zI (k : Int))), some (.int (zI (p : Int))), x] [] M1 Q := by
  intro j
  induction j with
  | zero =>
    intro p M1 x hp9 hI
    obtain ⟨he, f, g, g1, g2, hf, hg⟩ := hI
    have h := hY.ev he (fun k x1 x2 => by omega)
    obtain ⟨⟨h1, h2, h3, h4, h5⟩, ⟨w1, w2, w3⟩, ⟨⟨hW1, hW2⟩, ⟨hH1, hH2⟩, ⟨hL1, hL2⟩, hn⟩, ⟨a1, a2, a3, a4⟩, hok⟩ := id h
    have hC := p_WH hW2 hH2
    refine r_il rfl rfl ?_
    refine r_ic rfl ?_
    refine r_al rfl rfl ?_
    refine r_cv0 rfl rfl h1 rfl (by decide) rfl (m_cells h) ?_
    refine r_mulI rfl ?_
    rw [show (13 : Int) * ((W * H : Nat) : Int) = (((13 * (W * H)) : Nat) : Int) by omega]
    refine r_icT rfl (zcT3 ⟨by omega, by omega⟩ ⟨by omega, by omega⟩ (by omega)) ?_
    refine r_ic rfl ?_
    refine r_is5 rfl rfl ?_
    exact hx M1 _ ⟨he, f, g, g1, g2, fun q hq => by omega, fun q hq => hg q (by omega)⟩
  | succ j ih =>
    intro p M1 x hp9 hI
    obtain ⟨he, f, g, g1, g2, hf, hg⟩ := hI
    have h := hY.ev he (fun k x1 x2 => by omega)
    obtain ⟨⟨h1, h2, h3, h4, h5⟩, ⟨w1, w2, w3⟩, ⟨⟨hW1, hW2⟩, ⟨hH1, hH2⟩, ⟨hL1, hL2⟩, hn⟩, ⟨a1, a2, a3, a4⟩, hok⟩ := id h
    have hC := p_WH hW2 hH2
    refine r_il rfl rfl ?_
    refine r_ic rfl ?_
    refine r_al rfl rfl ?_
    refine r_cv0 rfl rfl h1 rfl (by decide) rfl (m_cells h) ?_
    refine r_mulI rfl ?_
    rw [show (13 : Int) * ((W * H : Nat) : Int) = (((13 * (W * H)) : Nat) : Int) by omega]
    refine r_icF rfl (zcF3 ⟨by omega, by omega⟩ ⟨by omega, by omega⟩ (by omega)) ?_
    refine r_al rfl rfl ?_
    refine r_gf rfl h1 rfl rfl ?_
    refine r_il rfl rfl ?_
    refine r_lc rfl ?_
    refine r_jSI rfl g2 (by omega) (by omega) (by omega) ?_
    refine r_ic rfl ?_
    refine r_is6 rfl rfl ?_
    refine m_ways_s hY (k := k) (p := p) (by omega) (fun M2 x2 hI2 => ih (p + 1) M2 x2 (by omega) hI2) 4 0 _ (by omega) ⟨he.tr (.set (Or.inr rfl)), f, _, z_gn (by decide) g1, z_gs g2, hf, fun q hq => ?_, ?_⟩
    · rw [Int.toNat_natCast, ul_n (by omega)]
      exact hg q hq
    · rw [Int.toNat_natCast, ul_s]
      rfl
theorem m_ways_c {v wd hd ld nw : Nat → Int32} {a b m : Nat} (hY : m_Y M tr v wd hd ld nw W H L hs lot n kc) {k : Nat} {Q : Option Value → ZM → Prop} (hx : ∀ (M1 : ZM) (x1 x2 : Option Value), (z_ev M M1 (fun k => k = 70 ∨ k = 71) ∧ ∃ f g, M1[70]? = some (zJ 325 f) ∧ M1[71]? = some (zJ 325 g) ∧ (∀ q, q < (13 * (W * H)) → f q = p_cnt (p_aR W H L hs) b (k + 1) q)) → z_R S (d + 3) 139 71 [some (.ref 62), some (.int (zI (a : Int))), some (.int (zI (b : Int))), some (.int (zI (m : Int))), some (.int (zI ((k + 1 : Nat) : Int))), x1, x2] [] M1 Q) : ∀ (j p : Nat) (M1 : ZM) (x : Option Value), p + j = (13 * (W * H)) → (z_ev M M1 (fun k => k = 70 ∨ k = 71) ∧ ∃ f g, M1[70]? = some (zJ 325 f) ∧ M1[71]? = some (zJ 325 g) ∧ (∀ q, q < p → f q = p_cnt (p_aR W H L hs) b (k + 1) q) ∧ (∀ q, q < (13 * (W * H)) → g q = p_cnt (p_aR W H L hs) b (k + 1) q)) → z_R S (d + 3) 139 164 [some (.ref 62), some (.int (zI (a : Int))), some (.int (zI (b : Int))), some (.int (zI (m : Int))), some (.int (zI (k : Int))), some (.int (zI (p : Int))), x] [] M1 Q := by
  intro j
  induction j with
  | zero =>
    intro p M1 x hp9 hI
    obtain ⟨he, f, g, g1, g2, hf, hg⟩ := hI
    have h := hY.ev he (fun k x1 x2 => by omega)
    obtain ⟨⟨h1, h2, h3, h4, h5⟩, ⟨w1, w2, w3⟩, ⟨⟨hW1, hW2⟩, ⟨hH1, hH2⟩, ⟨hL1, hL2⟩, hn⟩, ⟨a1, a2, a3, a4⟩, hok⟩ := id h
    have hC := p_WH hW2 hH2
    refine r_il rfl rfl ?_
    refine r_ic rfl ?_
    refine r_al rfl rfl ?_
    refine r_cv0 rfl rfl h1 rfl (by decide) rfl (m_cells h) ?_
    refine r_mulI rfl ?_
    rw [show (13 : Int) * ((W * H : Nat) : Int) = (((13 * (W * H)) : Nat) : Int) by omega]
    refine r_icT rfl (zcT3 ⟨by omega, by omega⟩ ⟨by omega, by omega⟩ (by omega)) ?_
    refine r_jj4 rfl rfl ?_
    refine r_goto rfl ?_
    exact hx M1 _ _ ⟨he, f, g, g1, g2, fun q hq => hf q (by omega)⟩
  | succ j ih =>
    intro p M1 x hp9 hI
    obtain ⟨he, f, g, g1, g2, hf, hg⟩ := hI
    have h := hY.ev he (fun k x1 x2 => by omega)
    obtain ⟨⟨h1, h2, h3, h4, h5⟩, ⟨w1, w2, w3⟩, ⟨⟨hW1, hW2⟩, ⟨hH1, hH2⟩, ⟨hL1, hL2⟩, hn⟩, ⟨a1, a2, a3, a4⟩, hok⟩ := id h
    have hC := p_WH hW2 hH2
    refine r_il rfl rfl ?_
    refine r_ic rfl ?_
    refine r_al rfl rfl ?_
    refine r_cv0 rfl rfl h1 rfl (by decide) rfl (m_cells h) ?_
    refine r_mulI rfl ?_
    rw [show (13 : Int) * ((W * H : Nat) : Int) = (((13 * (W * H)) : Nat) : Int) by omega]
    refine r_icF rfl (zcF3 ⟨by omega, by omega⟩ ⟨by omega, by omega⟩ (by omega)) ?_
    refine r_al rfl rfl ?_
    refine r_gf rfl h1 rfl rfl ?_
    refine r_il rfl rfl ?_
    refine r_al rfl rfl ?_
    refine r_gf rfl h1 rfl rfl ?_
    refine r_il rfl rfl ?_
    refine r_jaI rfl g2 (by omega) (by omega) (by omega) ?_
    rw [Int.toNat_natCast, hg p (by omega)]
    refine r_jSI rfl g1 (by omega) (by omega) (by omega) ?_
    refine r_jj5 rfl rfl ?_
    refine r_goto rfl ?_
    refine ih (p + 1) _ _ (by omega) ⟨he.tr (.set (Or.inl rfl)), _, g, z_gs g1, z_gn (by decide) g2, fun q hq => ?_, hg⟩
    rw [Int.toNat_natCast]
    by_cases e : q = p
    · subst e
      exact ul_s
    · rw [ul_n e]
      exact hf q (by omega)
theorem m_ways_k {v wd hd ld nw : Nat → Int32} {a b m : Nat} (hY : m_Y M tr v wd hd ld nw W H L hs lot n kc) (ha : a < W * H) (hm : m ≤ 20)  : ∀ (j k : Nat) (M1 : ZM) (x1 x2 : Option Value), k + j = m → (z_ev M M1 (fun k => k = 70 ∨ k = 71) ∧ ∃ f g, M1[70]? = some (zJ 325 f) ∧ M1[71]? = some (zJ 325 g) ∧ (∀ q, q < (13 * (W * H)) → f q = p_cnt (p_aR W H L hs) b k q)) → z_R S (d + 3) 139 71 [some (.ref 62), some (.int (zI (a : Int))), some (.int (zI (b : Int))), some (.int (zI (m : Int))), some (.int (zI (k : Int))), x1, x2] [] M1 (fun r M2 => r = some (.long (p_cnt (p_aR W H L hs) b m (13 * a))) ∧ z_ev M M2 (fun k => k = 70 ∨ k = 71) ∧ (∃ f, M2[70]? = some (zJ 325 f)) ∧ ∃ g, M2[71]? = some (zJ 325 g)) := by
  intro j
  induction j with
  | zero =>
    intro k M1 x1 x2 hk hI
    obtain ⟨he, f, g, g1, g2, hf⟩ := hI
    have h := hY.ev he (fun k x1 x2 => by omega)
    obtain ⟨⟨h1, h2, h3, h4, h5⟩, ⟨w1, w2, w3⟩, ⟨⟨hW1, hW2⟩, ⟨hH1, hH2⟩, ⟨hL1, hL2⟩, hn⟩, ⟨a1, a2, a3, a4⟩, hok⟩ := id h
    have hC := p_WH hW2 hH2
    refine r_il rfl rfl ?_
    refine r_il rfl rfl ?_
    refine r_icT rfl (zcT3 ⟨by omega, by omega⟩ ⟨by omega, by omega⟩ (by omega)) ?_
    refine r_al rfl rfl ?_
    refine r_gf rfl h1 rfl rfl ?_
    refine r_ic rfl ?_
    refine r_il rfl rfl ?_
    refine r_mulI rfl ?_
    refine r_jaI rfl g1 (by omega) (by omega) (by omega) ?_
    rw [show ((13 : Int) * (a : Int)).toNat = 13 * a by omega, hf _ (by omega), show k = m by omega]
    refine r_retl rfl rfl ?_
    exact ⟨rfl, he, ⟨f, g1⟩, g, g2⟩
  | succ j ih =>
    intro k M1 x1 x2 hk hI
    obtain ⟨he, f, g, g1, g2, hf⟩ := hI
    have h := hY.ev he (fun k x1 x2 => by omega)
    obtain ⟨⟨h1, h2, h3, h4, h5⟩, ⟨w1, w2, w3⟩, ⟨⟨hW1, hW2⟩, ⟨hH1, hH2⟩, ⟨hL1, hL2⟩, hn⟩, ⟨a1, a2, a3, a4⟩, hok⟩ := id h
    have hC := p_WH hW2 hH2
    refine r_il rfl rfl ?_
    refine r_il rfl rfl ?_
    refine r_icF rfl (zcF3 ⟨by omega, by omega⟩ ⟨by omega, by omega⟩ (by omega)) ?_
    refine r_ic rfl ?_
    refine r_is5 rfl rfl ?_
    exact m_ways_p hY (k := k) (fun M2 x2 hI2 => m_ways_c hY (k := k) (fun M3 y1 y2 hI3 => ih (k + 1) M3 y1 y2 (by omega) hI3) (13 * (W * H)) 0 M2 x2 (by omega) hI2) (13 * (W * H)) 0 M1 _ (by omega) ⟨he, f, g, g1, g2, hf, fun q hq => by omega⟩
theorem m_ways_b {v wd hd ld nw : Nat → Int32} {a b m : Nat} (hY : m_Y M tr v wd hd ld nw W H L hs lot n kc) (ha : a < W * H) (hb : b < W * H) (hm : m ≤ 20)  : ∀ (j p : Nat) (M1 : ZM) (x1 x2 : Option Value), p + j = 325 → (z_ev M M1 (fun k => k = 70 ∨ k = 71) ∧ ∃ f g, M1[70]? = some (zJ 325 f) ∧ M1[71]? = some (zJ 325 g) ∧ (∀ q, q < p → f q = p_cnt (p_aR W H L hs) b 0 q)) → z_R S (d + 3) 139 33 [some (.ref 62), some (.int (zI (a : Int))), some (.int (zI (b : Int))), some (.int (zI (m : Int))), some (.int (zI (p : Int))), x1, x2] [] M1 (fun r M2 => r = some (.long (p_cnt (p_aR W H L hs) b m (13 * a))) ∧ z_ev M M2 (fun k => k = 70 ∨ k = 71) ∧ (∃ f, M2[70]? = some (zJ 325 f)) ∧ ∃ g, M2[71]? = some (zJ 325 g)) := by
  intro j
  induction j with
  | zero =>
    intro p M1 x1 x2 hp9 hI
    obtain ⟨he, f, g, g1, g2, hf⟩ := hI
    have h := hY.ev he (fun k x1 x2 => by omega)
    obtain ⟨⟨h1, h2, h3, h4, h5⟩, ⟨w1, w2, w3⟩, ⟨⟨hW1, hW2⟩, ⟨hH1, hH2⟩, ⟨hL1, hL2⟩, hn⟩, ⟨a1, a2, a3, a4⟩, hok⟩ := id h
    have hC := p_WH hW2 hH2
    refine r_il rfl rfl ?_
    refine r_ic rfl ?_
    refine r_icT rfl (zcT3 ⟨by omega, by omega⟩ ⟨by omega, by omega⟩ (by omega)) ?_
    refine r_ic rfl ?_
    refine r_is4 rfl rfl ?_
    exact m_ways_k hY ha hm m 0 M1 _ _ (by omega) ⟨he, f, g, g1, g2, fun q hq => hf q (by omega)⟩
  | succ j ih =>
    intro p M1 x1 x2 hp9 hI
    obtain ⟨he, f, g, g1, g2, hf⟩ := hI
    have h := hY.ev he (fun k x1 x2 => by omega)
    obtain ⟨⟨h1, h2, h3, h4, h5⟩, ⟨w1, w2, w3⟩, ⟨⟨hW1, hW2⟩, ⟨hH1, hH2⟩, ⟨hL1, hL2⟩, hn⟩, ⟨a1, a2, a3, a4⟩, hok⟩ := id h
    have hC := p_WH hW2 hH2
    refine r_il rfl rfl ?_
    refine r_ic rfl ?_
    refine r_icF rfl (zcF3 ⟨by omega, by omega⟩ ⟨by omega, by omega⟩ (by omega)) ?_
    refine r_al rfl rfl ?_
    refine r_gf rfl h1 rfl rfl ?_
    refine r_il rfl rfl ?_
    refine r_il rfl rfl ?_
    refine r_ic rfl ?_
    refine r_divI rfl (⟨by omega, by omega⟩) (⟨by omega, by omega⟩) ?_
    refine r_il rfl rfl ?_
    by_cases hb9 : (p : Int) / 13 = (b : Int)
    · refine r_icF rfl (zcF1 (by omega)) ?_
      refine r_lc rfl ?_
      refine r_goto rfl ?_
      rw [show Int64.ofInt 1 = p_cnt (p_aR W H L hs) b 0 p from (if_pos (by omega)).symm]
      refine r_jSI rfl g1 (by omega) (by omega) (by omega) ?_
      refine r_jj4 rfl rfl ?_
      refine r_goto rfl ?_
      refine ih (p + 1) _ _ _ (by omega) ⟨he.tr (.set (Or.inl rfl)), _, g, z_gs g1, z_gn (by decide) g2, fun q hq => ?_⟩
      rw [Int.toNat_natCast]
      by_cases e : q = p
      · subst e
        exact ul_s
      · rw [ul_n e]
        exact hf q (by omega)
    · refine r_icT rfl (zcT1 ⟨by omega, by omega⟩ ⟨by omega, by omega⟩ (by omega)) ?_
      refine r_lc rfl ?_
      rw [show Int64.ofInt 0 = p_cnt (p_aR W H L hs) b 0 p from (if_neg (by omega)).symm]
      refine r_jSI rfl g1 (by omega) (by omega) (by omega) ?_
      refine r_jj4 rfl rfl ?_
      refine r_goto rfl ?_
      refine ih (p + 1) _ _ _ (by omega) ⟨he.tr (.set (Or.inl rfl)), _, g, z_gs g1, z_gn (by decide) g2, fun q hq => ?_⟩
      rw [Int.toNat_natCast]
      by_cases e : q = p
      · subst e
        exact ul_s
      · rw [ul_n e]
        exact hf q (by omega)
theorem y_ways {a b m : Int} (ha : z_sm a) (hb : z_sm b) (hm : z_sm m) : z_Yc S 139 [.int (zI a), .int (zI b), .int (zI m)] ((T, tx), (W, H, L), (hs, lot, n, kc), im, tr) (.long (v_ways W H L hs a b m)) ((T, tx), (W, H, L), (hs, lot, n, kc), im, tr) := by
  intro d M hY
  obtain ⟨y1, v, wd, hd, ld, nw, h, y3, y4, y5, y6, y7, y8⟩ := id hY
  have h : m_Y M tr v wd hd ld nw W H L hs lot n kc := h
  obtain ⟨⟨h1, h2, h3, h4, h5⟩, ⟨w1, w2, w3⟩, ⟨⟨hW1, hW2⟩, ⟨hH1, hH2⟩, ⟨hL1, hL2⟩, hn⟩, ⟨a1, a2, a3, a4⟩, hok⟩ := id h
  have hC := p_WH hW2 hH2
  unfold v_ways p_fr2
  refine k_an ?_
  refine k_of rfl rfl (Nat.le_of_ble_eq_true rfl) ?_
  refine r_al rfl rfl ?_
  refine r_il rfl rfl ?_
  refine r_cv1 rfl rfl h1 rfl (by decide) rfl (m_isFree h ha) ?_
  by_cases h1' : 0 ≤ a ∧ a < ((W * H : Nat) : Int) ∧ ¬ bt hs a.toNat = true
  · rw [if_pos h1']
    refine r_ifF rfl (zcF0 ⟨by omega, by omega⟩ ⟨by omega, by omega⟩ (by decide)) ?_
    refine r_al rfl rfl ?_
    refine r_il rfl rfl ?_
    refine r_cv1 rfl rfl h1 rfl (by decide) rfl (m_isFree h hb) ?_
    by_cases h2' : 0 ≤ b ∧ b < ((W * H : Nat) : Int) ∧ ¬ bt hs b.toNat = true
    · rw [if_pos h2']
      refine r_ifF rfl (zcF0 ⟨by omega, by omega⟩ ⟨by omega, by omega⟩ (by decide)) ?_
      refine r_il rfl rfl ?_
      refine r_ic rfl ?_
      refine r_ic rfl ?_
      refine r_cs3 rfl rfl rfl rfl (m_in hm ⟨by omega, by omega⟩ ⟨by omega, by omega⟩) ?_
      by_cases h3' : 0 ≤ m ∧ m ≤ 20
      · rw [if_pos h3', if_pos ⟨h1', h2', h3'.1, h3'.2⟩]
        refine r_ifT rfl (zcT1 ⟨by omega, by omega⟩ ⟨by omega, by omega⟩ (by decide)) ?_
        refine r_ic rfl ?_
        refine r_is4 rfl rfl ?_
        obtain ⟨qa, rfl⟩ : ∃ q : Nat, a = (q : Int) := ⟨a.toNat, by omega⟩
        obtain ⟨qb, rfl⟩ : ∃ q : Nat, b = (q : Int) := ⟨b.toNat, by omega⟩
        obtain ⟨qm, rfl⟩ : ∃ q : Nat, m = (q : Int) := ⟨m.toNat, by omega⟩
        rw [Int.toNat_natCast, Int.toNat_natCast, Int.toNat_natCast]
        obtain ⟨r69, ⟨f70, r70⟩, ⟨f71, r71⟩, r72, r73, r74, r75, r76, r77⟩ := id y8
        refine r_of (m_ways_b h (a := qa) (b := qb) (m := qm) (by omega) (by omega) (by omega) 325 0 M _ _ (by omega) ⟨.rf, f70, f71, r70, r71, fun q hq => by omega⟩) (fun r M2 hq => ?_)
        obtain ⟨q1, q2, q3, q4⟩ := hq
        have E : ∀ k, (∃ f : Nat → Int32, M[k]? = some (.inr (0, 12, .inl f))) → ¬ (k = 70 ∨ k = 71) → ∃ f : Nat → Int32, M2[k]? = some (.inr (0, 12, .inl f)) := fun k ⟨f, g⟩ h0 => ⟨f, (q2.2 k h0).trans g⟩
        refine ⟨q1.trans (by rw [p_cnt_eq hL2 _ _ (Or.inl (by omega))]), hY.rows (q2.wk (fun k g => by omega)) ?_, q2.wk (fun k g => by omega)⟩
        obtain ⟨f69, r69⟩ := r69
        obtain ⟨f72, r72⟩ := r72
        obtain ⟨f73, r73⟩ := r73
        obtain ⟨f74, r74⟩ := r74
        obtain ⟨f75, r75⟩ := r75
        obtain ⟨f76, r76⟩ := r76
        obtain ⟨f77, r77⟩ := r77
        exact ⟨⟨f69, (q2.2 69 (by decide)).trans r69⟩, q3, q4, ⟨f72, (q2.2 72 (by decide)).trans r72⟩, ⟨f73, (q2.2 73 (by decide)).trans r73⟩, ⟨f74, (q2.2 74 (by decide)).trans r74⟩, ⟨f75, (q2.2 75 (by decide)).trans r75⟩, ⟨f76, (q2.2 76 (by decide)).trans r76⟩, f77, (q2.2 77 (by decide)).trans r77⟩
      · rw [if_neg h3', if_neg (fun g => h3' g.2.2)]
        refine r_ifF rfl (zcF1 (rfl)) ?_
        refine r_lc rfl ?_
        refine r_retl rfl rfl ?_
        exact ⟨rfl, hY, .rf⟩
    · rw [if_neg h2', if_neg (fun g => h2' g.2.1)]
      refine r_ifT rfl (zcT0 (rfl)) ?_
      refine r_lc rfl ?_
      refine r_retl rfl rfl ?_
      exact ⟨rfl, hY, .rf⟩
  · rw [if_neg h1', if_neg (fun g => h1' g.1)]
    refine r_ifT rfl (zcT0 (rfl)) ?_
    refine r_lc rfl ?_
    refine r_retl rfl rfl ?_
    exact ⟨rfl, hY, .rf⟩
end WB
