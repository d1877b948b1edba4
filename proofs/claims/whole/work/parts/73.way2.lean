/-! WAY: the reference's side, and the public calls -/
/-- a sweep over the row: K its sum ahead of it, mo whether something changed, all ahead of p, s looked at -/
def p_fsI (W H L : Nat) (hs : Int32) (b K mo p s : Nat) (lf : Nat → Nat) : Prop := p_lok W H L hs b lf ∧ ((mo = 0 ∧ p_sumN lf 325 ≤ K ∧ ∀ q t, (q < p ∨ (q = p ∧ t < s)) → q < 13 * (W * H) → t < 4 → p_fix W H L hs lf q t) ∨ (mo = 1 ∧ p_sumN lf 325 < K))
theorem p_fsI.skip {W H L : Nat} {hs : Int32} {b K mo p s : Nat} {lf : Nat → Nat} (h : p_fsI W H L hs b K mo p s lf) (hf : p_fix W H L hs lf p s) : p_fsI W H L hs b K mo p (s + 1) lf := by
  obtain ⟨h1, h2⟩ := h
  refine ⟨h1, ?_⟩
  rcases h2 with ⟨g1, g2, g3⟩ | g
  · refine Or.inl ⟨g1, g2, fun q t ht h5 h6 => ?_⟩
    by_cases e : q = p ∧ t = s
    · obtain ⟨rfl, rfl⟩ := e
      exact hf
    · exact g3 q t (by omega) h5 h6
  · exact Or.inr g
theorem p_fsI.next {W H L : Nat} {hs : Int32} {b K mo p : Nat} {lf : Nat → Nat} (h : p_fsI W H L hs b K mo p 4 lf) : p_fsI W H L hs b K mo (p + 1) 0 lf := by
  obtain ⟨h1, h2⟩ := h
  refine ⟨h1, ?_⟩
  rcases h2 with ⟨g1, g2, g3⟩ | g
  · exact Or.inl ⟨g1, g2, fun q t ht h5 h6 => g3 q t (by omega) h5 h6⟩
  · exact Or.inr g
theorem p_fsI.up {W H L : Nat} {hs : Int32} {b K mo p s q : Nat} {lf : Nat → Nat} (hC : W * H ≤ 25) (h : p_fsI W H L hs b K mo p s lf) (hp : p < 13 * (W * H)) (hs4 : s < 4) (ha : p_aR W H L hs p s = some q) (hlt : lf q + 1 < lf p) : p_fsI W H L hs b K 1 p (s + 1) (p_upN lf p (lf q + 1)) := by
  obtain ⟨h1, h2⟩ := h
  refine ⟨p_lok_up h1 hp hs4 ha hlt, Or.inr ⟨rfl, ?_⟩⟩
  have := (p_sumN_up hlt 325).1 (by omega)
  omega
def p_lf0 (b p : Nat) : Nat := if p / 13 = b then 0 else 999
theorem p_lf0_ok {W H L : Nat} {hs : Int32} {b : Nat} : p_lok W H L hs b (p_lf0 b) := by
  refine ⟨fun p => ?_, fun p _ => ?_, fun p _ hb => ?_⟩
  · unfold p_lf0
    split <;> omega
  · unfold p_lf0
    by_cases e : p / 13 = b
    · rw [if_pos e]
      exact Or.inr (decide_eq_true e)
    · rw [if_neg e]
      exact Or.inl rfl
  · unfold p_lf0
    rw [if_pos hb]
section WZ
variable {S : ZS} {d : Nat} {M : ZM} {T : Nat} {tx : Nat → Int32} {W H L n : Nat} {hs lot : Int32} {kc : Nat → ZK} {im : Nat → Option ZB} {tr : Int64}
set_option maxRecDepth 20000 in
theorem m_fs_s {v wd hd ld nw : Nat → Int32} (hY : m_Y M tr v wd hd ld nw W H L hs lot n kc) {b : Nat} (hb9 : b < W * H) {K p : Nat} (hp : p < (13 * (W * H))) {Q : Option Value → ZM → Prop} (hx : ∀ (M1 : ZM) (lf : Nat → Nat) (mo : Nat) (x4 x5 : Option Value), (z_ev M M1 (fun k => k = 69) ∧ (∃ fl, M1[69]? = some (zA 325 fl) ∧ (∀ q, q < 325 → fl q = zI (lf q : Int))) ∧ p_fsI W H L hs b K mo (p + 1) 0 lf) → z_R S (d + 3) 136 46 [some (.ref 62), some (.int (zI (b : Int))), some (.int (zI (mo : Int))), some (.int (zI ((p + 1 : Nat) : Int))), x4, x5] [] M1 Q) : ∀ (j s : Nat) (M1 : ZM) (lf : Nat → Nat) (mo : Nat) (x5 : Option Value), s + j = 4 → (z_ev M M1 (fun k => k = 69) ∧ (∃ fl, M1[69]? = some (zA 325 fl) ∧ (∀ q, q < 325 → fl q = zI (lf q : Int))) ∧ p_fsI W H L hs b K mo p s lf) → z_R S (d + 3) 136 60 [some (.ref 62), some (.int (zI (b : Int))), some (.int (zI (mo : Int))), some (.int (zI (p : Int))), some (.int (zI (s : Int))), x5] [] M1 Q := by
  intro j
  induction j with
  | zero =>
    intro s M1 lf mo x5 hs9 hI
    obtain ⟨he, ⟨fl, h69, hfl⟩, hf9⟩ := hI
    have h := hY.ev he (fun k x1 x2 => by omega)
    obtain ⟨⟨h1, h2, h3, h4, h5⟩, ⟨w1, w2, w3⟩, ⟨⟨hW1, hW2⟩, ⟨hH1, hH2⟩, ⟨hL1, hL2⟩, hn⟩, ⟨a1, a2, a3, a4⟩, hok⟩ := id h
    have hC := p_WH hW2 hH2
    have lfB := hf9.1.1
    refine r_il rfl rfl ?_
    refine r_ic rfl ?_
    refine r_icT rfl (zcT3 ⟨by omega, by omega⟩ ⟨by omega, by omega⟩ (by omega)) ?_
    refine r_jj3 rfl rfl ?_
    refine r_goto rfl ?_
    obtain rfl : s = 4 := by omega
    exact hx M1 lf mo _ _ ⟨he, ⟨fl, h69, hfl⟩, hf9.next⟩
  | succ j ih =>
    intro s M1 lf mo x5 hs9 hI
    obtain ⟨he, ⟨fl, h69, hfl⟩, hf9⟩ := hI
    have h := hY.ev he (fun k x1 x2 => by omega)
    obtain ⟨⟨h1, h2, h3, h4, h5⟩, ⟨w1, w2, w3⟩, ⟨⟨hW1, hW2⟩, ⟨hH1, hH2⟩, ⟨hL1, hL2⟩, hn⟩, ⟨a1, a2, a3, a4⟩, hok⟩ := id h
    have hC := p_WH hW2 hH2
    have lfB := hf9.1.1
    refine r_il rfl rfl ?_
    refine r_ic rfl ?_
    refine r_icF rfl (zcF3 ⟨by omega, by omega⟩ ⟨by omega, by omega⟩ (by omega)) ?_
    refine r_al rfl rfl ?_
    refine r_il rfl rfl ?_
    refine r_il rfl rfl ?_
    refine r_cv2 rfl rfl h1 rfl (by decide) rfl (m_after h (p := p) (s := s) hp (by omega)) ?_
    refine r_is5 rfl rfl ?_
    refine r_il rfl rfl ?_
    refine r_ic rfl ?_
    rcases ha : p_aR W H L hs p s with - | y
    · rw [show oI none (-9) = -9 from rfl]
      refine r_icT rfl (zcT0 (rfl)) ?_
      refine r_jj4 rfl rfl ?_
      refine r_goto rfl ?_
      exact ih (s + 1) M1 lf mo _ (by omega) ⟨he, ⟨fl, h69, hfl⟩, hf9.skip (fun q hq => by rw [ha] at hq; cases hq)⟩
    · have hy := p_aR_lt (by omega) hp ha
      have b1 := lfB y
      have b2 := lfB p
      rw [show oI (some y) (-9) = (y : Int) from rfl]
      refine r_icF rfl (zcF0 ⟨by omega, by omega⟩ ⟨by omega, by omega⟩ (by omega)) ?_
      refine r_al rfl rfl ?_
      refine r_gf rfl h1 rfl rfl ?_
      refine r_il rfl rfl ?_
      refine r_iaI rfl (by decide) h69 (by omega) (by omega) (by omega) ?_
      rw [Int.toNat_natCast, hfl y (by omega)]
      refine r_ic rfl ?_
      refine r_addI rfl ?_
      refine r_al rfl rfl ?_
      refine r_gf rfl h1 rfl rfl ?_
      refine r_il rfl rfl ?_
      refine r_iaI rfl (by decide) h69 (by omega) (by omega) (by omega) ?_
      rw [Int.toNat_natCast, hfl p (by omega)]
      by_cases hlt : lf y + 1 < lf p
      · refine r_icF rfl (zcF3 ⟨by omega, by omega⟩ ⟨by omega, by omega⟩ (by omega)) ?_
        refine r_al rfl rfl ?_
        refine r_gf rfl h1 rfl rfl ?_
        refine r_il rfl rfl ?_
        refine r_al rfl rfl ?_
        refine r_gf rfl h1 rfl rfl ?_
        refine r_il rfl rfl ?_
        refine r_iaI rfl (by decide) h69 (by omega) (by omega) (by omega) ?_
        rw [Int.toNat_natCast, hfl y (by omega)]
        refine r_ic rfl ?_
        refine r_addI rfl ?_
        refine r_iSI rfl h69 (by omega) (by omega) (by omega) ?_
        refine r_ic rfl ?_
        refine r_is2 rfl rfl ?_
        refine r_jj4 rfl rfl ?_
        refine r_goto rfl ?_
        refine ih (s + 1) _ (p_upN lf p (lf y + 1)) 1 _ (by omega) ⟨he.tr (.set rfl), ⟨_, z_gs h69, fun q hq => ?_⟩, hf9.up hC hp (by omega) ha hlt⟩
        rw [Int.toNat_natCast]
        by_cases e : q = p
        · subst e
          rw [pk_us, p_upN_s]
          rfl
        · rw [pk_un e, p_upN_n e]
          exact hfl q hq
      · refine r_icT rfl (zcT3 ⟨by omega, by omega⟩ ⟨by omega, by omega⟩ (by omega)) ?_
        refine r_jj4 rfl rfl ?_
        refine r_goto rfl ?_
        exact ih (s + 1) M1 lf mo _ (by omega) ⟨he, ⟨fl, h69, hfl⟩, hf9.skip (fun q hq => by rw [ha] at hq; cases hq; omega)⟩
set_option maxRecDepth 20000 in
theorem m_fs_p {v wd hd ld nw : Nat → Int32} (hY : m_Y M tr v wd hd ld nw W H L hs lot n kc) {b : Nat} (hb9 : b < W * H) {K : Nat} {Q : Option Value → ZM → Prop} (hx : ∀ (M1 : ZM) (lf : Nat → Nat) (mo : Nat) (x3 x4 x5 : Option Value), (z_ev M M1 (fun k => k = 69) ∧ (∃ fl, M1[69]? = some (zA 325 fl) ∧ (∀ q, q < 325 → fl q = zI (lf q : Int))) ∧ p_fsI W H L hs b K mo (13 * (W * H)) 0 lf) → z_R S (d + 3) 136 38 [some (.ref 62), some (.int (zI (b : Int))), some (.int (zI (mo : Int))), x3, x4, x5] [] M1 Q) : ∀ (j p : Nat) (M1 : ZM) (lf : Nat → Nat) (mo : Nat) (x4 x5 : Option Value), p + j = (13 * (W * H)) → (z_ev M M1 (fun k => k = 69) ∧ (∃ fl, M1[69]? = some (zA 325 fl) ∧ (∀ q, q < 325 → fl q = zI (lf q : Int))) ∧ p_fsI W H L hs b K mo p 0 lf) → z_R S (d + 3) 136 46 [some (.ref 62), some (.int (zI (b : Int))), some (.int (zI (mo : Int))), some (.int (zI (p : Int))), x4, x5] [] M1 Q := by
  intro j
  induction j with
  | zero =>
    intro p M1 lf mo x4 x5 hp9 hI
    obtain ⟨he, ⟨fl, h69, hfl⟩, hf9⟩ := hI
    have h := hY.ev he (fun k x1 x2 => by omega)
    obtain ⟨⟨h1, h2, h3, h4, h5⟩, ⟨w1, w2, w3⟩, ⟨⟨hW1, hW2⟩, ⟨hH1, hH2⟩, ⟨hL1, hL2⟩, hn⟩, ⟨a1, a2, a3, a4⟩, hok⟩ := id h
    have hC := p_WH hW2 hH2
    have lfB := hf9.1.1
    refine r_il rfl rfl ?_
    refine r_ic rfl ?_
    refine r_al rfl rfl ?_
    refine r_cv0 rfl rfl h1 rfl (by decide) rfl (m_cells h) ?_
    refine r_mulI rfl ?_
    rw [show (13 : Int) * ((W * H : Nat) : Int) = (((13 * (W * H)) : Nat) : Int) by omega]
    refine r_icT rfl (zcT3 ⟨by omega, by omega⟩ ⟨by omega, by omega⟩ (by omega)) ?_
    refine r_goto rfl ?_
    obtain rfl : p = (13 * (W * H)) := by omega
    exact hx M1 lf mo _ _ _ ⟨he, ⟨fl, h69, hfl⟩, hf9⟩
  | succ j ih =>
    intro p M1 lf mo x4 x5 hp9 hI
    obtain ⟨he, ⟨fl, h69, hfl⟩, hf9⟩ := hI
    have h := hY.ev he (fun k x1 x2 => by omega)
    obtain ⟨⟨h1, h2, h3, h4, h5⟩, ⟨w1, w2, w3⟩, ⟨⟨hW1, hW2⟩, ⟨hH1, hH2⟩, ⟨hL1, hL2⟩, hn⟩, ⟨a1, a2, a3, a4⟩, hok⟩ := id h
    have hC := p_WH hW2 hH2
    have lfB := hf9.1.1
    refine r_il rfl rfl ?_
    refine r_ic rfl ?_
    refine r_al rfl rfl ?_
    refine r_cv0 rfl rfl h1 rfl (by decide) rfl (m_cells h) ?_
    refine r_mulI rfl ?_
    rw [show (13 : Int) * ((W * H : Nat) : Int) = (((13 * (W * H)) : Nat) : Int) by omega]
    refine r_icF rfl (zcF3 ⟨by omega, by omega⟩ ⟨by omega, by omega⟩ (by omega)) ?_
    refine r_ic rfl ?_
    refine r_is4 rfl rfl ?_
    exact m_fs_s hY hb9 (K := K) (p := p) (by omega) (fun M2 lf2 mo2 y4 y5 hI2 => ih (p + 1) M2 lf2 mo2 y4 y5 (by omega) hI2) 4 0 M1 lf mo _ (by omega) ⟨he, ⟨fl, h69, hfl⟩, hf9⟩
set_option maxRecDepth 20000 in
theorem m_fs_k {v wd hd ld nw : Nat → Int32} (hY : m_Y M tr v wd hd ld nw W H L hs lot n kc) {b : Nat} (hb9 : b < W * H) : ∀ (K : Nat) (M1 : ZM) (lf : Nat → Nat) (x3 x4 x5 : Option Value), p_sumN lf 325 < K → (z_ev M M1 (fun k => k = 69) ∧ (∃ fl, M1[69]? = some (zA 325 fl) ∧ (∀ q, q < 325 → fl q = zI (lf q : Int))) ∧ p_lok W H L hs b lf) → z_R S (d + 3) 136 38 [some (.ref 62), some (.int (zI (b : Int))), some (.int (zI 1)), x3, x4, x5] [] M1 (fun r M2 => r = none ∧ z_ev M M2 (fun k => k = 69) ∧ ∃ fl lf, M2[69]? = some (zA 325 fl) ∧ (∀ q, q < 325 → fl q = zI (lf q : Int)) ∧ p_lend W H L hs b lf) := by
  intro K
  induction K with
  | zero =>
    intro M1 lf x3 x4 x5 hK hI
    obtain ⟨he, ⟨fl, h69, hfl⟩, hf9⟩ := hI
    have h := hY.ev he (fun k x1 x2 => by omega)
    obtain ⟨⟨h1, h2, h3, h4, h5⟩, ⟨w1, w2, w3⟩, ⟨⟨hW1, hW2⟩, ⟨hH1, hH2⟩, ⟨hL1, hL2⟩, hn⟩, ⟨a1, a2, a3, a4⟩, hok⟩ := id h
    have hC := p_WH hW2 hH2
    omega
  | succ K ih =>
    intro M1 lf x3 x4 x5 hK hI
    obtain ⟨he, ⟨fl, h69, hfl⟩, hf9⟩ := hI
    have h := hY.ev he (fun k x1 x2 => by omega)
    obtain ⟨⟨h1, h2, h3, h4, h5⟩, ⟨w1, w2, w3⟩, ⟨⟨hW1, hW2⟩, ⟨hH1, hH2⟩, ⟨hL1, hL2⟩, hn⟩, ⟨a1, a2, a3, a4⟩, hok⟩ := id h
    have hC := p_WH hW2 hH2
    refine r_il rfl rfl ?_
    refine r_ifF rfl (zcF0 ⟨by omega, by omega⟩ ⟨by omega, by omega⟩ (by omega)) ?_
    refine r_ic rfl ?_
    refine r_is2 rfl rfl ?_
    refine r_ic rfl ?_
    refine r_is3 rfl rfl ?_
    refine m_fs_p hY hb9 (K := p_sumN lf 325) (fun M2 lf2 mo2 y3 y4 y5 hI2 => ?_) (13 * (W * H)) 0 M1 lf 0 _ _ (by omega) ⟨he, ⟨fl, h69, hfl⟩, hf9, Or.inl ⟨rfl, Nat.le_refl _, fun q t g => by omega⟩⟩
    obtain ⟨he2, ⟨fl2, h692, hfl2⟩, hl2, hm2⟩ := hI2
    rcases hm2 with ⟨rfl, m1, m2⟩ | ⟨rfl, m1⟩
    · refine r_il rfl rfl ?_
      refine r_ifT rfl (zcT0 (rfl)) ?_
      refine r_retv rfl rfl ?_
      exact ⟨rfl, he2, fl2, lf2, h692, hfl2, p_left_end hL2 hl2 (fun p s h1 h2 => m2 p s (by omega) h1 h2)⟩
    · exact ih M2 lf2 _ _ _ (by omega) ⟨he2, ⟨fl2, h692, hfl2⟩, hl2⟩
set_option maxRecDepth 20000 in
theorem m_fs_b {v wd hd ld nw : Nat → Int32} (hY : m_Y M tr v wd hd ld nw W H L hs lot n kc) {b : Nat} (hb9 : b < W * H) : ∀ (j p : Nat) (M1 : ZM) (x3 x4 x5 : Option Value), p + j = 325 → (z_ev M M1 (fun k => k = 69) ∧ ∃ fl, M1[69]? = some (zA 325 fl) ∧ ∀ q, q < p → fl q = zI (p_lf0 b q : Int)) → z_R S (d + 3) 136 2 [some (.ref 62), some (.int (zI (b : Int))), some (.int (zI (p : Int))), x3, x4, x5] [] M1 (fun r M2 => r = none ∧ z_ev M M2 (fun k => k = 69) ∧ ∃ fl lf, M2[69]? = some (zA 325 fl) ∧ (∀ q, q < 325 → fl q = zI (lf q : Int)) ∧ p_lend W H L hs b lf) := by
  intro j
  induction j with
  | zero =>
    intro p M1 x3 x4 x5 hp9 hI
    obtain ⟨he, fl, h69, hfl⟩ := hI
    have h := hY.ev he (fun k x1 x2 => by omega)
    obtain ⟨⟨h1, h2, h3, h4, h5⟩, ⟨w1, w2, w3⟩, ⟨⟨hW1, hW2⟩, ⟨hH1, hH2⟩, ⟨hL1, hL2⟩, hn⟩, ⟨a1, a2, a3, a4⟩, hok⟩ := id h
    have hC := p_WH hW2 hH2
    refine r_il rfl rfl ?_
    refine r_ic rfl ?_
    refine r_icT rfl (zcT3 ⟨by omega, by omega⟩ ⟨by omega, by omega⟩ (by omega)) ?_
    refine r_ic rfl ?_
    refine r_is2 rfl rfl ?_
    exact m_fs_k hY hb9 _ M1 (p_lf0 b) _ _ _ (Nat.lt_succ_self _) ⟨he, ⟨fl, h69, fun q hq => hfl q (by omega)⟩, p_lf0_ok⟩
  | succ j ih =>
    intro p M1 x3 x4 x5 hp9 hI
    obtain ⟨he, fl, h69, hfl⟩ := hI
    have h := hY.ev he (fun k x1 x2 => by omega)
    obtain ⟨⟨h1, h2, h3, h4, h5⟩, ⟨w1, w2, w3⟩, ⟨⟨hW1, hW2⟩, ⟨hH1, hH2⟩, ⟨hL1, hL2⟩, hn⟩, ⟨a1, a2, a3, a4⟩, hok⟩ := id h
    have hC := p_WH hW2 hH2
    refine r_il rfl rfl ?_
    refine r_ic rfl ?_
    refine r_icF rfl (zcF3 ⟨by omega, by omega⟩ ⟨by omega, by omega⟩ (by omega)) ?_
    refine r_al rfl rfl ?_
    refine r_gf rfl h1 rfl rfl ?_
    refine r_il rfl rfl ?_
    refine r_il rfl rfl ?_
    refine r_ic rfl ?_
    refine r_divI rfl (⟨by omega, by omega⟩) (⟨by omega, by omega⟩) ?_
    refine r_il rfl rfl ?_
    by_cases h9 : (p : Int) / 13 = (b : Int)
    · refine r_icF rfl (zcF1 (h9)) ?_
      refine r_ic rfl ?_
      refine r_goto rfl ?_
      rw [show zI 0 = zI (p_lf0 b p : Int) by rw [show p_lf0 b p = 0 from if_pos (by omega)]; rfl]
      refine r_iSI rfl h69 (by omega) (by omega) (by omega) ?_
      refine r_jj2 rfl rfl ?_
      refine r_goto rfl ?_
      refine ih (p + 1) _ _ _ _ (by omega) ⟨he.tr (.set rfl), _, z_gs h69, fun q hq => ?_⟩
      rw [Int.toNat_natCast]
      by_cases e : q = p
      · subst e
        exact pk_us
      · rw [pk_un e]
        exact hfl q (by omega)
    · refine r_icT rfl (zcT1 ⟨by omega, by omega⟩ ⟨by omega, by omega⟩ (h9)) ?_
      refine r_ic rfl ?_
      rw [show zI 999 = zI (p_lf0 b p : Int) by rw [show p_lf0 b p = 999 from if_neg (by omega)]; rfl]
      refine r_iSI rfl h69 (by omega) (by omega) (by omega) ?_
      refine r_jj2 rfl rfl ?_
      refine r_goto rfl ?_
      refine ih (p + 1) _ _ _ _ (by omega) ⟨he.tr (.set rfl), _, z_gs h69, fun q hq => ?_⟩
      rw [Int.toNat_natCast]
      by_cases e : q = p
      · subst e
        exact pk_us
      · rw [pk_un e]
        exact hfl q (by omega)
theorem m_findSteps {v wd hd ld nw : Nat → Int32} (hY : m_Y M tr v wd hd ld nw W H L hs lot n kc) {b : Nat} (hb9 : b < W * H) {fl0 : Nat → Int32} (h690 : M[69]? = some (zA 325 fl0)) : ∃ M', z_C S (d + 3) 136 [.ref 62, .int (zI (b : Int))] M none M' ∧ z_ev M M' (fun k => k = 69) ∧ ∃ fl lf, M'[69]? = some (zA 325 fl) ∧ (∀ q, q < 325 → fl q = zI (lf q : Int)) ∧ p_lend W H L hs b lf := by
  refine k_an ?_
  refine k_of rfl rfl (Nat.le_of_ble_eq_true rfl) ?_
  refine r_ic rfl ?_
  refine r_is2 rfl rfl ?_
  exact m_fs_b hY hb9 325 0 M _ _ _ (by omega) ⟨.rf, fl0, h690, fun q hq => by omega⟩
theorem m_stepsOf {v wd hd ld nw : Nat → Int32} (hY : m_Y M tr v wd hd ld nw W H L hs lot n kc) {b : Nat} (hb9 : b < W * H) {fl0 : Nat → Int32} (h690 : M[69]? = some (zA 325 fl0)) {a : Nat} (ha9 : a < W * H) : ∃ M', z_C S (d + 4) 137 [.ref 62, .int (zI (a : Int)), .int (zI (b : Int))] M (some (.int (zI (if p_dst (p_aC W H L hs) b (13 * a) ≤ 60 then (p_dst (p_aC W H L hs) b (13 * a) : Int) else -9)))) M' ∧ z_ev M M' (fun k => k = 69) ∧ ∃ fl lf, M'[69]? = some (zA 325 fl) ∧ (∀ q, q < 325 → fl q = zI (lf q : Int)) ∧ p_lend W H L hs b lf := by
  refine k_an ?_
  refine k_of rfl rfl (Nat.le_of_ble_eq_true rfl) ?_
  obtain ⟨M2, k2, e2, fl, lf, h69, hfl, hle⟩ := m_findSteps (S := S) (d := d) hY hb9 h690
  obtain ⟨⟨h1, h2, h3, h4, h5⟩, ⟨w1, w2, w3⟩, ⟨⟨hW1, hW2⟩, ⟨hH1, hH2⟩, ⟨hL1, hL2⟩, hn⟩, ⟨a1, a2, a3, a4⟩, hok⟩ := id hY
  have hC := p_WH hW2 hH2
  have g1 := (e2.2 62 (by decide)).trans h1
  have b1 := hle.1 (13 * a)
  have b2 := p_lend_dst hle (p := 13 * a) (by omega) (Or.inl (by omega))
  refine r_al rfl rfl ?_
  refine r_il rfl rfl ?_
  refine r_cv1v rfl rfl h1 rfl (by decide) rfl (k2) ?_
  refine r_al rfl rfl ?_
  refine r_gf rfl g1 rfl rfl ?_
  refine r_ic rfl ?_
  refine r_il rfl rfl ?_
  refine r_mulI rfl ?_
  refine r_iaI rfl (by decide) h69 (by omega) (by omega) (by omega) ?_
  rw [show ((13 : Int) * (a : Int)).toNat = 13 * a by omega, hfl _ (by omega)]
  refine r_ic rfl ?_
  by_cases hd9 : p_dst (p_aC W H L hs) b (13 * a) ≤ 60
  · rw [if_pos hd9]
    refine r_icT rfl (zcT5 ⟨by omega, by omega⟩ ⟨by omega, by omega⟩ (by omega)) ?_
    refine r_al rfl rfl ?_
    refine r_gf rfl g1 rfl rfl ?_
    refine r_ic rfl ?_
    refine r_il rfl rfl ?_
    refine r_mulI rfl ?_
    refine r_iaI rfl (by decide) h69 (by omega) (by omega) (by omega) ?_
    rw [show ((13 : Int) * (a : Int)).toNat = 13 * a by omega, hfl _ (by omega), show lf (13 * a) = p_dst (p_aC W H L hs) b (13 * a) by omega]
    refine r_reti rfl rfl ?_
    exact ⟨rfl, e2, fl, lf, h69, hfl, hle⟩
  · rw [if_neg hd9]
    refine r_icF rfl (zcF5 ⟨by omega, by omega⟩ ⟨by omega, by omega⟩ (by omega)) ?_
    refine r_ic rfl ?_
    refine r_goto rfl ?_
    refine r_reti rfl rfl ?_
    exact ⟨rfl, e2, fl, lf, h69, hfl, hle⟩
def v_dst (W H L : Nat) (hs : Int32) (a b : Nat) : Nat := p_dst (p_aC W H L hs) b (13 * a)
def v_way (W H L : Nat) (hs : Int32) (a b i : Int) : Int := if p_fr2 W H hs a ∧ p_fr2 W H hs b ∧ -1 ≤ i then (if ¬ v_dst W H L hs a.toNat b.toNat ≤ 60 then -9 else if i = -1 then (v_dst W H L hs a.toNat b.toNat : Int) else if i < (v_dst W H L hs a.toNat b.toNat : Int) then (p_ws (p_aC W H L hs) b.toNat (v_dst W H L hs a.toNat b.toNat - (i.toNat + 1)) (p_wg (p_aC W H L hs) b.toNat (v_dst W H L hs a.toNat b.toNat) (13 * a.toNat) i.toNat) : Int) else -5) else -1
theorem c_ofRow9 {A : Nat} {l i : Int} (hl : l = -9) : z_C S d 100 [.int (zI (-9)), .int (zI i), .ref A, .int (zI l)] M (some (.int (zI (-9)))) M := by
  refine c_of rfl rfl (Nat.le_of_ble_eq_true rfl) ?_
  refine g_il rfl rfl ?_
  refine g_ic rfl ?_
  refine g_icT rfl (zcT0 (rfl)) ?_
  refine g_il rfl rfl ?_
  exact g_reti rfl (rfl) rfl
theorem x_way {a b i : Int} (ha9 : z_sm a) (hb : z_sm b) (hi9 : z_sm i) : z_Xc S 78 [.int (zI a), .int (zI b), .int (zI i)] ((T, tx), (W, H, L), (hs, lot, n, kc), im, tr) (.int (zI (v_way W H L hs a b i))) ((T, tx), (W, H, L), (hs, lot, n, kc), im, tr) := by
  intro d M hX
  obtain ⟨x1, x2, x3, x4, x5, x6, x7, x8⟩ := id hX
  have hA : k_A M 1 W H L hs lot n kc := x3
  obtain ⟨ha, hO, ch, hR, hk9⟩ := id hA
  obtain ⟨o1, ⟨hW1, hW2⟩, ⟨hH1, hH2⟩, ⟨hL1, hL2⟩, hn⟩ := id hO
  have hC := p_WH hW2 hH2
  unfold v_way p_fr2
  refine k_an ?_
  refine k_of rfl rfl (Nat.le_of_ble_eq_true rfl) ?_
  refine r_al rfl rfl ?_
  refine r_gf rfl x2 rfl rfl ?_
  refine r_il rfl rfl ?_
  refine r_cv1 rfl rfl o1 rfl (by decide) rfl (c_isFree hO ha9) ?_
  by_cases h1 : 0 ≤ a ∧ a < ((W * H : Nat) : Int) ∧ ¬ bt hs a.toNat = true
  · rw [if_pos h1]
    refine r_ifF rfl (zcF0 ⟨by omega, by omega⟩ ⟨by omega, by omega⟩ (by decide)) ?_
    refine r_al rfl rfl ?_
    refine r_gf rfl x2 rfl rfl ?_
    refine r_il rfl rfl ?_
    refine r_cv1 rfl rfl o1 rfl (by decide) rfl (c_isFree hO hb) ?_
    by_cases h2 : 0 ≤ b ∧ b < ((W * H : Nat) : Int) ∧ ¬ bt hs b.toNat = true
    · rw [if_pos h2]
      refine r_ifF rfl (zcF0 ⟨by omega, by omega⟩ ⟨by omega, by omega⟩ (by decide)) ?_
      refine r_il rfl rfl ?_
      refine r_ic rfl ?_
      by_cases h3 : i < -1
      · rw [if_neg (fun g => by have := g.2.2; omega)]
        refine r_icF rfl (zcF3 ⟨by omega, by omega⟩ ⟨by omega, by omega⟩ (h3)) ?_
        refine r_ic rfl ?_
        refine r_reti rfl rfl ?_
        exact ⟨rfl, hX, .rf⟩
      · rw [if_pos ⟨h1, h2, by omega⟩]
        refine r_icT rfl (zcT3 ⟨by omega, by omega⟩ ⟨by omega, by omega⟩ (h3)) ?_
        refine r_al rfl rfl ?_
        refine r_gf rfl x2 rfl rfl ?_
        refine r_al rfl rfl ?_
        refine r_gf rfl x2 rfl rfl ?_
        refine r_il rfl rfl ?_
        refine r_il rfl rfl ?_
        obtain ⟨qa, rfl⟩ : ∃ q : Nat, a = (q : Int) := ⟨a.toNat, by omega⟩
        obtain ⟨qb, rfl⟩ : ∃ q : Nat, b = (q : Int) := ⟨b.toNat, by omega⟩
        rw [Int.toNat_natCast, Int.toNat_natCast]
        obtain ⟨M2, k2, e2, w2, rw, r1, r2⟩ := c_shortest (S := S) (d := d + 15) hO x5 (a := qa) (b := qb) (by omega) (by omega)
        obtain ⟨⟨u1, u2, v25⟩, -⟩ := id x5
        obtain ⟨⟨u3, u4, v26⟩, -⟩ := id w2
        have dl := (p_dst_ok (p_aC W H L hs) qb (13 * qa)).1
        unfold v_dst
        generalize p_dst (p_aC W H L hs) qb (13 * qa) = n2 at *
        refine r_cv3 rfl rfl v25 rfl (by decide) rfl (k2) ?_
        refine r_is4 rfl rfl ?_
        refine r_il rfl rfl ?_
        refine r_il rfl rfl ?_
        refine r_al rfl rfl ?_
        refine r_gf rfl ((e2.2 0 (by decide)).trans x2) rfl rfl ?_
        refine r_gf rfl v26 rfl rfl ?_
        refine r_il rfl rfl ?_
        by_cases hd9 : n2 ≤ 60
        · rw [if_pos hd9, if_neg (fun g => g hd9)]
          refine r_cs4 rfl rfl rfl rfl (c_ofRow (by decide) r1 hd9 (by omega) (by omega) hi9) ?_
          refine r_reti rfl rfl ?_
          refine ⟨?_, hX.walk e2 w2, e2.wk (fun k g => by omega)⟩
          by_cases h6 : i = -1
          · rw [if_pos (Or.inr (by omega)), if_pos h6]
          · rw [if_neg (by omega), if_neg h6]
            by_cases h5 : i < (n2 : Int)
            · rw [if_pos h5, if_pos h5, r2 hd9 _ (by omega)]
            · rw [if_neg h5, if_neg h5]
        · rw [if_neg hd9, if_pos hd9]
          refine r_cs4 rfl rfl rfl rfl (c_ofRow9 (l := -9) (by omega)) ?_
          refine r_reti rfl rfl ?_
          exact ⟨rfl, hX.walk e2 w2, e2.wk (fun k g => by omega)⟩
    · rw [if_neg h2, if_neg (fun g => h2 g.2.1)]
      refine r_ifT rfl (zcT0 (rfl)) ?_
      refine r_ic rfl ?_
      refine r_reti rfl rfl ?_
      exact ⟨rfl, hX, .rf⟩
  · rw [if_neg h1, if_neg (fun g => h1 g.1)]
    refine r_ifT rfl (zcT0 (rfl)) ?_
    refine r_ic rfl ?_
    refine r_reti rfl rfl ?_
    exact ⟨rfl, hX, .rf⟩
set_option maxRecDepth 20000 in
theorem m_way_t {v wd hd ld nw : Nat → Int32} (h : m_Y M tr v wd hd ld nw W H L hs lot n kc) {a b N : Nat} {fl : Nat → Int32} {lf : Nat → Nat} (h69 : M[69]? = some (zA 325 fl)) (hfl : ∀ q, q < 325 → fl q = zI (lf q : Int)) (hle : p_lend W H L hs b lf) (hg : p_giv W H L hs b N (13 * a)) (hN6 : N ≤ 60) {i : Nat} (hi : i < N) {j : Nat} (hj : j ≤ i) {r : Option Value} (hx : ∀ t, t = p_ws (p_aC W H L hs) b (N - (j + 1)) (p_wg (p_aC W H L hs) b N (13 * a) j) → p_aR W H L hs (p_wg (p_aC W H L hs) b N (13 * a) j) t = some (p_wg (p_aC W H L hs) b N (13 * a) (j + 1)) → z_G S (d + 3) 138 120 [some (.ref 62), some (.int (zI (a : Int))), some (.int (zI (b : Int))), some (.int (zI (i : Int))), some (.int (zI (N : Int))), some (.int (zI (p_wg (p_aC W H L hs) b N (13 * a) j : Int))), some (.int (zI (t : Int))), some (.int (zI (j : Int)))] [] M r M) : ∀ (m t : Nat), t + m = 4 → t ≤ p_ws (p_aC W H L hs) b (N - (j + 1)) (p_wg (p_aC W H L hs) b N (13 * a) j) → z_G S (d + 3) 138 76 [some (.ref 62), some (.int (zI (a : Int))), some (.int (zI (b : Int))), some (.int (zI (i : Int))), some (.int (zI (N : Int))), some (.int (zI (p_wg (p_aC W H L hs) b N (13 * a) j : Int))), some (.int (zI (t : Int))), some (.int (zI (j : Int)))] [] M r M := by
  obtain ⟨⟨h1, h2, h3, h4, h5⟩, ⟨w1, w2, w3⟩, ⟨⟨hW1, hW2⟩, ⟨hH1, hH2⟩, ⟨hL1, hL2⟩, hn⟩, ⟨a1, a2, a3, a4⟩, hok⟩ := id h
  have hC := p_WH hW2 hH2
  obtain ⟨-, gi1, gi2, gi3, gi4, gi5, gi6⟩ := id hg
  intro m
  induction m with
  | zero =>
    intro t ht ht2
    obtain ⟨m1, m2, m3, m4, m5, m6⟩ := hg.wg hN6 (show j < N by omega)
    omega
  | succ m ih =>
    intro t ht ht2
    obtain ⟨m1, m2, m3, m4, m5, m6⟩ := hg.wg hN6 (show j < N by omega)
    refine g_al rfl rfl ?_
    refine g_il rfl rfl ?_
    refine g_il rfl rfl ?_
    refine g_cv2 rfl rfl h1 rfl (by decide) rfl (m_after h (p := p_wg (p_aC W H L hs) b N (13 * a) j) (s := t) m1 (by omega)) ?_
    refine g_ic rfl ?_
    have pr := p_lend_ws hL2 hle gi1 gi2 hN6 (gi5 hN6) gi6 (show j < N by omega) ht2
    have b1 := hle.1 (p_wg (p_aC W H L hs) b N (13 * a) j)
    rcases ha : p_aR W H L hs (p_wg (p_aC W H L hs) b N (13 * a) j) t with - | y
    · rw [ha] at pr
      rw [show oI none (-9) = -9 from rfl]
      refine g_icT rfl (zcT0 (rfl)) ?_
      refine g_jj6 rfl rfl ?_
      refine g_goto rfl ?_
      refine ih (t + 1) (by omega) ?_
      rcases pr with ⟨pr, -⟩ | ⟨-, pr, -⟩
      · exact pr
      · cases pr
    · have hy := p_aR_lt (by omega) m1 ha
      have b2 := hle.1 y
      rw [ha] at pr
      rw [show oI (some y) (-9) = (y : Int) from rfl]
      refine g_icF rfl (zcF0 ⟨by omega, by omega⟩ ⟨by omega, by omega⟩ (by omega)) ?_
      refine g_al rfl rfl ?_
      refine g_gf rfl h1 rfl rfl ?_
      refine g_al rfl rfl ?_
      refine g_il rfl rfl ?_
      refine g_il rfl rfl ?_
      refine g_cv2 rfl rfl h1 rfl (by decide) rfl (m_after h (p := p_wg (p_aC W H L hs) b N (13 * a) j) (s := t) m1 (by omega)) ?_
      rw [ha, show oI (some y) (-9) = (y : Int) from rfl]
      refine g_iaI rfl (by decide) h69 (by omega) (by omega) (by omega) ?_
      rw [Int.toNat_natCast, hfl y (by omega)]
      refine g_al rfl rfl ?_
      refine g_gf rfl h1 rfl rfl ?_
      refine g_il rfl rfl ?_
      refine g_iaI rfl (by decide) h69 (by omega) (by omega) (by omega) ?_
      rw [Int.toNat_natCast, hfl _ (by omega)]
      refine g_ic rfl ?_
      refine g_subI rfl ?_
      by_cases hq : (lf y : Int) = (lf (p_wg (p_aC W H L hs) b N (13 * a) j) : Int) - 1
      · refine g_icT rfl (zcT0 (hq)) ?_
        refine hx t ?_ ?_
        · rcases pr with ⟨-, pr | ⟨q, pr, pr2⟩⟩ | ⟨pr, -⟩
          · cases pr
          · cases pr
            exact absurd hq pr2
          · exact pr
        · rcases pr with ⟨-, pr | ⟨q, pr, pr2⟩⟩ | ⟨-, pr, -⟩
          · cases pr
          · cases pr
            exact absurd hq pr2
          · rw [ha]
            exact pr
      · refine g_icF rfl (zcF0 ⟨by omega, by omega⟩ ⟨by omega, by omega⟩ (hq)) ?_
        refine g_jj6 rfl rfl ?_
        refine g_goto rfl ?_
        refine ih (t + 1) (by omega) ?_
        rcases pr with ⟨pr, -⟩ | ⟨-, pr, pr2⟩
        · exact pr
        · cases pr
          exact absurd pr2 hq
set_option maxRecDepth 20000 in
theorem m_way_j {v wd hd ld nw : Nat → Int32} (h : m_Y M tr v wd hd ld nw W H L hs lot n kc) {a b N : Nat} {fl : Nat → Int32} {lf : Nat → Nat} (h69 : M[69]? = some (zA 325 fl)) (hfl : ∀ q, q < 325 → fl q = zI (lf q : Int)) (hle : p_lend W H L hs b lf) (hg : p_giv W H L hs b N (13 * a)) (hN6 : N ≤ 60) {i : Nat} (hi : i < N) : ∀ (m j t : Nat), j + m = i + 1 → (0 < j → t = p_ws (p_aC W H L hs) b (N - ((j - 1) + 1)) (p_wg (p_aC W H L hs) b N (13 * a) ((j - 1)))) → z_G S (d + 3) 138 67 [some (.ref 62), some (.int (zI (a : Int))), some (.int (zI (b : Int))), some (.int (zI (i : Int))), some (.int (zI (N : Int))), some (.int (zI (p_wg (p_aC W H L hs) b N (13 * a) j : Int))), some (.int (zI (t : Int))), some (.int (zI (j : Int)))] [] M (some (.int (zI (p_ws (p_aC W H L hs) b (N - (i + 1)) (p_wg (p_aC W H L hs) b N (13 * a) (i)) : Int)))) M := by
  obtain ⟨⟨h1, h2, h3, h4, h5⟩, ⟨w1, w2, w3⟩, ⟨⟨hW1, hW2⟩, ⟨hH1, hH2⟩, ⟨hL1, hL2⟩, hn⟩, ⟨a1, a2, a3, a4⟩, hok⟩ := id h
  have hC := p_WH hW2 hH2
  obtain ⟨-, gi1, gi2, gi3, gi4, gi5, gi6⟩ := id hg
  intro m
  induction m with
  | zero =>
    intro j t hj hst
    refine g_il rfl rfl ?_
    refine g_il rfl rfl ?_
    refine g_icT rfl (zcT4 ⟨by omega, by omega⟩ ⟨by omega, by omega⟩ (by omega)) ?_
    refine g_il rfl rfl ?_
    rw [hst (by omega), show j - 1 = i by omega]
    exact g_reti rfl (rfl) rfl
  | succ m ih =>
    intro j t hj hst
    refine g_il rfl rfl ?_
    refine g_il rfl rfl ?_
    refine g_icF rfl (zcF4 ⟨by omega, by omega⟩ ⟨by omega, by omega⟩ (by omega)) ?_
    refine g_ic rfl ?_
    refine g_is6 rfl rfl ?_
    obtain ⟨m1, m2, m3, m4, m5, m6⟩ := hg.wg hN6 (show j < N by omega)
    refine m_way_t h h69 hfl hle hg hN6 hi (j := j) (by omega) (fun t htk ha => ?_) 4 0 (by omega) (by omega)
    refine g_al rfl rfl ?_
    refine g_il rfl rfl ?_
    refine g_il rfl rfl ?_
    refine g_cv2 rfl rfl h1 rfl (by decide) rfl (m_after h (p := p_wg (p_aC W H L hs) b N (13 * a) j) (s := t) m1 (by omega)) ?_
    rw [ha, show oI (some (p_wg (p_aC W H L hs) b N (13 * a) (j + 1))) (-9) = (p_wg (p_aC W H L hs) b N (13 * a) (j + 1) : Int) from rfl]
    refine g_is5 rfl rfl ?_
    refine g_jj7 rfl rfl ?_
    refine g_goto rfl ?_
    exact ih (j + 1) t (by omega) (fun _ => htk)
set_option maxRecDepth 20000 in
theorem y_way {a b i : Int} (ha : z_sm a) (hb : z_sm b) (hi9 : z_sm i) : z_Yc S 138 [.int (zI a), .int (zI b), .int (zI i)] ((T, tx), (W, H, L), (hs, lot, n, kc), im, tr) (.int (zI (v_way W H L hs a b i))) ((T, tx), (W, H, L), (hs, lot, n, kc), im, tr) := by
  intro d M hY
  obtain ⟨y1, v, wd, hd, ld, nw, h, y3, y4, y5, y6, y7, y8⟩ := id hY
  have h : m_Y M tr v wd hd ld nw W H L hs lot n kc := h
  obtain ⟨⟨h1, h2, h3, h4, h5⟩, ⟨w1, w2, w3⟩, ⟨⟨hW1, hW2⟩, ⟨hH1, hH2⟩, ⟨hL1, hL2⟩, hn⟩, ⟨a1, a2, a3, a4⟩, hok⟩ := id h
  have hC := p_WH hW2 hH2
  unfold v_way p_fr2
  refine k_an ?_
  refine k_of rfl rfl (Nat.le_of_ble_eq_true rfl) ?_
  refine r_al rfl rfl ?_
  refine r_il rfl rfl ?_
  refine r_cv1 rfl rfl h1 rfl (by decide) rfl (m_isFree h ha) ?_
  by_cases h1' : 0 ≤ a ∧ a < ((W * H : Nat) : Int) ∧ ¬ bt hs a.toNat = true
  · rw [if_pos h1']
    refine r_ifF rfl (zcF0 ⟨by omega, by omega⟩ ⟨by omega, by omega⟩ (by decide)) ?_
    refine r_al rfl rfl ?_
    refine r_il rfl rfl ?_
    refine r_cv1 rfl rfl h1 rfl (by decide) rfl (m_isFree h hb) ?_
    by_cases h2' : 0 ≤ b ∧ b < ((W * H : Nat) : Int) ∧ ¬ bt hs b.toNat = true
    · rw [if_pos h2']
      refine r_ifF rfl (zcF0 ⟨by omega, by omega⟩ ⟨by omega, by omega⟩ (by decide)) ?_
      refine r_il rfl rfl ?_
      refine r_ic rfl ?_
      by_cases h3' : i < -1
      · rw [if_neg (fun g => by have := g.2.2; omega)]
        refine r_icF rfl (zcF3 ⟨by omega, by omega⟩ ⟨by omega, by omega⟩ (h3')) ?_
        refine r_ic rfl ?_
        refine r_reti rfl rfl ?_
        exact ⟨rfl, hY, .rf⟩
      · rw [if_pos ⟨h1', h2', by omega⟩]
        refine r_icT rfl (zcT3 ⟨by omega, by omega⟩ ⟨by omega, by omega⟩ (h3')) ?_
        refine r_al rfl rfl ?_
        refine r_il rfl rfl ?_
        refine r_il rfl rfl ?_
        obtain ⟨qa, rfl⟩ : ∃ q : Nat, a = (q : Int) := ⟨a.toNat, by omega⟩
        obtain ⟨qb, rfl⟩ : ∃ q : Nat, b = (q : Int) := ⟨b.toNat, by omega⟩
        rw [Int.toNat_natCast, Int.toNat_natCast]
        obtain ⟨⟨f69, r69⟩, ⟨f70, r70⟩, ⟨f71, r71⟩, ⟨f72, r72⟩, ⟨f73, r73⟩, ⟨f74, r74⟩, ⟨f75, r75⟩, ⟨f76, r76⟩, f77, r77⟩ := id y8
        obtain ⟨M2, k2, e2, fl, lf, h69, hfl, hle⟩ := m_stepsOf (S := S) (d := d + 15) h (b := qb) (by omega) r69 (a := qa) (by omega)
        have hM : m_Y M2 tr v wd hd ld nw W H L hs lot n kc := h.ev e2 (fun k x1 x2 => by omega)
        have hY2 : Y_I M2 ((T, tx), (W, H, L), (hs, lot, n, kc), im, tr) := hY.rows (e2.wk (fun k g => by omega)) ⟨⟨fl, h69⟩, ⟨f70, (e2.2 70 (by decide)).trans r70⟩, ⟨f71, (e2.2 71 (by decide)).trans r71⟩, ⟨f72, (e2.2 72 (by decide)).trans r72⟩, ⟨f73, (e2.2 73 (by decide)).trans r73⟩, ⟨f74, (e2.2 74 (by decide)).trans r74⟩, ⟨f75, (e2.2 75 (by decide)).trans r75⟩, ⟨f76, (e2.2 76 (by decide)).trans r76⟩, f77, (e2.2 77 (by decide)).trans r77⟩
        have e9 : z_ev M M2 (fun k => 62 ≤ k) := e2.wk (fun k g => by omega)
        obtain ⟨dl, d2, d3⟩ := p_dst_ok (p_aC W H L hs) qb (13 * qa)
        unfold v_dst
        generalize p_dst (p_aC W H L hs) qb (13 * qa) = n2 at *
        obtain ⟨⟨g1, g2, g3, g4, g5⟩, -⟩ := id hM
        refine r_cv2 rfl rfl h1 rfl (by decide) rfl (k2) ?_
        refine r_is4 rfl rfl ?_
        refine r_il rfl rfl ?_
        refine r_ic rfl ?_
        by_cases hd9 : n2 ≤ 60
        · rw [if_pos hd9, if_neg (fun g => g hd9)]
          refine r_icF rfl (zcF0 ⟨by omega, by omega⟩ ⟨by omega, by omega⟩ (by omega)) ?_
          refine r_il rfl rfl ?_
          refine r_ic rfl ?_
          by_cases h6 : i = -1
          · rw [if_pos h6]
            refine r_icF rfl (zcF1 (h6)) ?_
            refine r_il rfl rfl ?_
            refine r_reti rfl rfl ?_
            exact ⟨rfl, hY2, e9⟩
          · rw [if_neg h6]
            refine r_icT rfl (zcT1 ⟨by omega, by omega⟩ ⟨by omega, by omega⟩ (h6)) ?_
            refine r_il rfl rfl ?_
            refine r_il rfl rfl ?_
            by_cases h5' : i < (n2 : Int)
            · rw [if_pos h5']
              obtain ⟨j, rfl⟩ : ∃ j : Nat, i = (j : Int) := ⟨i.toNat, by omega⟩
              rw [Int.toNat_natCast]
              refine r_icT rfl (zcT2 ⟨by omega, by omega⟩ ⟨by omega, by omega⟩ (h5')) ?_
              refine r_ic rfl ?_
              refine r_il rfl rfl ?_
              refine r_mulI rfl ?_
              refine r_is5 rfl rfl ?_
              refine r_ic rfl ?_
              refine r_is6 rfl rfl ?_
              refine r_ic rfl ?_
              refine r_is7 rfl rfl ?_
              exact ⟨_, _, m_way_j hM h69 hfl hle ⟨⟨hL2, hC⟩, by omega, Or.inl (by omega), by omega, dl, d2, d3⟩ hd9 (show j < n2 by omega) (j + 1) 0 0 (by omega) (fun g => by omega), rfl, hY2, e9⟩
            · rw [if_neg h5']
              refine r_icF rfl (zcF2 ⟨by omega, by omega⟩ ⟨by omega, by omega⟩ (h5')) ?_
              refine r_ic rfl ?_
              refine r_reti rfl rfl ?_
              exact ⟨rfl, hY2, e9⟩
        · rw [if_neg hd9, if_pos hd9]
          refine r_icT rfl (zcT0 (rfl)) ?_
          refine r_il rfl rfl ?_
          refine r_reti rfl rfl ?_
          exact ⟨rfl, hY2, e9⟩
    · rw [if_neg h2', if_neg (fun g => h2' g.2.1)]
      refine r_ifT rfl (zcT0 (rfl)) ?_
      refine r_ic rfl ?_
      refine r_reti rfl rfl ?_
      exact ⟨rfl, hY, .rf⟩
  · rw [if_neg h1', if_neg (fun g => h1' g.1)]
    refine r_ifT rfl (zcT0 (rfl)) ?_
    refine r_ic rfl ?_
    refine r_reti rfl rfl ?_
    exact ⟨rfl, hY, .rf⟩
end WZ
