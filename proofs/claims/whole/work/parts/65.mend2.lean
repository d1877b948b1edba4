/-! MEND: the reference's side, and the public calls -/
theorem p_mk_ref {W H L : Nat} {hs : Int32} {b N : Nat} {s : Nat → Int} {j p t : Nat} (hL : L ≤ 3) (hj : j < N) (hN : N ≤ 12) (hv : p_val L p) (hf : p_D (p_aC W H L hs) 1000 b N s (N - j) p < 1000) (ht : t ≤ p_mk (p_aC W H L hs) b N s j p) : (t < p_mk (p_aC W H L hs) b N s j p ∧ (p_aR W H L hs p t = none ∨ ∃ q, p_aR W H L hs p t = some q ∧ p_D (p_aR W H L hs) 999 b N s (N - (j + 1)) q + p_cst t (s j) ≠ p_D (p_aR W H L hs) 999 b N s (N - j) p)) ∨ (t = p_mk (p_aC W H L hs) b N s j p ∧ ∃ q, p_aR W H L hs p t = some q ∧ p_D (p_aR W H L hs) 999 b N s (N - (j + 1)) q + p_cst t (s j) = p_D (p_aR W H L hs) 999 b N s (N - j) p ∧ q = (p_aC W H L hs p t).getD 0) := by
  obtain ⟨g1, ⟨y, g2, g3⟩, g4⟩ := p_mk_ok hj hN hf
  have r1 := p_D_rel (W := W) (H := H) (hs := hs) (b := b) (m := N) (st := s) hL (N - j) p (by omega) hv
  rw [p_a_eq hv]
  by_cases e : t = p_mk (p_aC W H L hs) b N s j p
  · subst e
    refine Or.inr ⟨rfl, y, g2, ?_, by rw [g2]; rfl⟩
    have r2 := p_D_rel (W := W) (H := H) (hs := hs) (b := b) (m := N) (st := s) hL (N - (j + 1)) y (by omega) (p_aC_val g1 hL g2)
    omega
  · refine Or.inl ⟨by omega, ?_⟩
    have g5 := g4 t (by omega)
    cases ha : p_aC W H L hs p t with
    | none => exact Or.inl rfl
    | some q =>
      rw [ha] at g5
      have g5 : p_D (p_aC W H L hs) 1000 b N s (N - j) p < p_D (p_aC W H L hs) 1000 b N s (N - (j + 1)) q + p_cst t (s j) := g5
      refine Or.inr ⟨q, rfl, ?_⟩
      have r2 := p_D_rel (W := W) (H := H) (hs := hs) (b := b) (m := N) (st := s) hL (N - (j + 1)) q (by omega) (p_aC_val (by omega) hL ha)
      omega
section ME
variable {S : ZS} {d : Nat} {M : ZM} {T : Nat} {tx : Nat → Int32} {W H L n : Nat} {hs lot : Int32} {kc : Nat → ZK} {im : Nat → Option ZB} {tr : Int64}
set_option maxRecDepth 20000 in
theorem m_mend_s {v wd hd ld nw : Nat → Int32} (hY : m_Y M tr v wd hd ld nw W H L hs lot n kc) {k : Nat} (hk : k < n) {fN N b : Nat} {s : Nat → Int} (ek : kc k = (fN, N, s)) (eb : k_last W H (kc k) = b) {i p : Nat} (hi : i < N) (hp : p < (13 * (W * H))) {Q : Option Value → ZM → Prop} (hx : ∀ (M1 : ZM) (x6 x7 x8 : Option Value), (z_ev M M1 (fun k => k = 72) ∧ ∃ df, M1[72]? = some (zA 4225 df) ∧ (∀ j q, i < j → j ≤ N → q < (13 * (W * H)) → df (325 * j + q) = zI (p_D (p_aR W H L hs) 999 b N s (N - j) q : Int)) ∧ (∀ q, q < p + 1 → q < (13 * (W * H)) → df (325 * i + q) = zI (p_D (p_aR W H L hs) 999 b N s (N - i) q : Int))) → z_R S (d + 3) 140 71 [some (.ref 62), some (.int (zI (k : Int))), some (.int (zI (N : Int))), some (.int (zI (b : Int))), some (.int (zI (i : Int))), some (.int (zI ((p + 1 : Nat) : Int))), x6, x7, x8] [] M1 Q) : ∀ (j t : Nat) (M1 : ZM) (x7 x8 : Option Value), t + j = 4 → (z_ev M M1 (fun k => k = 72) ∧ ∃ df, M1[72]? = some (zA 4225 df) ∧ (∀ j q, i < j → j ≤ N → q < (13 * (W * H)) → df (325 * j + q) = zI (p_D (p_aR W H L hs) 999 b N s (N - j) q : Int)) ∧ (∀ q, q < p → q < (13 * (W * H)) → df (325 * i + q) = zI (p_D (p_aR W H L hs) 999 b N s (N - i) q : Int)) ∧ df (325 * i + p) = zI (p_mn (p_aR W H L hs) 999 (p_D (p_aR W H L hs) 999 b N s (N - (i + 1))) (s i) p t : Int)) → z_R S (d + 3) 140 99 [some (.ref 62), some (.int (zI (k : Int))), some (.int (zI (N : Int))), some (.int (zI (b : Int))), some (.int (zI (i : Int))), some (.int (zI (p : Int))), some (.int (zI (t : Int))), x7, x8] [] M1 Q := by
  intro j
  induction j with
  | zero =>
    intro t M1 x7 x8 ht9 hI
    obtain ⟨he, df, hd9, hdr⟩ := hI
    have h := hY.ev he (fun k x1 x2 => by omega)
    obtain ⟨⟨h1, h2, h3, h4, h5⟩, ⟨w1, w2, w3⟩, ⟨⟨hW1, hW2⟩, ⟨hH1, hH2⟩, ⟨hL1, hL2⟩, hn⟩, ⟨a1, a2, a3, a4⟩, hok⟩ := id h
    have hC := p_WH hW2 hH2
    have pk := hok k hk
    rw [ek] at pk
    obtain ⟨pk1, ⟨pk2, pk3⟩, pk4, -⟩ := id pk
    have hfN : fN < W * H := pk1
    have hN1 : 1 ≤ N := pk2
    have hN2 : N ≤ 12 := pk3
    refine r_il rfl rfl ?_
    refine r_ic rfl ?_
    refine r_icT rfl (zcT3 ⟨by omega, by omega⟩ ⟨by omega, by omega⟩ (by omega)) ?_
    refine r_jj5 rfl rfl ?_
    refine r_goto rfl ?_
    have e9 : p_mn (p_aR W H L hs) 999 (p_D (p_aR W H L hs) 999 b N s (N - (i + 1))) (s i) p 4 = p_D (p_aR W H L hs) 999 b N s (N - i) p := by
      rw [show N - i = N - (i + 1) + 1 by omega]
      show _ = p_mn _ _ _ (s (N - (N - (i + 1) + 1))) p 4
      rw [show N - (N - (i + 1) + 1) = i by omega]
    refine hx M1 _ _ _ ⟨he, df, hd9, hdr.1, fun q hq1 hq2 => ?_⟩
    by_cases e : q = p
    · subst e
      rw [hdr.2.2, show t = 4 by omega, e9]
    · exact hdr.2.1 q (by omega) hq2
  | succ j ih =>
    intro t M1 x7 x8 ht9 hI
    obtain ⟨he, df, hd9, hdr⟩ := hI
    have h := hY.ev he (fun k x1 x2 => by omega)
    obtain ⟨⟨h1, h2, h3, h4, h5⟩, ⟨w1, w2, w3⟩, ⟨⟨hW1, hW2⟩, ⟨hH1, hH2⟩, ⟨hL1, hL2⟩, hn⟩, ⟨a1, a2, a3, a4⟩, hok⟩ := id h
    have hC := p_WH hW2 hH2
    have pk := hok k hk
    rw [ek] at pk
    obtain ⟨pk1, ⟨pk2, pk3⟩, pk4, -⟩ := id pk
    have hfN : fN < W * H := pk1
    have hN1 : 1 ≤ N := pk2
    have hN2 : N ≤ 12 := pk3
    refine r_il rfl rfl ?_
    refine r_ic rfl ?_
    refine r_icF rfl (zcF3 ⟨by omega, by omega⟩ ⟨by omega, by omega⟩ (by omega)) ?_
    refine r_il rfl rfl ?_
    refine r_ic rfl ?_
    refine r_al rfl rfl ?_
    refine r_cv0 rfl rfl h1 rfl (by decide) rfl (m_cells h) ?_
    refine r_mulI rfl ?_
    rw [show (13 : Int) * ((W * H : Nat) : Int) = (((13 * (W * H)) : Nat) : Int) by omega]
    refine r_icF rfl (zcF3 ⟨by omega, by omega⟩ ⟨by omega, by omega⟩ (by omega)) ?_
    refine r_al rfl rfl ?_
    refine r_il rfl rfl ?_
    refine r_il rfl rfl ?_
    refine r_cv2 rfl rfl h1 rfl (by decide) rfl (m_after h (p := p) (s := t) hp (by omega)) ?_
    refine r_is7 rfl rfl ?_
    refine r_il rfl rfl ?_
    refine r_ic rfl ?_
    have b1 := p_mn_le (a := p_aR W H L hs) (F := 999) (D := (p_D (p_aR W H L hs) 999 b N s (N - (i + 1)))) (own := s i) (p := p) t
    rcases ha : p_aR W H L hs p t with - | y
    · have hv : p_dv 999 (p_D (p_aR W H L hs) 999 b N s (N - (i + 1))) (s i) t (p_aR W H L hs p t) = 999 := by rw [ha]; rfl
      rw [show oI none (-9) = -9 from rfl]
      refine r_icF rfl (zcF1 (rfl)) ?_
      refine r_ic rfl ?_
      refine r_goto rfl ?_
      refine r_is8 rfl rfl ?_
      refine r_al rfl rfl ?_
      refine r_gf rfl h1 rfl rfl ?_
      refine r_ic rfl ?_
      refine r_il rfl rfl ?_
      refine r_mulI rfl ?_
      refine r_il rfl rfl ?_
      refine r_addI rfl ?_
      refine r_il rfl rfl ?_
      refine r_al rfl rfl ?_
      refine r_gf rfl h1 rfl rfl ?_
      refine r_ic rfl ?_
      refine r_il rfl rfl ?_
      refine r_mulI rfl ?_
      refine r_il rfl rfl ?_
      refine r_addI rfl ?_
      refine r_iaI rfl (by decide) hd9 (by omega) (by omega) (by omega) ?_
      rw [show ((325 : Int) * (i : Int) + (p : Int)).toNat = 325 * i + p by omega, hdr.2.2]
      by_cases hm : 999 < p_mn (p_aR W H L hs) 999 (p_D (p_aR W H L hs) 999 b N s (N - (i + 1))) (s i) p t
      · refine r_icF rfl (zcF3 ⟨by omega, by omega⟩ ⟨by omega, by omega⟩ (by omega)) ?_
        refine r_il rfl rfl ?_
        refine r_goto rfl ?_
        refine r_iSI rfl hd9 (by omega) (by omega) (by omega) ?_
        refine r_jj6 rfl rfl ?_
        refine r_goto rfl ?_
        refine ih (t + 1) _ _ _ (by omega) ⟨he.tr (.set rfl), _, z_gs hd9, fun j q h1 h2 h3 => ?_, fun q hq1 hq2 => ?_, ?_⟩
        · rw [show ((325 : Int) * (i : Int) + (p : Int)).toNat = 325 * i + p by omega, pk_un (by omega)]
          exact hdr.1 j q h1 h2 h3
        · rw [show ((325 : Int) * (i : Int) + (p : Int)).toNat = 325 * i + p by omega, pk_un (by omega)]
          exact hdr.2.1 q hq1 hq2
        · rw [show ((325 : Int) * (i : Int) + (p : Int)).toNat = 325 * i + p by omega, pk_us]
          show _ = zI ((min (p_mn (p_aR W H L hs) 999 (p_D (p_aR W H L hs) 999 b N s (N - (i + 1))) (s i) p t) (p_dv 999 (p_D (p_aR W H L hs) 999 b N s (N - (i + 1))) (s i) t (p_aR W H L hs p t)) : Nat) : Int)
          rw [hv]
          exact congrArg zI (by omega)
      · refine r_icT rfl (zcT3 ⟨by omega, by omega⟩ ⟨by omega, by omega⟩ (by omega)) ?_
        refine r_al rfl rfl ?_
        refine r_gf rfl h1 rfl rfl ?_
        refine r_ic rfl ?_
        refine r_il rfl rfl ?_
        refine r_mulI rfl ?_
        refine r_il rfl rfl ?_
        refine r_addI rfl ?_
        refine r_iaI rfl (by decide) hd9 (by omega) (by omega) (by omega) ?_
        rw [show ((325 : Int) * (i : Int) + (p : Int)).toNat = 325 * i + p by omega, hdr.2.2]
        refine r_iSI rfl hd9 (by omega) (by omega) (by omega) ?_
        refine r_jj6 rfl rfl ?_
        refine r_goto rfl ?_
        refine ih (t + 1) _ _ _ (by omega) ⟨he.tr (.set rfl), _, z_gs hd9, fun j q h1 h2 h3 => ?_, fun q hq1 hq2 => ?_, ?_⟩
        · rw [show ((325 : Int) * (i : Int) + (p : Int)).toNat = 325 * i + p by omega, pk_un (by omega)]
          exact hdr.1 j q h1 h2 h3
        · rw [show ((325 : Int) * (i : Int) + (p : Int)).toNat = 325 * i + p by omega, pk_un (by omega)]
          exact hdr.2.1 q hq1 hq2
        · rw [show ((325 : Int) * (i : Int) + (p : Int)).toNat = 325 * i + p by omega, pk_us]
          show _ = zI ((min (p_mn (p_aR W H L hs) 999 (p_D (p_aR W H L hs) 999 b N s (N - (i + 1))) (s i) p t) (p_dv 999 (p_D (p_aR W H L hs) 999 b N s (N - (i + 1))) (s i) t (p_aR W H L hs p t)) : Nat) : Int)
          rw [hv]
          exact congrArg zI (by omega)
    · have hy := p_aR_lt (by omega) hp ha
      have hB1 := p_D_le (a := p_aR W H L hs) (F := 999) (b := b) (m := N) (st := s) (r := N - (i + 1)) (p := y)
      have hv : p_dv 999 (p_D (p_aR W H L hs) 999 b N s (N - (i + 1))) (s i) t (p_aR W H L hs p t) = (p_D (p_aR W H L hs) 999 b N s (N - (i + 1))) y + p_cst t (s i) := by rw [ha]; rfl
      have ec : p_cst t (s i) = if (t : Int) = s i then 0 else 1 := rfl
      have hsi := pk4 i (by omega)
      rw [show (fN, N, s).2.2 i = s i from rfl] at hsi
      rw [show oI (some y) (-9) = (y : Int) from rfl]
      refine r_icT rfl (zcT1 ⟨by omega, by omega⟩ ⟨by omega, by omega⟩ (by omega)) ?_
      refine r_al rfl rfl ?_
      refine r_gf rfl h1 rfl rfl ?_
      refine r_ic rfl ?_
      refine r_il rfl rfl ?_
      refine r_mulI rfl ?_
      refine r_ic rfl ?_
      refine r_addI rfl ?_
      refine r_il rfl rfl ?_
      refine r_addI rfl ?_
      refine r_iaI rfl (by decide) hd9 (by omega) (by omega) (by omega) ?_
      rw [show ((325 : Int) * (i : Int) + 325 + (y : Int)).toNat = 325 * (i + 1) + y by omega, hdr.1 (i + 1) y (by omega) (by omega) hy]
      refine r_il rfl rfl ?_
      refine r_al rfl rfl ?_
      refine r_il rfl rfl ?_
      refine r_il rfl rfl ?_
      refine r_cv2 rfl rfl h1 rfl (by decide) rfl (m_stepIn h hk (j := i) (by rw [ek]; exact hi)) ?_
      rw [show (kc k).2.2 i = s i by rw [ek]]
      by_cases hc9 : (t : Int) = s i
      · rw [if_pos hc9] at ec
        rw [ec] at hv
        refine r_icF rfl (zcF1 (hc9)) ?_
        refine r_ic rfl ?_
        refine r_goto rfl ?_
        refine r_addI rfl ?_
        refine r_is8 rfl rfl ?_
        refine r_al rfl rfl ?_
        refine r_gf rfl h1 rfl rfl ?_
        refine r_ic rfl ?_
        refine r_il rfl rfl ?_
        refine r_mulI rfl ?_
        refine r_il rfl rfl ?_
        refine r_addI rfl ?_
        refine r_il rfl rfl ?_
        refine r_al rfl rfl ?_
        refine r_gf rfl h1 rfl rfl ?_
        refine r_ic rfl ?_
        refine r_il rfl rfl ?_
        refine r_mulI rfl ?_
        refine r_il rfl rfl ?_
        refine r_addI rfl ?_
        refine r_iaI rfl (by decide) hd9 (by omega) (by omega) (by omega) ?_
        rw [show ((325 : Int) * (i : Int) + (p : Int)).toNat = 325 * i + p by omega, hdr.2.2]
        by_cases hm : (p_D (p_aR W H L hs) 999 b N s (N - (i + 1))) y + 0 < p_mn (p_aR W H L hs) 999 (p_D (p_aR W H L hs) 999 b N s (N - (i + 1))) (s i) p t
        · refine r_icF rfl (zcF3 ⟨by omega, by omega⟩ ⟨by omega, by omega⟩ (by omega)) ?_
          refine r_il rfl rfl ?_
          refine r_goto rfl ?_
          refine r_iSI rfl hd9 (by omega) (by omega) (by omega) ?_
          refine r_jj6 rfl rfl ?_
          refine r_goto rfl ?_
          refine ih (t + 1) _ _ _ (by omega) ⟨he.tr (.set rfl), _, z_gs hd9, fun j q h1 h2 h3 => ?_, fun q hq1 hq2 => ?_, ?_⟩
          · rw [show ((325 : Int) * (i : Int) + (p : Int)).toNat = 325 * i + p by omega, pk_un (by omega)]
            exact hdr.1 j q h1 h2 h3
          · rw [show ((325 : Int) * (i : Int) + (p : Int)).toNat = 325 * i + p by omega, pk_un (by omega)]
            exact hdr.2.1 q hq1 hq2
          · rw [show ((325 : Int) * (i : Int) + (p : Int)).toNat = 325 * i + p by omega, pk_us]
            show _ = zI ((min (p_mn (p_aR W H L hs) 999 (p_D (p_aR W H L hs) 999 b N s (N - (i + 1))) (s i) p t) (p_dv 999 (p_D (p_aR W H L hs) 999 b N s (N - (i + 1))) (s i) t (p_aR W H L hs p t)) : Nat) : Int)
            rw [hv]
            exact congrArg zI (by omega)
        · refine r_icT rfl (zcT3 ⟨by omega, by omega⟩ ⟨by omega, by omega⟩ (by omega)) ?_
          refine r_al rfl rfl ?_
          refine r_gf rfl h1 rfl rfl ?_
          refine r_ic rfl ?_
          refine r_il rfl rfl ?_
          refine r_mulI rfl ?_
          refine r_il rfl rfl ?_
          refine r_addI rfl ?_
          refine r_iaI rfl (by decide) hd9 (by omega) (by omega) (by omega) ?_
          rw [show ((325 : Int) * (i : Int) + (p : Int)).toNat = 325 * i + p by omega, hdr.2.2]
          refine r_iSI rfl hd9 (by omega) (by omega) (by omega) ?_
          refine r_jj6 rfl rfl ?_
          refine r_goto rfl ?_
          refine ih (t + 1) _ _ _ (by omega) ⟨he.tr (.set rfl), _, z_gs hd9, fun j q h1 h2 h3 => ?_, fun q hq1 hq2 => ?_, ?_⟩
          · rw [show ((325 : Int) * (i : Int) + (p : Int)).toNat = 325 * i + p by omega, pk_un (by omega)]
            exact hdr.1 j q h1 h2 h3
          · rw [show ((325 : Int) * (i : Int) + (p : Int)).toNat = 325 * i + p by omega, pk_un (by omega)]
            exact hdr.2.1 q hq1 hq2
          · rw [show ((325 : Int) * (i : Int) + (p : Int)).toNat = 325 * i + p by omega, pk_us]
            show _ = zI ((min (p_mn (p_aR W H L hs) 999 (p_D (p_aR W H L hs) 999 b N s (N - (i + 1))) (s i) p t) (p_dv 999 (p_D (p_aR W H L hs) 999 b N s (N - (i + 1))) (s i) t (p_aR W H L hs p t)) : Nat) : Int)
            rw [hv]
            exact congrArg zI (by omega)
      · rw [if_neg hc9] at ec
        rw [ec] at hv
        refine r_icT rfl (zcT1 ⟨by omega, by omega⟩ ⟨by omega, by omega⟩ (hc9)) ?_
        refine r_ic rfl ?_
        refine r_addI rfl ?_
        refine r_is8 rfl rfl ?_
        refine r_al rfl rfl ?_
        refine r_gf rfl h1 rfl rfl ?_
        refine r_ic rfl ?_
        refine r_il rfl rfl ?_
        refine r_mulI rfl ?_
        refine r_il rfl rfl ?_
        refine r_addI rfl ?_
        refine r_il rfl rfl ?_
        refine r_al rfl rfl ?_
        refine r_gf rfl h1 rfl rfl ?_
        refine r_ic rfl ?_
        refine r_il rfl rfl ?_
        refine r_mulI rfl ?_
        refine r_il rfl rfl ?_
        refine r_addI rfl ?_
        refine r_iaI rfl (by decide) hd9 (by omega) (by omega) (by omega) ?_
        rw [show ((325 : Int) * (i : Int) + (p : Int)).toNat = 325 * i + p by omega, hdr.2.2]
        by_cases hm : (p_D (p_aR W H L hs) 999 b N s (N - (i + 1))) y + 1 < p_mn (p_aR W H L hs) 999 (p_D (p_aR W H L hs) 999 b N s (N - (i + 1))) (s i) p t
        · refine r_icF rfl (zcF3 ⟨by omega, by omega⟩ ⟨by omega, by omega⟩ (by omega)) ?_
          refine r_il rfl rfl ?_
          refine r_goto rfl ?_
          refine r_iSI rfl hd9 (by omega) (by omega) (by omega) ?_
          refine r_jj6 rfl rfl ?_
          refine r_goto rfl ?_
          refine ih (t + 1) _ _ _ (by omega) ⟨he.tr (.set rfl), _, z_gs hd9, fun j q h1 h2 h3 => ?_, fun q hq1 hq2 => ?_, ?_⟩
          · rw [show ((325 : Int) * (i : Int) + (p : Int)).toNat = 325 * i + p by omega, pk_un (by omega)]
            exact hdr.1 j q h1 h2 h3
          · rw [show ((325 : Int) * (i : Int) + (p : Int)).toNat = 325 * i + p by omega, pk_un (by omega)]
            exact hdr.2.1 q hq1 hq2
          · rw [show ((325 : Int) * (i : Int) + (p : Int)).toNat = 325 * i + p by omega, pk_us]
            show _ = zI ((min (p_mn (p_aR W H L hs) 999 (p_D (p_aR W H L hs) 999 b N s (N - (i + 1))) (s i) p t) (p_dv 999 (p_D (p_aR W H L hs) 999 b N s (N - (i + 1))) (s i) t (p_aR W H L hs p t)) : Nat) : Int)
            rw [hv]
            exact congrArg zI (by omega)
        · refine r_icT rfl (zcT3 ⟨by omega, by omega⟩ ⟨by omega, by omega⟩ (by omega)) ?_
          refine r_al rfl rfl ?_
          refine r_gf rfl h1 rfl rfl ?_
          refine r_ic rfl ?_
          refine r_il rfl rfl ?_
          refine r_mulI rfl ?_
          refine r_il rfl rfl ?_
          refine r_addI rfl ?_
          refine r_iaI rfl (by decide) hd9 (by omega) (by omega) (by omega) ?_
          rw [show ((325 : Int) * (i : Int) + (p : Int)).toNat = 325 * i + p by omega, hdr.2.2]
          refine r_iSI rfl hd9 (by omega) (by omega) (by omega) ?_
          refine r_jj6 rfl rfl ?_
          refine r_goto rfl ?_
          refine ih (t + 1) _ _ _ (by omega) ⟨he.tr (.set rfl), _, z_gs hd9, fun j q h1 h2 h3 => ?_, fun q hq1 hq2 => ?_, ?_⟩
          · rw [show ((325 : Int) * (i : Int) + (p : Int)).toNat = 325 * i + p by omega, pk_un (by omega)]
            exact hdr.1 j q h1 h2 h3
          · rw [show ((325 : Int) * (i : Int) + (p : Int)).toNat = 325 * i + p by omega, pk_un (by omega)]
            exact hdr.2.1 q hq1 hq2
          · rw [show ((325 : Int) * (i : Int) + (p : Int)).toNat = 325 * i + p by omega, pk_us]
            show _ = zI ((min (p_mn (p_aR W H L hs) 999 (p_D (p_aR W H L hs) 999 b N s (N - (i + 1))) (s i) p t) (p_dv 999 (p_D (p_aR W H L hs) 999 b N s (N - (i + 1))) (s i) t (p_aR W H L hs p t)) : Nat) : Int)
            rw [hv]
            exact congrArg zI (by omega)
set_option maxRecDepth 20000 in
theorem m_mend_p {v wd hd ld nw : Nat → Int32} (hY : m_Y M tr v wd hd ld nw W H L hs lot n kc) {k : Nat} (hk : k < n) {fN N b : Nat} {s : Nat → Int} (ek : kc k = (fN, N, s)) (eb : k_last W H (kc k) = b) {i : Nat} (hi : i < N) {Q : Option Value → ZM → Prop} (hx : ∀ (M1 : ZM) (x5 x6 x7 x8 : Option Value), (z_ev M M1 (fun k => k = 72) ∧ ∃ df, M1[72]? = some (zA 4225 df) ∧ ∀ j q, i ≤ j → j ≤ N → q < (13 * (W * H)) → df (325 * j + q) = zI (p_D (p_aR W H L hs) 999 b N s (N - j) q : Int)) → z_R S (d + 3) 140 63 [some (.ref 62), some (.int (zI (k : Int))), some (.int (zI (N : Int))), some (.int (zI (b : Int))), some (.int (zI ((i : Int) - 1))), x5, x6, x7, x8] [] M1 Q) : ∀ (j p : Nat) (M1 : ZM) (x6 x7 x8 : Option Value), p + j = 325 → (z_ev M M1 (fun k => k = 72) ∧ ∃ df, M1[72]? = some (zA 4225 df) ∧ (∀ j q, i < j → j ≤ N → q < (13 * (W * H)) → df (325 * j + q) = zI (p_D (p_aR W H L hs) 999 b N s (N - j) q : Int)) ∧ (∀ q, q < p → q < (13 * (W * H)) → df (325 * i + q) = zI (p_D (p_aR W H L hs) 999 b N s (N - i) q : Int))) → z_R S (d + 3) 140 71 [some (.ref 62), some (.int (zI (k : Int))), some (.int (zI (N : Int))), some (.int (zI (b : Int))), some (.int (zI (i : Int))), some (.int (zI (p : Int))), x6, x7, x8] [] M1 Q := by
  intro j
  induction j with
  | zero =>
    intro p M1 x6 x7 x8 hp9 hI
    obtain ⟨he, df, hd9, hdr⟩ := hI
    have h := hY.ev he (fun k x1 x2 => by omega)
    obtain ⟨⟨h1, h2, h3, h4, h5⟩, ⟨w1, w2, w3⟩, ⟨⟨hW1, hW2⟩, ⟨hH1, hH2⟩, ⟨hL1, hL2⟩, hn⟩, ⟨a1, a2, a3, a4⟩, hok⟩ := id h
    have hC := p_WH hW2 hH2
    have pk := hok k hk
    rw [ek] at pk
    obtain ⟨pk1, ⟨pk2, pk3⟩, pk4, -⟩ := id pk
    have hfN : fN < W * H := pk1
    have hN1 : 1 ≤ N := pk2
    have hN2 : N ≤ 12 := pk3
    refine r_il rfl rfl ?_
    refine r_ic rfl ?_
    refine r_icT rfl (zcT3 ⟨by omega, by omega⟩ ⟨by omega, by omega⟩ (by omega)) ?_
    refine r_jj4 rfl rfl ?_
    refine r_goto rfl ?_
    rw [show (i : Int) + -1 = (i : Int) - 1 by omega]
    refine hx M1 _ _ _ _ ⟨he, df, hd9, fun j q h1 h2 h3 => ?_⟩
    by_cases e : j = i
    · subst e
      exact hdr.2 q (by omega) h3
    · exact hdr.1 j q (by omega) h2 h3
  | succ j ih =>
    intro p M1 x6 x7 x8 hp9 hI
    obtain ⟨he, df, hd9, hdr⟩ := hI
    have h := hY.ev he (fun k x1 x2 => by omega)
    obtain ⟨⟨h1, h2, h3, h4, h5⟩, ⟨w1, w2, w3⟩, ⟨⟨hW1, hW2⟩, ⟨hH1, hH2⟩, ⟨hL1, hL2⟩, hn⟩, ⟨a1, a2, a3, a4⟩, hok⟩ := id h
    have hC := p_WH hW2 hH2
    have pk := hok k hk
    rw [ek] at pk
    obtain ⟨pk1, ⟨pk2, pk3⟩, pk4, -⟩ := id pk
    have hfN : fN < W * H := pk1
    have hN1 : 1 ≤ N := pk2
    have hN2 : N ≤ 12 := pk3
    refine r_il rfl rfl ?_
    refine r_ic rfl ?_
    refine r_icF rfl (zcF3 ⟨by omega, by omega⟩ ⟨by omega, by omega⟩ (by omega)) ?_
    refine r_al rfl rfl ?_
    refine r_gf rfl h1 rfl rfl ?_
    refine r_ic rfl ?_
    refine r_il rfl rfl ?_
    refine r_mulI rfl ?_
    refine r_il rfl rfl ?_
    refine r_addI rfl ?_
    refine r_ic rfl ?_
    refine r_iSI rfl hd9 (by omega) (by omega) (by omega) ?_
    refine r_ic rfl ?_
    refine r_is6 rfl rfl ?_
    have hI3 : z_ev M (M1.set 72 (zA 4225 (upd df ((325 : Int) * (i : Int) + (p : Int)).toNat (zI 999)))) (fun k => k = 72) := he.tr (.set rfl)
    have hr1 : ∀ j q, i < j → j ≤ N → q < (13 * (W * H)) → (upd df ((325 : Int) * (i : Int) + (p : Int)).toNat (zI 999)) (325 * j + q) = zI (p_D (p_aR W H L hs) 999 b N s (N - j) q : Int) := fun j q h1 h2 h3 => by
      rw [show ((325 : Int) * (i : Int) + (p : Int)).toNat = 325 * i + p by omega, pk_un (by omega)]
      exact hdr.1 j q h1 h2 h3
    have hr2 : ∀ q, q < p → q < (13 * (W * H)) → (upd df ((325 : Int) * (i : Int) + (p : Int)).toNat (zI 999)) (325 * i + q) = zI (p_D (p_aR W H L hs) 999 b N s (N - i) q : Int) := fun q h1 h2 => by
      rw [show ((325 : Int) * (i : Int) + (p : Int)).toNat = 325 * i + p by omega, pk_un (by omega)]
      exact hdr.2 q h1 h2
    by_cases hp : p < (13 * (W * H))
    · refine m_mend_s hY hk ek eb (i := i) (p := p) hi hp (fun M2 x6 x7 x8 hI2 => ih (p + 1) M2 x6 x7 x8 (by omega) hI2) 4 0 _ _ _ (by omega) ⟨hI3, _, z_gs hd9, hr1, hr2, ?_⟩
      rw [show ((325 : Int) * (i : Int) + (p : Int)).toNat = 325 * i + p by omega, pk_us]
      rfl
    · have h := hY.ev hI3 (fun k x1 x2 => by omega)
      refine r_il rfl rfl ?_
      refine r_ic rfl ?_
      refine r_icF rfl (zcF3 ⟨by omega, by omega⟩ ⟨by omega, by omega⟩ (by omega)) ?_
      refine r_il rfl rfl ?_
      refine r_ic rfl ?_
      refine r_al rfl rfl ?_
      refine r_cv0 rfl rfl (z_gn (by decide) h1) rfl (by decide) rfl (m_cells h) ?_
      refine r_mulI rfl ?_
      rw [show (13 : Int) * ((W * H : Nat) : Int) = (((13 * (W * H)) : Nat) : Int) by omega]
      refine r_icT rfl (zcT3 ⟨by omega, by omega⟩ ⟨by omega, by omega⟩ (by omega)) ?_
      refine r_jj5 rfl rfl ?_
      refine r_goto rfl ?_
      exact ih (p + 1) _ _ _ _ (by omega) ⟨hI3, _, z_gs hd9, hr1, fun q h1 h2 => hr2 q (by omega) h2⟩
set_option maxRecDepth 20000 in
theorem m_mend_i {v wd hd ld nw : Nat → Int32} (hY : m_Y M tr v wd hd ld nw W H L hs lot n kc) {k : Nat} (hk : k < n) {fN N b : Nat} {s : Nat → Int} (ek : kc k = (fN, N, s)) (eb : k_last W H (kc k) = b) : ∀ (i : Nat) (M1 : ZM) (x5 x6 x7 x8 : Option Value), i ≤ N → (z_ev M M1 (fun k => k = 72) ∧ ∃ df, M1[72]? = some (zA 4225 df) ∧ ∀ j q, i ≤ j → j ≤ N → q < (13 * (W * H)) → df (325 * j + q) = zI (p_D (p_aR W H L hs) 999 b N s (N - j) q : Int)) → z_R S (d + 3) 140 63 [some (.ref 62), some (.int (zI (k : Int))), some (.int (zI (N : Int))), some (.int (zI (b : Int))), some (.int (zI ((i : Int) - 1))), x5, x6, x7, x8] [] M1 (fun r M2 => r = none ∧ z_ev M M2 (fun k => k = 72) ∧ ∃ df, M2[72]? = some (zA 4225 df) ∧ ∀ j q, j ≤ N → q < (13 * (W * H)) → df (325 * j + q) = zI (p_D (p_aR W H L hs) 999 b N s (N - j) q : Int)) := by
  intro i
  induction i with
  | zero =>
    intro M1 x5 x6 x7 x8 hi9 hI
    obtain ⟨he, df, hd9, hdr⟩ := hI
    have h := hY.ev he (fun k x1 x2 => by omega)
    obtain ⟨⟨h1, h2, h3, h4, h5⟩, ⟨w1, w2, w3⟩, ⟨⟨hW1, hW2⟩, ⟨hH1, hH2⟩, ⟨hL1, hL2⟩, hn⟩, ⟨a1, a2, a3, a4⟩, hok⟩ := id h
    have hC := p_WH hW2 hH2
    have pk := hok k hk
    rw [ek] at pk
    obtain ⟨pk1, ⟨pk2, pk3⟩, pk4, -⟩ := id pk
    have hfN : fN < W * H := pk1
    have hN1 : 1 ≤ N := pk2
    have hN2 : N ≤ 12 := pk3
    refine r_il rfl rfl ?_
    refine r_ifT rfl (zcT2 ⟨by omega, by omega⟩ ⟨by omega, by omega⟩ (by omega)) ?_
    refine r_retv rfl rfl ?_
    exact ⟨rfl, he, df, hd9, fun j q h2 h3 => hdr j q (by omega) h2 h3⟩
  | succ i ih =>
    intro M1 x5 x6 x7 x8 hi9 hI
    obtain ⟨he, df, hd9, hdr⟩ := hI
    have h := hY.ev he (fun k x1 x2 => by omega)
    obtain ⟨⟨h1, h2, h3, h4, h5⟩, ⟨w1, w2, w3⟩, ⟨⟨hW1, hW2⟩, ⟨hH1, hH2⟩, ⟨hL1, hL2⟩, hn⟩, ⟨a1, a2, a3, a4⟩, hok⟩ := id h
    have hC := p_WH hW2 hH2
    have pk := hok k hk
    rw [ek] at pk
    obtain ⟨pk1, ⟨pk2, pk3⟩, pk4, -⟩ := id pk
    have hfN : fN < W * H := pk1
    have hN1 : 1 ≤ N := pk2
    have hN2 : N ≤ 12 := pk3
    refine r_il rfl rfl ?_
    refine r_ifF rfl (zcF2 ⟨by omega, by omega⟩ ⟨by omega, by omega⟩ (by omega)) ?_
    refine r_ic rfl ?_
    refine r_is5 rfl rfl ?_
    rw [show ((i + 1 : Nat) : Int) - 1 = (i : Int) by omega]
    exact m_mend_p hY hk ek eb (i := i) (by omega) (fun M2 x5 x6 x7 x8 hI2 => ih M2 x5 x6 x7 x8 (by omega) hI2) 325 0 M1 _ _ _ (by omega) ⟨he, df, hd9, fun j q h1 h2 h3 => hdr j q (by omega) h2 h3, fun q hq => by omega⟩
set_option maxRecDepth 20000 in
theorem m_mend_b {v wd hd ld nw : Nat → Int32} (hY : m_Y M tr v wd hd ld nw W H L hs lot n kc) {k : Nat} (hk : k < n) {fN N b : Nat} {s : Nat → Int} (ek : kc k = (fN, N, s)) (eb : k_last W H (kc k) = b) : ∀ (j p : Nat) (M1 : ZM) (x5 x6 x7 x8 : Option Value), p + j = 325 → (z_ev M M1 (fun k => k = 72) ∧ ∃ df, M1[72]? = some (zA 4225 df) ∧ ∀ q, q < p → df (325 * N + q) = zI (p_D (p_aR W H L hs) 999 b N s 0 q : Int)) → z_R S (d + 3) 140 15 [some (.ref 62), some (.int (zI (k : Int))), some (.int (zI (N : Int))), some (.int (zI (b : Int))), some (.int (zI (p : Int))), x5, x6, x7, x8] [] M1 (fun r M2 => r = none ∧ z_ev M M2 (fun k => k = 72) ∧ ∃ df, M2[72]? = some (zA 4225 df) ∧ ∀ j q, j ≤ N → q < (13 * (W * H)) → df (325 * j + q) = zI (p_D (p_aR W H L hs) 999 b N s (N - j) q : Int)) := by
  intro j
  induction j with
  | zero =>
    intro p M1 x5 x6 x7 x8 hp9 hI
    obtain ⟨he, df, hd9, hdr⟩ := hI
    have h := hY.ev he (fun k x1 x2 => by omega)
    obtain ⟨⟨h1, h2, h3, h4, h5⟩, ⟨w1, w2, w3⟩, ⟨⟨hW1, hW2⟩, ⟨hH1, hH2⟩, ⟨hL1, hL2⟩, hn⟩, ⟨a1, a2, a3, a4⟩, hok⟩ := id h
    have hC := p_WH hW2 hH2
    have pk := hok k hk
    rw [ek] at pk
    obtain ⟨pk1, ⟨pk2, pk3⟩, pk4, -⟩ := id pk
    have hfN : fN < W * H := pk1
    have hN1 : 1 ≤ N := pk2
    have hN2 : N ≤ 12 := pk3
    refine r_il rfl rfl ?_
    refine r_ic rfl ?_
    refine r_icT rfl (zcT3 ⟨by omega, by omega⟩ ⟨by omega, by omega⟩ (by omega)) ?_
    refine r_il rfl rfl ?_
    refine r_ic rfl ?_
    refine r_subI rfl ?_
    refine r_is4 rfl rfl ?_
    refine m_mend_i hY hk ek eb N M1 _ _ _ _ (Nat.le_refl N) ⟨he, df, hd9, fun j q h1 h2 h3 => ?_⟩
    rw [show j = N by omega, Nat.sub_self]
    exact hdr q (by omega)
  | succ j ih =>
    intro p M1 x5 x6 x7 x8 hp9 hI
    obtain ⟨he, df, hd9, hdr⟩ := hI
    have h := hY.ev he (fun k x1 x2 => by omega)
    obtain ⟨⟨h1, h2, h3, h4, h5⟩, ⟨w1, w2, w3⟩, ⟨⟨hW1, hW2⟩, ⟨hH1, hH2⟩, ⟨hL1, hL2⟩, hn⟩, ⟨a1, a2, a3, a4⟩, hok⟩ := id h
    have hC := p_WH hW2 hH2
    have pk := hok k hk
    rw [ek] at pk
    obtain ⟨pk1, ⟨pk2, pk3⟩, pk4, -⟩ := id pk
    have hfN : fN < W * H := pk1
    have hN1 : 1 ≤ N := pk2
    have hN2 : N ≤ 12 := pk3
    refine r_il rfl rfl ?_
    refine r_ic rfl ?_
    refine r_icF rfl (zcF3 ⟨by omega, by omega⟩ ⟨by omega, by omega⟩ (by omega)) ?_
    refine r_al rfl rfl ?_
    refine r_gf rfl h1 rfl rfl ?_
    refine r_ic rfl ?_
    refine r_il rfl rfl ?_
    refine r_mulI rfl ?_
    refine r_il rfl rfl ?_
    refine r_addI rfl ?_
    refine r_il rfl rfl ?_
    refine r_ic rfl ?_
    refine r_divI rfl (⟨by omega, by omega⟩) (⟨by omega, by omega⟩) ?_
    refine r_il rfl rfl ?_
    have hb9 : b < W * H := by rw [← eb]; exact k_last_lt (hok k hk)
    by_cases h9 : (p : Int) / 13 = (b : Int)
    · refine r_icF rfl (zcF1 (h9)) ?_
      refine r_ic rfl ?_
      refine r_goto rfl ?_
      rw [show zI 0 = zI (p_D (p_aR W H L hs) 999 b N s 0 p : Int) by rw [show p_D (p_aR W H L hs) 999 b N s 0 p = 0 from if_pos (by omega)]; rfl]
      refine r_iSI rfl hd9 (by omega) (by omega) (by omega) ?_
      refine r_jj4 rfl rfl ?_
      refine r_goto rfl ?_
      refine ih (p + 1) _ _ _ _ _ (by omega) ⟨he.tr (.set rfl), _, z_gs hd9, fun q hq => ?_⟩
      rw [show ((325 : Int) * (N : Int) + (p : Int)).toNat = 325 * N + p by omega]
      by_cases e : q = p
      · subst e
        exact pk_us
      · rw [pk_un (by omega)]
        exact hdr q (by omega)
    · refine r_icT rfl (zcT1 ⟨by omega, by omega⟩ ⟨by omega, by omega⟩ (h9)) ?_
      refine r_ic rfl ?_
      rw [show zI 999 = zI (p_D (p_aR W H L hs) 999 b N s 0 p : Int) by rw [show p_D (p_aR W H L hs) 999 b N s 0 p = 999 from if_neg (by omega)]; rfl]
      refine r_iSI rfl hd9 (by omega) (by omega) (by omega) ?_
      refine r_jj4 rfl rfl ?_
      refine r_goto rfl ?_
      refine ih (p + 1) _ _ _ _ _ (by omega) ⟨he.tr (.set rfl), _, z_gs hd9, fun q hq => ?_⟩
      rw [show ((325 : Int) * (N : Int) + (p : Int)).toNat = 325 * N + p by omega]
      by_cases e : q = p
      · subst e
        exact pk_us
      · rw [pk_un (by omega)]
        exact hdr q (by omega)
theorem m_findMend {v wd hd ld nw : Nat → Int32} (h : m_Y M tr v wd hd ld nw W H L hs lot n kc) {k : Nat} (hk : k < n) {fN N b : Nat} {s : Nat → Int} (ek : kc k = (fN, N, s)) (eb : k_last W H (kc k) = b) {df0 : Nat → Int32} (d0 : M[72]? = some (zA 4225 df0)) : ∃ M', z_C S (d + 3) 140 [.ref 62, .int (zI (k : Int))] M none M' ∧ z_ev M M' (fun k => k = 72) ∧ ∃ df, M'[72]? = some (zA 4225 df) ∧ ∀ j q, j ≤ N → q < (13 * (W * H)) → df (325 * j + q) = zI (p_D (p_aR W H L hs) 999 b N s (N - j) q : Int) := by
  obtain ⟨⟨h1, h2, h3, h4, h5⟩, ⟨w1, w2, w3⟩, ⟨⟨hW1, hW2⟩, ⟨hH1, hH2⟩, ⟨hL1, hL2⟩, hn⟩, ⟨a1, a2, a3, a4⟩, hok⟩ := id h
  have hC := p_WH hW2 hH2
  refine k_an ?_
  refine k_of rfl rfl (Nat.le_of_ble_eq_true rfl) ?_
  refine r_al rfl rfl ?_
  refine r_il rfl rfl ?_
  refine r_cv1 rfl rfl h1 rfl (by decide) rfl (m_steps h hk) ?_
  rw [show (kc k).2.1 = N by rw [ek]]
  refine r_is2 rfl rfl ?_
  refine r_al rfl rfl ?_
  refine r_il rfl rfl ?_
  refine r_cv1 rfl rfl h1 rfl (by decide) rfl (m_lastCell h hk) ?_
  rw [eb]
  refine r_is3 rfl rfl ?_
  refine r_ic rfl ?_
  refine r_is4 rfl rfl ?_
  exact m_mend_b h hk ek eb 325 0 M _ _ _ _ (by omega) ⟨.rf, df0, d0, fun q hq => by omega⟩
def v_mend (W H L : Nat) (hs : Int32) (n : Nat) (kc : Nat → ZK) (k i : Int) : Int := if (0 ≤ k ∧ k < (n : Int)) ∧ -1 ≤ i then (if 1000 ≤ p_D (p_aC W H L hs) 1000 (k_last W H (kc k.toNat)) (kc k.toNat).2.1 (kc k.toNat).2.2 (kc k.toNat).2.1 (13 * (kc k.toNat).1) then -9 else if i = -1 then (p_D (p_aC W H L hs) 1000 (k_last W H (kc k.toNat)) (kc k.toNat).2.1 (kc k.toNat).2.2 (kc k.toNat).2.1 (13 * (kc k.toNat).1) : Int) else if i < ((kc k.toNat).2.1 : Int) then (p_mk (p_aC W H L hs) (k_last W H (kc k.toNat)) (kc k.toNat).2.1 (kc k.toNat).2.2 i.toNat (p_mp (p_aC W H L hs) (k_last W H (kc k.toNat)) (kc k.toNat).2.1 (kc k.toNat).2.2 (13 * (kc k.toNat).1) i.toNat) : Int) else -5) else -1
theorem c_ofRow {A R l : Nat} {rw : Nat → Int32} (h9 : ¬ A = 1000) (hA : M[A]? = some (zA R rw)) (hl : l ≤ R) (hR : R ≤ 10000) {a i : Int} (ha : z_sm a) (hi : z_sm i) : z_C S d 100 [.int (zI a), .int (zI i), .ref A, .int (zI (l : Int))] M (some (.int (if a = -9 ∨ i < 0 then zI a else if i < (l : Int) then rw i.toNat else zI (-5)))) M := by
  refine c_of rfl rfl (Nat.le_of_ble_eq_true rfl) ?_
  refine g_il rfl rfl ?_
  refine g_ic rfl ?_
  by_cases h1 : a = -9
  · refine g_icT rfl (zcT0 (h1)) ?_
    refine g_il rfl rfl ?_
    exact g_reti rfl (by rw [if_pos (Or.inl h1)]) rfl
  · refine g_icF rfl (zcF0 ⟨by omega, by omega⟩ ⟨by omega, by omega⟩ (h1)) ?_
    refine g_il rfl rfl ?_
    by_cases h2 : i < 0
    · refine g_ifF rfl (zcF3 ⟨by omega, by omega⟩ ⟨by omega, by omega⟩ (h2)) ?_
      refine g_il rfl rfl ?_
      exact g_reti rfl (by rw [if_pos (Or.inr h2)]) rfl
    · rw [if_neg (by omega)]
      refine g_ifT rfl (zcT3 ⟨by omega, by omega⟩ ⟨by omega, by omega⟩ (by omega)) ?_
      refine g_il rfl rfl ?_
      refine g_il rfl rfl ?_
      by_cases h3 : i < (l : Int)
      · rw [if_pos h3]
        refine g_icF rfl (zcF3 ⟨by omega, by omega⟩ ⟨by omega, by omega⟩ (h3)) ?_
        refine g_il rfl rfl ?_
        refine g_al rfl rfl ?_
        refine g_len0 rfl h9 hA ?_
        refine g_icF rfl (zcF3 ⟨by omega, by omega⟩ ⟨by omega, by omega⟩ (by omega)) ?_
        refine g_al rfl rfl ?_
        refine g_il rfl rfl ?_
        refine g_iaI rfl h9 hA (by omega) (by omega) (by omega) ?_
        refine g_goto rfl ?_
        exact g_reti rfl (rfl) rfl
      · rw [if_neg h3]
        refine g_icT rfl (zcT3 ⟨by omega, by omega⟩ ⟨by omega, by omega⟩ (h3)) ?_
        refine g_ic rfl ?_
        exact g_reti rfl (rfl) rfl
theorem x_mend {k i : Int} (hk : z_sm k) (hi9 : z_sm i) : z_Xc S 80 [.int (zI k), .int (zI i)] ((T, tx), (W, H, L), (hs, lot, n, kc), im, tr) (.int (zI (v_mend W H L hs n kc k i))) ((T, tx), (W, H, L), (hs, lot, n, kc), im, tr) := by
  intro d M hX
  obtain ⟨x1, x2, x3, x4, x5, x6, x7, x8⟩ := id hX
  have hA : k_A M 1 W H L hs lot n kc := x3
  obtain ⟨ha, hO, ch, hR, hk9⟩ := id hA
  obtain ⟨o1, ⟨hW1, hW2⟩, ⟨hH1, hH2⟩, ⟨hL1, hL2⟩, hn⟩ := id hO
  have hC := p_WH hW2 hH2
  unfold v_mend
  refine k_an ?_
  refine k_of rfl rfl (Nat.le_of_ble_eq_true rfl) ?_
  refine r_al rfl rfl ?_
  refine r_gf rfl x2 rfl rfl ?_
  refine r_il rfl rfl ?_
  by_cases h0 : 0 ≤ k ∧ k < (n : Int)
  · refine r_cv1 rfl rfl o1 rfl (by decide) rfl (c_chainAt hO hR h0.1 h0.2) ?_
    obtain ⟨q, rfl⟩ : ∃ q : Nat, k = (q : Int) := ⟨k.toNat, by omega⟩
    obtain ⟨cs, g, hq⟩ := hA.chain (k := q) (by omega)
    obtain ⟨q1, q2, q3, q4, q5⟩ := id hq
    have hpk := (hk9 q (by omega)).1
    have l1 := k_last_lt hpk
    have l2 := hpk.1
    rw [Int.toNat_natCast]
    refine r_as3 rfl rfl ?_
    refine r_al rfl rfl ?_
    refine r_nuF rfl ?_
    refine r_il rfl rfl ?_
    refine r_ic rfl ?_
    by_cases hi : i < -1
    · rw [if_neg (fun g => by have := g.2; omega)]
      refine r_icF rfl (zcF3 ⟨by omega, by omega⟩ ⟨by omega, by omega⟩ (by omega)) ?_
      refine r_ic rfl ?_
      refine r_reti rfl rfl ?_
      exact ⟨rfl, hX, .rf⟩
    · rw [if_pos ⟨h0, by omega⟩]
      obtain ⟨M2, k2, e2, w2, rw, r1, r2⟩ := c_mended (S := S) (d := d + 14) hO x5 hq (by omega) (by omega) l2 l1
      obtain ⟨⟨u1, u2, v25⟩, -⟩ := id x5
      obtain ⟨⟨u3, u4, v26⟩, -⟩ := id w2
      refine r_icT rfl (zcT3 ⟨by omega, by omega⟩ ⟨by omega, by omega⟩ (by omega)) ?_
      refine r_al rfl rfl ?_
      refine r_gf rfl x2 rfl rfl ?_
      refine r_al rfl rfl ?_
      refine r_gf rfl x2 rfl rfl ?_
      refine r_al rfl rfl ?_
      refine r_cv2 rfl rfl v25 rfl (by decide) rfl (k2) ?_
      have hN2 := hpk.2.1.2
      have bD := p_D_le (a := p_aC W H L hs) (F := 1000) (b := k_last W H (kc q)) (m := (kc q).2.1) (st := (kc q).2.2) (r := (kc q).2.1) (p := 13 * (kc q).1)
      generalize hDD : p_D (p_aC W H L hs) 1000 (k_last W H (kc q)) (kc q).2.1 (kc q).2.2 (kc q).2.1 (13 * (kc q).1) = DD at *
      refine r_il rfl rfl ?_
      refine r_al rfl rfl ?_
      refine r_gf rfl ((e2.2 0 (by decide)).trans x2) rfl rfl ?_
      refine r_gf rfl v26 rfl rfl ?_
      refine r_al rfl rfl ?_
      refine r_gf rfl ((e2.2 _ (by omega)).trans q1) rfl rfl ?_
      refine r_cs4 rfl rfl rfl rfl (c_ofRow (by decide) r1 (by omega) (by omega) (by constructor <;> split <;> omega) hi9) ?_
      refine r_reti rfl rfl ?_
      refine ⟨?_, hX.walk e2 w2, e2.wk (fun k g => by omega)⟩
      by_cases h7 : 1000 ≤ DD
      · rw [if_pos h7, if_pos (Or.inl rfl), if_pos h7]
      · rw [if_neg h7, if_neg h7]
        by_cases h6 : i = -1
        · rw [if_pos (Or.inr (by omega)), if_pos h6]
        · rw [if_neg (by omega), if_neg h6]
          by_cases h5 : i < ((kc q).2.1 : Int)
          · rw [if_pos h5, if_pos h5, r2 (by omega) _ (by omega)]
          · rw [if_neg h5, if_neg h5]
  · rw [if_neg (fun g => h0 g.1)]
    refine r_cv1 rfl rfl o1 rfl (by decide) rfl (c_chainAtN hO hR hk (by omega)) ?_
    refine r_an3 rfl rfl ?_
    refine r_aln rfl rfl ?_
    refine r_nuT rfl ?_
    refine r_ic rfl ?_
    refine r_reti rfl rfl ?_
    exact ⟨rfl, hX, .rf⟩
set_option maxRecDepth 20000 in
theorem m_mend_t {v wd hd ld nw : Nat → Int32} (h : m_Y M tr v wd hd ld nw W H L hs lot n kc) {k : Nat} (hk : k < n) {fN N b : Nat} {s : Nat → Int} (ek : kc k = (fN, N, s)) {df : Nat → Int32} (hd9 : M[72]? = some (zA 4225 df)) (hdr : ∀ j q, j ≤ N → q < (13 * (W * H)) → df (325 * j + q) = zI (p_D (p_aR W H L hs) 999 b N s (N - j) q : Int)) (hf9 : p_D (p_aC W H L hs) 1000 b N s N (13 * fN) < 1000) {i : Nat} (hi : i < N) {j : Nat} (hj : j ≤ i) {r : Option Value} (hx : ∀ (y t : Nat), y < (13 * (W * H)) → t = p_mk (p_aC W H L hs) b N s j (p_mp (p_aC W H L hs) b N s (13 * fN) j) → p_aR W H L hs (p_mp (p_aC W H L hs) b N s (13 * fN) j) t = some y → (y : Int) = (p_mp (p_aC W H L hs) b N s (13 * fN) (j + 1) : Int) → z_G S (d + 3) 141 165 [some (.ref 62), some (.int (zI (k : Int))), some (.int (zI (i : Int))), some (.int (zI (p_mp (p_aC W H L hs) b N s (13 * fN) j : Int))), some (.int (zI (t : Int))), some (.int (zI (j : Int))), some (.int (zI (s j)))] [] M r M) : ∀ (m t : Nat), t + m = 4 → t ≤ p_mk (p_aC W H L hs) b N s j (p_mp (p_aC W H L hs) b N s (13 * fN) j) → z_G S (d + 3) 141 95 [some (.ref 62), some (.int (zI (k : Int))), some (.int (zI (i : Int))), some (.int (zI (p_mp (p_aC W H L hs) b N s (13 * fN) j : Int))), some (.int (zI (t : Int))), some (.int (zI (j : Int))), some (.int (zI (s j)))] [] M r M := by
  obtain ⟨⟨h1, h2, h3, h4, h5⟩, ⟨w1, w2, w3⟩, ⟨⟨hW1, hW2⟩, ⟨hH1, hH2⟩, ⟨hL1, hL2⟩, hn⟩, ⟨a1, a2, a3, a4⟩, hok⟩ := id h
  have hC := p_WH hW2 hH2
  have pk := hok k hk
  rw [ek] at pk
  obtain ⟨pk1, ⟨pk2, pk3⟩, pk4, -⟩ := id pk
  have hfN : fN < W * H := pk1
  have hN1 : 1 ≤ N := pk2
  have hN2 : N ≤ 12 := pk3
  intro m
  induction m with
  | zero =>
    intro t ht ht2
    obtain ⟨m1, m2, m3⟩ := p_mp_ok hN2 hL2 (show 13 * fN < (13 * (W * H)) by omega) (Or.inl (by omega)) hf9 j (by omega)
    obtain ⟨k1, -, -⟩ := p_mk_ok (show j < N by omega) hN2 m3
    omega
  | succ m ih =>
    intro t ht ht2
    obtain ⟨m1, m2, m3⟩ := p_mp_ok hN2 hL2 (show 13 * fN < (13 * (W * H)) by omega) (Or.inl (by omega)) hf9 j (by omega)
    have hsj := pk4 j (show j < N by omega)
    rw [show (fN, N, s).2.2 j = s j from rfl] at hsj
    have ec : p_cst t (s j) = if (t : Int) = s j then 0 else 1 := rfl
    obtain ⟨k1, -, -⟩ := p_mk_ok (show j < N by omega) hN2 m3
    refine g_al rfl rfl ?_
    refine g_il rfl rfl ?_
    refine g_il rfl rfl ?_
    refine g_cv2 rfl rfl h1 rfl (by decide) rfl (m_after h (p := p_mp (p_aC W H L hs) b N s (13 * fN) j) (s := t) m1 (by omega)) ?_
    rcases p_mk_ref hL2 (show j < N by omega) hN2 m2 m3 ht2 with ⟨htk, hlo⟩ | ⟨htk, y, ha, heq, hyy⟩
    · rcases hlo with ha | ⟨y, ha, hne⟩
      · rw [ha, show oI none (-9) = -9 from rfl]
        refine g_ic rfl ?_
        refine g_icT rfl (zcT0 (rfl)) ?_
        refine g_jj4 rfl rfl ?_
        refine g_goto rfl ?_
        exact ih (t + 1) (by omega) (by omega)
      · have hy := p_aR_lt (by omega) m1 ha
        have bD := p_D_le (a := p_aR W H L hs) (F := 999) (b := b) (m := N) (st := s) (r := N - (j + 1)) (p := y)
        have bD2 := p_D_le (a := p_aR W H L hs) (F := 999) (b := b) (m := N) (st := s) (r := N - j) (p := p_mp (p_aC W H L hs) b N s (13 * fN) j)
        rw [ha, show oI (some y) (-9) = (y : Int) from rfl]
        refine g_ic rfl ?_
        refine g_icF rfl (zcF0 ⟨by omega, by omega⟩ ⟨by omega, by omega⟩ (by omega)) ?_
        refine g_al rfl rfl ?_
        refine g_gf rfl h1 rfl rfl ?_
        refine g_ic rfl ?_
        refine g_il rfl rfl ?_
        refine g_mulI rfl ?_
        refine g_ic rfl ?_
        refine g_addI rfl ?_
        refine g_al rfl rfl ?_
        refine g_il rfl rfl ?_
        refine g_il rfl rfl ?_
        refine g_cv2 rfl rfl h1 rfl (by decide) rfl (m_after h (p := p_mp (p_aC W H L hs) b N s (13 * fN) j) (s := t) m1 (by omega)) ?_
        rw [ha, show oI (some y) (-9) = (y : Int) from rfl]
        refine g_addI rfl ?_
        refine g_iaI rfl (by decide) hd9 (by omega) (by omega) (by omega) ?_
        rw [show ((325 : Int) * (j : Int) + 325 + (y : Int)).toNat = 325 * (j + 1) + y by omega, hdr (j + 1) y (by omega) hy]
        refine g_il rfl rfl ?_
        refine g_il rfl rfl ?_
        by_cases hc9 : (t : Int) = s j
        · rw [if_pos hc9] at ec
          refine g_icF rfl (zcF1 (hc9)) ?_
          refine g_ic rfl ?_
          refine g_goto rfl ?_
          refine g_addI rfl ?_
          refine g_al rfl rfl ?_
          refine g_gf rfl h1 rfl rfl ?_
          refine g_ic rfl ?_
          refine g_il rfl rfl ?_
          refine g_mulI rfl ?_
          refine g_il rfl rfl ?_
          refine g_addI rfl ?_
          refine g_iaI rfl (by decide) hd9 (by omega) (by omega) (by omega) ?_
          rw [show ((325 : Int) * (j : Int) + (p_mp (p_aC W H L hs) b N s (13 * fN) j : Int)).toNat = 325 * j + p_mp (p_aC W H L hs) b N s (13 * fN) j by omega, hdr j _ (by omega) m1]
          refine g_icF rfl (zcF0 ⟨by omega, by omega⟩ ⟨by omega, by omega⟩ (by omega)) ?_
          refine g_jj4 rfl rfl ?_
          refine g_goto rfl ?_
          exact ih (t + 1) (by omega) (by omega)
        · rw [if_neg hc9] at ec
          refine g_icT rfl (zcT1 ⟨by omega, by omega⟩ ⟨by omega, by omega⟩ (hc9)) ?_
          refine g_ic rfl ?_
          refine g_addI rfl ?_
          refine g_al rfl rfl ?_
          refine g_gf rfl h1 rfl rfl ?_
          refine g_ic rfl ?_
          refine g_il rfl rfl ?_
          refine g_mulI rfl ?_
          refine g_il rfl rfl ?_
          refine g_addI rfl ?_
          refine g_iaI rfl (by decide) hd9 (by omega) (by omega) (by omega) ?_
          rw [show ((325 : Int) * (j : Int) + (p_mp (p_aC W H L hs) b N s (13 * fN) j : Int)).toNat = 325 * j + p_mp (p_aC W H L hs) b N s (13 * fN) j by omega, hdr j _ (by omega) m1]
          refine g_icF rfl (zcF0 ⟨by omega, by omega⟩ ⟨by omega, by omega⟩ (by omega)) ?_
          refine g_jj4 rfl rfl ?_
          refine g_goto rfl ?_
          exact ih (t + 1) (by omega) (by omega)
    · have hy := p_aR_lt (by omega) m1 ha
      have bD := p_D_le (a := p_aR W H L hs) (F := 999) (b := b) (m := N) (st := s) (r := N - (j + 1)) (p := y)
      have bD2 := p_D_le (a := p_aR W H L hs) (F := 999) (b := b) (m := N) (st := s) (r := N - j) (p := p_mp (p_aC W H L hs) b N s (13 * fN) j)
      rw [ha, show oI (some y) (-9) = (y : Int) from rfl]
      refine g_ic rfl ?_
      refine g_icF rfl (zcF0 ⟨by omega, by omega⟩ ⟨by omega, by omega⟩ (by omega)) ?_
      refine g_al rfl rfl ?_
      refine g_gf rfl h1 rfl rfl ?_
      refine g_ic rfl ?_
      refine g_il rfl rfl ?_
      refine g_mulI rfl ?_
      refine g_ic rfl ?_
      refine g_addI rfl ?_
      refine g_al rfl rfl ?_
      refine g_il rfl rfl ?_
      refine g_il rfl rfl ?_
      refine g_cv2 rfl rfl h1 rfl (by decide) rfl (m_after h (p := p_mp (p_aC W H L hs) b N s (13 * fN) j) (s := t) m1 (by omega)) ?_
      rw [ha, show oI (some y) (-9) = (y : Int) from rfl]
      refine g_addI rfl ?_
      refine g_iaI rfl (by decide) hd9 (by omega) (by omega) (by omega) ?_
      rw [show ((325 : Int) * (j : Int) + 325 + (y : Int)).toNat = 325 * (j + 1) + y by omega, hdr (j + 1) y (by omega) hy]
      refine g_il rfl rfl ?_
      refine g_il rfl rfl ?_
      by_cases hc9 : (t : Int) = s j
      · rw [if_pos hc9] at ec
        refine g_icF rfl (zcF1 (hc9)) ?_
        refine g_ic rfl ?_
        refine g_goto rfl ?_
        refine g_addI rfl ?_
        refine g_al rfl rfl ?_
        refine g_gf rfl h1 rfl rfl ?_
        refine g_ic rfl ?_
        refine g_il rfl rfl ?_
        refine g_mulI rfl ?_
        refine g_il rfl rfl ?_
        refine g_addI rfl ?_
        refine g_iaI rfl (by decide) hd9 (by omega) (by omega) (by omega) ?_
        rw [show ((325 : Int) * (j : Int) + (p_mp (p_aC W H L hs) b N s (13 * fN) j : Int)).toNat = 325 * j + p_mp (p_aC W H L hs) b N s (13 * fN) j by omega, hdr j _ (by omega) m1]
        refine g_icT rfl (zcT0 (by omega)) ?_
        have e8 : (y : Int) = (p_mp (p_aC W H L hs) b N s (13 * fN) (j + 1) : Int) := by
          show (y : Int) = (((p_aC W H L hs (p_mp (p_aC W H L hs) b N s (13 * fN) j) (p_mk (p_aC W H L hs) b N s j (p_mp (p_aC W H L hs) b N s (13 * fN) j))).getD 0 : Nat) : Int)
          rw [← htk, ← hyy]
        exact hx y t hy htk ha e8
      · rw [if_neg hc9] at ec
        refine g_icT rfl (zcT1 ⟨by omega, by omega⟩ ⟨by omega, by omega⟩ (hc9)) ?_
        refine g_ic rfl ?_
        refine g_addI rfl ?_
        refine g_al rfl rfl ?_
        refine g_gf rfl h1 rfl rfl ?_
        refine g_ic rfl ?_
        refine g_il rfl rfl ?_
        refine g_mulI rfl ?_
        refine g_il rfl rfl ?_
        refine g_addI rfl ?_
        refine g_iaI rfl (by decide) hd9 (by omega) (by omega) (by omega) ?_
        rw [show ((325 : Int) * (j : Int) + (p_mp (p_aC W H L hs) b N s (13 * fN) j : Int)).toNat = 325 * j + p_mp (p_aC W H L hs) b N s (13 * fN) j by omega, hdr j _ (by omega) m1]
        refine g_icT rfl (zcT0 (by omega)) ?_
        have e8 : (y : Int) = (p_mp (p_aC W H L hs) b N s (13 * fN) (j + 1) : Int) := by
          show (y : Int) = (((p_aC W H L hs (p_mp (p_aC W H L hs) b N s (13 * fN) j) (p_mk (p_aC W H L hs) b N s j (p_mp (p_aC W H L hs) b N s (13 * fN) j))).getD 0 : Nat) : Int)
          rw [← htk, ← hyy]
        exact hx y t hy htk ha e8
set_option maxRecDepth 20000 in
theorem m_mend_j {v wd hd ld nw : Nat → Int32} (h : m_Y M tr v wd hd ld nw W H L hs lot n kc) {k : Nat} (hk : k < n) {fN N b : Nat} {s : Nat → Int} (ek : kc k = (fN, N, s)) {df : Nat → Int32} (hd9 : M[72]? = some (zA 4225 df)) (hdr : ∀ j q, j ≤ N → q < (13 * (W * H)) → df (325 * j + q) = zI (p_D (p_aR W H L hs) 999 b N s (N - j) q : Int)) (hf9 : p_D (p_aC W H L hs) 1000 b N s N (13 * fN) < 1000) {i : Nat} (hi : i < N) : ∀ (m j t : Nat) (x : Option Value), j + m = i + 1 → (0 < j → t = p_mk (p_aC W H L hs) b N s (j - 1) (p_mp (p_aC W H L hs) b N s (13 * fN) (j - 1))) → z_G S (d + 3) 141 77 [some (.ref 62), some (.int (zI (k : Int))), some (.int (zI (i : Int))), some (.int (zI (p_mp (p_aC W H L hs) b N s (13 * fN) j : Int))), some (.int (zI (t : Int))), some (.int (zI (j : Int))), x] [] M (some (.int (zI (p_mk (p_aC W H L hs) b N s i (p_mp (p_aC W H L hs) b N s (13 * fN) i) : Int)))) M := by
  obtain ⟨⟨h1, h2, h3, h4, h5⟩, ⟨w1, w2, w3⟩, ⟨⟨hW1, hW2⟩, ⟨hH1, hH2⟩, ⟨hL1, hL2⟩, hn⟩, ⟨a1, a2, a3, a4⟩, hok⟩ := id h
  have hC := p_WH hW2 hH2
  have pk := hok k hk
  rw [ek] at pk
  obtain ⟨pk1, ⟨pk2, pk3⟩, pk4, -⟩ := id pk
  have hfN : fN < W * H := pk1
  have hN1 : 1 ≤ N := pk2
  have hN2 : N ≤ 12 := pk3
  intro m
  induction m with
  | zero =>
    intro j t x hj hst
    refine g_il rfl rfl ?_
    refine g_il rfl rfl ?_
    refine g_icT rfl (zcT4 ⟨by omega, by omega⟩ ⟨by omega, by omega⟩ (by omega)) ?_
    refine g_il rfl rfl ?_
    rw [hst (by omega), show j - 1 = i by omega]
    exact g_reti rfl (rfl) rfl
  | succ m ih =>
    intro j t x hj hst
    refine g_il rfl rfl ?_
    refine g_il rfl rfl ?_
    refine g_icF rfl (zcF4 ⟨by omega, by omega⟩ ⟨by omega, by omega⟩ (by omega)) ?_
    refine g_ic rfl ?_
    refine g_is4 rfl rfl ?_
    refine g_al rfl rfl ?_
    refine g_il rfl rfl ?_
    refine g_il rfl rfl ?_
    refine g_cv2 rfl rfl h1 rfl (by decide) rfl (m_stepIn h hk (j := j) (by rw [ek]; exact Nat.lt_of_le_of_lt (show j ≤ i by omega) hi)) ?_
    rw [show (kc k).2.2 j = s j by rw [ek]]
    refine g_is6 rfl rfl ?_
    obtain ⟨m1, m2, m3⟩ := p_mp_ok hN2 hL2 (show 13 * fN < (13 * (W * H)) by omega) (Or.inl (by omega)) hf9 j (by omega)
    obtain ⟨k1, -, -⟩ := p_mk_ok (show j < N by omega) hN2 m3
    refine m_mend_t h hk ek hd9 hdr hf9 hi (j := j) (by omega) (fun y t hy htk ha e8 => ?_) 4 0 (by omega) (by omega)
    refine g_al rfl rfl ?_
    refine g_il rfl rfl ?_
    refine g_il rfl rfl ?_
    refine g_cv2 rfl rfl h1 rfl (by decide) rfl (m_after h (p := p_mp (p_aC W H L hs) b N s (13 * fN) j) (s := t) m1 (by omega)) ?_
    rw [ha, show oI (some y) (-9) = (y : Int) from rfl, e8]
    refine g_is3 rfl rfl ?_
    refine g_jj5 rfl rfl ?_
    refine g_goto rfl ?_
    exact ih (j + 1) t _ (by omega) (fun _ => htk)
set_option maxRecDepth 20000 in
theorem y_mend {k i : Int} (hk : z_sm k) (hi9 : z_sm i) : z_Yc S 141 [.int (zI k), .int (zI i)] ((T, tx), (W, H, L), (hs, lot, n, kc), im, tr) (.int (zI (v_mend W H L hs n kc k i))) ((T, tx), (W, H, L), (hs, lot, n, kc), im, tr) := by
  intro d M hY
  obtain ⟨y1, v, wd, hd, ld, nw, h, y3, y4, y5, y6, y7, y8⟩ := id hY
  have h : m_Y M tr v wd hd ld nw W H L hs lot n kc := h
  obtain ⟨⟨h1, h2, h3, h4, h5⟩, ⟨w1, w2, w3⟩, ⟨⟨hW1, hW2⟩, ⟨hH1, hH2⟩, ⟨hL1, hL2⟩, hn⟩, ⟨a1, a2, a3, a4⟩, hok⟩ := id h
  have hC := p_WH hW2 hH2
  unfold v_mend
  refine k_an ?_
  refine k_of rfl rfl (Nat.le_of_ble_eq_true rfl) ?_
  refine r_al rfl rfl ?_
  refine r_il rfl rfl ?_
  refine r_cv1 rfl rfl h1 rfl (by decide) rfl (m_isChain h hk) ?_
  by_cases h0 : 0 ≤ k ∧ k < (n : Int)
  · rw [if_pos h0]
    refine r_ifF rfl (zcF0 ⟨by omega, by omega⟩ ⟨by omega, by omega⟩ (by decide)) ?_
    refine r_il rfl rfl ?_
    refine r_ic rfl ?_
    by_cases hi : i < -1
    · rw [if_neg (fun g => by have := g.2; omega)]
      refine r_icF rfl (zcF3 ⟨by omega, by omega⟩ ⟨by omega, by omega⟩ (by omega)) ?_
      refine r_ic rfl ?_
      refine r_reti rfl rfl ?_
      exact ⟨rfl, hY, .rf⟩
    · rw [if_pos ⟨h0, by omega⟩]
      obtain ⟨q, rfl⟩ : ∃ q : Nat, k = (q : Int) := ⟨k.toNat, by omega⟩
      have hq : q < n := by omega
      rw [Int.toNat_natCast]
      obtain ⟨⟨f69, r69⟩, ⟨f70, r70⟩, ⟨f71, r71⟩, ⟨f72, r72⟩, ⟨f73, r73⟩, ⟨f74, r74⟩, ⟨f75, r75⟩, ⟨f76, r76⟩, f77, r77⟩ := id y8
      obtain ⟨M2, k2, e2, df, hd9, hdr⟩ := m_findMend (S := S) (d := d + 16) h hq (fN := (kc q).1) (N := (kc q).2.1) (s := (kc q).2.2) (b := k_last W H (kc q)) rfl rfl r72
      have hM : m_Y M2 tr v wd hd ld nw W H L hs lot n kc := h.ev e2 (fun k x1 x2 => by omega)
      have hY2 : Y_I M2 ((T, tx), (W, H, L), (hs, lot, n, kc), im, tr) := hY.rows (e2.wk (fun k g => by omega)) ⟨⟨f69, (e2.2 69 (by decide)).trans r69⟩, ⟨f70, (e2.2 70 (by decide)).trans r70⟩, ⟨f71, (e2.2 71 (by decide)).trans r71⟩, ⟨df, hd9⟩, ⟨f73, (e2.2 73 (by decide)).trans r73⟩, ⟨f74, (e2.2 74 (by decide)).trans r74⟩, ⟨f75, (e2.2 75 (by decide)).trans r75⟩, ⟨f76, (e2.2 76 (by decide)).trans r76⟩, f77, (e2.2 77 (by decide)).trans r77⟩
      have e9 : z_ev M M2 (fun k => 62 ≤ k) := e2.wk (fun k g => by omega)
      have hpk := hok q hq
      have p1 := hpk.1
      have p2 := hpk.2.1
      have pr := p_D_rel (W := W) (H := H) (L := L) (hs := hs) (b := k_last W H (kc q)) (m := (kc q).2.1) (st := (kc q).2.2) hL2 (kc q).2.1 (13 * (kc q).1) (by omega) (Or.inl (by omega))
      have hd0 := hdr 0 (13 * (kc q).1) (by omega) (by omega)
      rw [Nat.mul_zero, Nat.zero_add, Nat.sub_zero] at hd0
      generalize hDR : p_D (p_aR W H L hs) 999 (k_last W H (kc q)) (kc q).2.1 (kc q).2.2 (kc q).2.1 (13 * (kc q).1) = DR at *
      obtain ⟨⟨g1, g2, g3, g4, g5⟩, -⟩ := id hM
      refine r_icT rfl (zcT3 ⟨by omega, by omega⟩ ⟨by omega, by omega⟩ (by omega)) ?_
      refine r_al rfl rfl ?_
      refine r_il rfl rfl ?_
      refine r_cv1v rfl rfl h1 rfl (by decide) rfl (k2) ?_
      refine r_ic rfl ?_
      refine r_al rfl rfl ?_
      refine r_gf rfl g1 rfl rfl ?_
      refine r_ic rfl ?_
      refine r_il rfl rfl ?_
      refine r_addI rfl ?_
      refine r_iaI rfl (by decide) g5 (by omega) (by omega) (by omega) ?_
      rw [show (3 + (q : Int)).toNat = 0 + 3 + q by omega, (a4 q hq).1]
      refine r_mulI rfl ?_
      refine r_is3 rfl rfl ?_
      refine r_al rfl rfl ?_
      refine r_gf rfl g1 rfl rfl ?_
      refine r_il rfl rfl ?_
      rw [show (13 : Int) * ((kc q).1 : Int) = ((13 * (kc q).1 : Nat) : Int) by omega]
      refine r_iaI rfl (by decide) hd9 (by omega) (by omega) (by omega) ?_
      rw [Int.toNat_natCast, hd0]
      refine r_ic rfl ?_
      by_cases h7 : 1000 ≤ p_D (p_aC W H L hs) 1000 (k_last W H (kc q)) (kc q).2.1 (kc q).2.2 (kc q).2.1 (13 * (kc q).1)
      · rw [if_pos h7]
        refine r_icF rfl (zcF2 ⟨by omega, by omega⟩ ⟨by omega, by omega⟩ (by omega)) ?_
        refine r_ic rfl ?_
        refine r_reti rfl rfl ?_
        exact ⟨rfl, hY2, e9⟩
      · rw [if_neg h7]
        refine r_icT rfl (zcT2 ⟨by omega, by omega⟩ ⟨by omega, by omega⟩ (by omega)) ?_
        refine r_il rfl rfl ?_
        refine r_ic rfl ?_
        by_cases h6 : i = -1
        · rw [if_pos h6]
          refine r_icF rfl (zcF1 (h6)) ?_
          refine r_al rfl rfl ?_
          refine r_gf rfl g1 rfl rfl ?_
          refine r_il rfl rfl ?_
          refine r_iaI rfl (by decide) hd9 (by omega) (by omega) (by omega) ?_
          rw [Int.toNat_natCast, hd0]
          refine r_reti rfl rfl ?_
          exact ⟨congrArg (fun x => some (Value.int (zI x))) (by omega), hY2, e9⟩
        · rw [if_neg h6]
          refine r_icT rfl (zcT1 ⟨by omega, by omega⟩ ⟨by omega, by omega⟩ (h6)) ?_
          refine r_il rfl rfl ?_
          refine r_al rfl rfl ?_
          refine r_il rfl rfl ?_
          refine r_cv1 rfl rfl g1 rfl (by decide) rfl (m_steps hM hq) ?_
          by_cases h5' : i < ((kc q).2.1 : Int)
          · rw [if_pos h5']
            obtain ⟨j, rfl⟩ : ∃ j : Nat, i = (j : Int) := ⟨i.toNat, by omega⟩
            rw [Int.toNat_natCast]
            refine r_icT rfl (zcT2 ⟨by omega, by omega⟩ ⟨by omega, by omega⟩ (h5')) ?_
            refine r_ic rfl ?_
            refine r_is4 rfl rfl ?_
            refine r_ic rfl ?_
            refine r_is5 rfl rfl ?_
            exact ⟨_, _, m_mend_j hM hq rfl hd9 hdr (Nat.lt_of_not_le h7) (show j < (kc q).2.1 by omega) (j + 1) 0 0 _ (by omega) (fun g => by omega), rfl, hY2, e9⟩
          · rw [if_neg h5']
            refine r_icF rfl (zcF2 ⟨by omega, by omega⟩ ⟨by omega, by omega⟩ (h5')) ?_
            refine r_ic rfl ?_
            refine r_reti rfl rfl ?_
            exact ⟨rfl, hY2, e9⟩
  · rw [if_neg h0, if_neg (fun g => h0 g.1)]
    refine r_ifT rfl (zcT0 (rfl)) ?_
    refine r_ic rfl ?_
    refine r_reti rfl rfl ?_
    exact ⟨rfl, hY, .rf⟩
end ME
