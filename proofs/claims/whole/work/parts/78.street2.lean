/-! STREET: the reference's side -/
theorem m_Y.v {M M' : ZM} {tr : Int64} {v v' wd hd ld nw : Nat → Int32} {W H L n : Nat} {hs lot : Int32} {kc : Nat → ZK} {P : Nat → Prop} (h : m_Y M tr v wd hd ld nw W H L hs lot n kc) (e : z_ev M M' P) (h0 : ∀ k, 64 ≤ k → k < 68 → ¬ P k) (h62 : M'[62]? = some (.inl (6, m_f tr v'))) : m_Y M' tr v' wd hd ld nw W H L hs lot n kc := by
  obtain ⟨⟨h1, h2, h3, h4, h5⟩, h6⟩ := h
  exact ⟨⟨h62, (e.2 _ (h0 _ (by decide) (by decide))).trans h2, (e.2 _ (h0 _ (by decide) (by decide))).trans h3, (e.2 _ (h0 _ (by decide) (by decide))).trans h4, (e.2 _ (h0 _ (by decide) (by decide))).trans h5⟩, h6⟩
theorem Y_I.fld {M M' : ZM} {T : Nat} {tx : Nat → Int32} {W H L : Nat} {b : ZB} {im : Nat → Option ZB} {tr : Int64} {v' : Nat → Int32} (e : z_ev M M' (fun k => k = 62 ∨ (69 ≤ k ∧ k < 78))) (h : Y_I M ((T, tx), (W, H, L), b, im, tr)) (h62 : M'[62]? = some (.inl (6, m_f tr v'))) (hv : v' 2 = zI (T : Int)) (hR : y_W M') : Y_I M' ((T, tx), (W, H, L), b, im, tr) := by
  obtain ⟨h1, v, wd, hd, ld, nw, h2, h3, h4, ⟨g, h5, h5b⟩, ⟨kf, h6, h6b⟩, h7, h8⟩ := h
  exact ⟨by rw [e.1]; exact h1, v', wd, hd, ld, nw, h2.v e (fun k g1 g2 => by omega) h62, hv, h4, ⟨g, (e.2 _ (by omega)).trans h5, h5b⟩, ⟨kf, (e.2 _ (by omega)).trans h6, h6b⟩, h7, hR⟩
section SY
variable {S : ZS} {d : Nat} {M : ZM} {T : Nat} {tx : Nat → Int32} {W H L n : Nat} {hs lot : Int32} {kc : Nat → ZK} {im : Nat → Option ZB} {tr : Int64}
theorem m_toldF_l {v g : Nat → Int32} {s : Nat → Int} {N : Nat} (h1 : M[62]? = some (.inl (6, m_f tr v))) (hv : v 24 = zI (N : Int)) (h77 : M[77]? = some (zA 12 g)) (hN : N ≤ 12) (hg : ∀ j, j < N → g j = zI (s j)) (hs9 : ∀ j, j < N → -1 ≤ s j ∧ s j ≤ 8) {i : Nat} (hi : i < N) : ∀ (m t : Nat), 1 ≤ t ∧ t ≤ N ∧ N + 1 ≤ m + t → z_G S (d + 1) 156 2 [some (.ref 62), some (.int (zI (i : Int))), some (.int (zI 1)), some (.int (zI (t : Int)))] [] M (some (.int (zI (p_fw s N i m t : Int)))) M := by
  intro m
  induction m with
  | zero =>
    intro t ht
    omega
  | succ m ih =>
    intro t ht
    have b1 := hs9 i hi
    refine g_il rfl rfl ?_
    refine g_il rfl rfl ?_
    refine g_il rfl rfl ?_
    refine g_mulI rfl ?_
    refine g_addI rfl ?_
    refine g_ic rfl ?_
    refine g_al rfl rfl ?_
    refine g_gf rfl h1 rfl rfl ?_
    rw [hv]
    refine g_ic rfl ?_
    refine g_subI rfl ?_
    refine g_cs3 rfl rfl rfl rfl (m_in (x := (i : Int) + (t : Int) * 1) ⟨by omega, by omega⟩ ⟨by omega, by omega⟩ ⟨by omega, by omega⟩) ?_
    by_cases hin : 0 ≤ (i : Int) + (t : Int) * 1 ∧ (i : Int) + (t : Int) * 1 ≤ (N : Int) - 1
    · rw [if_pos hin]
      have b2 := hs9 (i + t) (by omega)
      refine g_ifF rfl (zcF0 ⟨by omega, by omega⟩ ⟨by omega, by omega⟩ (by decide)) ?_
      refine g_al rfl rfl ?_
      refine g_gf rfl h1 rfl rfl ?_
      refine g_il rfl rfl ?_
      refine g_il rfl rfl ?_
      refine g_il rfl rfl ?_
      refine g_mulI rfl ?_
      refine g_addI rfl ?_
      rw [show (i : Int) + (t : Int) * 1 = ((i + t : Nat) : Int) by omega]
      refine g_iaI rfl (by decide) h77 (by omega) (by omega) (by omega) ?_
      rw [Int.toNat_natCast, hg _ (by omega)]
      refine g_al rfl rfl ?_
      refine g_gf rfl h1 rfl rfl ?_
      refine g_il rfl rfl ?_
      refine g_iaI rfl (by decide) h77 (by omega) (by omega) (by omega) ?_
      rw [Int.toNat_natCast, hg _ hi]
      by_cases he : s (i + t) = s i
      · refine g_icF rfl (zcF1 (he)) ?_
        refine g_jj3 rfl rfl ?_
        refine g_goto rfl ?_
        unfold p_fw
        rw [if_pos ⟨by omega, he⟩]
        exact ih (t + 1) (by omega)
      · refine g_icT rfl (zcT1 ⟨by omega, by omega⟩ ⟨by omega, by omega⟩ (he)) ?_
        refine g_il rfl rfl ?_
        exact g_reti rfl (by unfold p_fw; rw [if_neg (fun g => he g.2)]) rfl
    · rw [if_neg hin]
      refine g_ifT rfl (zcT0 (rfl)) ?_
      refine g_il rfl rfl ?_
      exact g_reti rfl (by unfold p_fw; rw [if_neg (by omega)]) rfl
theorem m_toldF {v g : Nat → Int32} {s : Nat → Int} {N : Nat} (h1 : M[62]? = some (.inl (6, m_f tr v))) (hv : v 24 = zI (N : Int)) (h77 : M[77]? = some (zA 12 g)) (hN : N ≤ 12) (hg : ∀ j, j < N → g j = zI (s j)) (hs9 : ∀ j, j < N → -1 ≤ s j ∧ s j ≤ 8) {i : Nat} (hi : i < N) : z_C S (d + 1) 156 [.ref 62, .int (zI (i : Int)), .int (zI 1)] M (some (.int (zI (p_fwd s N i : Int)))) M := by
  refine c_of rfl rfl (Nat.le_of_ble_eq_true rfl) ?_
  refine g_ic rfl ?_
  refine g_is3 rfl rfl ?_
  exact m_toldF_l h1 hv h77 hN hg hs9 hi N 1 (by omega)
theorem m_toldB_l {v g : Nat → Int32} {s : Nat → Int} {N : Nat} (h1 : M[62]? = some (.inl (6, m_f tr v))) (hv : v 24 = zI (N : Int)) (h77 : M[77]? = some (zA 12 g)) (hN : N ≤ 12) (hg : ∀ j, j < N → g j = zI (s j)) (hs9 : ∀ j, j < N → -1 ≤ s j ∧ s j ≤ 8) {i : Nat} (hi : i < N) : ∀ (j t : Nat), t + j = i + 1 → z_G S (d + 1) 156 2 [some (.ref 62), some (.int (zI (i : Int))), some (.int (zI (-1))), some (.int (zI (t : Int)))] [] M (some (.int (zI ((t + p_back s (s i) j : Nat) : Int)))) M := by
  intro j
  induction j with
  | zero =>
    intro t ht
    have b1 := hs9 i hi
    refine g_il rfl rfl ?_
    refine g_il rfl rfl ?_
    refine g_il rfl rfl ?_
    refine g_mulI rfl ?_
    refine g_addI rfl ?_
    refine g_ic rfl ?_
    refine g_al rfl rfl ?_
    refine g_gf rfl h1 rfl rfl ?_
    rw [hv]
    refine g_ic rfl ?_
    refine g_subI rfl ?_
    refine g_cs3 rfl rfl rfl rfl (m_in (x := (i : Int) + (t : Int) * -1) ⟨by omega, by omega⟩ ⟨by omega, by omega⟩ ⟨by omega, by omega⟩) ?_
    rw [if_neg (by omega)]
    refine g_ifT rfl (zcT0 (rfl)) ?_
    refine g_il rfl rfl ?_
    exact g_reti rfl (rfl) rfl
  | succ j ih =>
    intro t ht
    have b1 := hs9 i hi
    refine g_il rfl rfl ?_
    refine g_il rfl rfl ?_
    refine g_il rfl rfl ?_
    refine g_mulI rfl ?_
    refine g_addI rfl ?_
    refine g_ic rfl ?_
    refine g_al rfl rfl ?_
    refine g_gf rfl h1 rfl rfl ?_
    rw [hv]
    refine g_ic rfl ?_
    refine g_subI rfl ?_
    refine g_cs3 rfl rfl rfl rfl (m_in (x := (i : Int) + (t : Int) * -1) ⟨by omega, by omega⟩ ⟨by omega, by omega⟩ ⟨by omega, by omega⟩) ?_
    rw [if_pos (by omega)]
    have b2 := hs9 j (by omega)
    refine g_ifF rfl (zcF0 ⟨by omega, by omega⟩ ⟨by omega, by omega⟩ (by decide)) ?_
    refine g_al rfl rfl ?_
    refine g_gf rfl h1 rfl rfl ?_
    refine g_il rfl rfl ?_
    refine g_il rfl rfl ?_
    refine g_il rfl rfl ?_
    refine g_mulI rfl ?_
    refine g_addI rfl ?_
    rw [show (i : Int) + (t : Int) * -1 = (j : Int) by omega]
    refine g_iaI rfl (by decide) h77 (by omega) (by omega) (by omega) ?_
    rw [Int.toNat_natCast, hg _ (by omega)]
    refine g_al rfl rfl ?_
    refine g_gf rfl h1 rfl rfl ?_
    refine g_il rfl rfl ?_
    refine g_iaI rfl (by decide) h77 (by omega) (by omega) (by omega) ?_
    rw [Int.toNat_natCast, hg _ hi]
    by_cases he : s j = s i
    · refine g_icF rfl (zcF1 (he)) ?_
      refine g_jj3 rfl rfl ?_
      refine g_goto rfl ?_
      rw [show t + p_back s (s i) (j + 1) = t + 1 + p_back s (s i) j by rw [show p_back s (s i) (j + 1) = p_back s (s i) j + 1 from if_pos he]; omega]
      exact ih (t + 1) (by omega)
    · refine g_icT rfl (zcT1 ⟨by omega, by omega⟩ ⟨by omega, by omega⟩ (he)) ?_
      refine g_il rfl rfl ?_
      exact g_reti rfl (by rw [show p_back s (s i) (j + 1) = 0 from if_neg he]; rfl) rfl
theorem m_toldB {v g : Nat → Int32} {s : Nat → Int} {N : Nat} (h1 : M[62]? = some (.inl (6, m_f tr v))) (hv : v 24 = zI (N : Int)) (h77 : M[77]? = some (zA 12 g)) (hN : N ≤ 12) (hg : ∀ j, j < N → g j = zI (s j)) (hs9 : ∀ j, j < N → -1 ≤ s j ∧ s j ≤ 8) {i : Nat} (hi : i < N) : z_C S (d + 1) 156 [.ref 62, .int (zI (i : Int)), .int (zI (-1))] M (some (.int (zI (p_run s i : Int)))) M := by
  refine c_of rfl rfl (Nat.le_of_ble_eq_true rfl) ?_
  refine g_ic rfl ?_
  refine g_is3 rfl rfl ?_
  rw [show p_run s i = 1 + p_back s (s i) i from Nat.add_comm _ _]
  exact m_toldB_l h1 hv h77 hN hg hs9 hi i 1 (by omega)
theorem m_bent_2 {v wd hd ld nw : Nat → Int32} {g : Nat → Int32} {s : Nat → Int} {N q0 : Nat} (h : m_Y M tr v wd hd ld nw W H L hs lot n kc) (hv : v 24 = zI (N : Int)) (h77 : M[77]? = some (zA 12 g)) (hg : ∀ j, j < N → g j = zI (s j)) (hok0 : p_ok W H hs (q0, N, s)) {k : Nat} (hk : k < n) {b : Bool} {r : Option Value} (hx : z_G S (d + 3) 157 61 [some (.ref 62), some (.int (zI (q0 : Int))), some (.int (zI (k_last W H (q0, N, s) : Int))), some (.int (zI ((N - 1 : Nat) : Int))), some (.int (zI (if (b && !p_join (k_last W H (kc k) : Int) (kc k).2.2 (kc k).2.1 (q0 : Int) s N L) = true then 1 else 0))), some (.int (zI ((k + 1 : Nat) : Int))), some (.int (zI (((kc k).2.1 - 1 : Nat) : Int)))] [] M r M) : z_G S (d + 3) 157 145 [some (.ref 62), some (.int (zI (q0 : Int))), some (.int (zI (k_last W H (q0, N, s) : Int))), some (.int (zI ((N - 1 : Nat) : Int))), some (.int (zI (if b = true then 1 else 0))), some (.int (zI (k : Int))), some (.int (zI (((kc k).2.1 - 1 : Nat) : Int)))] [] M r M := by
  obtain ⟨⟨h1, h2, h3, h4, h5⟩, ⟨w1, w2, w3⟩, ⟨⟨hW1, hW2⟩, ⟨hH1, hH2⟩, ⟨hL1, hL2⟩, hn⟩, ⟨a1, a2, a3, a4⟩, hok⟩ := id h
  have hC := p_WH hW2 hH2
  obtain ⟨pk1, ⟨pk2, pk3⟩, pk4, pk5⟩ := id hok0
  have pk1 : q0 < W * H := pk1
  have pk2 : 1 ≤ N := pk2
  have pk3 : N ≤ 12 := pk3
  have pk4 : ∀ j, j < N → 0 ≤ s j ∧ s j ≤ 3 := pk4
  have l0 := k_last_lt hok0
  have hs9 : ∀ j, j < N → -1 ≤ s j ∧ s j ≤ 8 := fun j hj => by have := pk4 j hj; omega
  have hpk := hok k hk
  have l1 := k_last_lt hpk
  have l2 := hpk.1
  have l3 := hpk.2.1
  have l4 := hpk.2.2.1
  have b0 := l4 0 (by omega)
  have b1 := l4 ((kc k).2.1 - 1) (by omega)
  have b2 := pk4 0 (by omega)
  have b3 := pk4 (N - 1) (by omega)
  have b4 := p_run_le (kc k).2.2 ((kc k).2.1 - 1)
  have b5 := p_run_le s (N - 1)
  have b6 := p_fr_le s N N 1
  have b7 := p_fr_le (kc k).2.2 (kc k).2.1 (kc k).2.1 1
  have e6 : p_first s N = p_fr s N N 1 := rfl
  have e7 : p_first (kc k).2.2 (kc k).2.1 = p_fr (kc k).2.2 (kc k).2.1 (kc k).2.1 1 := rfl
  rcases hb : b with - | -
  · subst hb
    rw [if_neg Bool.false_ne_true]
    refine g_il rfl rfl ?_
    refine g_ifT rfl (zcT0 (rfl)) ?_
    refine g_ic rfl ?_
    refine g_is4 rfl rfl ?_
    refine g_jj5 rfl rfl ?_
    refine g_goto rfl ?_
    exact hx
  · subst hb
    rw [if_pos rfl]
    refine g_il rfl rfl ?_
    refine g_ifF rfl (zcF0 ⟨by omega, by omega⟩ ⟨by omega, by omega⟩ (by decide)) ?_
    refine g_al rfl rfl ?_
    refine g_il rfl rfl ?_
    refine g_cv1 rfl rfl h1 rfl (by decide) rfl (m_lastCell h hk) ?_
    refine g_il rfl rfl ?_
    by_cases c1 : (k_last W H (kc k) : Int) = (q0 : Int)
    · refine g_icF rfl (zcF1 (c1)) ?_
      refine g_al rfl rfl ?_
      refine g_il rfl rfl ?_
      refine g_il rfl rfl ?_
      refine g_cv2 rfl rfl h1 rfl (by decide) rfl (m_stepIn h hk (j := (kc k).2.1 - 1) (by omega)) ?_
      refine g_al rfl rfl ?_
      refine g_gf rfl h1 rfl rfl ?_
      refine g_ic rfl ?_
      refine g_iaI rfl (by decide) h77 (by omega) (by omega) (by omega) ?_
      rw [show (0 : Int).toNat = 0 from rfl, hg 0 (by omega)]
      by_cases c2 : (kc k).2.2 ((kc k).2.1 - 1) = s 0
      · refine g_icF rfl (zcF1 (c2)) ?_
        refine g_al rfl rfl ?_
        refine g_il rfl rfl ?_
        refine g_il rfl rfl ?_
        refine g_cv2 rfl rfl h1 rfl (by decide) rfl (m_runAt h hk (i := (kc k).2.1 - 1) (by omega)) ?_
        refine g_al rfl rfl ?_
        refine g_ic rfl ?_
        refine g_ic rfl ?_
        refine g_cv2 rfl rfl h1 rfl (by decide) rfl (m_toldF h1 hv h77 pk3 hg hs9 (i := 0) (by omega)) ?_
        rw [p_fwd_0]
        refine g_addI rfl ?_
        refine g_al rfl rfl ?_
        refine g_gf rfl h1 rfl rfl ?_
        refine g_ic rfl ?_
        refine g_iaI rfl (by decide) h4 (by omega) (by omega) (by omega) ?_
        rw [show (0 : Int).toNat = 0 from rfl, w3]
        by_cases c3 : L < p_run (kc k).2.2 ((kc k).2.1 - 1) + p_first s N
        · refine g_icT rfl (zcT4 ⟨by omega, by omega⟩ ⟨by omega, by omega⟩ (by omega)) ?_
          refine g_ic rfl ?_
          refine g_is4 rfl rfl ?_
          refine g_jj5 rfl rfl ?_
          refine g_goto rfl ?_
          have e9 : p_join (k_last W H (kc k) : Int) (kc k).2.2 (kc k).2.1 (q0 : Int) s N L = true := by unfold p_join; rw [decide_eq_true c1, decide_eq_true c2, decide_eq_true c3]; rfl
          rw [e9] at hx
          exact hx
        · refine g_icF rfl (zcF4 ⟨by omega, by omega⟩ ⟨by omega, by omega⟩ (by omega)) ?_
          refine g_ic rfl ?_
          refine g_goto rfl ?_
          refine g_is4 rfl rfl ?_
          refine g_jj5 rfl rfl ?_
          refine g_goto rfl ?_
          have e9 : p_join (k_last W H (kc k) : Int) (kc k).2.2 (kc k).2.1 (q0 : Int) s N L = false := by unfold p_join; rw [decide_eq_true c1, decide_eq_true c2, decide_eq_false c3] <;> rfl
          rw [e9] at hx
          exact hx
      · refine g_icT rfl (zcT1 ⟨by omega, by omega⟩ ⟨by omega, by omega⟩ (c2)) ?_
        refine g_ic rfl ?_
        refine g_goto rfl ?_
        refine g_is4 rfl rfl ?_
        refine g_jj5 rfl rfl ?_
        refine g_goto rfl ?_
        have e9 : p_join (k_last W H (kc k) : Int) (kc k).2.2 (kc k).2.1 (q0 : Int) s N L = false := by unfold p_join; rw [decide_eq_true c1, decide_eq_false c2] <;> rfl
        rw [e9] at hx
        exact hx
    · refine g_icT rfl (zcT1 ⟨by omega, by omega⟩ ⟨by omega, by omega⟩ (c1)) ?_
      refine g_ic rfl ?_
      refine g_goto rfl ?_
      refine g_is4 rfl rfl ?_
      refine g_jj5 rfl rfl ?_
      refine g_goto rfl ?_
      have e9 : p_join (k_last W H (kc k) : Int) (kc k).2.2 (kc k).2.1 (q0 : Int) s N L = false := by unfold p_join; rw [decide_eq_false c1] <;> rfl
      rw [e9] at hx
      exact hx
theorem m_bent_1 {v wd hd ld nw : Nat → Int32} {g : Nat → Int32} {s : Nat → Int} {N q0 : Nat} (h : m_Y M tr v wd hd ld nw W H L hs lot n kc) (hv : v 24 = zI (N : Int)) (h77 : M[77]? = some (zA 12 g)) (hg : ∀ j, j < N → g j = zI (s j)) (hok0 : p_ok W H hs (q0, N, s)) {k : Nat} (hk : k < n) {b : Bool} {r : Option Value} (hx : z_G S (d + 3) 157 61 [some (.ref 62), some (.int (zI (q0 : Int))), some (.int (zI (k_last W H (q0, N, s) : Int))), some (.int (zI ((N - 1 : Nat) : Int))), some (.int (zI (if ((b && !p_join (k_last W H (q0, N, s) : Int) s N ((kc k).1 : Int) (kc k).2.2 (kc k).2.1 L) && !p_join (k_last W H (kc k) : Int) (kc k).2.2 (kc k).2.1 (q0 : Int) s N L) = true then 1 else 0))), some (.int (zI ((k + 1 : Nat) : Int))), some (.int (zI (((kc k).2.1 - 1 : Nat) : Int)))] [] M r M) : z_G S (d + 3) 157 82 [some (.ref 62), some (.int (zI (q0 : Int))), some (.int (zI (k_last W H (q0, N, s) : Int))), some (.int (zI ((N - 1 : Nat) : Int))), some (.int (zI (if b = true then 1 else 0))), some (.int (zI (k : Int))), some (.int (zI (((kc k).2.1 - 1 : Nat) : Int)))] [] M r M := by
  obtain ⟨⟨h1, h2, h3, h4, h5⟩, ⟨w1, w2, w3⟩, ⟨⟨hW1, hW2⟩, ⟨hH1, hH2⟩, ⟨hL1, hL2⟩, hn⟩, ⟨a1, a2, a3, a4⟩, hok⟩ := id h
  have hC := p_WH hW2 hH2
  obtain ⟨pk1, ⟨pk2, pk3⟩, pk4, pk5⟩ := id hok0
  have pk1 : q0 < W * H := pk1
  have pk2 : 1 ≤ N := pk2
  have pk3 : N ≤ 12 := pk3
  have pk4 : ∀ j, j < N → 0 ≤ s j ∧ s j ≤ 3 := pk4
  have l0 := k_last_lt hok0
  have hs9 : ∀ j, j < N → -1 ≤ s j ∧ s j ≤ 8 := fun j hj => by have := pk4 j hj; omega
  have hpk := hok k hk
  have l1 := k_last_lt hpk
  have l2 := hpk.1
  have l3 := hpk.2.1
  have l4 := hpk.2.2.1
  have b0 := l4 0 (by omega)
  have b1 := l4 ((kc k).2.1 - 1) (by omega)
  have b2 := pk4 0 (by omega)
  have b3 := pk4 (N - 1) (by omega)
  have b4 := p_run_le (kc k).2.2 ((kc k).2.1 - 1)
  have b5 := p_run_le s (N - 1)
  have b6 := p_fr_le s N N 1
  have b7 := p_fr_le (kc k).2.2 (kc k).2.1 (kc k).2.1 1
  have e6 : p_first s N = p_fr s N N 1 := rfl
  have e7 : p_first (kc k).2.2 (kc k).2.1 = p_fr (kc k).2.2 (kc k).2.1 (kc k).2.1 1 := rfl
  rcases hb : b with - | -
  · subst hb
    rw [if_neg Bool.false_ne_true]
    refine g_il rfl rfl ?_
    refine g_ifT rfl (zcT0 (rfl)) ?_
    refine g_ic rfl ?_
    refine g_is4 rfl rfl ?_
    exact m_bent_2 h hv h77 hg hok0 hk (b := false) hx
  · subst hb
    rw [if_pos rfl]
    refine g_il rfl rfl ?_
    refine g_ifF rfl (zcF0 ⟨by omega, by omega⟩ ⟨by omega, by omega⟩ (by decide)) ?_
    refine g_il rfl rfl ?_
    refine g_al rfl rfl ?_
    refine g_gf rfl h1 rfl rfl ?_
    refine g_ic rfl ?_
    refine g_il rfl rfl ?_
    refine g_addI rfl ?_
    refine g_iaI rfl (by decide) h5 (by omega) (by omega) (by omega) ?_
    rw [show (3 + (k : Int)).toNat = 0 + 3 + k by omega, (a4 k hk).1]
    by_cases c1 : (k_last W H (q0, N, s) : Int) = ((kc k).1 : Int)
    · refine g_icF rfl (zcF1 (c1)) ?_
      refine g_al rfl rfl ?_
      refine g_gf rfl h1 rfl rfl ?_
      refine g_il rfl rfl ?_
      refine g_iaI rfl (by decide) h77 (by omega) (by omega) (by omega) ?_
      rw [Int.toNat_natCast, hg _ (by omega)]
      refine g_al rfl rfl ?_
      refine g_il rfl rfl ?_
      refine g_ic rfl ?_
      refine g_cv2 rfl rfl h1 rfl (by decide) rfl (m_stepIn h hk (j := 0) (by omega)) ?_
      by_cases c2 : s (N - 1) = (kc k).2.2 0
      · refine g_icF rfl (zcF1 (c2)) ?_
        refine g_al rfl rfl ?_
        refine g_il rfl rfl ?_
        refine g_ic rfl ?_
        refine g_cv2 rfl rfl h1 rfl (by decide) rfl (m_toldB h1 hv h77 pk3 hg hs9 (i := N - 1) (by omega)) ?_
        refine g_al rfl rfl ?_
        refine g_il rfl rfl ?_
        refine g_cv1 rfl rfl h1 rfl (by decide) rfl (m_firstRun h hk) ?_
        refine g_addI rfl ?_
        refine g_al rfl rfl ?_
        refine g_gf rfl h1 rfl rfl ?_
        refine g_ic rfl ?_
        refine g_iaI rfl (by decide) h4 (by omega) (by omega) (by omega) ?_
        rw [show (0 : Int).toNat = 0 from rfl, w3]
        by_cases c3 : L < p_run s (N - 1) + p_first (kc k).2.2 (kc k).2.1
        · refine g_icT rfl (zcT4 ⟨by omega, by omega⟩ ⟨by omega, by omega⟩ (by omega)) ?_
          refine g_ic rfl ?_
          refine g_is4 rfl rfl ?_
          have e9 : p_join (k_last W H (q0, N, s) : Int) s N ((kc k).1 : Int) (kc k).2.2 (kc k).2.1 L = true := by unfold p_join; rw [decide_eq_true c1, decide_eq_true c2, decide_eq_true c3]; rfl
          rw [e9] at hx
          exact m_bent_2 h hv h77 hg hok0 hk (b := false) hx
        · refine g_icF rfl (zcF4 ⟨by omega, by omega⟩ ⟨by omega, by omega⟩ (by omega)) ?_
          refine g_ic rfl ?_
          refine g_goto rfl ?_
          refine g_is4 rfl rfl ?_
          have e9 : p_join (k_last W H (q0, N, s) : Int) s N ((kc k).1 : Int) (kc k).2.2 (kc k).2.1 L = false := by unfold p_join; rw [decide_eq_true c1, decide_eq_true c2, decide_eq_false c3] <;> rfl
          rw [e9] at hx
          exact m_bent_2 h hv h77 hg hok0 hk (b := true) hx
      · refine g_icT rfl (zcT1 ⟨by omega, by omega⟩ ⟨by omega, by omega⟩ (c2)) ?_
        refine g_ic rfl ?_
        refine g_goto rfl ?_
        refine g_is4 rfl rfl ?_
        have e9 : p_join (k_last W H (q0, N, s) : Int) s N ((kc k).1 : Int) (kc k).2.2 (kc k).2.1 L = false := by unfold p_join; rw [decide_eq_true c1, decide_eq_false c2] <;> rfl
        rw [e9] at hx
        exact m_bent_2 h hv h77 hg hok0 hk (b := true) hx
    · refine g_icT rfl (zcT1 ⟨by omega, by omega⟩ ⟨by omega, by omega⟩ (c1)) ?_
      refine g_ic rfl ?_
      refine g_goto rfl ?_
      refine g_is4 rfl rfl ?_
      have e9 : p_join (k_last W H (q0, N, s) : Int) s N ((kc k).1 : Int) (kc k).2.2 (kc k).2.1 L = false := by unfold p_join; rw [decide_eq_false c1] <;> rfl
      rw [e9] at hx
      exact m_bent_2 h hv h77 hg hok0 hk (b := true) hx
theorem m_bent_k {v wd hd ld nw : Nat → Int32} {g : Nat → Int32} {s : Nat → Int} {N q0 : Nat} (h : m_Y M tr v wd hd ld nw W H L hs lot n kc) (hv : v 24 = zI (N : Int)) (h77 : M[77]? = some (zA 12 g)) (hg : ∀ j, j < N → g j = zI (s j)) (hok0 : p_ok W H hs (q0, N, s)) : ∀ (m k : Nat) (x6 : Option Value), k + m = n → z_G S (d + 3) 157 61 [some (.ref 62), some (.int (zI (q0 : Int))), some (.int (zI (k_last W H (q0, N, s) : Int))), some (.int (zI ((N - 1 : Nat) : Int))), some (.int (zI (if p_nj W H L kc (q0, N, s) k = true then 1 else 0))), some (.int (zI (k : Int))), x6] [] M (some (.int (zI (if p_nj W H L kc (q0, N, s) n = true then 1 else 0)))) M := by
  obtain ⟨⟨h1, h2, h3, h4, h5⟩, ⟨w1, w2, w3⟩, ⟨⟨hW1, hW2⟩, ⟨hH1, hH2⟩, ⟨hL1, hL2⟩, hn⟩, ⟨a1, a2, a3, a4⟩, hok⟩ := id h
  have hC := p_WH hW2 hH2
  obtain ⟨pk1, ⟨pk2, pk3⟩, pk4, pk5⟩ := id hok0
  have pk1 : q0 < W * H := pk1
  have pk2 : 1 ≤ N := pk2
  have pk3 : N ≤ 12 := pk3
  have pk4 : ∀ j, j < N → 0 ≤ s j ∧ s j ≤ 3 := pk4
  have l0 := k_last_lt hok0
  have hs9 : ∀ j, j < N → -1 ≤ s j ∧ s j ≤ 8 := fun j hj => by have := pk4 j hj; omega
  intro m
  induction m with
  | zero =>
    intro k x6 hk
    refine g_il rfl rfl ?_
    refine g_al rfl rfl ?_
    refine g_gf rfl h1 rfl rfl ?_
    refine g_ic rfl ?_
    refine g_iaI rfl (by decide) h5 (by omega) (by omega) (by omega) ?_
    rw [show (1 : Int).toNat = 0 + 1 from rfl, a2]
    refine g_icT rfl (zcT3 ⟨by omega, by omega⟩ ⟨by omega, by omega⟩ (by omega)) ?_
    refine g_il rfl rfl ?_
    rw [show k = n by omega]
    cases p_nj W H L kc (q0, N, s) n
    · exact g_reti rfl (rfl) rfl
    · exact g_reti rfl (rfl) rfl
  | succ m ih =>
    intro k x6 hk
    refine g_il rfl rfl ?_
    refine g_al rfl rfl ?_
    refine g_gf rfl h1 rfl rfl ?_
    refine g_ic rfl ?_
    refine g_iaI rfl (by decide) h5 (by omega) (by omega) (by omega) ?_
    rw [show (1 : Int).toNat = 0 + 1 from rfl, a2]
    refine g_icF rfl (zcF3 ⟨by omega, by omega⟩ ⟨by omega, by omega⟩ (by omega)) ?_
    refine g_al rfl rfl ?_
    refine g_il rfl rfl ?_
    refine g_cv1 rfl rfl h1 rfl (by decide) rfl (m_steps h (k := k) (by omega)) ?_
    refine g_ic rfl ?_
    refine g_subI rfl ?_
    refine g_is6 rfl rfl ?_
    have hp1 := (hok k (by omega)).2.1.1
    rw [show ((kc k).2.1 : Int) - 1 = (((kc k).2.1 - 1 : Nat) : Int) by omega]
    refine m_bent_1 h hv h77 hg hok0 (k := k) (by omega) ?_
    rw [show ((p_nj W H L kc (q0, N, s) k && !p_join (k_last W H (q0, N, s) : Int) s N ((kc k).1 : Int) (kc k).2.2 (kc k).2.1 L) && !p_join (k_last W H (kc k) : Int) (kc k).2.2 (kc k).2.1 (q0 : Int) s N L) = p_nj W H L kc (q0, N, s) (k + 1) from by
      show _ = (p_nj W H L kc (q0, N, s) k && !(p_join (k_last W H (kc k) : Int) (kc k).2.2 (kc k).2.1 (q0 : Int) s N L || p_join (k_last W H (q0, N, s) : Int) s N ((kc k).1 : Int) (kc k).2.2 (kc k).2.1 L))
      cases p_nj W H L kc (q0, N, s) k <;> cases p_join (k_last W H (q0, N, s) : Int) s N ((kc k).1 : Int) (kc k).2.2 (kc k).2.1 L <;> cases p_join (k_last W H (kc k) : Int) (kc k).2.2 (kc k).2.1 (q0 : Int) s N L <;> rfl]
    exact ih (k + 1) _ (by omega)
theorem m_bent_i {v wd hd ld nw : Nat → Int32} {g : Nat → Int32} {s : Nat → Int} {N q0 : Nat} (h : m_Y M tr v wd hd ld nw W H L hs lot n kc) (hv : v 24 = zI (N : Int)) (h77 : M[77]? = some (zA 12 g)) (hg : ∀ j, j < N → g j = zI (s j)) (hok0 : p_ok W H hs (q0, N, s)) : ∀ (m i q : Nat), i + m = N → q_pos W H q0 s i = some q → (∀ j, j < i → ¬ L < p_fwd s N j) → z_G S (d + 3) 157 4 [some (.ref 62), some (.int (zI (q0 : Int))), some (.int (zI (q : Int))), some (.int (zI (i : Int))), none, none, none] [] M (some (.int (zI (if p_bnt W H L n kc (q0, N, s) then 1 else 0)))) M := by
  obtain ⟨⟨h1, h2, h3, h4, h5⟩, ⟨w1, w2, w3⟩, ⟨⟨hW1, hW2⟩, ⟨hH1, hH2⟩, ⟨hL1, hL2⟩, hn⟩, ⟨a1, a2, a3, a4⟩, hok⟩ := id h
  have hC := p_WH hW2 hH2
  obtain ⟨pk1, ⟨pk2, pk3⟩, pk4, pk5⟩ := id hok0
  have pk1 : q0 < W * H := pk1
  have pk2 : 1 ≤ N := pk2
  have pk3 : N ≤ 12 := pk3
  have pk4 : ∀ j, j < N → 0 ≤ s j ∧ s j ≤ 3 := pk4
  have l0 := k_last_lt hok0
  have hs9 : ∀ j, j < N → -1 ≤ s j ∧ s j ≤ 8 := fun j hj => by have := pk4 j hj; omega
  intro m
  induction m with
  | zero =>
    intro i q hi hq hlt
    refine g_il rfl rfl ?_
    refine g_al rfl rfl ?_
    refine g_gf rfl h1 rfl rfl ?_
    rw [hv]
    refine g_icT rfl (zcT3 ⟨by omega, by omega⟩ ⟨by omega, by omega⟩ (by omega)) ?_
    refine g_al rfl rfl ?_
    refine g_gf rfl h1 rfl rfl ?_
    rw [hv]
    refine g_ic rfl ?_
    refine g_subI rfl ?_
    refine g_is3 rfl rfl ?_
    refine g_ic rfl ?_
    refine g_is4 rfl rfl ?_
    refine g_ic rfl ?_
    refine g_is5 rfl rfl ?_
    have hst : p_str s L N = -9 := (p_str_fwd hL1).mpr (fun k hk => hlt k (by omega))
    have el : q = k_last W H (q0, N, s) := by
      show q = (q_pos W H q0 s N).getD 0
      rw [show N = i by omega, hq]
      rfl
    rw [show (N : Int) - 1 = ((N - 1 : Nat) : Int) by omega, el, show (if p_bnt W H L n kc (q0, N, s) then (1 : Int) else 0) = (if p_nj W H L kc (q0, N, s) n = true then 1 else 0) from z_ifeq ⟨fun g => g.2, fun g => ⟨hst, g⟩⟩]
    exact m_bent_k h hv h77 hg hok0 n 0 none (by omega)
  | succ m ih =>
    intro i q hi hq hlt
    have bf := p_fw_ok (s := s) (N := N) (i := i) N 1
    have ef : p_fwd s N i = p_fw s N i N 1 := rfl
    have lq := q_lt pk1 i q hq
    refine g_il rfl rfl ?_
    refine g_al rfl rfl ?_
    refine g_gf rfl h1 rfl rfl ?_
    rw [hv]
    refine g_icF rfl (zcF3 ⟨by omega, by omega⟩ ⟨by omega, by omega⟩ (by omega)) ?_
    refine g_al rfl rfl ?_
    refine g_il rfl rfl ?_
    refine g_ic rfl ?_
    refine g_cv2 rfl rfl h1 rfl (by decide) rfl (m_toldF h1 hv h77 pk3 hg hs9 (i := i) (by omega)) ?_
    refine g_al rfl rfl ?_
    refine g_gf rfl h1 rfl rfl ?_
    refine g_ic rfl ?_
    refine g_iaI rfl (by decide) h4 (by omega) (by omega) (by omega) ?_
    rw [show (0 : Int).toNat = 0 from rfl, w3]
    by_cases hov : L < p_fwd s N i
    · refine g_icF rfl (zcF5 ⟨by omega, by omega⟩ ⟨by omega, by omega⟩ (by omega)) ?_
      refine g_ic rfl ?_
      exact g_reti rfl (by rw [if_neg (fun g => (p_str_fwd hL1).mp g.1 i (by omega) hov)]) rfl
    · refine g_icT rfl (zcT5 ⟨by omega, by omega⟩ ⟨by omega, by omega⟩ (by omega)) ?_
      refine g_al rfl rfl ?_
      refine g_ic rfl ?_
      refine g_il rfl rfl ?_
      refine g_al rfl rfl ?_
      refine g_gf rfl h1 rfl rfl ?_
      refine g_il rfl rfl ?_
      refine g_iaI rfl (by decide) h77 (by omega) (by omega) (by omega) ?_
      rw [Int.toNat_natCast, hg _ (by omega)]
      obtain ⟨c2, hc2, -⟩ := pk5 (i + 1) (show i + 1 ≤ N by omega)
      have hc3 : p_off W H q (s i) = some c2 := by
        have hc2 : (match q_pos W H q0 s i with | some c => p_off W H c (s i) | none => none) = some c2 := hc2
        rw [hq] at hc2
        exact hc2
      refine g_cv3 rfl rfl h1 rfl (by decide) rfl (m_off ⟨h1, h2, h3, h4, h5⟩ hW1 hW2 hH1 hH2 (e := 0) (by decide) w1 w2 (c := q) lq (st := s i) (pk4 i (by omega))) ?_
      rw [hc3, show oI (some c2) (-9) = (c2 : Int) from rfl]
      refine g_is2 rfl rfl ?_
      refine g_jj3 rfl rfl ?_
      refine g_goto rfl ?_
      refine ih (i + 1) c2 (by omega) hc2 (fun j hj => ?_)
      by_cases e : j = i
      · subst e
        exact hov
      · exact hlt j (by omega)
theorem m_isBent {v wd hd ld nw : Nat → Int32} {g : Nat → Int32} {s : Nat → Int} {N q0 : Nat} (h : m_Y M tr v wd hd ld nw W H L hs lot n kc) (hv : v 24 = zI (N : Int)) (h77 : M[77]? = some (zA 12 g)) (hg : ∀ j, j < N → g j = zI (s j)) (hok0 : p_ok W H hs (q0, N, s)) : z_C S (d + 3) 157 [.ref 62, .int (zI (q0 : Int))] M (some (.int (zI (if p_bnt W H L n kc (q0, N, s) then 1 else 0)))) M := by
  refine c_of rfl rfl (Nat.le_of_ble_eq_true rfl) ?_
  refine g_il rfl rfl ?_
  refine g_is2 rfl rfl ?_
  refine g_ic rfl ?_
  refine g_is3 rfl rfl ?_
  exact m_bent_i h hv h77 hg hok0 N 0 q0 (by omega) rfl (fun j hj => by omega)
end SY
