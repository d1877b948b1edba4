/-! the reference: its chains -/
section MC
variable {S : ZS} {d : Nat} {M : ZM} {tr : Int64} {v wd hd ld nw : Nat → Int32} {W H L n : Nat} {hs lot : Int32} {kc : Nat → ZK}
theorem m_lastCell_l (h : m_Y M tr v wd hd ld nw W H L hs lot n kc) {k : Nat} (hk : k < n) : ∀ (m i c : Nat), i + m = (kc k).2.1 → q_pos W H (kc k).1 (kc k).2.2 i = some c → z_G S (d + 2) 123 11 [some (.ref 62), some (.int (zI (k : Int))), some (.int (zI (c : Int))), some (.int (zI (i : Int)))] [] M (some (.int (zI (k_last W H (kc k) : Int)))) M := by
  obtain ⟨⟨h1, h2, h3, h4, h5⟩, ⟨w1, w2, w3⟩, ⟨⟨hW1, hW2⟩, ⟨hH1, hH2⟩, ⟨hL1, hL2⟩, hn⟩, ⟨a1, a2, a3, a4⟩, hok⟩ := id h
  have hC := p_WH hW2 hH2
  have eC : (W : Int) * (H : Int) = ((W * H : Nat) : Int) := (Int.natCast_mul W H).symm
  have hkk := hok k hk
  obtain ⟨p1, p2, p3, p4⟩ := id hkk
  intro m
  induction m with
  | zero =>
    intro i c hi hc
    refine g_il rfl rfl ?_
    refine g_al rfl rfl ?_
    refine g_il rfl rfl ?_
    refine g_cv1 rfl rfl h1 rfl (by decide) rfl (m_steps h hk) ?_
    refine g_icT rfl (zcT3 ⟨by omega, by omega⟩ ⟨by omega, by omega⟩ (by omega)) ?_
    refine g_il rfl rfl ?_
    exact g_reti rfl (by rw [show k_last W H (kc k) = c by unfold k_last; rw [show (kc k).2.1 = i by omega, hc]; rfl]) rfl
  | succ m ih =>
    intro i c hi hc
    refine g_il rfl rfl ?_
    refine g_al rfl rfl ?_
    refine g_il rfl rfl ?_
    refine g_cv1 rfl rfl h1 rfl (by decide) rfl (m_steps h hk) ?_
    refine g_icF rfl (zcF3 ⟨by omega, by omega⟩ ⟨by omega, by omega⟩ (by omega)) ?_
    refine g_al rfl rfl ?_
    refine g_ic rfl ?_
    refine g_il rfl rfl ?_
    refine g_al rfl rfl ?_
    refine g_il rfl rfl ?_
    refine g_il rfl rfl ?_
    refine g_cv2 rfl rfl h1 rfl (by decide) rfl (m_stepIn h hk (j := i) (by omega)) ?_
    have hcl := q_lt p1 i c hc
    refine g_cv3 rfl rfl h1 rfl (by decide) rfl (m_off (e := 0) ⟨h1, h2, h3, h4, h5⟩ hW1 hW2 hH1 hH2 (by omega) w1 w2 hcl (p3 i (by omega))) ?_
    obtain ⟨c2, g1, g2⟩ := p4 (i + 1) (by omega)
    have g3 : p_off W H c ((kc k).2.2 i) = some c2 := by
      have : (match q_pos W H (kc k).1 (kc k).2.2 i with | some c => p_off W H c ((kc k).2.2 i) | none => none) = some c2 := g1
      rw [hc] at this
      exact this
    rw [g3]
    refine g_is2 rfl rfl ?_
    refine g_jj3 rfl rfl ?_
    refine g_goto rfl ?_
    exact ih (i + 1) c2 (by omega) g1
theorem m_lastCell (h : m_Y M tr v wd hd ld nw W H L hs lot n kc) {k : Nat} (hk : k < n) : z_C S (d + 2) 123 [.ref 62, .int (zI (k : Int))] M (some (.int (zI (k_last W H (kc k) : Int)))) M := by
  obtain ⟨⟨h1, h2, h3, h4, h5⟩, ⟨w1, w2, w3⟩, ⟨⟨hW1, hW2⟩, ⟨hH1, hH2⟩, ⟨hL1, hL2⟩, hn⟩, ⟨a1, a2, a3, a4⟩, hok⟩ := id h
  have hC := p_WH hW2 hH2
  have eC : (W : Int) * (H : Int) = ((W * H : Nat) : Int) := (Int.natCast_mul W H).symm
  have hkk := hok k hk
  obtain ⟨p1, p2, p3, p4⟩ := id hkk
  refine c_of rfl rfl (Nat.le_of_ble_eq_true rfl) ?_
  refine g_al rfl rfl ?_
  refine g_gf rfl h1 rfl rfl ?_
  refine g_ic rfl ?_
  refine g_il rfl rfl ?_
  refine g_addI rfl ?_
  refine g_iaI rfl (by decide) h5 (by omega) (by omega) (by omega) ?_
  rw [show (3 + (k : Int)).toNat = 0 + 3 + k by omega, (a4 k hk).1]
  refine g_is2 rfl rfl ?_
  refine g_ic rfl ?_
  refine g_is3 rfl rfl ?_
  exact m_lastCell_l h hk (kc k).2.1 0 (kc k).1 (by omega) rfl
theorem m_onChains_i (h : m_Y M tr v wd hd ld nw W H L hs lot n kc) {k : Nat} (hk : k < n) {r : Option Value} {M' : ZM} (x : Int32) (hx : ∀ (c i : Int32), z_G S (d + 2) 124 68 [some (.ref 62), some (.int (x ||| q_msk W H (kc k).1 (kc k).2.2 (kc k).2.1)), some (.int (zI (k : Int))), some (.int c), some (.int i)] [] M r M') : ∀ (m i c : Nat), i + m = (kc k).2.1 → q_pos W H (kc k).1 (kc k).2.2 i = some c → z_G S (d + 2) 124 32 [some (.ref 62), some (.int (x ||| q_msk W H (kc k).1 (kc k).2.2 i)), some (.int (zI (k : Int))), some (.int (zI (c : Int))), some (.int (zI (i : Int)))] [] M r M' := by
  obtain ⟨⟨h1, h2, h3, h4, h5⟩, ⟨w1, w2, w3⟩, ⟨⟨hW1, hW2⟩, ⟨hH1, hH2⟩, ⟨hL1, hL2⟩, hn⟩, ⟨a1, a2, a3, a4⟩, hok⟩ := id h
  have hC := p_WH hW2 hH2
  have eC : (W : Int) * (H : Int) = ((W * H : Nat) : Int) := (Int.natCast_mul W H).symm
  have hkk := hok k hk
  obtain ⟨p1, p2, p3, p4⟩ := id hkk
  intro m
  induction m with
  | zero =>
    intro i c hi hc
    refine g_il rfl rfl ?_
    refine g_al rfl rfl ?_
    refine g_il rfl rfl ?_
    refine g_cv1 rfl rfl h1 rfl (by decide) rfl (m_steps h hk) ?_
    refine g_icT rfl (zcT3 ⟨by omega, by omega⟩ ⟨by omega, by omega⟩ (by omega)) ?_
    rw [show i = (kc k).2.1 by omega]
    exact hx _ _
  | succ m ih =>
    intro i c hi hc
    refine g_il rfl rfl ?_
    refine g_al rfl rfl ?_
    refine g_il rfl rfl ?_
    refine g_cv1 rfl rfl h1 rfl (by decide) rfl (m_steps h hk) ?_
    refine g_icF rfl (zcF3 ⟨by omega, by omega⟩ ⟨by omega, by omega⟩ (by omega)) ?_
    refine g_al rfl rfl ?_
    refine g_ic rfl ?_
    refine g_il rfl rfl ?_
    refine g_al rfl rfl ?_
    refine g_il rfl rfl ?_
    refine g_il rfl rfl ?_
    refine g_cv2 rfl rfl h1 rfl (by decide) rfl (m_stepIn h hk (j := i) (by omega)) ?_
    have hcl := q_lt p1 i c hc
    refine g_cv3 rfl rfl h1 rfl (by decide) rfl (m_off (e := 0) ⟨h1, h2, h3, h4, h5⟩ hW1 hW2 hH1 hH2 (by omega) w1 w2 hcl (p3 i (by omega))) ?_
    obtain ⟨c2, g1, g2⟩ := p4 (i + 1) (by omega)
    have g3 : p_off W H c ((kc k).2.2 i) = some c2 := by
      have : (match q_pos W H (kc k).1 (kc k).2.2 i with | some c => p_off W H c ((kc k).2.2 i) | none => none) = some c2 := g1
      rw [hc] at this
      exact this
    rw [g3]
    refine g_is3 rfl rfl ?_
    refine g_il rfl rfl ?_
    refine g_ic rfl ?_
    refine g_il rfl rfl ?_
    refine g_ishl rfl ?_
    refine g_ior rfl ?_
    refine g_is1 rfl rfl ?_
    refine g_jj4 rfl rfl ?_
    refine g_goto rfl ?_
    have e9 := ih (i + 1) c2 (by omega) g1
    rw [show q_msk W H (kc k).1 (kc k).2.2 (i + 1) = q_msk W H (kc k).1 (kc k).2.2 i ||| (zI 1 <<< (zI (c2 : Int) &&& 31)) by show q_msk W H (kc k).1 (kc k).2.2 i ||| (zI 1 <<< (zI (oI (q_pos W H (kc k).1 (kc k).2.2 (i + 1)) 0) &&& 31)) = _; rw [g1]; rfl, ← Int32.or_assoc] at e9
    exact e9
theorem m_onChains_l (h : m_Y M tr v wd hd ld nw W H L hs lot n kc) : ∀ (m k : Nat) (u1 u2 : Option Value), k + m = n → z_G S (d + 2) 124 4 [some (.ref 62), some (.int (p_trod (fun k => q_msk W H (kc k).1 (kc k).2.2 (kc k).2.1) k)), some (.int (zI (k : Int))), u1, u2] [] M (some (.int (p_trod (fun k => q_msk W H (kc k).1 (kc k).2.2 (kc k).2.1) n))) M := by
  obtain ⟨⟨h1, h2, h3, h4, h5⟩, ⟨w1, w2, w3⟩, ⟨⟨hW1, hW2⟩, ⟨hH1, hH2⟩, ⟨hL1, hL2⟩, hn⟩, ⟨a1, a2, a3, a4⟩, hok⟩ := id h
  have hC := p_WH hW2 hH2
  have eC : (W : Int) * (H : Int) = ((W * H : Nat) : Int) := (Int.natCast_mul W H).symm
  intro m
  induction m with
  | zero =>
    intro k u1 u2 hk0
    refine g_il rfl rfl ?_
    refine g_al rfl rfl ?_
    refine g_gf rfl h1 rfl rfl ?_
    refine g_ic rfl ?_
    refine g_iaI rfl (by decide) h5 (by omega) (by omega) (by omega) ?_
    rw [show nw (Int.toNat 1) = zI (n : Int) from a2]
    refine g_icT rfl (zcT3 ⟨by omega, by omega⟩ ⟨by omega, by omega⟩ (by omega)) ?_
    refine g_il rfl rfl ?_
    exact g_reti rfl (by rw [show k = n by omega]) rfl
  | succ m ih =>
    intro k u1 u2 hk0
    refine g_il rfl rfl ?_
    refine g_al rfl rfl ?_
    refine g_gf rfl h1 rfl rfl ?_
    refine g_ic rfl ?_
    refine g_iaI rfl (by decide) h5 (by omega) (by omega) (by omega) ?_
    rw [show nw (Int.toNat 1) = zI (n : Int) from a2]
    refine g_icF rfl (zcF3 ⟨by omega, by omega⟩ ⟨by omega, by omega⟩ (by omega)) ?_
    refine g_al rfl rfl ?_
    refine g_gf rfl h1 rfl rfl ?_
    refine g_ic rfl ?_
    refine g_il rfl rfl ?_
    refine g_addI rfl ?_
    refine g_iaI rfl (by decide) h5 (by omega) (by omega) (by omega) ?_
    have hk : k < n := by omega
    have p1 := (hok k hk).1
    rw [show (3 + (k : Int)).toNat = 0 + 3 + k by omega, (a4 k hk).1]
    refine g_is3 rfl rfl ?_
    refine g_il rfl rfl ?_
    refine g_ic rfl ?_
    refine g_il rfl rfl ?_
    refine g_ishl rfl ?_
    refine g_ior rfl ?_
    refine g_is1 rfl rfl ?_
    refine g_ic rfl ?_
    refine g_is4 rfl rfl ?_
    refine m_onChains_i h hk (p_trod (fun k => q_msk W H (kc k).1 (kc k).2.2 (kc k).2.1) k) (fun c i => ?_) (kc k).2.1 0 (kc k).1 (by omega) rfl
    refine g_jj2 rfl rfl ?_
    refine g_goto rfl ?_
    exact ih (k + 1) (some (.int c)) (some (.int i)) (by omega)
theorem m_onChains (h : m_Y M tr v wd hd ld nw W H L hs lot n kc) : z_C S (d + 2) 124 [.ref 62] M (some (.int (p_trod (fun k => q_msk W H (kc k).1 (kc k).2.2 (kc k).2.1) n))) M := by
  obtain ⟨⟨h1, h2, h3, h4, h5⟩, ⟨w1, w2, w3⟩, ⟨⟨hW1, hW2⟩, ⟨hH1, hH2⟩, ⟨hL1, hL2⟩, hn⟩, ⟨a1, a2, a3, a4⟩, hok⟩ := id h
  have hC := p_WH hW2 hH2
  have eC : (W : Int) * (H : Int) = ((W * H : Nat) : Int) := (Int.natCast_mul W H).symm
  refine c_of rfl rfl (Nat.le_of_ble_eq_true rfl) ?_
  refine g_ic rfl ?_
  refine g_is1 rfl rfl ?_
  refine g_ic rfl ?_
  refine g_is2 rfl rfl ?_
  exact m_onChains_l h n 0 none none (by omega)
theorem m_runAt_l (h : m_Y M tr v wd hd ld nw W H L hs lot n kc) {k : Nat} (hk : k < n) {i : Nat} (hi : i < (kc k).2.1) : ∀ (j t : Nat), t + j = i + 1 → z_G S (d + 1) 126 2 [some (.ref 62), some (.int (zI (k : Int))), some (.int (zI (i : Int))), some (.int (zI (t : Int)))] [] M (some (.int (zI ((t + p_back (kc k).2.2 ((kc k).2.2 i) j : Nat) : Int)))) M := by
  obtain ⟨⟨h1, h2, h3, h4, h5⟩, ⟨w1, w2, w3⟩, ⟨⟨hW1, hW2⟩, ⟨hH1, hH2⟩, ⟨hL1, hL2⟩, hn⟩, ⟨a1, a2, a3, a4⟩, hok⟩ := id h
  have hC := p_WH hW2 hH2
  have eC : (W : Int) * (H : Int) = ((W * H : Nat) : Int) := (Int.natCast_mul W H).symm
  have hkk := hok k hk
  obtain ⟨p1, p2, p3, p4⟩ := id hkk
  intro j
  induction j with
  | zero =>
    intro t ht
    refine g_il rfl rfl ?_
    refine g_il rfl rfl ?_
    refine g_icT rfl (zcT4 ⟨by omega, by omega⟩ ⟨by omega, by omega⟩ (by omega)) ?_
    refine g_il rfl rfl ?_
    exact g_reti rfl (by rw [show p_back (kc k).2.2 ((kc k).2.2 i) 0 = 0 from rfl, Nat.add_zero]) rfl
  | succ j ih =>
    intro t ht
    refine g_il rfl rfl ?_
    refine g_il rfl rfl ?_
    refine g_icF rfl (zcF4 ⟨by omega, by omega⟩ ⟨by omega, by omega⟩ (by omega)) ?_
    refine g_al rfl rfl ?_
    refine g_il rfl rfl ?_
    refine g_il rfl rfl ?_
    refine g_il rfl rfl ?_
    refine g_subI rfl ?_
    rw [show (i : Int) - (t : Int) = (j : Int) by omega]
    refine g_cv2 rfl rfl h1 rfl (by decide) rfl (m_stepIn h hk (j := j) (by omega)) ?_
    refine g_al rfl rfl ?_
    refine g_il rfl rfl ?_
    refine g_il rfl rfl ?_
    refine g_cv2 rfl rfl h1 rfl (by decide) rfl (m_stepIn h hk (j := i) hi) ?_
    have e1 := p3 j (by omega)
    have e2 := p3 i hi
    by_cases he : (kc k).2.2 j = (kc k).2.2 i
    · refine g_icF rfl (zcF1 (he)) ?_
      refine g_jj3 rfl rfl ?_
      refine g_goto rfl ?_
      have e3 := ih (t + 1) (by omega)
      have e4 : p_back (kc k).2.2 ((kc k).2.2 i) (j + 1) = p_back (kc k).2.2 ((kc k).2.2 i) j + 1 := by
        conv => lhs; unfold p_back
        exact if_pos he
      rw [e4, show t + (p_back (kc k).2.2 ((kc k).2.2 i) j + 1) = t + 1 + p_back (kc k).2.2 ((kc k).2.2 i) j by omega]
      exact e3
    · refine g_icT rfl (zcT1 ⟨by omega, by omega⟩ ⟨by omega, by omega⟩ (he)) ?_
      refine g_il rfl rfl ?_
      have e4 : p_back (kc k).2.2 ((kc k).2.2 i) (j + 1) = 0 := by
        conv => lhs; unfold p_back
        exact if_neg he
      rw [e4, Nat.add_zero]
      exact g_reti rfl (rfl) rfl
theorem m_runAt (h : m_Y M tr v wd hd ld nw W H L hs lot n kc) {k : Nat} (hk : k < n) {i : Nat} (hi : i < (kc k).2.1) : z_C S (d + 1) 126 [.ref 62, .int (zI (k : Int)), .int (zI (i : Int))] M (some (.int (zI (p_run (kc k).2.2 i : Int)))) M := by
  obtain ⟨⟨h1, h2, h3, h4, h5⟩, ⟨w1, w2, w3⟩, ⟨⟨hW1, hW2⟩, ⟨hH1, hH2⟩, ⟨hL1, hL2⟩, hn⟩, ⟨a1, a2, a3, a4⟩, hok⟩ := id h
  have hC := p_WH hW2 hH2
  have eC : (W : Int) * (H : Int) = ((W * H : Nat) : Int) := (Int.natCast_mul W H).symm
  have hkk := hok k hk
  obtain ⟨p1, p2, p3, p4⟩ := id hkk
  refine c_of rfl rfl (Nat.le_of_ble_eq_true rfl) ?_
  refine g_ic rfl ?_
  refine g_is3 rfl rfl ?_
  have e1 := m_runAt_l (S := S) (d := d) h hk hi i 1 (by omega)
  rw [show 1 + p_back (kc k).2.2 ((kc k).2.2 i) i = p_run (kc k).2.2 i by unfold p_run; omega] at e1
  exact e1
theorem m_longest_l (h : m_Y M tr v wd hd ld nw W H L hs lot n kc) {k : Nat} (hk : k < n) : ∀ (m i : Nat), i + m = (kc k).2.1 → z_G S (d + 2) 127 4 [some (.ref 62), some (.int (zI (k : Int))), some (.int (zI (p_long (kc k).2.2 i : Int))), some (.int (zI (i : Int)))] [] M (some (.int (zI (p_long (kc k).2.2 (kc k).2.1 : Int)))) M := by
  obtain ⟨⟨h1, h2, h3, h4, h5⟩, ⟨w1, w2, w3⟩, ⟨⟨hW1, hW2⟩, ⟨hH1, hH2⟩, ⟨hL1, hL2⟩, hn⟩, ⟨a1, a2, a3, a4⟩, hok⟩ := id h
  have hC := p_WH hW2 hH2
  have eC : (W : Int) * (H : Int) = ((W * H : Nat) : Int) := (Int.natCast_mul W H).symm
  have hkk := hok k hk
  obtain ⟨p1, p2, p3, p4⟩ := id hkk
  intro m
  induction m with
  | zero =>
    intro i hi
    refine g_il rfl rfl ?_
    refine g_al rfl rfl ?_
    refine g_il rfl rfl ?_
    refine g_cv1 rfl rfl h1 rfl (by decide) rfl (m_steps h hk) ?_
    refine g_icT rfl (zcT3 ⟨by omega, by omega⟩ ⟨by omega, by omega⟩ (by omega)) ?_
    refine g_il rfl rfl ?_
    exact g_reti rfl (by rw [show i = (kc k).2.1 by omega]) rfl
  | succ m ih =>
    intro i hi
    refine g_il rfl rfl ?_
    refine g_al rfl rfl ?_
    refine g_il rfl rfl ?_
    refine g_cv1 rfl rfl h1 rfl (by decide) rfl (m_steps h hk) ?_
    refine g_icF rfl (zcF3 ⟨by omega, by omega⟩ ⟨by omega, by omega⟩ (by omega)) ?_
    refine g_al rfl rfl ?_
    refine g_il rfl rfl ?_
    refine g_il rfl rfl ?_
    refine g_cv2 rfl rfl h1 rfl (by decide) rfl (m_runAt h hk (i := i) (by omega)) ?_
    refine g_il rfl rfl ?_
    have e4 := p_run_le (kc k).2.2 i
    have e5 := p_long_le (kc k).2.2 i
    have e3 := ih (i + 1) (by omega)
    have e6 : p_long (kc k).2.2 (i + 1) = max (p_long (kc k).2.2 i) (p_run (kc k).2.2 i) := rfl
    by_cases hg : p_long (kc k).2.2 i < p_run (kc k).2.2 i
    · refine g_icF rfl (zcF5 ⟨by omega, by omega⟩ ⟨by omega, by omega⟩ (by omega)) ?_
      refine g_al rfl rfl ?_
      refine g_il rfl rfl ?_
      refine g_il rfl rfl ?_
      refine g_cv2 rfl rfl h1 rfl (by decide) rfl (m_runAt h hk (i := i) (by omega)) ?_
      refine g_goto rfl ?_
      refine g_is2 rfl rfl ?_
      refine g_jj3 rfl rfl ?_
      refine g_goto rfl ?_
      rw [show p_long (kc k).2.2 (i + 1) = p_run (kc k).2.2 i by omega] at e3
      exact e3
    · refine g_icT rfl (zcT5 ⟨by omega, by omega⟩ ⟨by omega, by omega⟩ (by omega)) ?_
      refine g_il rfl rfl ?_
      refine g_is2 rfl rfl ?_
      refine g_jj3 rfl rfl ?_
      refine g_goto rfl ?_
      rw [show p_long (kc k).2.2 (i + 1) = p_long (kc k).2.2 i by omega] at e3
      exact e3
theorem m_longest (h : m_Y M tr v wd hd ld nw W H L hs lot n kc) {k : Nat} (hk : k < n) : z_C S (d + 2) 127 [.ref 62, .int (zI (k : Int))] M (some (.int (zI (p_long (kc k).2.2 (kc k).2.1 : Int)))) M := by
  obtain ⟨⟨h1, h2, h3, h4, h5⟩, ⟨w1, w2, w3⟩, ⟨⟨hW1, hW2⟩, ⟨hH1, hH2⟩, ⟨hL1, hL2⟩, hn⟩, ⟨a1, a2, a3, a4⟩, hok⟩ := id h
  have hC := p_WH hW2 hH2
  have eC : (W : Int) * (H : Int) = ((W * H : Nat) : Int) := (Int.natCast_mul W H).symm
  have hkk := hok k hk
  obtain ⟨p1, p2, p3, p4⟩ := id hkk
  refine c_of rfl rfl (Nat.le_of_ble_eq_true rfl) ?_
  refine g_ic rfl ?_
  refine g_is2 rfl rfl ?_
  refine g_ic rfl ?_
  refine g_is3 rfl rfl ?_
  exact m_longest_l h hk (kc k).2.1 0 (by omega)
theorem m_straightOf_l (h : m_Y M tr v wd hd ld nw W H L hs lot n kc) {k : Nat} (hk : k < n) : ∀ (m i : Nat), i + m = (kc k).2.1 → z_G S (d + 2) 130 2 [some (.ref 62), some (.int (zI (k : Int))), some (.int (zI (i : Int)))] [] M (some (.int (zI (p_strF (kc k).2.2 L (kc k).2.1 m i)))) M := by
  obtain ⟨⟨h1, h2, h3, h4, h5⟩, ⟨w1, w2, w3⟩, ⟨⟨hW1, hW2⟩, ⟨hH1, hH2⟩, ⟨hL1, hL2⟩, hn⟩, ⟨a1, a2, a3, a4⟩, hok⟩ := id h
  have hC := p_WH hW2 hH2
  have eC : (W : Int) * (H : Int) = ((W * H : Nat) : Int) := (Int.natCast_mul W H).symm
  have hkk := hok k hk
  obtain ⟨p1, p2, p3, p4⟩ := id hkk
  intro m
  induction m with
  | zero =>
    intro i hi
    refine g_il rfl rfl ?_
    refine g_al rfl rfl ?_
    refine g_il rfl rfl ?_
    refine g_cv1 rfl rfl h1 rfl (by decide) rfl (m_steps h hk) ?_
    refine g_icT rfl (zcT3 ⟨by omega, by omega⟩ ⟨by omega, by omega⟩ (by omega)) ?_
    refine g_ic rfl ?_
    exact g_reti rfl (rfl) rfl
  | succ m ih =>
    intro i hi
    refine g_il rfl rfl ?_
    refine g_al rfl rfl ?_
    refine g_il rfl rfl ?_
    refine g_cv1 rfl rfl h1 rfl (by decide) rfl (m_steps h hk) ?_
    refine g_icF rfl (zcF3 ⟨by omega, by omega⟩ ⟨by omega, by omega⟩ (by omega)) ?_
    refine g_al rfl rfl ?_
    refine g_il rfl rfl ?_
    refine g_il rfl rfl ?_
    refine g_cv2 rfl rfl h1 rfl (by decide) rfl (m_runAt h hk (i := i) (by omega)) ?_
    refine g_al rfl rfl ?_
    refine g_gf rfl h1 rfl rfl ?_
    refine g_ic rfl ?_
    refine g_iaI rfl (by decide) h4 (by omega) (by omega) (by omega) ?_
    rw [show ld (Int.toNat 0) = zI (L : Int) from w3]
    have e4 := p_run_le (kc k).2.2 i
    by_cases hg : L < p_run (kc k).2.2 i
    · refine g_icF rfl (zcF5 ⟨by omega, by omega⟩ ⟨by omega, by omega⟩ (by omega)) ?_
      refine g_il rfl rfl ?_
      exact g_reti rfl (by rw [show p_strF (kc k).2.2 L (kc k).2.1 (m + 1) i = (i : Int) by conv => lhs; unfold p_strF; rw [if_pos (show i < (kc k).2.1 by omega), if_pos hg]]) rfl
    · refine g_icT rfl (zcT5 ⟨by omega, by omega⟩ ⟨by omega, by omega⟩ (by omega)) ?_
      refine g_jj2 rfl rfl ?_
      refine g_goto rfl ?_
      rw [show p_strF (kc k).2.2 L (kc k).2.1 (m + 1) i = p_strF (kc k).2.2 L (kc k).2.1 m (i + 1) by conv => lhs; unfold p_strF; rw [if_pos (show i < (kc k).2.1 by omega), if_neg hg]]
      exact ih (i + 1) (by omega)
theorem m_straightOf (h : m_Y M tr v wd hd ld nw W H L hs lot n kc) {k : Nat} (hk : k < n) : z_C S (d + 2) 130 [.ref 62, .int (zI (k : Int))] M (some (.int (zI (p_str (kc k).2.2 L (kc k).2.1)))) M := by
  obtain ⟨⟨h1, h2, h3, h4, h5⟩, ⟨w1, w2, w3⟩, ⟨⟨hW1, hW2⟩, ⟨hH1, hH2⟩, ⟨hL1, hL2⟩, hn⟩, ⟨a1, a2, a3, a4⟩, hok⟩ := id h
  have hC := p_WH hW2 hH2
  have eC : (W : Int) * (H : Int) = ((W * H : Nat) : Int) := (Int.natCast_mul W H).symm
  have hkk := hok k hk
  obtain ⟨p1, p2, p3, p4⟩ := id hkk
  refine c_of rfl rfl (Nat.le_of_ble_eq_true rfl) ?_
  refine g_ic rfl ?_
  refine g_is2 rfl rfl ?_
  exact m_straightOf_l h hk (kc k).2.1 0 (by omega)
theorem m_firstRun_l (h : m_Y M tr v wd hd ld nw W H L hs lot n kc) {k : Nat} (hk : k < n) : ∀ (m t : Nat), (kc k).2.1 + 1 ≤ m + t ∧ t ≤ (kc k).2.1 → z_G S (d + 1) 132 2 [some (.ref 62), some (.int (zI (k : Int))), some (.int (zI (t : Int)))] [] M (some (.int (zI (p_fr (kc k).2.2 (kc k).2.1 m t : Int)))) M := by
  obtain ⟨⟨h1, h2, h3, h4, h5⟩, ⟨w1, w2, w3⟩, ⟨⟨hW1, hW2⟩, ⟨hH1, hH2⟩, ⟨hL1, hL2⟩, hn⟩, ⟨a1, a2, a3, a4⟩, hok⟩ := id h
  have hC := p_WH hW2 hH2
  have eC : (W : Int) * (H : Int) = ((W * H : Nat) : Int) := (Int.natCast_mul W H).symm
  have hkk := hok k hk
  obtain ⟨p1, p2, p3, p4⟩ := id hkk
  intro m
  induction m with
  | zero => intro t ht; omega
  | succ m ih =>
    intro t ht
    refine g_il rfl rfl ?_
    refine g_al rfl rfl ?_
    refine g_il rfl rfl ?_
    refine g_cv1 rfl rfl h1 rfl (by decide) rfl (m_steps h hk) ?_
    by_cases hg : t < (kc k).2.1
    · refine g_icF rfl (zcF3 ⟨by omega, by omega⟩ ⟨by omega, by omega⟩ (by omega)) ?_
      refine g_al rfl rfl ?_
      refine g_il rfl rfl ?_
      refine g_il rfl rfl ?_
      refine g_cv2 rfl rfl h1 rfl (by decide) rfl (m_stepIn h hk (j := t) hg) ?_
      refine g_al rfl rfl ?_
      refine g_il rfl rfl ?_
      refine g_ic rfl ?_
      refine g_cv2 rfl rfl h1 rfl (by decide) rfl (m_stepIn h hk (j := 0) (by omega)) ?_
      have e1 := p3 t hg
      have e2 := p3 0 (by omega)
      by_cases he : (kc k).2.2 t = (kc k).2.2 0
      · refine g_icF rfl (zcF1 (he)) ?_
        refine g_jj2 rfl rfl ?_
        refine g_goto rfl ?_
        rw [show p_fr (kc k).2.2 (kc k).2.1 (m + 1) t = p_fr (kc k).2.2 (kc k).2.1 m (t + 1) by conv => lhs; unfold p_fr; rw [if_pos ⟨hg, he⟩]]
        exact ih (t + 1) (by omega)
      · refine g_icT rfl (zcT1 ⟨by omega, by omega⟩ ⟨by omega, by omega⟩ (he)) ?_
        refine g_il rfl rfl ?_
        exact g_reti rfl (by rw [show p_fr (kc k).2.2 (kc k).2.1 (m + 1) t = t by conv => lhs; unfold p_fr; rw [if_neg (fun g => he g.2)]]) rfl
    · refine g_icT rfl (zcT3 ⟨by omega, by omega⟩ ⟨by omega, by omega⟩ (by omega)) ?_
      refine g_il rfl rfl ?_
      exact g_reti rfl (by rw [show p_fr (kc k).2.2 (kc k).2.1 (m + 1) t = t by conv => lhs; unfold p_fr; rw [if_neg (fun g => hg g.1)]]) rfl
theorem m_firstRun (h : m_Y M tr v wd hd ld nw W H L hs lot n kc) {k : Nat} (hk : k < n) : z_C S (d + 1) 132 [.ref 62, .int (zI (k : Int))] M (some (.int (zI (p_first (kc k).2.2 (kc k).2.1 : Int)))) M := by
  obtain ⟨⟨h1, h2, h3, h4, h5⟩, ⟨w1, w2, w3⟩, ⟨⟨hW1, hW2⟩, ⟨hH1, hH2⟩, ⟨hL1, hL2⟩, hn⟩, ⟨a1, a2, a3, a4⟩, hok⟩ := id h
  have hC := p_WH hW2 hH2
  have eC : (W : Int) * (H : Int) = ((W * H : Nat) : Int) := (Int.natCast_mul W H).symm
  have hkk := hok k hk
  obtain ⟨p1, p2, p3, p4⟩ := id hkk
  refine c_of rfl rfl (Nat.le_of_ble_eq_true rfl) ?_
  refine g_ic rfl ?_
  refine g_is2 rfl rfl ?_
  exact m_firstRun_l h hk (kc k).2.1 1 (by omega)
theorem m_isJoint (h : m_Y M tr v wd hd ld nw W H L hs lot n kc) {k : Nat} (hk : k < n) {j : Nat} (hj : j < n) : z_C S (d + 3) 133 [.ref 62, .int (zI (k : Int)), .int (zI (j : Int))] M (some (.int (zI (if p_join (k_last W H (kc k) : Int) (kc k).2.2 (kc k).2.1 ((kc j).1 : Int) (kc j).2.2 (kc j).2.1 L = true then 1 else 0)))) M := by
  obtain ⟨⟨h1, h2, h3, h4, h5⟩, ⟨w1, w2, w3⟩, ⟨⟨hW1, hW2⟩, ⟨hH1, hH2⟩, ⟨hL1, hL2⟩, hn⟩, ⟨a1, a2, a3, a4⟩, hok⟩ := id h
  have hC := p_WH hW2 hH2
  have eC : (W : Int) * (H : Int) = ((W * H : Nat) : Int) := (Int.natCast_mul W H).symm
  have hkk := hok k hk
  obtain ⟨p1, p2, p3, p4⟩ := id hkk
  obtain ⟨r1, r2, r3, r4⟩ := hok j hj
  have hla : k_last W H (kc k) < W * H := by
    obtain ⟨c, g1, -⟩ := p4 (kc k).2.1 (Nat.le_refl _)
    unfold k_last
    rw [g1]
    exact q_lt p1 _ _ g1
  refine c_of rfl rfl (Nat.le_of_ble_eq_true rfl) ?_
  refine g_al rfl rfl ?_
  refine g_il rfl rfl ?_
  refine g_cv1 rfl rfl h1 rfl (by decide) rfl (m_steps h hk) ?_
  refine g_ic rfl ?_
  refine g_subI rfl ?_
  refine g_is3 rfl rfl ?_
  refine g_al rfl rfl ?_
  refine g_il rfl rfl ?_
  rw [show ((kc k).2.1 : Int) - 1 = (((kc k).2.1 - 1 : Nat) : Int) by omega]
  refine g_cv1 rfl rfl h1 rfl (by decide) rfl (m_lastCell h hk) ?_
  refine g_al rfl rfl ?_
  refine g_gf rfl h1 rfl rfl ?_
  refine g_ic rfl ?_
  refine g_il rfl rfl ?_
  refine g_addI rfl ?_
  refine g_iaI rfl (by decide) h5 (by omega) (by omega) (by omega) ?_
  rw [show (3 + (j : Int)).toNat = 0 + 3 + j by omega, (a4 j hj).1]
  by_cases g1 : (k_last W H (kc k) : Int) = ((kc j).1 : Int)
  · refine g_icF rfl (zcF1 (g1)) ?_
    refine g_al rfl rfl ?_
    refine g_il rfl rfl ?_
    refine g_il rfl rfl ?_
    refine g_cv2 rfl rfl h1 rfl (by decide) rfl (m_stepIn h hk (j := (kc k).2.1 - 1) (by omega)) ?_
    refine g_al rfl rfl ?_
    refine g_il rfl rfl ?_
    refine g_ic rfl ?_
    refine g_cv2 rfl rfl h1 rfl (by decide) rfl (m_stepIn h hj (j := 0) (by omega)) ?_
    have e1 := p3 ((kc k).2.1 - 1) (by omega)
    have e2 := r3 0 (by omega)
    by_cases g2 : (kc k).2.2 ((kc k).2.1 - 1) = (kc j).2.2 0
    · refine g_icF rfl (zcF1 (g2)) ?_
      refine g_al rfl rfl ?_
      refine g_il rfl rfl ?_
      refine g_il rfl rfl ?_
      refine g_cv2 rfl rfl h1 rfl (by decide) rfl (m_runAt h hk (i := (kc k).2.1 - 1) (by omega)) ?_
      refine g_al rfl rfl ?_
      refine g_il rfl rfl ?_
      refine g_cv1 rfl rfl h1 rfl (by decide) rfl (m_firstRun h hj) ?_
      refine g_addI rfl ?_
      refine g_al rfl rfl ?_
      refine g_gf rfl h1 rfl rfl ?_
      refine g_ic rfl ?_
      refine g_iaI rfl (by decide) h4 (by omega) (by omega) (by omega) ?_
      rw [show ld (Int.toNat 0) = zI (L : Int) from w3]
      have e3 := p_run_le (kc k).2.2 ((kc k).2.1 - 1)
      have e4 := p_fr_le (kc j).2.2 (kc j).2.1 (kc j).2.1 1
      have e5 : p_first (kc j).2.2 (kc j).2.1 ≤ 12 := by unfold p_first; omega
      by_cases g3 : L < p_run (kc k).2.2 ((kc k).2.1 - 1) + p_first (kc j).2.2 (kc j).2.1
      · refine g_icF rfl (zcF5 ⟨by omega, by omega⟩ ⟨by omega, by omega⟩ (by omega)) ?_
        refine g_ic rfl ?_
        refine g_goto rfl ?_
        exact g_reti rfl (by unfold p_join; rw [decide_eq_true g1, decide_eq_true g2, decide_eq_true g3]; rfl) rfl
      · refine g_icT rfl (zcT5 ⟨by omega, by omega⟩ ⟨by omega, by omega⟩ (by omega)) ?_
        refine g_ic rfl ?_
        exact g_reti rfl (by unfold p_join; rw [decide_eq_true g1, decide_eq_true g2, decide_eq_false g3]; rfl) rfl
    · refine g_icT rfl (zcT1 ⟨by omega, by omega⟩ ⟨by omega, by omega⟩ (g2)) ?_
      refine g_ic rfl ?_
      exact g_reti rfl (by unfold p_join; rw [decide_eq_true g1, decide_eq_false g2]; rfl) rfl
  · refine g_icT rfl (zcT1 ⟨by omega, by omega⟩ ⟨by omega, by omega⟩ (g1)) ?_
    refine g_ic rfl ?_
    exact g_reti rfl (by unfold p_join; rw [decide_eq_false g1]; rfl) rfl
theorem m_openNow (h : m_Y M tr v wd hd ld nw W H L hs lot n kc) : z_C S (d + 3) 142 [.ref 62] M (some (.int (p_open W H hs (p_trod (fun k => q_msk W H (kc k).1 (kc k).2.2 (kc k).2.1) n)))) M := by
  obtain ⟨⟨h1, h2, h3, h4, h5⟩, ⟨w1, w2, w3⟩, ⟨⟨hW1, hW2⟩, ⟨hH1, hH2⟩, ⟨hL1, hL2⟩, hn⟩, ⟨a1, a2, a3, a4⟩, hok⟩ := id h
  have hC := p_WH hW2 hH2
  have eC : (W : Int) * (H : Int) = ((W * H : Nat) : Int) := (Int.natCast_mul W H).symm
  refine c_of rfl rfl (Nat.le_of_ble_eq_true rfl) ?_
  refine g_ic rfl ?_
  refine g_al rfl rfl ?_
  refine g_cv0 rfl rfl h1 rfl (by decide) rfl (m_cells h) ?_
  refine g_ishl rfl ?_
  refine g_ic rfl ?_
  refine g_isub rfl ?_
  refine g_al rfl rfl ?_
  refine g_gf rfl h1 rfl rfl ?_
  refine g_ic rfl ?_
  refine g_iaI rfl (by decide) h5 (by omega) (by omega) (by omega) ?_
  rw [show nw (Int.toNat 0) = hs from a1]
  refine g_ic rfl ?_
  refine g_ixor rfl ?_
  refine g_iand rfl ?_
  refine g_al rfl rfl ?_
  refine g_cv0 rfl rfl h1 rfl (by decide) rfl (m_onChains h) ?_
  refine g_ic rfl ?_
  refine g_ixor rfl ?_
  refine g_iand rfl ?_
  exact g_reti rfl (rfl) rfl
end MC
