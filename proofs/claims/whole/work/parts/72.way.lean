/-! WAY: the class's side -/
section WY
variable {S : ZS} {d : Nat} {M : ZM} {W H L n : Nat} {hs lot : Int32}
theorem c_fillI_l {A N : Nat} (hN : N ≤ 10000) {x : Int32} : ∀ (m i : Nat) (M1 : ZM), i + m = N → (z_ev M M1 (fun k => k = A) ∧ ∃ f, M1[A]? = some (zA N f) ∧ ∀ j, j < i → f j = x) → z_R S d 167 5 [some (.ref A), some (.int x), some (.int (zI (i : Int))), some (.int (zI (N : Int)))] [] M1 (fun r M2 => r = none ∧ z_ev M M2 (fun k => k = A) ∧ ∃ f, M2[A]? = some (zA N f) ∧ ∀ j, j < N → f j = x) := by
  intro m
  induction m with
  | zero =>
    intro i M1 hi hI
    obtain ⟨he, f, hf, hx⟩ := hI
    refine r_il rfl rfl ?_
    refine r_il rfl rfl ?_
    refine r_icT rfl (zcT3 ⟨by omega, by omega⟩ ⟨by omega, by omega⟩ (by omega)) ?_
    refine r_retv rfl rfl ?_
    exact ⟨rfl, he, f, hf, fun j hj => hx j (by omega)⟩
  | succ m ih =>
    intro i M1 hi hI
    obtain ⟨he, f, hf, hx⟩ := hI
    refine r_il rfl rfl ?_
    refine r_il rfl rfl ?_
    refine r_icF rfl (zcF3 ⟨by omega, by omega⟩ ⟨by omega, by omega⟩ (by omega)) ?_
    refine r_al rfl rfl ?_
    refine r_il rfl rfl ?_
    refine r_il rfl rfl ?_
    refine r_iSI rfl hf (by omega) (by omega) (by omega) ?_
    refine r_jj2 rfl rfl ?_
    refine r_goto rfl ?_
    refine ih (i + 1) _ (by omega) ⟨he.tr (.set rfl), _, z_gs hf, fun j hj => ?_⟩
    rw [Int.toNat_natCast]
    by_cases e : j = i
    · subst e
      exact pk_us
    · rw [pk_un e]
      exact hx j (by omega)
theorem c_fillI {A N : Nat} {f : Nat → Int32} (h9 : ¬ A = 1000) (hN : N ≤ 10000) (hA : M[A]? = some (zA N f)) {x : Int32} : ∃ M', z_C S d 167 [.ref A, .int x] M none M' ∧ z_ev M M' (fun k => k = A) ∧ ∃ f, M'[A]? = some (zA N f) ∧ ∀ j, j < N → f j = x := by
  refine k_an ?_
  refine k_of rfl rfl (Nat.le_of_ble_eq_true rfl) ?_
  refine r_ic rfl ?_
  refine r_is2 rfl rfl ?_
  refine r_al rfl rfl ?_
  refine r_len0 rfl h9 hA ?_
  refine r_is3 rfl rfl ?_
  exact c_fillI_l hN N 0 M (by omega) ⟨.rf, f, hA, fun j hj => by omega⟩
set_option maxRecDepth 20000 in
theorem c_fillRow_l {i1 i2 : Int32} (h25 : M[25]? = some (.inl (3, [.ref 26, .int i1, .int i2, .ref 27, .ref 28, .ref 29, .ref 30, .ref 31, .ref 32]))) {F : Nat → Int32} (h28 : M[28]? = some (zA 325 F)) {N : Nat} (hN : N ≤ 60) {g sv : Nat → Nat} (hg : ∀ i, i < N → g (i + 1) < 325 ∧ F (g (i + 1)) = zI (g i : Int) ∧ 1 ≤ g (i + 1) % 13 ∧ (g (i + 1) % 13 - 1) / 3 = sv i) {e : Int} : ∀ (i : Nat) (M1 : ZM), i ≤ N → (z_ev M M1 (fun k => k = 26) ∧ ∃ rw, M1[26]? = some (zA 60 rw) ∧ ∀ j, i ≤ j → j < N → rw j = zI (sv j : Int)) → z_R S d 48 7 [some (.ref 25), some (.int (zI e)), some (.int (zI (N : Int))), some (.int (zI (g i : Int))), some (.int (zI ((i : Int) - 1)))] [] M1 (fun r M2 => r = none ∧ z_ev M M2 (fun k => k = 26) ∧ ∃ rw, M2[26]? = some (zA 60 rw) ∧ ∀ j, j < N → rw j = zI (sv j : Int)) := by
  intro i
  induction i with
  | zero =>
    intro M1 hi hI
    obtain ⟨he, rw, r1, r2⟩ := hI
    have l25 := (he.2 25 (by decide)).trans h25
    have l28 := (he.2 28 (by decide)).trans h28
    refine r_il rfl rfl ?_
    refine r_ifT rfl (zcT2 ⟨by omega, by omega⟩ ⟨by omega, by omega⟩ (by omega)) ?_
    refine r_retv rfl rfl ?_
    exact ⟨rfl, he, rw, r1, fun j hj => r2 j (by omega) hj⟩
  | succ i ih =>
    intro M1 hi hI
    obtain ⟨he, rw, r1, r2⟩ := hI
    have l25 := (he.2 25 (by decide)).trans h25
    have l28 := (he.2 28 (by decide)).trans h28
    obtain ⟨x1, x2, x3, x4⟩ := hg i (by omega)
    refine r_il rfl rfl ?_
    refine r_ifF rfl (zcF2 ⟨by omega, by omega⟩ ⟨by omega, by omega⟩ (by omega)) ?_
    refine r_il rfl rfl ?_
    refine r_ic rfl ?_
    refine r_icF rfl (zcF3 ⟨by omega, by omega⟩ ⟨by omega, by omega⟩ (by omega)) ?_
    refine r_il rfl rfl ?_
    refine r_ifF rfl (zcF2 ⟨by omega, by omega⟩ ⟨by omega, by omega⟩ (by omega)) ?_
    refine r_il rfl rfl ?_
    refine r_ic rfl ?_
    refine r_icF rfl (zcF3 ⟨by omega, by omega⟩ ⟨by omega, by omega⟩ (by omega)) ?_
    refine r_al rfl rfl ?_
    refine r_gf rfl l25 rfl rfl ?_
    refine r_il rfl rfl ?_
    refine r_il rfl rfl ?_
    refine r_ic rfl ?_
    refine r_remI rfl (⟨by omega, by omega⟩) (⟨by omega, by omega⟩) ?_
    refine r_ic rfl ?_
    refine r_subI rfl ?_
    refine r_ic rfl ?_
    refine r_divI rfl (⟨by omega, by omega⟩) (⟨by omega, by omega⟩) ?_
    rw [show ((g (i + 1) : Int) % 13 - 1) / 3 = (sv i : Int) by omega]
    refine r_iSI rfl r1 (by omega) (by omega) (by omega) ?_
    refine r_al rfl rfl ?_
    refine r_gf rfl (z_gn (by decide) l25) rfl rfl ?_
    refine r_il rfl rfl ?_
    refine r_iaI rfl (by decide) (z_gn (by decide) l28) (by omega) (by omega) (by omega) ?_
    rw [Int.toNat_natCast, x2]
    refine r_is3 rfl rfl ?_
    refine r_jj4 rfl rfl ?_
    refine r_goto rfl ?_
    rw [show ((i + 1 : Nat) : Int) - 1 + -1 = (i : Int) - 1 by omega]
    refine ih _ (by omega) ⟨he.tr (.set rfl), _, z_gs r1, fun j hj hj2 => ?_⟩
    rw [show (((i + 1 : Nat) : Int) - 1).toNat = i by omega]
    by_cases e : j = i
    · subst e
      exact pk_us
    · rw [pk_un e]
      exact r2 j (by omega) hj2
theorem c_fillRow {i1 i2 : Int32} (h25 : M[25]? = some (.inl (3, [.ref 26, .int i1, .int i2, .ref 27, .ref 28, .ref 29, .ref 30, .ref 31, .ref 32]))) {F : Nat → Int32} (h28 : M[28]? = some (zA 325 F)) {N : Nat} (hN : N ≤ 60) {g sv : Nat → Nat} (hg : ∀ i, i < N → g (i + 1) < 325 ∧ F (g (i + 1)) = zI (g i : Int) ∧ 1 ≤ g (i + 1) % 13 ∧ (g (i + 1) % 13 - 1) / 3 = sv i) {rw0 : Nat → Int32} (h26 : M[26]? = some (zA 60 rw0)) : ∃ M', z_C S d 48 [.ref 25, .int (zI (g N : Int)), .int (zI (N : Int))] M none M' ∧ z_ev M M' (fun k => k = 26) ∧ ∃ rw, M'[26]? = some (zA 60 rw) ∧ ∀ j, j < N → rw j = zI (sv j : Int) := by
  refine k_an ?_
  refine k_of rfl rfl (Nat.le_of_ble_eq_true rfl) ?_
  refine r_il rfl rfl ?_
  refine r_is3 rfl rfl ?_
  refine r_il rfl rfl ?_
  refine r_ic rfl ?_
  refine r_subI rfl ?_
  refine r_is4 rfl rfl ?_
  exact c_fillRow_l h25 h28 hN hg N M (Nat.le_refl N) ⟨.rf, rw0, h26, fun j h1 h2 => by omega⟩
theorem p_giv.row {b st : Nat} (g : p_giv W H L hs b n st) (h6 : n ≤ 60) : ∀ i, i < n → p_wg (p_aC W H L hs) b n st (i + 1) < 325 ∧ 1 ≤ p_wg (p_aC W H L hs) b n st (i + 1) % 13 ∧ (p_wg (p_aC W H L hs) b n st (i + 1) % 13 - 1) / 3 = p_ws (p_aC W H L hs) b (n - (i + 1)) (p_wg (p_aC W H L hs) b n st i) := by
  intro i hi
  obtain ⟨w1, w2, w3, w4, w5, w6⟩ := g.wg h6 hi
  have hC := g.1.2
  have hL := g.1.1
  have l := p_aC_lt w3 hL w1 w4
  obtain ⟨c, c1, c2, c3⟩ := p_aC_some w4
  generalize p_ws (p_aC W H L hs) b (n - (i + 1)) (p_wg (p_aC W H L hs) b n st i) = s at *
  generalize p_run3 (p_wg (p_aC W H L hs) b n st i) s = r at *
  rw [c3] at l ⊢
  have e : (13 * c + 1 + 3 * s + r) % 13 = 1 + 3 * s + r := by omega
  rw [e]
  omega
set_option maxRecDepth 20000 in
theorem c_shortest_d {a b : Nat} (hL0 : x_L M W H L hs) (hb9 : b < W * H) (hg : p_giv W H L hs b n (13 * a)) {rw0 : Nat → Int32} (r0 : M[26]? = some (zA 60 rw0)) {j hd le : Nat} (hj : j < 60) (hh : hd < le) (hx : ∀ (M1 : ZM) (tl : Nat) (x9 x10 : Option Value), (z_ev M M1 (fun k => k = 28 ∨ k = 29) ∧ ∃ f qu F G, M1[28]? = some (zA 325 F) ∧ M1[29]? = some (zA 325 G) ∧ (∀ p, p < 325 → F p = zI (oI (f p) (-1))) ∧ (∀ i, i < tl → G i = zI (qu i : Int)) ∧ p_Q W H L hs b n (13 * a) j (hd + 1) le tl 0 f qu) → z_R S (d + 3) 47 63 [some (.ref 25), some (.ref 1), some (.int (zI (a : Int))), some (.int (zI (b : Int))), some (.int (zI ((13 * a : Nat) : Int))), some (.int (zI ((hd + 1 : Nat) : Int))), some (.int (zI (tl : Int))), some (.int (zI ((j + 1 : Nat) : Int))), some (.int (zI (le : Int))), x9, x10] [] M1 (fun r M2 => r = some (.int (zI (if n ≤ 60 then (n : Int) else -9))) ∧ z_ev M M2 (fun k => k = 26 ∨ k = 28 ∨ k = 29) ∧ (∃ F, M2[28]? = some (zA 325 F)) ∧ (∃ G, M2[29]? = some (zA 325 G)) ∧ ∃ rw, M2[26]? = some (zA 60 rw) ∧ (n ≤ 60 → ∀ i, i < n → rw i = zI (p_ws (p_aC W H L hs) b (n - (i + 1)) (p_wg (p_aC W H L hs) b n (13 * a) i) : Int)))) : ∀ (m t : Nat) (M1 : ZM) (tl : Nat) (x10 : Option Value), t + m = 4 → (z_ev M M1 (fun k => k = 28 ∨ k = 29) ∧ ∃ f qu F G, M1[28]? = some (zA 325 F) ∧ M1[29]? = some (zA 325 G) ∧ (∀ p, p < 325 → F p = zI (oI (f p) (-1))) ∧ (∀ i, i < tl → G i = zI (qu i : Int)) ∧ p_Q W H L hs b n (13 * a) j hd le tl t f qu) → z_R S (d + 3) 47 73 [some (.ref 25), some (.ref 1), some (.int (zI (a : Int))), some (.int (zI (b : Int))), some (.int (zI ((13 * a : Nat) : Int))), some (.int (zI (hd : Int))), some (.int (zI (tl : Int))), some (.int (zI ((j + 1 : Nat) : Int))), some (.int (zI (le : Int))), some (.int (zI (t : Int))), x10] [] M1 (fun r M2 => r = some (.int (zI (if n ≤ 60 then (n : Int) else -9))) ∧ z_ev M M2 (fun k => k = 26 ∨ k = 28 ∨ k = 29) ∧ (∃ F, M2[28]? = some (zA 325 F)) ∧ (∃ G, M2[29]? = some (zA 325 G)) ∧ ∃ rw, M2[26]? = some (zA 60 rw) ∧ (n ≤ 60 → ∀ i, i < n → rw i = zI (p_ws (p_aC W H L hs) b (n - (i + 1)) (p_wg (p_aC W H L hs) b n (13 * a) i) : Int))) := by
  intro m
  induction m with
  | zero =>
    intro t M1 tl x10 ht9 hI
    obtain ⟨he, f, qu, F, G, c28, c29, hF, hG, hQ⟩ := hI
    have hL := hL0.ev he (by decide) (by decide)
    obtain ⟨l1, ⟨⟨hW1, hW2⟩, ⟨hH1, hH2⟩, hL1, hL2⟩, -⟩ := id hL
    have hC := p_WH hW2 hH2
    obtain ⟨⟨b1, b1', b1''⟩, b2, b3, b4, -⟩ := id hQ
    refine r_il rfl rfl ?_
    refine r_ic rfl ?_
    refine r_icT rfl (zcT3 ⟨by omega, by omega⟩ ⟨by omega, by omega⟩ (by omega)) ?_
    refine r_jj5 rfl rfl ?_
    refine r_goto rfl ?_
    obtain rfl : t = 4 := by omega
    exact hx M1 tl _ _ ⟨he, f, qu, F, G, c28, c29, hF, hG, hQ.next hg hh⟩
  | succ m ih =>
    intro t M1 tl x10 ht9 hI
    obtain ⟨he, f, qu, F, G, c28, c29, hF, hG, hQ⟩ := hI
    have hL := hL0.ev he (by decide) (by decide)
    obtain ⟨l1, ⟨⟨hW1, hW2⟩, ⟨hH1, hH2⟩, hL1, hL2⟩, -⟩ := id hL
    have hC := p_WH hW2 hH2
    obtain ⟨⟨b1, b1', b1''⟩, b2, b3, b4, -⟩ := id hQ
    obtain ⟨u1, u2, u3⟩ := b2 hd (by omega)
    refine r_il rfl rfl ?_
    refine r_ic rfl ?_
    refine r_icF rfl (zcF3 ⟨by omega, by omega⟩ ⟨by omega, by omega⟩ (by omega)) ?_
    refine r_al rfl rfl ?_
    refine r_al rfl rfl ?_
    refine r_gf rfl l1 rfl rfl ?_
    refine r_il rfl rfl ?_
    refine r_iaI rfl (by decide) c29 (by omega) (by omega) (by omega) ?_
    rw [Int.toNat_natCast, hG hd (by omega)]
    refine r_il rfl rfl ?_
    refine r_cv2 rfl rfl l1 rfl (by decide) rfl (c_after hL (p := qu hd) (s := t) u1 (by omega)) ?_
    refine r_is10 rfl rfl ?_
    refine r_il rfl rfl ?_
    rcases ha : p_aC W H L hs (qu hd) t with - | y
    · rw [show oI none (-1) = -1 from rfl]
      refine r_ifT rfl (zcT2 ⟨by omega, by omega⟩ ⟨by omega, by omega⟩ (by omega)) ?_
      refine r_jj9 rfl rfl ?_
      refine r_goto rfl ?_
      exact ih (t + 1) M1 tl _ (by omega) ⟨he, f, qu, F, G, c28, c29, hF, hG, hQ.skip hg (Or.inl ha)⟩
    · have hy := p_aC_lt (by omega) hL2 u1 ha
      rw [show oI (some y) (-1) = (y : Int) from rfl]
      refine r_ifF rfl (zcF2 ⟨by omega, by omega⟩ ⟨by omega, by omega⟩ (by omega)) ?_
      refine r_al rfl rfl ?_
      refine r_gf rfl l1 rfl rfl ?_
      refine r_il rfl rfl ?_
      refine r_iaI rfl (by decide) c28 (by omega) (by omega) (by omega) ?_
      rw [Int.toNat_natCast, hF y (by omega)]
      refine r_ic rfl ?_
      rcases hfy : f y with - | c
      · have ht := hQ.room hg hy hfy
        rw [show oI none (-1) = -1 from rfl]
        refine r_icF rfl (zcF1 (rfl)) ?_
        refine r_il rfl rfl ?_
        refine r_ic rfl ?_
        refine r_icT rfl (zcT2 ⟨by omega, by omega⟩ ⟨by omega, by omega⟩ (by omega)) ?_
        refine r_al rfl rfl ?_
        refine r_gf rfl l1 rfl rfl ?_
        refine r_il rfl rfl ?_
        refine r_al rfl rfl ?_
        refine r_gf rfl l1 rfl rfl ?_
        refine r_il rfl rfl ?_
        refine r_iaI rfl (by decide) c29 (by omega) (by omega) (by omega) ?_
        rw [Int.toNat_natCast, hG hd (by omega)]
        refine r_iSI rfl c28 (by omega) (by omega) (by omega) ?_
        refine r_il rfl rfl ?_
        refine r_ic rfl ?_
        refine r_divI rfl (⟨by omega, by omega⟩) (⟨by omega, by omega⟩) ?_
        refine r_il rfl rfl ?_
        have hF2 : ∀ p, p < 325 → (upd F (y : Int).toNat (zI (qu hd : Int))) p = zI (oI (p_upO f y (qu hd) p) (-1)) := fun p hp => by
          rw [Int.toNat_natCast]
          by_cases e : p = y
          · subst e
            rw [pk_us, p_upO_s]
            rfl
          · rw [pk_un e, p_upO_n e]
            exact hF p hp
        by_cases hgo : (y : Int) / 13 = (b : Int)
        · obtain ⟨en, eq, ep⟩ := hQ.goal hg (by omega) (by omega) hh ha hfy (by omega)
          have h6 : n ≤ 60 := by omega
          have e28 : z_ev M (M1.set 28 (zA 325 (upd F (y : Int).toNat (zI (qu hd : Int))))) (fun k => k = 28 ∨ k = 29) := he.tr (.set (Or.inl rfl))
          obtain ⟨M2, k2, e2, rw2, r3, r4⟩ := c_fillRow (S := S) (d := d + 2) (M := M1.set 28 (zA 325 (upd F (y : Int).toNat (zI (qu hd : Int))))) ((e28.2 25 (by decide)).trans hL0.1) (z_gs c28) h6 (g := p_wg (p_aC W H L hs) b n (13 * a)) (sv := fun i => p_ws (p_aC W H L hs) b (n - (i + 1)) (p_wg (p_aC W H L hs) b n (13 * a) i)) (fun i hi => by
            obtain ⟨v1, v2, v3⟩ := hg.row h6 i hi
            refine ⟨v1, ?_, v2, v3⟩
            rw [hF2 _ v1, ep i hi]
            rfl) ((e28.2 26 (by decide)).trans r0)
          rw [← eq, en] at k2
          refine r_icF rfl (zcF1 (hgo)) ?_
          refine r_al rfl rfl ?_
          refine r_il rfl rfl ?_
          refine r_il rfl rfl ?_
          refine r_cv2v rfl rfl (z_gn (by decide) l1) rfl (by decide) rfl (k2) ?_
          refine r_il rfl rfl ?_
          refine r_reti rfl rfl ?_
          refine ⟨by rw [if_pos h6, en], (e28.wk (fun k g => by omega)).tr (e2.wk (fun k g => by omega)), ⟨_, (e2.2 28 (by decide)).trans (z_gs c28)⟩, ⟨G, (e2.2 29 (by decide)).trans (z_gn (by decide) c29)⟩, rw2, r3, fun _ i hi => r4 i (by omega)⟩
        · refine r_icT rfl (zcT1 ⟨by omega, by omega⟩ ⟨by omega, by omega⟩ (hgo)) ?_
          refine r_al rfl rfl ?_
          refine r_gf rfl (z_gn (by decide) l1) rfl rfl ?_
          refine r_il rfl rfl ?_
          refine r_il rfl rfl ?_
          refine r_iSI rfl (z_gn (by decide) c29) (by omega) (by omega) (by omega) ?_
          refine r_jj6 rfl rfl ?_
          refine r_jj9 rfl rfl ?_
          refine r_goto rfl ?_
          refine ih (t + 1) _ (tl + 1) _ (by omega) ⟨(he.tr (.set (Or.inl rfl))).tr (.set (Or.inr rfl)), _, _, _, _, z_gn (by decide) (z_gs c28), z_gs (z_gn (by decide) c29), hF2, fun i hi => ?_, hQ.push hg (by omega) hh ha hfy (by omega)⟩
          rw [Int.toNat_natCast]
          by_cases e : i = tl
          · subst e
            rw [pk_us, p_upN_s]
          · rw [pk_un e, p_upN_n e]
            exact hG i (by omega)
      · have hc9 := b4 y c hfy
        rw [show oI (some c) (-1) = (c : Int) from rfl]
        refine r_icT rfl (zcT1 ⟨by omega, by omega⟩ ⟨by omega, by omega⟩ (by omega)) ?_
        refine r_jj9 rfl rfl ?_
        refine r_goto rfl ?_
        exact ih (t + 1) M1 tl _ (by omega) ⟨he, f, qu, F, G, c28, c29, hF, hG, hQ.skip hg (Or.inr ⟨y, ha, by rw [hfy]; rfl⟩)⟩
set_option maxRecDepth 20000 in
theorem c_shortest_h {a b : Nat} (hL0 : x_L M W H L hs) (hb9 : b < W * H) (hg : p_giv W H L hs b n (13 * a)) {rw0 : Nat → Int32} (r0 : M[26]? = some (zA 60 rw0)) {j le : Nat} (hj : j < 60) (hx : ∀ (M1 : ZM) (tl : Nat) (x8 x9 x10 : Option Value), (z_ev M M1 (fun k => k = 28 ∨ k = 29) ∧ ∃ f qu F G, M1[28]? = some (zA 325 F) ∧ M1[29]? = some (zA 325 G) ∧ (∀ p, p < 325 → F p = zI (oI (f p) (-1))) ∧ (∀ i, i < tl → G i = zI (qu i : Int)) ∧ p_Q W H L hs b n (13 * a) (j + 1) le tl tl 0 f qu) → z_R S (d + 3) 47 52 [some (.ref 25), some (.ref 1), some (.int (zI (a : Int))), some (.int (zI (b : Int))), some (.int (zI ((13 * a : Nat) : Int))), some (.int (zI (le : Int))), some (.int (zI (tl : Int))), some (.int (zI ((j + 1 + 1 : Nat) : Int))), x8, x9, x10] [] M1 (fun r M2 => r = some (.int (zI (if n ≤ 60 then (n : Int) else -9))) ∧ z_ev M M2 (fun k => k = 26 ∨ k = 28 ∨ k = 29) ∧ (∃ F, M2[28]? = some (zA 325 F)) ∧ (∃ G, M2[29]? = some (zA 325 G)) ∧ ∃ rw, M2[26]? = some (zA 60 rw) ∧ (n ≤ 60 → ∀ i, i < n → rw i = zI (p_ws (p_aC W H L hs) b (n - (i + 1)) (p_wg (p_aC W H L hs) b n (13 * a) i) : Int)))) : ∀ (m hd : Nat) (M1 : ZM) (tl : Nat) (x9 x10 : Option Value), hd + m = le → (z_ev M M1 (fun k => k = 28 ∨ k = 29) ∧ ∃ f qu F G, M1[28]? = some (zA 325 F) ∧ M1[29]? = some (zA 325 G) ∧ (∀ p, p < 325 → F p = zI (oI (f p) (-1))) ∧ (∀ i, i < tl → G i = zI (qu i : Int)) ∧ p_Q W H L hs b n (13 * a) j hd le tl 0 f qu) → z_R S (d + 3) 47 63 [some (.ref 25), some (.ref 1), some (.int (zI (a : Int))), some (.int (zI (b : Int))), some (.int (zI ((13 * a : Nat) : Int))), some (.int (zI (hd : Int))), some (.int (zI (tl : Int))), some (.int (zI ((j + 1 : Nat) : Int))), some (.int (zI (le : Int))), x9, x10] [] M1 (fun r M2 => r = some (.int (zI (if n ≤ 60 then (n : Int) else -9))) ∧ z_ev M M2 (fun k => k = 26 ∨ k = 28 ∨ k = 29) ∧ (∃ F, M2[28]? = some (zA 325 F)) ∧ (∃ G, M2[29]? = some (zA 325 G)) ∧ ∃ rw, M2[26]? = some (zA 60 rw) ∧ (n ≤ 60 → ∀ i, i < n → rw i = zI (p_ws (p_aC W H L hs) b (n - (i + 1)) (p_wg (p_aC W H L hs) b n (13 * a) i) : Int))) := by
  intro m
  induction m with
  | zero =>
    intro hd M1 tl x9 x10 hd9 hI
    obtain ⟨he, f, qu, F, G, c28, c29, hF, hG, hQ⟩ := hI
    have hL := hL0.ev he (by decide) (by decide)
    obtain ⟨l1, ⟨⟨hW1, hW2⟩, ⟨hH1, hH2⟩, hL1, hL2⟩, -⟩ := id hL
    have hC := p_WH hW2 hH2
    obtain ⟨⟨b1, b1', b1''⟩, b2, b3, b4, -⟩ := id hQ
    refine r_il rfl rfl ?_
    refine r_il rfl rfl ?_
    refine r_icT rfl (zcT3 ⟨by omega, by omega⟩ ⟨by omega, by omega⟩ (by omega)) ?_
    refine r_jj7 rfl rfl ?_
    refine r_goto rfl ?_
    obtain rfl : hd = le := by omega
    exact hx M1 tl _ _ _ ⟨he, f, qu, F, G, c28, c29, hF, hG, hQ.level⟩
  | succ m ih =>
    intro hd M1 tl x9 x10 hd9 hI
    obtain ⟨he, f, qu, F, G, c28, c29, hF, hG, hQ⟩ := hI
    have hL := hL0.ev he (by decide) (by decide)
    obtain ⟨l1, ⟨⟨hW1, hW2⟩, ⟨hH1, hH2⟩, hL1, hL2⟩, -⟩ := id hL
    have hC := p_WH hW2 hH2
    obtain ⟨⟨b1, b1', b1''⟩, b2, b3, b4, -⟩ := id hQ
    refine r_il rfl rfl ?_
    refine r_il rfl rfl ?_
    refine r_icF rfl (zcF3 ⟨by omega, by omega⟩ ⟨by omega, by omega⟩ (by omega)) ?_
    refine r_ic rfl ?_
    refine r_is9 rfl rfl ?_
    exact c_shortest_d hL0 hb9 hg r0 hj (show hd < le by omega) (fun M2 tl2 y9 y10 hI2 => ih (hd + 1) M2 tl2 y9 y10 (by omega) hI2) 4 0 M1 tl _ (by omega) ⟨he, f, qu, F, G, c28, c29, hF, hG, hQ⟩
set_option maxRecDepth 20000 in
theorem c_shortest_l {a b : Nat} (hL0 : x_L M W H L hs) (hb9 : b < W * H) (hg : p_giv W H L hs b n (13 * a)) {rw0 : Nat → Int32} (r0 : M[26]? = some (zA 60 rw0)) : ∀ (m j hd : Nat) (M1 : ZM) (tl : Nat) (x8 x9 x10 : Option Value), j + m = 60 → (z_ev M M1 (fun k => k = 28 ∨ k = 29) ∧ ∃ f qu F G, M1[28]? = some (zA 325 F) ∧ M1[29]? = some (zA 325 G) ∧ (∀ p, p < 325 → F p = zI (oI (f p) (-1))) ∧ (∀ i, i < tl → G i = zI (qu i : Int)) ∧ p_Q W H L hs b n (13 * a) j hd tl tl 0 f qu) → z_R S (d + 3) 47 52 [some (.ref 25), some (.ref 1), some (.int (zI (a : Int))), some (.int (zI (b : Int))), some (.int (zI ((13 * a : Nat) : Int))), some (.int (zI (hd : Int))), some (.int (zI (tl : Int))), some (.int (zI ((j + 1 : Nat) : Int))), x8, x9, x10] [] M1 (fun r M2 => r = some (.int (zI (if n ≤ 60 then (n : Int) else -9))) ∧ z_ev M M2 (fun k => k = 26 ∨ k = 28 ∨ k = 29) ∧ (∃ F, M2[28]? = some (zA 325 F)) ∧ (∃ G, M2[29]? = some (zA 325 G)) ∧ ∃ rw, M2[26]? = some (zA 60 rw) ∧ (n ≤ 60 → ∀ i, i < n → rw i = zI (p_ws (p_aC W H L hs) b (n - (i + 1)) (p_wg (p_aC W H L hs) b n (13 * a) i) : Int))) := by
  intro m
  induction m with
  | zero =>
    intro j hd M1 tl x8 x9 x10 hj9 hI
    obtain ⟨he, f, qu, F, G, c28, c29, hF, hG, hQ⟩ := hI
    have hL := hL0.ev he (by decide) (by decide)
    obtain ⟨l1, ⟨⟨hW1, hW2⟩, ⟨hH1, hH2⟩, hL1, hL2⟩, -⟩ := id hL
    have hC := p_WH hW2 hH2
    obtain ⟨⟨b1, b1', b1''⟩, b2, b3, b4, -⟩ := id hQ
    refine r_il rfl rfl ?_
    refine r_ic rfl ?_
    refine r_icT rfl (zcT4 ⟨by omega, by omega⟩ ⟨by omega, by omega⟩ (by omega)) ?_
    refine r_ic rfl ?_
    refine r_reti rfl rfl ?_
    have h6 : ¬ n ≤ 60 := fun g => by
      have := (hQ.2.2.2.2.2.2.2 g).1
      omega
    exact ⟨by rw [if_neg h6], he.wk (fun k g => by omega), ⟨F, c28⟩, ⟨G, c29⟩, rw0, (he.2 26 (by decide)).trans r0, fun g => absurd g h6⟩
  | succ m ih =>
    intro j hd M1 tl x8 x9 x10 hj9 hI
    obtain ⟨he, f, qu, F, G, c28, c29, hF, hG, hQ⟩ := hI
    have hL := hL0.ev he (by decide) (by decide)
    obtain ⟨l1, ⟨⟨hW1, hW2⟩, ⟨hH1, hH2⟩, hL1, hL2⟩, -⟩ := id hL
    have hC := p_WH hW2 hH2
    obtain ⟨⟨b1, b1', b1''⟩, b2, b3, b4, -⟩ := id hQ
    refine r_il rfl rfl ?_
    refine r_ic rfl ?_
    refine r_icF rfl (zcF4 ⟨by omega, by omega⟩ ⟨by omega, by omega⟩ (by omega)) ?_
    refine r_il rfl rfl ?_
    refine r_is8 rfl rfl ?_
    exact c_shortest_h hL0 hb9 hg r0 (j := j) (le := tl) (by omega) (fun M2 tl2 y8 y9 y10 hI2 => ih (j + 1) tl M2 tl2 y8 y9 y10 (by omega) hI2) (tl - hd) hd M1 tl _ _ (by omega) ⟨he, f, qu, F, G, c28, c29, hF, hG, hQ⟩
theorem c_shortest {nc a b : Nat} (hO : k_O M 1 W H L hs nc lot) (hW : x_W M) (ha : a < W * H) (hb : b < W * H) : ∃ M', z_C S (d + 4) 47 [.ref 25, .ref 1, .int (zI (a : Int)), .int (zI (b : Int))] M (some (.int (zI (if p_dst (p_aC W H L hs) b (13 * a) ≤ 60 then (p_dst (p_aC W H L hs) b (13 * a) : Int) else -9)))) M' ∧ z_ev M M' (fun k => 25 ≤ k ∧ k < 33) ∧ x_W M' ∧ ∃ rw, M'[26]? = some (zA 60 rw) ∧ (p_dst (p_aC W H L hs) b (13 * a) ≤ 60 → ∀ i, i < p_dst (p_aC W H L hs) b (13 * a) → rw i = zI (p_ws (p_aC W H L hs) b (p_dst (p_aC W H L hs) b (13 * a) - (i + 1)) (p_wg (p_aC W H L hs) b (p_dst (p_aC W H L hs) b (13 * a)) (13 * a) i) : Int)) := by
  obtain ⟨o1, ⟨hW1, hW2⟩, ⟨hH1, hH2⟩, ⟨hL1, hL2⟩, hn9⟩ := id hO
  have hC := p_WH hW2 hH2
  obtain ⟨⟨i1, i2, w1⟩, ⟨f26, v26⟩, ⟨f27, v27⟩, ⟨f28, v28⟩, ⟨f29, v29⟩, ⟨f30, v30⟩, ⟨f31, v31⟩, f32, v32⟩ := id hW
  refine k_an ?_
  refine k_of rfl rfl (Nat.le_of_ble_eq_true rfl) ?_
  refine r_il rfl rfl ?_
  refine r_il rfl rfl ?_
  by_cases hab : (a : Int) = (b : Int)
  · have hn0 : p_dst (p_aC W H L hs) b (13 * a) = 0 := by
      have := (p_dst_ok (p_aC W H L hs) b (13 * a)).2.2 0 (decide_eq_true (by omega))
      omega
    rw [hn0]
    refine r_icF rfl (zcF1 (hab)) ?_
    refine r_ic rfl ?_
    refine r_reti rfl rfl ?_
    exact ⟨rfl, .rf, hW, f26, v26, fun _ i hi => by omega⟩
  · obtain ⟨d1, d2, d3⟩ := p_dst_ok (p_aC W H L hs) b (13 * a)
    have hn1 : 1 ≤ p_dst (p_aC W H L hs) b (13 * a) := by
      rcases Nat.eq_zero_or_pos (p_dst (p_aC W H L hs) b (13 * a)) with e | e
      · have d2 := d2 (by omega)
        rw [e] at d2
        have := of_decide_eq_true d2
        omega
      · exact e
    have hg : p_giv W H L hs b (p_dst (p_aC W H L hs) b (13 * a)) (13 * a) := ⟨⟨hL2, hC⟩, by omega, Or.inl (by omega), hn1, d1, d2, d3⟩
    generalize p_dst (p_aC W H L hs) b (13 * a) = n at *
    obtain ⟨M1, k1, e1, hL⟩ := c_lookAt (S := S) (d := d) hO hW
    refine r_icT rfl (zcT1 ⟨by omega, by omega⟩ ⟨by omega, by omega⟩ (hab)) ?_
    refine r_al rfl rfl ?_
    refine r_al rfl rfl ?_
    refine r_cv1v rfl rfl w1 rfl (by decide) rfl (k1) ?_
    have w28 := (e1.2 28 (by decide)).trans v28
    have w29 := (e1.2 29 (by decide)).trans v29
    refine r_al rfl rfl ?_
    refine r_gf rfl hL.1 rfl rfl ?_
    refine r_ic rfl ?_
    obtain ⟨M2, k2, e2, f2, h2, q2⟩ := c_fillI (S := S) (d := d + 3) (x := zI (-1)) (show ¬ 28 = 1000 by decide) (by omega) w28
    refine r_cs2v rfl rfl rfl rfl (k2) ?_
    have w25 := (e2.2 25 (by decide)).trans hL.1
    have x29 := (e2.2 29 (by decide)).trans w29
    refine r_il rfl rfl ?_
    refine r_cs1 rfl rfl rfl rfl (c_startOn (c := a) (by omega)) ?_
    refine r_is4 rfl rfl ?_
    refine r_al rfl rfl ?_
    refine r_gf rfl w25 rfl rfl ?_
    refine r_il rfl rfl ?_
    refine r_il rfl rfl ?_
    refine r_iSI rfl h2 (by omega) (by omega) (by omega) ?_
    refine r_al rfl rfl ?_
    refine r_gf rfl (z_gn (by decide) w25) rfl rfl ?_
    refine r_ic rfl ?_
    refine r_il rfl rfl ?_
    refine r_iSI rfl (z_gn (by decide) x29) (by omega) (by omega) (by omega) ?_
    refine r_ic rfl ?_
    refine r_is5 rfl rfl ?_
    refine r_ic rfl ?_
    refine r_is6 rfl rfl ?_
    refine r_ic rfl ?_
    refine r_is7 rfl rfl ?_
    have e3 : z_ev M1 ((M2.set 28 (zA 325 (upd f2 (((13 * a : Nat) : Int)).toNat (zI ((13 * a : Nat) : Int))))).set 29 (zA 325 (upd f29 (0 : Int).toNat (zI ((13 * a : Nat) : Int))))) (fun k => k = 28 ∨ k = 29) := ((e2.wk (fun k g => Or.inl g)).tr (.set (Or.inl rfl))).tr (.set (Or.inr rfl))
    refine r_of (c_shortest_l (d := d + 1) (n := n) (hL.ev e3 (by decide) (by decide)) hb hg ((e3.2 26 (by decide)).trans ((e1.2 26 (by decide)).trans v26)) 60 0 0 _ 1 _ _ _ (by omega) ⟨.rf, _, _, _, _, z_gn (by decide) (z_gs h2), z_gs (z_gn (by decide) x29), fun p hp => ?_, fun i hi => ?_, p_Q.zero hg⟩) (fun r M' hq => ?_)
    · rw [Int.toNat_natCast]
      by_cases e : p = 13 * a
      · subst e
        rw [pk_us, p_upO_s]
        rfl
      · rw [pk_un e, p_upO_n e]
        exact q2 p hp
    · obtain rfl : i = 0 := by omega
      exact pk_us
    · obtain ⟨y1, y2, y3, y4, rw, y5, y6⟩ := hq
      obtain ⟨l1, l2, nb, l3, l4⟩ := hL
      have E : z_ev M1 M' (fun k => k = 26 ∨ k = 28 ∨ k = 29) := (e3.wk (fun k g => by omega)).tr y2
      exact ⟨y1, (e1.wk (fun k g => by omega)).tr (E.wk (fun k g => by omega)), ⟨⟨_, _, (E.2 25 (by decide)).trans l1⟩, ⟨rw, y5⟩, ⟨nb, (E.2 27 (by decide)).trans l3⟩, y3, y4, ⟨f30, (E.2 30 (by decide)).trans ((e1.2 30 (by decide)).trans v30)⟩, ⟨f31, (E.2 31 (by decide)).trans ((e1.2 31 (by decide)).trans v31)⟩, f32, (E.2 32 (by decide)).trans ((e1.2 32 (by decide)).trans v32)⟩, rw, y5, y6⟩
end WY
