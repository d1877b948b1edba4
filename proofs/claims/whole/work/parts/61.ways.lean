/-! WAYS: how many -/
def p_hv (h : Nat → Int64) (o : Option Nat) : Int64 := match o with
  | some q => h q
  | none => 0
def p_sum4 (a : Nat → Nat → Option Nat) (h : Nat → Int64) (p : Nat) : Nat → Int64
  | 0 => 0
  | s + 1 => p_sum4 a h p s + p_hv h (a p s)
/-- how many rows of n steps lead from p to the cell b -/
def p_cnt (a : Nat → Nat → Option Nat) (b : Nat) : Nat → Nat → Int64
  | 0, p => if p / 13 = b then 1 else 0
  | n + 1, p => p_sum4 a (p_cnt a b n) p 4
def p_dot (f g : Nat → Int64) : Nat → Int64
  | 0 => 0
  | n + 1 => p_dot f g n + f n * g n
theorem p_sum4_c {a a2 : Nat → Nat → Option Nat} {h h2 : Nat → Int64} {p : Nat} : ∀ n, (∀ s, s < n → p_hv h (a p s) = p_hv h2 (a2 p s)) → p_sum4 a h p n = p_sum4 a2 h2 p n := by
  intro n
  induction n with
  | zero => intro _; rfl
  | succ n ih =>
    intro g
    show p_sum4 a h p n + p_hv h (a p n) = p_sum4 a2 h2 p n + p_hv h2 (a2 p n)
    rw [ih (fun s hs => g s (by omega)), g n (by omega)]
theorem p_cnt_eq {W H L : Nat} {hs : Int32} {b : Nat} (hL : L ≤ 3) : ∀ n p, p_val L p → p_cnt (p_aR W H L hs) b n p = p_cnt (p_aC W H L hs) b n p := by
  intro n
  induction n with
  | zero => intro p _; rfl
  | succ n ih =>
    intro p hp
    refine p_sum4_c 4 (fun s hs4 => ?_)
    rw [p_a_eq hp]
    cases e : p_aC W H L hs p s with
    | none => rfl
    | some q => exact ih q (p_aC_val hs4 hL e)
theorem p_dot_upd {f g : Nat → Int64} {q : Nat} {x : Int64} : ∀ n, p_dot (vp_updL f q (f q + x)) g n = p_dot f g n + (if q < n then x * g q else 0) := by
  intro n
  induction n with
  | zero => show (0 : Int64) = 0 + _; rw [if_neg (by omega)]; rfl
  | succ n ih =>
    show p_dot (vp_updL f q (f q + x)) g n + vp_updL f q (f q + x) n * g n = p_dot f g n + f n * g n + _
    rw [ih]
    by_cases e : n = q
    · subst e
      rw [if_neg (by omega), if_pos (by omega), show vp_updL f n (f n + x) n = f n + x from if_pos rfl, Int64.add_mul, Int64.add_zero, Int64.add_assoc]
    · rw [show vp_updL f q (f q + x) n = f n from if_neg e]
      by_cases e2 : q < n
      · rw [if_pos e2, if_pos (by omega), Int64.add_assoc, Int64.add_assoc, Int64.add_comm (x * g q)]
      · rw [if_neg e2, if_neg (by omega), Int64.add_zero, Int64.add_zero]
theorem p_dot_0 {f g : Nat → Int64} : ∀ n, (∀ j, j < n → f j = 0) → p_dot f g n = 0 := by
  intro n
  induction n with
  | zero => intro _; rfl
  | succ n ih =>
    intro h
    show p_dot f g n + f n * g n = 0
    rw [ih (fun j hj => h j (by omega)), h n (by omega), Int64.zero_mul]
    rfl
def p_sumL (f : Nat → Int64) (b : Nat) : Nat → Int64
  | 0 => 0
  | k + 1 => p_sumL f b k + f (13 * b + k)
theorem p_dot_z {f g : Nat → Int64} {m : Nat} : ∀ k, (∀ j, m ≤ j → j < m + k → g j = 0) → p_dot f g (m + k) = p_dot f g m := by
  intro k
  induction k with
  | zero => intro _; rfl
  | succ k ih =>
    intro h
    show p_dot f g (m + k) + f (m + k) * g (m + k) = _
    rw [ih (fun j h1 h2 => h j h1 (by omega)), h (m + k) (by omega) (by omega), Int64.mul_zero, Int64.add_zero]
theorem p_dot_end {a : Nat → Nat → Option Nat} {f : Nat → Int64} {b C : Nat} (hb : b < C) : p_dot f (p_cnt a b 0) (13 * C) = p_sumL f b 13 := by
  have e1 : p_dot f (p_cnt a b 0) (13 * b) = 0 := by
    have := p_dot_z (f := f) (g := p_cnt a b 0) (m := 0) (13 * b) (fun j h1 h2 => if_neg (by omega))
    rw [Nat.zero_add] at this
    exact this
  have e2 : ∀ k, k ≤ 13 → p_dot f (p_cnt a b 0) (13 * b + k) = p_sumL f b k := by
    intro k
    induction k with
    | zero => intro _; exact e1
    | succ k ih =>
      intro hk
      show p_dot f (p_cnt a b 0) (13 * b + k) + f (13 * b + k) * p_cnt a b 0 (13 * b + k) = p_sumL f b k + f (13 * b + k)
      rw [ih (by omega), show p_cnt a b 0 (13 * b + k) = 1 from if_pos (by omega), Int64.mul_one]
  rw [← e2 13 (by omega), show 13 * C = 13 * b + 13 + (13 * C - 13 * b - 13) by omega]
  exact p_dot_z _ (fun j h1 h2 => if_neg (by omega))
theorem zl_T {x : Int64} (h : ¬ x = 0) : z_cc 1 (lg_cmp x (Int64.ofInt 0)) (zI 0) = true := by
  show (!decide (lg_cmp x 0 = 0)) = true
  rw [decide_eq_false (by rw [lg_cmp_eq]; exact h)]
  rfl
theorem zl_F {x : Int64} (h : x = 0) : z_cc 1 (lg_cmp x (Int64.ofInt 0)) (zI 0) = false := by
  show (!decide (lg_cmp x 0 = 0)) = false
  rw [decide_eq_true (by rw [lg_cmp_eq]; exact h)]
  rfl
theorem ul_s {f : Nat → Int64} {k : Nat} {x : Int64} : vp_updL f k x k = x := if_pos rfl
theorem ul_n {f : Nat → Int64} {k j : Nat} {x : Int64} (h : j ≠ k) : vp_updL f k x j = f j := if_neg h
abbrev zJ (n : Nat) (f : Nat → Int64) : ZE := .inr (3, n, .inr (.inl f))
theorem X_I.walk {M M' : ZM} {A : ZT} (e : z_ev M M' (fun k => 25 ≤ k ∧ k < 33)) (h : X_I M A) (hR : x_W M') : X_I M' A := by
  obtain ⟨h1, h2, h3, h4, h5, h6, ⟨r, h7⟩, h8⟩ := h
  exact ⟨by rw [e.1]; exact h1, (e.2 _ (by omega)).trans h2, h3.ev e (fun k g1 g2 => by omega), h4.ev e (fun k g1 g2 => by omega), hR, h6.ev e (fun k g1 g2 => by omega), ⟨r, h7.eqv e (by omega) (by omega)⟩, h8.ev e (fun k g1 g2 => by omega)⟩
theorem m_Y.ev {M M' : ZM} {P : Nat → Prop} {tr : Int64} {v wd hd ld nw : Nat → Int32} {W H L n : Nat} {hs lot : Int32} {kc : Nat → ZK} (e : z_ev M M' P) (h0 : ∀ k, 62 ≤ k → k < 68 → ¬ P k) (h : m_Y M tr v wd hd ld nw W H L hs lot n kc) : m_Y M' tr v wd hd ld nw W H L hs lot n kc := ⟨h.1.ev e h0, h.2⟩
theorem Y_I.rows {M M' : ZM} {A : ZT} (e : z_ev M M' (fun k => 69 ≤ k ∧ k < 78)) (h : Y_I M A) (hR : y_W M') : Y_I M' A := by
  obtain ⟨h1, v, wd, hd, ld, nw, ⟨h2, h2b⟩, h3, h4, ⟨g, h5, h5b⟩, ⟨kf, h6, h6b⟩, h7, h8⟩ := h
  exact ⟨by rw [e.1]; exact h1, v, wd, hd, ld, nw, ⟨h2.ev e (fun k g1 g2 => by omega), h2b⟩, h3, h4, ⟨g, (e.2 _ (by omega)).trans h5, h5b⟩, ⟨kf, (e.2 _ (by omega)).trans h6, h6b⟩, h7, hR⟩
section WA
variable {S : ZS} {d : Nat} {M : ZM} {W H L n : Nat} {hs lot : Int32}
theorem c_fillL_l {A N : Nat} (hN : N ≤ 10000) {x : Int64} : ∀ (m i : Nat) (M1 : ZM), i + m = N → (z_ev M M1 (fun k => k = A) ∧ ∃ f, M1[A]? = some (zJ N f) ∧ ∀ j, j < i → f j = x) → z_R S d 166 6 [some (.ref A), some (.long x), none, some (.int (zI (i : Int))), some (.int (zI (N : Int)))] [] M1 (fun r M2 => r = none ∧ z_ev M M2 (fun k => k = A) ∧ ∃ f, M2[A]? = some (zJ N f) ∧ ∀ j, j < N → f j = x) := by
  intro m
  induction m with
  | zero =>
    intro i M1 hi hI
    obtain ⟨he, f, hf, hx⟩ := hI
    refine r_il rfl rfl ?_
    refine r_il rfl rfl ?_
    refine r_icT rfl (zcT3 ⟨by omega, by omega⟩ ⟨by omega, by omega⟩ (by omega)) ?_
    refine r_retv rfl rfl ?_
    exact ⟨rfl, he, f, hf, fun j hj => hx j (by omega)⟩
  | succ m ih =>
    intro i M1 hi hI
    obtain ⟨he, f, hf, hx⟩ := hI
    refine r_il rfl rfl ?_
    refine r_il rfl rfl ?_
    refine r_icF rfl (zcF3 ⟨by omega, by omega⟩ ⟨by omega, by omega⟩ (by omega)) ?_
    refine r_al rfl rfl ?_
    refine r_il rfl rfl ?_
    refine r_ll rfl rfl ?_
    refine r_jSI rfl hf (by omega) (by omega) (by omega) ?_
    refine r_jj3 rfl rfl ?_
    refine r_goto rfl ?_
    refine ih (i + 1) _ (by omega) ⟨he.tr (.set rfl), _, z_gs hf, fun j hj => ?_⟩
    rw [Int.toNat_natCast]
    by_cases e : j = i
    · subst e
      exact ul_s
    · rw [ul_n e]
      exact hx j (by omega)
theorem c_fillL {A N : Nat} {f : Nat → Int64} (h9 : ¬ A = 1000) (hN : N ≤ 10000) (hA : M[A]? = some (zJ N f)) {x : Int64} : ∃ M', z_C S d 166 [.ref A, .long x] M none M' ∧ z_ev M M' (fun k => k = A) ∧ ∃ f, M'[A]? = some (zJ N f) ∧ ∀ j, j < N → f j = x := by
  refine k_an ?_
  refine k_of rfl rfl (Nat.le_of_ble_eq_true rfl) ?_
  refine r_ic rfl ?_
  refine r_is3 rfl rfl ?_
  refine r_al rfl rfl ?_
  refine r_len3 rfl h9 hA ?_
  refine r_is4 rfl rfl ?_
  exact c_fillL_l hN N 0 M (by omega) ⟨.rf, f, hA, fun j hj => by omega⟩
theorem c_goOneStep_i {A1 A2 : Nat} {f g : Nat → Int64} (hA : ¬ A1 = A2) (hA2 : A2 = 30 ∨ A2 = 31) (hL0 : x_L M W H L hs) (h10 : M[A1]? = some (zJ 325 f)) {p : Nat} (hp : p < (13 * (W * H))) {Q : Option Value → ZM → Prop} (hx : ∀ (M1 : ZM) (x1 x2 : Option Value), (z_ev M M1 (fun k => k = A2) ∧ ∃ g1, M1[A2]? = some (zJ 325 g1) ∧ ∀ h, p_dot g1 h (13 * (W * H)) = p_dot g h (13 * (W * H)) + p_dot f (fun p => p_sum4 (p_aC W H L hs) h p 4) (p + 1)) → z_R S (d + 2) 50 2 [some (.ref 25), some (.ref A1), some (.ref A2), some (.int (zI ((p + 1 : Nat) : Int))), x1, x2] [] M1 Q) : ∀ (m s : Nat) (M1 : ZM) (x : Option Value), s + m = 4 → (z_ev M M1 (fun k => k = A2) ∧ ∃ g1, M1[A2]? = some (zJ 325 g1) ∧ ∀ h, p_dot g1 h (13 * (W * H)) = p_dot g h (13 * (W * H)) + p_dot f (fun p => p_sum4 (p_aC W H L hs) h p 4) p + f p * p_sum4 (p_aC W H L hs) h p s) → z_R S (d + 2) 50 24 [some (.ref 25), some (.ref A1), some (.ref A2), some (.int (zI (p : Int))), some (.int (zI (s : Int))), x] [] M1 Q := by
  intro m
  induction m with
  | zero =>
    intro s M1 x hs9 hI
    obtain ⟨he, g1, h2, hd⟩ := hI
    have hL := hL0.ev he (by omega) (by omega)
    have h1 := (he.2 A1 hA).trans h10
    obtain ⟨-, ⟨⟨hW1, hW2⟩, ⟨hH1, hH2⟩, hL1, hL2⟩, -⟩ := id hL
    have hC := p_WH hW2 hH2
    refine r_il rfl rfl ?_
    refine r_ic rfl ?_
    refine r_icT rfl (zcT3 ⟨by omega, by omega⟩ ⟨by omega, by omega⟩ (by omega)) ?_
    refine r_jj3 rfl rfl ?_
    refine r_goto rfl ?_
    refine hx M1 _ _ ⟨he, g1, h2, fun h => ?_⟩
    rw [hd h, show s = 4 by omega, Int64.add_assoc]
    rfl
  | succ m ih =>
    intro s M1 x hs9 hI
    obtain ⟨he, g1, h2, hd⟩ := hI
    have hL := hL0.ev he (by omega) (by omega)
    have h1 := (he.2 A1 hA).trans h10
    obtain ⟨-, ⟨⟨hW1, hW2⟩, ⟨hH1, hH2⟩, hL1, hL2⟩, -⟩ := id hL
    have hC := p_WH hW2 hH2
    refine r_il rfl rfl ?_
    refine r_ic rfl ?_
    refine r_icF rfl (zcF3 ⟨by omega, by omega⟩ ⟨by omega, by omega⟩ (by omega)) ?_
    refine r_al rfl rfl ?_
    refine r_il rfl rfl ?_
    refine r_il rfl rfl ?_
    refine r_cv2 rfl rfl hL.1 rfl (by decide) rfl (c_after hL (p := p) (s := s) hp (by omega)) ?_
    refine r_is5 rfl rfl ?_
    refine r_il rfl rfl ?_
    rcases ha : p_aC W H L hs p s with - | q
    · rw [show oI none (-1) = -1 from rfl]
      refine r_ifT rfl (zcT2 ⟨by omega, by omega⟩ ⟨by omega, by omega⟩ (by omega)) ?_
      refine r_jj4 rfl rfl ?_
      refine r_goto rfl ?_
      refine ih (s + 1) M1 _ (by omega) ⟨he, g1, h2, fun h => ?_⟩
      rw [hd h]
      show _ + f p * p_sum4 (p_aC W H L hs) h p s = _ + f p * (p_sum4 (p_aC W H L hs) h p s + p_hv h (p_aC W H L hs p s))
      rw [ha]
      show _ = _ + f p * (p_sum4 (p_aC W H L hs) h p s + 0)
      rw [Int64.add_zero]
    · have hq := p_aC_lt (by omega) hL2 hp ha
      rw [show oI (some q) (-1) = (q : Int) from rfl]
      refine r_ifF rfl (zcF2 ⟨by omega, by omega⟩ ⟨by omega, by omega⟩ (by omega)) ?_
      refine r_al rfl rfl ?_
      refine r_il rfl rfl ?_
      refine r_dup2 rfl ?_
      refine r_jaI rfl h2 (by omega) (by omega) (by omega) ?_
      refine r_al rfl rfl ?_
      refine r_il rfl rfl ?_
      refine r_jaI rfl h1 (by omega) (by omega) (by omega) ?_
      refine r_ladd rfl ?_
      refine r_jSI rfl h2 (by omega) (by omega) (by omega) ?_
      refine r_jj4 rfl rfl ?_
      refine r_goto rfl ?_
      refine ih (s + 1) _ _ (by omega) ⟨he.tr (.set rfl), _, z_gs h2, fun h => ?_⟩
      rw [Int.toNat_natCast, Int.toNat_natCast, p_dot_upd, if_pos hq, hd h, Int64.add_assoc]
      show _ + (f p * p_sum4 (p_aC W H L hs) h p s + f p * h q) = _ + f p * (p_sum4 (p_aC W H L hs) h p s + p_hv h (p_aC W H L hs p s))
      rw [ha, Int64.mul_add]
      rfl
theorem c_goOneStep_l {A1 A2 : Nat} {f g : Nat → Int64} (hA : ¬ A1 = A2) (hA2 : A2 = 30 ∨ A2 = 31) (hL0 : x_L M W H L hs) (h10 : M[A1]? = some (zJ 325 f)) : ∀ (m p : Nat) (M1 : ZM) (x1 x2 : Option Value), p + m = (13 * (W * H)) → (z_ev M M1 (fun k => k = A2) ∧ ∃ g1, M1[A2]? = some (zJ 325 g1) ∧ ∀ h, p_dot g1 h (13 * (W * H)) = p_dot g h (13 * (W * H)) + p_dot f (fun p => p_sum4 (p_aC W H L hs) h p 4) p) → z_R S (d + 2) 50 2 [some (.ref 25), some (.ref A1), some (.ref A2), some (.int (zI (p : Int))), x1, x2] [] M1 (fun r M2 => r = none ∧ z_ev M M2 (fun k => k = A2) ∧ ∃ g1, M2[A2]? = some (zJ 325 g1) ∧ ∀ h, p_dot g1 h (13 * (W * H)) = p_dot g h (13 * (W * H)) + p_dot f (fun p => p_sum4 (p_aC W H L hs) h p 4) (13 * (W * H))) := by
  intro m
  induction m with
  | zero =>
    intro p M1 x1 x2 hp hI
    obtain ⟨he, g1, h2, hd⟩ := hI
    have hL := hL0.ev he (by omega) (by omega)
    have h1 := (he.2 A1 hA).trans h10
    obtain ⟨-, ⟨⟨hW1, hW2⟩, ⟨hH1, hH2⟩, hL1, hL2⟩, -⟩ := id hL
    have hC := p_WH hW2 hH2
    refine r_il rfl rfl ?_
    refine r_al rfl rfl ?_
    refine r_gf rfl hL.1 rfl rfl ?_
    refine r_icT rfl (zcT3 ⟨by omega, by omega⟩ ⟨by omega, by omega⟩ (by omega)) ?_
    refine r_retv rfl rfl ?_
    exact ⟨rfl, he, g1, h2, fun h => by rw [hd h, show p = (13 * (W * H)) by omega]⟩
  | succ m ih =>
    intro p M1 x1 x2 hp hI
    obtain ⟨he, g1, h2, hd⟩ := hI
    have hL := hL0.ev he (by omega) (by omega)
    have h1 := (he.2 A1 hA).trans h10
    obtain ⟨-, ⟨⟨hW1, hW2⟩, ⟨hH1, hH2⟩, hL1, hL2⟩, -⟩ := id hL
    have hC := p_WH hW2 hH2
    refine r_il rfl rfl ?_
    refine r_al rfl rfl ?_
    refine r_gf rfl hL.1 rfl rfl ?_
    refine r_icF rfl (zcF3 ⟨by omega, by omega⟩ ⟨by omega, by omega⟩ (by omega)) ?_
    refine r_al rfl rfl ?_
    refine r_il rfl rfl ?_
    refine r_jaI rfl h1 (by omega) (by omega) (by omega) ?_
    refine r_lc rfl ?_
    refine r_lcmp rfl ?_
    rw [Int.toNat_natCast]
    by_cases h0 : f p = 0
    · refine r_ifF rfl (zl_F h0) ?_
      refine r_goto rfl ?_
      refine r_jj3 rfl rfl ?_
      refine r_goto rfl ?_
      refine ih (p + 1) M1 _ _ (by omega) ⟨he, g1, h2, fun h => ?_⟩
      rw [hd h]
      show _ = _ + (p_dot f (fun p => p_sum4 (p_aC W H L hs) h p 4) p + f p * p_sum4 (p_aC W H L hs) h p 4)
      rw [h0, Int64.zero_mul, Int64.add_zero]
    · refine r_ifT rfl (zl_T h0) ?_
      refine r_ic rfl ?_
      refine r_is4 rfl rfl ?_
      exact c_goOneStep_i hA hA2 hL0 h10 (by omega) (fun M2 x1 x2 hI2 => ih (p + 1) M2 x1 x2 (by omega) hI2) 4 0 M1 _ (by omega) ⟨he, g1, h2, fun h => by rw [hd h]; show _ = _ + f p * 0; rw [Int64.mul_zero, Int64.add_zero]⟩
theorem c_goOneStep {A1 A2 : Nat} {f g : Nat → Int64} (hA : ¬ A1 = A2) (hA2 : A2 = 30 ∨ A2 = 31) (hL0 : x_L M W H L hs) (h10 : M[A1]? = some (zJ 325 f)) (h20 : M[A2]? = some (zJ 325 g)) : ∃ M', z_C S (d + 2) 50 [.ref 25, .ref A1, .ref A2] M none M' ∧ z_ev M M' (fun k => k = A2) ∧ ∃ g1, M'[A2]? = some (zJ 325 g1) ∧ ∀ h, p_dot g1 h (13 * (W * H)) = p_dot g h (13 * (W * H)) + p_dot f (fun p => p_sum4 (p_aC W H L hs) h p 4) (13 * (W * H)) := by
  refine k_an ?_
  refine k_of rfl rfl (Nat.le_of_ble_eq_true rfl) ?_
  refine r_ic rfl ?_
  refine r_is3 rfl rfl ?_
  exact c_goOneStep_l hA hA2 hL0 h10 (13 * (W * H)) 0 M _ _ (by omega) ⟨.rf, g, h20, fun h => by show _ = _ + 0; rw [Int64.add_zero]⟩
theorem c_howMany_e (hL0 : x_L M W H L hs) {a b n : Nat} (ha : a < W * H) (hb : b < W * H) (hn : n ≤ 20) {A1 A2 : Nat} {M1 : ZM} {f : Nat → Int64} (h1 : M1[A1]? = some (zJ 325 f)) {Q : Option Value → ZM → Prop} (hq : Q (some (.long (p_sumL f b 13))) M1) : ∀ (m k : Nat), k + m = 13 → z_R S (d + 4) 49 79 [some (.ref 25), some (.ref 1), some (.int (zI (a : Int))), some (.int (zI (b : Int))), some (.int (zI (n : Int))), some (.ref A1), some (.ref A2), some (.long (p_sumL f b k)), none, some (.int (zI (k : Int)))] [] M1 Q := by
  obtain ⟨-, ⟨⟨hW1, hW2⟩, ⟨hH1, hH2⟩, hL1, hL2⟩, -⟩ := id hL0
  have hC := p_WH hW2 hH2
  intro m
  induction m with
  | zero =>
    intro k hk
    refine r_il rfl rfl ?_
    refine r_ic rfl ?_
    refine r_icT rfl (zcT3 ⟨by omega, by omega⟩ ⟨by omega, by omega⟩ (by omega)) ?_
    refine r_ll rfl rfl ?_
    refine r_retl rfl rfl ?_
    rw [show k = 13 by omega]
    exact hq
  | succ m ih =>
    intro k hk
    refine r_il rfl rfl ?_
    refine r_ic rfl ?_
    refine r_icF rfl (zcF3 ⟨by omega, by omega⟩ ⟨by omega, by omega⟩ (by omega)) ?_
    refine r_ll rfl rfl ?_
    refine r_al rfl rfl ?_
    refine r_il rfl rfl ?_
    refine r_cs1 rfl rfl rfl rfl (c_startOn (c := b) (by omega)) ?_
    refine r_il rfl rfl ?_
    refine r_addI rfl ?_
    refine r_jaI rfl h1 (by omega) (by omega) (by omega) ?_
    refine r_ladd rfl ?_
    refine r_ls7 rfl rfl ?_
    refine r_jj9 rfl rfl ?_
    refine r_goto rfl ?_
    rw [show (((13 * b : Nat) : Int) + (k : Int)).toNat = 13 * b + k by omega]
    exact ih (k + 1) (by omega)
theorem c_howMany_l (hL0 : x_L M W H L hs) {a b n : Nat} (ha : a < W * H) (hb : b < W * H) (hn : n ≤ 20) : ∀ (m i A1 A2 : Nat) (M1 : ZM) (x1 x2 : Option Value), i + m = n → (A1 = 30 ∧ A2 = 31) ∨ (A1 = 31 ∧ A2 = 30) → (z_ev M M1 (fun k => k = 30 ∨ k = 31) ∧ ∃ f g, M1[A1]? = some (zJ 325 f) ∧ M1[A2]? = some (zJ 325 g) ∧ p_dot f (p_cnt (p_aC W H L hs) b (n - i)) (13 * (W * H)) = p_cnt (p_aC W H L hs) b n (13 * a)) → z_R S (d + 4) 49 34 [some (.ref 25), some (.ref 1), some (.int (zI (a : Int))), some (.int (zI (b : Int))), some (.int (zI (n : Int))), some (.ref A1), some (.ref A2), some (.int (zI (i : Int))), x1, x2] [] M1 (fun r M2 => r = some (.long (p_cnt (p_aC W H L hs) b n (13 * a))) ∧ z_ev M M2 (fun k => k = 30 ∨ k = 31) ∧ (∃ f, M2[30]? = some (zJ 325 f)) ∧ ∃ f, M2[31]? = some (zJ 325 f)) := by
  obtain ⟨-, ⟨⟨hW1, hW2⟩, ⟨hH1, hH2⟩, hL1, hL2⟩, -⟩ := id hL0
  have hC := p_WH hW2 hH2
  intro m
  induction m with
  | zero =>
    intro i A1 A2 M1 x1 x2 hi hA hI
    obtain ⟨he, f, g, h1, h2, hd⟩ := hI
    have hL := hL0.ev he (by omega) (by omega)
    refine r_il rfl rfl ?_
    refine r_il rfl rfl ?_
    refine r_icT rfl (zcT3 ⟨by omega, by omega⟩ ⟨by omega, by omega⟩ (by omega)) ?_
    refine r_lc rfl ?_
    refine r_ls7 rfl rfl ?_
    refine r_ic rfl ?_
    refine r_is9 rfl rfl ?_
    refine c_howMany_e hL0 ha hb hn h1 ⟨?_, he, ?_⟩ 13 0 (by omega)
    · rw [← hd, show n - i = 0 by omega, p_dot_end hb]
    · rcases hA with ⟨rfl, rfl⟩ | ⟨rfl, rfl⟩
      · exact ⟨⟨f, h1⟩, g, h2⟩
      · exact ⟨⟨g, h2⟩, f, h1⟩
  | succ m ih =>
    intro i A1 A2 M1 x1 x2 hi hA hI
    obtain ⟨he, f, g, h1, h2, hd⟩ := hI
    have hL := hL0.ev he (by omega) (by omega)
    refine r_il rfl rfl ?_
    refine r_il rfl rfl ?_
    refine r_icF rfl (zcF3 ⟨by omega, by omega⟩ ⟨by omega, by omega⟩ (by omega)) ?_
    refine r_al rfl rfl ?_
    refine r_lc rfl ?_
    obtain ⟨M2, k2, e2, g2, g3, g4⟩ := c_fillL (S := S) (d := d + 3) (x := Int64.ofInt 0) (show ¬ A2 = 1000 by omega) (by omega) h2
    refine r_cs2v rfl rfl rfl rfl (k2) ?_
    have hL2 := hL.ev e2 (by omega) (by omega)
    have h12 := (e2.2 A1 (by omega)).trans h1
    obtain ⟨M3, k3, e3, g5, g6, g7⟩ := c_goOneStep (S := S) (d := d + 1) (A1 := A1) (A2 := A2) (by omega) (by omega) hL2 h12 g3
    refine r_al rfl rfl ?_
    refine r_al rfl rfl ?_
    refine r_al rfl rfl ?_
    refine r_cv2v rfl rfl hL2.1 rfl (by decide) rfl (k3) ?_
    refine r_al rfl rfl ?_
    refine r_as8 rfl rfl ?_
    refine r_al rfl rfl ?_
    refine r_as5 rfl rfl ?_
    refine r_al rfl rfl ?_
    refine r_as6 rfl rfl ?_
    refine r_jj7 rfl rfl ?_
    refine r_goto rfl ?_
    refine ih (i + 1) A2 A1 M3 _ _ (by omega) (by omega) ⟨he.tr ((e2.tr e3).wk (fun k g => by omega)), g5, f, g6, (e3.2 A1 (by omega)).trans h12, ?_⟩
    rw [g7, p_dot_0 _ (fun j hj => g4 j (by omega)), Int64.zero_add, ← hd, show n - i = n - (i + 1) + 1 by omega]
    rfl
theorem c_howMany {nc : Nat} (hO : k_O M 1 W H L hs nc lot) (hW : x_W M) {a b n : Nat} (ha : a < W * H) (hb : b < W * H) (hn : n ≤ 20) : ∃ M', z_C S (d + 4) 49 [.ref 25, .ref 1, .int (zI (a : Int)), .int (zI (b : Int)), .int (zI (n : Int))] M (some (.long (p_cnt (p_aC W H L hs) b n (13 * a)))) M' ∧ z_ev M M' (fun k => 25 ≤ k ∧ k < 33) ∧ x_W M' := by
  obtain ⟨o1, ⟨hW1, hW2⟩, ⟨hH1, hH2⟩, ⟨hL1, hL2⟩, hn9⟩ := id hO
  have hC := p_WH hW2 hH2
  obtain ⟨⟨i1, i2, w1⟩, ⟨f26, v26⟩, ⟨f27, v27⟩, ⟨f28, v28⟩, ⟨f29, v29⟩, ⟨f30, v30⟩, ⟨f31, v31⟩, f32, v32⟩ := id hW
  refine k_an ?_
  refine k_of rfl rfl (Nat.le_of_ble_eq_true rfl) ?_
  refine r_al rfl rfl ?_
  refine r_al rfl rfl ?_
  obtain ⟨M1, k1, e1, hL⟩ := c_lookAt (S := S) (d := d) hO hW
  refine r_cv1v rfl rfl w1 rfl (by decide) rfl (k1) ?_
  have w30 := (e1.2 30 (by decide)).trans v30
  have w31 := (e1.2 31 (by decide)).trans v31
  refine r_al rfl rfl ?_
  refine r_gf rfl hL.1 rfl rfl ?_
  refine r_as5 rfl rfl ?_
  refine r_al rfl rfl ?_
  refine r_gf rfl hL.1 rfl rfl ?_
  refine r_as6 rfl rfl ?_
  refine r_al rfl rfl ?_
  refine r_lc rfl ?_
  obtain ⟨M2, k2, e2, f2, h2, q2⟩ := c_fillL (S := S) (d := d + 3) (x := Int64.ofInt 0) (show ¬ 30 = 1000 by decide) (by omega) w30
  refine r_cs2v rfl rfl rfl rfl (k2) ?_
  refine r_al rfl rfl ?_
  refine r_il rfl rfl ?_
  refine r_cs1 rfl rfl rfl rfl (c_startOn (c := a) (by omega)) ?_
  refine r_lc rfl ?_
  refine r_jSI rfl h2 (by omega) (by omega) (by omega) ?_
  refine r_ic rfl ?_
  refine r_is7 rfl rfl ?_
  have e3 : z_ev M1 (M2.set 30 (zJ 325 (vp_updL f2 (((13 * a : Nat) : Int)).toNat (Int64.ofInt 1)))) (fun k => k = 30) := e2.tr (.set rfl)
  refine r_of (c_howMany_l (hL.ev e3 (by decide) (by decide)) ha hb hn n 0 30 31 _ _ _ (by omega) (Or.inl ⟨rfl, rfl⟩) ⟨.rf, _, f31, z_gs h2, (e3.2 31 (by decide)).trans w31, ?_⟩) (fun r M' hq => ?_)
  · rw [Int.toNat_natCast]
    have e9 : Int64.ofInt 1 = f2 (13 * a) + 1 := by rw [q2 (13 * a) (by omega)]; rfl
    rw [e9, p_dot_upd, if_pos (by omega), p_dot_0 _ (fun j hj => q2 j (by omega)), Int64.zero_add, Int64.one_mul]
    rfl
  · obtain ⟨q1, q2, q3, q4⟩ := hq
    refine ⟨q1, ((e1.wk (fun k g => by omega)).tr (e3.wk (fun k g => by omega))).tr (q2.wk (fun k g => by omega)), ?_⟩
    have E := (e3.wk (Q := fun k => k = 30 ∨ k = 31) (fun k g => by omega)).tr q2
    obtain ⟨l1, l2, nb, l3, l4⟩ := hL
    exact ⟨⟨_, _, (E.2 25 (by decide)).trans l1⟩, ⟨f26, (E.2 26 (by decide)).trans ((e1.2 26 (by decide)).trans v26)⟩, ⟨nb, (E.2 27 (by decide)).trans l3⟩, ⟨f28, (E.2 28 (by decide)).trans ((e1.2 28 (by decide)).trans v28)⟩, ⟨f29, (E.2 29 (by decide)).trans ((e1.2 29 (by decide)).trans v29)⟩, q3, q4, f32, (E.2 32 (by decide)).trans ((e1.2 32 (by decide)).trans v32)⟩
end WA
