/-! MEND: the class's side -/
abbrev zA (n : Nat) (f : Nat → Int32) : ZE := .inr (0, n, .inl f)
theorem k_C.ev {M M' : ZM} {P : Nat → Prop} {c sa : Nat} {f la : Int} {N : Nat} {cs : Int32} {g : Nat → Int32} {s : Nat → Int} (e : z_ev M M' P) (h1 : ¬ P c) (h2 : ¬ P sa) (h : k_C M c sa f la N cs g s) : k_C M' c sa f la N cs g s := ⟨(e.2 _ h1).trans h.1, (e.2 _ h2).trans h.2.1, h.2.2⟩
section MD
variable {S : ZS} {d : Nat} {M : ZM} {W H L N : Nat} {hs lot : Int32} {c sa : Nat} {f la : Int} {cs : Int32} {g : Nat → Int32} {s : Nat → Int}
theorem c_differsBy (hL : x_L M W H L hs) (hk : k_C M c sa f la N cs g s) {df : Nat → Int32} (hd : M[32]? = some (zA 4225 df)) {Dn : Nat → Nat} {i p : Nat} (hi : i < N) (hq : ∀ q, q < (13 * (W * H)) → df (325 * (i + 1) + q) = zI (Dn q : Int)) (hB : ∀ q, Dn q ≤ 1000) (hp : p < (13 * (W * H))) {t : Nat} (ht : t < 4) : z_C S (d + 2) 54 [.ref 25, .ref c, .int (zI (i : Int)), .int (zI (p : Int)), .int (zI (t : Int))] M (some (.int (zI (p_dv 1000 Dn (s i) t (p_aC W H L hs p t) : Int)))) M := by
  obtain ⟨l1, ⟨⟨hW1, hW2⟩, ⟨hH1, hH2⟩, hL1, hL2⟩, -⟩ := id hL
  have hC := p_WH hW2 hH2
  obtain ⟨q1, q2, q3, q4, q5⟩ := id hk
  refine c_of rfl rfl (Nat.le_of_ble_eq_true rfl) ?_
  refine g_al rfl rfl ?_
  refine g_il rfl rfl ?_
  refine g_il rfl rfl ?_
  refine g_cv2 rfl rfl l1 rfl (by decide) rfl (c_after hL (p := p) (s := t) hp ht) ?_
  refine g_is5 rfl rfl ?_
  refine g_il rfl rfl ?_
  rcases ha : p_aC W H L hs p t with - | y
  · rw [show oI none (-1) = -1 from rfl]
    refine g_ifT rfl (zcT2 ⟨by omega, by omega⟩ ⟨by omega, by omega⟩ (by omega)) ?_
    refine g_ic rfl ?_
    exact g_reti rfl (rfl) rfl
  · have hy := p_aC_lt ht hL2 hp ha
    have hB1 := hB y
    rw [show oI (some y) (-1) = (y : Int) from rfl]
    refine g_ifF rfl (zcF2 ⟨by omega, by omega⟩ ⟨by omega, by omega⟩ (by omega)) ?_
    refine g_il rfl rfl ?_
    refine g_ifF rfl (zcF2 ⟨by omega, by omega⟩ ⟨by omega, by omega⟩ (by omega)) ?_
    refine g_il rfl rfl ?_
    refine g_ic rfl ?_
    refine g_icT rfl (zcT2 ⟨by omega, by omega⟩ ⟨by omega, by omega⟩ (by omega)) ?_
    refine g_al rfl rfl ?_
    refine g_gf rfl l1 rfl rfl ?_
    refine g_il rfl rfl ?_
    refine g_ic rfl ?_
    refine g_addI rfl ?_
    refine g_ic rfl ?_
    refine g_mulI rfl ?_
    refine g_il rfl rfl ?_
    refine g_addI rfl ?_
    refine g_iaI rfl (by decide) hd (by omega) (by omega) (by omega) ?_
    rw [show (((i : Int) + 1) * 325 + (y : Int)).toNat = 325 * (i + 1) + y by omega, hq y hy]
    refine g_il rfl rfl ?_
    refine g_al rfl rfl ?_
    refine g_il rfl rfl ?_
    refine g_cv1 rfl rfl q1 rfl (by decide) rfl (c_stepAt hk (i := (i : Int)) (by omega) (by omega)) ?_
    rw [Int.toNat_natCast]
    have q6 := (q5 i hi).2
    have ec : p_cst t (s i) = if (t : Int) = s i then 0 else 1 := rfl
    by_cases he : (t : Int) = s i
    · rw [if_pos he] at ec
      refine g_icF rfl (zcF1 (he)) ?_
      refine g_ic rfl ?_
      refine g_goto rfl ?_
      refine g_addI rfl ?_
      exact g_reti rfl (by show some (Value.int (zI ((Dn y + p_cst t (s i) : Nat) : Int))) = _; rw [ec]; rfl) rfl
    · rw [if_neg he] at ec
      refine g_icT rfl (zcT1 ⟨by omega, by omega⟩ ⟨by omega, by omega⟩ (he)) ?_
      refine g_ic rfl ?_
      refine g_addI rfl ?_
      exact g_reti rfl (by show some (Value.int (zI ((Dn y + p_cst t (s i) : Nat) : Int))) = _; rw [ec]; rfl) rfl
theorem c_fewestFrom_l (hL : x_L M W H L hs) (hk : k_C M c sa f la N cs g s) {df : Nat → Int32} (hd : M[32]? = some (zA 4225 df)) {Dn : Nat → Nat} {i p : Nat} (hi : i < N) (hq : ∀ q, q < (13 * (W * H)) → df (325 * (i + 1) + q) = zI (Dn q : Int)) (hB : ∀ q, Dn q ≤ 1000) (hp : p < (13 * (W * H))) : ∀ (m t : Nat), t + m = 4 → z_G S (d + 3) 52 8 [some (.ref 25), some (.ref c), some (.int (zI (i : Int))), some (.int (zI (p : Int))), some (.int (zI (p_mn (p_aC W H L hs) 1000 Dn (s i) p t : Int))), some (.int (zI (t : Int)))] [] M (some (.int (zI (p_mn (p_aC W H L hs) 1000 Dn (s i) p 4 : Int)))) M := by
  obtain ⟨l1, ⟨⟨hW1, hW2⟩, ⟨hH1, hH2⟩, hL1, hL2⟩, -⟩ := id hL
  have hC := p_WH hW2 hH2
  obtain ⟨q1, q2, q3, q4, q5⟩ := id hk
  intro m
  induction m with
  | zero =>
    intro t ht
    refine g_il rfl rfl ?_
    refine g_ic rfl ?_
    refine g_icT rfl (zcT3 ⟨by omega, by omega⟩ ⟨by omega, by omega⟩ (by omega)) ?_
    refine g_il rfl rfl ?_
    rw [show t = 4 by omega]
    exact g_reti rfl (rfl) rfl
  | succ m ih =>
    intro t ht
    refine g_il rfl rfl ?_
    refine g_ic rfl ?_
    refine g_icF rfl (zcF3 ⟨by omega, by omega⟩ ⟨by omega, by omega⟩ (by omega)) ?_
    refine g_il rfl rfl ?_
    refine g_al rfl rfl ?_
    refine g_al rfl rfl ?_
    refine g_il rfl rfl ?_
    refine g_il rfl rfl ?_
    refine g_il rfl rfl ?_
    refine g_cv4 rfl rfl l1 rfl (by decide) rfl (c_differsBy hL hk hd hi hq hB hp (t := t) (by omega)) ?_
    have b1 := p_mn_le (a := p_aC W H L hs) (F := 1000) (D := Dn) (own := s i) (p := p) t
    have b2 : p_dv 1000 Dn (s i) t (p_aC W H L hs p t) ≤ 1001 := by
      cases p_aC W H L hs p t with
      | none => exact Nat.le_succ 1000
      | some y =>
        have := hB y
        have := p_cst_le (s := t) (own := s i)
        show Dn y + p_cst t (s i) ≤ 1001
        omega
    refine g_min rfl rfl ?_
    rw [z_min (by omega) (by omega)]
    refine g_is4 rfl rfl ?_
    refine g_jj5 rfl rfl ?_
    refine g_goto rfl ?_
    exact ih (t + 1) (by omega)
theorem c_fewestFrom (hL : x_L M W H L hs) (hk : k_C M c sa f la N cs g s) {df : Nat → Int32} (hd : M[32]? = some (zA 4225 df)) {Dn : Nat → Nat} {i p : Nat} (hi : i < N) (hq : ∀ q, q < (13 * (W * H)) → df (325 * (i + 1) + q) = zI (Dn q : Int)) (hB : ∀ q, Dn q ≤ 1000) (hp : p < (13 * (W * H))) : z_C S (d + 3) 52 [.ref 25, .ref c, .int (zI (i : Int)), .int (zI (p : Int))] M (some (.int (zI (p_mn (p_aC W H L hs) 1000 Dn (s i) p 4 : Int)))) M := by
  refine c_of rfl rfl (Nat.le_of_ble_eq_true rfl) ?_
  refine g_ic rfl ?_
  refine g_is4 rfl rfl ?_
  refine g_ic rfl ?_
  refine g_is5 rfl rfl ?_
  exact c_fewestFrom_l hL hk hd hi hq hB hp 4 0 (by omega)
theorem p_dv_le {D : Nat → Nat} {own : Int} {s : Nat} {o : Option Nat} (h : ∀ q, D q ≤ 1000) : p_dv 1000 D own s o ≤ 1001 := by
  cases o with
  | none => exact Nat.le_succ 1000
  | some y =>
    have := h y
    have := p_cst_le (s := s) (own := own)
    show D y + p_cst s own ≤ 1001
    omega
theorem c_fillMended_i (hL : x_L M W H L hs) (hk : k_C M c sa f la N cs g s) {df : Nat → Int32} (hd : M[32]? = some (zA 4225 df)) {b : Nat} (hdr : ∀ i p, i ≤ N → p < (13 * (W * H)) → df (325 * i + p) = zI (p_D (p_aC W H L hs) 1000 b N s (N - i) p : Int)) {i p : Nat} (hi : i < N) (hp : p < (13 * (W * H))) (hf9 : p_D (p_aC W H L hs) 1000 b N s (N - i) p < 1000) {Q : Option Value → ZM → Prop} (hx : z_R S (d + 4) 53 60 [some (.ref 25), some (.ref c), some (.int (zI (N : Int))), some (.int (zI (p : Int))), some (.int (zI (i : Int))), some (.int (zI (p_mk (p_aC W H L hs) b N s i p : Int)))] [] M Q) : ∀ (m t : Nat), t + m = 4 → t ≤ p_mk (p_aC W H L hs) b N s i p → z_R S (d + 4) 53 27 [some (.ref 25), some (.ref c), some (.int (zI (N : Int))), some (.int (zI (p : Int))), some (.int (zI (i : Int))), some (.int (zI (t : Int)))] [] M Q := by
  obtain ⟨l1, ⟨⟨hW1, hW2⟩, ⟨hH1, hH2⟩, hL1, hL2⟩, -⟩ := id hL
  have hC := p_WH hW2 hH2
  obtain ⟨q1, q2, q3, q4, q5⟩ := id hk
  obtain ⟨g1, ⟨y, g2, g3⟩, g4⟩ := p_mk_ok hi q3 hf9
  have e9 : p_D (p_aC W H L hs) 1000 b N s (N - i) p = p_mn (p_aC W H L hs) 1000 (p_D (p_aC W H L hs) 1000 b N s (N - (i + 1))) (s i) p 4 := by
    rw [show N - i = N - (i + 1) + 1 by omega]
    show p_mn _ _ _ (s (N - (N - (i + 1) + 1))) p 4 = _
    rw [show N - (N - (i + 1) + 1) = i by omega]
  intro m
  induction m with
  | zero =>
    intro t ht ht2
    omega
  | succ m ih =>
    intro t ht ht2
    refine r_il rfl rfl ?_
    refine r_ic rfl ?_
    by_cases h7 : t = 3
    · refine r_icT rfl (zcT3 ⟨by omega, by omega⟩ ⟨by omega, by omega⟩ (by omega)) ?_
      obtain rfl : t = p_mk (p_aC W H L hs) b N s i p := by omega
      exact hx
    · refine r_icF rfl (zcF3 ⟨by omega, by omega⟩ ⟨by omega, by omega⟩ (by omega)) ?_
      refine r_al rfl rfl ?_
      refine r_al rfl rfl ?_
      refine r_il rfl rfl ?_
      refine r_il rfl rfl ?_
      refine r_il rfl rfl ?_
      refine r_cv4 rfl rfl l1 rfl (by decide) rfl ((c_differsBy hL hk hd hi (Dn := (p_D (p_aC W H L hs) 1000 b N s (N - (i + 1)))) (fun q hq => hdr (i + 1) q (by omega) hq) (fun q => p_D_le) hp (t := t) (by omega))) ?_
      refine r_al rfl rfl ?_
      refine r_al rfl rfl ?_
      refine r_il rfl rfl ?_
      refine r_il rfl rfl ?_
      refine r_cv3 rfl rfl l1 rfl (by decide) rfl ((c_fewestFrom hL hk hd hi (Dn := (p_D (p_aC W H L hs) 1000 b N s (N - (i + 1)))) (fun q hq => hdr (i + 1) q (by omega) hq) (fun q => p_D_le) hp)) ?_
      rw [← e9]
      by_cases h8 : t = p_mk (p_aC W H L hs) b N s i p
      · subst h8
        have e7 : p_dv 1000 (p_D (p_aC W H L hs) 1000 b N s (N - (i + 1))) (s i) (p_mk (p_aC W H L hs) b N s i p) (p_aC W H L hs p (p_mk (p_aC W H L hs) b N s i p)) = p_D (p_aC W H L hs) 1000 b N s (N - i) p := by
          rw [g2]
          exact g3
        rw [e7]
        refine r_icT rfl (zcT5 ⟨by omega, by omega⟩ ⟨by omega, by omega⟩ (by omega)) ?_
        exact hx
      · have g5 := g4 t (by omega)
        have b2 := p_dv_le (s := t) (own := s i) (o := p_aC W H L hs p t) (D := (p_D (p_aC W H L hs) 1000 b N s (N - (i + 1)))) (fun q => p_D_le)
        refine r_icF rfl (zcF5 ⟨by omega, by omega⟩ ⟨by omega, by omega⟩ (by omega)) ?_
        refine r_jj5 rfl rfl ?_
        refine r_goto rfl ?_
        exact ih (t + 1) (by omega) (by omega)
theorem c_fillMended_l {fN : Nat} (hL0 : x_L M W H L hs) (hk0 : k_C M c sa (fN : Int) la N cs g s) (hc : c < 25) (hsa : sa < 25) {df : Nat → Int32} (hd0 : M[32]? = some (zA 4225 df)) {b : Nat} (hdr : ∀ i p, i ≤ N → p < (13 * (W * H)) → df (325 * i + p) = zI (p_D (p_aC W H L hs) 1000 b N s (N - i) p : Int)) (hfN : fN < W * H) (hf9 : p_D (p_aC W H L hs) 1000 b N s N (13 * fN) < 1000) : ∀ (m i : Nat) (M1 : ZM) (x : Option Value), i + m = N → (z_ev M M1 (fun k => k = 26) ∧ ∃ rw, M1[26]? = some (zA 60 rw) ∧ ∀ j, j < i → rw j = zI (p_mk (p_aC W H L hs) b N s j (p_mp (p_aC W H L hs) b N s (13 * fN) j) : Int)) → z_R S (d + 4) 53 11 [some (.ref 25), some (.ref c), some (.int (zI (N : Int))), some (.int (zI (p_mp (p_aC W H L hs) b N s (13 * fN) i : Int))), some (.int (zI (i : Int))), x] [] M1 (fun r M2 => r = none ∧ z_ev M M2 (fun k => k = 26) ∧ ∃ rw, M2[26]? = some (zA 60 rw) ∧ ∀ j, j < N → rw j = zI (p_mk (p_aC W H L hs) b N s j (p_mp (p_aC W H L hs) b N s (13 * fN) j) : Int)) := by
  intro m
  induction m with
  | zero =>
    intro i M1 x hi hI
    obtain ⟨he, rw, r1, r2⟩ := hI
    have hL := hL0.ev he (by decide) (by decide)
    have hk := hk0.ev he (by omega) (by omega)
    have hd := (he.2 32 (by decide)).trans hd0
    obtain ⟨l1, ⟨⟨hW1, hW2⟩, ⟨hH1, hH2⟩, hL1, hL2⟩, -⟩ := id hL
    have hC := p_WH hW2 hH2
    obtain ⟨q1, q2, q3, q4, q5⟩ := id hk
    refine r_il rfl rfl ?_
    refine r_il rfl rfl ?_
    refine r_icT rfl (zcT3 ⟨by omega, by omega⟩ ⟨by omega, by omega⟩ (by omega)) ?_
    refine r_retv rfl rfl ?_
    exact ⟨rfl, he, rw, r1, fun j hj => r2 j (by omega)⟩
  | succ m ih =>
    intro i M1 x hi hI
    obtain ⟨he, rw, r1, r2⟩ := hI
    have hL := hL0.ev he (by decide) (by decide)
    have hk := hk0.ev he (by omega) (by omega)
    have hd := (he.2 32 (by decide)).trans hd0
    obtain ⟨l1, ⟨⟨hW1, hW2⟩, ⟨hH1, hH2⟩, hL1, hL2⟩, -⟩ := id hL
    have hC := p_WH hW2 hH2
    obtain ⟨q1, q2, q3, q4, q5⟩ := id hk
    refine r_il rfl rfl ?_
    refine r_il rfl rfl ?_
    refine r_icF rfl (zcF3 ⟨by omega, by omega⟩ ⟨by omega, by omega⟩ (by omega)) ?_
    refine r_il rfl rfl ?_
    refine r_ic rfl ?_
    refine r_icF rfl (zcF3 ⟨by omega, by omega⟩ ⟨by omega, by omega⟩ (by omega)) ?_
    refine r_ic rfl ?_
    refine r_is5 rfl rfl ?_
    obtain ⟨m1, m2, m3⟩ := p_mp_ok q3 hL2 (show 13 * fN < (13 * (W * H)) by omega) (Or.inl (by omega)) hf9 i (by omega)
    obtain ⟨g1, ⟨y, g2, g3⟩, g4⟩ := p_mk_ok (show i < N by omega) q3 m3
    refine c_fillMended_i hL hk hd hdr (by omega) m1 m3 ?_ 4 0 (by omega) (by omega)
    refine r_al rfl rfl ?_
    refine r_gf rfl l1 rfl rfl ?_
    refine r_il rfl rfl ?_
    refine r_il rfl rfl ?_
    refine r_iSI rfl r1 (by omega) (by omega) (by omega) ?_
    refine r_al rfl rfl ?_
    refine r_il rfl rfl ?_
    refine r_il rfl rfl ?_
    have hL9 := hL.ev (.set (P := fun k => k = 26) (e := zA 60 (upd rw (i : Int).toNat (zI (p_mk (p_aC W H L hs) b N s i (p_mp (p_aC W H L hs) b N s (13 * fN) i) : Int)))) rfl) (by decide) (by decide)
    refine r_cv2 rfl rfl (z_gn (by decide) l1) rfl (by decide) rfl (c_after hL9 m1 g1) ?_
    rw [g2, show oI (some y) (-1) = ((p_mp (p_aC W H L hs) b N s (13 * fN) (i + 1) : Nat) : Int) by show (y : Int) = (((p_aC W H L hs (p_mp (p_aC W H L hs) b N s (13 * fN) i) (p_mk (p_aC W H L hs) b N s i (p_mp (p_aC W H L hs) b N s (13 * fN) i))).getD 0 : Nat) : Int); rw [g2]; rfl]
    refine r_is3 rfl rfl ?_
    refine r_jj4 rfl rfl ?_
    refine r_goto rfl ?_
    refine ih (i + 1) _ _ (by omega) ⟨he.tr (.set rfl), _, z_gs r1, fun j hj => ?_⟩
    rw [Int.toNat_natCast]
    by_cases e : j = i
    · subst e
      exact pk_us
    · rw [pk_un e]
      exact r2 j (by omega)
theorem c_fillMended {fN : Nat} (hL0 : x_L M W H L hs) (hk0 : k_C M c sa (fN : Int) la N cs g s) (hc : c < 25) (hsa : sa < 25) {df : Nat → Int32} (hd0 : M[32]? = some (zA 4225 df)) {b : Nat} (hdr : ∀ i p, i ≤ N → p < (13 * (W * H)) → df (325 * i + p) = zI (p_D (p_aC W H L hs) 1000 b N s (N - i) p : Int)) (hfN : fN < W * H) (hf9 : p_D (p_aC W H L hs) 1000 b N s N (13 * fN) < 1000) {rw0 : Nat → Int32} (r0 : M[26]? = some (zA 60 rw0)) : ∃ M', z_C S (d + 4) 53 [.ref 25, .ref c, .int (zI (N : Int))] M none M' ∧ z_ev M M' (fun k => k = 26) ∧ ∃ rw, M'[26]? = some (zA 60 rw) ∧ ∀ j, j < N → rw j = zI (p_mk (p_aC W H L hs) b N s j (p_mp (p_aC W H L hs) b N s (13 * fN) j) : Int) := by
  obtain ⟨l1, ⟨⟨hW1, hW2⟩, ⟨hH1, hH2⟩, hL1, hL2⟩, -⟩ := id hL0
  have hC := p_WH hW2 hH2
  refine k_an ?_
  refine k_of rfl rfl (Nat.le_of_ble_eq_true rfl) ?_
  refine r_al rfl rfl ?_
  refine r_gf rfl hk0.1 rfl rfl ?_
  refine r_cs1 rfl rfl rfl rfl (c_startOn (c := fN) (by omega)) ?_
  refine r_is3 rfl rfl ?_
  refine r_ic rfl ?_
  refine r_is4 rfl rfl ?_
  exact c_fillMended_l hL0 hk0 hc hsa hd0 hdr hfN hf9 N 0 M _ (by omega) ⟨.rf, rw0, r0, fun j hj => by omega⟩
set_option maxRecDepth 20000 in
theorem c_mended_p {fN b : Nat} (hL0 : x_L M W H L hs) (hk0 : k_C M c sa (fN : Int) (b : Int) N cs g s) (hc : c < 25) (hsa : sa < 25) (hfN : fN < W * H) (hb : b < W * H) {i : Nat} (hi : i < N) {Q : Option Value → ZM → Prop} (hx : ∀ (M1 : ZM) (x : Option Value), (z_ev M M1 (fun k => k = 32) ∧ ∃ df, M1[32]? = some (zA 4225 df) ∧ ∀ j q, i ≤ j → j ≤ N → q < (13 * (W * H)) → df (325 * j + q) = zI (p_D (p_aC W H L hs) 1000 b N s (N - j) q : Int)) → z_R S (d + 5) 51 70 [some (.ref 25), some (.ref 1), some (.ref c), some (.int (zI (N : Int))), some (.int (zI ((i : Int) - 1))), x] [] M1 Q) : ∀ (m p : Nat) (M1 : ZM), p + m = (13 * (W * H)) → (z_ev M M1 (fun k => k = 32) ∧ ∃ df, M1[32]? = some (zA 4225 df) ∧ (∀ j q, i < j → j ≤ N → q < (13 * (W * H)) → df (325 * j + q) = zI (p_D (p_aC W H L hs) 1000 b N s (N - j) q : Int)) ∧ ∀ q, q < p → df (325 * i + q) = zI (p_D (p_aC W H L hs) 1000 b N s (N - i) q : Int)) → z_R S (d + 5) 51 78 [some (.ref 25), some (.ref 1), some (.ref c), some (.int (zI (N : Int))), some (.int (zI (i : Int))), some (.int (zI (p : Int)))] [] M1 Q := by
  intro m
  induction m with
  | zero =>
    intro p M1 hp9 hI
    obtain ⟨he, df, hd, hdr⟩ := hI
    have hL := hL0.ev he (by decide) (by decide)
    have hk := hk0.ev he (by omega) (by omega)
    obtain ⟨l1, ⟨⟨hW1, hW2⟩, ⟨hH1, hH2⟩, hL1, hL2⟩, -⟩ := id hL
    have hC := p_WH hW2 hH2
    obtain ⟨q1, q2, q3, q4, q5⟩ := id hk
    refine r_il rfl rfl ?_
    refine r_al rfl rfl ?_
    refine r_gf rfl l1 rfl rfl ?_
    refine r_icT rfl (zcT3 ⟨by omega, by omega⟩ ⟨by omega, by omega⟩ (by omega)) ?_
    refine r_jj4 rfl rfl ?_
    refine r_goto rfl ?_
    rw [show (i : Int) + -1 = (i : Int) - 1 by omega]
    refine hx M1 _ ⟨he, df, hd, fun j q h1 h2 h3 => ?_⟩
    by_cases e : j = i
    · subst e
      exact hdr.2 q (by omega)
    · exact hdr.1 j q (by omega) h2 h3
  | succ m ih =>
    intro p M1 hp9 hI
    obtain ⟨he, df, hd, hdr⟩ := hI
    have hL := hL0.ev he (by decide) (by decide)
    have hk := hk0.ev he (by omega) (by omega)
    obtain ⟨l1, ⟨⟨hW1, hW2⟩, ⟨hH1, hH2⟩, hL1, hL2⟩, -⟩ := id hL
    have hC := p_WH hW2 hH2
    obtain ⟨q1, q2, q3, q4, q5⟩ := id hk
    refine r_il rfl rfl ?_
    refine r_al rfl rfl ?_
    refine r_gf rfl l1 rfl rfl ?_
    refine r_icF rfl (zcF3 ⟨by omega, by omega⟩ ⟨by omega, by omega⟩ (by omega)) ?_
    refine r_al rfl rfl ?_
    refine r_gf rfl l1 rfl rfl ?_
    refine r_il rfl rfl ?_
    refine r_ic rfl ?_
    refine r_mulI rfl ?_
    refine r_il rfl rfl ?_
    refine r_addI rfl ?_
    refine r_al rfl rfl ?_
    refine r_al rfl rfl ?_
    refine r_il rfl rfl ?_
    refine r_il rfl rfl ?_
    refine r_cv3 rfl rfl l1 rfl (by decide) rfl (c_fewestFrom hL hk hd hi (Dn := (p_D (p_aC W H L hs) 1000 b N s (N - (i + 1)))) (p := p) (fun q hq => hdr.1 (i + 1) q (by omega) (by omega) hq) (fun q => p_D_le) (by omega)) ?_
    have e9 : p_mn (p_aC W H L hs) 1000 (p_D (p_aC W H L hs) 1000 b N s (N - (i + 1))) (s i) p 4 = p_D (p_aC W H L hs) 1000 b N s (N - i) p := by
      rw [show N - i = N - (i + 1) + 1 by omega]
      show _ = p_mn _ _ _ (s (N - (N - (i + 1) + 1))) p 4
      rw [show N - (N - (i + 1) + 1) = i by omega]
    rw [e9]
    refine r_iSI rfl hd (by omega) (by omega) (by omega) ?_
    refine r_jj5 rfl rfl ?_
    refine r_goto rfl ?_
    refine ih (p + 1) _ (by omega) ⟨he.tr (.set rfl), _, z_gs hd, fun j q h1 h2 h3 => ?_, fun q hq => ?_⟩
    · rw [show ((i : Int) * 325 + (p : Int)).toNat = 325 * i + p by omega, pk_un (by omega)]
      exact hdr.1 j q h1 h2 h3
    · rw [show ((i : Int) * 325 + (p : Int)).toNat = 325 * i + p by omega]
      by_cases e : q = p
      · subst e
        exact pk_us
      · rw [pk_un (by omega)]
        exact hdr.2 q (by omega)
set_option maxRecDepth 20000 in
theorem c_mended_l {fN b : Nat} (hL0 : x_L M W H L hs) (hk0 : k_C M c sa (fN : Int) (b : Int) N cs g s) (hc : c < 25) (hsa : sa < 25) (hfN : fN < W * H) (hb : b < W * H) {rw0 : Nat → Int32} (r0 : M[26]? = some (zA 60 rw0)) : ∀ (i : Nat) (M1 : ZM) (x : Option Value), i ≤ N → (z_ev M M1 (fun k => k = 32) ∧ ∃ df, M1[32]? = some (zA 4225 df) ∧ ∀ j q, i ≤ j → j ≤ N → q < (13 * (W * H)) → df (325 * j + q) = zI (p_D (p_aC W H L hs) 1000 b N s (N - j) q : Int)) → z_R S (d + 5) 51 70 [some (.ref 25), some (.ref 1), some (.ref c), some (.int (zI (N : Int))), some (.int (zI ((i : Int) - 1))), x] [] M1 (fun r M2 => r = some (.int (zI (if 1000 ≤ p_D (p_aC W H L hs) 1000 b N s N (13 * fN) then -9 else (p_D (p_aC W H L hs) 1000 b N s N (13 * fN) : Int)))) ∧ z_ev M M2 (fun k => k = 26 ∨ k = 32) ∧ (∃ df, M2[32]? = some (zA 4225 df)) ∧ ∃ rw, M2[26]? = some (zA 60 rw) ∧ (p_D (p_aC W H L hs) 1000 b N s N (13 * fN) < 1000 → ∀ j, j < N → rw j = zI (p_mk (p_aC W H L hs) b N s j (p_mp (p_aC W H L hs) b N s (13 * fN) j) : Int))) := by
  intro i
  induction i with
  | zero =>
    intro M1 x hi9 hI
    obtain ⟨he, df, hd, hdr⟩ := hI
    have hL := hL0.ev he (by decide) (by decide)
    have hk := hk0.ev he (by omega) (by omega)
    obtain ⟨l1, ⟨⟨hW1, hW2⟩, ⟨hH1, hH2⟩, hL1, hL2⟩, -⟩ := id hL
    have hC := p_WH hW2 hH2
    obtain ⟨q1, q2, q3, q4, q5⟩ := id hk
    refine r_il rfl rfl ?_
    refine r_ifT rfl (zcT2 ⟨by omega, by omega⟩ ⟨by omega, by omega⟩ (by omega)) ?_
    refine r_al rfl rfl ?_
    refine r_gf rfl l1 rfl rfl ?_
    refine r_al rfl rfl ?_
    refine r_gf rfl q1 rfl rfl ?_
    refine r_cs1 rfl rfl rfl rfl (c_startOn (c := fN) (by omega)) ?_
    refine r_iaI rfl (by decide) hd (by omega) (by omega) (by omega) ?_
    rw [Int.toNat_natCast, show 13 * fN = 325 * 0 + 13 * fN by omega, hdr 0 (13 * fN) (by omega) (by omega) (by omega), Nat.sub_zero, show 325 * 0 + 13 * fN = 13 * fN by omega]
    have l9 := p_D_le (a := p_aC W H L hs) (F := 1000) (b := b) (m := N) (st := s) (r := N) (p := 13 * fN)
    refine r_is4 rfl rfl ?_
    refine r_il rfl rfl ?_
    refine r_ic rfl ?_
    by_cases h9 : 1000 ≤ p_D (p_aC W H L hs) 1000 b N s N (13 * fN)
    · rw [if_pos h9]
      refine r_icF rfl (zcF2 ⟨by omega, by omega⟩ ⟨by omega, by omega⟩ (by omega)) ?_
      refine r_ic rfl ?_
      refine r_reti rfl rfl ?_
      exact ⟨rfl, he.wk (fun k g => Or.inr g), ⟨df, hd⟩, rw0, (he.2 26 (by decide)).trans r0, fun g => by omega⟩
    · rw [if_neg h9]
      obtain ⟨M2, k2, e2, rw, r3, r4⟩ := c_fillMended (S := S) (d := d) hL hk hc hsa hd (fun j q h2 h3 => hdr j q (by omega) h2 h3) hfN (by omega) ((he.2 26 (by decide)).trans r0)
      refine r_icT rfl (zcT2 ⟨by omega, by omega⟩ ⟨by omega, by omega⟩ (by omega)) ?_
      refine r_al rfl rfl ?_
      refine r_al rfl rfl ?_
      refine r_il rfl rfl ?_
      refine r_cv2v rfl rfl l1 rfl (by decide) rfl (k2) ?_
      refine r_il rfl rfl ?_
      refine r_reti rfl rfl ?_
      exact ⟨rfl, (he.wk (fun k g => Or.inr g)).tr (e2.wk (fun k g => Or.inl g)), ⟨df, (e2.2 32 (by decide)).trans hd⟩, rw, r3, fun _ => r4⟩
  | succ i ih =>
    intro M1 x hi9 hI
    obtain ⟨he, df, hd, hdr⟩ := hI
    have hL := hL0.ev he (by decide) (by decide)
    have hk := hk0.ev he (by omega) (by omega)
    obtain ⟨l1, ⟨⟨hW1, hW2⟩, ⟨hH1, hH2⟩, hL1, hL2⟩, -⟩ := id hL
    have hC := p_WH hW2 hH2
    obtain ⟨q1, q2, q3, q4, q5⟩ := id hk
    refine r_il rfl rfl ?_
    refine r_ifF rfl (zcF2 ⟨by omega, by omega⟩ ⟨by omega, by omega⟩ (by omega)) ?_
    refine r_ic rfl ?_
    refine r_is5 rfl rfl ?_
    rw [show ((i + 1 : Nat) : Int) - 1 = (i : Int) by omega]
    exact c_mended_p hL0 hk0 hc hsa hfN hb (i := i) (by omega) (fun M2 x2 hI2 => ih M2 x2 (by omega) hI2) (13 * (W * H)) 0 M1 (by omega) ⟨he, df, hd, fun j q h1 h2 h3 => hdr j q (by omega) h2 h3, fun q hq => by omega⟩
set_option maxRecDepth 20000 in
theorem c_mended_b {fN b : Nat} (hL0 : x_L M W H L hs) (hk0 : k_C M c sa (fN : Int) (b : Int) N cs g s) (hc : c < 25) (hsa : sa < 25) (hfN : fN < W * H) (hb : b < W * H) {rw0 : Nat → Int32} (r0 : M[26]? = some (zA 60 rw0)) : ∀ (m p : Nat) (M1 : ZM) (x : Option Value), p + m = (13 * (W * H)) → (z_ev M M1 (fun k => k = 32) ∧ ∃ df, M1[32]? = some (zA 4225 df) ∧ ∀ q, q < p → df (325 * N + q) = zI (p_D (p_aC W H L hs) 1000 b N s 0 q : Int)) → z_R S (d + 5) 51 18 [some (.ref 25), some (.ref 1), some (.ref c), some (.int (zI (N : Int))), some (.int (zI (p : Int))), x] [] M1 (fun r M2 => r = some (.int (zI (if 1000 ≤ p_D (p_aC W H L hs) 1000 b N s N (13 * fN) then -9 else (p_D (p_aC W H L hs) 1000 b N s N (13 * fN) : Int)))) ∧ z_ev M M2 (fun k => k = 26 ∨ k = 32) ∧ (∃ df, M2[32]? = some (zA 4225 df)) ∧ ∃ rw, M2[26]? = some (zA 60 rw) ∧ (p_D (p_aC W H L hs) 1000 b N s N (13 * fN) < 1000 → ∀ j, j < N → rw j = zI (p_mk (p_aC W H L hs) b N s j (p_mp (p_aC W H L hs) b N s (13 * fN) j) : Int))) := by
  intro m
  induction m with
  | zero =>
    intro p M1 x hp9 hI
    obtain ⟨he, df, hd, hdr⟩ := hI
    have hL := hL0.ev he (by decide) (by decide)
    have hk := hk0.ev he (by omega) (by omega)
    obtain ⟨l1, ⟨⟨hW1, hW2⟩, ⟨hH1, hH2⟩, hL1, hL2⟩, -⟩ := id hL
    have hC := p_WH hW2 hH2
    obtain ⟨q1, q2, q3, q4, q5⟩ := id hk
    refine r_il rfl rfl ?_
    refine r_al rfl rfl ?_
    refine r_gf rfl l1 rfl rfl ?_
    refine r_icT rfl (zcT3 ⟨by omega, by omega⟩ ⟨by omega, by omega⟩ (by omega)) ?_
    refine r_il rfl rfl ?_
    refine r_ic rfl ?_
    refine r_subI rfl ?_
    refine r_is4 rfl rfl ?_
    refine c_mended_l hL0 hk0 hc hsa hfN hb r0 N M1 _ (Nat.le_refl N) ⟨he, df, hd, fun j q h1 h2 h3 => ?_⟩
    rw [show j = N by omega, Nat.sub_self]
    exact hdr q (by omega)
  | succ m ih =>
    intro p M1 x hp9 hI
    obtain ⟨he, df, hd, hdr⟩ := hI
    have hL := hL0.ev he (by decide) (by decide)
    have hk := hk0.ev he (by omega) (by omega)
    obtain ⟨l1, ⟨⟨hW1, hW2⟩, ⟨hH1, hH2⟩, hL1, hL2⟩, -⟩ := id hL
    have hC := p_WH hW2 hH2
    obtain ⟨q1, q2, q3, q4, q5⟩ := id hk
    refine r_il rfl rfl ?_
    refine r_al rfl rfl ?_
    refine r_gf rfl l1 rfl rfl ?_
    refine r_icF rfl (zcF3 ⟨by omega, by omega⟩ ⟨by omega, by omega⟩ (by omega)) ?_
    refine r_al rfl rfl ?_
    refine r_gf rfl l1 rfl rfl ?_
    refine r_il rfl rfl ?_
    refine r_ic rfl ?_
    refine r_mulI rfl ?_
    refine r_il rfl rfl ?_
    refine r_addI rfl ?_
    refine r_il rfl rfl ?_
    refine r_ic rfl ?_
    refine r_divI rfl (⟨by omega, by omega⟩) (⟨by omega, by omega⟩) ?_
    refine r_al rfl rfl ?_
    refine r_gf rfl q1 rfl rfl ?_
    by_cases h9 : (p : Int) / 13 = (b : Int)
    · refine r_icF rfl (zcF1 (h9)) ?_
      refine r_ic rfl ?_
      refine r_goto rfl ?_
      rw [show zI 0 = zI (p_D (p_aC W H L hs) 1000 b N s 0 p : Int) by rw [show p_D (p_aC W H L hs) 1000 b N s 0 p = 0 from if_pos (by omega)]; rfl]
      refine r_iSI rfl hd (by omega) (by omega) (by omega) ?_
      refine r_jj4 rfl rfl ?_
      refine r_goto rfl ?_
      refine ih (p + 1) _ _ (by omega) ⟨he.tr (.set rfl), _, z_gs hd, fun q hq => ?_⟩
      rw [show ((N : Int) * 325 + (p : Int)).toNat = 325 * N + p by omega]
      by_cases e : q = p
      · subst e
        exact pk_us
      · rw [pk_un (by omega)]
        exact hdr q (by omega)
    · refine r_icT rfl (zcT1 ⟨by omega, by omega⟩ ⟨by omega, by omega⟩ (h9)) ?_
      refine r_ic rfl ?_
      rw [show zI 1000 = zI (p_D (p_aC W H L hs) 1000 b N s 0 p : Int) by rw [show p_D (p_aC W H L hs) 1000 b N s 0 p = 1000 from if_neg (by omega)]; rfl]
      refine r_iSI rfl hd (by omega) (by omega) (by omega) ?_
      refine r_jj4 rfl rfl ?_
      refine r_goto rfl ?_
      refine ih (p + 1) _ _ (by omega) ⟨he.tr (.set rfl), _, z_gs hd, fun q hq => ?_⟩
      rw [show ((N : Int) * 325 + (p : Int)).toNat = 325 * N + p by omega]
      by_cases e : q = p
      · subst e
        exact pk_us
      · rw [pk_un (by omega)]
        exact hdr q (by omega)
theorem c_mended {nc fN b : Nat} (hO : k_O M 1 W H L hs nc lot) (hW : x_W M) (hk : k_C M c sa (fN : Int) (b : Int) N cs g s) (hc : c < 25) (hsa : sa < 25) (hfN : fN < W * H) (hb : b < W * H) : ∃ M', z_C S (d + 5) 51 [.ref 25, .ref 1, .ref c] M (some (.int (zI (if 1000 ≤ p_D (p_aC W H L hs) 1000 b N s N (13 * fN) then -9 else (p_D (p_aC W H L hs) 1000 b N s N (13 * fN) : Int))))) M' ∧ z_ev M M' (fun k => 25 ≤ k ∧ k < 33) ∧ x_W M' ∧ ∃ rw, M'[26]? = some (zA 60 rw) ∧ (p_D (p_aC W H L hs) 1000 b N s N (13 * fN) < 1000 → ∀ j, j < N → rw j = zI (p_mk (p_aC W H L hs) b N s j (p_mp (p_aC W H L hs) b N s (13 * fN) j) : Int)) := by
  obtain ⟨o1, ⟨hW1, hW2⟩, ⟨hH1, hH2⟩, ⟨hL1, hL2⟩, hn9⟩ := id hO
  have hC := p_WH hW2 hH2
  obtain ⟨⟨i1, i2, w1⟩, ⟨f26, v26⟩, ⟨f27, v27⟩, ⟨f28, v28⟩, ⟨f29, v29⟩, ⟨f30, v30⟩, ⟨f31, v31⟩, f32, v32⟩ := id hW
  obtain ⟨q1, q2, q3, q4, q5⟩ := id hk
  refine k_an ?_
  refine k_of rfl rfl (Nat.le_of_ble_eq_true rfl) ?_
  refine r_al rfl rfl ?_
  refine r_al rfl rfl ?_
  obtain ⟨M1, k1, e1, hL⟩ := c_lookAt (S := S) (d := d + 1) hO hW
  have hk1 := hk.ev e1 (by omega) (by omega)
  refine r_cv1v rfl rfl w1 rfl (by decide) rfl (k1) ?_
  refine r_al rfl rfl ?_
  refine r_gf rfl hk1.1 rfl rfl ?_
  refine r_ic rfl ?_
  refine r_min rfl rfl ?_
  rw [show (12 : Int) = ((12 : Nat) : Int) from rfl, z_min (by omega) (by omega), show min N 12 = N by omega]
  refine r_is3 rfl rfl ?_
  refine r_ic rfl ?_
  refine r_is4 rfl rfl ?_
  refine r_of (c_mended_b hL hk1 hc hsa hfN hb ((e1.2 26 (by decide)).trans v26) (13 * (W * H)) 0 M1 _ (by omega) ⟨.rf, f32, (e1.2 32 (by decide)).trans v32, fun q hq => by omega⟩) (fun r M' hq => ?_)
  obtain ⟨a1, a2, a3, rw, a4, a5⟩ := hq
  obtain ⟨l1, l2, nb, l3, l4⟩ := hL
  exact ⟨a1, (e1.wk (fun k g => by omega)).tr (a2.wk (fun k g => by omega)), ⟨⟨_, _, (a2.2 25 (by decide)).trans l1⟩, ⟨rw, a4⟩, ⟨nb, (a2.2 27 (by decide)).trans l3⟩, ⟨f28, (a2.2 28 (by decide)).trans ((e1.2 28 (by decide)).trans v28)⟩, ⟨f29, (a2.2 29 (by decide)).trans ((e1.2 29 (by decide)).trans v29)⟩, ⟨f30, (a2.2 30 (by decide)).trans ((e1.2 30 (by decide)).trans v30)⟩, ⟨f31, (a2.2 31 (by decide)).trans ((e1.2 31 (by decide)).trans v31)⟩, a3⟩, rw, a4, a5⟩
end MD
