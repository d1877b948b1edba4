/-! WIND: the reference's lines, harm, gusts -/
section WZ3
variable {S : ZS} {d : Nat} {M : ZM} {T : Nat} {tx : Nat → Int32} {W H L n : Nat} {hs lot : Int32} {kc : Nat → ZK} {im : Nat → Option ZB} {tr : Int64} {op : Int32} {nR : Nat}
set_option maxRecDepth 20000 in
theorem m_fLs_i {v wd hd ld nw : Nat → Int32} (hY : m_Y M tr v wd hd ld nw W H L hs lot n kc) {y : Nat} (hy : y < H) {R Tot : List (Nat × Nat)} (hTl : Tot.length ≤ 30) (hTn : Tot.length ≤ nR) {Q : Option Value → ZM → Prop} (hx : ∀ (M1 : ZM) (l : List (Nat × Nat)) (x3 : Option Value), (z_ev M M1 (fun k => k = 62 ∨ (73 ≤ k ∧ k < 76)) ∧ ∃ v1, (∀ j, j ≠ 21 → v1 j = v j) ∧ y_K M1 tr v1 l nR) → l ++ R = Tot → z_R S (d + 4) 144 7 [some (.ref 62), some (.int op), some (.int (zI ((W * (y + 1) : Nat) : Int))), x3] [] M1 Q) : ∀ (k i : Nat) (l : List (Nat × Nat)) (M1 : ZM) (x3 : Option Value), i + k = W → (z_ev M M1 (fun k => k = 62 ∨ (73 ≤ k ∧ k < 76)) ∧ ∃ v1, (∀ j, j ≠ 21 → v1 j = v j) ∧ y_K M1 tr v1 l nR) → (l ++ (w_R (fun i => bt op (W * y + i)) k i (w_p (fun i => bt op (W * y + i)) i)).map (fun x : Nat × Nat => (W * y + x.1, x.2))) ++ R = Tot → z_R S (d + 4) 144 7 [some (.ref 62), some (.int op), some (.int (zI ((W * y + i : Nat) : Int))), x3] [] M1 Q := by
  intro k
  induction k with
  | zero =>
    intro i l M1 x3 hi hI hT
    obtain ⟨he, v1, hv1, hK⟩ := id hI
    obtain ⟨g62, g21, -⟩ := id hK
    have h := hY.v he (fun k x1 x2 => by omega) g62
    obtain ⟨⟨h1, h2, h3, h4, h5⟩, ⟨w1, w2, w3⟩, ⟨⟨hW1, hW2⟩, ⟨hH1, hH2⟩, ⟨hL1, hL2⟩, hn⟩, ⟨a1, a2, a3, a4⟩, hok⟩ := id h
    have hC := p_WH hW2 hH2
    rw [show W * y + i = W * (y + 1) by rw [Nat.mul_succ]; omega]
    exact hx M1 l x3 hI (by rw [← hT, show (w_R (fun i => bt op (W * y + i)) 0 i (w_p (fun i => bt op (W * y + i)) i)) = [] from rfl, List.map_nil, List.append_nil])
  | succ k ih =>
    intro i l M1 x3 hi hI hT
    obtain ⟨he, v1, hv1, hK⟩ := id hI
    obtain ⟨g62, g21, -⟩ := id hK
    have h := hY.v he (fun k x1 x2 => by omega) g62
    obtain ⟨⟨h1, h2, h3, h4, h5⟩, ⟨w1, w2, w3⟩, ⟨⟨hW1, hW2⟩, ⟨hH1, hH2⟩, ⟨hL1, hL2⟩, hn⟩, ⟨a1, a2, a3, a4⟩, hok⟩ := id h
    have hC := p_WH hW2 hH2
    have hc9 := w_cell (W := W) (H := H) hy (show i < W by omega)
    have hT2 := w_R_s (b := (fun i => bt op (W * y + i))) (e := fun i => W * y + i) (l := l) (k := k) (i := i)
    have hroom : bt op (W * y + i) = true ∧ ¬ w_p (fun i => bt op (W * y + i)) i = true → l.length < 60 ∧ (if l.length < nR then (0 : Int) else 1) = 0 := fun g => by
      rw [if_pos g] at hT2
      have t := congrArg List.length hT
      rw [List.length_append, ← hT2, List.length_append, List.length_append] at t
      have t2 : [(W * y + i, w_rn (fun i => bt op (W * y + i)) (k + 1) i)].length = 1 := rfl
      rw [t2] at t
      refine ⟨by omega, ?_⟩
      exact if_pos (by omega)
    obtain ⟨M2, k2, hI2⟩ := m_findLine0 (S := S) (d := d) (op := op) hY (w_strip_r hW2 hy) (i := i) (by omega) hI hroom
    rw [show W - i = k + 1 by omega] at hI2
    refine r_il rfl rfl ?_
    refine r_al rfl rfl ?_
    refine r_cv0 rfl rfl h1 rfl (by decide) rfl (m_cells h) ?_
    refine r_icF rfl (zcF3 ⟨by omega, by omega⟩ ⟨by omega, by omega⟩ (by omega)) ?_
    refine r_al rfl rfl ?_
    refine r_il rfl rfl ?_
    refine r_il rfl rfl ?_
    refine r_ic rfl ?_
    refine r_cv3v rfl rfl h1 rfl (by decide) rfl (k2) ?_
    refine r_jj2 rfl rfl ?_
    refine r_goto rfl ?_
    refine ih (i + 1) _ M2 _ (by omega) hI2 ?_
    rw [hT2]
    exact hT
set_option maxRecDepth 20000 in
theorem m_fLs_r {v wd hd ld nw : Nat → Int32} (hY : m_Y M tr v wd hd ld nw W H L hs lot n kc) {Q : Option Value → ZM → Prop} (hx : ∀ (M1 : ZM) (x2 x3 : Option Value), (z_ev M M1 (fun k => k = 62 ∨ (73 ≤ k ∧ k < 76)) ∧ ∃ v1, (∀ j, j ≠ 21 → v1 j = v j) ∧ y_K M1 tr v1 (w_rows op W H 0) (w_rows op W H 0).length) → z_R S (d + 4) 144 28 [some (.ref 62), some (.int op), x2, x3] [] M1 Q) : ∀ (k y : Nat) (l : List (Nat × Nat)) (M1 : ZM) (x3 : Option Value), y + k = H → (z_ev M M1 (fun k => k = 62 ∨ (73 ≤ k ∧ k < 76)) ∧ ∃ v1, (∀ j, j ≠ 21 → v1 j = v j) ∧ y_K M1 tr v1 l (w_rows op W H 0).length) → l ++ w_rows op W k y = w_rows op W H 0 → z_R S (d + 4) 144 7 [some (.ref 62), some (.int op), some (.int (zI ((W * y : Nat) : Int))), x3] [] M1 Q := by
  intro k
  induction k with
  | zero =>
    intro y l M1 x3 hy hI hl
    obtain ⟨he, v1, hv1, hK⟩ := id hI
    obtain ⟨g62, g21, -⟩ := id hK
    have h := hY.v he (fun k x1 x2 => by omega) g62
    obtain ⟨⟨h1, h2, h3, h4, h5⟩, ⟨w1, w2, w3⟩, ⟨⟨hW1, hW2⟩, ⟨hH1, hH2⟩, ⟨hL1, hL2⟩, hn⟩, ⟨a1, a2, a3, a4⟩, hok⟩ := id h
    have hC := p_WH hW2 hH2
    rw [show l ++ w_rows op W 0 y = l from List.append_nil l] at hl
    subst hl
    obtain rfl : y = H := by omega
    refine r_il rfl rfl ?_
    refine r_al rfl rfl ?_
    refine r_cv0 rfl rfl h1 rfl (by decide) rfl (m_cells h) ?_
    refine r_icT rfl (zcT3 ⟨by omega, by omega⟩ ⟨by omega, by omega⟩ (by omega)) ?_
    exact hx M1 _ _ hI
  | succ k ih =>
    intro y l M1 x3 hy hI hl
    obtain ⟨he, v1, hv1, hK⟩ := id hI
    obtain ⟨g62, g21, -⟩ := id hK
    have h := hY.v he (fun k x1 x2 => by omega) g62
    obtain ⟨⟨h1, h2, h3, h4, h5⟩, ⟨w1, w2, w3⟩, ⟨⟨hW1, hW2⟩, ⟨hH1, hH2⟩, ⟨hL1, hL2⟩, hn⟩, ⟨a1, a2, a3, a4⟩, hok⟩ := id h
    have hC := p_WH hW2 hH2
    have hr := (w_all_in (op := op) hW2 hH2).2.1
    have t := m_fLs_i (S := S) (d := d) (op := op) hY (y := y) (by omega) (R := w_rows op W k (y + 1)) (Tot := w_rows op W H 0) (by omega) (Nat.le_refl _) (fun M2 l2 x3 hI2 hT2 => ih (y + 1) l2 M2 x3 (by omega) hI2 hT2) W 0 l M1 x3 (by omega) hI (by rw [← hl, List.append_assoc]; rfl)
    exact t
set_option maxRecDepth 20000 in
theorem m_fLs_j {v wd hd ld nw : Nat → Int32} (hY : m_Y M tr v wd hd ld nw W H L hs lot n kc) {x : Nat} (hx9 : x < W) {R Tot : List (Nat × Nat)} (hTl : Tot.length ≤ 30) {Q : Option Value → ZM → Prop} (hx : ∀ (M1 : ZM) (l : List (Nat × Nat)) (x3 : Option Value), (z_ev M M1 (fun k => k = 62 ∨ (73 ≤ k ∧ k < 76)) ∧ ∃ v1, (∀ j, j ≠ 21 → v1 j = v j) ∧ y_K M1 tr v1 l nR) → nR ≤ l.length → l ++ R = Tot → z_R S (d + 4) 144 30 [some (.ref 62), some (.int op), some (.int (zI ((x + 1 : Nat) : Int))), x3] [] M1 Q) : ∀ (k i : Nat) (l : List (Nat × Nat)) (M1 : ZM), i + k = H → (z_ev M M1 (fun k => k = 62 ∨ (73 ≤ k ∧ k < 76)) ∧ ∃ v1, (∀ j, j ≠ 21 → v1 j = v j) ∧ y_K M1 tr v1 l nR) → nR ≤ l.length → (l ++ (w_R (fun i => bt op (W * i + x)) k i (w_p (fun i => bt op (W * i + x)) i)).map (fun z : Nat × Nat => (W * z.1 + x, z.2))) ++ R = Tot → z_R S (d + 4) 144 42 [some (.ref 62), some (.int op), some (.int (zI (x : Int))), some (.int (zI (i : Int)))] [] M1 Q := by
  intro k
  induction k with
  | zero =>
    intro i l M1 hi hI hn9 hT
    obtain ⟨he, v1, hv1, hK⟩ := id hI
    obtain ⟨g62, g21, -⟩ := id hK
    have h := hY.v he (fun k x1 x2 => by omega) g62
    obtain ⟨⟨h1, h2, h3, h4, h5⟩, ⟨w1, w2, w3⟩, ⟨⟨hW1, hW2⟩, ⟨hH1, hH2⟩, ⟨hL1, hL2⟩, hn⟩, ⟨a1, a2, a3, a4⟩, hok⟩ := id h
    have hC := p_WH hW2 hH2
    refine r_il rfl rfl ?_
    refine r_al rfl rfl ?_
    refine r_gf rfl h1 rfl rfl ?_
    refine r_ic rfl ?_
    refine r_iaI rfl (by decide) h3 (by omega) (by omega) (by omega) ?_
    rw [show (0 : Int).toNat = 0 from rfl, w2]
    refine r_icT rfl (zcT3 ⟨by omega, by omega⟩ ⟨by omega, by omega⟩ (by omega)) ?_
    refine r_jj2 rfl rfl ?_
    refine r_goto rfl ?_
    exact hx M1 l _ hI hn9 (by rw [← hT, show (w_R (fun i => bt op (W * i + x)) 0 i (w_p (fun i => bt op (W * i + x)) i)) = [] from rfl, List.map_nil, List.append_nil])
  | succ k ih =>
    intro i l M1 hi hI hn9 hT
    obtain ⟨he, v1, hv1, hK⟩ := id hI
    obtain ⟨g62, g21, -⟩ := id hK
    have h := hY.v he (fun k x1 x2 => by omega) g62
    obtain ⟨⟨h1, h2, h3, h4, h5⟩, ⟨w1, w2, w3⟩, ⟨⟨hW1, hW2⟩, ⟨hH1, hH2⟩, ⟨hL1, hL2⟩, hn⟩, ⟨a1, a2, a3, a4⟩, hok⟩ := id h
    have hC := p_WH hW2 hH2
    have hc9 := w_cell (W := W) (H := H) (show i < H by omega) hx9
    have hT2 := w_R_s (b := (fun i => bt op (W * i + x))) (e := fun i => W * i + x) (l := l) (k := k) (i := i)
    have hroom : bt op (W * i + x) = true ∧ ¬ w_p (fun i => bt op (W * i + x)) i = true → l.length < 60 ∧ (if l.length < nR then (0 : Int) else 1) = 1 := fun g => by
      rw [if_pos g] at hT2
      have t := congrArg List.length hT
      rw [List.length_append, ← hT2, List.length_append, List.length_append] at t
      have t2 : [(W * i + x, w_rn (fun i => bt op (W * i + x)) (k + 1) i)].length = 1 := rfl
      rw [t2] at t
      refine ⟨by omega, ?_⟩
      exact if_neg (by omega)
    obtain ⟨M2, k2, hI2⟩ := m_findLine1 (S := S) (d := d) (op := op) hY (w_strip_c hH2 hx9) (i := i) (by omega) hI hroom
    rw [show H - i = k + 1 by omega] at hI2
    refine r_il rfl rfl ?_
    refine r_al rfl rfl ?_
    refine r_gf rfl h1 rfl rfl ?_
    refine r_ic rfl ?_
    refine r_iaI rfl (by decide) h3 (by omega) (by omega) (by omega) ?_
    rw [show (0 : Int).toNat = 0 from rfl, w2]
    refine r_icF rfl (zcF3 ⟨by omega, by omega⟩ ⟨by omega, by omega⟩ (by omega)) ?_
    refine r_al rfl rfl ?_
    refine r_al rfl rfl ?_
    refine r_gf rfl h1 rfl rfl ?_
    refine r_ic rfl ?_
    refine r_iaI rfl (by decide) h2 (by omega) (by omega) (by omega) ?_
    rw [show (0 : Int).toNat = 0 from rfl, w1]
    refine r_il rfl rfl ?_
    refine r_mulI rfl ?_
    refine r_il rfl rfl ?_
    refine r_addI rfl ?_
    refine r_il rfl rfl ?_
    refine r_ic rfl ?_
    rw [show (W : Int) * (i : Int) + (x : Int) = ((W * i + x : Nat) : Int) by omega]
    refine r_cv3v rfl rfl h1 rfl (by decide) rfl (k2) ?_
    refine r_jj3 rfl rfl ?_
    refine r_goto rfl ?_
    refine ih (i + 1) _ M2 (by omega) hI2 ?_ ?_
    · split
      · rw [List.length_append]
        omega
      · exact hn9
    · rw [hT2]
      exact hT
set_option maxRecDepth 20000 in
theorem m_fLs_c {v wd hd ld nw : Nat → Int32} (hY : m_Y M tr v wd hd ld nw W H L hs lot n kc) : ∀ (k x : Nat) (l : List (Nat × Nat)) (M1 : ZM) (x3 : Option Value), x + k = W → (z_ev M M1 (fun k => k = 62 ∨ (73 ≤ k ∧ k < 76)) ∧ ∃ v1, (∀ j, j ≠ 21 → v1 j = v j) ∧ y_K M1 tr v1 l (w_rows op W H 0).length) → (w_rows op W H 0).length ≤ l.length → l ++ w_cols op W H k x = w_all op W H → z_R S (d + 4) 144 30 [some (.ref 62), some (.int op), some (.int (zI (x : Int))), x3] [] M1 (fun r M2 => r = none ∧ z_ev M M2 (fun k => k = 62 ∨ (73 ≤ k ∧ k < 76)) ∧ ∃ v1, (∀ j, j ≠ 21 → v1 j = v j) ∧ y_K M2 tr v1 (w_all op W H) (w_rows op W H 0).length) := by
  intro k
  induction k with
  | zero =>
    intro x l M1 x3 hx hI hn9 hl
    obtain ⟨he, v1, hv1, hK⟩ := id hI
    obtain ⟨g62, g21, -⟩ := id hK
    have h := hY.v he (fun k x1 x2 => by omega) g62
    obtain ⟨⟨h1, h2, h3, h4, h5⟩, ⟨w1, w2, w3⟩, ⟨⟨hW1, hW2⟩, ⟨hH1, hH2⟩, ⟨hL1, hL2⟩, hn⟩, ⟨a1, a2, a3, a4⟩, hok⟩ := id h
    have hC := p_WH hW2 hH2
    rw [show l ++ w_cols op W H 0 x = l from List.append_nil l] at hl
    subst hl
    refine r_il rfl rfl ?_
    refine r_al rfl rfl ?_
    refine r_gf rfl h1 rfl rfl ?_
    refine r_ic rfl ?_
    refine r_iaI rfl (by decide) h2 (by omega) (by omega) (by omega) ?_
    rw [show (0 : Int).toNat = 0 from rfl, w1]
    refine r_icT rfl (zcT3 ⟨by omega, by omega⟩ ⟨by omega, by omega⟩ (by omega)) ?_
    refine r_retv rfl rfl ?_
    exact ⟨rfl, hI⟩
  | succ k ih =>
    intro x l M1 x3 hx hI hn9 hl
    obtain ⟨he, v1, hv1, hK⟩ := id hI
    obtain ⟨g62, g21, -⟩ := id hK
    have h := hY.v he (fun k x1 x2 => by omega) g62
    obtain ⟨⟨h1, h2, h3, h4, h5⟩, ⟨w1, w2, w3⟩, ⟨⟨hW1, hW2⟩, ⟨hH1, hH2⟩, ⟨hL1, hL2⟩, hn⟩, ⟨a1, a2, a3, a4⟩, hok⟩ := id h
    have hC := p_WH hW2 hH2
    refine r_il rfl rfl ?_
    refine r_al rfl rfl ?_
    refine r_gf rfl h1 rfl rfl ?_
    refine r_ic rfl ?_
    refine r_iaI rfl (by decide) h2 (by omega) (by omega) (by omega) ?_
    rw [show (0 : Int).toNat = 0 from rfl, w1]
    refine r_icF rfl (zcF3 ⟨by omega, by omega⟩ ⟨by omega, by omega⟩ (by omega)) ?_
    refine r_ic rfl ?_
    refine r_is3 rfl rfl ?_
    have hr := (w_all_in (op := op) hW2 hH2).2.2
    exact m_fLs_j (S := S) (d := d) (op := op) hY (x := x) (by omega) (R := w_cols op W H k (x + 1)) (Tot := w_all op W H) hr (fun M2 l2 x3 hI2 hn2 hT2 => ih (x + 1) l2 M2 x3 (by omega) hI2 hn2 hT2) H 0 l M1 (by omega) hI hn9 (by rw [← hl, List.append_assoc]; rfl)
theorem m_findLines {v wd hd ld nw : Nat → Int32} (hY : m_Y M tr v wd hd ld nw W H L hs lot n kc) {f73 f74 f75 : Nat → Int32} (r73 : M[73]? = some (zA 60 f73)) (r74 : M[74]? = some (zA 60 f74)) (r75 : M[75]? = some (zA 60 f75)) : ∃ M', z_C S (d + 4) 144 [.ref 62, .int op] M none M' ∧ z_ev M M' (fun k => k = 62 ∨ (73 ≤ k ∧ k < 76)) ∧ ∃ v1, (∀ j, j ≠ 21 → v1 j = v j) ∧ y_K M' tr v1 (w_all op W H) (w_rows op W H 0).length := by
  obtain ⟨⟨h1, h2, h3, h4, h5⟩, ⟨w1, w2, w3⟩, ⟨⟨hW1, hW2⟩, ⟨hH1, hH2⟩, ⟨hL1, hL2⟩, hn⟩, ⟨a1, a2, a3, a4⟩, hok⟩ := id hY
  have hC := p_WH hW2 hH2
  refine k_an ?_
  refine k_of rfl rfl (Nat.le_of_ble_eq_true rfl) ?_
  refine r_al rfl rfl ?_
  refine r_ic rfl ?_
  refine r_pf21 rfl h1 rfl rfl rfl (Or.inl rfl) ?_
  refine r_ic rfl ?_
  refine r_is2 rfl rfl ?_
  refine m_fLs_r (op := op) hY (fun M1 x2 x3 hI => ?_) H 0 [] _ _ (by omega) ⟨.set (Or.inl rfl), upd v 21 (zI 0), fun j hj => pk_un hj, z_gs h1, pk_us, f73, f74, f75, z_gn (by decide) r73, z_gn (by decide) r74, z_gn (by decide) r75, fun j x hx => (by cases hx), fun j hj => absurd hj (Nat.not_lt_zero _)⟩ rfl
  refine r_ic rfl ?_
  refine r_is2 rfl rfl ?_
  exact m_fLs_c (op := op) hY W 0 (w_rows op W H 0) M1 _ (by omega) hI (Nat.le_refl _) rfl
theorem m_harmOf {v wd hd ld nw : Nat → Int32} (hY : m_Y M tr v wd hd ld nw W H L hs lot n kc) {l : List (Nat × Nat)} (hK : y_K M tr v l nR) (hin : w_in l) (hlen : l.length ≤ 30) {j : Nat} (hj : j < l.length) : z_C S d 145 [.ref 62, .int (zI (j : Int))] M (some (.int (zI ((w_len l j - L : Nat) : Int)))) M := by
  obtain ⟨⟨h1, h2, h3, h4, h5⟩, ⟨w1, w2, w3⟩, ⟨⟨hW1, hW2⟩, ⟨hH1, hH2⟩, ⟨hL1, hL2⟩, hn⟩, ⟨a1, a2, a3, a4⟩, hok⟩ := id hY
  have hC := p_WH hW2 hH2
  obtain ⟨g62, g21, fs, ln, dn, g73, g74, g75, hl, hdn⟩ := id hK
  have b1 := hin.at hj
  refine c_of rfl rfl (Nat.le_of_ble_eq_true rfl) ?_
  refine g_al rfl rfl ?_
  refine g_gf rfl h1 rfl rfl ?_
  refine g_il rfl rfl ?_
  refine g_iaI rfl (by decide) g74 (by omega) (by omega) (by omega) ?_
  rw [Int.toNat_natCast, (hl.at hj).2]
  refine g_al rfl rfl ?_
  refine g_gf rfl h1 rfl rfl ?_
  refine g_ic rfl ?_
  refine g_iaI rfl (by decide) h4 (by omega) (by omega) (by omega) ?_
  rw [show (0 : Int).toNat = 0 from rfl, w3]
  by_cases hc : L < w_len l j
  · refine g_icF rfl (zcF5 ⟨by omega, by omega⟩ ⟨by omega, by omega⟩ (by omega)) ?_
    refine g_al rfl rfl ?_
    refine g_gf rfl h1 rfl rfl ?_
    refine g_il rfl rfl ?_
    refine g_iaI rfl (by decide) g74 (by omega) (by omega) (by omega) ?_
    rw [Int.toNat_natCast, (hl.at hj).2]
    refine g_al rfl rfl ?_
    refine g_gf rfl h1 rfl rfl ?_
    refine g_ic rfl ?_
    refine g_iaI rfl (by decide) h4 (by omega) (by omega) (by omega) ?_
    rw [show (0 : Int).toNat = 0 from rfl, w3]
    refine g_subI rfl ?_
    refine g_goto rfl ?_
    exact g_reti rfl (by rw [show ((w_len l j - L : Nat) : Int) = (w_len l j : Int) - (L : Int) by omega]) rfl
  · rw [show w_len l j - L = 0 by omega]
    refine g_icT rfl (zcT5 ⟨by omega, by omega⟩ ⟨by omega, by omega⟩ (by omega)) ?_
    refine g_ic rfl ?_
    exact g_reti rfl (rfl) rfl
theorem m_harmBy_l {v wd hd ld nw : Nat → Int32} (hY : m_Y M tr v wd hd ld nw W H L hs lot n kc) {l : List (Nat × Nat)} (hK : y_K M tr v l nR) (hin : w_in l) (hlen : l.length ≤ 30) {op : Int32} : ∀ (m j : Nat), j + m = l.length → z_G S (d + 1) 146 9 [some (.ref 62), some (.int op), some (.int (zI (w_hm L l j : Int))), some (.int (zI (j : Int)))] [] M (some (.int (zI (w_hm L l l.length : Int)))) M := by
  obtain ⟨⟨h1, h2, h3, h4, h5⟩, ⟨w1, w2, w3⟩, ⟨⟨hW1, hW2⟩, ⟨hH1, hH2⟩, ⟨hL1, hL2⟩, hn⟩, ⟨a1, a2, a3, a4⟩, hok⟩ := id hY
  have hC := p_WH hW2 hH2
  obtain ⟨g62, g21, fs, ln, dn, g73, g74, g75, hl, hdn⟩ := id hK
  intro m
  induction m with
  | zero =>
    intro j hj
    refine g_il rfl rfl ?_
    refine g_al rfl rfl ?_
    refine g_gf rfl h1 rfl rfl ?_
    rw [g21]
    refine g_icT rfl (zcT3 ⟨by omega, by omega⟩ ⟨by omega, by omega⟩ (by omega)) ?_
    refine g_il rfl rfl ?_
    exact g_reti rfl (by rw [show l.length = j by omega]) rfl
  | succ m ih =>
    intro j hj
    refine g_il rfl rfl ?_
    refine g_al rfl rfl ?_
    refine g_gf rfl h1 rfl rfl ?_
    rw [g21]
    refine g_icF rfl (zcF3 ⟨by omega, by omega⟩ ⟨by omega, by omega⟩ (by omega)) ?_
    refine g_il rfl rfl ?_
    refine g_al rfl rfl ?_
    refine g_il rfl rfl ?_
    refine g_cv1 rfl rfl h1 rfl (by decide) rfl (m_harmOf hY hK hin hlen (j := j) (by omega)) ?_
    refine g_addI rfl ?_
    refine g_is2 rfl rfl ?_
    refine g_jj3 rfl rfl ?_
    refine g_goto rfl ?_
    rw [← Int.natCast_add]
    exact ih (j + 1) (by omega)
theorem m_harmBy {v wd hd ld nw : Nat → Int32} (hY : m_Y M tr v wd hd ld nw W H L hs lot n kc) {f73 f74 f75 : Nat → Int32} (r73 : M[73]? = some (zA 60 f73)) (r74 : M[74]? = some (zA 60 f74)) (r75 : M[75]? = some (zA 60 f75)) : ∃ M', z_C S (d + 5) 146 [.ref 62, .int op] M (some (.int (zI (w_hm L (w_all op W H) (w_all op W H).length : Int)))) M' ∧ z_ev M M' (fun k => k = 62 ∨ (73 ≤ k ∧ k < 76)) ∧ ∃ v1, (∀ j, j ≠ 21 → v1 j = v j) ∧ y_K M' tr v1 (w_all op W H) (w_rows op W H 0).length := by
  obtain ⟨⟨h1, h2, h3, h4, h5⟩, ⟨w1, w2, w3⟩, ⟨⟨hW1, hW2⟩, ⟨hH1, hH2⟩, ⟨hL1, hL2⟩, hn⟩, ⟨a1, a2, a3, a4⟩, hok⟩ := id hY
  have hC := p_WH hW2 hH2
  refine k_an ?_
  refine k_of rfl rfl (Nat.le_of_ble_eq_true rfl) ?_
  obtain ⟨M2, k2, e2, v1, hv1, hK⟩ := m_findLines (S := S) (d := d) (op := op) hY r73 r74 r75
  have hM2 := hY.v e2 (fun k x1 x2 => by omega) hK.1
  obtain ⟨hin, -, hlen⟩ := w_all_in (op := op) hW2 hH2
  refine r_al rfl rfl ?_
  refine r_il rfl rfl ?_
  refine r_cv1v rfl rfl h1 rfl (by decide) rfl (k2) ?_
  refine r_ic rfl ?_
  refine r_is2 rfl rfl ?_
  refine r_ic rfl ?_
  refine r_is3 rfl rfl ?_
  exact ⟨_, _, m_harmBy_l hM2 hK hin hlen (w_all op W H).length 0 (by omega), rfl, e2, v1, hv1, hK⟩
theorem m_lines_l {v wd hd ld nw : Nat → Int32} (hY : m_Y M tr v wd hd ld nw W H L hs lot n kc) {l : List (Nat × Nat)} (hK : y_K M tr v l nR) (hin : w_in l) (hlen : l.length ≤ 30) {q hm : Int} {Q : Option Value → ZM → Prop} (hx : ∀ x4 : Option Value, z_R S d 147 70 [some (.ref 62), some (.int (zI q)), some (.int (zI hm)), some (.int (zI (if l.length = 0 then -9 else (w_lg (w_len l) l.length : Int)))), x4] [] M Q) : ∀ (m j : Nat), j + m = l.length → z_R S d 147 26 [some (.ref 62), some (.int (zI q)), some (.int (zI hm)), some (.int (zI (if j = 0 then -9 else (w_lg (w_len l) j : Int)))), some (.int (zI (j : Int)))] [] M Q := by
  obtain ⟨⟨h1, h2, h3, h4, h5⟩, ⟨w1, w2, w3⟩, ⟨⟨hW1, hW2⟩, ⟨hH1, hH2⟩, ⟨hL1, hL2⟩, hn⟩, ⟨a1, a2, a3, a4⟩, hok⟩ := id hY
  have hC := p_WH hW2 hH2
  obtain ⟨g62, g21, fs, ln, dn, g73, g74, g75, hl, hdn⟩ := id hK
  intro m
  induction m with
  | zero =>
    intro j hj
    refine r_il rfl rfl ?_
    refine r_al rfl rfl ?_
    refine r_gf rfl h1 rfl rfl ?_
    rw [g21]
    refine r_icT rfl (zcT3 ⟨by omega, by omega⟩ ⟨by omega, by omega⟩ (by omega)) ?_
    rw [show j = l.length by omega]
    exact hx _
  | succ m ih =>
    intro j hj
    refine r_il rfl rfl ?_
    refine r_al rfl rfl ?_
    refine r_gf rfl h1 rfl rfl ?_
    rw [g21]
    refine r_icF rfl (zcF3 ⟨by omega, by omega⟩ ⟨by omega, by omega⟩ (by omega)) ?_
    refine r_il rfl rfl ?_
    refine r_ic rfl ?_
    by_cases h0 : j = 0
    · subst h0
      rw [if_pos rfl]
      refine r_icT rfl (zcT0 (rfl)) ?_
      refine r_il rfl rfl ?_
      refine r_goto rfl ?_
      refine r_is3 rfl rfl ?_
      refine r_jj4 rfl rfl ?_
      refine r_goto rfl ?_
      have t := ih (0 + 1) (by omega)
      rw [if_neg (by omega), w_lg_1] at t
      exact t
    · have b0 := w_lg_lt (f := w_len l) j (by omega)
      have b1 := hin.at (show j < l.length by omega)
      have b2 := hin.at (show w_lg (w_len l) j < l.length by omega)
      rw [if_neg h0]
      refine r_icF rfl (zcF0 ⟨by omega, by omega⟩ ⟨by omega, by omega⟩ (by omega)) ?_
      refine r_al rfl rfl ?_
      refine r_gf rfl h1 rfl rfl ?_
      refine r_il rfl rfl ?_
      refine r_iaI rfl (by decide) g74 (by omega) (by omega) (by omega) ?_
      rw [Int.toNat_natCast, (hl.at (show j < l.length by omega)).2]
      refine r_al rfl rfl ?_
      refine r_gf rfl h1 rfl rfl ?_
      refine r_il rfl rfl ?_
      refine r_iaI rfl (by decide) g74 (by omega) (by omega) (by omega) ?_
      rw [Int.toNat_natCast, (hl.at (show w_lg (w_len l) j < l.length by omega)).2]
      by_cases hg : w_len l (w_lg (w_len l) j) < w_len l j
      · refine r_icF rfl (zcF5 ⟨by omega, by omega⟩ ⟨by omega, by omega⟩ (by omega)) ?_
        refine r_il rfl rfl ?_
        refine r_goto rfl ?_
        refine r_is3 rfl rfl ?_
        refine r_jj4 rfl rfl ?_
        refine r_goto rfl ?_
        have t := ih (j + 1) (by omega)
        rw [if_neg (by omega), show w_lg (w_len l) (j + 1) = j from if_pos hg] at t
        exact t
      · refine r_icT rfl (zcT5 ⟨by omega, by omega⟩ ⟨by omega, by omega⟩ (by omega)) ?_
        refine r_il rfl rfl ?_
        refine r_is3 rfl rfl ?_
        refine r_jj4 rfl rfl ?_
        refine r_goto rfl ?_
        have t := ih (j + 1) (by omega)
        rw [if_neg (by omega), show w_lg (w_len l) (j + 1) = w_lg (w_len l) j from if_neg hg] at t
        exact t
set_option maxRecDepth 20000 in
theorem y_lines {q : Int} (hq : z_sm q) {op : Int32} (hop : p_open W H hs (v_trod W H n kc) = op) : z_Yc S 147 [.int (zI q)] ((T, tx), (W, H, L), (hs, lot, n, kc), im, tr) (.int (zI (v_lines W H L op q))) ((T, tx), (W, H, L), (hs, lot, n, kc), im, tr) := by
  intro d M hY
  obtain ⟨y1, v, wd, hd, ld, nw, h, y3, y4, y5, y6, y7, y8⟩ := id hY
  have h : m_Y M tr v wd hd ld nw W H L hs lot n kc := h
  obtain ⟨⟨h1, h2, h3, h4, h5⟩, ⟨w1, w2, w3⟩, ⟨⟨hW1, hW2⟩, ⟨hH1, hH2⟩, ⟨hL1, hL2⟩, hn⟩, ⟨a1, a2, a3, a4⟩, hok⟩ := id h
  have hC := p_WH hW2 hH2
  unfold v_lines
  refine k_an ?_
  refine k_of rfl rfl (Nat.le_of_ble_eq_true rfl) ?_
  refine r_il rfl rfl ?_
  refine r_ic rfl ?_
  refine r_ic rfl ?_
  refine r_cs3 rfl rfl rfl rfl (m_in hq ⟨by omega, by omega⟩ ⟨by omega, by omega⟩) ?_
  by_cases h0 : 0 ≤ q ∧ q ≤ 4
  · rw [if_pos h0, if_pos h0]
    obtain ⟨-, -, -, -, ⟨f73, r73⟩, ⟨f74, r74⟩, ⟨f75, r75⟩, -⟩ := id y8
    obtain ⟨M2, k2, e2, v1, hv1, hK⟩ := m_harmBy (S := S) (d := d + 14) (op := op) h r73 r74 r75
    have y3 : v 2 = zI (T : Int) := y3
    have hY2 := hY.fld (e2.wk (fun k g => by omega)) hK.1 ((hv1 2 (by decide)).trans y3) (y8.wind e2 hK)
    have hM2 := h.v e2 (fun k x1 x2 => by omega) hK.1
    have e9 : z_ev M M2 (fun k => 62 ≤ k) := e2.wk (fun k g => by omega)
    obtain ⟨hin, hr15, hlen⟩ := w_all_in (op := op) hW2 hH2
    have hopn := m_openNow (S := S) (d := d + 16) h
    rw [show p_open W H hs (p_trod (fun k => q_msk W H (kc k).1 (kc k).2.2 (kc k).2.1) n) = op from hop] at hopn
    obtain ⟨⟨b1, b2, b3, b4, b5⟩, -⟩ := id hM2
    refine r_ifT rfl (zcT1 ⟨by omega, by omega⟩ ⟨by omega, by omega⟩ (by decide)) ?_
    refine r_al rfl rfl ?_
    refine r_al rfl rfl ?_
    refine r_cv0 rfl rfl h1 rfl (by decide) rfl (hopn) ?_
    refine r_cv1 rfl rfl h1 rfl (by decide) rfl (k2) ?_
    refine r_is2 rfl rfl ?_
    refine r_ic rfl ?_
    refine r_is3 rfl rfl ?_
    refine r_ic rfl ?_
    refine r_is4 rfl rfl ?_
    generalize w_all op W H = l at *
    refine m_lines_l hM2 hK hin hlen (fun x4 => ?_) l.length 0 (by omega)
    obtain ⟨g62, g21, fs, ln, dn, g73, g74, g75, hl, hdn⟩ := id hK
    refine r_il rfl rfl ?_
    refine r_ic rfl ?_
    by_cases q2 : q < 2
    · refine r_icF rfl (zcF3 ⟨by omega, by omega⟩ ⟨by omega, by omega⟩ (q2)) ?_
      refine r_il rfl rfl ?_
      by_cases q0 : q = 0
      · rw [if_pos q0]
        refine r_ifF rfl (zcF1 (q0)) ?_
        refine r_al rfl rfl ?_
        refine r_gf rfl b1 rfl rfl ?_
        rw [g21]
        refine r_goto rfl ?_
        refine r_reti rfl rfl ?_
        exact ⟨rfl, hY2, e9⟩
      · rw [if_neg q0, if_pos (show q = 1 by omega)]
        refine r_ifT rfl (zcT1 ⟨by omega, by omega⟩ ⟨by omega, by omega⟩ (q0)) ?_
        refine r_il rfl rfl ?_
        refine r_reti rfl rfl ?_
        exact ⟨rfl, hY2, e9⟩
    · rw [if_neg (show ¬ q = 0 by omega), if_neg (show ¬ q = 1 by omega)]
      refine r_icT rfl (zcT3 ⟨by omega, by omega⟩ ⟨by omega, by omega⟩ (q2)) ?_
      refine r_il rfl rfl ?_
      refine r_ic rfl ?_
      by_cases hz : l.length = 0
      · rw [if_pos hz, if_pos hz]
        refine r_icF rfl (zcF1 (rfl)) ?_
        refine r_ic rfl ?_
        refine r_goto rfl ?_
        refine r_reti rfl rfl ?_
        exact ⟨rfl, hY2, e9⟩
      · rw [if_neg hz, if_neg hz]
        have c0 := w_lg_lt (f := w_len l) l.length (by omega)
        have c1 := hl.at c0
        refine r_icT rfl (zcT1 ⟨by omega, by omega⟩ ⟨by omega, by omega⟩ (by omega)) ?_
        refine r_il rfl rfl ?_
        refine r_ic rfl ?_
        by_cases q22 : q = 2
        · rw [if_pos q22]
          refine r_icF rfl (zcF1 (q22)) ?_
          refine r_al rfl rfl ?_
          refine r_gf rfl b1 rfl rfl ?_
          refine r_il rfl rfl ?_
          refine r_iaI rfl (by decide) g74 (by omega) (by omega) (by omega) ?_
          rw [Int.toNat_natCast, c1.2]
          refine r_goto rfl ?_
          refine r_reti rfl rfl ?_
          exact ⟨rfl, hY2, e9⟩
        · rw [if_neg q22]
          refine r_icT rfl (zcT1 ⟨by omega, by omega⟩ ⟨by omega, by omega⟩ (q22)) ?_
          refine r_il rfl rfl ?_
          refine r_ic rfl ?_
          by_cases q3 : q = 3
          · rw [if_pos q3]
            refine r_icF rfl (zcF1 (q3)) ?_
            refine r_al rfl rfl ?_
            refine r_gf rfl b1 rfl rfl ?_
            refine r_il rfl rfl ?_
            refine r_iaI rfl (by decide) g73 (by omega) (by omega) (by omega) ?_
            rw [Int.toNat_natCast, c1.1]
            refine r_goto rfl ?_
            refine r_reti rfl rfl ?_
            exact ⟨rfl, hY2, e9⟩
          · rw [if_neg q3]
            refine r_icT rfl (zcT1 ⟨by omega, by omega⟩ ⟨by omega, by omega⟩ (q3)) ?_
            refine r_al rfl rfl ?_
            refine r_gf rfl b1 rfl rfl ?_
            refine r_il rfl rfl ?_
            refine r_iaI rfl (by decide) g75 (by omega) (by omega) (by omega) ?_
            rw [Int.toNat_natCast, hdn _ c0]
            refine r_reti rfl rfl ?_
            exact ⟨rfl, hY2, e9⟩
  · rw [if_neg h0, if_neg h0]
    refine r_ifF rfl (zcF1 (rfl)) ?_
    refine r_ic rfl ?_
    refine r_reti rfl rfl ?_
    exact ⟨rfl, hY, .rf⟩
theorem m_Y.lots {v wd hd ld nw : Nat → Int32} (h : m_Y M tr v wd hd ld nw W H L hs lot n kc) (x : Int32) : m_Y (M.set 67 (zA 236 (upd nw 2 x))) tr v wd hd ld (upd nw 2 x) W H L hs x n kc := by
  obtain ⟨⟨h1, h2, h3, h4, h5⟩, h6, h7, ⟨a1, a2, a3, a4⟩, h8⟩ := h
  refine ⟨⟨z_gn (by decide) h1, z_gn (by decide) h2, z_gn (by decide) h3, z_gn (by decide) h4, z_gs h5⟩, h6, h7, ⟨?_, ?_, pk_us, fun k hk => ⟨?_, ?_, fun j hj => ?_⟩⟩, h8⟩
  · rw [pk_un (by omega)]
    exact a1
  · rw [pk_un (by omega)]
    exact a2
  · rw [pk_un (by omega)]
    exact (a4 k hk).1
  · rw [pk_un (by omega)]
    exact (a4 k hk).2.1
  · rw [pk_un (by omega)]
    exact (a4 k hk).2.2 j hj
theorem y_gusts_l {v wd hd ld nw : Nat → Int32} (hY : m_Y M tr v wd hd ld nw W H L hs lot n kc) {l : List (Nat × Nat)} (hK : y_K M tr v l nR) (hin : w_in l) (hlen : l.length ≤ 30) (hpos : 0 < l.length) {q : Nat} (hq : q ≤ 99) : ∀ (m k : Nat), k + m = q → z_G S (d + 1) 150 24 [some (.ref 62), some (.int (zI (q : Int))), some (.int (zI (g_sum L l lot k : Int))), some (.int (zI (k : Int)))] [] (M.set 67 (zA 236 (upd nw 2 (g_lot lot k)))) (some (.int (zI (g_sum L l lot q : Int)))) (M.set 67 (zA 236 (upd nw 2 (g_lot lot q)))) := by
  obtain ⟨⟨h1, h2, h3, h4, h5⟩, ⟨w1, w2, w3⟩, ⟨⟨hW1, hW2⟩, ⟨hH1, hH2⟩, ⟨hL1, hL2⟩, hn⟩, ⟨a1, a2, a3, a4⟩, hok⟩ := id hY
  have hC := p_WH hW2 hH2
  obtain ⟨g62, g21, fs, ln, dn, g73, g74, g75, hl, hdn⟩ := id hK
  intro m
  induction m with
  | zero =>
    intro k hk
    refine g_il rfl rfl ?_
    refine g_il rfl rfl ?_
    refine g_icT rfl (zcT3 ⟨by omega, by omega⟩ ⟨by omega, by omega⟩ (by omega)) ?_
    refine g_il rfl rfl ?_
    obtain rfl : k = q := by omega
    exact g_reti rfl (rfl) rfl
  | succ m ih =>
    intro k hk
    refine g_il rfl rfl ?_
    refine g_il rfl rfl ?_
    refine g_icF rfl (zcF3 ⟨by omega, by omega⟩ ⟨by omega, by omega⟩ (by omega)) ?_
    refine g_al rfl rfl ?_
    refine g_gf rfl (z_gn (by decide) h1) rfl rfl ?_
    rw [g21]
    refine g_ifF rfl (zcF5 ⟨by omega, by omega⟩ ⟨by omega, by omega⟩ (by omega)) ?_
    refine g_al rfl rfl ?_
    refine g_gf rfl (z_gn (by decide) h1) rfl rfl ?_
    refine g_ic rfl ?_
    refine g_al rfl rfl ?_
    refine g_gf rfl (z_gn (by decide) h1) rfl rfl ?_
    refine g_ic rfl ?_
    have bs := g_sum_le (L := L) (lot := lot) hin k
    have bu := g_u_lt (g_lot lot (k + 1))
    have bm := Nat.mod_lt (g_u (g_lot lot (k + 1))) hpos
    have hM2 : m_Y (M.set 67 (zA 236 (upd nw 2 (g_lot lot (k + 1))))) tr v wd hd ld (upd nw 2 (g_lot lot (k + 1))) W H L hs (g_lot lot (k + 1)) n kc := hY.lots _
    have hK2 := hK.ev (z_ev.set (M := M) (P := fun k => k = 67) (e := zA 236 (upd nw 2 (g_lot lot (k + 1)))) rfl) (by decide) (by decide) (by decide) (by decide)
    refine g_iaI rfl (by decide) (z_gs h5) (by omega) (by omega) (by omega) ?_
    rw [show (2 : Int).toNat = 2 from rfl, pk_us]
    refine g_ic rfl ?_
    refine g_imul rfl ?_
    refine g_ic rfl ?_
    refine g_iadd rfl ?_
    rw [show g_lot lot k * zI 1103515245 + zI 12345 = g_lot lot (k + 1) from rfl]
    refine g_iSI rfl (z_gs h5) (by omega) (by omega) (by omega) ?_
    rw [show (2 : Int).toNat = 2 from rfl, upd_upd, List.set_set]
    refine g_il rfl rfl ?_
    refine g_al rfl rfl ?_
    refine g_al rfl rfl ?_
    refine g_gf rfl (z_gn (by decide) h1) rfl rfl ?_
    refine g_ic rfl ?_
    refine g_iaI rfl (by decide) (z_gs h5) (by omega) (by omega) (by omega) ?_
    rw [show (2 : Int).toNat = 2 from rfl, pk_us]
    refine g_ic rfl ?_
    refine g_iushr rfl ?_
    refine g_al rfl rfl ?_
    refine g_gf rfl (z_gn (by decide) h1) rfl rfl ?_
    rw [g21]
    rw [g_u_eq]
    refine g_remI rfl (⟨by omega, by omega⟩) (⟨by omega, by omega⟩) ?_
    rw [show ((g_u (g_lot lot (k + 1)) : Nat) : Int) % (l.length : Int) = ((g_u (g_lot lot (k + 1)) % l.length : Nat) : Int) from (Int.natCast_emod _ _).symm]
    refine g_cv1 rfl rfl (z_gn (by decide) h1) rfl (by decide) rfl (m_harmOf hM2 hK2 hin hlen bm) ?_
    refine g_addI rfl ?_
    refine g_is2 rfl rfl ?_
    refine g_jj3 rfl rfl ?_
    refine g_goto rfl ?_
    rw [← Int.natCast_add]
    exact ih (k + 1) (by omega)
set_option maxRecDepth 20000 in
theorem y_gusts {q : Int} (hq : z_sm q) {op : Int32} (hop : p_open W H hs (v_trod W H n kc) = op) : z_Yc S 150 [.int (zI q)] ((T, tx), (W, H, L), (hs, lot, n, kc), im, tr) (.int (zI (v_gusts W H L op lot q))) ((T, tx), (W, H, L), (hs, t_gusts W H op lot q, n, kc), im, tr) := by
  intro d M hY
  obtain ⟨y1, v, wd, hd, ld, nw, h, y3, y4, y5, y6, y7, y8⟩ := id hY
  have h : m_Y M tr v wd hd ld nw W H L hs lot n kc := h
  obtain ⟨⟨h1, h2, h3, h4, h5⟩, ⟨w1, w2, w3⟩, ⟨⟨hW1, hW2⟩, ⟨hH1, hH2⟩, ⟨hL1, hL2⟩, hn⟩, ⟨a1, a2, a3, a4⟩, hok⟩ := id h
  have hC := p_WH hW2 hH2
  unfold v_gusts t_gusts
  refine k_an ?_
  refine k_of rfl rfl (Nat.le_of_ble_eq_true rfl) ?_
  refine r_il rfl rfl ?_
  refine r_ic rfl ?_
  refine r_ic rfl ?_
  refine r_cs3 rfl rfl rfl rfl (m_in hq ⟨by omega, by omega⟩ ⟨by omega, by omega⟩) ?_
  by_cases h0 : 1 ≤ q ∧ q ≤ 99
  · rw [if_pos h0, if_pos h0]
    obtain ⟨-, -, -, -, ⟨f73, r73⟩, ⟨f74, r74⟩, ⟨f75, r75⟩, -⟩ := id y8
    obtain ⟨M2, k2, e2, v1, hv1, hK⟩ := m_findLines (S := S) (d := d + 15) (op := op) h r73 r74 r75
    have y3 : v 2 = zI (T : Int) := y3
    have hY2 := hY.fld (e2.wk (fun k g => by omega)) hK.1 ((hv1 2 (by decide)).trans y3) (y8.wind e2 hK)
    have hM2 := h.v e2 (fun k x1 x2 => by omega) hK.1
    have e9 : z_ev M M2 (fun k => 62 ≤ k) := e2.wk (fun k g => by omega)
    obtain ⟨hin, hr15, hlen⟩ := w_all_in (op := op) hW2 hH2
    have hopn := m_openNow (S := S) (d := d + 16) h
    rw [show p_open W H hs (p_trod (fun k => q_msk W H (kc k).1 (kc k).2.2 (kc k).2.1) n) = op from hop] at hopn
    obtain ⟨⟨b1, b2, b3, b4, b5⟩, -⟩ := id hM2
    refine r_ifT rfl (zcT1 ⟨by omega, by omega⟩ ⟨by omega, by omega⟩ (by decide)) ?_
    refine r_al rfl rfl ?_
    refine r_al rfl rfl ?_
    refine r_cv0 rfl rfl h1 rfl (by decide) rfl (hopn) ?_
    refine r_cv1v rfl rfl h1 rfl (by decide) rfl (k2) ?_
    refine r_ic rfl ?_
    refine r_is2 rfl rfl ?_
    refine r_ic rfl ?_
    refine r_is3 rfl rfl ?_
    generalize w_all op W H = l at *
    obtain ⟨q', rfl⟩ : ∃ x : Nat, q = (x : Int) := ⟨q.toNat, by omega⟩
    rw [Int.toNat_natCast]
    by_cases hz : l.length = 0
    · have hcn : ¬ ((1 ≤ (q' : Int) ∧ (q' : Int) ≤ 99) ∧ ¬ l.length = 0) := fun g => g.2 hz
      rw [if_pos hz, if_neg hcn]
      have g21 := hK.2.1
      refine r_il rfl rfl ?_
      refine r_il rfl rfl ?_
      refine r_icF rfl (zcF3 ⟨by omega, by omega⟩ ⟨by omega, by omega⟩ (by omega)) ?_
      refine r_al rfl rfl ?_
      refine r_gf rfl b1 rfl rfl ?_
      rw [g21]
      refine r_ifT rfl (zcT5 ⟨by omega, by omega⟩ ⟨by omega, by omega⟩ (by omega)) ?_
      refine r_il rfl rfl ?_
      refine r_reti rfl rfl ?_
      exact ⟨rfl, hY2, e9⟩
    · have hcn : (1 ≤ (q' : Int) ∧ (q' : Int) ≤ 99) ∧ ¬ l.length = 0 := ⟨h0, hz⟩
      rw [if_neg hz, if_pos hcn]
      have t := y_gusts_l (S := S) (d := d + 19) hM2 hK hin hlen (by omega) (q := q') (by omega) q' 0 (by omega)
      have eN : upd nw 2 (g_lot lot 0) = nw := funext (upd_self a3)
      rw [eN, z_same b5] at t
      refine ⟨_, _, t, rfl, ?_, e9.tr (.set (by omega))⟩
      refine hY2.now (b' := (hs, g_lot lot q', n, kc)) ⟨b1, b2, b3, b4, b5⟩ (fun j hj => pk_un (by omega)) (hM2.lots _).2.2.2.1 hn hok
  · have hcn : ¬ ((1 ≤ q ∧ q ≤ 99) ∧ ¬ (w_all op W H).length = 0) := fun g => h0 g.1
    rw [if_neg h0, if_neg h0, if_neg hcn]
    refine r_ifF rfl (zcF1 (rfl)) ?_
    refine r_ic rfl ?_
    refine r_reti rfl rfl ?_
    exact ⟨rfl, hY, .rf⟩
end WZ3
