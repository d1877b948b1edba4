/-! WIND: the reference's lines -/
def y_K (M : ZM) (tr : Int64) (v : Nat → Int32) (l : List (Nat × Nat)) (nR : Nat) : Prop := M[62]? = some (.inl (6, m_f tr v)) ∧ v 21 = zI (l.length : Int) ∧ ∃ fs ln dn, M[73]? = some (zA 60 fs) ∧ M[74]? = some (zA 60 ln) ∧ M[75]? = some (zA 60 dn) ∧ w_ls l fs ln ∧ ∀ j, j < l.length → dn j = zI (if j < nR then 0 else 1)
theorem y_K.ev {M M' : ZM} {P : Nat → Prop} {tr : Int64} {v : Nat → Int32} {l : List (Nat × Nat)} {nR : Nat} (e : z_ev M M' P) (h1 : ¬ P 62) (h2 : ¬ P 73) (h3 : ¬ P 74) (h4 : ¬ P 75) (h : y_K M tr v l nR) : y_K M' tr v l nR := by
  obtain ⟨g1, g2, fs, ln, dn, g3, g4, g5, g6⟩ := h
  exact ⟨(e.2 _ h1).trans g1, g2, fs, ln, dn, (e.2 _ h2).trans g3, (e.2 _ h3).trans g4, (e.2 _ h4).trans g5, g6⟩
theorem y_W.wind {M M' : ZM} {tr : Int64} {v : Nat → Int32} {l : List (Nat × Nat)} {nR : Nat} (e : z_ev M M' (fun k => k = 62 ∨ (73 ≤ k ∧ k < 76))) (h : y_W M) (hK : y_K M' tr v l nR) : y_W M' := by
  obtain ⟨⟨f69, r69⟩, ⟨f70, r70⟩, ⟨f71, r71⟩, ⟨f72, r72⟩, -, -, -, ⟨f76, r76⟩, f77, r77⟩ := h
  obtain ⟨-, -, fs, ln, dn, g3, g4, g5, -⟩ := hK
  exact ⟨⟨f69, (e.2 69 (by decide)).trans r69⟩, ⟨f70, (e.2 70 (by decide)).trans r70⟩, ⟨f71, (e.2 71 (by decide)).trans r71⟩, ⟨f72, (e.2 72 (by decide)).trans r72⟩, ⟨fs, g3⟩, ⟨ln, g4⟩, ⟨dn, g5⟩, ⟨f76, (e.2 76 (by decide)).trans r76⟩, f77, (e.2 77 (by decide)).trans r77⟩
theorem upd_upd {f : Nat → Int32} {k : Nat} {x y : Int32} : upd (upd f k x) k y = upd f k y := by
  funext j
  by_cases h : j = k
  · subst h
    rw [pk_us, pk_us]
  · rw [pk_un h, pk_un h, pk_un h]
/-- a strip: its cells, and what lies ahead and behind -/
def w_strip (W H : Nat) (e : Nat → Nat) (m : Nat) (sf sb : Int) : Prop := m ≤ 5 ∧ (∀ i, i < m → e i < W * H) ∧ (∀ i, i < m → p_off W H (e i) sf = if i + 1 < m then some (e (i + 1)) else none) ∧ ∀ i, i < m → p_off W H (e i) sb = if 0 < i then some (e (i - 1)) else none
theorem w_strip_r {W H y : Nat} (hW : W ≤ 5) (hy : y < H) : w_strip W H (fun i => W * y + i) W 1 3 := by
  have em : ∀ i, i < W → (W * y + i) % W = i := fun i hi => by rw [Nat.mul_add_mod, Nat.mod_eq_of_lt hi]
  refine ⟨hW, fun i hi => w_cell hy hi, fun i hi => ?_, fun i hi => ?_⟩
  · unfold p_off
    rw [if_neg (by decide), if_pos rfl, em i hi]
    rfl
  · unfold p_off
    rw [if_neg (by decide), if_neg (by decide), if_neg (by decide), if_pos rfl, em i hi]
    by_cases h : 0 < i
    · rw [if_pos h, if_pos h, show W * y + i - 1 = W * y + (i - 1) by omega]
    · rw [if_neg h, if_neg h]
theorem w_strip_c {W H x : Nat} (hH : H ≤ 5) (hx : x < W) : w_strip W H (fun i => W * i + x) H 2 0 := by
  refine ⟨hH, fun i hi => w_cell hi hx, fun i hi => ?_, fun i hi => ?_⟩
  · unfold p_off
    rw [if_neg (by decide), if_neg (by decide), if_pos rfl]
    dsimp only
    have e1 : W * i + x + W = W * (i + 1) + x := by
      rw [Nat.mul_succ]
      omega
    by_cases h : i + 1 < H
    · have := w_cell (W := W) (H := H) h hx
      rw [if_pos h, if_pos (by omega), e1]
    · have : W * H ≤ W * (i + 1) := Nat.mul_le_mul_left W (by omega)
      rw [if_neg h, if_neg (by omega)]
  · unfold p_off
    rw [if_pos rfl]
    dsimp only
    by_cases h : 0 < i
    · obtain ⟨j, rfl⟩ : ∃ j, i = j + 1 := ⟨i - 1, by omega⟩
      have e1 : W * (j + 1) = W * j + W := Nat.mul_succ W j
      rw [if_pos (by omega), if_pos h, show W * (j + 1) + x - W = W * j + x by omega]
      rfl
    · obtain rfl : i = 0 := by omega
      rw [if_neg (show ¬ W ≤ W * 0 + x by omega), if_neg (by omega)]
def w_p (b : Nat → Bool) (i : Nat) : Bool := decide (0 < i) && b (i - 1)
theorem w_R_s {b : Nat → Bool} {e : Nat → Nat} {l : List (Nat × Nat)} {k i : Nat} : (if b i = true ∧ ¬ w_p b i = true then l ++ [(e i, w_rn b (k + 1) i)] else l) ++ (w_R b k (i + 1) (w_p b (i + 1))).map (fun x : Nat × Nat => (e x.1, x.2)) = l ++ (w_R b (k + 1) i (w_p b i)).map (fun x : Nat × Nat => (e x.1, x.2)) := by
  have ep : w_p b (i + 1) = b i := rfl
  rw [ep]
  have er : w_R b (k + 1) i (w_p b i) = if b i = true then (if w_p b i = true then w_R b k (i + 1) true else (i, w_rn b (k + 1) i) :: w_R b k (i + 1) true) else w_R b k (i + 1) false := rfl
  rw [er]
  by_cases h : b i = true
  · rw [if_pos h, h]
    by_cases h2 : w_p b i = true
    · rw [if_neg (fun g => g.2 h2), if_pos h2]
    · rw [if_pos ⟨rfl, h2⟩, if_neg h2, List.append_assoc]
      rfl
  · rw [if_neg h, if_neg (fun g => h g.1), Bool.not_eq_true _ |>.mp h]
section WY
variable {S : ZS} {d : Nat} {M : ZM} {T : Nat} {tx : Nat → Int32} {W H L n : Nat} {hs lot : Int32} {kc : Nat → ZK} {im : Nat → Option ZB} {tr : Int64} {op : Int32} {nR : Nat}
theorem m_fL_w {v wd hd ld nw : Nat → Int32} (h : m_Y M tr v wd hd ld nw W H L hs lot n kc) {e : Nat → Nat} {m : Nat} {sf sb : Int} (hS : w_strip W H e m sf sb) (hsf : 0 ≤ sf ∧ sf ≤ 3) {i : Nat} {dw u5 : Int} {Q : Option Value → ZM → Prop} : ∀ (k j cnt : Nat), j + k = m → (∀ u : Int, z_R S (d + 2) 143 116 [some (.ref 62), some (.int (zI (e i : Int))), some (.int op), some (.int (zI dw)), some (.int (zI sf)), some (.int (zI u5)), some (.int (zI ((cnt + w_rn (fun i => bt op (e i)) k j : Nat) : Int))), some (.int (zI u))] [] M Q) → z_R S (d + 2) 143 82 [some (.ref 62), some (.int (zI (e i : Int))), some (.int op), some (.int (zI dw)), some (.int (zI sf)), some (.int (zI u5)), some (.int (zI (cnt : Int))), some (.int (zI (oI (if j < m then some (e j) else none) (-9))))] [] M Q := by
  obtain ⟨⟨h1, h2, h3, h4, h5⟩, ⟨w1, w2, w3⟩, ⟨⟨hW1, hW2⟩, ⟨hH1, hH2⟩, ⟨hL1, hL2⟩, hn⟩, ⟨a1, a2, a3, a4⟩, hok⟩ := id h
  have hC := p_WH hW2 hH2
  intro k
  induction k with
  | zero =>
    intro j cnt hj hx
    rw [if_neg (show ¬ j < m by omega)]
    refine r_il rfl rfl ?_
    refine r_ic rfl ?_
    refine r_icT rfl (zcT0 (rfl)) ?_
    exact hx _
  | succ k ih =>
    intro j cnt hj hx
    have lj := hS.2.1 j (by omega)
    rw [if_pos (show j < m by omega), show oI (some (e j)) (-9) = (e j : Int) from rfl]
    refine r_il rfl rfl ?_
    refine r_ic rfl ?_
    refine r_icF rfl (zcF0 ⟨by omega, by omega⟩ ⟨by omega, by omega⟩ (by omega)) ?_
    refine r_il rfl rfl ?_
    refine r_il rfl rfl ?_
    refine r_ishr rfl ?_
    refine r_ic rfl ?_
    refine r_iand rfl ?_
    refine r_ic rfl ?_
    rw [z_bit op (c := e j) (by omega)]
    by_cases hb : bt op (e j) = true
    · rw [if_pos hb]
      have er : w_rn (fun i => bt op (e i)) (k + 1) j = w_rn (fun i => bt op (e i)) k (j + 1) + 1 := if_pos hb
      refine r_icF rfl (zcF1 (rfl)) ?_
      refine r_jj6 rfl rfl ?_
      refine r_al rfl rfl ?_
      refine r_ic rfl ?_
      refine r_il rfl rfl ?_
      refine r_il rfl rfl ?_
      refine r_cv3 rfl rfl h1 rfl (by decide) rfl (m_off ⟨h1, h2, h3, h4, h5⟩ hW1 hW2 hH1 hH2 (e := 0) (by decide) w1 w2 (c := e j) lj (st := sf) hsf) ?_
      rw [hS.2.2.1 j (by omega)]
      refine r_is7 rfl rfl ?_
      refine r_goto rfl ?_
      refine ih (j + 1) (cnt + 1) (by omega) (fun u => ?_)
      rw [show cnt + 1 + w_rn (fun i => bt op (e i)) k (j + 1) = cnt + w_rn (fun i => bt op (e i)) (k + 1) j by omega]
      exact hx u
    · rw [if_neg hb]
      have er : w_rn (fun i => bt op (e i)) (k + 1) j = 0 := if_neg hb
      rw [er] at hx
      refine r_icT rfl (zcT1 ⟨by omega, by omega⟩ ⟨by omega, by omega⟩ (by decide)) ?_
      exact hx _
set_option maxRecDepth 20000 in
theorem m_findLine0 {v wd hd ld nw : Nat → Int32} (hY : m_Y M tr v wd hd ld nw W H L hs lot n kc) {e : Nat → Nat} {m : Nat} (hS : w_strip W H e m 1 3) {i : Nat} (hi : i < m) {l : List (Nat × Nat)} {M1 : ZM} (hI : (z_ev M M1 (fun k => k = 62 ∨ (73 ≤ k ∧ k < 76)) ∧ ∃ v1, (∀ j, j ≠ 21 → v1 j = v j) ∧ y_K M1 tr v1 l nR)) (hroom : bt op (e i) = true ∧ ¬ w_p (fun i => bt op (e i)) i = true → l.length < 60 ∧ (if l.length < nR then (0 : Int) else 1) = 0) : ∃ M', z_C S (d + 3) 143 [.ref 62, .int (zI (e i : Int)), .int op, .int (zI 0)] M1 none M' ∧ z_ev M M' (fun k => k = 62 ∨ (73 ≤ k ∧ k < 76)) ∧ ∃ v1, (∀ j, j ≠ 21 → v1 j = v j) ∧ y_K M' tr v1 (if bt op (e i) = true ∧ ¬ w_p (fun i => bt op (e i)) i = true then l ++ [(e i, w_rn (fun i => bt op (e i)) (m - i) i)] else l) nR := by
  obtain ⟨he, v1, hv1, hK⟩ := hI
  obtain ⟨g62, g21, fs, ln, dn, g73, g74, g75, hl, hdn⟩ := id hK
  have h := hY.v he (fun k x1 x2 => by omega) g62
  obtain ⟨⟨h1, h2, h3, h4, h5⟩, ⟨w1, w2, w3⟩, ⟨⟨hW1, hW2⟩, ⟨hH1, hH2⟩, ⟨hL1, hL2⟩, hn⟩, ⟨a1, a2, a3, a4⟩, hok⟩ := id h
  have hC := p_WH hW2 hH2
  have li := hS.2.1 i hi
  refine k_an ?_
  refine k_of rfl rfl (Nat.le_of_ble_eq_true rfl) ?_
  refine r_il rfl rfl ?_
  refine r_ic rfl ?_
  refine r_icT rfl (zcT1 ⟨by omega, by omega⟩ ⟨by omega, by omega⟩ (by decide)) ?_
  refine r_ic rfl ?_
  refine r_is4 rfl rfl ?_
  refine r_al rfl rfl ?_
  refine r_ic rfl ?_
  refine r_il rfl rfl ?_
  refine r_il rfl rfl ?_
  refine r_ic rfl ?_
  refine r_icT rfl (zcT1 ⟨by omega, by omega⟩ ⟨by omega, by omega⟩ (by decide)) ?_
  refine r_ic rfl ?_
  refine r_cv3 rfl rfl h1 rfl (by decide) rfl (m_off ⟨h1, h2, h3, h4, h5⟩ hW1 hW2 hH1 hH2 (e := 0) (by decide) w1 w2 (c := e i) li (st := 3) ⟨by decide, by decide⟩) ?_
  rw [hS.2.2.2 i hi]
  refine r_is5 rfl rfl ?_
  refine r_il rfl rfl ?_
  refine r_il rfl rfl ?_
  refine r_ishr rfl ?_
  refine r_ic rfl ?_
  refine r_iand rfl ?_
  rw [z_bit op (c := e i) (by omega)]
  by_cases hb : bt op (e i) = true
  · rw [if_pos hb]
    refine r_ifF rfl (zcF0 ⟨by omega, by omega⟩ ⟨by omega, by omega⟩ (by decide)) ?_
    refine r_il rfl rfl ?_
    refine r_ic rfl ?_
    by_cases h0 : 0 < i
    · have li2 := hS.2.1 (i - 1) (by omega)
      rw [if_pos h0, show oI (some (e (i - 1))) (-9) = (e (i - 1) : Int) from rfl]
      refine r_icF rfl (zcF0 ⟨by omega, by omega⟩ ⟨by omega, by omega⟩ (by omega)) ?_
      refine r_il rfl rfl ?_
      refine r_il rfl rfl ?_
      refine r_ishr rfl ?_
      refine r_ic rfl ?_
      refine r_iand rfl ?_
      refine r_ic rfl ?_
      rw [z_bit op (c := e (i - 1)) (by omega)]
      by_cases hb2 : bt op (e (i - 1)) = true
      · have hp : w_p (fun i => bt op (e i)) i = true := by unfold w_p; rw [decide_eq_true h0]; exact hb2
        have hcn : ¬ (bt op (e i) = true ∧ ¬ w_p (fun i => bt op (e i)) i = true) := fun g => g.2 hp
        rw [if_pos hb2, if_neg hcn]
        refine r_icF rfl (zcF1 (rfl)) ?_
        refine r_retv rfl rfl ?_
        exact ⟨rfl, he, v1, hv1, hK⟩
      · rw [if_neg hb2]
        have hp : ¬ w_p (fun i => bt op (e i)) i = true := by unfold w_p; rw [decide_eq_true h0]; exact hb2
        refine r_icT rfl (zcT1 ⟨by omega, by omega⟩ ⟨by omega, by omega⟩ (by decide)) ?_
        have hcn : bt op (e i) = true ∧ ¬ w_p (fun i => bt op (e i)) i = true := ⟨hb, hp⟩
        rw [if_pos hcn]
        have hadd := hroom hcn
        refine r_al rfl rfl ?_
        refine r_gf rfl h1 rfl rfl ?_
        refine r_al rfl rfl ?_
        refine r_gf rfl h1 rfl rfl ?_
        rw [g21]
        refine r_il rfl rfl ?_
        refine r_iSI rfl g73 (by omega) (by omega) (by omega) ?_
        refine r_al rfl rfl ?_
        refine r_gf rfl (z_gn (by decide) h1) rfl rfl ?_
        refine r_al rfl rfl ?_
        refine r_gf rfl (z_gn (by decide) h1) rfl rfl ?_
        rw [g21]
        refine r_il rfl rfl ?_
        refine r_iSI rfl (z_gn (by decide) g75) (by omega) (by omega) (by omega) ?_
        refine r_ic rfl ?_
        refine r_is6 rfl rfl ?_
        refine r_il rfl rfl ?_
        refine r_is7 rfl rfl ?_
        have e5 : z_ev M1 ((M1.set 73 (zA 60 (upd fs (l.length : Int).toNat (zI (e i : Int))))).set 75 (zA 60 (upd dn (l.length : Int).toNat (zI 0)))) (fun k => 73 ≤ k ∧ k < 76) := (z_ev.set (by omega)).tr (.set (by omega))
        have hM5 := h.ev e5 (fun k x1 x2 => by omega)
        have t := m_fL_w (S := S) (d := d + 1) (op := op) hM5 hS (by decide) (i := i) (dw := 0) (u5 := (e (i - 1) : Int)) (Q := fun r M' => r = none ∧ z_ev M M' (fun k => k = 62 ∨ (73 ≤ k ∧ k < 76)) ∧ ∃ v1, (∀ j, j ≠ 21 → v1 j = v j) ∧ y_K M' tr v1 (l ++ [(e i, w_rn (fun i => bt op (e i)) (m - i) i)]) nR) (m - i) i 0 (by omega) (fun u => ?_)
        · rw [if_pos hi] at t
          exact t
        · rw [Nat.zero_add]
          refine r_al rfl rfl ?_
          refine r_gf rfl hM5.1.1 rfl rfl ?_
          refine r_al rfl rfl ?_
          refine r_gf rfl hM5.1.1 rfl rfl ?_
          rw [g21]
          refine r_il rfl rfl ?_
          refine r_iSI rfl (z_gn (by decide) (z_gn (by decide) g74)) (by omega) (by omega) (by omega) ?_
          refine r_al rfl rfl ?_
          refine r_dupA rfl ?_
          refine r_gf rfl (z_gn (by decide) hM5.1.1) rfl rfl ?_
          rw [g21]
          refine r_ic rfl ?_
          refine r_addI rfl ?_
          refine r_pf21 rfl (z_gn (by decide) hM5.1.1) rfl rfl rfl (Or.inl rfl) ?_
          refine r_retv rfl rfl ?_
          refine ⟨rfl, (((he.tr (.set (by omega))).tr (.set (by omega))).tr (.set (by omega))).tr (.set (by omega)), upd v1 21 (zI ((l.length + 1 : Nat) : Int)), fun j hj => ?_, z_gs (z_gn (by decide) (z_gn (by decide) (z_gn (by decide) g62))), ?_, upd fs l.length (zI (e i : Int)), upd ln l.length (zI (w_rn (fun i => bt op (e i)) (m - i) i : Int)), upd dn l.length (zI 0), ?_, ?_, ?_, hl.add _ _, fun j hj => ?_⟩
          · rw [pk_un hj]
            exact hv1 j hj
          · rw [pk_us, List.length_append]
            rfl
          · rw [Int.toNat_natCast]
            exact z_gn (by decide) (z_gn (by decide) (z_gn (by decide) (z_gs g73)))
          · rw [Int.toNat_natCast]
            exact z_gn (by decide) (z_gs (z_gn (by decide) (z_gn (by decide) g74)))
          · rw [Int.toNat_natCast]
            exact z_gn (by decide) (z_gn (by decide) (z_gs (z_gn (by decide) g75)))
          · rw [List.length_append] at hj
            have hj : j < l.length + 1 := hj
            by_cases e2 : j = l.length
            · subst e2
              rw [pk_us, hadd.2]
            · rw [pk_un e2]
              exact hdn j (by omega)
    · rw [if_neg h0]
      have hp : ¬ w_p (fun i => bt op (e i)) i = true := by unfold w_p; rw [decide_eq_false h0]; exact Bool.false_ne_true
      refine r_icT rfl (zcT0 (rfl)) ?_
      have hcn : bt op (e i) = true ∧ ¬ w_p (fun i => bt op (e i)) i = true := ⟨hb, hp⟩
      rw [if_pos hcn]
      have hadd := hroom hcn
      refine r_al rfl rfl ?_
      refine r_gf rfl h1 rfl rfl ?_
      refine r_al rfl rfl ?_
      refine r_gf rfl h1 rfl rfl ?_
      rw [g21]
      refine r_il rfl rfl ?_
      refine r_iSI rfl g73 (by omega) (by omega) (by omega) ?_
      refine r_al rfl rfl ?_
      refine r_gf rfl (z_gn (by decide) h1) rfl rfl ?_
      refine r_al rfl rfl ?_
      refine r_gf rfl (z_gn (by decide) h1) rfl rfl ?_
      rw [g21]
      refine r_il rfl rfl ?_
      refine r_iSI rfl (z_gn (by decide) g75) (by omega) (by omega) (by omega) ?_
      refine r_ic rfl ?_
      refine r_is6 rfl rfl ?_
      refine r_il rfl rfl ?_
      refine r_is7 rfl rfl ?_
      have e5 : z_ev M1 ((M1.set 73 (zA 60 (upd fs (l.length : Int).toNat (zI (e i : Int))))).set 75 (zA 60 (upd dn (l.length : Int).toNat (zI 0)))) (fun k => 73 ≤ k ∧ k < 76) := (z_ev.set (by omega)).tr (.set (by omega))
      have hM5 := h.ev e5 (fun k x1 x2 => by omega)
      have t := m_fL_w (S := S) (d := d + 1) (op := op) hM5 hS (by decide) (i := i) (dw := 0) (u5 := oI none (-9)) (Q := fun r M' => r = none ∧ z_ev M M' (fun k => k = 62 ∨ (73 ≤ k ∧ k < 76)) ∧ ∃ v1, (∀ j, j ≠ 21 → v1 j = v j) ∧ y_K M' tr v1 (l ++ [(e i, w_rn (fun i => bt op (e i)) (m - i) i)]) nR) (m - i) i 0 (by omega) (fun u => ?_)
      · rw [if_pos hi] at t
        exact t
      · rw [Nat.zero_add]
        refine r_al rfl rfl ?_
        refine r_gf rfl hM5.1.1 rfl rfl ?_
        refine r_al rfl rfl ?_
        refine r_gf rfl hM5.1.1 rfl rfl ?_
        rw [g21]
        refine r_il rfl rfl ?_
        refine r_iSI rfl (z_gn (by decide) (z_gn (by decide) g74)) (by omega) (by omega) (by omega) ?_
        refine r_al rfl rfl ?_
        refine r_dupA rfl ?_
        refine r_gf rfl (z_gn (by decide) hM5.1.1) rfl rfl ?_
        rw [g21]
        refine r_ic rfl ?_
        refine r_addI rfl ?_
        refine r_pf21 rfl (z_gn (by decide) hM5.1.1) rfl rfl rfl (Or.inl rfl) ?_
        refine r_retv rfl rfl ?_
        refine ⟨rfl, (((he.tr (.set (by omega))).tr (.set (by omega))).tr (.set (by omega))).tr (.set (by omega)), upd v1 21 (zI ((l.length + 1 : Nat) : Int)), fun j hj => ?_, z_gs (z_gn (by decide) (z_gn (by decide) (z_gn (by decide) g62))), ?_, upd fs l.length (zI (e i : Int)), upd ln l.length (zI (w_rn (fun i => bt op (e i)) (m - i) i : Int)), upd dn l.length (zI 0), ?_, ?_, ?_, hl.add _ _, fun j hj => ?_⟩
        · rw [pk_un hj]
          exact hv1 j hj
        · rw [pk_us, List.length_append]
          rfl
        · rw [Int.toNat_natCast]
          exact z_gn (by decide) (z_gn (by decide) (z_gn (by decide) (z_gs g73)))
        · rw [Int.toNat_natCast]
          exact z_gn (by decide) (z_gs (z_gn (by decide) (z_gn (by decide) g74)))
        · rw [Int.toNat_natCast]
          exact z_gn (by decide) (z_gn (by decide) (z_gs (z_gn (by decide) g75)))
        · rw [List.length_append] at hj
          have hj : j < l.length + 1 := hj
          by_cases e2 : j = l.length
          · subst e2
            rw [pk_us, hadd.2]
          · rw [pk_un e2]
            exact hdn j (by omega)
  · have hcn : ¬ (bt op (e i) = true ∧ ¬ w_p (fun i => bt op (e i)) i = true) := fun g => hb g.1
    rw [if_neg hb, if_neg hcn]
    refine r_ifT rfl (zcT0 (rfl)) ?_
    refine r_retv rfl rfl ?_
    exact ⟨rfl, he, v1, hv1, hK⟩
set_option maxRecDepth 20000 in
theorem m_findLine1 {v wd hd ld nw : Nat → Int32} (hY : m_Y M tr v wd hd ld nw W H L hs lot n kc) {e : Nat → Nat} {m : Nat} (hS : w_strip W H e m 2 0) {i : Nat} (hi : i < m) {l : List (Nat × Nat)} {M1 : ZM} (hI : (z_ev M M1 (fun k => k = 62 ∨ (73 ≤ k ∧ k < 76)) ∧ ∃ v1, (∀ j, j ≠ 21 → v1 j = v j) ∧ y_K M1 tr v1 l nR)) (hroom : bt op (e i) = true ∧ ¬ w_p (fun i => bt op (e i)) i = true → l.length < 60 ∧ (if l.length < nR then (0 : Int) else 1) = 1) : ∃ M', z_C S (d + 3) 143 [.ref 62, .int (zI (e i : Int)), .int op, .int (zI 1)] M1 none M' ∧ z_ev M M' (fun k => k = 62 ∨ (73 ≤ k ∧ k < 76)) ∧ ∃ v1, (∀ j, j ≠ 21 → v1 j = v j) ∧ y_K M' tr v1 (if bt op (e i) = true ∧ ¬ w_p (fun i => bt op (e i)) i = true then l ++ [(e i, w_rn (fun i => bt op (e i)) (m - i) i)] else l) nR := by
  obtain ⟨he, v1, hv1, hK⟩ := hI
  obtain ⟨g62, g21, fs, ln, dn, g73, g74, g75, hl, hdn⟩ := id hK
  have h := hY.v he (fun k x1 x2 => by omega) g62
  obtain ⟨⟨h1, h2, h3, h4, h5⟩, ⟨w1, w2, w3⟩, ⟨⟨hW1, hW2⟩, ⟨hH1, hH2⟩, ⟨hL1, hL2⟩, hn⟩, ⟨a1, a2, a3, a4⟩, hok⟩ := id h
  have hC := p_WH hW2 hH2
  have li := hS.2.1 i hi
  refine k_an ?_
  refine k_of rfl rfl (Nat.le_of_ble_eq_true rfl) ?_
  refine r_il rfl rfl ?_
  refine r_ic rfl ?_
  refine r_icF rfl (zcF1 (by decide)) ?_
  refine r_ic rfl ?_
  refine r_goto rfl ?_
  refine r_is4 rfl rfl ?_
  refine r_al rfl rfl ?_
  refine r_ic rfl ?_
  refine r_il rfl rfl ?_
  refine r_il rfl rfl ?_
  refine r_ic rfl ?_
  refine r_icF rfl (zcF1 (by decide)) ?_
  refine r_ic rfl ?_
  refine r_goto rfl ?_
  refine r_cv3 rfl rfl h1 rfl (by decide) rfl (m_off ⟨h1, h2, h3, h4, h5⟩ hW1 hW2 hH1 hH2 (e := 0) (by decide) w1 w2 (c := e i) li (st := 0) ⟨by decide, by decide⟩) ?_
  rw [hS.2.2.2 i hi]
  refine r_is5 rfl rfl ?_
  refine r_il rfl rfl ?_
  refine r_il rfl rfl ?_
  refine r_ishr rfl ?_
  refine r_ic rfl ?_
  refine r_iand rfl ?_
  rw [z_bit op (c := e i) (by omega)]
  by_cases hb : bt op (e i) = true
  · rw [if_pos hb]
    refine r_ifF rfl (zcF0 ⟨by omega, by omega⟩ ⟨by omega, by omega⟩ (by decide)) ?_
    refine r_il rfl rfl ?_
    refine r_ic rfl ?_
    by_cases h0 : 0 < i
    · have li2 := hS.2.1 (i - 1) (by omega)
      rw [if_pos h0, show oI (some (e (i - 1))) (-9) = (e (i - 1) : Int) from rfl]
      refine r_icF rfl (zcF0 ⟨by omega, by omega⟩ ⟨by omega, by omega⟩ (by omega)) ?_
      refine r_il rfl rfl ?_
      refine r_il rfl rfl ?_
      refine r_ishr rfl ?_
      refine r_ic rfl ?_
      refine r_iand rfl ?_
      refine r_ic rfl ?_
      rw [z_bit op (c := e (i - 1)) (by omega)]
      by_cases hb2 : bt op (e (i - 1)) = true
      · have hp : w_p (fun i => bt op (e i)) i = true := by unfold w_p; rw [decide_eq_true h0]; exact hb2
        have hcn : ¬ (bt op (e i) = true ∧ ¬ w_p (fun i => bt op (e i)) i = true) := fun g => g.2 hp
        rw [if_pos hb2, if_neg hcn]
        refine r_icF rfl (zcF1 (rfl)) ?_
        refine r_retv rfl rfl ?_
        exact ⟨rfl, he, v1, hv1, hK⟩
      · rw [if_neg hb2]
        have hp : ¬ w_p (fun i => bt op (e i)) i = true := by unfold w_p; rw [decide_eq_true h0]; exact hb2
        refine r_icT rfl (zcT1 ⟨by omega, by omega⟩ ⟨by omega, by omega⟩ (by decide)) ?_
        have hcn : bt op (e i) = true ∧ ¬ w_p (fun i => bt op (e i)) i = true := ⟨hb, hp⟩
        rw [if_pos hcn]
        have hadd := hroom hcn
        refine r_al rfl rfl ?_
        refine r_gf rfl h1 rfl rfl ?_
        refine r_al rfl rfl ?_
        refine r_gf rfl h1 rfl rfl ?_
        rw [g21]
        refine r_il rfl rfl ?_
        refine r_iSI rfl g73 (by omega) (by omega) (by omega) ?_
        refine r_al rfl rfl ?_
        refine r_gf rfl (z_gn (by decide) h1) rfl rfl ?_
        refine r_al rfl rfl ?_
        refine r_gf rfl (z_gn (by decide) h1) rfl rfl ?_
        rw [g21]
        refine r_il rfl rfl ?_
        refine r_iSI rfl (z_gn (by decide) g75) (by omega) (by omega) (by omega) ?_
        refine r_ic rfl ?_
        refine r_is6 rfl rfl ?_
        refine r_il rfl rfl ?_
        refine r_is7 rfl rfl ?_
        have e5 : z_ev M1 ((M1.set 73 (zA 60 (upd fs (l.length : Int).toNat (zI (e i : Int))))).set 75 (zA 60 (upd dn (l.length : Int).toNat (zI 1)))) (fun k => 73 ≤ k ∧ k < 76) := (z_ev.set (by omega)).tr (.set (by omega))
        have hM5 := h.ev e5 (fun k x1 x2 => by omega)
        have t := m_fL_w (S := S) (d := d + 1) (op := op) hM5 hS (by decide) (i := i) (dw := 1) (u5 := (e (i - 1) : Int)) (Q := fun r M' => r = none ∧ z_ev M M' (fun k => k = 62 ∨ (73 ≤ k ∧ k < 76)) ∧ ∃ v1, (∀ j, j ≠ 21 → v1 j = v j) ∧ y_K M' tr v1 (l ++ [(e i, w_rn (fun i => bt op (e i)) (m - i) i)]) nR) (m - i) i 0 (by omega) (fun u => ?_)
        · rw [if_pos hi] at t
          exact t
        · rw [Nat.zero_add]
          refine r_al rfl rfl ?_
          refine r_gf rfl hM5.1.1 rfl rfl ?_
          refine r_al rfl rfl ?_
          refine r_gf rfl hM5.1.1 rfl rfl ?_
          rw [g21]
          refine r_il rfl rfl ?_
          refine r_iSI rfl (z_gn (by decide) (z_gn (by decide) g74)) (by omega) (by omega) (by omega) ?_
          refine r_al rfl rfl ?_
          refine r_dupA rfl ?_
          refine r_gf rfl (z_gn (by decide) hM5.1.1) rfl rfl ?_
          rw [g21]
          refine r_ic rfl ?_
          refine r_addI rfl ?_
          refine r_pf21 rfl (z_gn (by decide) hM5.1.1) rfl rfl rfl (Or.inl rfl) ?_
          refine r_retv rfl rfl ?_
          refine ⟨rfl, (((he.tr (.set (by omega))).tr (.set (by omega))).tr (.set (by omega))).tr (.set (by omega)), upd v1 21 (zI ((l.length + 1 : Nat) : Int)), fun j hj => ?_, z_gs (z_gn (by decide) (z_gn (by decide) (z_gn (by decide) g62))), ?_, upd fs l.length (zI (e i : Int)), upd ln l.length (zI (w_rn (fun i => bt op (e i)) (m - i) i : Int)), upd dn l.length (zI 1), ?_, ?_, ?_, hl.add _ _, fun j hj => ?_⟩
          · rw [pk_un hj]
            exact hv1 j hj
          · rw [pk_us, List.length_append]
            rfl
          · rw [Int.toNat_natCast]
            exact z_gn (by decide) (z_gn (by decide) (z_gn (by decide) (z_gs g73)))
          · rw [Int.toNat_natCast]
            exact z_gn (by decide) (z_gs (z_gn (by decide) (z_gn (by decide) g74)))
          · rw [Int.toNat_natCast]
            exact z_gn (by decide) (z_gn (by decide) (z_gs (z_gn (by decide) g75)))
          · rw [List.length_append] at hj
            have hj : j < l.length + 1 := hj
            by_cases e2 : j = l.length
            · subst e2
              rw [pk_us, hadd.2]
            · rw [pk_un e2]
              exact hdn j (by omega)
    · rw [if_neg h0]
      have hp : ¬ w_p (fun i => bt op (e i)) i = true := by unfold w_p; rw [decide_eq_false h0]; exact Bool.false_ne_true
      refine r_icT rfl (zcT0 (rfl)) ?_
      have hcn : bt op (e i) = true ∧ ¬ w_p (fun i => bt op (e i)) i = true := ⟨hb, hp⟩
      rw [if_pos hcn]
      have hadd := hroom hcn
      refine r_al rfl rfl ?_
      refine r_gf rfl h1 rfl rfl ?_
      refine r_al rfl rfl ?_
      refine r_gf rfl h1 rfl rfl ?_
      rw [g21]
      refine r_il rfl rfl ?_
      refine r_iSI rfl g73 (by omega) (by omega) (by omega) ?_
      refine r_al rfl rfl ?_
      refine r_gf rfl (z_gn (by decide) h1) rfl rfl ?_
      refine r_al rfl rfl ?_
      refine r_gf rfl (z_gn (by decide) h1) rfl rfl ?_
      rw [g21]
      refine r_il rfl rfl ?_
      refine r_iSI rfl (z_gn (by decide) g75) (by omega) (by omega) (by omega) ?_
      refine r_ic rfl ?_
      refine r_is6 rfl rfl ?_
      refine r_il rfl rfl ?_
      refine r_is7 rfl rfl ?_
      have e5 : z_ev M1 ((M1.set 73 (zA 60 (upd fs (l.length : Int).toNat (zI (e i : Int))))).set 75 (zA 60 (upd dn (l.length : Int).toNat (zI 1)))) (fun k => 73 ≤ k ∧ k < 76) := (z_ev.set (by omega)).tr (.set (by omega))
      have hM5 := h.ev e5 (fun k x1 x2 => by omega)
      have t := m_fL_w (S := S) (d := d + 1) (op := op) hM5 hS (by decide) (i := i) (dw := 1) (u5 := oI none (-9)) (Q := fun r M' => r = none ∧ z_ev M M' (fun k => k = 62 ∨ (73 ≤ k ∧ k < 76)) ∧ ∃ v1, (∀ j, j ≠ 21 → v1 j = v j) ∧ y_K M' tr v1 (l ++ [(e i, w_rn (fun i => bt op (e i)) (m - i) i)]) nR) (m - i) i 0 (by omega) (fun u => ?_)
      · rw [if_pos hi] at t
        exact t
      · rw [Nat.zero_add]
        refine r_al rfl rfl ?_
        refine r_gf rfl hM5.1.1 rfl rfl ?_
        refine r_al rfl rfl ?_
        refine r_gf rfl hM5.1.1 rfl rfl ?_
        rw [g21]
        refine r_il rfl rfl ?_
        refine r_iSI rfl (z_gn (by decide) (z_gn (by decide) g74)) (by omega) (by omega) (by omega) ?_
        refine r_al rfl rfl ?_
        refine r_dupA rfl ?_
        refine r_gf rfl (z_gn (by decide) hM5.1.1) rfl rfl ?_
        rw [g21]
        refine r_ic rfl ?_
        refine r_addI rfl ?_
        refine r_pf21 rfl (z_gn (by decide) hM5.1.1) rfl rfl rfl (Or.inl rfl) ?_
        refine r_retv rfl rfl ?_
        refine ⟨rfl, (((he.tr (.set (by omega))).tr (.set (by omega))).tr (.set (by omega))).tr (.set (by omega)), upd v1 21 (zI ((l.length + 1 : Nat) : Int)), fun j hj => ?_, z_gs (z_gn (by decide) (z_gn (by decide) (z_gn (by decide) g62))), ?_, upd fs l.length (zI (e i : Int)), upd ln l.length (zI (w_rn (fun i => bt op (e i)) (m - i) i : Int)), upd dn l.length (zI 1), ?_, ?_, ?_, hl.add _ _, fun j hj => ?_⟩
        · rw [pk_un hj]
          exact hv1 j hj
        · rw [pk_us, List.length_append]
          rfl
        · rw [Int.toNat_natCast]
          exact z_gn (by decide) (z_gn (by decide) (z_gn (by decide) (z_gs g73)))
        · rw [Int.toNat_natCast]
          exact z_gn (by decide) (z_gs (z_gn (by decide) (z_gn (by decide) g74)))
        · rw [Int.toNat_natCast]
          exact z_gn (by decide) (z_gn (by decide) (z_gs (z_gn (by decide) g75)))
        · rw [List.length_append] at hj
          have hj : j < l.length + 1 := hj
          by_cases e2 : j = l.length
          · subst e2
            rw [pk_us, hadd.2]
          · rw [pk_un e2]
            exact hdn j (by omega)
  · have hcn : ¬ (bt op (e i) = true ∧ ¬ w_p (fun i => bt op (e i)) i = true) := fun g => hb g.1
    rw [if_neg hb, if_neg hcn]
    refine r_ifT rfl (zcT0 (rfl)) ?_
    refine r_retv rfl rfl ?_
    exact ⟨rfl, he, v1, hv1, hK⟩
end WY
