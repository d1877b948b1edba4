/-! HEDGES: the reference's side -/
theorem or_0 {x : Int32} : x ||| zI 0 = x := by
  apply b_ext
  intro i hi
  rw [b_or, b_zero, Bool.or_false]
theorem z_or {x : Int32} : zI 0 ||| x = x := by
  apply b_ext
  intro i hi
  rw [b_or, b_zero, Bool.false_or]
theorem h_P_iff {W H L : Nat} {op hg : Int32} : h_P W H L op hg = true ↔ w_hm L (w_all (op &&& (hg ^^^ zI (-1))) W H) (w_all (op &&& (hg ^^^ zI (-1))) W H).length = 0 := by
  unfold h_P
  rw [decide_eq_true_iff, w_hm_ex]
section HY
variable {S : ZS} {d : Nat} {M : ZM} {T : Nat} {tx : Nat → Int32} {W H L n : Nat} {hs lot : Int32} {kc : Nat → ZK} {im : Nat → Option ZB} {tr : Int64} {op : Int32}
theorem m_fh_b0 {v wd hd ld nw : Nat → Int32} (hY : m_Y M tr v wd hd ld nw W H L hs lot n kc) {a b c : Nat} (ha : a < 25) (hb : b < 25) (hc : c < 25) {Q : Option Value → ZM → Prop} {M1 : ZM} {x6 : Option Value} (hI : (z_ev M M1 (fun k => k = 62 ∨ (73 ≤ k ∧ k < 77)) ∧ ∃ v1 f73 f74 f75 f76, (∀ j, j ≠ 21 → v1 j = v j) ∧ M1[62]? = some (.inl (6, m_f tr v1)) ∧ M1[73]? = some (zA 60 f73) ∧ M1[74]? = some (zA 60 f74) ∧ M1[75]? = some (zA 60 f75) ∧ M1[76]? = some (zA 3 f76))) (hf : (h_sub op ((zI 0 ||| zI 0) ||| zI 0) ∧ (h_P W H L op) ((zI 0 ||| zI 0) ||| zI 0) = true) → (∀ (M2 : ZM) (f : Nat → Int32), (z_ev M M2 (fun k => k = 62 ∨ (73 ≤ k ∧ k < 77)) ∧ ∃ v1 f73 f74 f75 f76, (∀ j, j ≠ 21 → v1 j = v j) ∧ M2[62]? = some (.inl (6, m_f tr v1)) ∧ M2[73]? = some (zA 60 f73) ∧ M2[74]? = some (zA 60 f74) ∧ M2[75]? = some (zA 60 f75) ∧ M2[76]? = some (zA 3 f76)) → M2[76]? = some (zA 3 f) → f 0 = zI (a : Int) → f 1 = zI (b : Int) → f 2 = zI (c : Int) → Q (some (.int (zI 1))) M2)) (hx : ¬ (h_sub op ((zI 0 ||| zI 0) ||| zI 0) ∧ (h_P W H L op) ((zI 0 ||| zI 0) ||| zI 0) = true) → ∀ (M2 : ZM) (x6 : Option Value), (z_ev M M2 (fun k => k = 62 ∨ (73 ≤ k ∧ k < 77)) ∧ ∃ v1 f73 f74 f75 f76, (∀ j, j ≠ 21 → v1 j = v j) ∧ M2[62]? = some (.inl (6, m_f tr v1)) ∧ M2[73]? = some (zA 60 f73) ∧ M2[74]? = some (zA 60 f74) ∧ M2[75]? = some (zA 60 f75) ∧ M2[76]? = some (zA 3 f76)) → z_R S (d + 6) 148 196 [some (.ref 62), some (.int (zI 0)), some (.int op), some (.int (zI (a : Int))), some (.int (zI (b : Int))), some (.int (zI (c : Int))), x6] [] M2 Q) : z_R S (d + 6) 148 108 [some (.ref 62), some (.int (zI 0)), some (.int op), some (.int (zI (a : Int))), some (.int (zI (b : Int))), some (.int (zI (c : Int))), x6] [] M1 Q := by
  obtain ⟨he, v1, f73, f74, f75, f76, hv1, g62, g73, g74, g75, g76⟩ := id hI
  have h := hY.v he (fun k x1 x2 => by omega) g62
  obtain ⟨⟨h1, h2, h3, h4, h5⟩, ⟨w1, w2, w3⟩, ⟨⟨hW1, hW2⟩, ⟨hH1, hH2⟩, ⟨hL1, hL2⟩, hn⟩, ⟨a1, a2, a3, a4⟩, hok⟩ := id h
  have hC := p_WH hW2 hH2
  refine r_il rfl rfl ?_
  refine r_ifT rfl (zcT5 ⟨by omega, by omega⟩ ⟨by omega, by omega⟩ (by decide)) ?_
  refine r_ic rfl ?_
  refine r_il rfl rfl ?_
  refine r_ic rfl ?_
  refine r_icT rfl (zcT5 ⟨by omega, by omega⟩ ⟨by omega, by omega⟩ (by decide)) ?_
  refine r_ic rfl ?_
  refine r_ior rfl ?_
  refine r_il rfl rfl ?_
  refine r_ic rfl ?_
  refine r_icT rfl (zcT5 ⟨by omega, by omega⟩ ⟨by omega, by omega⟩ (by decide)) ?_
  refine r_ic rfl ?_
  refine r_ior rfl ?_
  refine r_is6 rfl rfl ?_
  refine r_il rfl rfl ?_
  refine r_il rfl rfl ?_
  refine r_ic rfl ?_
  refine r_ixor rfl ?_
  refine r_iand rfl ?_
  by_cases hsb : ((zI 0 ||| zI 0) ||| zI 0) &&& (op ^^^ zI (-1)) = zI 0
  · refine r_ifF rfl (zx_F1 hsb) ?_
    refine r_al rfl rfl ?_
    refine r_il rfl rfl ?_
    refine r_il rfl rfl ?_
    refine r_ic rfl ?_
    refine r_ixor rfl ?_
    refine r_iand rfl ?_
    obtain ⟨M2, k2, e2, v2, hv2, hK2⟩ := m_harmBy (S := S) (d := d) (op := op &&& (((zI 0 ||| zI 0) ||| zI 0) ^^^ zI (-1))) h g73 g74 g75
    have hin := (w_all_in (op := op &&& (((zI 0 ||| zI 0) ||| zI 0) ^^^ zI (-1))) hW2 hH2).1
    have hlen := (w_all_in (op := op &&& (((zI 0 ||| zI 0) ||| zI 0) ^^^ zI (-1))) hW2 hH2).2.2
    have hb9 := w_hm_le (L := L) hin (w_all (op &&& (((zI 0 ||| zI 0) ||| zI 0) ^^^ zI (-1))) W H).length
    have hPi := h_P_iff (W := W) (H := H) (L := L) (op := op) (hg := ((zI 0 ||| zI 0) ||| zI 0))
    obtain ⟨b62, -, c73, c74, c75, b73, b74, b75, -⟩ := id hK2
    have b76 := (e2.2 76 (by omega)).trans g76
    have hI2 : (z_ev M M2 (fun k => k = 62 ∨ (73 ≤ k ∧ k < 77)) ∧ ∃ v1 f73 f74 f75 f76, (∀ j, j ≠ 21 → v1 j = v j) ∧ M2[62]? = some (.inl (6, m_f tr v1)) ∧ M2[73]? = some (zA 60 f73) ∧ M2[74]? = some (zA 60 f74) ∧ M2[75]? = some (zA 60 f75) ∧ M2[76]? = some (zA 3 f76)) := ⟨he.tr (e2.wk (fun k g => by omega)), v2, c73, c74, c75, f76, fun j hj => (hv2 j hj).trans (hv1 j hj), b62, b73, b74, b75, b76⟩
    generalize w_hm L (w_all (op &&& (((zI 0 ||| zI 0) ||| zI 0) ^^^ zI (-1))) W H) (w_all (op &&& (((zI 0 ||| zI 0) ||| zI 0) ^^^ zI (-1))) W H).length = hm at *
    refine r_cv1 rfl rfl h1 rfl (by decide) rfl (k2) ?_
    by_cases hz : hm = 0
    · refine r_ifF rfl (zcF1 (by omega)) ?_
      refine r_al rfl rfl ?_
      refine r_gf rfl b62 rfl rfl ?_
      refine r_ic rfl ?_
      refine r_il rfl rfl ?_
      refine r_iSI rfl b76 (by omega) (by omega) (by omega) ?_
      refine r_al rfl rfl ?_
      refine r_gf rfl (z_gn (by decide) b62) rfl rfl ?_
      refine r_ic rfl ?_
      refine r_il rfl rfl ?_
      refine r_iSI rfl (z_gs b76) (by omega) (by omega) (by omega) ?_
      rw [List.set_set]
      refine r_al rfl rfl ?_
      refine r_gf rfl (z_gn (by decide) b62) rfl rfl ?_
      refine r_ic rfl ?_
      refine r_il rfl rfl ?_
      refine r_iSI rfl (z_gs b76) (by omega) (by omega) (by omega) ?_
      rw [List.set_set]
      refine r_ic rfl ?_
      refine r_reti rfl rfl ?_
      refine hf ⟨hsb, hPi.mpr hz⟩ _ _ ⟨hI2.1.tr (.set (by omega)), v2, c73, c74, c75, _, fun j hj => (hv2 j hj).trans (hv1 j hj), z_gn (by decide) b62, z_gn (by decide) b73, z_gn (by decide) b74, z_gn (by decide) b75, z_gs b76⟩ (z_gs b76) ?_ ?_ ?_
      · rw [show (0 : Int).toNat = 0 from rfl, show (1 : Int).toNat = 1 from rfl, show (2 : Int).toNat = 2 from rfl, pk_un (by decide), pk_un (by decide), pk_us]
      · rw [show (0 : Int).toNat = 0 from rfl, show (1 : Int).toNat = 1 from rfl, show (2 : Int).toNat = 2 from rfl, pk_un (by decide), pk_us]
      · rw [show (2 : Int).toNat = 2 from rfl, pk_us]
    · refine r_ifT rfl (zcT1 ⟨by omega, by omega⟩ ⟨by omega, by omega⟩ (by omega)) ?_
      exact hx (fun g => hz (hPi.mp g.2)) M2 _ hI2
  · refine r_ifT rfl (zx_T1 hsb) ?_
    exact hx (fun g => hsb g.1) M1 _ hI
theorem m_fh_c0 {v wd hd ld nw : Nat → Int32} (hY : m_Y M tr v wd hd ld nw W H L hs lot n kc) {a b : Nat} (ha : a < 25) (hb : b < 25) {Q : Option Value → ZM → Prop} {M1 : ZM} {x6 : Option Value} (hI : (z_ev M M1 (fun k => k = 62 ∨ (73 ≤ k ∧ k < 77)) ∧ ∃ v1 f73 f74 f75 f76, (∀ j, j ≠ 21 → v1 j = v j) ∧ M1[62]? = some (.inl (6, m_f tr v1)) ∧ M1[73]? = some (zA 60 f73) ∧ M1[74]? = some (zA 60 f74) ∧ M1[75]? = some (zA 60 f75) ∧ M1[76]? = some (zA 3 f76))) {k0 c0 : Nat} (hf : ∀ (l : List Nat) (M2 : ZM) (f : Nat → Int32), h_fq (h_P W H L op) op 0 k0 c0 (zI 0) = some l → (z_ev M M2 (fun k => k = 62 ∨ (73 ≤ k ∧ k < 77)) ∧ ∃ v1 f73 f74 f75 f76, (∀ j, j ≠ 21 → v1 j = v j) ∧ M2[62]? = some (.inl (6, m_f tr v1)) ∧ M2[73]? = some (zA 60 f73) ∧ M2[74]? = some (zA 60 f74) ∧ M2[75]? = some (zA 60 f75) ∧ M2[76]? = some (zA 3 f76)) → M2[76]? = some (zA 3 f) → f 0 = zI (a : Int) → f 1 = zI (b : Int) → (∀ j x : Nat, l[j]? = some x → f (2 + j) = zI (x : Int)) → Q (some (.int (zI 1))) M2) (hx : h_fq (h_P W H L op) op 0 k0 c0 (zI 0) = none → ∀ (M2 : ZM) (x5 x6 : Option Value), (z_ev M M2 (fun k => k = 62 ∨ (73 ≤ k ∧ k < 77)) ∧ ∃ v1 f73 f74 f75 f76, (∀ j, j ≠ 21 → v1 j = v j) ∧ M2[62]? = some (.inl (6, m_f tr v1)) ∧ M2[73]? = some (zA 60 f73) ∧ M2[74]? = some (zA 60 f74) ∧ M2[75]? = some (zA 60 f75) ∧ M2[76]? = some (zA 3 f76)) → z_R S (d + 6) 148 202 [some (.ref 62), some (.int (zI 0)), some (.int op), some (.int (zI (a : Int))), some (.int (zI (b : Int))), x5, x6] [] M2 Q) : z_R S (d + 6) 148 90 [some (.ref 62), some (.int (zI 0)), some (.int op), some (.int (zI (a : Int))), some (.int (zI (b : Int))), some (.int (zI 0)), x6] [] M1 Q := by
  obtain ⟨he, v1, f73, f74, f75, f76, hv1, g62, g73, g74, g75, g76⟩ := id hI
  have h := hY.v he (fun k x1 x2 => by omega) g62
  obtain ⟨⟨h1, h2, h3, h4, h5⟩, ⟨w1, w2, w3⟩, ⟨⟨hW1, hW2⟩, ⟨hH1, hH2⟩, ⟨hL1, hL2⟩, hn⟩, ⟨a1, a2, a3, a4⟩, hok⟩ := id h
  have hC := p_WH hW2 hH2
  refine r_il rfl rfl ?_
  refine r_il rfl rfl ?_
  refine r_ic rfl ?_
  refine r_icT rfl (zcT5 ⟨by omega, by omega⟩ ⟨by omega, by omega⟩ (by decide)) ?_
  refine r_ic rfl ?_
  refine r_icF rfl (zcF3 ⟨by omega, by omega⟩ ⟨by omega, by omega⟩ (by omega)) ?_
  have es : ((zI 0 ||| zI 0) ||| zI 0) = (zI 0) := by rw [z_or, z_or]
  refine m_fh_b0 hY ha hb (c := 0) (by omega) hI (fun hE M2 f hI2 h76 e0 e1 e2 => ?_) (fun hE M2 x6 hI2 => ?_)
  · rw [es] at hE
    exact hf [] M2 f (if_pos hE) hI2 h76 e0 e1 (fun j x hx => by cases hx)
  · rw [es] at hE
    obtain ⟨he, v1, f73, f74, f75, f76, hv1, g62, g73, g74, g75, g76⟩ := id hI2
    refine r_jj5 rfl rfl ?_
    refine r_goto rfl ?_
    refine r_il rfl rfl ?_
    refine r_il rfl rfl ?_
    refine r_ic rfl ?_
    refine r_icT rfl (zcT5 ⟨by omega, by omega⟩ ⟨by omega, by omega⟩ (by decide)) ?_
    refine r_ic rfl ?_
    refine r_icT rfl (zcT3 ⟨by omega, by omega⟩ ⟨by omega, by omega⟩ (by omega)) ?_
    exact hx (if_neg hE) M2 _ _ hI2
theorem m_fh_B0 {v wd hd ld nw : Nat → Int32} (hY : m_Y M tr v wd hd ld nw W H L hs lot n kc) {a : Nat} (ha : a < 25) {Q : Option Value → ZM → Prop} {M1 : ZM} {x5 x6 : Option Value} (hI : (z_ev M M1 (fun k => k = 62 ∨ (73 ≤ k ∧ k < 77)) ∧ ∃ v1 f73 f74 f75 f76, (∀ j, j ≠ 21 → v1 j = v j) ∧ M1[62]? = some (.inl (6, m_f tr v1)) ∧ M1[73]? = some (zA 60 f73) ∧ M1[74]? = some (zA 60 f74) ∧ M1[75]? = some (zA 60 f75) ∧ M1[76]? = some (zA 3 f76))) {k0 c0 : Nat} (hf : ∀ (l : List Nat) (M2 : ZM) (f : Nat → Int32), h_fq (h_P W H L op) op 0 k0 c0 (zI 0) = some l → (z_ev M M2 (fun k => k = 62 ∨ (73 ≤ k ∧ k < 77)) ∧ ∃ v1 f73 f74 f75 f76, (∀ j, j ≠ 21 → v1 j = v j) ∧ M2[62]? = some (.inl (6, m_f tr v1)) ∧ M2[73]? = some (zA 60 f73) ∧ M2[74]? = some (zA 60 f74) ∧ M2[75]? = some (zA 60 f75) ∧ M2[76]? = some (zA 3 f76)) → M2[76]? = some (zA 3 f) → f 0 = zI (a : Int) → (∀ j x : Nat, l[j]? = some x → f (1 + j) = zI (x : Int)) → Q (some (.int (zI 1))) M2) (hx : h_fq (h_P W H L op) op 0 k0 c0 (zI 0) = none → ∀ (M2 : ZM) (x4 x5 x6 : Option Value), (z_ev M M2 (fun k => k = 62 ∨ (73 ≤ k ∧ k < 77)) ∧ ∃ v1 f73 f74 f75 f76, (∀ j, j ≠ 21 → v1 j = v j) ∧ M2[62]? = some (.inl (6, m_f tr v1)) ∧ M2[73]? = some (zA 60 f73) ∧ M2[74]? = some (zA 60 f74) ∧ M2[75]? = some (zA 60 f75) ∧ M2[76]? = some (zA 3 f76)) → z_R S (d + 6) 148 208 [some (.ref 62), some (.int (zI 0)), some (.int op), some (.int (zI (a : Int))), x4, x5, x6] [] M2 Q) : z_R S (d + 6) 148 57 [some (.ref 62), some (.int (zI 0)), some (.int op), some (.int (zI (a : Int))), some (.int (zI 0)), x5, x6] [] M1 Q := by
  obtain ⟨he, v1, f73, f74, f75, f76, hv1, g62, g73, g74, g75, g76⟩ := id hI
  have h := hY.v he (fun k x1 x2 => by omega) g62
  obtain ⟨⟨h1, h2, h3, h4, h5⟩, ⟨w1, w2, w3⟩, ⟨⟨hW1, hW2⟩, ⟨hH1, hH2⟩, ⟨hL1, hL2⟩, hn⟩, ⟨a1, a2, a3, a4⟩, hok⟩ := id h
  have hC := p_WH hW2 hH2
  refine r_il rfl rfl ?_
  refine r_il rfl rfl ?_
  refine r_ic rfl ?_
  refine r_icT rfl (zcT5 ⟨by omega, by omega⟩ ⟨by omega, by omega⟩ (by decide)) ?_
  refine r_ic rfl ?_
  refine r_icF rfl (zcF3 ⟨by omega, by omega⟩ ⟨by omega, by omega⟩ (by omega)) ?_
  refine r_il rfl rfl ?_
  refine r_ic rfl ?_
  refine r_icT rfl (zcT5 ⟨by omega, by omega⟩ ⟨by omega, by omega⟩ (by decide)) ?_
  refine r_ic rfl ?_
  refine r_is5 rfl rfl ?_
  refine m_fh_c0 hY ha (b := 0) (by omega) hI (k0 := k0) (c0 := c0) (fun l M2 f ho hI2 h76 e0 e1 e2 => ?_) (fun ho M2 x5 x6 hI2 => ?_)
  · refine hf l M2 f ho hI2 h76 e0 (fun j x hx => ?_)
    have ho : (if _ then some ([] : List Nat) else none) = some l := ho
    split at ho
    · cases ho
      cases hx
    · cases ho
  · obtain ⟨he, v1, f73, f74, f75, f76, hv1, g62, g73, g74, g75, g76⟩ := id hI2
    refine r_jj4 rfl rfl ?_
    refine r_goto rfl ?_
    refine r_il rfl rfl ?_
    refine r_il rfl rfl ?_
    refine r_ic rfl ?_
    refine r_icT rfl (zcT5 ⟨by omega, by omega⟩ ⟨by omega, by omega⟩ (by decide)) ?_
    refine r_ic rfl ?_
    refine r_icT rfl (zcT3 ⟨by omega, by omega⟩ ⟨by omega, by omega⟩ (by omega)) ?_
    exact hx ho M2 _ _ _ hI2
theorem m_fh_A0 {v wd hd ld nw : Nat → Int32} (hY : m_Y M tr v wd hd ld nw W H L hs lot n kc) {Q : Option Value → ZM → Prop} {M1 : ZM} {x4 x5 x6 : Option Value} (hI : (z_ev M M1 (fun k => k = 62 ∨ (73 ≤ k ∧ k < 77)) ∧ ∃ v1 f73 f74 f75 f76, (∀ j, j ≠ 21 → v1 j = v j) ∧ M1[62]? = some (.inl (6, m_f tr v1)) ∧ M1[73]? = some (zA 60 f73) ∧ M1[74]? = some (zA 60 f74) ∧ M1[75]? = some (zA 60 f75) ∧ M1[76]? = some (zA 3 f76))) {k0 c0 : Nat} (hf : ∀ (l : List Nat) (M2 : ZM) (f : Nat → Int32), h_fq (h_P W H L op) op 0 k0 c0 (zI 0) = some l → (z_ev M M2 (fun k => k = 62 ∨ (73 ≤ k ∧ k < 77)) ∧ ∃ v1 f73 f74 f75 f76, (∀ j, j ≠ 21 → v1 j = v j) ∧ M2[62]? = some (.inl (6, m_f tr v1)) ∧ M2[73]? = some (zA 60 f73) ∧ M2[74]? = some (zA 60 f74) ∧ M2[75]? = some (zA 60 f75) ∧ M2[76]? = some (zA 3 f76)) → M2[76]? = some (zA 3 f) → (∀ j x : Nat, l[j]? = some x → f j = zI (x : Int)) → Q (some (.int (zI 1))) M2) (hx : h_fq (h_P W H L op) op 0 k0 c0 (zI 0) = none → ∀ M2 : ZM, (z_ev M M2 (fun k => k = 62 ∨ (73 ≤ k ∧ k < 77)) ∧ ∃ v1 f73 f74 f75 f76, (∀ j, j ≠ 21 → v1 j = v j) ∧ M2[62]? = some (.inl (6, m_f tr v1)) ∧ M2[73]? = some (zA 60 f73) ∧ M2[74]? = some (zA 60 f74) ∧ M2[75]? = some (zA 60 f75) ∧ M2[76]? = some (zA 3 f76)) → Q (some (.int (zI 0))) M2) : z_R S (d + 6) 148 27 [some (.ref 62), some (.int (zI 0)), some (.int op), some (.int (zI 0)), x4, x5, x6] [] M1 Q := by
  obtain ⟨he, v1, f73, f74, f75, f76, hv1, g62, g73, g74, g75, g76⟩ := id hI
  have h := hY.v he (fun k x1 x2 => by omega) g62
  obtain ⟨⟨h1, h2, h3, h4, h5⟩, ⟨w1, w2, w3⟩, ⟨⟨hW1, hW2⟩, ⟨hH1, hH2⟩, ⟨hL1, hL2⟩, hn⟩, ⟨a1, a2, a3, a4⟩, hok⟩ := id h
  have hC := p_WH hW2 hH2
  refine r_il rfl rfl ?_
  refine r_il rfl rfl ?_
  refine r_ifT rfl (zcT5 ⟨by omega, by omega⟩ ⟨by omega, by omega⟩ (by decide)) ?_
  refine r_ic rfl ?_
  refine r_icF rfl (zcF3 ⟨by omega, by omega⟩ ⟨by omega, by omega⟩ (by omega)) ?_
  refine r_il rfl rfl ?_
  refine r_ic rfl ?_
  refine r_icT rfl (zcT5 ⟨by omega, by omega⟩ ⟨by omega, by omega⟩ (by decide)) ?_
  refine r_ic rfl ?_
  refine r_is4 rfl rfl ?_
  refine m_fh_B0 hY (a := 0) (by omega) hI (k0 := k0) (c0 := c0) (fun l M2 f ho hI2 h76 e0 e1 => ?_) (fun ho M2 x4 x5 x6 hI2 => ?_)
  · refine hf l M2 f ho hI2 h76 (fun j x hx => ?_)
    have ho : (if _ then some ([] : List Nat) else none) = some l := ho
    split at ho
    · cases ho
      cases hx
    · cases ho
  · obtain ⟨he, v1, f73, f74, f75, f76, hv1, g62, g73, g74, g75, g76⟩ := id hI2
    refine r_jj3 rfl rfl ?_
    refine r_goto rfl ?_
    refine r_il rfl rfl ?_
    refine r_il rfl rfl ?_
    refine r_ifT rfl (zcT5 ⟨by omega, by omega⟩ ⟨by omega, by omega⟩ (by decide)) ?_
    refine r_ic rfl ?_
    refine r_icT rfl (zcT3 ⟨by omega, by omega⟩ ⟨by omega, by omega⟩ (by omega)) ?_
    refine r_ic rfl ?_
    refine r_reti rfl rfl ?_
    exact hx ho M2 hI2
theorem m_fh_b1 {v wd hd ld nw : Nat → Int32} (hY : m_Y M tr v wd hd ld nw W H L hs lot n kc) {a b c : Nat} (ha : a < 25) (hb : b < 25) (hc : c < 25) {Q : Option Value → ZM → Prop} {M1 : ZM} {x6 : Option Value} (hI : (z_ev M M1 (fun k => k = 62 ∨ (73 ≤ k ∧ k < 77)) ∧ ∃ v1 f73 f74 f75 f76, (∀ j, j ≠ 21 → v1 j = v j) ∧ M1[62]? = some (.inl (6, m_f tr v1)) ∧ M1[73]? = some (zA 60 f73) ∧ M1[74]? = some (zA 60 f74) ∧ M1[75]? = some (zA 60 f75) ∧ M1[76]? = some (zA 3 f76))) (hf : (h_sub op ((h_bit a ||| zI 0) ||| zI 0) ∧ (h_P W H L op) ((h_bit a ||| zI 0) ||| zI 0) = true) → (∀ (M2 : ZM) (f : Nat → Int32), (z_ev M M2 (fun k => k = 62 ∨ (73 ≤ k ∧ k < 77)) ∧ ∃ v1 f73 f74 f75 f76, (∀ j, j ≠ 21 → v1 j = v j) ∧ M2[62]? = some (.inl (6, m_f tr v1)) ∧ M2[73]? = some (zA 60 f73) ∧ M2[74]? = some (zA 60 f74) ∧ M2[75]? = some (zA 60 f75) ∧ M2[76]? = some (zA 3 f76)) → M2[76]? = some (zA 3 f) → f 0 = zI (a : Int) → f 1 = zI (b : Int) → f 2 = zI (c : Int) → Q (some (.int (zI 1))) M2)) (hx : ¬ (h_sub op ((h_bit a ||| zI 0) ||| zI 0) ∧ (h_P W H L op) ((h_bit a ||| zI 0) ||| zI 0) = true) → ∀ (M2 : ZM) (x6 : Option Value), (z_ev M M2 (fun k => k = 62 ∨ (73 ≤ k ∧ k < 77)) ∧ ∃ v1 f73 f74 f75 f76, (∀ j, j ≠ 21 → v1 j = v j) ∧ M2[62]? = some (.inl (6, m_f tr v1)) ∧ M2[73]? = some (zA 60 f73) ∧ M2[74]? = some (zA 60 f74) ∧ M2[75]? = some (zA 60 f75) ∧ M2[76]? = some (zA 3 f76)) → z_R S (d + 6) 148 196 [some (.ref 62), some (.int (zI 1)), some (.int op), some (.int (zI (a : Int))), some (.int (zI (b : Int))), some (.int (zI (c : Int))), x6] [] M2 Q) : z_R S (d + 6) 148 108 [some (.ref 62), some (.int (zI 1)), some (.int op), some (.int (zI (a : Int))), some (.int (zI (b : Int))), some (.int (zI (c : Int))), x6] [] M1 Q := by
  obtain ⟨he, v1, f73, f74, f75, f76, hv1, g62, g73, g74, g75, g76⟩ := id hI
  have h := hY.v he (fun k x1 x2 => by omega) g62
  obtain ⟨⟨h1, h2, h3, h4, h5⟩, ⟨w1, w2, w3⟩, ⟨⟨hW1, hW2⟩, ⟨hH1, hH2⟩, ⟨hL1, hL2⟩, hn⟩, ⟨a1, a2, a3, a4⟩, hok⟩ := id h
  have hC := p_WH hW2 hH2
  refine r_il rfl rfl ?_
  refine r_ifF rfl (zcF5 ⟨by omega, by omega⟩ ⟨by omega, by omega⟩ (by decide)) ?_
  refine r_ic rfl ?_
  refine r_il rfl rfl ?_
  refine r_ishl rfl ?_
  refine r_goto rfl ?_
  refine r_il rfl rfl ?_
  refine r_ic rfl ?_
  refine r_icT rfl (zcT5 ⟨by omega, by omega⟩ ⟨by omega, by omega⟩ (by decide)) ?_
  refine r_ic rfl ?_
  refine r_ior rfl ?_
  refine r_il rfl rfl ?_
  refine r_ic rfl ?_
  refine r_icT rfl (zcT5 ⟨by omega, by omega⟩ ⟨by omega, by omega⟩ (by decide)) ?_
  refine r_ic rfl ?_
  refine r_ior rfl ?_
  refine r_is6 rfl rfl ?_
  refine r_il rfl rfl ?_
  refine r_il rfl rfl ?_
  refine r_ic rfl ?_
  refine r_ixor rfl ?_
  refine r_iand rfl ?_
  by_cases hsb : ((h_bit a ||| zI 0) ||| zI 0) &&& (op ^^^ zI (-1)) = zI 0
  · refine r_ifF rfl (zx_F1 hsb) ?_
    refine r_al rfl rfl ?_
    refine r_il rfl rfl ?_
    refine r_il rfl rfl ?_
    refine r_ic rfl ?_
    refine r_ixor rfl ?_
    refine r_iand rfl ?_
    obtain ⟨M2, k2, e2, v2, hv2, hK2⟩ := m_harmBy (S := S) (d := d) (op := op &&& (((h_bit a ||| zI 0) ||| zI 0) ^^^ zI (-1))) h g73 g74 g75
    have hin := (w_all_in (op := op &&& (((h_bit a ||| zI 0) ||| zI 0) ^^^ zI (-1))) hW2 hH2).1
    have hlen := (w_all_in (op := op &&& (((h_bit a ||| zI 0) ||| zI 0) ^^^ zI (-1))) hW2 hH2).2.2
    have hb9 := w_hm_le (L := L) hin (w_all (op &&& (((h_bit a ||| zI 0) ||| zI 0) ^^^ zI (-1))) W H).length
    have hPi := h_P_iff (W := W) (H := H) (L := L) (op := op) (hg := ((h_bit a ||| zI 0) ||| zI 0))
    obtain ⟨b62, -, c73, c74, c75, b73, b74, b75, -⟩ := id hK2
    have b76 := (e2.2 76 (by omega)).trans g76
    have hI2 : (z_ev M M2 (fun k => k = 62 ∨ (73 ≤ k ∧ k < 77)) ∧ ∃ v1 f73 f74 f75 f76, (∀ j, j ≠ 21 → v1 j = v j) ∧ M2[62]? = some (.inl (6, m_f tr v1)) ∧ M2[73]? = some (zA 60 f73) ∧ M2[74]? = some (zA 60 f74) ∧ M2[75]? = some (zA 60 f75) ∧ M2[76]? = some (zA 3 f76)) := ⟨he.tr (e2.wk (fun k g => by omega)), v2, c73, c74, c75, f76, fun j hj => (hv2 j hj).trans (hv1 j hj), b62, b73, b74, b75, b76⟩
    generalize w_hm L (w_all (op &&& (((h_bit a ||| zI 0) ||| zI 0) ^^^ zI (-1))) W H) (w_all (op &&& (((h_bit a ||| zI 0) ||| zI 0) ^^^ zI (-1))) W H).length = hm at *
    refine r_cv1 rfl rfl h1 rfl (by decide) rfl (k2) ?_
    by_cases hz : hm = 0
    · refine r_ifF rfl (zcF1 (by omega)) ?_
      refine r_al rfl rfl ?_
      refine r_gf rfl b62 rfl rfl ?_
      refine r_ic rfl ?_
      refine r_il rfl rfl ?_
      refine r_iSI rfl b76 (by omega) (by omega) (by omega) ?_
      refine r_al rfl rfl ?_
      refine r_gf rfl (z_gn (by decide) b62) rfl rfl ?_
      refine r_ic rfl ?_
      refine r_il rfl rfl ?_
      refine r_iSI rfl (z_gs b76) (by omega) (by omega) (by omega) ?_
      rw [List.set_set]
      refine r_al rfl rfl ?_
      refine r_gf rfl (z_gn (by decide) b62) rfl rfl ?_
      refine r_ic rfl ?_
      refine r_il rfl rfl ?_
      refine r_iSI rfl (z_gs b76) (by omega) (by omega) (by omega) ?_
      rw [List.set_set]
      refine r_ic rfl ?_
      refine r_reti rfl rfl ?_
      refine hf ⟨hsb, hPi.mpr hz⟩ _ _ ⟨hI2.1.tr (.set (by omega)), v2, c73, c74, c75, _, fun j hj => (hv2 j hj).trans (hv1 j hj), z_gn (by decide) b62, z_gn (by decide) b73, z_gn (by decide) b74, z_gn (by decide) b75, z_gs b76⟩ (z_gs b76) ?_ ?_ ?_
      · rw [show (0 : Int).toNat = 0 from rfl, show (1 : Int).toNat = 1 from rfl, show (2 : Int).toNat = 2 from rfl, pk_un (by decide), pk_un (by decide), pk_us]
      · rw [show (0 : Int).toNat = 0 from rfl, show (1 : Int).toNat = 1 from rfl, show (2 : Int).toNat = 2 from rfl, pk_un (by decide), pk_us]
      · rw [show (2 : Int).toNat = 2 from rfl, pk_us]
    · refine r_ifT rfl (zcT1 ⟨by omega, by omega⟩ ⟨by omega, by omega⟩ (by omega)) ?_
      exact hx (fun g => hz (hPi.mp g.2)) M2 _ hI2
  · refine r_ifT rfl (zx_T1 hsb) ?_
    exact hx (fun g => hsb g.1) M1 _ hI
theorem m_fh_c1 {v wd hd ld nw : Nat → Int32} (hY : m_Y M tr v wd hd ld nw W H L hs lot n kc) {a b : Nat} (ha : a < 25) (hb : b < 25) {Q : Option Value → ZM → Prop} {M1 : ZM} {x6 : Option Value} (hI : (z_ev M M1 (fun k => k = 62 ∨ (73 ≤ k ∧ k < 77)) ∧ ∃ v1 f73 f74 f75 f76, (∀ j, j ≠ 21 → v1 j = v j) ∧ M1[62]? = some (.inl (6, m_f tr v1)) ∧ M1[73]? = some (zA 60 f73) ∧ M1[74]? = some (zA 60 f74) ∧ M1[75]? = some (zA 60 f75) ∧ M1[76]? = some (zA 3 f76))) {k0 c0 : Nat} (hf : ∀ (l : List Nat) (M2 : ZM) (f : Nat → Int32), h_fq (h_P W H L op) op 0 k0 c0 (zI 0 ||| h_bit a) = some l → (z_ev M M2 (fun k => k = 62 ∨ (73 ≤ k ∧ k < 77)) ∧ ∃ v1 f73 f74 f75 f76, (∀ j, j ≠ 21 → v1 j = v j) ∧ M2[62]? = some (.inl (6, m_f tr v1)) ∧ M2[73]? = some (zA 60 f73) ∧ M2[74]? = some (zA 60 f74) ∧ M2[75]? = some (zA 60 f75) ∧ M2[76]? = some (zA 3 f76)) → M2[76]? = some (zA 3 f) → f 0 = zI (a : Int) → f 1 = zI (b : Int) → (∀ j x : Nat, l[j]? = some x → f (2 + j) = zI (x : Int)) → Q (some (.int (zI 1))) M2) (hx : h_fq (h_P W H L op) op 0 k0 c0 (zI 0 ||| h_bit a) = none → ∀ (M2 : ZM) (x5 x6 : Option Value), (z_ev M M2 (fun k => k = 62 ∨ (73 ≤ k ∧ k < 77)) ∧ ∃ v1 f73 f74 f75 f76, (∀ j, j ≠ 21 → v1 j = v j) ∧ M2[62]? = some (.inl (6, m_f tr v1)) ∧ M2[73]? = some (zA 60 f73) ∧ M2[74]? = some (zA 60 f74) ∧ M2[75]? = some (zA 60 f75) ∧ M2[76]? = some (zA 3 f76)) → z_R S (d + 6) 148 202 [some (.ref 62), some (.int (zI 1)), some (.int op), some (.int (zI (a : Int))), some (.int (zI (b : Int))), x5, x6] [] M2 Q) : z_R S (d + 6) 148 90 [some (.ref 62), some (.int (zI 1)), some (.int op), some (.int (zI (a : Int))), some (.int (zI (b : Int))), some (.int (zI 0)), x6] [] M1 Q := by
  obtain ⟨he, v1, f73, f74, f75, f76, hv1, g62, g73, g74, g75, g76⟩ := id hI
  have h := hY.v he (fun k x1 x2 => by omega) g62
  obtain ⟨⟨h1, h2, h3, h4, h5⟩, ⟨w1, w2, w3⟩, ⟨⟨hW1, hW2⟩, ⟨hH1, hH2⟩, ⟨hL1, hL2⟩, hn⟩, ⟨a1, a2, a3, a4⟩, hok⟩ := id h
  have hC := p_WH hW2 hH2
  refine r_il rfl rfl ?_
  refine r_il rfl rfl ?_
  refine r_ic rfl ?_
  refine r_icT rfl (zcT5 ⟨by omega, by omega⟩ ⟨by omega, by omega⟩ (by decide)) ?_
  refine r_ic rfl ?_
  refine r_icF rfl (zcF3 ⟨by omega, by omega⟩ ⟨by omega, by omega⟩ (by omega)) ?_
  have es : ((h_bit a ||| zI 0) ||| zI 0) = (zI 0 ||| h_bit a) := by rw [z_or, or_0, or_0]
  refine m_fh_b1 hY ha hb (c := 0) (by omega) hI (fun hE M2 f hI2 h76 e0 e1 e2 => ?_) (fun hE M2 x6 hI2 => ?_)
  · rw [es] at hE
    exact hf [] M2 f (if_pos hE) hI2 h76 e0 e1 (fun j x hx => by cases hx)
  · rw [es] at hE
    obtain ⟨he, v1, f73, f74, f75, f76, hv1, g62, g73, g74, g75, g76⟩ := id hI2
    refine r_jj5 rfl rfl ?_
    refine r_goto rfl ?_
    refine r_il rfl rfl ?_
    refine r_il rfl rfl ?_
    refine r_ic rfl ?_
    refine r_icT rfl (zcT5 ⟨by omega, by omega⟩ ⟨by omega, by omega⟩ (by decide)) ?_
    refine r_ic rfl ?_
    refine r_icT rfl (zcT3 ⟨by omega, by omega⟩ ⟨by omega, by omega⟩ (by omega)) ?_
    exact hx (if_neg hE) M2 _ _ hI2
theorem m_fh_B1 {v wd hd ld nw : Nat → Int32} (hY : m_Y M tr v wd hd ld nw W H L hs lot n kc) {a : Nat} (ha : a < 25) {Q : Option Value → ZM → Prop} {M1 : ZM} {x5 x6 : Option Value} (hI : (z_ev M M1 (fun k => k = 62 ∨ (73 ≤ k ∧ k < 77)) ∧ ∃ v1 f73 f74 f75 f76, (∀ j, j ≠ 21 → v1 j = v j) ∧ M1[62]? = some (.inl (6, m_f tr v1)) ∧ M1[73]? = some (zA 60 f73) ∧ M1[74]? = some (zA 60 f74) ∧ M1[75]? = some (zA 60 f75) ∧ M1[76]? = some (zA 3 f76))) {k0 c0 : Nat} (hf : ∀ (l : List Nat) (M2 : ZM) (f : Nat → Int32), h_fq (h_P W H L op) op 0 k0 c0 (zI 0 ||| h_bit a) = some l → (z_ev M M2 (fun k => k = 62 ∨ (73 ≤ k ∧ k < 77)) ∧ ∃ v1 f73 f74 f75 f76, (∀ j, j ≠ 21 → v1 j = v j) ∧ M2[62]? = some (.inl (6, m_f tr v1)) ∧ M2[73]? = some (zA 60 f73) ∧ M2[74]? = some (zA 60 f74) ∧ M2[75]? = some (zA 60 f75) ∧ M2[76]? = some (zA 3 f76)) → M2[76]? = some (zA 3 f) → f 0 = zI (a : Int) → (∀ j x : Nat, l[j]? = some x → f (1 + j) = zI (x : Int)) → Q (some (.int (zI 1))) M2) (hx : h_fq (h_P W H L op) op 0 k0 c0 (zI 0 ||| h_bit a) = none → ∀ (M2 : ZM) (x4 x5 x6 : Option Value), (z_ev M M2 (fun k => k = 62 ∨ (73 ≤ k ∧ k < 77)) ∧ ∃ v1 f73 f74 f75 f76, (∀ j, j ≠ 21 → v1 j = v j) ∧ M2[62]? = some (.inl (6, m_f tr v1)) ∧ M2[73]? = some (zA 60 f73) ∧ M2[74]? = some (zA 60 f74) ∧ M2[75]? = some (zA 60 f75) ∧ M2[76]? = some (zA 3 f76)) → z_R S (d + 6) 148 208 [some (.ref 62), some (.int (zI 1)), some (.int op), some (.int (zI (a : Int))), x4, x5, x6] [] M2 Q) : z_R S (d + 6) 148 57 [some (.ref 62), some (.int (zI 1)), some (.int op), some (.int (zI (a : Int))), some (.int (zI 0)), x5, x6] [] M1 Q := by
  obtain ⟨he, v1, f73, f74, f75, f76, hv1, g62, g73, g74, g75, g76⟩ := id hI
  have h := hY.v he (fun k x1 x2 => by omega) g62
  obtain ⟨⟨h1, h2, h3, h4, h5⟩, ⟨w1, w2, w3⟩, ⟨⟨hW1, hW2⟩, ⟨hH1, hH2⟩, ⟨hL1, hL2⟩, hn⟩, ⟨a1, a2, a3, a4⟩, hok⟩ := id h
  have hC := p_WH hW2 hH2
  refine r_il rfl rfl ?_
  refine r_il rfl rfl ?_
  refine r_ic rfl ?_
  refine r_icT rfl (zcT5 ⟨by omega, by omega⟩ ⟨by omega, by omega⟩ (by decide)) ?_
  refine r_ic rfl ?_
  refine r_icF rfl (zcF3 ⟨by omega, by omega⟩ ⟨by omega, by omega⟩ (by omega)) ?_
  refine r_il rfl rfl ?_
  refine r_ic rfl ?_
  refine r_icT rfl (zcT5 ⟨by omega, by omega⟩ ⟨by omega, by omega⟩ (by decide)) ?_
  refine r_ic rfl ?_
  refine r_is5 rfl rfl ?_
  refine m_fh_c1 hY ha (b := 0) (by omega) hI (k0 := k0) (c0 := c0) (fun l M2 f ho hI2 h76 e0 e1 e2 => ?_) (fun ho M2 x5 x6 hI2 => ?_)
  · refine hf l M2 f ho hI2 h76 e0 (fun j x hx => ?_)
    have ho : (if _ then some ([] : List Nat) else none) = some l := ho
    split at ho
    · cases ho
      cases hx
    · cases ho
  · obtain ⟨he, v1, f73, f74, f75, f76, hv1, g62, g73, g74, g75, g76⟩ := id hI2
    refine r_jj4 rfl rfl ?_
    refine r_goto rfl ?_
    refine r_il rfl rfl ?_
    refine r_il rfl rfl ?_
    refine r_ic rfl ?_
    refine r_icT rfl (zcT5 ⟨by omega, by omega⟩ ⟨by omega, by omega⟩ (by decide)) ?_
    refine r_ic rfl ?_
    refine r_icT rfl (zcT3 ⟨by omega, by omega⟩ ⟨by omega, by omega⟩ (by omega)) ?_
    exact hx ho M2 _ _ _ hI2
set_option maxRecDepth 20000 in
theorem m_fh_A1 {v wd hd ld nw : Nat → Int32} (hY : m_Y M tr v wd hd ld nw W H L hs lot n kc) {Q : Option Value → ZM → Prop} : ∀ (k a : Nat) (M1 : ZM) (x4 x5 x6 : Option Value), a + k = W * H → (z_ev M M1 (fun k => k = 62 ∨ (73 ≤ k ∧ k < 77)) ∧ ∃ v1 f73 f74 f75 f76, (∀ j, j ≠ 21 → v1 j = v j) ∧ M1[62]? = some (.inl (6, m_f tr v1)) ∧ M1[73]? = some (zA 60 f73) ∧ M1[74]? = some (zA 60 f74) ∧ M1[75]? = some (zA 60 f75) ∧ M1[76]? = some (zA 3 f76)) → (∀ (l : List Nat) (M2 : ZM) (f : Nat → Int32), h_fq (h_P W H L op) op 1 k a (zI 0) = some l → (z_ev M M2 (fun k => k = 62 ∨ (73 ≤ k ∧ k < 77)) ∧ ∃ v1 f73 f74 f75 f76, (∀ j, j ≠ 21 → v1 j = v j) ∧ M2[62]? = some (.inl (6, m_f tr v1)) ∧ M2[73]? = some (zA 60 f73) ∧ M2[74]? = some (zA 60 f74) ∧ M2[75]? = some (zA 60 f75) ∧ M2[76]? = some (zA 3 f76)) → M2[76]? = some (zA 3 f) → (∀ j x : Nat, l[j]? = some x → f j = zI (x : Int)) → Q (some (.int (zI 1))) M2) → (h_fq (h_P W H L op) op 1 k a (zI 0) = none → ∀ M2 : ZM, (z_ev M M2 (fun k => k = 62 ∨ (73 ≤ k ∧ k < 77)) ∧ ∃ v1 f73 f74 f75 f76, (∀ j, j ≠ 21 → v1 j = v j) ∧ M2[62]? = some (.inl (6, m_f tr v1)) ∧ M2[73]? = some (zA 60 f73) ∧ M2[74]? = some (zA 60 f74) ∧ M2[75]? = some (zA 60 f75) ∧ M2[76]? = some (zA 3 f76)) → Q (some (.int (zI 0))) M2) → z_R S (d + 6) 148 27 [some (.ref 62), some (.int (zI 1)), some (.int op), some (.int (zI (a : Int))), x4, x5, x6] [] M1 Q := by
  intro k
  induction k with
  | zero =>
    intro a M1 x4 x5 x6 ha hI hf hx
    obtain ⟨he, v1, f73, f74, f75, f76, hv1, g62, g73, g74, g75, g76⟩ := id hI
    have h := hY.v he (fun k x1 x2 => by omega) g62
    obtain ⟨⟨h1, h2, h3, h4, h5⟩, ⟨w1, w2, w3⟩, ⟨⟨hW1, hW2⟩, ⟨hH1, hH2⟩, ⟨hL1, hL2⟩, hn⟩, ⟨a1, a2, a3, a4⟩, hok⟩ := id h
    have hC := p_WH hW2 hH2
    refine r_il rfl rfl ?_
    refine r_il rfl rfl ?_
    refine r_ifF rfl (zcF5 ⟨by omega, by omega⟩ ⟨by omega, by omega⟩ (by decide)) ?_
    refine r_al rfl rfl ?_
    refine r_cv0 rfl rfl h1 rfl (by decide) rfl (m_cells h) ?_
    refine r_goto rfl ?_
    refine r_icT rfl (zcT3 ⟨by omega, by omega⟩ ⟨by omega, by omega⟩ (by omega)) ?_
    refine r_ic rfl ?_
    refine r_reti rfl rfl ?_
    exact hx rfl M1 hI
  | succ k ih =>
    intro a M1 x4 x5 x6 ha hI hf hx
    obtain ⟨he, v1, f73, f74, f75, f76, hv1, g62, g73, g74, g75, g76⟩ := id hI
    have h := hY.v he (fun k x1 x2 => by omega) g62
    obtain ⟨⟨h1, h2, h3, h4, h5⟩, ⟨w1, w2, w3⟩, ⟨⟨hW1, hW2⟩, ⟨hH1, hH2⟩, ⟨hL1, hL2⟩, hn⟩, ⟨a1, a2, a3, a4⟩, hok⟩ := id h
    have hC := p_WH hW2 hH2
    refine r_il rfl rfl ?_
    refine r_il rfl rfl ?_
    refine r_ifF rfl (zcF5 ⟨by omega, by omega⟩ ⟨by omega, by omega⟩ (by decide)) ?_
    refine r_al rfl rfl ?_
    refine r_cv0 rfl rfl h1 rfl (by decide) rfl (m_cells h) ?_
    refine r_goto rfl ?_
    refine r_icF rfl (zcF3 ⟨by omega, by omega⟩ ⟨by omega, by omega⟩ (by omega)) ?_
    refine r_il rfl rfl ?_
    refine r_ic rfl ?_
    refine r_icT rfl (zcT5 ⟨by omega, by omega⟩ ⟨by omega, by omega⟩ (by decide)) ?_
    refine r_ic rfl ?_
    refine r_is4 rfl rfl ?_
    refine m_fh_B1 hY (a := a) (by omega) hI (k0 := k) (c0 := a + 1) (fun l M2 f ho hI2 h76 e0 e1 => ?_) (fun ho M2 x4 x5 x6 hI2 => ?_)
    · refine hf (a :: l) M2 f ?_ hI2 h76 (fun j x hx => ?_)
      · show (match h_fq (h_P W H L op) op 0 k (a + 1) (zI 0 ||| h_bit a) with | some l => some (a :: l) | none => h_fq (h_P W H L op) op 1 k (a + 1) (zI 0)) = _
        rw [ho]
      · cases j with
        | zero =>
          have hx : some a = some x := hx
          cases hx
          exact e0
        | succ j =>
          rw [Nat.add_comm j 1]
          exact e1 j x hx
    · have eo : h_fq (h_P W H L op) op 1 (k + 1) a (zI 0) = h_fq (h_P W H L op) op 1 k (a + 1) (zI 0) := by
        show (match h_fq (h_P W H L op) op 0 k (a + 1) (zI 0 ||| h_bit a) with | some l => some (a :: l) | none => h_fq (h_P W H L op) op 1 k (a + 1) (zI 0)) = _
        rw [ho]
      rw [eo] at hf hx
      refine r_jj3 rfl rfl ?_
      refine r_goto rfl ?_
      exact ih (a + 1) M2 _ _ _ (by omega) hI2 hf hx
theorem m_fh_b2 {v wd hd ld nw : Nat → Int32} (hY : m_Y M tr v wd hd ld nw W H L hs lot n kc) {a b c : Nat} (ha : a < 25) (hb : b < 25) (hc : c < 25) {Q : Option Value → ZM → Prop} {M1 : ZM} {x6 : Option Value} (hI : (z_ev M M1 (fun k => k = 62 ∨ (73 ≤ k ∧ k < 77)) ∧ ∃ v1 f73 f74 f75 f76, (∀ j, j ≠ 21 → v1 j = v j) ∧ M1[62]? = some (.inl (6, m_f tr v1)) ∧ M1[73]? = some (zA 60 f73) ∧ M1[74]? = some (zA 60 f74) ∧ M1[75]? = some (zA 60 f75) ∧ M1[76]? = some (zA 3 f76))) (hf : (h_sub op ((h_bit a ||| h_bit b) ||| zI 0) ∧ (h_P W H L op) ((h_bit a ||| h_bit b) ||| zI 0) = true) → (∀ (M2 : ZM) (f : Nat → Int32), (z_ev M M2 (fun k => k = 62 ∨ (73 ≤ k ∧ k < 77)) ∧ ∃ v1 f73 f74 f75 f76, (∀ j, j ≠ 21 → v1 j = v j) ∧ M2[62]? = some (.inl (6, m_f tr v1)) ∧ M2[73]? = some (zA 60 f73) ∧ M2[74]? = some (zA 60 f74) ∧ M2[75]? = some (zA 60 f75) ∧ M2[76]? = some (zA 3 f76)) → M2[76]? = some (zA 3 f) → f 0 = zI (a : Int) → f 1 = zI (b : Int) → f 2 = zI (c : Int) → Q (some (.int (zI 1))) M2)) (hx : ¬ (h_sub op ((h_bit a ||| h_bit b) ||| zI 0) ∧ (h_P W H L op) ((h_bit a ||| h_bit b) ||| zI 0) = true) → ∀ (M2 : ZM) (x6 : Option Value), (z_ev M M2 (fun k => k = 62 ∨ (73 ≤ k ∧ k < 77)) ∧ ∃ v1 f73 f74 f75 f76, (∀ j, j ≠ 21 → v1 j = v j) ∧ M2[62]? = some (.inl (6, m_f tr v1)) ∧ M2[73]? = some (zA 60 f73) ∧ M2[74]? = some (zA 60 f74) ∧ M2[75]? = some (zA 60 f75) ∧ M2[76]? = some (zA 3 f76)) → z_R S (d + 6) 148 196 [some (.ref 62), some (.int (zI 2)), some (.int op), some (.int (zI (a : Int))), some (.int (zI (b : Int))), some (.int (zI (c : Int))), x6] [] M2 Q) : z_R S (d + 6) 148 108 [some (.ref 62), some (.int (zI 2)), some (.int op), some (.int (zI (a : Int))), some (.int (zI (b : Int))), some (.int (zI (c : Int))), x6] [] M1 Q := by
  obtain ⟨he, v1, f73, f74, f75, f76, hv1, g62, g73, g74, g75, g76⟩ := id hI
  have h := hY.v he (fun k x1 x2 => by omega) g62
  obtain ⟨⟨h1, h2, h3, h4, h5⟩, ⟨w1, w2, w3⟩, ⟨⟨hW1, hW2⟩, ⟨hH1, hH2⟩, ⟨hL1, hL2⟩, hn⟩, ⟨a1, a2, a3, a4⟩, hok⟩ := id h
  have hC := p_WH hW2 hH2
  refine r_il rfl rfl ?_
  refine r_ifF rfl (zcF5 ⟨by omega, by omega⟩ ⟨by omega, by omega⟩ (by decide)) ?_
  refine r_ic rfl ?_
  refine r_il rfl rfl ?_
  refine r_ishl rfl ?_
  refine r_goto rfl ?_
  refine r_il rfl rfl ?_
  refine r_ic rfl ?_
  refine r_icF rfl (zcF5 ⟨by omega, by omega⟩ ⟨by omega, by omega⟩ (by decide)) ?_
  refine r_ic rfl ?_
  refine r_il rfl rfl ?_
  refine r_ishl rfl ?_
  refine r_goto rfl ?_
  refine r_ior rfl ?_
  refine r_il rfl rfl ?_
  refine r_ic rfl ?_
  refine r_icT rfl (zcT5 ⟨by omega, by omega⟩ ⟨by omega, by omega⟩ (by decide)) ?_
  refine r_ic rfl ?_
  refine r_ior rfl ?_
  refine r_is6 rfl rfl ?_
  refine r_il rfl rfl ?_
  refine r_il rfl rfl ?_
  refine r_ic rfl ?_
  refine r_ixor rfl ?_
  refine r_iand rfl ?_
  by_cases hsb : ((h_bit a ||| h_bit b) ||| zI 0) &&& (op ^^^ zI (-1)) = zI 0
  · refine r_ifF rfl (zx_F1 hsb) ?_
    refine r_al rfl rfl ?_
    refine r_il rfl rfl ?_
    refine r_il rfl rfl ?_
    refine r_ic rfl ?_
    refine r_ixor rfl ?_
    refine r_iand rfl ?_
    obtain ⟨M2, k2, e2, v2, hv2, hK2⟩ := m_harmBy (S := S) (d := d) (op := op &&& (((h_bit a ||| h_bit b) ||| zI 0) ^^^ zI (-1))) h g73 g74 g75
    have hin := (w_all_in (op := op &&& (((h_bit a ||| h_bit b) ||| zI 0) ^^^ zI (-1))) hW2 hH2).1
    have hlen := (w_all_in (op := op &&& (((h_bit a ||| h_bit b) ||| zI 0) ^^^ zI (-1))) hW2 hH2).2.2
    have hb9 := w_hm_le (L := L) hin (w_all (op &&& (((h_bit a ||| h_bit b) ||| zI 0) ^^^ zI (-1))) W H).length
    have hPi := h_P_iff (W := W) (H := H) (L := L) (op := op) (hg := ((h_bit a ||| h_bit b) ||| zI 0))
    obtain ⟨b62, -, c73, c74, c75, b73, b74, b75, -⟩ := id hK2
    have b76 := (e2.2 76 (by omega)).trans g76
    have hI2 : (z_ev M M2 (fun k => k = 62 ∨ (73 ≤ k ∧ k < 77)) ∧ ∃ v1 f73 f74 f75 f76, (∀ j, j ≠ 21 → v1 j = v j) ∧ M2[62]? = some (.inl (6, m_f tr v1)) ∧ M2[73]? = some (zA 60 f73) ∧ M2[74]? = some (zA 60 f74) ∧ M2[75]? = some (zA 60 f75) ∧ M2[76]? = some (zA 3 f76)) := ⟨he.tr (e2.wk (fun k g => by omega)), v2, c73, c74, c75, f76, fun j hj => (hv2 j hj).trans (hv1 j hj), b62, b73, b74, b75, b76⟩
    generalize w_hm L (w_all (op &&& (((h_bit a ||| h_bit b) ||| zI 0) ^^^ zI (-1))) W H) (w_all (op &&& (((h_bit a ||| h_bit b) ||| zI 0) ^^^ zI (-1))) W H).length = hm at *
    refine r_cv1 rfl rfl h1 rfl (by decide) rfl (k2) ?_
    by_cases hz : hm = 0
    · refine r_ifF rfl (zcF1 (by omega)) ?_
      refine r_al rfl rfl ?_
      refine r_gf rfl b62 rfl rfl ?_
      refine r_ic rfl ?_
      refine r_il rfl rfl ?_
      refine r_iSI rfl b76 (by omega) (by omega) (by omega) ?_
      refine r_al rfl rfl ?_
      refine r_gf rfl (z_gn (by decide) b62) rfl rfl ?_
      refine r_ic rfl ?_
      refine r_il rfl rfl ?_
      refine r_iSI rfl (z_gs b76) (by omega) (by omega) (by omega) ?_
      rw [List.set_set]
      refine r_al rfl rfl ?_
      refine r_gf rfl (z_gn (by decide) b62) rfl rfl ?_
      refine r_ic rfl ?_
      refine r_il rfl rfl ?_
      refine r_iSI rfl (z_gs b76) (by omega) (by omega) (by omega) ?_
      rw [List.set_set]
      refine r_ic rfl ?_
      refine r_reti rfl rfl ?_
      refine hf ⟨hsb, hPi.mpr hz⟩ _ _ ⟨hI2.1.tr (.set (by omega)), v2, c73, c74, c75, _, fun j hj => (hv2 j hj).trans (hv1 j hj), z_gn (by decide) b62, z_gn (by decide) b73, z_gn (by decide) b74, z_gn (by decide) b75, z_gs b76⟩ (z_gs b76) ?_ ?_ ?_
      · rw [show (0 : Int).toNat = 0 from rfl, show (1 : Int).toNat = 1 from rfl, show (2 : Int).toNat = 2 from rfl, pk_un (by decide), pk_un (by decide), pk_us]
      · rw [show (0 : Int).toNat = 0 from rfl, show (1 : Int).toNat = 1 from rfl, show (2 : Int).toNat = 2 from rfl, pk_un (by decide), pk_us]
      · rw [show (2 : Int).toNat = 2 from rfl, pk_us]
    · refine r_ifT rfl (zcT1 ⟨by omega, by omega⟩ ⟨by omega, by omega⟩ (by omega)) ?_
      exact hx (fun g => hz (hPi.mp g.2)) M2 _ hI2
  · refine r_ifT rfl (zx_T1 hsb) ?_
    exact hx (fun g => hsb g.1) M1 _ hI
theorem m_fh_c2 {v wd hd ld nw : Nat → Int32} (hY : m_Y M tr v wd hd ld nw W H L hs lot n kc) {a b : Nat} (ha : a < 25) (hb : b < 25) {Q : Option Value → ZM → Prop} {M1 : ZM} {x6 : Option Value} (hI : (z_ev M M1 (fun k => k = 62 ∨ (73 ≤ k ∧ k < 77)) ∧ ∃ v1 f73 f74 f75 f76, (∀ j, j ≠ 21 → v1 j = v j) ∧ M1[62]? = some (.inl (6, m_f tr v1)) ∧ M1[73]? = some (zA 60 f73) ∧ M1[74]? = some (zA 60 f74) ∧ M1[75]? = some (zA 60 f75) ∧ M1[76]? = some (zA 3 f76))) {k0 c0 : Nat} (hf : ∀ (l : List Nat) (M2 : ZM) (f : Nat → Int32), h_fq (h_P W H L op) op 0 k0 c0 ((zI 0 ||| h_bit a) ||| h_bit b) = some l → (z_ev M M2 (fun k => k = 62 ∨ (73 ≤ k ∧ k < 77)) ∧ ∃ v1 f73 f74 f75 f76, (∀ j, j ≠ 21 → v1 j = v j) ∧ M2[62]? = some (.inl (6, m_f tr v1)) ∧ M2[73]? = some (zA 60 f73) ∧ M2[74]? = some (zA 60 f74) ∧ M2[75]? = some (zA 60 f75) ∧ M2[76]? = some (zA 3 f76)) → M2[76]? = some (zA 3 f) → f 0 = zI (a : Int) → f 1 = zI (b : Int) → (∀ j x : Nat, l[j]? = some x → f (2 + j) = zI (x : Int)) → Q (some (.int (zI 1))) M2) (hx : h_fq (h_P W H L op) op 0 k0 c0 ((zI 0 ||| h_bit a) ||| h_bit b) = none → ∀ (M2 : ZM) (x5 x6 : Option Value), (z_ev M M2 (fun k => k = 62 ∨ (73 ≤ k ∧ k < 77)) ∧ ∃ v1 f73 f74 f75 f76, (∀ j, j ≠ 21 → v1 j = v j) ∧ M2[62]? = some (.inl (6, m_f tr v1)) ∧ M2[73]? = some (zA 60 f73) ∧ M2[74]? = some (zA 60 f74) ∧ M2[75]? = some (zA 60 f75) ∧ M2[76]? = some (zA 3 f76)) → z_R S (d + 6) 148 202 [some (.ref 62), some (.int (zI 2)), some (.int op), some (.int (zI (a : Int))), some (.int (zI (b : Int))), x5, x6] [] M2 Q) : z_R S (d + 6) 148 90 [some (.ref 62), some (.int (zI 2)), some (.int op), some (.int (zI (a : Int))), some (.int (zI (b : Int))), some (.int (zI 0)), x6] [] M1 Q := by
  obtain ⟨he, v1, f73, f74, f75, f76, hv1, g62, g73, g74, g75, g76⟩ := id hI
  have h := hY.v he (fun k x1 x2 => by omega) g62
  obtain ⟨⟨h1, h2, h3, h4, h5⟩, ⟨w1, w2, w3⟩, ⟨⟨hW1, hW2⟩, ⟨hH1, hH2⟩, ⟨hL1, hL2⟩, hn⟩, ⟨a1, a2, a3, a4⟩, hok⟩ := id h
  have hC := p_WH hW2 hH2
  refine r_il rfl rfl ?_
  refine r_il rfl rfl ?_
  refine r_ic rfl ?_
  refine r_icT rfl (zcT5 ⟨by omega, by omega⟩ ⟨by omega, by omega⟩ (by decide)) ?_
  refine r_ic rfl ?_
  refine r_icF rfl (zcF3 ⟨by omega, by omega⟩ ⟨by omega, by omega⟩ (by omega)) ?_
  have es : ((h_bit a ||| h_bit b) ||| zI 0) = ((zI 0 ||| h_bit a) ||| h_bit b) := by rw [z_or, or_0]
  refine m_fh_b2 hY ha hb (c := 0) (by omega) hI (fun hE M2 f hI2 h76 e0 e1 e2 => ?_) (fun hE M2 x6 hI2 => ?_)
  · rw [es] at hE
    exact hf [] M2 f (if_pos hE) hI2 h76 e0 e1 (fun j x hx => by cases hx)
  · rw [es] at hE
    obtain ⟨he, v1, f73, f74, f75, f76, hv1, g62, g73, g74, g75, g76⟩ := id hI2
    refine r_jj5 rfl rfl ?_
    refine r_goto rfl ?_
    refine r_il rfl rfl ?_
    refine r_il rfl rfl ?_
    refine r_ic rfl ?_
    refine r_icT rfl (zcT5 ⟨by omega, by omega⟩ ⟨by omega, by omega⟩ (by decide)) ?_
    refine r_ic rfl ?_
    refine r_icT rfl (zcT3 ⟨by omega, by omega⟩ ⟨by omega, by omega⟩ (by omega)) ?_
    exact hx (if_neg hE) M2 _ _ hI2
set_option maxRecDepth 20000 in
theorem m_fh_B2 {v wd hd ld nw : Nat → Int32} (hY : m_Y M tr v wd hd ld nw W H L hs lot n kc) {a : Nat} (ha : a < 25) {Q : Option Value → ZM → Prop} : ∀ (k b : Nat) (M1 : ZM) (x5 x6 : Option Value), b + k = W * H → (z_ev M M1 (fun k => k = 62 ∨ (73 ≤ k ∧ k < 77)) ∧ ∃ v1 f73 f74 f75 f76, (∀ j, j ≠ 21 → v1 j = v j) ∧ M1[62]? = some (.inl (6, m_f tr v1)) ∧ M1[73]? = some (zA 60 f73) ∧ M1[74]? = some (zA 60 f74) ∧ M1[75]? = some (zA 60 f75) ∧ M1[76]? = some (zA 3 f76)) → (∀ (l : List Nat) (M2 : ZM) (f : Nat → Int32), h_fq (h_P W H L op) op 1 k b (zI 0 ||| h_bit a) = some l → (z_ev M M2 (fun k => k = 62 ∨ (73 ≤ k ∧ k < 77)) ∧ ∃ v1 f73 f74 f75 f76, (∀ j, j ≠ 21 → v1 j = v j) ∧ M2[62]? = some (.inl (6, m_f tr v1)) ∧ M2[73]? = some (zA 60 f73) ∧ M2[74]? = some (zA 60 f74) ∧ M2[75]? = some (zA 60 f75) ∧ M2[76]? = some (zA 3 f76)) → M2[76]? = some (zA 3 f) → f 0 = zI (a : Int) → (∀ j x : Nat, l[j]? = some x → f (1 + j) = zI (x : Int)) → Q (some (.int (zI 1))) M2) → (h_fq (h_P W H L op) op 1 k b (zI 0 ||| h_bit a) = none → ∀ (M2 : ZM) (x4 x5 x6 : Option Value), (z_ev M M2 (fun k => k = 62 ∨ (73 ≤ k ∧ k < 77)) ∧ ∃ v1 f73 f74 f75 f76, (∀ j, j ≠ 21 → v1 j = v j) ∧ M2[62]? = some (.inl (6, m_f tr v1)) ∧ M2[73]? = some (zA 60 f73) ∧ M2[74]? = some (zA 60 f74) ∧ M2[75]? = some (zA 60 f75) ∧ M2[76]? = some (zA 3 f76)) → z_R S (d + 6) 148 208 [some (.ref 62), some (.int (zI 2)), some (.int op), some (.int (zI (a : Int))), x4, x5, x6] [] M2 Q) → z_R S (d + 6) 148 57 [some (.ref 62), some (.int (zI 2)), some (.int op), some (.int (zI (a : Int))), some (.int (zI (b : Int))), x5, x6] [] M1 Q := by
  intro k
  induction k with
  | zero =>
    intro b M1 x5 x6 hb hI hf hx
    obtain ⟨he, v1, f73, f74, f75, f76, hv1, g62, g73, g74, g75, g76⟩ := id hI
    have h := hY.v he (fun k x1 x2 => by omega) g62
    obtain ⟨⟨h1, h2, h3, h4, h5⟩, ⟨w1, w2, w3⟩, ⟨⟨hW1, hW2⟩, ⟨hH1, hH2⟩, ⟨hL1, hL2⟩, hn⟩, ⟨a1, a2, a3, a4⟩, hok⟩ := id h
    have hC := p_WH hW2 hH2
    refine r_il rfl rfl ?_
    refine r_il rfl rfl ?_
    refine r_ic rfl ?_
    refine r_icF rfl (zcF5 ⟨by omega, by omega⟩ ⟨by omega, by omega⟩ (by decide)) ?_
    refine r_al rfl rfl ?_
    refine r_cv0 rfl rfl h1 rfl (by decide) rfl (m_cells h) ?_
    refine r_goto rfl ?_
    refine r_icT rfl (zcT3 ⟨by omega, by omega⟩ ⟨by omega, by omega⟩ (by omega)) ?_
    exact hx rfl M1 _ _ _ hI
  | succ k ih =>
    intro b M1 x5 x6 hb hI hf hx
    obtain ⟨he, v1, f73, f74, f75, f76, hv1, g62, g73, g74, g75, g76⟩ := id hI
    have h := hY.v he (fun k x1 x2 => by omega) g62
    obtain ⟨⟨h1, h2, h3, h4, h5⟩, ⟨w1, w2, w3⟩, ⟨⟨hW1, hW2⟩, ⟨hH1, hH2⟩, ⟨hL1, hL2⟩, hn⟩, ⟨a1, a2, a3, a4⟩, hok⟩ := id h
    have hC := p_WH hW2 hH2
    refine r_il rfl rfl ?_
    refine r_il rfl rfl ?_
    refine r_ic rfl ?_
    refine r_icF rfl (zcF5 ⟨by omega, by omega⟩ ⟨by omega, by omega⟩ (by decide)) ?_
    refine r_al rfl rfl ?_
    refine r_cv0 rfl rfl h1 rfl (by decide) rfl (m_cells h) ?_
    refine r_goto rfl ?_
    refine r_icF rfl (zcF3 ⟨by omega, by omega⟩ ⟨by omega, by omega⟩ (by omega)) ?_
    refine r_il rfl rfl ?_
    refine r_ic rfl ?_
    refine r_icT rfl (zcT5 ⟨by omega, by omega⟩ ⟨by omega, by omega⟩ (by decide)) ?_
    refine r_ic rfl ?_
    refine r_is5 rfl rfl ?_
    refine m_fh_c2 hY ha (b := b) (by omega) hI (k0 := k) (c0 := b + 1) (fun l M2 f ho hI2 h76 e0 e1 e2 => ?_) (fun ho M2 x5 x6 hI2 => ?_)
    · refine hf (b :: l) M2 f ?_ hI2 h76 e0 (fun j x hx => ?_)
      · show (match h_fq (h_P W H L op) op 0 k (b + 1) ((zI 0 ||| h_bit a) ||| h_bit b) with | some l => some (b :: l) | none => h_fq (h_P W H L op) op 1 k (b + 1) (zI 0 ||| h_bit a)) = _
        rw [ho]
      · cases j with
        | zero =>
          have hx : some b = some x := hx
          cases hx
          exact e1
        | succ j =>
          rw [show 1 + (j + 1) = 2 + j by omega]
          exact e2 j x hx
    · have eo : h_fq (h_P W H L op) op 1 (k + 1) b (zI 0 ||| h_bit a) = h_fq (h_P W H L op) op 1 k (b + 1) (zI 0 ||| h_bit a) := by
        show (match h_fq (h_P W H L op) op 0 k (b + 1) ((zI 0 ||| h_bit a) ||| h_bit b) with | some l => some (b :: l) | none => h_fq (h_P W H L op) op 1 k (b + 1) (zI 0 ||| h_bit a)) = _
        rw [ho]
      rw [eo] at hf hx
      refine r_jj4 rfl rfl ?_
      refine r_goto rfl ?_
      exact ih (b + 1) M2 _ _ (by omega) hI2 hf hx
set_option maxRecDepth 20000 in
theorem m_fh_A2 {v wd hd ld nw : Nat → Int32} (hY : m_Y M tr v wd hd ld nw W H L hs lot n kc) {Q : Option Value → ZM → Prop} : ∀ (k a : Nat) (M1 : ZM) (x4 x5 x6 : Option Value), a + k = W * H → (z_ev M M1 (fun k => k = 62 ∨ (73 ≤ k ∧ k < 77)) ∧ ∃ v1 f73 f74 f75 f76, (∀ j, j ≠ 21 → v1 j = v j) ∧ M1[62]? = some (.inl (6, m_f tr v1)) ∧ M1[73]? = some (zA 60 f73) ∧ M1[74]? = some (zA 60 f74) ∧ M1[75]? = some (zA 60 f75) ∧ M1[76]? = some (zA 3 f76)) → (∀ (l : List Nat) (M2 : ZM) (f : Nat → Int32), h_fq (h_P W H L op) op 2 k a (zI 0) = some l → (z_ev M M2 (fun k => k = 62 ∨ (73 ≤ k ∧ k < 77)) ∧ ∃ v1 f73 f74 f75 f76, (∀ j, j ≠ 21 → v1 j = v j) ∧ M2[62]? = some (.inl (6, m_f tr v1)) ∧ M2[73]? = some (zA 60 f73) ∧ M2[74]? = some (zA 60 f74) ∧ M2[75]? = some (zA 60 f75) ∧ M2[76]? = some (zA 3 f76)) → M2[76]? = some (zA 3 f) → (∀ j x : Nat, l[j]? = some x → f j = zI (x : Int)) → Q (some (.int (zI 1))) M2) → (h_fq (h_P W H L op) op 2 k a (zI 0) = none → ∀ M2 : ZM, (z_ev M M2 (fun k => k = 62 ∨ (73 ≤ k ∧ k < 77)) ∧ ∃ v1 f73 f74 f75 f76, (∀ j, j ≠ 21 → v1 j = v j) ∧ M2[62]? = some (.inl (6, m_f tr v1)) ∧ M2[73]? = some (zA 60 f73) ∧ M2[74]? = some (zA 60 f74) ∧ M2[75]? = some (zA 60 f75) ∧ M2[76]? = some (zA 3 f76)) → Q (some (.int (zI 0))) M2) → z_R S (d + 6) 148 27 [some (.ref 62), some (.int (zI 2)), some (.int op), some (.int (zI (a : Int))), x4, x5, x6] [] M1 Q := by
  intro k
  induction k with
  | zero =>
    intro a M1 x4 x5 x6 ha hI hf hx
    obtain ⟨he, v1, f73, f74, f75, f76, hv1, g62, g73, g74, g75, g76⟩ := id hI
    have h := hY.v he (fun k x1 x2 => by omega) g62
    obtain ⟨⟨h1, h2, h3, h4, h5⟩, ⟨w1, w2, w3⟩, ⟨⟨hW1, hW2⟩, ⟨hH1, hH2⟩, ⟨hL1, hL2⟩, hn⟩, ⟨a1, a2, a3, a4⟩, hok⟩ := id h
    have hC := p_WH hW2 hH2
    refine r_il rfl rfl ?_
    refine r_il rfl rfl ?_
    refine r_ifF rfl (zcF5 ⟨by omega, by omega⟩ ⟨by omega, by omega⟩ (by decide)) ?_
    refine r_al rfl rfl ?_
    refine r_cv0 rfl rfl h1 rfl (by decide) rfl (m_cells h) ?_
    refine r_goto rfl ?_
    refine r_icT rfl (zcT3 ⟨by omega, by omega⟩ ⟨by omega, by omega⟩ (by omega)) ?_
    refine r_ic rfl ?_
    refine r_reti rfl rfl ?_
    exact hx rfl M1 hI
  | succ k ih =>
    intro a M1 x4 x5 x6 ha hI hf hx
    obtain ⟨he, v1, f73, f74, f75, f76, hv1, g62, g73, g74, g75, g76⟩ := id hI
    have h := hY.v he (fun k x1 x2 => by omega) g62
    obtain ⟨⟨h1, h2, h3, h4, h5⟩, ⟨w1, w2, w3⟩, ⟨⟨hW1, hW2⟩, ⟨hH1, hH2⟩, ⟨hL1, hL2⟩, hn⟩, ⟨a1, a2, a3, a4⟩, hok⟩ := id h
    have hC := p_WH hW2 hH2
    refine r_il rfl rfl ?_
    refine r_il rfl rfl ?_
    refine r_ifF rfl (zcF5 ⟨by omega, by omega⟩ ⟨by omega, by omega⟩ (by decide)) ?_
    refine r_al rfl rfl ?_
    refine r_cv0 rfl rfl h1 rfl (by decide) rfl (m_cells h) ?_
    refine r_goto rfl ?_
    refine r_icF rfl (zcF3 ⟨by omega, by omega⟩ ⟨by omega, by omega⟩ (by omega)) ?_
    refine r_il rfl rfl ?_
    refine r_ic rfl ?_
    refine r_icF rfl (zcF5 ⟨by omega, by omega⟩ ⟨by omega, by omega⟩ (by decide)) ?_
    refine r_il rfl rfl ?_
    refine r_ic rfl ?_
    refine r_addI rfl ?_
    refine r_goto rfl ?_
    refine r_is4 rfl rfl ?_
    refine m_fh_B2 hY (a := a) (by omega) k (a + 1) M1 _ _ (by omega) hI (fun l M2 f ho hI2 h76 e0 e1 => ?_) (fun ho M2 x4 x5 x6 hI2 => ?_)
    · refine hf (a :: l) M2 f ?_ hI2 h76 (fun j x hx => ?_)
      · show (match h_fq (h_P W H L op) op 1 k (a + 1) (zI 0 ||| h_bit a) with | some l => some (a :: l) | none => h_fq (h_P W H L op) op 2 k (a + 1) (zI 0)) = _
        rw [ho]
      · cases j with
        | zero =>
          have hx : some a = some x := hx
          cases hx
          exact e0
        | succ j =>
          rw [Nat.add_comm j 1]
          exact e1 j x hx
    · have eo : h_fq (h_P W H L op) op 2 (k + 1) a (zI 0) = h_fq (h_P W H L op) op 2 k (a + 1) (zI 0) := by
        show (match h_fq (h_P W H L op) op 1 k (a + 1) (zI 0 ||| h_bit a) with | some l => some (a :: l) | none => h_fq (h_P W H L op) op 2 k (a + 1) (zI 0)) = _
        rw [ho]
      rw [eo] at hf hx
      refine r_jj3 rfl rfl ?_
      refine r_goto rfl ?_
      exact ih (a + 1) M2 _ _ _ (by omega) hI2 hf hx
theorem m_fh_b3 {v wd hd ld nw : Nat → Int32} (hY : m_Y M tr v wd hd ld nw W H L hs lot n kc) {a b c : Nat} (ha : a < 25) (hb : b < 25) (hc : c < 25) {Q : Option Value → ZM → Prop} {M1 : ZM} {x6 : Option Value} (hI : (z_ev M M1 (fun k => k = 62 ∨ (73 ≤ k ∧ k < 77)) ∧ ∃ v1 f73 f74 f75 f76, (∀ j, j ≠ 21 → v1 j = v j) ∧ M1[62]? = some (.inl (6, m_f tr v1)) ∧ M1[73]? = some (zA 60 f73) ∧ M1[74]? = some (zA 60 f74) ∧ M1[75]? = some (zA 60 f75) ∧ M1[76]? = some (zA 3 f76))) (hf : (h_sub op ((h_bit a ||| h_bit b) ||| h_bit c) ∧ (h_P W H L op) ((h_bit a ||| h_bit b) ||| h_bit c) = true) → (∀ (M2 : ZM) (f : Nat → Int32), (z_ev M M2 (fun k => k = 62 ∨ (73 ≤ k ∧ k < 77)) ∧ ∃ v1 f73 f74 f75 f76, (∀ j, j ≠ 21 → v1 j = v j) ∧ M2[62]? = some (.inl (6, m_f tr v1)) ∧ M2[73]? = some (zA 60 f73) ∧ M2[74]? = some (zA 60 f74) ∧ M2[75]? = some (zA 60 f75) ∧ M2[76]? = some (zA 3 f76)) → M2[76]? = some (zA 3 f) → f 0 = zI (a : Int) → f 1 = zI (b : Int) → f 2 = zI (c : Int) → Q (some (.int (zI 1))) M2)) (hx : ¬ (h_sub op ((h_bit a ||| h_bit b) ||| h_bit c) ∧ (h_P W H L op) ((h_bit a ||| h_bit b) ||| h_bit c) = true) → ∀ (M2 : ZM) (x6 : Option Value), (z_ev M M2 (fun k => k = 62 ∨ (73 ≤ k ∧ k < 77)) ∧ ∃ v1 f73 f74 f75 f76, (∀ j, j ≠ 21 → v1 j = v j) ∧ M2[62]? = some (.inl (6, m_f tr v1)) ∧ M2[73]? = some (zA 60 f73) ∧ M2[74]? = some (zA 60 f74) ∧ M2[75]? = some (zA 60 f75) ∧ M2[76]? = some (zA 3 f76)) → z_R S (d + 6) 148 196 [some (.ref 62), some (.int (zI 3)), some (.int op), some (.int (zI (a : Int))), some (.int (zI (b : Int))), some (.int (zI (c : Int))), x6] [] M2 Q) : z_R S (d + 6) 148 108 [some (.ref 62), some (.int (zI 3)), some (.int op), some (.int (zI (a : Int))), some (.int (zI (b : Int))), some (.int (zI (c : Int))), x6] [] M1 Q := by
  obtain ⟨he, v1, f73, f74, f75, f76, hv1, g62, g73, g74, g75, g76⟩ := id hI
  have h := hY.v he (fun k x1 x2 => by omega) g62
  obtain ⟨⟨h1, h2, h3, h4, h5⟩, ⟨w1, w2, w3⟩, ⟨⟨hW1, hW2⟩, ⟨hH1, hH2⟩, ⟨hL1, hL2⟩, hn⟩, ⟨a1, a2, a3, a4⟩, hok⟩ := id h
  have hC := p_WH hW2 hH2
  refine r_il rfl rfl ?_
  refine r_ifF rfl (zcF5 ⟨by omega, by omega⟩ ⟨by omega, by omega⟩ (by decide)) ?_
  refine r_ic rfl ?_
  refine r_il rfl rfl ?_
  refine r_ishl rfl ?_
  refine r_goto rfl ?_
  refine r_il rfl rfl ?_
  refine r_ic rfl ?_
  refine r_icF rfl (zcF5 ⟨by omega, by omega⟩ ⟨by omega, by omega⟩ (by decide)) ?_
  refine r_ic rfl ?_
  refine r_il rfl rfl ?_
  refine r_ishl rfl ?_
  refine r_goto rfl ?_
  refine r_ior rfl ?_
  refine r_il rfl rfl ?_
  refine r_ic rfl ?_
  refine r_icF rfl (zcF5 ⟨by omega, by omega⟩ ⟨by omega, by omega⟩ (by decide)) ?_
  refine r_ic rfl ?_
  refine r_il rfl rfl ?_
  refine r_ishl rfl ?_
  refine r_goto rfl ?_
  refine r_ior rfl ?_
  refine r_is6 rfl rfl ?_
  refine r_il rfl rfl ?_
  refine r_il rfl rfl ?_
  refine r_ic rfl ?_
  refine r_ixor rfl ?_
  refine r_iand rfl ?_
  by_cases hsb : ((h_bit a ||| h_bit b) ||| h_bit c) &&& (op ^^^ zI (-1)) = zI 0
  · refine r_ifF rfl (zx_F1 hsb) ?_
    refine r_al rfl rfl ?_
    refine r_il rfl rfl ?_
    refine r_il rfl rfl ?_
    refine r_ic rfl ?_
    refine r_ixor rfl ?_
    refine r_iand rfl ?_
    obtain ⟨M2, k2, e2, v2, hv2, hK2⟩ := m_harmBy (S := S) (d := d) (op := op &&& (((h_bit a ||| h_bit b) ||| h_bit c) ^^^ zI (-1))) h g73 g74 g75
    have hin := (w_all_in (op := op &&& (((h_bit a ||| h_bit b) ||| h_bit c) ^^^ zI (-1))) hW2 hH2).1
    have hlen := (w_all_in (op := op &&& (((h_bit a ||| h_bit b) ||| h_bit c) ^^^ zI (-1))) hW2 hH2).2.2
    have hb9 := w_hm_le (L := L) hin (w_all (op &&& (((h_bit a ||| h_bit b) ||| h_bit c) ^^^ zI (-1))) W H).length
    have hPi := h_P_iff (W := W) (H := H) (L := L) (op := op) (hg := ((h_bit a ||| h_bit b) ||| h_bit c))
    obtain ⟨b62, -, c73, c74, c75, b73, b74, b75, -⟩ := id hK2
    have b76 := (e2.2 76 (by omega)).trans g76
    have hI2 : (z_ev M M2 (fun k => k = 62 ∨ (73 ≤ k ∧ k < 77)) ∧ ∃ v1 f73 f74 f75 f76, (∀ j, j ≠ 21 → v1 j = v j) ∧ M2[62]? = some (.inl (6, m_f tr v1)) ∧ M2[73]? = some (zA 60 f73) ∧ M2[74]? = some (zA 60 f74) ∧ M2[75]? = some (zA 60 f75) ∧ M2[76]? = some (zA 3 f76)) := ⟨he.tr (e2.wk (fun k g => by omega)), v2, c73, c74, c75, f76, fun j hj => (hv2 j hj).trans (hv1 j hj), b62, b73, b74, b75, b76⟩
    generalize w_hm L (w_all (op &&& (((h_bit a ||| h_bit b) ||| h_bit c) ^^^ zI (-1))) W H) (w_all (op &&& (((h_bit a ||| h_bit b) ||| h_bit c) ^^^ zI (-1))) W H).length = hm at *
    refine r_cv1 rfl rfl h1 rfl (by decide) rfl (k2) ?_
    by_cases hz : hm = 0
    · refine r_ifF rfl (zcF1 (by omega)) ?_
      refine r_al rfl rfl ?_
      refine r_gf rfl b62 rfl rfl ?_
      refine r_ic rfl ?_
      refine r_il rfl rfl ?_
      refine r_iSI rfl b76 (by omega) (by omega) (by omega) ?_
      refine r_al rfl rfl ?_
      refine r_gf rfl (z_gn (by decide) b62) rfl rfl ?_
      refine r_ic rfl ?_
      refine r_il rfl rfl ?_
      refine r_iSI rfl (z_gs b76) (by omega) (by omega) (by omega) ?_
      rw [List.set_set]
      refine r_al rfl rfl ?_
      refine r_gf rfl (z_gn (by decide) b62) rfl rfl ?_
      refine r_ic rfl ?_
      refine r_il rfl rfl ?_
      refine r_iSI rfl (z_gs b76) (by omega) (by omega) (by omega) ?_
      rw [List.set_set]
      refine r_ic rfl ?_
      refine r_reti rfl rfl ?_
      refine hf ⟨hsb, hPi.mpr hz⟩ _ _ ⟨hI2.1.tr (.set (by omega)), v2, c73, c74, c75, _, fun j hj => (hv2 j hj).trans (hv1 j hj), z_gn (by decide) b62, z_gn (by decide) b73, z_gn (by decide) b74, z_gn (by decide) b75, z_gs b76⟩ (z_gs b76) ?_ ?_ ?_
      · rw [show (0 : Int).toNat = 0 from rfl, show (1 : Int).toNat = 1 from rfl, show (2 : Int).toNat = 2 from rfl, pk_un (by decide), pk_un (by decide), pk_us]
      · rw [show (0 : Int).toNat = 0 from rfl, show (1 : Int).toNat = 1 from rfl, show (2 : Int).toNat = 2 from rfl, pk_un (by decide), pk_us]
      · rw [show (2 : Int).toNat = 2 from rfl, pk_us]
    · refine r_ifT rfl (zcT1 ⟨by omega, by omega⟩ ⟨by omega, by omega⟩ (by omega)) ?_
      exact hx (fun g => hz (hPi.mp g.2)) M2 _ hI2
  · refine r_ifT rfl (zx_T1 hsb) ?_
    exact hx (fun g => hsb g.1) M1 _ hI
set_option maxRecDepth 20000 in
theorem m_fh_c3 {v wd hd ld nw : Nat → Int32} (hY : m_Y M tr v wd hd ld nw W H L hs lot n kc) {a b : Nat} (ha : a < 25) (hb : b < 25) {Q : Option Value → ZM → Prop} : ∀ (k c : Nat) (M1 : ZM) (x6 : Option Value), c + k = W * H → (z_ev M M1 (fun k => k = 62 ∨ (73 ≤ k ∧ k < 77)) ∧ ∃ v1 f73 f74 f75 f76, (∀ j, j ≠ 21 → v1 j = v j) ∧ M1[62]? = some (.inl (6, m_f tr v1)) ∧ M1[73]? = some (zA 60 f73) ∧ M1[74]? = some (zA 60 f74) ∧ M1[75]? = some (zA 60 f75) ∧ M1[76]? = some (zA 3 f76)) → (∀ (l : List Nat) (M2 : ZM) (f : Nat → Int32), h_fq (h_P W H L op) op 1 k c ((zI 0 ||| h_bit a) ||| h_bit b) = some l → (z_ev M M2 (fun k => k = 62 ∨ (73 ≤ k ∧ k < 77)) ∧ ∃ v1 f73 f74 f75 f76, (∀ j, j ≠ 21 → v1 j = v j) ∧ M2[62]? = some (.inl (6, m_f tr v1)) ∧ M2[73]? = some (zA 60 f73) ∧ M2[74]? = some (zA 60 f74) ∧ M2[75]? = some (zA 60 f75) ∧ M2[76]? = some (zA 3 f76)) → M2[76]? = some (zA 3 f) → f 0 = zI (a : Int) → f 1 = zI (b : Int) → (∀ j x : Nat, l[j]? = some x → f (2 + j) = zI (x : Int)) → Q (some (.int (zI 1))) M2) → (h_fq (h_P W H L op) op 1 k c ((zI 0 ||| h_bit a) ||| h_bit b) = none → ∀ (M2 : ZM) (x5 x6 : Option Value), (z_ev M M2 (fun k => k = 62 ∨ (73 ≤ k ∧ k < 77)) ∧ ∃ v1 f73 f74 f75 f76, (∀ j, j ≠ 21 → v1 j = v j) ∧ M2[62]? = some (.inl (6, m_f tr v1)) ∧ M2[73]? = some (zA 60 f73) ∧ M2[74]? = some (zA 60 f74) ∧ M2[75]? = some (zA 60 f75) ∧ M2[76]? = some (zA 3 f76)) → z_R S (d + 6) 148 202 [some (.ref 62), some (.int (zI 3)), some (.int op), some (.int (zI (a : Int))), some (.int (zI (b : Int))), x5, x6] [] M2 Q) → z_R S (d + 6) 148 90 [some (.ref 62), some (.int (zI 3)), some (.int op), some (.int (zI (a : Int))), some (.int (zI (b : Int))), some (.int (zI (c : Int))), x6] [] M1 Q := by
  intro k
  induction k with
  | zero =>
    intro c M1 x6 hc hI hf hx
    obtain ⟨he, v1, f73, f74, f75, f76, hv1, g62, g73, g74, g75, g76⟩ := id hI
    have h := hY.v he (fun k x1 x2 => by omega) g62
    obtain ⟨⟨h1, h2, h3, h4, h5⟩, ⟨w1, w2, w3⟩, ⟨⟨hW1, hW2⟩, ⟨hH1, hH2⟩, ⟨hL1, hL2⟩, hn⟩, ⟨a1, a2, a3, a4⟩, hok⟩ := id h
    have hC := p_WH hW2 hH2
    refine r_il rfl rfl ?_
    refine r_il rfl rfl ?_
    refine r_ic rfl ?_
    refine r_icF rfl (zcF5 ⟨by omega, by omega⟩ ⟨by omega, by omega⟩ (by decide)) ?_
    refine r_al rfl rfl ?_
    refine r_cv0 rfl rfl h1 rfl (by decide) rfl (m_cells h) ?_
    refine r_goto rfl ?_
    refine r_icT rfl (zcT3 ⟨by omega, by omega⟩ ⟨by omega, by omega⟩ (by omega)) ?_
    exact hx rfl M1 _ _ hI
  | succ k ih =>
    intro c M1 x6 hc hI hf hx
    obtain ⟨he, v1, f73, f74, f75, f76, hv1, g62, g73, g74, g75, g76⟩ := id hI
    have h := hY.v he (fun k x1 x2 => by omega) g62
    obtain ⟨⟨h1, h2, h3, h4, h5⟩, ⟨w1, w2, w3⟩, ⟨⟨hW1, hW2⟩, ⟨hH1, hH2⟩, ⟨hL1, hL2⟩, hn⟩, ⟨a1, a2, a3, a4⟩, hok⟩ := id h
    have hC := p_WH hW2 hH2
    refine r_il rfl rfl ?_
    refine r_il rfl rfl ?_
    refine r_ic rfl ?_
    refine r_icF rfl (zcF5 ⟨by omega, by omega⟩ ⟨by omega, by omega⟩ (by decide)) ?_
    refine r_al rfl rfl ?_
    refine r_cv0 rfl rfl h1 rfl (by decide) rfl (m_cells h) ?_
    refine r_goto rfl ?_
    refine r_icF rfl (zcF3 ⟨by omega, by omega⟩ ⟨by omega, by omega⟩ (by omega)) ?_
    have es : ((h_bit a ||| h_bit b) ||| h_bit c) = ((zI 0 ||| h_bit a) ||| h_bit b) ||| h_bit c := by rw [z_or]
    refine m_fh_b3 hY ha hb (c := c) (by omega) hI (fun hE M2 f hI2 h76 e0 e1 e2 => ?_) (fun hE M2 x6 hI2 => ?_)
    · rw [es] at hE
      refine hf [c] M2 f ?_ hI2 h76 e0 e1 (fun j x hx => ?_)
      · show (match (if h_sub op (((zI 0 ||| h_bit a) ||| h_bit b) ||| h_bit c) ∧ h_P W H L op (((zI 0 ||| h_bit a) ||| h_bit b) ||| h_bit c) = true then some ([] : List Nat) else none) with | some l => some (c :: l) | none => h_fq (h_P W H L op) op 1 k (c + 1) ((zI 0 ||| h_bit a) ||| h_bit b)) = some [c]
        rw [if_pos hE]
      · cases j with
        | zero =>
          have hx : some c = some x := hx
          cases hx
          exact e2
        | succ j => cases hx
    · rw [es] at hE
      have eo : h_fq (h_P W H L op) op 1 (k + 1) c ((zI 0 ||| h_bit a) ||| h_bit b) = h_fq (h_P W H L op) op 1 k (c + 1) ((zI 0 ||| h_bit a) ||| h_bit b) := by
        show (match (if h_sub op (((zI 0 ||| h_bit a) ||| h_bit b) ||| h_bit c) ∧ h_P W H L op (((zI 0 ||| h_bit a) ||| h_bit b) ||| h_bit c) = true then some ([] : List Nat) else none) with | some l => some (c :: l) | none => h_fq (h_P W H L op) op 1 k (c + 1) ((zI 0 ||| h_bit a) ||| h_bit b)) = _
        rw [if_neg hE]
      rw [eo] at hf hx
      refine r_jj5 rfl rfl ?_
      refine r_goto rfl ?_
      exact ih (c + 1) M2 _ (by omega) hI2 hf hx
set_option maxRecDepth 20000 in
theorem m_fh_B3 {v wd hd ld nw : Nat → Int32} (hY : m_Y M tr v wd hd ld nw W H L hs lot n kc) {a : Nat} (ha : a < 25) {Q : Option Value → ZM → Prop} : ∀ (k b : Nat) (M1 : ZM) (x5 x6 : Option Value), b + k = W * H → (z_ev M M1 (fun k => k = 62 ∨ (73 ≤ k ∧ k < 77)) ∧ ∃ v1 f73 f74 f75 f76, (∀ j, j ≠ 21 → v1 j = v j) ∧ M1[62]? = some (.inl (6, m_f tr v1)) ∧ M1[73]? = some (zA 60 f73) ∧ M1[74]? = some (zA 60 f74) ∧ M1[75]? = some (zA 60 f75) ∧ M1[76]? = some (zA 3 f76)) → (∀ (l : List Nat) (M2 : ZM) (f : Nat → Int32), h_fq (h_P W H L op) op 2 k b (zI 0 ||| h_bit a) = some l → (z_ev M M2 (fun k => k = 62 ∨ (73 ≤ k ∧ k < 77)) ∧ ∃ v1 f73 f74 f75 f76, (∀ j, j ≠ 21 → v1 j = v j) ∧ M2[62]? = some (.inl (6, m_f tr v1)) ∧ M2[73]? = some (zA 60 f73) ∧ M2[74]? = some (zA 60 f74) ∧ M2[75]? = some (zA 60 f75) ∧ M2[76]? = some (zA 3 f76)) → M2[76]? = some (zA 3 f) → f 0 = zI (a : Int) → (∀ j x : Nat, l[j]? = some x → f (1 + j) = zI (x : Int)) → Q (some (.int (zI 1))) M2) → (h_fq (h_P W H L op) op 2 k b (zI 0 ||| h_bit a) = none → ∀ (M2 : ZM) (x4 x5 x6 : Option Value), (z_ev M M2 (fun k => k = 62 ∨ (73 ≤ k ∧ k < 77)) ∧ ∃ v1 f73 f74 f75 f76, (∀ j, j ≠ 21 → v1 j = v j) ∧ M2[62]? = some (.inl (6, m_f tr v1)) ∧ M2[73]? = some (zA 60 f73) ∧ M2[74]? = some (zA 60 f74) ∧ M2[75]? = some (zA 60 f75) ∧ M2[76]? = some (zA 3 f76)) → z_R S (d + 6) 148 208 [some (.ref 62), some (.int (zI 3)), some (.int op), some (.int (zI (a : Int))), x4, x5, x6] [] M2 Q) → z_R S (d + 6) 148 57 [some (.ref 62), some (.int (zI 3)), some (.int op), some (.int (zI (a : Int))), some (.int (zI (b : Int))), x5, x6] [] M1 Q := by
  intro k
  induction k with
  | zero =>
    intro b M1 x5 x6 hb hI hf hx
    obtain ⟨he, v1, f73, f74, f75, f76, hv1, g62, g73, g74, g75, g76⟩ := id hI
    have h := hY.v he (fun k x1 x2 => by omega) g62
    obtain ⟨⟨h1, h2, h3, h4, h5⟩, ⟨w1, w2, w3⟩, ⟨⟨hW1, hW2⟩, ⟨hH1, hH2⟩, ⟨hL1, hL2⟩, hn⟩, ⟨a1, a2, a3, a4⟩, hok⟩ := id h
    have hC := p_WH hW2 hH2
    refine r_il rfl rfl ?_
    refine r_il rfl rfl ?_
    refine r_ic rfl ?_
    refine r_icF rfl (zcF5 ⟨by omega, by omega⟩ ⟨by omega, by omega⟩ (by decide)) ?_
    refine r_al rfl rfl ?_
    refine r_cv0 rfl rfl h1 rfl (by decide) rfl (m_cells h) ?_
    refine r_goto rfl ?_
    refine r_icT rfl (zcT3 ⟨by omega, by omega⟩ ⟨by omega, by omega⟩ (by omega)) ?_
    exact hx rfl M1 _ _ _ hI
  | succ k ih =>
    intro b M1 x5 x6 hb hI hf hx
    obtain ⟨he, v1, f73, f74, f75, f76, hv1, g62, g73, g74, g75, g76⟩ := id hI
    have h := hY.v he (fun k x1 x2 => by omega) g62
    obtain ⟨⟨h1, h2, h3, h4, h5⟩, ⟨w1, w2, w3⟩, ⟨⟨hW1, hW2⟩, ⟨hH1, hH2⟩, ⟨hL1, hL2⟩, hn⟩, ⟨a1, a2, a3, a4⟩, hok⟩ := id h
    have hC := p_WH hW2 hH2
    refine r_il rfl rfl ?_
    refine r_il rfl rfl ?_
    refine r_ic rfl ?_
    refine r_icF rfl (zcF5 ⟨by omega, by omega⟩ ⟨by omega, by omega⟩ (by decide)) ?_
    refine r_al rfl rfl ?_
    refine r_cv0 rfl rfl h1 rfl (by decide) rfl (m_cells h) ?_
    refine r_goto rfl ?_
    refine r_icF rfl (zcF3 ⟨by omega, by omega⟩ ⟨by omega, by omega⟩ (by omega)) ?_
    refine r_il rfl rfl ?_
    refine r_ic rfl ?_
    refine r_icF rfl (zcF5 ⟨by omega, by omega⟩ ⟨by omega, by omega⟩ (by decide)) ?_
    refine r_il rfl rfl ?_
    refine r_ic rfl ?_
    refine r_addI rfl ?_
    refine r_goto rfl ?_
    refine r_is5 rfl rfl ?_
    refine m_fh_c3 hY ha (b := b) (by omega) k (b + 1) M1 _ (by omega) hI (fun l M2 f ho hI2 h76 e0 e1 e2 => ?_) (fun ho M2 x5 x6 hI2 => ?_)
    · refine hf (b :: l) M2 f ?_ hI2 h76 e0 (fun j x hx => ?_)
      · show (match h_fq (h_P W H L op) op 1 k (b + 1) ((zI 0 ||| h_bit a) ||| h_bit b) with | some l => some (b :: l) | none => h_fq (h_P W H L op) op 2 k (b + 1) (zI 0 ||| h_bit a)) = _
        rw [ho]
      · cases j with
        | zero =>
          have hx : some b = some x := hx
          cases hx
          exact e1
        | succ j =>
          rw [show 1 + (j + 1) = 2 + j by omega]
          exact e2 j x hx
    · have eo : h_fq (h_P W H L op) op 2 (k + 1) b (zI 0 ||| h_bit a) = h_fq (h_P W H L op) op 2 k (b + 1) (zI 0 ||| h_bit a) := by
        show (match h_fq (h_P W H L op) op 1 k (b + 1) ((zI 0 ||| h_bit a) ||| h_bit b) with | some l => some (b :: l) | none => h_fq (h_P W H L op) op 2 k (b + 1) (zI 0 ||| h_bit a)) = _
        rw [ho]
      rw [eo] at hf hx
      refine r_jj4 rfl rfl ?_
      refine r_goto rfl ?_
      exact ih (b + 1) M2 _ _ (by omega) hI2 hf hx
set_option maxRecDepth 20000 in
theorem m_fh_A3 {v wd hd ld nw : Nat → Int32} (hY : m_Y M tr v wd hd ld nw W H L hs lot n kc) {Q : Option Value → ZM → Prop} : ∀ (k a : Nat) (M1 : ZM) (x4 x5 x6 : Option Value), a + k = W * H → (z_ev M M1 (fun k => k = 62 ∨ (73 ≤ k ∧ k < 77)) ∧ ∃ v1 f73 f74 f75 f76, (∀ j, j ≠ 21 → v1 j = v j) ∧ M1[62]? = some (.inl (6, m_f tr v1)) ∧ M1[73]? = some (zA 60 f73) ∧ M1[74]? = some (zA 60 f74) ∧ M1[75]? = some (zA 60 f75) ∧ M1[76]? = some (zA 3 f76)) → (∀ (l : List Nat) (M2 : ZM) (f : Nat → Int32), h_fq (h_P W H L op) op 3 k a (zI 0) = some l → (z_ev M M2 (fun k => k = 62 ∨ (73 ≤ k ∧ k < 77)) ∧ ∃ v1 f73 f74 f75 f76, (∀ j, j ≠ 21 → v1 j = v j) ∧ M2[62]? = some (.inl (6, m_f tr v1)) ∧ M2[73]? = some (zA 60 f73) ∧ M2[74]? = some (zA 60 f74) ∧ M2[75]? = some (zA 60 f75) ∧ M2[76]? = some (zA 3 f76)) → M2[76]? = some (zA 3 f) → (∀ j x : Nat, l[j]? = some x → f j = zI (x : Int)) → Q (some (.int (zI 1))) M2) → (h_fq (h_P W H L op) op 3 k a (zI 0) = none → ∀ M2 : ZM, (z_ev M M2 (fun k => k = 62 ∨ (73 ≤ k ∧ k < 77)) ∧ ∃ v1 f73 f74 f75 f76, (∀ j, j ≠ 21 → v1 j = v j) ∧ M2[62]? = some (.inl (6, m_f tr v1)) ∧ M2[73]? = some (zA 60 f73) ∧ M2[74]? = some (zA 60 f74) ∧ M2[75]? = some (zA 60 f75) ∧ M2[76]? = some (zA 3 f76)) → Q (some (.int (zI 0))) M2) → z_R S (d + 6) 148 27 [some (.ref 62), some (.int (zI 3)), some (.int op), some (.int (zI (a : Int))), x4, x5, x6] [] M1 Q := by
  intro k
  induction k with
  | zero =>
    intro a M1 x4 x5 x6 ha hI hf hx
    obtain ⟨he, v1, f73, f74, f75, f76, hv1, g62, g73, g74, g75, g76⟩ := id hI
    have h := hY.v he (fun k x1 x2 => by omega) g62
    obtain ⟨⟨h1, h2, h3, h4, h5⟩, ⟨w1, w2, w3⟩, ⟨⟨hW1, hW2⟩, ⟨hH1, hH2⟩, ⟨hL1, hL2⟩, hn⟩, ⟨a1, a2, a3, a4⟩, hok⟩ := id h
    have hC := p_WH hW2 hH2
    refine r_il rfl rfl ?_
    refine r_il rfl rfl ?_
    refine r_ifF rfl (zcF5 ⟨by omega, by omega⟩ ⟨by omega, by omega⟩ (by decide)) ?_
    refine r_al rfl rfl ?_
    refine r_cv0 rfl rfl h1 rfl (by decide) rfl (m_cells h) ?_
    refine r_goto rfl ?_
    refine r_icT rfl (zcT3 ⟨by omega, by omega⟩ ⟨by omega, by omega⟩ (by omega)) ?_
    refine r_ic rfl ?_
    refine r_reti rfl rfl ?_
    exact hx rfl M1 hI
  | succ k ih =>
    intro a M1 x4 x5 x6 ha hI hf hx
    obtain ⟨he, v1, f73, f74, f75, f76, hv1, g62, g73, g74, g75, g76⟩ := id hI
    have h := hY.v he (fun k x1 x2 => by omega) g62
    obtain ⟨⟨h1, h2, h3, h4, h5⟩, ⟨w1, w2, w3⟩, ⟨⟨hW1, hW2⟩, ⟨hH1, hH2⟩, ⟨hL1, hL2⟩, hn⟩, ⟨a1, a2, a3, a4⟩, hok⟩ := id h
    have hC := p_WH hW2 hH2
    refine r_il rfl rfl ?_
    refine r_il rfl rfl ?_
    refine r_ifF rfl (zcF5 ⟨by omega, by omega⟩ ⟨by omega, by omega⟩ (by decide)) ?_
    refine r_al rfl rfl ?_
    refine r_cv0 rfl rfl h1 rfl (by decide) rfl (m_cells h) ?_
    refine r_goto rfl ?_
    refine r_icF rfl (zcF3 ⟨by omega, by omega⟩ ⟨by omega, by omega⟩ (by omega)) ?_
    refine r_il rfl rfl ?_
    refine r_ic rfl ?_
    refine r_icF rfl (zcF5 ⟨by omega, by omega⟩ ⟨by omega, by omega⟩ (by decide)) ?_
    refine r_il rfl rfl ?_
    refine r_ic rfl ?_
    refine r_addI rfl ?_
    refine r_goto rfl ?_
    refine r_is4 rfl rfl ?_
    refine m_fh_B3 hY (a := a) (by omega) k (a + 1) M1 _ _ (by omega) hI (fun l M2 f ho hI2 h76 e0 e1 => ?_) (fun ho M2 x4 x5 x6 hI2 => ?_)
    · refine hf (a :: l) M2 f ?_ hI2 h76 (fun j x hx => ?_)
      · show (match h_fq (h_P W H L op) op 2 k (a + 1) (zI 0 ||| h_bit a) with | some l => some (a :: l) | none => h_fq (h_P W H L op) op 3 k (a + 1) (zI 0)) = _
        rw [ho]
      · cases j with
        | zero =>
          have hx : some a = some x := hx
          cases hx
          exact e0
        | succ j =>
          rw [Nat.add_comm j 1]
          exact e1 j x hx
    · have eo : h_fq (h_P W H L op) op 3 (k + 1) a (zI 0) = h_fq (h_P W H L op) op 3 k (a + 1) (zI 0) := by
        show (match h_fq (h_P W H L op) op 2 k (a + 1) (zI 0 ||| h_bit a) with | some l => some (a :: l) | none => h_fq (h_P W H L op) op 3 k (a + 1) (zI 0)) = _
        rw [ho]
      rw [eo] at hf hx
      refine r_jj3 rfl rfl ?_
      refine r_goto rfl ?_
      exact ih (a + 1) M2 _ _ _ (by omega) hI2 hf hx
set_option maxRecDepth 20000 in
theorem m_findHedges {v wd hd ld nw : Nat → Int32} (hY : m_Y M tr v wd hd ld nw W H L hs lot n kc) (hop : p_open W H hs (p_trod (fun k => q_msk W H (kc k).1 (kc k).2.2 (kc k).2.1) n) = op) (hopc : ∀ c, W * H ≤ c → bt op c = false) {M1 : ZM} (hI : (z_ev M M1 (fun k => k = 62 ∨ (73 ≤ k ∧ k < 77)) ∧ ∃ v1 f73 f74 f75 f76, (∀ j, j ≠ 21 → v1 j = v j) ∧ M1[62]? = some (.inl (6, m_f tr v1)) ∧ M1[73]? = some (zA 60 f73) ∧ M1[74]? = some (zA 60 f74) ∧ M1[75]? = some (zA 60 f75) ∧ M1[76]? = some (zA 3 f76))) {q : Nat} (hq : q ≤ 3) : ∃ r M', z_C S (d + 6) 148 [.ref 62, .int (zI (q : Int))] M1 r M' ∧ (z_ev M M' (fun k => k = 62 ∨ (73 ≤ k ∧ k < 77)) ∧ ∃ v1 f73 f74 f75 f76, (∀ j, j ≠ 21 → v1 j = v j) ∧ M'[62]? = some (.inl (6, m_f tr v1)) ∧ M'[73]? = some (zA 60 f73) ∧ M'[74]? = some (zA 60 f74) ∧ M'[75]? = some (zA 60 f75) ∧ M'[76]? = some (zA 3 f76)) ∧ r = some (.int (zI (if (h_F W H L op q).isSome = true then 1 else 0))) ∧ ∀ l, h_F W H L op q = some l → ∃ f, M'[76]? = some (zA 3 f) ∧ ∀ j x : Nat, l[j]? = some x → f j = zI (x : Int) := by
  obtain ⟨he, v1, f73, f74, f75, f76, hv1, g62, g73, g74, g75, g76⟩ := id hI
  have h := hY.v he (fun k x1 x2 => by omega) g62
  obtain ⟨⟨h1, h2, h3, h4, h5⟩, ⟨w1, w2, w3⟩, ⟨⟨hW1, hW2⟩, ⟨hH1, hH2⟩, ⟨hL1, hL2⟩, hn⟩, ⟨a1, a2, a3, a4⟩, hok⟩ := id h
  have hC := p_WH hW2 hH2
  have hopn := m_openNow (S := S) (d := d + 2) h
  rw [hop] at hopn
  refine k_of rfl rfl (Nat.le_of_ble_eq_true rfl) ?_
  refine r_al rfl rfl ?_
  refine r_cv0 rfl rfl h1 rfl (by decide) rfl (hopn) ?_
  refine r_is2 rfl rfl ?_
  refine r_ic rfl ?_
  refine r_is3 rfl rfl ?_
  refine r_il rfl rfl ?_
  refine r_ic rfl ?_
  refine r_icF rfl (zcF3 ⟨by omega, by omega⟩ ⟨by omega, by omega⟩ (by decide)) ?_
  refine r_al rfl rfl ?_
  refine r_gf rfl h1 rfl rfl ?_
  refine r_il rfl rfl ?_
  refine r_il rfl rfl ?_
  refine r_iSI rfl g76 (by omega) (by omega) (by omega) ?_
  refine r_jj3 rfl rfl ?_
  refine r_goto rfl ?_
  refine r_il rfl rfl ?_
  refine r_ic rfl ?_
  refine r_icF rfl (zcF3 ⟨by omega, by omega⟩ ⟨by omega, by omega⟩ (by decide)) ?_
  refine r_al rfl rfl ?_
  refine r_gf rfl (z_gn (by decide) h1) rfl rfl ?_
  refine r_il rfl rfl ?_
  refine r_il rfl rfl ?_
  refine r_iSI rfl (z_gs g76) (by omega) (by omega) (by omega) ?_
  rw [List.set_set]
  refine r_jj3 rfl rfl ?_
  refine r_goto rfl ?_
  refine r_il rfl rfl ?_
  refine r_ic rfl ?_
  refine r_icF rfl (zcF3 ⟨by omega, by omega⟩ ⟨by omega, by omega⟩ (by decide)) ?_
  refine r_al rfl rfl ?_
  refine r_gf rfl (z_gn (by decide) h1) rfl rfl ?_
  refine r_il rfl rfl ?_
  refine r_il rfl rfl ?_
  refine r_iSI rfl (z_gs g76) (by omega) (by omega) (by omega) ?_
  rw [List.set_set]
  refine r_jj3 rfl rfl ?_
  refine r_goto rfl ?_
  refine r_il rfl rfl ?_
  refine r_ic rfl ?_
  refine r_icT rfl (zcT3 ⟨by omega, by omega⟩ ⟨by omega, by omega⟩ (by decide)) ?_
  refine r_ic rfl ?_
  refine r_is3 rfl rfl ?_
  rw [show (0 : Int).toNat = 0 from rfl, show (0 + 1 : Int).toNat = 1 from rfl, show (0 + 1 + 1 : Int).toNat = 2 from rfl]
  generalize (upd (upd (upd f76 0 (zI 0)) 1 (zI (0 + 1))) 2 (zI (0 + 1 + 1))) = fU
  have hI3 : (z_ev M (M1.set 76 (zA 3 fU)) (fun k => k = 62 ∨ (73 ≤ k ∧ k < 77)) ∧ ∃ v1 f73 f74 f75 f76, (∀ j, j ≠ 21 → v1 j = v j) ∧ (M1.set 76 (zA 3 fU))[62]? = some (.inl (6, m_f tr v1)) ∧ (M1.set 76 (zA 3 fU))[73]? = some (zA 60 f73) ∧ (M1.set 76 (zA 3 fU))[74]? = some (zA 60 f74) ∧ (M1.set 76 (zA 3 fU))[75]? = some (zA 60 f75) ∧ (M1.set 76 (zA 3 fU))[76]? = some (zA 3 f76)) := ⟨he.tr (.set (by omega)), v1, f73, f74, f75, _, hv1, z_gn (by decide) g62, z_gn (by decide) g73, z_gn (by decide) g74, z_gn (by decide) g75, z_gs g76⟩
  have hq3 := h_F_q (L := L) hC hopc
  have hfnd : ∀ (l : List Nat) (M2 : ZM) (f : Nat → Int32), h_F W H L op q = some l → (z_ev M M2 (fun k => k = 62 ∨ (73 ≤ k ∧ k < 77)) ∧ ∃ v1 f73 f74 f75 f76, (∀ j, j ≠ 21 → v1 j = v j) ∧ M2[62]? = some (.inl (6, m_f tr v1)) ∧ M2[73]? = some (zA 60 f73) ∧ M2[74]? = some (zA 60 f74) ∧ M2[75]? = some (zA 60 f75) ∧ M2[76]? = some (zA 3 f76)) → M2[76]? = some (zA 3 f) → (∀ j x : Nat, l[j]? = some x → f j = zI (x : Int)) → (fun (r : Option Value) (M' : ZM) => (z_ev M M' (fun k => k = 62 ∨ (73 ≤ k ∧ k < 77)) ∧ ∃ v1 f73 f74 f75 f76, (∀ j, j ≠ 21 → v1 j = v j) ∧ M'[62]? = some (.inl (6, m_f tr v1)) ∧ M'[73]? = some (zA 60 f73) ∧ M'[74]? = some (zA 60 f74) ∧ M'[75]? = some (zA 60 f75) ∧ M'[76]? = some (zA 3 f76)) ∧ r = some (.int (zI (if (h_F W H L op q).isSome = true then 1 else 0))) ∧ ∀ l, h_F W H L op q = some l → ∃ f, M'[76]? = some (zA 3 f) ∧ ∀ j x : Nat, l[j]? = some x → f j = zI (x : Int)) (some (.int (zI 1))) M2 := fun l M2 f ho hI2 h76 hl => ⟨hI2, by rw [ho]; rfl, fun l2 g => by rw [ho] at g; cases g; exact ⟨f, h76, hl⟩⟩
  have hnon : h_F W H L op q = none → ∀ M2 : ZM, (z_ev M M2 (fun k => k = 62 ∨ (73 ≤ k ∧ k < 77)) ∧ ∃ v1 f73 f74 f75 f76, (∀ j, j ≠ 21 → v1 j = v j) ∧ M2[62]? = some (.inl (6, m_f tr v1)) ∧ M2[73]? = some (zA 60 f73) ∧ M2[74]? = some (zA 60 f74) ∧ M2[75]? = some (zA 60 f75) ∧ M2[76]? = some (zA 3 f76)) → (fun (r : Option Value) (M' : ZM) => (z_ev M M' (fun k => k = 62 ∨ (73 ≤ k ∧ k < 77)) ∧ ∃ v1 f73 f74 f75 f76, (∀ j, j ≠ 21 → v1 j = v j) ∧ M'[62]? = some (.inl (6, m_f tr v1)) ∧ M'[73]? = some (zA 60 f73) ∧ M'[74]? = some (zA 60 f74) ∧ M'[75]? = some (zA 60 f75) ∧ M'[76]? = some (zA 3 f76)) ∧ r = some (.int (zI (if (h_F W H L op q).isSome = true then 1 else 0))) ∧ ∀ l, h_F W H L op q = some l → ∃ f, M'[76]? = some (zA 3 f) ∧ ∀ j x : Nat, l[j]? = some x → f j = zI (x : Int)) (some (.int (zI 0))) M2 := fun ho M2 hI2 => ⟨hI2, by rw [ho]; rfl, fun l2 g => by rw [ho] at g; cases g⟩
  obtain rfl | rfl | rfl | rfl : q = 0 ∨ q = 1 ∨ q = 2 ∨ q = 3 := by omega
  · exact m_fh_A0 hY hI3 (k0 := W * H) (c0 := 0) (fun l M2 f ho => hfnd l M2 f ((hq3 0).symm.trans ho)) (fun ho => hnon ((hq3 0).symm.trans ho))
  · exact m_fh_A1 hY (W * H) 0 _ _ _ _ (by omega) hI3 (fun l M2 f ho => hfnd l M2 f ((hq3 1).symm.trans ho)) (fun ho => hnon ((hq3 1).symm.trans ho))
  · exact m_fh_A2 hY (W * H) 0 _ _ _ _ (by omega) hI3 (fun l M2 f ho => hfnd l M2 f ((hq3 2).symm.trans ho)) (fun ho => hnon ((hq3 2).symm.trans ho))
  · exact m_fh_A3 hY (W * H) 0 _ _ _ _ (by omega) hI3 (fun l M2 f ho => hfnd l M2 f ((hq3 3).symm.trans ho)) (fun ho => hnon ((hq3 3).symm.trans ho))
set_option maxRecDepth 20000 in
theorem y_hedges_l {v wd hd ld nw : Nat → Int32} (hY : m_Y M tr v wd hd ld nw W H L hs lot n kc) (hop : p_open W H hs (p_trod (fun k => q_msk W H (kc k).1 (kc k).2.2 (kc k).2.1) n) = op) (hopc : ∀ c, W * H ≤ c → bt op c = false) {i : Int} {Q : Option Value → ZM → Prop} : ∀ (kn qn : Nat) (M1 : ZM), qn + kn = 4 → (z_ev M M1 (fun k => k = 62 ∨ (73 ≤ k ∧ k < 77)) ∧ ∃ v1 f73 f74 f75 f76, (∀ j, j ≠ 21 → v1 j = v j) ∧ M1[62]? = some (.inl (6, m_f tr v1)) ∧ M1[73]? = some (zA 60 f73) ∧ M1[74]? = some (zA 60 f74) ∧ M1[75]? = some (zA 60 f75) ∧ M1[76]? = some (zA 3 f76)) → (∀ (n2 : Nat) (ll : List Nat), h_sz (h_F W H L op) kn qn = some (n2, ll) → n2 ≤ 3 → ∀ M2 : ZM, (z_ev M M2 (fun k => k = 62 ∨ (73 ≤ k ∧ k < 77)) ∧ ∃ v1 f73 f74 f75 f76, (∀ j, j ≠ 21 → v1 j = v j) ∧ M2[62]? = some (.inl (6, m_f tr v1)) ∧ M2[73]? = some (zA 60 f73) ∧ M2[74]? = some (zA 60 f74) ∧ M2[75]? = some (zA 60 f75) ∧ M2[76]? = some (zA 3 f76)) → (∃ f, M2[76]? = some (zA 3 f) ∧ ∀ j x : Nat, ll[j]? = some x → f j = zI (x : Int)) → z_R S (d + 7) 149 32 [some (.ref 62), some (.int (zI i)), some (.int (zI (n2 : Int)))] [] M2 Q) → (h_sz (h_F W H L op) kn qn = none → qn + kn = 4 → ∀ M2 : ZM, (z_ev M M2 (fun k => k = 62 ∨ (73 ≤ k ∧ k < 77)) ∧ ∃ v1 f73 f74 f75 f76, (∀ j, j ≠ 21 → v1 j = v j) ∧ M2[62]? = some (.inl (6, m_f tr v1)) ∧ M2[73]? = some (zA 60 f73) ∧ M2[74]? = some (zA 60 f74) ∧ M2[75]? = some (zA 60 f75) ∧ M2[76]? = some (zA 3 f76)) → z_R S (d + 7) 149 32 [some (.ref 62), some (.int (zI i)), some (.int (zI 4))] [] M2 Q) → z_R S (d + 7) 149 13 [some (.ref 62), some (.int (zI i)), some (.int (zI (qn : Int)))] [] M1 Q := by
  intro kn
  induction kn with
  | zero =>
    intro qn M1 hk hI hf hx4
    obtain ⟨he, v1, f73, f74, f75, f76, hv1, g62, g73, g74, g75, g76⟩ := id hI
    obtain rfl : qn = 4 := by omega
    refine r_il rfl rfl ?_
    refine r_ic rfl ?_
    refine r_icT rfl (zcT3 ⟨by omega, by omega⟩ ⟨by omega, by omega⟩ (by omega)) ?_
    exact hx4 rfl (by omega) M1 hI
  | succ kn ih =>
    intro qn M1 hk hI hf hx4
    obtain ⟨he, v1, f73, f74, f75, f76, hv1, g62, g73, g74, g75, g76⟩ := id hI
    obtain ⟨rr, M2, k2, hI2, hr2, hl2⟩ := m_findHedges (S := S) (d := d) hY hop hopc hI (q := qn) (by omega)
    subst hr2
    refine r_il rfl rfl ?_
    refine r_ic rfl ?_
    refine r_icF rfl (zcF3 ⟨by omega, by omega⟩ ⟨by omega, by omega⟩ (by omega)) ?_
    refine r_al rfl rfl ?_
    refine r_il rfl rfl ?_
    refine r_cv1 rfl rfl g62 rfl (by decide) rfl (k2) ?_
    rcases hfo : h_F W H L op qn with - | ll
    · have eo : h_sz (h_F W H L op) (kn + 1) qn = h_sz (h_F W H L op) kn (qn + 1) := by
        show (match h_F W H L op qn with | some l => some (qn, l) | none => h_sz (h_F W H L op) kn (qn + 1)) = _
        rw [hfo]
      rw [eo] at hf hx4
      rw [show (if (none : Option (List Nat)).isSome = true then (1 : Int) else 0) = 0 from rfl]
      refine r_ifF rfl (zcF1 (rfl)) ?_
      refine r_jj2 rfl rfl ?_
      refine r_goto rfl ?_
      exact ih (qn + 1) M2 (by omega) hI2 hf (fun g1 g2 => hx4 g1 (by omega))
    · have eo : h_sz (h_F W H L op) (kn + 1) qn = some (qn, ll) := by
        show (match h_F W H L op qn with | some l => some (qn, l) | none => h_sz (h_F W H L op) kn (qn + 1)) = _
        rw [hfo]
      rw [show (if (some ll).isSome = true then (1 : Int) else 0) = 1 from rfl]
      refine r_ifT rfl (zcT1 ⟨by omega, by omega⟩ ⟨by omega, by omega⟩ (by decide)) ?_
      exact hf qn ll eo (by omega) M2 hI2 (hl2 ll hfo)
set_option maxRecDepth 20000 in
theorem y_hedges {q : Int} (hq : z_sm q) {op : Int32} (hop : p_open W H hs (v_trod W H n kc) = op) : z_Yc S 149 [.int (zI q)] ((T, tx), (W, H, L), (hs, lot, n, kc), im, tr) (.int (zI (v_hedges (h_F W H L op) q))) ((T, tx), (W, H, L), (hs, lot, n, kc), im, tr) := by
  intro d M hY
  obtain ⟨y1, v, wd, hd, ld, nw, h, y3, y4, y5, y6, y7, y8⟩ := id hY
  have h : m_Y M tr v wd hd ld nw W H L hs lot n kc := h
  obtain ⟨⟨h1, h2, h3, h4, h5⟩, ⟨w1, w2, w3⟩, ⟨⟨hW1, hW2⟩, ⟨hH1, hH2⟩, ⟨hL1, hL2⟩, hn⟩, ⟨a1, a2, a3, a4⟩, hok⟩ := id h
  have hC := p_WH hW2 hH2
  unfold v_hedges
  refine k_an ?_
  refine k_of rfl rfl (Nat.le_of_ble_eq_true rfl) ?_
  refine r_il rfl rfl ?_
  refine r_ic rfl ?_
  refine r_ic rfl ?_
  refine r_cs3 rfl rfl rfl rfl (m_in hq ⟨by omega, by omega⟩ ⟨by omega, by omega⟩) ?_
  by_cases h0 : -1 ≤ q ∧ q ≤ 2
  · rw [if_pos h0, if_pos h0]
    obtain ⟨⟨f69, r69⟩, ⟨f70, r70⟩, ⟨f71, r71⟩, ⟨f72, r72⟩, ⟨f73, r73⟩, ⟨f74, r74⟩, ⟨f75, r75⟩, ⟨f76, r76⟩, f77, r77⟩ := id y8
    have y3 : v 2 = zI (T : Int) := y3
    have hfin : ∀ M2 : ZM, (z_ev M M2 (fun k => k = 62 ∨ (73 ≤ k ∧ k < 77)) ∧ ∃ v1 f73 f74 f75 f76, (∀ j, j ≠ 21 → v1 j = v j) ∧ M2[62]? = some (.inl (6, m_f tr v1)) ∧ M2[73]? = some (zA 60 f73) ∧ M2[74]? = some (zA 60 f74) ∧ M2[75]? = some (zA 60 f75) ∧ M2[76]? = some (zA 3 f76)) → Y_I M2 ((T, tx), (W, H, L), (hs, lot, n, kc), im, tr) ∧ z_ev M M2 (fun k => 62 ≤ k) := fun M2 hI2 => by
      obtain ⟨e2, v1, c73, c74, c75, c76, hv1, g62, g73, g74, g75, g76⟩ := hI2
      exact ⟨hY.fld (e2.wk (fun k g => by omega)) g62 ((hv1 2 (by decide)).trans y3) ⟨⟨f69, (e2.2 69 (by decide)).trans r69⟩, ⟨f70, (e2.2 70 (by decide)).trans r70⟩, ⟨f71, (e2.2 71 (by decide)).trans r71⟩, ⟨f72, (e2.2 72 (by decide)).trans r72⟩, ⟨c73, g73⟩, ⟨c74, g74⟩, ⟨c75, g75⟩, ⟨c76, g76⟩, f77, (e2.2 77 (by decide)).trans r77⟩, e2.wk (fun k g => by omega)⟩
    refine r_ifT rfl (zcT1 ⟨by omega, by omega⟩ ⟨by omega, by omega⟩ (by decide)) ?_
    refine r_ic rfl ?_
    refine r_is2 rfl rfl ?_
    refine y_hedges_l (d := d + 13) h hop (fun c hc => by rw [← hop]; exact p_open_hi hC hc) 4 0 M (by omega) ⟨.rf, v, f73, f74, f75, f76, fun j _ => rfl, h1, r73, r74, r75, r76⟩ (fun n2 ll ho hn2 M2 hI2 hll => ?_) (fun ho _ M2 hI2 => ?_)
    · have hz := hfin M2 hI2
      obtain ⟨ff, h76, hlf⟩ := hll
      obtain ⟨g1, g2⟩ := h_sz_len 4 0 n2 ll ho
      have b62 := hI2.2
      obtain ⟨v1, c73, c74, c75, c76, hv1, g62, -⟩ := b62
      rw [ho]
      show z_R _ _ _ _ _ _ _ (fun r M' => r = some (Value.int (zI (if q = -1 then (n2 : Int) else if q < (n2 : Int) then (ll.getD q.toNat 0 : Int) else -5))) ∧ _ ∧ _)
      refine r_il rfl rfl ?_
      refine r_ic rfl ?_
      refine r_icT rfl (zcT1 ⟨by omega, by omega⟩ ⟨by omega, by omega⟩ (by omega)) ?_
      refine r_il rfl rfl ?_
      refine r_ic rfl ?_
      by_cases h6 : q = -1
      · rw [if_pos h6]
        refine r_icF rfl (zcF1 (h6)) ?_
        refine r_il rfl rfl ?_
        refine r_goto rfl ?_
        refine r_reti rfl rfl ?_
        exact ⟨rfl, hz.1, hz.2⟩
      · rw [if_neg h6]
        refine r_icT rfl (zcT1 ⟨by omega, by omega⟩ ⟨by omega, by omega⟩ (h6)) ?_
        refine r_il rfl rfl ?_
        refine r_il rfl rfl ?_
        by_cases h5' : q < (n2 : Int)
        · rw [if_pos h5']
          have hj : q.toNat < ll.length := by omega
          refine r_icF rfl (zcF3 ⟨by omega, by omega⟩ ⟨by omega, by omega⟩ (h5')) ?_
          refine r_al rfl rfl ?_
          refine r_gf rfl g62 rfl rfl ?_
          refine r_il rfl rfl ?_
          refine r_iaI rfl (by decide) h76 (by omega) (by omega) (by omega) ?_
          rw [hlf q.toNat _ (List.getElem?_eq_getElem hj), List.getD_eq_getElem?_getD, List.getElem?_eq_getElem hj]
          refine r_goto rfl ?_
          refine r_reti rfl rfl ?_
          exact ⟨rfl, hz.1, hz.2⟩
        · rw [if_neg h5']
          refine r_icT rfl (zcT3 ⟨by omega, by omega⟩ ⟨by omega, by omega⟩ (h5')) ?_
          refine r_ic rfl ?_
          refine r_reti rfl rfl ?_
          exact ⟨rfl, hz.1, hz.2⟩
    · have hz := hfin M2 hI2
      rw [ho]
      refine r_il rfl rfl ?_
      refine r_ic rfl ?_
      refine r_icF rfl (zcF1 (rfl)) ?_
      refine r_ic rfl ?_
      refine r_goto rfl ?_
      refine r_reti rfl rfl ?_
      exact ⟨rfl, hz.1, hz.2⟩
  · rw [if_neg h0, if_neg h0]
    refine r_ifF rfl (zcF1 (rfl)) ?_
    refine r_ic rfl ?_
    refine r_reti rfl rfl ?_
    exact ⟨rfl, hY, .rf⟩
end HY
