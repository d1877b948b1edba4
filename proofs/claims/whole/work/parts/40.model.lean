/-! THE REFERENCE: its cells, and its methods that read -/
abbrev m_f (tr : Int64) (v : Nat → Int32) : List Value := [.long tr, .ref 63, .int (v 2), .ref 64, .ref 65, .ref 66, .ref 67, .ref 68, .int (v 8), .int (v 9), .int (v 10), .int (v 11), .int (v 12), .int (v 13), .ref 69, .ref 70, .ref 71, .ref 72, .ref 73, .ref 74, .ref 75, .int (v 21), .ref 76, .ref 77, .int (v 24)]
/-- its own cell, the rows of the yard's numbers, the row of all else -/
def m_B (M : ZM) (tr : Int64) (v wd hd ld nw : Nat → Int32) : Prop := M[62]? = some (.inl (6, m_f tr v)) ∧ M[64]? = some (.inr (0, 2, .inl wd)) ∧ M[65]? = some (.inr (0, 2, .inl hd)) ∧ M[66]? = some (.inr (0, 2, .inl ld)) ∧ M[67]? = some (.inr (0, 236, .inl nw))
/-- what the row says, from a place on -/
def m_A (nw : Nat → Int32) (q : Nat) (hs lot : Int32) (n : Nat) (kc : Nat → ZK) : Prop := nw q = hs ∧ nw (q + 1) = zI (n : Int) ∧ nw (q + 2) = lot ∧ ∀ k, k < n → nw (q + 3 + k) = zI ((kc k).1 : Int) ∧ nw (q + 7 + k) = zI ((kc k).2.1 : Int) ∧ ∀ j, j < (kc k).2.1 → nw (q + 11 + 12 * k + j) = zI ((kc k).2.2 j)
/-- the yard that is: its numbers, houses, chains -/
def m_Y (M : ZM) (tr : Int64) (v wd hd ld nw : Nat → Int32) (W H L : Nat) (hs lot : Int32) (n : Nat) (kc : Nat → ZK) : Prop := m_B M tr v wd hd ld nw ∧ (wd 0 = zI (W : Int) ∧ hd 0 = zI (H : Int) ∧ ld 0 = zI (L : Int)) ∧ ((1 ≤ W ∧ W ≤ 5) ∧ (1 ≤ H ∧ H ≤ 5) ∧ (1 ≤ L ∧ L ≤ 3) ∧ n ≤ 4) ∧ m_A nw 0 hs lot n kc ∧ ∀ k, k < n → p_ok W H hs (kc k)
section MR
variable {S : ZS} {d : Nat} {M : ZM} {tr : Int64} {v wd hd ld nw : Nat → Int32} {W H L n : Nat} {hs lot : Int32} {kc : Nat → ZK}
theorem m_in {x lo hi : Int} (hx : z_sm x) (hl : z_sm lo) (hh : z_sm hi) : z_C S d 102 [.int (zI x), .int (zI lo), .int (zI hi)] M (some (.int (zI (if lo ≤ x ∧ x ≤ hi then 1 else 0)))) M := by
  refine c_of rfl rfl (Nat.le_of_ble_eq_true rfl) ?_
  refine g_il rfl rfl ?_
  refine g_il rfl rfl ?_
  by_cases ha : x < lo
  · refine g_icT rfl (zcT2 hx hl (ha)) ?_
    refine g_ic rfl ?_
    exact g_reti rfl (by rw [if_neg (by omega)]) rfl
  · refine g_icF rfl (zcF2 hx hl (ha)) ?_
    refine g_il rfl rfl ?_
    refine g_il rfl rfl ?_
    by_cases hb : hi < x
    · refine g_icT rfl (zcT4 hx hh (hb)) ?_
      refine g_ic rfl ?_
      exact g_reti rfl (by rw [if_neg (by omega)]) rfl
    · refine g_icF rfl (zcF4 hx hh (hb)) ?_
      refine g_ic rfl ?_
      refine g_goto rfl ?_
      exact g_reti rfl (by rw [if_pos (by omega)]) rfl
theorem m_offeq {c q m : Nat} {st dx : Int} (hc : c < W * H) (e1 : W * q + m = c) (e2 : m < W) (e4 : q < H) (em : c % W = m) (hst : 0 ≤ st ∧ st ≤ 3) (hdx : (st = 1 ∧ dx = 1) ∨ (st = 3 ∧ dx = -1) ∨ (st ≠ 1 ∧ st ≠ 3 ∧ dx = 0)) : (if (0 ≤ (m : Int) + dx ∧ (m : Int) + dx ≤ (W : Int) - 1) ∧ 0 ≤ (q : Int) + (if st = 2 then 1 else if st = 0 then -1 else 0) ∧ (q : Int) + (if st = 2 then 1 else if st = 0 then -1 else 0) ≤ (H : Int) - 1 then (W : Int) * ((q : Int) + (if st = 2 then 1 else if st = 0 then -1 else 0)) + ((m : Int) + dx) else -9) = oI (p_off W H c st) (-9) := by
  have e5 : (W : Int) * (q : Int) = ((W * q : Nat) : Int) := (Int.natCast_mul W q).symm
  rcases (show st = 0 ∨ st = 1 ∨ st = 2 ∨ st = 3 by omega) with hk | hk | hk | hk
  · subst hk
    have hd : dx = 0 := by omega
    subst hd
    have hR : p_off W H c 0 = if W ≤ c then some (c - W) else none := by unfold p_off; rw [if_pos rfl]
    rw [hR, if_neg (show ¬ (0 : Int) = 2 by decide), if_pos (show (0 : Int) = 0 from rfl)]
    by_cases hl : W ≤ c
    · have h1 : 1 ≤ q := by
        rcases Nat.eq_zero_or_pos q with g | g
        · subst g; omega
        · exact g
      rw [if_pos hl, if_pos (by omega)]
      show _ = ((c - W : Nat) : Int)
      rw [Int.mul_add, e5]
      omega
    · have h1 : ¬ 1 ≤ q := fun g => by
        have : W * 1 ≤ W * q := Nat.mul_le_mul_left W g
        omega
      rw [if_neg hl, if_neg (by omega)]
      rfl
  · subst hk
    have hd : dx = 1 := by omega
    subst hd
    have hR : p_off W H c 1 = if m + 1 < W then some (c + 1) else none := by unfold p_off; rw [if_neg (by decide), if_pos rfl, em]
    rw [hR, if_neg (show ¬ (1 : Int) = 2 by decide), if_neg (show ¬ (1 : Int) = 0 by decide)]
    by_cases hl : m + 1 < W
    · rw [if_pos hl, if_pos (by omega)]
      show _ = ((c + 1 : Nat) : Int)
      rw [Int.add_zero, e5]
      omega
    · rw [if_neg hl, if_neg (by omega)]
      rfl
  · subst hk
    have hd : dx = 0 := by omega
    subst hd
    have hR : p_off W H c 2 = if c + W < W * H then some (c + W) else none := by unfold p_off; rw [if_neg (by decide), if_neg (by decide), if_pos rfl]
    rw [hR, if_pos (show (2 : Int) = 2 from rfl)]
    by_cases hl : c + W < W * H
    · have h1 : q + 1 < H := by
        rcases Nat.lt_or_ge (q + 1) H with g | g
        · exact g
        · have := Nat.mul_le_mul_left W g
          rw [Nat.mul_add] at this
          omega
      rw [if_pos hl, if_pos (by omega)]
      show _ = ((c + W : Nat) : Int)
      rw [Int.mul_add, e5]
      omega
    · have h1 : ¬ q + 1 < H := fun g => by
        have := Nat.mul_le_mul_left W g
        rw [Nat.mul_succ, Nat.mul_add] at this
        omega
      rw [if_neg hl, if_neg (by omega)]
      rfl
  · subst hk
    have hd : dx = -1 := by omega
    subst hd
    have hR : p_off W H c 3 = if 0 < m then some (c - 1) else none := by unfold p_off; rw [if_neg (by decide), if_neg (by decide), if_neg (by decide), if_pos rfl, em]
    rw [hR, if_neg (show ¬ (3 : Int) = 2 by decide), if_neg (show ¬ (3 : Int) = 0 by decide)]
    by_cases hl : 0 < m
    · rw [if_pos hl, if_pos (by omega)]
      show _ = ((c - 1 : Nat) : Int)
      rw [Int.add_zero, e5]
      omega
    · rw [if_neg hl, if_neg (by omega)]
      rfl
theorem m_off (hB : m_B M tr v wd hd ld nw) (hW1 : 1 ≤ W) (hW2 : W ≤ 5) (hH1 : 1 ≤ H) (hH2 : H ≤ 5) {e : Nat} (he : e < 2) (hw : wd e = zI (W : Int)) (hh : hd e = zI (H : Int)) {c : Nat} (hc : c < W * H) {st : Int} (hst : 0 ≤ st ∧ st ≤ 3) : z_C S (d + 1) 109 [.ref 62, .int (zI (e : Int)), .int (zI (c : Int)), .int (zI st)] M (some (.int (zI (oI (p_off W H c st) (-9))))) M := by
  obtain ⟨h1, h2, h3, h4, h5⟩ := id hB
  have hC := p_WH hW2 hH2
  have e2 := Nat.mod_lt c (show 0 < W by omega)
  have e1 := Nat.div_add_mod c W
  have e4 : c / W < H := Nat.div_lt_of_lt_mul hc
  generalize eq : c / W = q at e1 e4
  generalize em : c % W = m at e1 e2
  have fin : ∀ (x yy : Int), z_sm x → z_sm yy → z_G S (d + 1) 109 59 [some (.ref 62), some (.int (zI (e : Int))), some (.int (zI (c : Int))), some (.int (zI st)), some (.int (zI x)), some (.int (zI yy))] [] M (some (.int (zI (if (0 ≤ x ∧ x ≤ (W : Int) - 1) ∧ 0 ≤ yy ∧ yy ≤ (H : Int) - 1 then (W : Int) * yy + x else -9)))) M := by
    intro x yy hx hy
    refine g_il rfl rfl ?_
    refine g_ic rfl ?_
    refine g_al rfl rfl ?_
    refine g_gf rfl h1 rfl rfl ?_
    refine g_il rfl rfl ?_
    refine g_iaI rfl (by decide) h2 (by omega) (by omega) (by omega) ?_
    rw [show wd (e : Int).toNat = zI (W : Int) by rw [Int.toNat_natCast]; exact hw]
    refine g_ic rfl ?_
    refine g_subI rfl ?_
    refine g_cs3 rfl rfl rfl rfl (m_in hx ⟨by omega, by omega⟩ ⟨by omega, by omega⟩) ?_
    by_cases g1 : 0 ≤ x ∧ x ≤ (W : Int) - 1
    · rw [if_pos g1]
      refine g_ifF rfl (zcF0 ⟨by omega, by omega⟩ ⟨by omega, by omega⟩ (by decide)) ?_
      refine g_il rfl rfl ?_
      refine g_ic rfl ?_
      refine g_al rfl rfl ?_
      refine g_gf rfl h1 rfl rfl ?_
      refine g_il rfl rfl ?_
      refine g_iaI rfl (by decide) h3 (by omega) (by omega) (by omega) ?_
      rw [show hd (e : Int).toNat = zI (H : Int) by rw [Int.toNat_natCast]; exact hh]
      refine g_ic rfl ?_
      refine g_subI rfl ?_
      refine g_cs3 rfl rfl rfl rfl (m_in hy ⟨by omega, by omega⟩ ⟨by omega, by omega⟩) ?_
      by_cases g2 : 0 ≤ yy ∧ yy ≤ (H : Int) - 1
      · rw [if_pos g2]
        refine g_ifF rfl (zcF0 ⟨by omega, by omega⟩ ⟨by omega, by omega⟩ (by decide)) ?_
        refine g_al rfl rfl ?_
        refine g_gf rfl h1 rfl rfl ?_
        refine g_il rfl rfl ?_
        refine g_iaI rfl (by decide) h2 (by omega) (by omega) (by omega) ?_
        rw [show wd (e : Int).toNat = zI (W : Int) by rw [Int.toNat_natCast]; exact hw]
        refine g_il rfl rfl ?_
        refine g_mulI rfl ?_
        refine g_il rfl rfl ?_
        refine g_addI rfl ?_
        refine g_goto rfl ?_
        exact g_reti rfl (by rw [if_pos ⟨g1, g2⟩]) rfl
      · rw [if_neg g2]
        refine g_ifT rfl (zcT0 (rfl)) ?_
        refine g_ic rfl ?_
        exact g_reti rfl (by rw [if_neg (fun q => g2 q.2)]) rfl
    · rw [if_neg g1]
      refine g_ifT rfl (zcT0 (rfl)) ?_
      refine g_ic rfl ?_
      exact g_reti rfl (by rw [if_neg (fun q => g1 q.1)]) rfl
  have mid : ∀ (x : Int), z_sm x → z_G S (d + 1) 109 30 [some (.ref 62), some (.int (zI (e : Int))), some (.int (zI (c : Int))), some (.int (zI st)), some (.int (zI x)), none] [] M (some (.int (zI (if (0 ≤ x ∧ x ≤ (W : Int) - 1) ∧ 0 ≤ (q : Int) + (if st = 2 then 1 else if st = 0 then -1 else 0) ∧ (q : Int) + (if st = 2 then 1 else if st = 0 then -1 else 0) ≤ (H : Int) - 1 then (W : Int) * ((q : Int) + (if st = 2 then 1 else if st = 0 then -1 else 0)) + x else -9)))) M := by
    intro x hx
    refine g_il rfl rfl ?_
    refine g_al rfl rfl ?_
    refine g_gf rfl h1 rfl rfl ?_
    refine g_il rfl rfl ?_
    refine g_iaI rfl (by decide) h2 (by omega) (by omega) (by omega) ?_
    rw [show wd (e : Int).toNat = zI (W : Int) by rw [Int.toNat_natCast]; exact hw]
    refine g_divI rfl (⟨by omega, by omega⟩) (⟨by omega, by omega⟩) ?_
    rw [(Int.natCast_ediv c W).symm, eq]
    refine g_il rfl rfl ?_
    refine g_ic rfl ?_
    rcases (show st = 2 ∨ st = 0 ∨ (st ≠ 2 ∧ st ≠ 0) by omega) with hk | hk | hk
    · refine g_icF rfl (zcF1 (hk)) ?_
      refine g_ic rfl ?_
      refine g_goto rfl ?_
      refine g_addI rfl ?_
      refine g_is5 rfl rfl ?_
      rw [if_pos hk]
      exact fin _ _ hx ⟨by omega, by omega⟩
    · refine g_icT rfl (zcT1 ⟨by omega, by omega⟩ ⟨by omega, by omega⟩ (by omega)) ?_
      refine g_il rfl rfl ?_
      refine g_ifF rfl (zcF1 (hk)) ?_
      refine g_ic rfl ?_
      refine g_goto rfl ?_
      refine g_addI rfl ?_
      refine g_is5 rfl rfl ?_
      rw [if_neg (show ¬ st = 2 by omega), if_pos hk]
      exact fin _ _ hx ⟨by omega, by omega⟩
    · refine g_icT rfl (zcT1 ⟨by omega, by omega⟩ ⟨by omega, by omega⟩ (hk.1)) ?_
      refine g_il rfl rfl ?_
      refine g_ifT rfl (zcT1 ⟨by omega, by omega⟩ ⟨by omega, by omega⟩ (hk.2)) ?_
      refine g_ic rfl ?_
      refine g_addI rfl ?_
      refine g_is5 rfl rfl ?_
      rw [if_neg hk.1, if_neg hk.2]
      exact fin _ _ hx ⟨by omega, by omega⟩
  refine c_of rfl rfl (Nat.le_of_ble_eq_true rfl) ?_
  refine g_il rfl rfl ?_
  refine g_al rfl rfl ?_
  refine g_gf rfl h1 rfl rfl ?_
  refine g_il rfl rfl ?_
  refine g_iaI rfl (by decide) h2 (by omega) (by omega) (by omega) ?_
  rw [show wd (e : Int).toNat = zI (W : Int) by rw [Int.toNat_natCast]; exact hw]
  refine g_remI rfl (⟨by omega, by omega⟩) (⟨by omega, by omega⟩) ?_
  rw [(Int.natCast_emod c W).symm, em]
  refine g_il rfl rfl ?_
  refine g_ic rfl ?_
  rcases (show st = 0 ∨ st = 1 ∨ st = 2 ∨ st = 3 by omega) with hk | hk | hk | hk
  · refine g_icT rfl (zcT1 ⟨by omega, by omega⟩ ⟨by omega, by omega⟩ (by omega)) ?_
    refine g_il rfl rfl ?_
    refine g_ic rfl ?_
    refine g_icT rfl (zcT1 ⟨by omega, by omega⟩ ⟨by omega, by omega⟩ (by omega)) ?_
    refine g_ic rfl ?_
    refine g_addI rfl ?_
    refine g_is4 rfl rfl ?_
    have e9 := mid ((m : Int) + 0) ⟨by omega, by omega⟩
    rw [m_offeq hc e1 e2 e4 em hst (dx := 0) (by omega)] at e9
    exact e9
  · refine g_icF rfl (zcF1 (by omega)) ?_
    refine g_ic rfl ?_
    refine g_goto rfl ?_
    refine g_addI rfl ?_
    refine g_is4 rfl rfl ?_
    have e9 := mid ((m : Int) + 1) ⟨by omega, by omega⟩
    rw [m_offeq hc e1 e2 e4 em hst (dx := 1) (by omega)] at e9
    exact e9
  · refine g_icT rfl (zcT1 ⟨by omega, by omega⟩ ⟨by omega, by omega⟩ (by omega)) ?_
    refine g_il rfl rfl ?_
    refine g_ic rfl ?_
    refine g_icT rfl (zcT1 ⟨by omega, by omega⟩ ⟨by omega, by omega⟩ (by omega)) ?_
    refine g_ic rfl ?_
    refine g_addI rfl ?_
    refine g_is4 rfl rfl ?_
    have e9 := mid ((m : Int) + 0) ⟨by omega, by omega⟩
    rw [m_offeq hc e1 e2 e4 em hst (dx := 0) (by omega)] at e9
    exact e9
  · refine g_icT rfl (zcT1 ⟨by omega, by omega⟩ ⟨by omega, by omega⟩ (by omega)) ?_
    refine g_il rfl rfl ?_
    refine g_ic rfl ?_
    refine g_icF rfl (zcF1 (by omega)) ?_
    refine g_ic rfl ?_
    refine g_goto rfl ?_
    refine g_addI rfl ?_
    refine g_is4 rfl rfl ?_
    have e9 := mid ((m : Int) + (-1)) ⟨by omega, by omega⟩
    rw [m_offeq hc e1 e2 e4 em hst (dx := (-1)) (by omega)] at e9
    exact e9
theorem m_cells (h : m_Y M tr v wd hd ld nw W H L hs lot n kc) : z_C S d 116 [.ref 62] M (some (.int (zI ((W * H : Nat) : Int)))) M := by
  obtain ⟨⟨h1, h2, h3, h4, h5⟩, ⟨w1, w2, w3⟩, ⟨⟨hW1, hW2⟩, ⟨hH1, hH2⟩, ⟨hL1, hL2⟩, hn⟩, ⟨a1, a2, a3, a4⟩, hok⟩ := id h
  have hC := p_WH hW2 hH2
  have eC : (W : Int) * (H : Int) = ((W * H : Nat) : Int) := (Int.natCast_mul W H).symm
  refine c_of rfl rfl (Nat.le_of_ble_eq_true rfl) ?_
  refine g_al rfl rfl ?_
  refine g_gf rfl h1 rfl rfl ?_
  refine g_ic rfl ?_
  refine g_iaI rfl (by decide) h2 (by omega) (by omega) (by omega) ?_
  rw [show wd (Int.toNat 0) = zI (W : Int) from w1]
  refine g_al rfl rfl ?_
  refine g_gf rfl h1 rfl rfl ?_
  refine g_ic rfl ?_
  refine g_iaI rfl (by decide) h3 (by omega) (by omega) (by omega) ?_
  rw [show hd (Int.toNat 0) = zI (H : Int) from w2]
  refine g_mulI rfl ?_
  rw [eC]
  exact g_reti rfl (rfl) rfl
theorem m_isCell (h : m_Y M tr v wd hd ld nw W H L hs lot n kc) {c : Int} (hc : z_sm c) : z_C S (d + 1) 117 [.ref 62, .int (zI c)] M (some (.int (zI (if 0 ≤ c ∧ c < ((W * H : Nat) : Int) then 1 else 0)))) M := by
  obtain ⟨⟨h1, h2, h3, h4, h5⟩, ⟨w1, w2, w3⟩, ⟨⟨hW1, hW2⟩, ⟨hH1, hH2⟩, ⟨hL1, hL2⟩, hn⟩, ⟨a1, a2, a3, a4⟩, hok⟩ := id h
  have hC := p_WH hW2 hH2
  have eC : (W : Int) * (H : Int) = ((W * H : Nat) : Int) := (Int.natCast_mul W H).symm
  refine c_of rfl rfl (Nat.le_of_ble_eq_true rfl) ?_
  refine g_il rfl rfl ?_
  refine g_ic rfl ?_
  refine g_al rfl rfl ?_
  refine g_cv0 rfl rfl h1 rfl (by decide) rfl (m_cells h) ?_
  refine g_ic rfl ?_
  refine g_subI rfl ?_
  refine g_cs3 rfl rfl rfl rfl (m_in hc ⟨by omega, by omega⟩ ⟨by omega, by omega⟩) ?_
  exact g_reti rfl (congrArg (fun x => some (Value.int (zI x))) (z_ifeq (by omega))) (by split <;> rfl)
theorem m_isHouse (h : m_Y M tr v wd hd ld nw W H L hs lot n kc) {c : Nat} (hc : c < 32) : z_C S d 118 [.ref 62, .int (zI (c : Int))] M (some (.int (zI (if bt hs c = true then 1 else 0)))) M := by
  obtain ⟨⟨h1, h2, h3, h4, h5⟩, ⟨w1, w2, w3⟩, ⟨⟨hW1, hW2⟩, ⟨hH1, hH2⟩, ⟨hL1, hL2⟩, hn⟩, ⟨a1, a2, a3, a4⟩, hok⟩ := id h
  have hC := p_WH hW2 hH2
  have eC : (W : Int) * (H : Int) = ((W * H : Nat) : Int) := (Int.natCast_mul W H).symm
  refine c_of rfl rfl (Nat.le_of_ble_eq_true rfl) ?_
  refine g_al rfl rfl ?_
  refine g_gf rfl h1 rfl rfl ?_
  refine g_ic rfl ?_
  refine g_iaI rfl (by decide) h5 (by omega) (by omega) (by omega) ?_
  rw [show nw (Int.toNat 0) = hs from a1]
  refine g_il rfl rfl ?_
  refine g_ishr rfl ?_
  refine g_ic rfl ?_
  refine g_iand rfl ?_
  refine g_ic rfl ?_
  rw [z_bit hs hc]
  by_cases hb : bt hs c = true
  · rw [if_pos hb]
    refine g_icF rfl (zcF1 (rfl)) ?_
    refine g_ic rfl ?_
    refine g_goto rfl ?_
    exact g_reti rfl (rfl) rfl
  · rw [if_neg hb]
    refine g_icT rfl (zcT1 ⟨by omega, by omega⟩ ⟨by omega, by omega⟩ (by decide)) ?_
    refine g_ic rfl ?_
    exact g_reti rfl (rfl) rfl
theorem m_isFree (h : m_Y M tr v wd hd ld nw W H L hs lot n kc) {c : Int} (hc : z_sm c) : z_C S (d + 2) 119 [.ref 62, .int (zI c)] M (some (.int (zI (if 0 ≤ c ∧ c < ((W * H : Nat) : Int) ∧ ¬ bt hs c.toNat = true then 1 else 0)))) M := by
  obtain ⟨⟨h1, h2, h3, h4, h5⟩, ⟨w1, w2, w3⟩, ⟨⟨hW1, hW2⟩, ⟨hH1, hH2⟩, ⟨hL1, hL2⟩, hn⟩, ⟨a1, a2, a3, a4⟩, hok⟩ := id h
  have hC := p_WH hW2 hH2
  have eC : (W : Int) * (H : Int) = ((W * H : Nat) : Int) := (Int.natCast_mul W H).symm
  refine c_of rfl rfl (Nat.le_of_ble_eq_true rfl) ?_
  refine g_al rfl rfl ?_
  refine g_il rfl rfl ?_
  refine g_cv1 rfl rfl h1 rfl (by decide) rfl (m_isCell h hc) ?_
  by_cases h0 : 0 ≤ c ∧ c < ((W * H : Nat) : Int)
  · rw [if_pos h0]
    refine g_ifF rfl (zcF0 ⟨by omega, by omega⟩ ⟨by omega, by omega⟩ (by decide)) ?_
    refine g_al rfl rfl ?_
    refine g_il rfl rfl ?_
    obtain ⟨q, rfl⟩ : ∃ q : Nat, c = (q : Int) := ⟨c.toNat, by omega⟩
    refine g_cv1 rfl rfl h1 rfl (by decide) rfl (m_isHouse h (c := q) (by omega)) ?_
    by_cases hb : bt hs q = true
    · rw [if_pos hb]
      refine g_ifT rfl (zcT1 ⟨by omega, by omega⟩ ⟨by omega, by omega⟩ (by decide)) ?_
      refine g_ic rfl ?_
      exact g_reti rfl (by rw [if_neg (fun g => g.2.2 (by rw [Int.toNat_natCast]; exact hb))]) rfl
    · rw [if_neg hb]
      refine g_ifF rfl (zcF1 (rfl)) ?_
      refine g_ic rfl ?_
      refine g_goto rfl ?_
      exact g_reti rfl (by rw [if_pos ⟨h0.1, h0.2, by rw [Int.toNat_natCast]; exact hb⟩]) rfl
  · rw [if_neg h0]
    refine g_ifT rfl (zcT0 (rfl)) ?_
    refine g_ic rfl ?_
    exact g_reti rfl (by rw [if_neg (fun g => h0 ⟨g.1, g.2.1⟩)]) rfl
theorem m_isChain (h : m_Y M tr v wd hd ld nw W H L hs lot n kc) {k : Int} (hk : z_sm k) : z_C S (d + 1) 120 [.ref 62, .int (zI k)] M (some (.int (zI (if 0 ≤ k ∧ k < (n : Int) then 1 else 0)))) M := by
  obtain ⟨⟨h1, h2, h3, h4, h5⟩, ⟨w1, w2, w3⟩, ⟨⟨hW1, hW2⟩, ⟨hH1, hH2⟩, ⟨hL1, hL2⟩, hn⟩, ⟨a1, a2, a3, a4⟩, hok⟩ := id h
  have hC := p_WH hW2 hH2
  have eC : (W : Int) * (H : Int) = ((W * H : Nat) : Int) := (Int.natCast_mul W H).symm
  refine c_of rfl rfl (Nat.le_of_ble_eq_true rfl) ?_
  refine g_il rfl rfl ?_
  refine g_ic rfl ?_
  refine g_al rfl rfl ?_
  refine g_gf rfl h1 rfl rfl ?_
  refine g_ic rfl ?_
  refine g_iaI rfl (by decide) h5 (by omega) (by omega) (by omega) ?_
  rw [show nw (Int.toNat 1) = zI (n : Int) from a2]
  refine g_ic rfl ?_
  refine g_subI rfl ?_
  refine g_cs3 rfl rfl rfl rfl (m_in hk ⟨by omega, by omega⟩ ⟨by omega, by omega⟩) ?_
  exact g_reti rfl (congrArg (fun x => some (Value.int (zI x))) (z_ifeq (by omega))) (by split <;> rfl)
theorem m_stepIn (h : m_Y M tr v wd hd ld nw W H L hs lot n kc) {k : Nat} (hk : k < n) {j : Nat} (hj : j < (kc k).2.1) : z_C S d 121 [.ref 62, .int (zI (k : Int)), .int (zI (j : Int))] M (some (.int (zI ((kc k).2.2 j)))) M := by
  obtain ⟨⟨h1, h2, h3, h4, h5⟩, ⟨w1, w2, w3⟩, ⟨⟨hW1, hW2⟩, ⟨hH1, hH2⟩, ⟨hL1, hL2⟩, hn⟩, ⟨a1, a2, a3, a4⟩, hok⟩ := id h
  have hC := p_WH hW2 hH2
  have eC : (W : Int) * (H : Int) = ((W * H : Nat) : Int) := (Int.natCast_mul W H).symm
  have hkk := hok k hk
  have hN := hkk.2.1
  refine c_of rfl rfl (Nat.le_of_ble_eq_true rfl) ?_
  refine g_al rfl rfl ?_
  refine g_gf rfl h1 rfl rfl ?_
  refine g_ic rfl ?_
  refine g_ic rfl ?_
  refine g_il rfl rfl ?_
  refine g_mulI rfl ?_
  refine g_addI rfl ?_
  refine g_il rfl rfl ?_
  refine g_addI rfl ?_
  refine g_iaI rfl (by decide) h5 (by omega) (by omega) (by omega) ?_
  rw [show (11 + 12 * (k : Int) + (j : Int)).toNat = 0 + 11 + 12 * k + j by omega, ((a4 k hk).2.2 j hj)]
  exact g_reti rfl (rfl) rfl
theorem m_steps (h : m_Y M tr v wd hd ld nw W H L hs lot n kc) {k : Nat} (hk : k < n) : z_C S d 122 [.ref 62, .int (zI (k : Int))] M (some (.int (zI ((kc k).2.1 : Int)))) M := by
  obtain ⟨⟨h1, h2, h3, h4, h5⟩, ⟨w1, w2, w3⟩, ⟨⟨hW1, hW2⟩, ⟨hH1, hH2⟩, ⟨hL1, hL2⟩, hn⟩, ⟨a1, a2, a3, a4⟩, hok⟩ := id h
  have hC := p_WH hW2 hH2
  have eC : (W : Int) * (H : Int) = ((W * H : Nat) : Int) := (Int.natCast_mul W H).symm
  have hkk := hok k hk
  refine c_of rfl rfl (Nat.le_of_ble_eq_true rfl) ?_
  refine g_al rfl rfl ?_
  refine g_gf rfl h1 rfl rfl ?_
  refine g_ic rfl ?_
  refine g_il rfl rfl ?_
  refine g_addI rfl ?_
  refine g_iaI rfl (by decide) h5 (by omega) (by omega) (by omega) ?_
  rw [show (7 + (k : Int)).toNat = 0 + 7 + k by omega, (a4 k hk).2.1]
  exact g_reti rfl (rfl) rfl
end MR
