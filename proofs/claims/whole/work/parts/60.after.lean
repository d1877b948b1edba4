/-! STATES: 13 for a cell: 0 at the beginning, then a direction and how long its run is. What is behind a step -/
def p_run3 (p s : Nat) : Nat := if 1 + 3 * s ≤ p % 13 ∧ p % 13 < 4 + 3 * s then p % 13 - 3 * s else 0
/-- as the class has it: no run longer than L -/
def p_aC (W H L : Nat) (hs : Int32) (p s : Nat) : Option Nat := match p_to W H hs (p / 13) (s : Int) with
  | some c => if L ≤ p_run3 p s then none else some (13 * c + 1 + 3 * s + p_run3 p s)
  | none => none
/-- as the reference has it -/
def p_aR (W H L : Nat) (hs : Int32) (p s : Nat) : Option Nat := match p_to W H hs (p / 13) (s : Int) with
  | some c => if p_run3 p s = L then none else some (13 * c + 1 + 3 * s + p_run3 p s)
  | none => none
/-- no run is longer than L -/
def p_val (L p : Nat) : Prop := p % 13 = 0 ∨ (p % 13 - 1) % 3 + 1 ≤ L
theorem p_run3_le {p s : Nat} : p_run3 p s ≤ 3 := by
  unfold p_run3
  split <;> omega
theorem p_run3_val {L p s : Nat} (h : p_val L p) : p_run3 p s ≤ L := by
  unfold p_val at h
  unfold p_run3
  split <;> omega
theorem p_a_eq {W H L : Nat} {hs : Int32} {p s : Nat} (h : p_val L p) : p_aR W H L hs p s = p_aC W H L hs p s := by
  have := p_run3_val (s := s) h
  unfold p_aR p_aC
  split
  · by_cases e : p_run3 p s = L
    · rw [if_pos e, if_pos (by omega)]
    · rw [if_neg e, if_neg (by omega)]
  · rfl
theorem p_aC_some {W H L : Nat} {hs : Int32} {p s q : Nat} (h : p_aC W H L hs p s = some q) : ∃ c, p_to W H hs (p / 13) (s : Int) = some c ∧ p_run3 p s < L ∧ q = 13 * c + 1 + 3 * s + p_run3 p s := by
  unfold p_aC at h
  split at h
  · rename_i c hc
    split at h
    · cases h
    · cases h
      exact ⟨c, hc, by omega, rfl⟩
  · cases h
theorem p_aC_val {W H L : Nat} {hs : Int32} {p s q : Nat} (hs4 : s < 4) (hL : L ≤ 3) (h : p_aC W H L hs p s = some q) : p_val L q := by
  obtain ⟨c, h1, h2, rfl⟩ := p_aC_some h
  unfold p_val
  generalize p_run3 p s = r at h2
  have e : (13 * c + 1 + 3 * s + r) % 13 = 1 + 3 * s + r := by omega
  rw [e]
  right
  omega
theorem p_aC_lt {W H L : Nat} {hs : Int32} {p s q : Nat} (hs4 : s < 4) (hL : L ≤ 3) (hp : p < 13 * (W * H)) (h : p_aC W H L hs p s = some q) : q < 13 * (W * H) := by
  obtain ⟨c, h1, h2, rfl⟩ := p_aC_some h
  have := p_to_lt (show p / 13 < W * H by omega) h1
  omega
theorem p_to_3 {W H c t : Nat} {hs : Int32} (h : p_to W H hs c 3 = some t) : t + 1 = c := by
  unfold p_to at h
  split at h
  · rename_i x hx
    split at h
    · cases h
    · cases h
      unfold p_off at hx
      rw [if_neg (by decide), if_neg (by decide), if_neg (by decide), if_pos rfl] at hx
      split at hx
      · rename_i g
        cases hx
        have : c % W ≤ c := Nat.mod_le c W
        omega
      · cases hx
  · cases h
theorem p_aR_lt {W H L : Nat} {hs : Int32} {p s q : Nat} (hs4 : s < 4) (hp : p < 13 * (W * H)) (h : p_aR W H L hs p s = some q) : q < 13 * (W * H) := by
  unfold p_aR at h
  split at h
  · rename_i c hc
    split at h
    · cases h
    · cases h
      have h1 := p_to_lt (show p / 13 < W * H by omega) hc
      have h2 := p_run3_le (p := p) (s := s)
      by_cases e : s = 3
      · subst e
        have := p_to_3 hc
        omega
      · omega
  · cases h
/-- the class's Walks has looked at the yard -/
def x_L (M : ZM) (W H L : Nat) (hs : Int32) : Prop := M[25]? = some (.inl (3, [.ref 26, .int (zI (L : Int)), .int (zI ((13 * (W * H) : Nat) : Int)), .ref 27, .ref 28, .ref 29, .ref 30, .ref 31, .ref 32])) ∧ ((1 ≤ W ∧ W ≤ 5) ∧ (1 ≤ H ∧ H ≤ 5) ∧ (1 ≤ L ∧ L ≤ 3)) ∧ ∃ nb : Nat → Int32, M[27]? = some (.inr (0, 100, .inl nb)) ∧ ∀ c s, c < W * H → s < 4 → nb (4 * c + s) = zI (oI (p_to W H hs c (s : Int)) (-1))
theorem x_L.ev {M M' : ZM} {P : Nat → Prop} {W H L : Nat} {hs : Int32} (e : z_ev M M' P) (h1 : ¬ P 25) (h2 : ¬ P 27) (h : x_L M W H L hs) : x_L M' W H L hs := by
  obtain ⟨g1, g2, nb, g3, g4⟩ := h
  exact ⟨(e.2 _ h1).trans g1, g2, nb, (e.2 _ h2).trans g3, g4⟩
theorem oI_neg {o : Option Nat} : oI o (-1) = -1 ↔ o = none := by
  cases o with
  | none => exact ⟨fun _ => rfl, fun _ => rfl⟩
  | some t => exact ⟨fun h => by have h : (t : Int) = -1 := h; omega, fun h => by cases h⟩
section AF
variable {S : ZS} {d : Nat} {M : ZM}
theorem c_startOn {c : Nat} (hc : c < 25) : z_C S d 56 [.int (zI (c : Int))] M (some (.int (zI ((13 * c : Nat) : Int)))) M := by
  refine c_of rfl rfl (Nat.le_of_ble_eq_true rfl) ?_
  refine g_il rfl rfl ?_
  refine g_ifF rfl (zcF2 ⟨by omega, by omega⟩ ⟨by omega, by omega⟩ (by omega)) ?_
  refine g_il rfl rfl ?_
  refine g_ic rfl ?_
  refine g_icF rfl (zcF3 ⟨by omega, by omega⟩ ⟨by omega, by omega⟩ (by omega)) ?_
  refine g_il rfl rfl ?_
  refine g_ic rfl ?_
  refine g_mulI rfl ?_
  refine g_goto rfl ?_
  exact g_reti rfl (by rw [show (c : Int) * 13 = ((13 * c : Nat) : Int) by omega]) rfl
theorem c_after {W H L : Nat} {hs : Int32} (h : x_L M W H L hs) {p s : Nat} (hp : p < 13 * (W * H)) (hs4 : s < 4) : z_C S (d + 1) 57 [.ref 25, .int (zI (p : Int)), .int (zI (s : Int))] M (some (.int (zI (oI (p_aC W H L hs p s) (-1))))) M := by
  obtain ⟨h1, ⟨⟨hW1, hW2⟩, ⟨hH1, hH2⟩, hL1, hL2⟩, nb, h3, h4⟩ := id h
  have hC := p_WH hW2 hH2
  refine c_of rfl rfl (Nat.le_of_ble_eq_true rfl) ?_
  refine g_il rfl rfl ?_
  refine g_ifF rfl (zcF2 ⟨by omega, by omega⟩ ⟨by omega, by omega⟩ (by omega)) ?_
  refine g_il rfl rfl ?_
  refine g_al rfl rfl ?_
  refine g_gf rfl h1 rfl rfl ?_
  refine g_icF rfl (zcF3 ⟨by omega, by omega⟩ ⟨by omega, by omega⟩ (by omega)) ?_
  refine g_il rfl rfl ?_
  refine g_ifF rfl (zcF2 ⟨by omega, by omega⟩ ⟨by omega, by omega⟩ (by omega)) ?_
  refine g_il rfl rfl ?_
  refine g_ic rfl ?_
  refine g_icT rfl (zcT2 ⟨by omega, by omega⟩ ⟨by omega, by omega⟩ (by omega)) ?_
  refine g_al rfl rfl ?_
  refine g_gf rfl h1 rfl rfl ?_
  refine g_il rfl rfl ?_
  refine g_ic rfl ?_
  refine g_divI rfl (⟨by omega, by omega⟩) (⟨by omega, by omega⟩) ?_
  refine g_ic rfl ?_
  refine g_mulI rfl ?_
  refine g_il rfl rfl ?_
  refine g_addI rfl ?_
  refine g_iaI rfl (by decide) h3 (by omega) (by omega) (by omega) ?_
  rw [show ((p : Int) / 13 * 4 + (s : Int)).toNat = 4 * (p / 13) + s by omega, h4 (p / 13) s (by omega) hs4]
  refine g_is3 rfl rfl ?_
  refine g_il rfl rfl ?_
  refine g_ic rfl ?_
  rcases ht : p_to W H hs (p / 13) (s : Int) with - | t
  · have e : p_aC W H L hs p s = none := by unfold p_aC; rw [ht]
    rw [e]
    refine g_icF rfl (zcF1 (rfl)) ?_
    refine g_ic rfl ?_
    exact g_reti rfl (rfl) rfl
  · have ht2 := p_to_lt (show p / 13 < W * H by omega) ht
    have er : p_run3 p s = if 1 + 3 * s ≤ p % 13 ∧ p % 13 < 4 + 3 * s then p % 13 - 3 * s else 0 := rfl
    rw [show oI (Option.some t) (-1) = (t : Int) from rfl]
    refine g_icT rfl (zcT1 ⟨by omega, by omega⟩ ⟨by omega, by omega⟩ (by omega)) ?_
    refine g_il rfl rfl ?_
    refine g_ic rfl ?_
    refine g_remI rfl (⟨by omega, by omega⟩) (⟨by omega, by omega⟩) ?_
    refine g_is4 rfl rfl ?_
    refine g_ic rfl ?_
    refine g_il rfl rfl ?_
    refine g_ic rfl ?_
    refine g_mulI rfl ?_
    refine g_addI rfl ?_
    refine g_is5 rfl rfl ?_
    refine g_il rfl rfl ?_
    refine g_il rfl rfl ?_
    by_cases ha : (p : Int) % 13 < 1 + (s : Int) * 3
    · have er2 : p_run3 p s = 0 := by rw [er, if_neg (by omega)]
      have e : p_aC W H L hs p s = Option.some (13 * t + 1 + 3 * s) := by
        unfold p_aC
        rw [ht]
        dsimp only
        rw [er2, if_neg (by omega)]
        rfl
      rw [e]
      refine g_icT rfl (zcT2 ⟨by omega, by omega⟩ ⟨by omega, by omega⟩ (ha)) ?_
      refine g_il rfl rfl ?_
      refine g_cs1 rfl rfl rfl rfl (c_startOn (c := t) (by omega)) ?_
      refine g_il rfl rfl ?_
      refine g_addI rfl ?_
      exact g_reti rfl (by rw [show ((13 * t : Nat) : Int) + (1 + (s : Int) * 3) = ((13 * t + 1 + 3 * s : Nat) : Int) by omega]; rfl) rfl
    · refine g_icF rfl (zcF2 ⟨by omega, by omega⟩ ⟨by omega, by omega⟩ (ha)) ?_
      refine g_il rfl rfl ?_
      refine g_il rfl rfl ?_
      refine g_ic rfl ?_
      refine g_addI rfl ?_
      by_cases hb : (p : Int) % 13 < 1 + (s : Int) * 3 + 3
      · have er2 : p_run3 p s = p % 13 - 3 * s := by rw [er, if_pos (by omega)]
        refine g_icT rfl (zcT2 ⟨by omega, by omega⟩ ⟨by omega, by omega⟩ (by omega)) ?_
        refine g_il rfl rfl ?_
        refine g_il rfl rfl ?_
        refine g_subI rfl ?_
        refine g_ic rfl ?_
        refine g_addI rfl ?_
        refine g_is6 rfl rfl ?_
        refine g_il rfl rfl ?_
        refine g_al rfl rfl ?_
        refine g_gf rfl h1 rfl rfl ?_
        by_cases hl : p % 13 - 3 * s < L
        · have e : p_aC W H L hs p s = Option.some (13 * t + 1 + p % 13) := by
            unfold p_aC
            rw [ht]
            dsimp only
            rw [er2, if_neg (by omega)]
            exact congrArg Option.some (by omega)
          rw [e]
          refine g_icF rfl (zcF3 ⟨by omega, by omega⟩ ⟨by omega, by omega⟩ (by omega)) ?_
          refine g_il rfl rfl ?_
          refine g_cs1 rfl rfl rfl rfl (c_startOn (c := t) (by omega)) ?_
          refine g_il rfl rfl ?_
          refine g_addI rfl ?_
          refine g_ic rfl ?_
          refine g_addI rfl ?_
          refine g_goto rfl ?_
          exact g_reti rfl (by rw [show ((13 * t : Nat) : Int) + (p : Int) % 13 + 1 = ((13 * t + 1 + p % 13 : Nat) : Int) by omega]; rfl) rfl
        · have e : p_aC W H L hs p s = Option.none := by
            unfold p_aC
            rw [ht]
            dsimp only
            rw [er2, if_pos (by omega)]
          rw [e]
          refine g_icT rfl (zcT3 ⟨by omega, by omega⟩ ⟨by omega, by omega⟩ (by omega)) ?_
          refine g_ic rfl ?_
          exact g_reti rfl (rfl) rfl
      · have er2 : p_run3 p s = 0 := by rw [er, if_neg (by omega)]
        have e : p_aC W H L hs p s = Option.some (13 * t + 1 + 3 * s) := by
          unfold p_aC
          rw [ht]
          dsimp only
          rw [er2, if_neg (by omega)]
          rfl
        rw [e]
        refine g_icF rfl (zcF2 ⟨by omega, by omega⟩ ⟨by omega, by omega⟩ (by omega)) ?_
        refine g_il rfl rfl ?_
        refine g_cs1 rfl rfl rfl rfl (c_startOn (c := t) (by omega)) ?_
        refine g_il rfl rfl ?_
        refine g_addI rfl ?_
        exact g_reti rfl (by rw [show ((13 * t : Nat) : Int) + (1 + (s : Int) * 3) = ((13 * t + 1 + 3 * s : Nat) : Int) by omega]; rfl) rfl
theorem m_after_t {tr : Int64} {v wd hd ld nw : Nat → Int32} {W H L n : Nat} {hs lot : Int32} {kc : Nat → ZK} (h : m_Y M tr v wd hd ld nw W H L hs lot n kc) {p s : Nat} (hp : p < 13 * (W * H)) (hs4 : s < 4) {x : Option Value} {b : Int} : z_G S (d + 2) 135 42 [some (.ref 62), some (.int (zI (p : Int))), some (.int (zI (s : Int))), some (.int (zI (oI (p_off W H (p / 13) (s : Int)) (-9)))), some (.int (zI b)), x] [.int (zI (p_run3 p s : Int))] M (some (.int (zI (oI (p_aR W H L hs p s) (-9))))) M := by
  obtain ⟨⟨h1, h2, h3, h4, h5⟩, ⟨w1, w2, w3⟩, ⟨⟨hW1, hW2⟩, ⟨hH1, hH2⟩, ⟨hL1, hL2⟩, hn⟩, ⟨a1, a2, a3, a4⟩, hok⟩ := id h
  have hC := p_WH hW2 hH2
  have hr3 := p_run3_le (p := p) (s := s)
  refine g_is5 rfl rfl ?_
  refine g_il rfl rfl ?_
  refine g_ic rfl ?_
  rcases ho : p_off W H (p / 13) (s : Int) with - | t
  · have e2 : p_to W H hs (p / 13) (s : Int) = Option.none := by unfold p_to; rw [ho]
    have e : p_aR W H L hs p s = Option.none := by unfold p_aR; rw [e2]
    rw [e]
    refine g_icT rfl (zcT0 (rfl)) ?_
    refine g_ic rfl ?_
    refine g_goto rfl ?_
    exact g_reti rfl (rfl) rfl
  · have ht2 := p_off_lt (show p / 13 < W * H by omega) ho
    rw [show oI (Option.some t) (-9) = (t : Int) from rfl]
    refine g_icF rfl (zcF0 ⟨by omega, by omega⟩ ⟨by omega, by omega⟩ (by omega)) ?_
    refine g_al rfl rfl ?_
    refine g_il rfl rfl ?_
    refine g_cv1 rfl rfl h1 rfl (by decide) rfl (m_isHouse h (c := t) (by omega)) ?_
    by_cases hb : bt hs t = true
    · have e2 : p_to W H hs (p / 13) (s : Int) = Option.none := by unfold p_to; rw [ho]; exact if_pos hb
      have e : p_aR W H L hs p s = Option.none := by unfold p_aR; rw [e2]
      rw [e, if_pos hb]
      refine g_ifT rfl (zcT1 ⟨by omega, by omega⟩ ⟨by omega, by omega⟩ (by decide)) ?_
      refine g_ic rfl ?_
      refine g_goto rfl ?_
      exact g_reti rfl (rfl) rfl
    · have e2 : p_to W H hs (p / 13) (s : Int) = Option.some t := by unfold p_to; rw [ho]; exact if_neg hb
      rw [if_neg hb]
      refine g_ifF rfl (zcF1 (rfl)) ?_
      refine g_il rfl rfl ?_
      refine g_al rfl rfl ?_
      refine g_gf rfl h1 rfl rfl ?_
      refine g_ic rfl ?_
      refine g_iaI rfl (by decide) h4 (by omega) (by omega) (by omega) ?_
      rw [show ld (Int.toNat 0) = zI (L : Int) from w3]
      by_cases hl : p_run3 p s = L
      · have e : p_aR W H L hs p s = Option.none := by unfold p_aR; rw [e2]; exact if_pos hl
        rw [e]
        refine g_icF rfl (zcF1 (by omega)) ?_
        refine g_ic rfl ?_
        refine g_goto rfl ?_
        exact g_reti rfl (rfl) rfl
      · have e : p_aR W H L hs p s = Option.some (13 * t + 1 + 3 * s + p_run3 p s) := by unfold p_aR; rw [e2]; exact if_neg hl
        rw [e]
        refine g_icT rfl (zcT1 ⟨by omega, by omega⟩ ⟨by omega, by omega⟩ (by omega)) ?_
        refine g_ic rfl ?_
        refine g_il rfl rfl ?_
        refine g_mulI rfl ?_
        refine g_ic rfl ?_
        refine g_addI rfl ?_
        refine g_ic rfl ?_
        refine g_il rfl rfl ?_
        refine g_mulI rfl ?_
        refine g_addI rfl ?_
        refine g_il rfl rfl ?_
        refine g_addI rfl ?_
        exact g_reti rfl (by rw [show 13 * (t : Int) + 1 + 3 * (s : Int) + (p_run3 p s : Int) = ((13 * t + 1 + 3 * s + p_run3 p s : Nat) : Int) by omega]; rfl) rfl
theorem m_after {tr : Int64} {v wd hd ld nw : Nat → Int32} {W H L n : Nat} {hs lot : Int32} {kc : Nat → ZK} (h : m_Y M tr v wd hd ld nw W H L hs lot n kc) {p s : Nat} (hp : p < 13 * (W * H)) (hs4 : s < 4) : z_C S (d + 2) 135 [.ref 62, .int (zI (p : Int)), .int (zI (s : Int))] M (some (.int (zI (oI (p_aR W H L hs p s) (-9))))) M := by
  obtain ⟨⟨h1, h2, h3, h4, h5⟩, ⟨w1, w2, w3⟩, ⟨⟨hW1, hW2⟩, ⟨hH1, hH2⟩, ⟨hL1, hL2⟩, hn⟩, ⟨a1, a2, a3, a4⟩, hok⟩ := id h
  have hC := p_WH hW2 hH2
  refine c_of rfl rfl (Nat.le_of_ble_eq_true rfl) ?_
  refine g_al rfl rfl ?_
  refine g_ic rfl ?_
  refine g_il rfl rfl ?_
  refine g_ic rfl ?_
  refine g_divI rfl (⟨by omega, by omega⟩) (⟨by omega, by omega⟩) ?_
  rw [show (p : Int) / 13 = ((p / 13 : Nat) : Int) by omega]
  refine g_il rfl rfl ?_
  refine g_cv3 rfl rfl h1 rfl (by decide) rfl (m_off ⟨h1, h2, h3, h4, h5⟩ hW1 hW2 hH1 hH2 (e := 0) (by decide) w1 w2 (c := p / 13) (by omega) (st := (s : Int)) ⟨by omega, by omega⟩) ?_
  refine g_is3 rfl rfl ?_
  refine g_il rfl rfl ?_
  refine g_ic rfl ?_
  refine g_remI rfl (⟨by omega, by omega⟩) (⟨by omega, by omega⟩) ?_
  refine g_ic rfl ?_
  refine g_subI rfl ?_
  refine g_is4 rfl rfl ?_
  refine g_il rfl rfl ?_
  by_cases ha : (p : Int) % 13 - 1 < 0
  · have er : p_run3 p s = 0 := by unfold p_run3; rw [if_neg (by omega)]
    refine g_ifT rfl (zcT2 ⟨by omega, by omega⟩ ⟨by omega, by omega⟩ (by omega)) ?_
    refine g_ic rfl ?_
    rw [show (0 : Int) = ((0 : Nat) : Int) from rfl, ← er]
    exact m_after_t h hp hs4
  · refine g_ifF rfl (zcF2 ⟨by omega, by omega⟩ ⟨by omega, by omega⟩ (by omega)) ?_
    refine g_il rfl rfl ?_
    refine g_ic rfl ?_
    refine g_divI rfl (⟨by omega, by omega⟩) (⟨by omega, by omega⟩) ?_
    refine g_il rfl rfl ?_
    by_cases hb : ((p : Int) % 13 - 1) / 3 = (s : Int)
    · have er : p_run3 p s = p % 13 - 3 * s := by unfold p_run3; rw [if_pos (by omega)]
      refine g_icF rfl (zcF1 (hb)) ?_
      refine g_il rfl rfl ?_
      refine g_ic rfl ?_
      refine g_remI rfl (⟨by omega, by omega⟩) (⟨by omega, by omega⟩) ?_
      refine g_ic rfl ?_
      refine g_addI rfl ?_
      refine g_goto rfl ?_
      rw [show ((p : Int) % 13 - 1) % 3 + 1 = ((p % 13 - 3 * s : Nat) : Int) by omega, ← er]
      exact m_after_t h hp hs4
    · have er : p_run3 p s = 0 := by unfold p_run3; rw [if_neg (by omega)]
      refine g_icT rfl (zcT1 ⟨by omega, by omega⟩ ⟨by omega, by omega⟩ (hb)) ?_
      refine g_ic rfl ?_
      rw [show (0 : Int) = ((0 : Nat) : Int) from rfl, ← er]
      exact m_after_t h hp hs4
theorem c_lookAt_i {W H L n : Nat} {hs lot : Int32} {Q : Option Value → ZM → Prop} {c : Nat} (hc : c < W * H) (hx : ∀ M1, (M1[25]? = some (.inl (3, [.ref 26, .int (zI (L : Int)), .int (zI ((13 * (W * H) : Nat) : Int)), .ref 27, .ref 28, .ref 29, .ref 30, .ref 31, .ref 32])) ∧ k_O M1 1 W H L hs n lot ∧ z_ev M M1 (fun k => k = 25 ∨ k = 27) ∧ ∃ nb : Nat → Int32, M1[27]? = some (.inr (0, 100, .inl nb)) ∧ ∀ c2 s2, c2 < W * H → s2 < 4 → 4 * c2 + s2 < (4 * (c + 1)) → nb (4 * c2 + s2) = zI (oI (p_to W H hs c2 (s2 : Int)) (-1))) → z_R S (d + 3) 55 33 [some (.ref 25), some (.ref 1), some (.int (zI ((W * H : Nat) : Int))), some (.int (zI ((c + 1 : Nat) : Int))), some (.int (zI 4))] [] M1 Q) : ∀ (m s : Nat) (M1 : ZM), s + m = 4 → (M1[25]? = some (.inl (3, [.ref 26, .int (zI (L : Int)), .int (zI ((13 * (W * H) : Nat) : Int)), .ref 27, .ref 28, .ref 29, .ref 30, .ref 31, .ref 32])) ∧ k_O M1 1 W H L hs n lot ∧ z_ev M M1 (fun k => k = 25 ∨ k = 27) ∧ ∃ nb : Nat → Int32, M1[27]? = some (.inr (0, 100, .inl nb)) ∧ ∀ c2 s2, c2 < W * H → s2 < 4 → 4 * c2 + s2 < (4 * c + s) → nb (4 * c2 + s2) = zI (oI (p_to W H hs c2 (s2 : Int)) (-1))) → z_R S (d + 3) 55 41 [some (.ref 25), some (.ref 1), some (.int (zI ((W * H : Nat) : Int))), some (.int (zI (c : Int))), some (.int (zI (s : Int)))] [] M1 Q := by
  intro m
  induction m with
  | zero =>
    intro s M1 hs9 hI
    obtain ⟨h1, hO, he, nb, h3, h4⟩ := hI
    obtain ⟨o1, ho⟩ := id hO
    obtain ⟨⟨hW1, hW2⟩, ⟨hH1, hH2⟩, ⟨hL1, hL2⟩, hn⟩ := id ho
    have hC := p_WH hW2 hH2
    refine r_il rfl rfl ?_
    refine r_ic rfl ?_
    refine r_icT rfl (zcT3 ⟨by omega, by omega⟩ ⟨by omega, by omega⟩ (by omega)) ?_
    refine r_jj3 rfl rfl ?_
    refine r_goto rfl ?_
    rw [show (s : Int) = 4 by omega]
    exact hx M1 ⟨h1, hO, he, nb, h3, fun c2 s2 g1 g2 g3 => h4 c2 s2 g1 g2 (by omega)⟩
  | succ m ih =>
    intro s M1 hs9 hI
    obtain ⟨h1, hO, he, nb, h3, h4⟩ := hI
    obtain ⟨o1, ho⟩ := id hO
    obtain ⟨⟨hW1, hW2⟩, ⟨hH1, hH2⟩, ⟨hL1, hL2⟩, hn⟩ := id ho
    have hC := p_WH hW2 hH2
    refine r_il rfl rfl ?_
    refine r_ic rfl ?_
    refine r_icF rfl (zcF3 ⟨by omega, by omega⟩ ⟨by omega, by omega⟩ (by omega)) ?_
    refine r_al rfl rfl ?_
    refine r_gf rfl h1 rfl rfl ?_
    refine r_il rfl rfl ?_
    refine r_ic rfl ?_
    refine r_mulI rfl ?_
    refine r_il rfl rfl ?_
    refine r_addI rfl ?_
    refine r_al rfl rfl ?_
    refine r_il rfl rfl ?_
    refine r_il rfl rfl ?_
    refine r_cv2 rfl rfl o1 rfl (by decide) rfl (c_beside hO hc (st := (s : Int)) ⟨by omega, by omega⟩) ?_
    refine r_iSI rfl h3 (by omega) (by omega) (by omega) ?_
    refine r_jj4 rfl rfl ?_
    refine r_goto rfl ?_
    refine ih (s + 1) _ (by omega) ⟨z_gn (by decide) h1, ⟨z_gn (by decide) o1, ho⟩, he.tr (.set (Or.inr rfl)), _, z_gs h3, fun c2 s2 g1 g2 g3 => ?_⟩
    rw [show ((c : Int) * 4 + (s : Int)).toNat = 4 * c + s by omega]
    by_cases e : 4 * c2 + s2 = 4 * c + s
    · obtain ⟨rfl, rfl⟩ : c2 = c ∧ s2 = s := by omega
      exact pk_us
    · rw [pk_un e]
      exact h4 c2 s2 g1 g2 (by omega)
theorem c_lookAt_l {W H L n : Nat} {hs lot : Int32} : ∀ (m c : Nat) (M1 : ZM) (x : Option Value), c + m = W * H → (M1[25]? = some (.inl (3, [.ref 26, .int (zI (L : Int)), .int (zI ((13 * (W * H) : Nat) : Int)), .ref 27, .ref 28, .ref 29, .ref 30, .ref 31, .ref 32])) ∧ k_O M1 1 W H L hs n lot ∧ z_ev M M1 (fun k => k = 25 ∨ k = 27) ∧ ∃ nb : Nat → Int32, M1[27]? = some (.inr (0, 100, .inl nb)) ∧ ∀ c2 s2, c2 < W * H → s2 < 4 → 4 * c2 + s2 < (4 * c) → nb (4 * c2 + s2) = zI (oI (p_to W H hs c2 (s2 : Int)) (-1))) → z_R S (d + 3) 55 33 [some (.ref 25), some (.ref 1), some (.int (zI ((W * H : Nat) : Int))), some (.int (zI (c : Int))), x] [] M1 (fun r M2 => r = none ∧ z_ev M M2 (fun k => k = 25 ∨ k = 27) ∧ x_L M2 W H L hs) := by
  intro m
  induction m with
  | zero =>
    intro c M1 x hc hI
    obtain ⟨h1, hO, he, nb, h3, h4⟩ := hI
    obtain ⟨o1, ho⟩ := id hO
    obtain ⟨⟨hW1, hW2⟩, ⟨hH1, hH2⟩, ⟨hL1, hL2⟩, hn⟩ := id ho
    have hC := p_WH hW2 hH2
    refine r_il rfl rfl ?_
    refine r_il rfl rfl ?_
    refine r_icT rfl (zcT3 ⟨by omega, by omega⟩ ⟨by omega, by omega⟩ (by omega)) ?_
    refine r_retv rfl rfl ?_
    exact ⟨rfl, he, h1, ⟨⟨hW1, hW2⟩, ⟨hH1, hH2⟩, hL1, hL2⟩, nb, h3, fun c2 s2 g1 g2 => h4 c2 s2 g1 g2 (by omega)⟩
  | succ m ih =>
    intro c M1 x hc hI
    obtain ⟨h1, hO, he, nb, h3, h4⟩ := hI
    obtain ⟨o1, ho⟩ := id hO
    obtain ⟨⟨hW1, hW2⟩, ⟨hH1, hH2⟩, ⟨hL1, hL2⟩, hn⟩ := id ho
    have hC := p_WH hW2 hH2
    refine r_il rfl rfl ?_
    refine r_il rfl rfl ?_
    refine r_icF rfl (zcF3 ⟨by omega, by omega⟩ ⟨by omega, by omega⟩ (by omega)) ?_
    refine r_ic rfl ?_
    refine r_is4 rfl rfl ?_
    exact c_lookAt_i (by omega) (fun M2 hI2 => ih (c + 1) M2 _ (by omega) hI2) 4 0 M1 (by omega) ⟨h1, hO, he, nb, h3, fun c2 s2 g1 g2 g3 => h4 c2 s2 g1 g2 (by omega)⟩
theorem c_lookAt {W H L n : Nat} {hs lot : Int32} (hO : k_O M 1 W H L hs n lot) (hW : x_W M) : ∃ M', z_C S (d + 3) 55 [.ref 25, .ref 1] M none M' ∧ z_ev M M' (fun k => k = 25 ∨ k = 27) ∧ x_L M' W H L hs := by
  obtain ⟨o1, ⟨hW1, hW2⟩, ⟨hH1, hH2⟩, ⟨hL1, hL2⟩, hn⟩ := id hO
  have hC := p_WH hW2 hH2
  obtain ⟨⟨i1, i2, w1⟩, -, ⟨f3, w3⟩, -⟩ := hW
  refine k_an ?_
  refine k_of rfl rfl (Nat.le_of_ble_eq_true rfl) ?_
  refine r_al rfl rfl ?_
  refine r_al rfl rfl ?_
  refine r_gf rfl o1 rfl rfl ?_
  refine r_pf1 rfl w1 rfl rfl rfl (Or.inl rfl) ?_
  refine r_al rfl rfl ?_
  refine r_gf rfl (z_gn (by decide) o1) rfl rfl ?_
  refine r_al rfl rfl ?_
  refine r_gf rfl (z_gn (by decide) o1) rfl rfl ?_
  refine r_mulI rfl ?_
  refine r_ic rfl ?_
  refine r_min rfl rfl ?_
  rw [(Int.natCast_mul W H).symm, if_neg (by rw [zI_lt ⟨by omega, by omega⟩ ⟨by omega, by omega⟩]; omega)]
  refine r_is2 rfl rfl ?_
  refine r_al rfl rfl ?_
  refine r_il rfl rfl ?_
  refine r_ic rfl ?_
  refine r_mulI rfl ?_
  rw [show ((W * H : Nat) : Int) * 13 = ((13 * (W * H) : Nat) : Int) by omega]
  refine r_pf2 rfl (z_gs w1) rfl rfl rfl (Or.inl rfl) ?_
  rw [List.set_set]
  refine r_ic rfl ?_
  refine r_is3 rfl rfl ?_
  exact c_lookAt_l (W * H) 0 _ none (by omega) ⟨z_gs w1, hO.ev (.set (P := fun k => k = 25) rfl) (by decide), .set (Or.inl rfl), _, z_gn (by decide) w3, fun c2 s2 g1 g2 g3 => by omega⟩
end AF
