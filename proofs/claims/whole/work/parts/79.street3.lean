/-! STREET: the reference's side, the call -/
theorem s_dF_le (f z : Nat) : s_dF f z ≤ f := by
  by_cases h : s_dF f z = 0
  · omega
  · have := (s_dF_iff f z (s_dF f z - 1)).mp (by omega)
    omega
theorem r_divB {S : ZS} {d y pc nx : Nat} {ls : ZL} {st : List Value} {M : ZM} {Q : Option Value → ZM → Prop} {a b : Int} (hc : z_code y pc = some (nx, .idiv)) (ha : 0 ≤ a ∧ a ≤ 2147483647) (hb : 0 < b ∧ b ≤ 1000000000) (k : z_R S d y nx ls (.int (zI (a / b)) :: st) M Q) : z_R S d y pc ls (.int (zI b) :: .int (zI a) :: st) M Q := by
  obtain ⟨r, M', k, hq⟩ := k
  refine ⟨r, M', g_idiv hc (zI_ne0 ⟨by omega, by omega⟩ (by omega)) ?_, hq⟩
  have h : Int32.ofInt (a.tdiv b) = Int32.ofInt a / Int32.ofInt b := Int32.ofInt_tdiv (by show (-2147483648 : Int) ≤ a; omega) (by show a ≤ 2147483647; omega) (by show (-2147483648 : Int) ≤ b; omega) (by show b ≤ 2147483647; omega)
  rw [Int.tdiv_eq_ediv_of_nonneg ha.1] at h
  rw [show zI a / zI b = zI (a / b) from h.symm]
  exact k
section SZ
variable {S : ZS} {d : Nat} {M : ZM} {T : Nat} {tx : Nat → Int32} {W H L n : Nat} {hs lot : Int32} {kc : Nat → ZK} {im : Nat → Option ZB} {tr : Int64}
set_option maxRecDepth 20000 in
theorem m_isS_a {v : Nat → Int32} {c z : Int} {Nf : Nat} {x4 x5 : Option Value} {Q : Option Value → ZM → Prop} (hx : ∀ (M1 : ZM) (x3 : Option Value), (z_ev M M1 (fun k => k = 62) ∧ ∃ v1, M1[62]? = some (.inl (6, m_f tr v1)) ∧ v1 24 = zI (Nf : Int) ∧ ∀ j, j ≠ 24 → v1 j = v j) → z_R S (d + 3) 155 29 [some (.ref 62), some (.int (zI c)), some (.int (zI z)), x3, x4, x5] [] M1 Q) : ∀ (f rest t : Nat) (M1 : ZM), rest < 10 ^ f → t + s_dF f rest = Nf → (t + f ≤ 20 ∧ rest ≤ 2147483647) → (z_ev M M1 (fun k => k = 62) ∧ ∃ v1, M1[62]? = some (.inl (6, m_f tr v1)) ∧ v1 24 = zI (t : Int) ∧ ∀ j, j ≠ 24 → v1 j = v j) → z_R S (d + 3) 155 7 [some (.ref 62), some (.int (zI c)), some (.int (zI z)), some (.int (zI (rest : Int))), x4, x5] [] M1 Q := by
  intro f
  induction f with
  | zero =>
    intro rest t M1 hr hN hb9 hI
    obtain ⟨he, v1, g62, hv, hvr⟩ := hI
    obtain rfl : rest = 0 := by have : (10 : Nat) ^ 0 = 1 := rfl; omega
    refine r_il rfl rfl ?_
    refine r_ifT rfl (zcT5 ⟨by omega, by omega⟩ ⟨by omega, by omega⟩ (by decide)) ?_
    exact hx M1 _ ⟨he, v1, g62, by rw [hv]; exact congrArg (fun x : Nat => zI (x : Int)) hN, hvr⟩
  | succ f ih =>
    intro rest t M1 hr hN hb9 hI
    obtain ⟨he, v1, g62, hv, hvr⟩ := hI
    by_cases hr0 : rest = 0
    · subst hr0
      refine r_il rfl rfl ?_
      refine r_ifT rfl (zcT5 ⟨by omega, by omega⟩ ⟨by omega, by omega⟩ (by decide)) ?_
      have e0 : s_dF (f + 1) 0 = 0 := if_pos rfl
      exact hx M1 _ ⟨he, v1, g62, by rw [hv]; exact congrArg (fun x : Nat => zI (x : Int)) (by omega), hvr⟩
    · refine r_il rfl rfl ?_
      refine r_ifF rfl (zcF5 ⟨by omega, by omega⟩ ⟨by omega, by omega⟩ (by omega)) ?_
      refine r_al rfl rfl ?_
      refine r_dupA rfl ?_
      refine r_gf rfl g62 rfl rfl ?_
      rw [hv]
      refine r_ic rfl ?_
      refine r_addI rfl ?_
      refine r_pf24 rfl g62 rfl rfl rfl (Or.inl rfl) ?_
      refine r_il rfl rfl ?_
      refine r_ic rfl ?_
      refine r_divB rfl (⟨by omega, by omega⟩) (⟨by omega, by omega⟩) ?_
      rw [show (rest : Int) / 10 = ((rest / 10 : Nat) : Int) by omega]
      refine r_is3 rfl rfl ?_
      refine r_goto rfl ?_
      have e0 : s_dF (f + 1) rest = s_dF f (rest / 10) + 1 := if_neg hr0
      refine ih (rest / 10) (t + 1) _ (by rw [Nat.pow_succ] at hr; omega) (by omega) ⟨by omega, by omega⟩ ⟨he.tr (.set rfl), upd v1 24 (zI ((t + 1 : Nat) : Int)), z_gs g62, pk_us, fun j hj => ?_⟩
      rw [pk_un hj]
      exact hvr j hj
theorem m_isS_c {v wd hd ld nw : Nat → Int32} {g : Nat → Int32} {s : Nat → Int} {N q0 : Nat} (h : m_Y M tr v wd hd ld nw W H L hs lot n kc) (hv : v 24 = zI (N : Int)) (h77 : M[77]? = some (zA 12 g)) (hN : N ≤ 12) (hg : ∀ j, j < N → g j = zI (s j)) (hs9 : ∀ j, j < N → -1 ≤ s j ∧ s j ≤ 8) (hq0 : q0 < W * H) {c z u3 : Int} : ∀ (m i q : Nat), i + m = N → p_pos W H hs q0 s i = some q → z_G S (d + 3) 155 97 [some (.ref 62), some (.int (zI c)), some (.int (zI z)), some (.int (zI u3)), some (.int (zI (q : Int))), some (.int (zI (i : Int)))] [] M (some (.int (zI (if (p_pos W H hs q0 s N).isSome = true then 1 else 0)))) M := by
  obtain ⟨⟨h1, h2, h3, h4, h5⟩, ⟨w1, w2, w3⟩, ⟨⟨hW1, hW2⟩, ⟨hH1, hH2⟩, ⟨hL1, hL2⟩, hn⟩, ⟨a1, a2, a3, a4⟩, hok⟩ := id h
  have hC := p_WH hW2 hH2
  intro m
  induction m with
  | zero =>
    intro i q hi hq
    refine g_il rfl rfl ?_
    refine g_al rfl rfl ?_
    refine g_gf rfl h1 rfl rfl ?_
    rw [hv]
    refine g_icT rfl (zcT3 ⟨by omega, by omega⟩ ⟨by omega, by omega⟩ (by omega)) ?_
    refine g_ic rfl ?_
    exact g_reti rfl (by rw [show N = i by omega, hq]; rfl) rfl
  | succ m ih =>
    intro i q hi hq
    have b1 := hs9 i (by omega)
    have lq := p_pos_lt hq0 i q hq
    have ep : p_pos W H hs q0 s (i + 1) = p_to W H hs q (s i) := by
      show (match p_pos W H hs q0 s i with | some c => p_to W H hs c (s i) | none => none) = _
      rw [hq]
    refine g_il rfl rfl ?_
    refine g_al rfl rfl ?_
    refine g_gf rfl h1 rfl rfl ?_
    rw [hv]
    refine g_icF rfl (zcF3 ⟨by omega, by omega⟩ ⟨by omega, by omega⟩ (by omega)) ?_
    refine g_al rfl rfl ?_
    refine g_gf rfl h1 rfl rfl ?_
    refine g_il rfl rfl ?_
    refine g_iaI rfl (by decide) h77 (by omega) (by omega) (by omega) ?_
    rw [Int.toNat_natCast, hg _ (by omega)]
    refine g_ic rfl ?_
    refine g_ic rfl ?_
    refine g_cs3 rfl rfl rfl rfl (m_in (x := s i) ⟨by omega, by omega⟩ ⟨by omega, by omega⟩ ⟨by omega, by omega⟩) ?_
    by_cases hin : 0 ≤ s i ∧ s i ≤ 3
    · rw [if_pos hin]
      refine g_ifF rfl (zcF0 ⟨by omega, by omega⟩ ⟨by omega, by omega⟩ (by decide)) ?_
      refine g_al rfl rfl ?_
      refine g_ic rfl ?_
      refine g_il rfl rfl ?_
      refine g_al rfl rfl ?_
      refine g_gf rfl h1 rfl rfl ?_
      refine g_il rfl rfl ?_
      refine g_iaI rfl (by decide) h77 (by omega) (by omega) (by omega) ?_
      rw [Int.toNat_natCast, hg _ (by omega)]
      refine g_cv3 rfl rfl h1 rfl (by decide) rfl (m_off ⟨h1, h2, h3, h4, h5⟩ hW1 hW2 hH1 hH2 (e := 0) (by decide) w1 w2 (c := q) lq (st := s i) hin) ?_
      rcases ho : p_off W H q (s i) with - | t
      · have et : p_to W H hs q (s i) = none := by unfold p_to; rw [ho]
        have e9 := p_pos_none (ep.trans et) m
        rw [show i + 1 + m = N by omega] at e9
        refine g_goto rfl ?_
        refine g_is4 rfl rfl ?_
        refine g_il rfl rfl ?_
        refine g_ic rfl ?_
        rw [show oI none (-9) = -9 from rfl]
        refine g_icT rfl (zcT0 (rfl)) ?_
        refine g_ic rfl ?_
        exact g_reti rfl (by rw [e9]; rfl) rfl
      · have lt := p_off_lt lq ho
        rw [show oI (some t) (-9) = (t : Int) from rfl]
        refine g_goto rfl ?_
        refine g_is4 rfl rfl ?_
        refine g_il rfl rfl ?_
        refine g_ic rfl ?_
        refine g_icF rfl (zcF0 ⟨by omega, by omega⟩ ⟨by omega, by omega⟩ (by omega)) ?_
        refine g_al rfl rfl ?_
        refine g_il rfl rfl ?_
        refine g_cv1 rfl rfl h1 rfl (by decide) rfl (m_isHouse h (c := t) (by omega)) ?_
        by_cases hb : bt hs t = true
        · have et : p_to W H hs q (s i) = none := by unfold p_to; rw [ho]; exact if_pos hb
          have e9 := p_pos_none (ep.trans et) m
          rw [show i + 1 + m = N by omega] at e9
          rw [if_pos hb]
          refine g_ifF rfl (zcF0 ⟨by omega, by omega⟩ ⟨by omega, by omega⟩ (by decide)) ?_
          refine g_ic rfl ?_
          exact g_reti rfl (by rw [e9]; rfl) rfl
        · have et : p_to W H hs q (s i) = some t := by unfold p_to; rw [ho]; exact if_neg hb
          rw [if_neg hb]
          refine g_ifT rfl (zcT0 (rfl)) ?_
          refine g_jj5 rfl rfl ?_
          refine g_goto rfl ?_
          exact ih (i + 1) t (by omega) (ep.trans et)
    · rw [if_neg hin]
      have et : p_to W H hs q (s i) = none := by
        cases e : p_to W H hs q (s i) with
        | none => rfl
        | some t => exact absurd (p_to_dir e) hin
      have e9 := p_pos_none (ep.trans et) m
      rw [show i + 1 + m = N by omega] at e9
      refine g_ifT rfl (zcT0 (rfl)) ?_
      refine g_ic rfl ?_
      refine g_is4 rfl rfl ?_
      refine g_il rfl rfl ?_
      refine g_ic rfl ?_
      refine g_icT rfl (zcT0 (rfl)) ?_
      refine g_ic rfl ?_
      exact g_reti rfl (by rw [e9]; rfl) rfl
set_option maxRecDepth 20000 in
theorem m_isS_b {v : Nat → Int32} (h1 : M[62]? = some (.inl (6, m_f tr v))) {c : Int} {z : Nat} (hz : z ≤ 999999999) (hN : s_dl z ≤ 9) {x5 : Option Value} {Q : Option Value → ZM → Prop} (hx : ∀ (M1 : ZM) (u3 : Int) (x4 : Option Value), (z_ev M M1 (fun k => k = 77) ∧ ∃ g, M1[77]? = some (zA 12 g) ∧ ∀ i, 0 ≤ i → i < s_dl z → g i = zI (s_st z i)) → z_R S (d + 3) 155 91 [some (.ref 62), some (.int (zI c)), some (.int (zI (z : Int))), some (.int (zI u3)), x4, x5] [] M1 Q) : ∀ (j : Nat) (M1 : ZM), j ≤ s_dl z → (z_ev M M1 (fun k => k = 77) ∧ ∃ g, M1[77]? = some (zA 12 g) ∧ ∀ i, j ≤ i → i < s_dl z → g i = zI (s_st z i)) → z_R S (d + 3) 155 62 [some (.ref 62), some (.int (zI c)), some (.int (zI (z : Int))), some (.int (zI ((z / 10 ^ (s_dl z - j) : Nat) : Int))), some (.int (zI ((j : Int) - 1))), x5] [] M1 Q := by
  intro j
  induction j with
  | zero =>
    intro M1 hj hI
    obtain ⟨he, g, h77, hg⟩ := hI
    refine r_il rfl rfl ?_
    refine r_ifT rfl (zcT2 ⟨by omega, by omega⟩ ⟨by omega, by omega⟩ (by omega)) ?_
    exact hx M1 _ _ ⟨he, g, h77, hg⟩
  | succ j ih =>
    intro M1 hj hI
    obtain ⟨he, g, h77, hg⟩ := hI
    have hle := Nat.div_le_self z (10 ^ (s_dl z - (j + 1)))
    have hsj : s_st z j = ((z / 10 ^ (s_dl z - (j + 1)) % 10 : Nat) : Int) - 1 := by
      unfold s_st
      rw [show s_dl z - 1 - j = s_dl z - (j + 1) by omega]
    have hdv : z / 10 ^ (s_dl z - (j + 1)) / 10 = z / 10 ^ (s_dl z - j) := by
      rw [Nat.div_div_eq_div_mul, ← Nat.pow_succ, show (s_dl z - (j + 1)).succ = s_dl z - j by omega]
    generalize hR : z / 10 ^ (s_dl z - (j + 1)) = R at hle hsj hdv ⊢
    refine r_il rfl rfl ?_
    refine r_ifF rfl (zcF2 ⟨by omega, by omega⟩ ⟨by omega, by omega⟩ (by omega)) ?_
    refine r_al rfl rfl ?_
    refine r_gf rfl ((he.2 62 (by decide)).trans h1) rfl rfl ?_
    refine r_il rfl rfl ?_
    refine r_il rfl rfl ?_
    refine r_ic rfl ?_
    refine r_remI rfl (⟨by omega, by omega⟩) (⟨by omega, by omega⟩) ?_
    refine r_ic rfl ?_
    refine r_subI rfl ?_
    rw [show (R : Int) % 10 - 1 = s_st z j by rw [hsj]; omega]
    refine r_iSI rfl h77 (by omega) (by omega) (by omega) ?_
    refine r_il rfl rfl ?_
    refine r_ic rfl ?_
    refine r_divI rfl (⟨by omega, by omega⟩) (⟨by omega, by omega⟩) ?_
    rw [show (R : Int) / 10 = ((z / 10 ^ (s_dl z - j) : Nat) : Int) by rw [← hdv]; omega]
    refine r_is3 rfl rfl ?_
    refine r_jj4 rfl rfl ?_
    refine r_goto rfl ?_
    rw [show ((j + 1 : Nat) : Int) - 1 + -1 = (j : Int) - 1 by omega]
    refine ih _ (by omega) ⟨he.tr (.set rfl), _, z_gs h77, fun i hi1 hi2 => ?_⟩
    rw [show (((j + 1 : Nat) : Int) - 1).toNat = j by omega]
    by_cases e : i = j
    · subst e
      exact pk_us
    · rw [pk_un e]
      exact hg i (by omega) hi2
set_option maxRecDepth 20000 in
theorem m_isS_d {v wd hd ld nw : Nat → Int32} (h : m_Y M tr v wd hd ld nw W H L hs lot n kc) {g0 : Nat → Int32} (h770 : M[77]? = some (zA 12 g0)) {c z : Int} (hc : z_sm c) (hz : z_sm z) {Nf : Nat} (hNf : (z ≤ 0 ∧ Nf = 0) ∨ (0 < z ∧ Nf = s_dl z.toNat)) (M1 : ZM) (x3 x4 x5 : Option Value) (hI : (z_ev M M1 (fun k => k = 62) ∧ ∃ v1, M1[62]? = some (.inl (6, m_f tr v1)) ∧ v1 24 = zI (Nf : Int) ∧ ∀ j, j ≠ 24 → v1 j = v j)) : z_R S (d + 3) 155 29 [some (.ref 62), some (.int (zI c)), some (.int (zI z)), x3, x4, x5] [] M1 (fun r M' => r = some (.int (zI (if p_isS W H hs c z then 1 else 0))) ∧ z_ev M M' (fun k => k = 62 ∨ k = 77) ∧ ∃ v' g, M'[62]? = some (.inl (6, m_f tr v')) ∧ (∀ j, j ≠ 24 → v' j = v j) ∧ M'[77]? = some (zA 12 g) ∧ (p_isS W H hs c z → v' 24 = zI (s_dl z.toNat : Int) ∧ ∀ j, j < s_dl z.toNat → g j = zI (s_st z.toNat j))) := by
  obtain ⟨⟨h1, h2, h3, h4, h5⟩, ⟨w1, w2, w3⟩, ⟨⟨hW1, hW2⟩, ⟨hH1, hH2⟩, ⟨hL1, hL2⟩, hn⟩, ⟨a1, a2, a3, a4⟩, hok⟩ := id h
  have hC := p_WH hW2 hH2
  obtain ⟨he, v1, g62, hv, hvr⟩ := hI
  have hM := h.v he (fun k x1 x2 => by omega) g62
  have h77 := (he.2 77 (by decide)).trans h770
  have hNf9 : Nf ≤ 10 := by
    rcases hNf with ⟨-, rfl⟩ | ⟨-, rfl⟩
    · omega
    · exact s_dF_le 10 _
  refine r_al rfl rfl ?_
  refine r_il rfl rfl ?_
  refine r_cv1 rfl rfl g62 rfl (by decide) rfl (m_isFree hM hc) ?_
  by_cases hf : 0 ≤ c ∧ c < ((W * H : Nat) : Int) ∧ ¬ bt hs c.toNat = true
  · rw [if_pos hf]
    refine r_ifF rfl (zcF0 ⟨by omega, by omega⟩ ⟨by omega, by omega⟩ (by decide)) ?_
    refine r_al rfl rfl ?_
    refine r_gf rfl g62 rfl rfl ?_
    rw [hv]
    refine r_ic rfl ?_
    refine r_ic rfl ?_
    refine r_cs3 rfl rfl rfl rfl (m_in (x := (Nf : Int)) ⟨by omega, by omega⟩ ⟨by omega, by omega⟩ ⟨by omega, by omega⟩) ?_
    by_cases h9 : 1 ≤ (Nf : Int) ∧ (Nf : Int) ≤ 9
    · rw [if_pos h9]
      obtain ⟨hz0, rfl⟩ : 0 < z ∧ Nf = s_dl z.toNat := by
        rcases hNf with ⟨hz0, hz1⟩ | h
        · omega
        · exact h
      obtain ⟨q, rfl⟩ : ∃ q : Nat, c = (q : Int) := ⟨c.toNat, by omega⟩
      obtain ⟨z', rfl⟩ : ∃ q : Nat, z = (q : Int) := ⟨z.toNat, by omega⟩
      have hf9 : p_fr2 W H hs (q : Int) := hf
      rw [Int.toNat_natCast] at h9 hv hf
      have hz2 : z' ≤ 999999999 := s_dl_9.mp (by omega)
      have hS : p_isS W H hs (q : Int) (z' : Int) ↔ (p_pos W H hs q (s_st z') (s_dl z')).isSome = true := by
        unfold p_isS
        rw [Int.toNat_natCast, Int.toNat_natCast]
        exact ⟨fun g => g.2.2, fun g => ⟨hf9, ⟨by omega, by omega⟩, g⟩⟩
      refine r_ifT rfl (zcT1 ⟨by omega, by omega⟩ ⟨by omega, by omega⟩ (by decide)) ?_
      refine r_il rfl rfl ?_
      refine r_is3 rfl rfl ?_
      refine r_al rfl rfl ?_
      refine r_gf rfl g62 rfl rfl ?_
      rw [hv]
      refine r_ic rfl ?_
      refine r_subI rfl ?_
      refine r_is4 rfl rfl ?_
      have t := m_isS_b (S := S) (d := d) (M := M1) (v := v1) g62 (c := (q : Int)) (z := z') hz2 (by omega) (x5 := x5) (Q := fun r M' => r = some (.int (zI (if p_isS W H hs (q : Int) (z' : Int) then 1 else 0))) ∧ z_ev M M' (fun k => k = 62 ∨ k = 77) ∧ ∃ v' g, M'[62]? = some (.inl (6, m_f tr v')) ∧ (∀ j, j ≠ 24 → v' j = v j) ∧ M'[77]? = some (zA 12 g) ∧ (p_isS W H hs (q : Int) (z' : Int) → v' 24 = zI (s_dl (z' : Int).toNat : Int) ∧ ∀ j, j < s_dl (z' : Int).toNat → g j = zI (s_st (z' : Int).toNat j))) (fun M2 y3 y4 hI2 => ?_) (s_dl z') M1 (Nat.le_refl _) ⟨.rf, g0, h77, fun i h1 h2 => by omega⟩
      · rw [Nat.sub_self, Nat.pow_zero, Nat.div_one] at t
        exact t
      · obtain ⟨he2, g, h77b, hg⟩ := hI2
        have g62b := (he2.2 62 (by decide)).trans g62
        have hM2 := hM.v he2 (fun k x1 x2 => by omega) g62b
        have hg : ∀ i, i < s_dl z' → g i = zI (s_st z' i) := fun i hi => hg i (Nat.zero_le _) hi
        refine r_il rfl rfl ?_
        refine r_is4 rfl rfl ?_
        refine r_ic rfl ?_
        refine r_is5 rfl rfl ?_
        refine ⟨_, _, m_isS_c hM2 (by rw [hv]) h77b (by omega) hg (fun j _ => s_st_in) (q0 := q) (by omega) (s_dl z') 0 q (by omega) rfl, ?_, (he.wk (fun k g => Or.inl g)).tr (he2.wk (fun k g => Or.inr g)), v1, g, g62b, hvr, h77b, fun _ => ?_⟩
        · exact congrArg (fun x => some (Value.int (zI x))) (z_ifeq hS.symm)
        · rw [Int.toNat_natCast]
          exact ⟨hv, hg⟩
    · rw [if_neg h9]
      have hS : ¬ p_isS W H hs c z := fun g => by
        rcases hNf with ⟨hz0, -⟩ | ⟨hz0, rfl⟩
        · have := g.2.1; omega
        · have g1 := s_dl_1 (z := z.toNat) (by have := g.2.1; omega)
          have g2 := s_dl_9 (z := z.toNat) |>.mpr (by have := g.2.1; omega)
          omega
      refine r_ifF rfl (zcF1 (rfl)) ?_
      refine r_ic rfl ?_
      refine r_reti rfl rfl ?_
      exact ⟨by rw [if_neg hS], he.wk (fun k g => Or.inl g), v1, g0, g62, hvr, h77, fun g => absurd g hS⟩
  · rw [if_neg hf]
    have hS : ¬ p_isS W H hs c z := fun g => hf g.1
    refine r_ifT rfl (zcT0 (rfl)) ?_
    refine r_ic rfl ?_
    refine r_reti rfl rfl ?_
    exact ⟨by rw [if_neg hS], he.wk (fun k g => Or.inl g), v1, g0, g62, hvr, h77, fun g => absurd g hS⟩
set_option maxRecDepth 20000 in
theorem m_isStreet {v wd hd ld nw : Nat → Int32} (h : m_Y M tr v wd hd ld nw W H L hs lot n kc) {g0 : Nat → Int32} (h770 : M[77]? = some (zA 12 g0)) {c z : Int} (hc : z_sm c) (hz : z_sm z) : ∃ r M', z_C S (d + 3) 155 [.ref 62, .int (zI c), .int (zI z)] M r M' ∧ r = some (.int (zI (if p_isS W H hs c z then 1 else 0))) ∧ z_ev M M' (fun k => k = 62 ∨ k = 77) ∧ ∃ v' g, M'[62]? = some (.inl (6, m_f tr v')) ∧ (∀ j, j ≠ 24 → v' j = v j) ∧ M'[77]? = some (zA 12 g) ∧ (p_isS W H hs c z → v' 24 = zI (s_dl z.toNat : Int) ∧ ∀ j, j < s_dl z.toNat → g j = zI (s_st z.toNat j)) := by
  obtain ⟨⟨h1, h2, h3, h4, h5⟩, ⟨w1, w2, w3⟩, ⟨⟨hW1, hW2⟩, ⟨hH1, hH2⟩, ⟨hL1, hL2⟩, hn⟩, ⟨a1, a2, a3, a4⟩, hok⟩ := id h
  have hC := p_WH hW2 hH2
  refine k_of rfl rfl (Nat.le_of_ble_eq_true rfl) ?_
  refine r_il rfl rfl ?_
  refine r_is3 rfl rfl ?_
  refine r_al rfl rfl ?_
  refine r_ic rfl ?_
  refine r_pf24 rfl h1 rfl rfl rfl (Or.inl rfl) ?_
  by_cases h0 : z ≤ 0
  · refine r_il rfl rfl ?_
    refine r_ifT rfl (zcT5 ⟨by omega, by omega⟩ ⟨by omega, by omega⟩ (by omega)) ?_
    exact m_isS_d h h770 hc hz (Nf := 0) (Or.inl ⟨by omega, rfl⟩) _ _ _ _ ⟨.set rfl, upd v 24 (zI 0), z_gs h1, pk_us, fun j hj => pk_un hj⟩
  · obtain ⟨z', rfl⟩ : ∃ q : Nat, z = (q : Int) := ⟨z.toNat, by omega⟩
    exact m_isS_a (v := v) (Nf := s_dl z') (fun M1 y3 hI => m_isS_d h h770 hc hz (Or.inr ⟨by omega, by rw [Int.toNat_natCast]⟩) M1 y3 _ _ hI) 10 z' 0 _ (by rw [show (10 : Nat) ^ 10 = 10000000000 from rfl]; omega) (Nat.zero_add _) ⟨by omega, by omega⟩ ⟨.set rfl, upd v 24 (zI 0), z_gs h1, pk_us, fun j hj => pk_un hj⟩
theorem m_str_l {v nw g : Nat → Int32} {s : Nat → Int} {N q0 : Nat} (h1 : M[62]? = some (.inl (6, m_f tr v))) (h77 : M[77]? = some (zA 12 g)) (hv : v 24 = zI (N : Int)) (hN : N ≤ 12) (hg : ∀ j, j < N → g j = zI (s j)) (h5 : M[67]? = some (zA 236 nw)) (hn4 : n < 4) (a2 : nw 1 = zI (n : Int)) {z : Int} : ∀ (m i : Nat) (nw1 : Nat → Int32), i + m = N → ((∀ j, j ≠ 3 + n → j ≠ 7 + n → ¬ (11 + 12 * n ≤ j ∧ j < 11 + 12 * n + 12) → nw1 j = nw j) ∧ nw1 (3 + n) = zI (q0 : Int) ∧ nw1 (7 + n) = zI (N : Int) ∧ ∀ j, j < i → nw1 (11 + 12 * n + j) = zI (s j)) → z_R S (d + 1) 158 67 [some (.ref 62), some (.int (zI (q0 : Int))), some (.int (zI z)), some (.int (zI (n : Int))), some (.int (zI (i : Int)))] [] (M.set 67 (zA 236 nw1)) (fun r M2 => r = some (.int (zI ((n + 1 : Nat) : Int))) ∧ ∃ nw1, M2 = M.set 67 (zA 236 (upd nw1 1 (zI ((n + 1 : Nat) : Int)))) ∧ (∀ j, j ≠ 3 + n → j ≠ 7 + n → ¬ (11 + 12 * n ≤ j ∧ j < 11 + 12 * n + 12) → nw1 j = nw j) ∧ nw1 (3 + n) = zI (q0 : Int) ∧ nw1 (7 + n) = zI (N : Int) ∧ ∀ j, j < N → nw1 (11 + 12 * n + j) = zI (s j)) := by
  intro m
  induction m with
  | zero =>
    intro i nw1 hi hr
    have b1 : nw1 1 = zI (n : Int) := by rw [hr.1 1 (by omega) (by omega) (by omega)]; exact a2
    refine r_il rfl rfl ?_
    refine r_al rfl rfl ?_
    refine r_gf rfl (z_gn (by decide) h1) rfl rfl ?_
    rw [hv]
    refine r_icT rfl (zcT3 ⟨by omega, by omega⟩ ⟨by omega, by omega⟩ (by omega)) ?_
    refine r_al rfl rfl ?_
    refine r_gf rfl (z_gn (by decide) h1) rfl rfl ?_
    refine r_ic rfl ?_
    refine r_dup2 rfl ?_
    refine r_iaI rfl (by decide) (z_gs h5) (by omega) (by omega) (by omega) ?_
    rw [show (1 : Int).toNat = 1 from rfl, b1]
    refine r_ic rfl ?_
    refine r_addI rfl ?_
    refine r_iSI rfl (z_gs h5) (by omega) (by omega) (by omega) ?_
    rw [List.set_set]
    refine r_al rfl rfl ?_
    refine r_gf rfl (z_gn (by decide) h1) rfl rfl ?_
    refine r_ic rfl ?_
    refine r_iaI rfl (by decide) (z_gs h5) (by omega) (by omega) (by omega) ?_
    rw [show (1 : Int).toNat = 1 from rfl, pk_us]
    refine r_reti rfl rfl ?_
    obtain rfl : i = N := by omega
    exact ⟨rfl, nw1, rfl, hr⟩
  | succ m ih =>
    intro i nw1 hi hr
    refine r_il rfl rfl ?_
    refine r_al rfl rfl ?_
    refine r_gf rfl (z_gn (by decide) h1) rfl rfl ?_
    rw [hv]
    refine r_icF rfl (zcF3 ⟨by omega, by omega⟩ ⟨by omega, by omega⟩ (by omega)) ?_
    refine r_al rfl rfl ?_
    refine r_gf rfl (z_gn (by decide) h1) rfl rfl ?_
    refine r_ic rfl ?_
    refine r_ic rfl ?_
    refine r_il rfl rfl ?_
    refine r_mulI rfl ?_
    refine r_addI rfl ?_
    refine r_il rfl rfl ?_
    refine r_addI rfl ?_
    refine r_al rfl rfl ?_
    refine r_gf rfl (z_gn (by decide) h1) rfl rfl ?_
    refine r_il rfl rfl ?_
    refine r_iaI rfl (by decide) (z_gn (by decide) h77) (by omega) (by omega) (by omega) ?_
    rw [Int.toNat_natCast, hg _ (by omega)]
    refine r_iSI rfl (z_gs h5) (by omega) (by omega) (by omega) ?_
    rw [List.set_set]
    refine r_jj4 rfl rfl ?_
    refine r_goto rfl ?_
    obtain ⟨r1, r2, r3, r4⟩ := hr
    rw [show (11 + 12 * (n : Int) + (i : Int)).toNat = 11 + 12 * n + i by omega]
    refine ih (i + 1) (upd nw1 (11 + 12 * n + i) (zI (s i))) (by omega) ⟨fun j h1 h2 h3 => ?_, ?_, ?_, fun j hj => ?_⟩
    · rw [pk_un (by omega)]
      exact r1 j h1 h2 h3
    · rw [pk_un (by omega)]
      exact r2
    · rw [pk_un (by omega)]
      exact r3
    · by_cases e : j = i
      · subst e
        exact pk_us
      · rw [pk_un (by omega)]
        exact r4 j (by omega)
set_option maxRecDepth 20000 in
theorem y_street {c z : Int} (hc : z_sm c) (hz : z_sm z) : z_Yc S 158 [.int (zI c), .int (zI z)] ((T, tx), (W, H, L), (hs, lot, n, kc), im, tr) (.int (zI (v_street W H L hs n kc c z))) ((T, tx), (W, H, L), t_street W H L hs lot n kc c z, im, tr) := by
  intro d M hY
  obtain ⟨y1, v, wd, hd, ld, nw, h, y3, y4, y5, y6, y7, y8⟩ := id hY
  have h : m_Y M tr v wd hd ld nw W H L hs lot n kc := h
  obtain ⟨⟨h1, h2, h3, h4, h5⟩, ⟨w1, w2, w3⟩, ⟨⟨hW1, hW2⟩, ⟨hH1, hH2⟩, ⟨hL1, hL2⟩, hn⟩, ⟨a1, a2, a3, a4⟩, hok⟩ := id h
  have hC := p_WH hW2 hH2
  unfold v_street t_street
  refine k_an ?_
  refine k_of rfl rfl (Nat.le_of_ble_eq_true rfl) ?_
  obtain ⟨⟨f69, r69⟩, ⟨f70, r70⟩, ⟨f71, r71⟩, ⟨f72, r72⟩, ⟨f73, r73⟩, ⟨f74, r74⟩, ⟨f75, r75⟩, ⟨f76, r76⟩, f77, r77⟩ := id y8
  obtain ⟨rr, M2, k2, k3, e2, v2, g, g62, hvr, h77, hS⟩ := m_isStreet (S := S) (d := d + 16) h r77 hc hz
  subst k3
  have y3 : v 2 = zI (T : Int) := y3
  have hY2 := hY.fld (e2.wk (fun k g => by omega)) g62 ((hvr 2 (by decide)).trans y3) ⟨⟨f69, (e2.2 69 (by decide)).trans r69⟩, ⟨f70, (e2.2 70 (by decide)).trans r70⟩, ⟨f71, (e2.2 71 (by decide)).trans r71⟩, ⟨f72, (e2.2 72 (by decide)).trans r72⟩, ⟨f73, (e2.2 73 (by decide)).trans r73⟩, ⟨f74, (e2.2 74 (by decide)).trans r74⟩, ⟨f75, (e2.2 75 (by decide)).trans r75⟩, ⟨f76, (e2.2 76 (by decide)).trans r76⟩, g, h77⟩
  have hM2 := h.v e2 (fun k x1 x2 => by omega) g62
  have e29 : z_ev M M2 (fun k => 62 ≤ k) := e2.wk (fun k g => by omega)
  refine r_al rfl rfl ?_
  refine r_il rfl rfl ?_
  refine r_il rfl rfl ?_
  refine r_cv2 rfl rfl h1 rfl (by decide) rfl (k2) ?_
  by_cases hS9 : p_isS W H hs c z
  · rw [if_pos hS9, if_pos hS9]
    obtain ⟨hv, hg⟩ := hS hS9
    obtain ⟨hf9, hz2, hp9⟩ := id hS9
    obtain ⟨q, rfl⟩ : ∃ q : Nat, c = (q : Int) := ⟨c.toNat, by have := hf9.1; omega⟩
    obtain ⟨z', rfl⟩ : ∃ q : Nat, z = (q : Int) := ⟨z.toNat, by omega⟩
    rw [Int.toNat_natCast] at hv hg
    rw [Int.toNat_natCast, Int.toNat_natCast] at hp9
    rw [show k_str (q : Int) (z' : Int) = (q, s_dl z', s_st z') by unfold k_str; rw [Int.toNat_natCast, Int.toNat_natCast]]
    have hN9 : s_dl z' ≤ 9 := s_dl_9.mpr (by omega)
    have hN1 : 1 ≤ s_dl z' := s_dl_1 (by omega)
    have hq9 : q < W * H := by have := hf9.2.1; omega
    have hb9 : ¬ bt hs q = true := by have := hf9.2.2; rw [Int.toNat_natCast] at this; exact this
    obtain ⟨hok0, -, -⟩ := p_pos_ok hq9 hb9 hN1 (by omega) hp9
    clear hf9 hz2 hp9 hS
    generalize hN : s_dl z' = N at *
    generalize hs9 : s_st z' = s at *
    have hbent := m_isBent (S := S) (d := d + 16) hM2 hv h77 hg hok0
    obtain ⟨⟨b1, b2, b3, b4, b5⟩, -⟩ := id hM2
    refine r_ifT rfl (zcT1 ⟨by omega, by omega⟩ ⟨by omega, by omega⟩ (by decide)) ?_
    refine r_al rfl rfl ?_
    refine r_il rfl rfl ?_
    refine r_cv1 rfl rfl b1 rfl (by decide) rfl (hbent) ?_
    by_cases hB : p_bnt W H L n kc (q, N, s)
    · rw [if_pos hB, if_pos hB]
      refine r_ifT rfl (zcT1 ⟨by omega, by omega⟩ ⟨by omega, by omega⟩ (by decide)) ?_
      refine r_al rfl rfl ?_
      refine r_gf rfl b1 rfl rfl ?_
      refine r_ic rfl ?_
      refine r_iaI rfl (by decide) b5 (by omega) (by omega) (by omega) ?_
      rw [show (1 : Int).toNat = 0 + 1 from rfl, a2]
      refine r_ic rfl ?_
      by_cases hn4 : n = 4
      · rw [if_pos hn4, if_neg (fun g => g.2.2 hn4)]
        refine r_icF rfl (zcF1 (by omega)) ?_
        refine r_ic rfl ?_
        refine r_reti rfl rfl ?_
        exact ⟨rfl, hY2, e29⟩
      · rw [if_neg hn4, if_pos ⟨hS9, hB, hn4⟩]
        refine r_icT rfl (zcT1 ⟨by omega, by omega⟩ ⟨by omega, by omega⟩ (by omega)) ?_
        refine r_al rfl rfl ?_
        refine r_gf rfl b1 rfl rfl ?_
        refine r_ic rfl ?_
        refine r_iaI rfl (by decide) b5 (by omega) (by omega) (by omega) ?_
        rw [show (1 : Int).toNat = 0 + 1 from rfl, a2]
        refine r_is3 rfl rfl ?_
        refine r_al rfl rfl ?_
        refine r_gf rfl b1 rfl rfl ?_
        refine r_ic rfl ?_
        refine r_il rfl rfl ?_
        refine r_addI rfl ?_
        refine r_il rfl rfl ?_
        refine r_iSI rfl b5 (by omega) (by omega) (by omega) ?_
        refine r_al rfl rfl ?_
        refine r_gf rfl (z_gn (by decide) b1) rfl rfl ?_
        refine r_ic rfl ?_
        refine r_il rfl rfl ?_
        refine r_addI rfl ?_
        refine r_al rfl rfl ?_
        refine r_gf rfl (z_gn (by decide) b1) rfl rfl ?_
        rw [hv]
        refine r_iSI rfl (z_gs b5) (by omega) (by omega) (by omega) ?_
        rw [List.set_set]
        refine r_ic rfl ?_
        refine r_is4 rfl rfl ?_
        refine r_of (m_str_l (M := M2) (n := n) (nw := nw) (q0 := q) g62 h77 hv (by omega) hg b5 (by omega) a2 N 0 _ (by omega) ⟨fun j h1 h2 h3 => ?_, ?_, ?_, fun j hj => by omega⟩) (fun r M3 hq => ?_)
        · rw [show (3 + (n : Int)).toNat = 3 + n by omega, show (7 + (n : Int)).toNat = 7 + n by omega, pk_un h2, pk_un h1]
        · rw [show (3 + (n : Int)).toNat = 3 + n by omega, show (7 + (n : Int)).toNat = 7 + n by omega, pk_un (by omega), pk_us]
        · rw [show (7 + (n : Int)).toNat = 7 + n by omega, pk_us]
        · obtain ⟨rfl, nw1, rfl, r1, r2, r3, r4⟩ := hq
          refine ⟨rfl, hY2.now (b' := (hs, lot, n + 1, fun k => if k = n then (q, N, s) else kc k)) ⟨b1, b2, b3, b4, b5⟩ (fun j hj => ?_) ⟨?_, pk_us, ?_, fun k hk => ?_⟩ (show n + 1 ≤ 4 by omega) (fun k hk => ?_), e29.tr (.set (by omega))⟩
          · rw [pk_un (by omega)]
            exact r1 j (by omega) (by omega) (by omega)
          · show upd nw1 1 _ 0 = hs
            rw [pk_un (by omega), r1 0 (by omega) (by omega) (by omega)]
            exact a1
          · show upd nw1 1 _ (0 + 2) = lot
            rw [pk_un (by omega), r1 _ (by omega) (by omega) (by omega)]
            exact a3
          · have hk : k < n + 1 := hk
            dsimp only
            by_cases e : k = n
            · subst e
              rw [if_pos rfl]
              refine ⟨?_, ?_, fun j hj => ?_⟩
              · rw [pk_un (by omega), show 0 + 3 + k = 3 + k by omega]
                exact r2
              · rw [pk_un (by omega), show 0 + 7 + k = 7 + k by omega]
                exact r3
              · have hj : j < N := hj
                rw [pk_un (by omega), show 0 + 11 + 12 * k + j = 11 + 12 * k + j by omega]
                exact r4 j hj
            · rw [if_neg e]
              obtain ⟨g1, g2, g3⟩ := a4 k (by omega)
              have hl := (hok k (by omega)).2.1.2
              refine ⟨?_, ?_, fun j hj => ?_⟩
              · rw [pk_un (by omega), r1 _ (by omega) (by omega) (by omega)]
                exact g1
              · rw [pk_un (by omega), r1 _ (by omega) (by omega) (by omega)]
                exact g2
              · rw [pk_un (by omega), r1 _ (by omega) (by omega) (by omega)]
                exact g3 j hj
          · have hk : k < n + 1 := hk
            dsimp only
            by_cases e : k = n
            · rw [if_pos e]
              exact hok0
            · rw [if_neg e]
              exact hok k (by omega)
    · rw [if_neg hB, if_neg hB, if_neg (fun g => hB g.2.1)]
      refine r_ifF rfl (zcF1 (rfl)) ?_
      refine r_ic rfl ?_
      refine r_reti rfl rfl ?_
      exact ⟨rfl, hY2, e29⟩
  · rw [if_neg hS9, if_neg hS9, if_neg (fun g => hS9 g.1)]
    refine r_ifF rfl (zcF1 (rfl)) ?_
    refine r_ic rfl ?_
    refine r_reti rfl rfl ?_
    exact ⟨rfl, hY2, e29⟩
end SZ
