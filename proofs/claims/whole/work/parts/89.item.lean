/-! YARD: the class's items -/
theorem t_num_p {α : Type} {T : Nat} {tx : Nat → Int32} {lo hi : Int} {pos : Nat} {k : Nat → Nat → Nat ⊕ α} (h : t_isn T tx lo hi (t_q T tx pos)) : t_num T tx lo hi pos k = k (t_val T tx (t_q T tx pos)) (t_e T tx (t_q T tx pos)) := if_pos h
theorem t_num_n {α : Type} {T : Nat} {tx : Nat → Int32} {lo hi : Int} {pos : Nat} {k : Nat → Nat → Nat ⊕ α} (h : ¬ t_isn T tx lo hi (t_q T tx pos)) : t_num T tx lo hi pos k = .inl (t_q T tx pos) := if_neg h
theorem t_semi_p {T : Nat} {tx : Nat → Int32} {D : ZD} {pos : Nat} (h : t_kd T tx (t_q T tx pos) = 3) : t_semi T tx D pos = .inr (D, t_e T tx (t_q T tx pos)) := if_pos h
theorem t_semi_n {T : Nat} {tx : Nat → Int32} {D : ZD} {pos : Nat} (h : ¬ t_kd T tx (t_q T tx pos) = 3) : t_semi T tx D pos = .inl (t_q T tx pos) := if_neg h
/-- where the token is, and the end of it, within the text -/
theorem t_pos {T : Nat} {tx : Nat → Int32} {pos : Nat} (h : pos ≤ T) : t_q T tx pos ≤ T ∧ t_e T tx (t_q T tx pos) ≤ T ∧ pos ≤ t_q T tx pos ∧ t_q T tx pos ≤ t_e T tx (t_q T tx pos) := by
  obtain ⟨q1, q2, -⟩ := t_q_ok (tx := tx) h
  obtain ⟨e1, e2, -⟩ := t_e_ok (tx := tx) q2
  exact ⟨q2, e2, q1, e1⟩
def x_F (M : ZM) (T : Nat) (tx : Nat → Int32) (m f : Nat) : Prop := (∃ kd e nm, x_T M T tx m f kd e nm) ∧ (∃ v, k_o M 13 v) ∧ (∃ ch, k_R M 13 ch) ∧ ∃ r, k_c M 23 r
def x_D (M : ZM) (T : Nat) (tx : Nat → Int32) (m : Nat) (D : ZD) (lot : Int32) (q kd e : Nat) (nm : Int32) : Prop := x_T M T tx m q kd e nm ∧ k_A M 13 D.1.1 D.1.2.1 D.1.2.2 D.2.1 lot D.2.2.1 D.2.2.2 ∧ ∃ r, k_c M 23 r
theorem k_A.fo {M : ZM} {a W H L n : Nat} {hs lot : Int32} {kc : Nat → ZK} (h : k_A M a W H L hs lot n kc) : (∃ v, k_o M a v) ∧ ∃ ch, k_R M a ch := by
  obtain ⟨h1, ⟨h2, -⟩, ch, h3, -⟩ := h
  exact ⟨⟨fun k => match k with | 0 => zI (W : Int) | 1 => zI (H : Int) | 2 => zI (L : Int) | 3 => hs | 4 => zI (n : Int) | _ => lot, h2⟩, ch, h3⟩
theorem x_D.fl {M : ZM} {T : Nat} {tx : Nat → Int32} {m : Nat} {D : ZD} {lot : Int32} {q kd e : Nat} {nm : Int32} (h : x_D M T tx m D lot q kd e nm) : x_F M T tx m q := ⟨⟨kd, e, nm, h.1⟩, h.2.1.fo.1, h.2.1.fo.2, h.2.2⟩
/-- what is left of the reader but its token -/
theorem x_D.tok {M M' : ZM} {T : Nat} {tx : Nat → Int32} {m m' : Nat} {D : ZD} {lot : Int32} {q kd e q' kd' e' : Nat} {nm nm' : Int32} (h : x_D M T tx m D lot q kd e nm) (he : z_ev M M' (fun k => k = 11)) (h' : x_T M' T tx m' q' kd' e' nm') : x_D M' T tx m' D lot q' kd' e' nm' := by
  obtain ⟨-, h2, r, h3⟩ := h
  exact ⟨h', h2.ev he (fun k g1 g2 => by omega), r, h3.eqv he (by omega) (by omega)⟩
/-- what an item's reading comes to -/
def x_U (M M' : ZM) (T : Nat) (tx : Nat → Int32) (m : Nat) (lot : Int32) (u : Nat ⊕ (ZD × Nat)) (r : Option Value) : Prop := z_ev M M' (fun k => 11 ≤ k ∧ k < 25) ∧ match u with
  | .inl f => r = some (.int (zI 0)) ∧ x_F M' T tx m f
  | .inr x => r = some (.int (zI 1)) ∧ ∃ q kd nm, x_D M' T tx m x.1 lot q kd x.2 nm
section RI
variable {S : ZS} {d : Nat} {M : ZM} {T : Nat} {tx : Nat → Int32} {m q kd e : Nat} {nm lot : Int32} {D : ZD}
theorem c_directionOf {x : Int} (hx : z_sm x) : z_C S d 20 [.int (zI x)] M (some (.int (zI (t_dir x)))) M := by
  refine c_of rfl rfl (Nat.le_of_ble_eq_true rfl) ?_
  refine g_il rfl rfl ?_
  by_cases hx1 : x = 110
  · have eo : (Op.lookupswitch.offset (#[(101, 46), (110, 44), (115, 48), (119, 50)] : Array (Int × Int)).toList 52 (zI x).toInt).toNat = 44 := by
      rw [zI_toInt hx]
      show (if (101 : Int) = x then (46 : Int) else if (110 : Int) = x then 44 else if (115 : Int) = x then 48 else if (119 : Int) = x then 50 else 52).toNat = 44
      rw [if_neg (by omega), if_pos (by omega)]
      rfl
    refine g_lk rfl ?_
    rw [eo]
    refine g_ic rfl ?_
    exact g_reti rfl (by rw [show t_dir x = 0 from if_pos hx1]) rfl
  · by_cases hx2 : x = 101
    · have eo : (Op.lookupswitch.offset (#[(101, 46), (110, 44), (115, 48), (119, 50)] : Array (Int × Int)).toList 52 (zI x).toInt).toNat = 46 := by
        rw [zI_toInt hx]
        show (if (101 : Int) = x then (46 : Int) else if (110 : Int) = x then 44 else if (115 : Int) = x then 48 else if (119 : Int) = x then 50 else 52).toNat = 46
        rw [if_pos (by omega)]
        rfl
      refine g_lk rfl ?_
      rw [eo]
      refine g_ic rfl ?_
      exact g_reti rfl (by rw [show t_dir x = 1 from (if_neg hx1).trans (if_pos hx2)]) rfl
    · by_cases hx3 : x = 115
      · have eo : (Op.lookupswitch.offset (#[(101, 46), (110, 44), (115, 48), (119, 50)] : Array (Int × Int)).toList 52 (zI x).toInt).toNat = 48 := by
          rw [zI_toInt hx]
          show (if (101 : Int) = x then (46 : Int) else if (110 : Int) = x then 44 else if (115 : Int) = x then 48 else if (119 : Int) = x then 50 else 52).toNat = 48
          rw [if_neg (by omega), if_neg (by omega), if_pos (by omega)]
          rfl
        refine g_lk rfl ?_
        rw [eo]
        refine g_ic rfl ?_
        exact g_reti rfl (by rw [show t_dir x = 2 from (if_neg hx1).trans ((if_neg hx2).trans (if_pos hx3))]) rfl
      · by_cases hx4 : x = 119
        · have eo : (Op.lookupswitch.offset (#[(101, 46), (110, 44), (115, 48), (119, 50)] : Array (Int × Int)).toList 52 (zI x).toInt).toNat = 50 := by
            rw [zI_toInt hx]
            show (if (101 : Int) = x then (46 : Int) else if (110 : Int) = x then 44 else if (115 : Int) = x then 48 else if (119 : Int) = x then 50 else 52).toNat = 50
            rw [if_neg (by omega), if_neg (by omega), if_neg (by omega), if_pos (by omega)]
            rfl
          refine g_lk rfl ?_
          rw [eo]
          refine g_ic rfl ?_
          exact g_reti rfl (by rw [show t_dir x = 3 from (if_neg hx1).trans ((if_neg hx2).trans ((if_neg hx3).trans (if_pos hx4)))]) rfl
        · have eo : (Op.lookupswitch.offset (#[(101, 46), (110, 44), (115, 48), (119, 50)] : Array (Int × Int)).toList 52 (zI x).toInt).toNat = 52 := by
            rw [zI_toInt hx]
            show (if (101 : Int) = x then (46 : Int) else if (110 : Int) = x then 44 else if (115 : Int) = x then 48 else if (119 : Int) = x then 50 else 52).toNat = 52
            rw [if_neg (by omega), if_neg (by omega), if_neg (by omega), if_neg (by omega)]
            rfl
          refine g_lk rfl ?_
          rw [eo]
          refine g_ic rfl ?_
          exact g_reti rfl (by rw [show t_dir x = -1 from (if_neg hx1).trans ((if_neg hx2).trans ((if_neg hx3).trans (if_neg hx4)))]) rfl
theorem t_dir_in {x : Int} : -1 ≤ t_dir x ∧ t_dir x ≤ 3 := by
  unfold t_dir
  repeat' split
  all_goals omega
theorem c_tS_l {x1 x2 x4 : Int32} (h : x_T M T tx m q kd e nm) (hqe : q ≤ e) (heT : e ≤ T) : ∀ (k i : Nat) (M1 : ZM), i + k = e - q → i ≤ 12 → (z_ev M M1 (fun k => k = 23 ∨ k = 24) ∧ ∃ g, k_c M1 23 (x1, x2, zI (i : Int), x4, g) ∧ (∀ j, j < i → g j = zI (t_st T tx q j) ∧ 0 ≤ t_st T tx q j ∧ t_st T tx q j ≤ 3)) → z_R S (d + 1) 19 13 [some (.ref 11), some (.int (zI ((q : Int) + (i : Int))))] [] M1 (fun r M' => z_ev M M' (fun k => k = 23 ∨ k = 24) ∧ ((r = some (.int (zI 1)) ∧ e - q ≤ 12 ∧ ∃ g, k_c M' 23 (x1, x2, zI ((e - q : Nat) : Int), x4, g) ∧ (∀ j, j < e - q → g j = zI (t_st T tx q j) ∧ 0 ≤ t_st T tx q j ∧ t_st T tx q j ≤ 3)) ∨ (r = some (.int (zI 0)) ∧ ¬ (e - q ≤ 12 ∧ ∀ j, j < e - q → 0 ≤ t_st T tx q j ∧ t_st T tx q j ≤ 3) ∧ ∃ r, k_c M' 23 r))) := by
  intro k
  induction k with
  | zero =>
    intro i M1 hi h12 hI
    obtain ⟨he, g, hk, hg⟩ := hI
    obtain ⟨hT, h11, -⟩ := id (h.ev he (by decide) (by decide))
    have h1 := h.ev he (by decide) (by decide)
    refine r_il rfl rfl ?_
    refine r_al rfl rfl ?_
    refine r_gf rfl h11 rfl rfl ?_
    refine r_icT rfl (zcT3 ⟨by omega, by omega⟩ ⟨by omega, by omega⟩ (by omega)) ?_
    refine r_ic rfl ?_
    refine r_reti rfl rfl ?_
    obtain rfl : i = e - q := by omega
    exact ⟨he, Or.inl ⟨rfl, by omega, g, hk, hg⟩⟩
  | succ k ih =>
    intro i M1 hi h12 hI
    obtain ⟨he, g, hk, hg⟩ := hI
    obtain ⟨hT, h11, -⟩ := id (h.ev he (by decide) (by decide))
    have h1 := h.ev he (by decide) (by decide)
    have bi := t_b_in (T := T) (tx := tx) (i := q + i)
    have di := t_dir_in (x := t_b T tx (q + i))
    refine r_il rfl rfl ?_
    refine r_al rfl rfl ?_
    refine r_gf rfl h11 rfl rfl ?_
    refine r_icF rfl (zcF3 ⟨by omega, by omega⟩ ⟨by omega, by omega⟩ (by omega)) ?_
    refine r_al rfl rfl ?_
    refine r_gf rfl h11 rfl rfl ?_
    refine r_al rfl rfl ?_
    refine r_il rfl rfl ?_
    rw [show (q : Int) + (i : Int) = ((q + i : Nat) : Int) by omega]
    refine r_cv1 rfl rfl h11 rfl (by decide) rfl (c_byteAt h1 (i := q + i) (by omega)) ?_
    refine r_cs1 rfl rfl rfl rfl (c_directionOf (x := t_b T tx (q + i)) ⟨by omega, by omega⟩) ?_
    rw [show t_dir (t_b T tx (q + i)) = t_st T tx q i from rfl] at di ⊢
    obtain ⟨M2, k2, e2, a2, b2⟩ := c_addStep (S := S) (d := d) hk h12 (t := t_st T tx q i) ⟨by omega, by omega⟩
    refine r_cv1 rfl rfl hk.1 rfl (by decide) rfl (k2) ?_
    by_cases hok : (0 ≤ t_st T tx q i ∧ t_st T tx q i ≤ 3) ∧ i < 12
    · rw [if_pos hok]
      refine r_ifT rfl (zcT1 ⟨by omega, by omega⟩ ⟨by omega, by omega⟩ (by decide)) ?_
      refine r_jj1 rfl rfl ?_
      refine r_goto rfl ?_
      rw [show ((q + i : Nat) : Int) + 1 = (q : Int) + ((i + 1 : Nat) : Int) by omega]
      refine ih (i + 1) M2 (by omega) (by omega) ⟨he.tr e2, _, a2 hok, fun j hj => ?_⟩
      by_cases e9 : j = i
      · subst e9
        exact ⟨pk_us, hok.1⟩
      · rw [pk_un e9]
        exact hg j (by omega)
    · rw [if_neg hok]
      obtain rfl := b2 hok
      refine r_ifF rfl (zcF1 (rfl)) ?_
      refine r_ic rfl ?_
      refine r_reti rfl rfl ?_
      exact ⟨he, Or.inr ⟨rfl, fun g9 => hok ⟨g9.2 i (by omega), by omega⟩, _, hk⟩⟩
theorem c_takeSteps {x1 x2 x3 x4 : Int32} {g0 : Nat → Int32} (h : x_T M T tx m q kd e nm) (hqe : q ≤ e) (heT : e ≤ T) (r1 : k_c M 23 (x1, x2, x3, x4, g0)) : ∃ r M', z_C S (d + 1) 19 [.ref 11] M r M' ∧ z_ev M M' (fun k => k = 23 ∨ k = 24) ∧ ((r = some (.int (zI 1)) ∧ e - q ≤ 12 ∧ ∃ g, k_c M' 23 (x1, x2, zI ((e - q : Nat) : Int), x4, g) ∧ (∀ j, j < e - q → g j = zI (t_st T tx q j) ∧ 0 ≤ t_st T tx q j ∧ t_st T tx q j ≤ 3)) ∨ (r = some (.int (zI 0)) ∧ ¬ (e - q ≤ 12 ∧ ∀ j, j < e - q → 0 ≤ t_st T tx q j ∧ t_st T tx q j ≤ 3) ∧ ∃ r, k_c M' 23 r)) := by
  obtain ⟨hT, h11, -⟩ := id h
  refine k_of rfl rfl (Nat.le_of_ble_eq_true rfl) ?_
  refine r_al rfl rfl ?_
  refine r_gf rfl h11 rfl rfl ?_
  refine r_ic rfl ?_
  refine r_pf2 rfl r1.1 rfl rfl rfl (Or.inl rfl) ?_
  refine r_al rfl rfl ?_
  refine r_gf rfl (z_gn (by decide) h11) rfl rfl ?_
  refine r_is1 rfl rfl ?_
  have t := c_tS_l (S := S) (d := d) (M := M.set 23 (.inl (0, [.int x1, .int x2, .int (zI 0), .int x4, .ref 24]))) (x1 := x1) (x2 := x2) (x4 := x4) (h.ev (.set (P := fun k => k = 23) rfl) (by decide) (by decide)) hqe heT (e - q) 0 _ (by omega) (by omega) ⟨.rf, g0, ⟨z_gs r1.1, z_gn (by decide) r1.2⟩, fun j hj => by omega⟩
  rw [show (q : Int) + ((0 : Nat) : Int) = (q : Int) by omega] at t
  refine r_of t (fun r M2 hq => ⟨(z_ev.set (Or.inl rfl)).tr hq.1, hq.2⟩)
theorem c_nextCell {W H L nc pos : Nat} {hs : Int32} (h : x_T M T tx m q kd pos nm) (hpos : pos ≤ T) (hO : k_O M 13 W H L hs nc lot) : ∃ r M', z_C S (d + 3) 21 [.ref 11] M r M' ∧ ((¬ t_isn T tx 0 ((W : Int) - 1) (t_q T tx pos) ∧ r = some (.int (zI (-1))) ∧ z_ev M M' (fun k => k = 11) ∧ ∃ nm', x_T M' T tx m (t_q T tx pos) (t_kd T tx (t_q T tx pos)) (t_e T tx (t_q T tx pos)) nm') ∨ (t_isn T tx 0 ((W : Int) - 1) (t_q T tx pos) ∧ ¬ t_isn T tx 0 ((H : Int) - 1) (t_q T tx (t_e T tx (t_q T tx pos))) ∧ r = some (.int (zI (-1))) ∧ z_ev M M' (fun k => k = 11) ∧ ∃ nm', x_T M' T tx m (t_q T tx (t_e T tx (t_q T tx pos))) (t_kd T tx (t_q T tx (t_e T tx (t_q T tx pos)))) (t_e T tx (t_q T tx (t_e T tx (t_q T tx pos)))) nm') ∨ (t_isn T tx 0 ((W : Int) - 1) (t_q T tx pos) ∧ t_isn T tx 0 ((H : Int) - 1) (t_q T tx (t_e T tx (t_q T tx pos))) ∧ r = some (.int (zI ((W * t_val T tx (t_q T tx (t_e T tx (t_q T tx pos))) + t_val T tx (t_q T tx pos) : Nat) : Int))) ∧ z_ev M M' (fun k => k = 11) ∧ ∃ nm', x_T M' T tx m (t_q T tx (t_e T tx (t_q T tx pos))) (t_kd T tx (t_q T tx (t_e T tx (t_q T tx pos)))) (t_e T tx (t_q T tx (t_e T tx (t_q T tx pos)))) nm')) := by
  obtain ⟨hT, h11, -⟩ := id h
  obtain ⟨o1, ⟨hW1, hW2⟩, ⟨hH1, hH2⟩, ⟨hL1, hL2⟩, hn⟩ := id hO
  refine k_of rfl rfl (Nat.le_of_ble_eq_true rfl) ?_
  obtain ⟨M1, k1, e1, nm1, t1, v1⟩ := c_nextNumber (S := S) (d := d) h hpos (lo := 0) (hi := (W : Int) - 1) ⟨by omega, by omega⟩ ⟨by omega, by omega⟩
  obtain ⟨p1, p2, p3, p4⟩ := t_pos (tx := tx) hpos
  obtain ⟨M2, k2, e2, nm2, t2, v2⟩ := c_nextNumber (S := S) (d := d) t1 p2 (lo := 0) (hi := (H : Int) - 1) ⟨by omega, by omega⟩ ⟨by omega, by omega⟩
  have o2 := (e1.2 13 (by decide)).trans o1
  have o3 := (e2.2 13 (by decide)).trans o2
  obtain ⟨-, b11, -⟩ := id t1
  obtain ⟨-, c11, -⟩ := id t2
  refine r_al rfl rfl ?_
  refine r_ic rfl ?_
  refine r_al rfl rfl ?_
  refine r_gf rfl h11 rfl rfl ?_
  refine r_gf rfl o1 rfl rfl ?_
  refine r_ic rfl ?_
  refine r_subI rfl ?_
  refine r_cv2 rfl rfl h11 rfl (by decide) rfl (k1) ?_
  by_cases hn1 : t_isn T tx 0 ((W : Int) - 1) (t_q T tx pos)
  · rw [if_pos hn1]
    have u1 := v1 hn1
    subst u1
    refine r_ifT rfl (zcT1 ⟨by omega, by omega⟩ ⟨by omega, by omega⟩ (by decide)) ?_
    refine r_al rfl rfl ?_
    refine r_gf rfl b11 rfl rfl ?_
    refine r_is1 rfl rfl ?_
    refine r_al rfl rfl ?_
    refine r_ic rfl ?_
    refine r_al rfl rfl ?_
    refine r_gf rfl b11 rfl rfl ?_
    refine r_gf rfl o2 rfl rfl ?_
    refine r_ic rfl ?_
    refine r_subI rfl ?_
    refine r_cv2 rfl rfl b11 rfl (by decide) rfl (k2) ?_
    by_cases hn2 : t_isn T tx 0 ((H : Int) - 1) (t_q T tx (t_e T tx (t_q T tx pos)))
    · rw [if_pos hn2]
      have u2 := v2 hn2
      subst u2
      refine r_ifF rfl (zcF0 ⟨by omega, by omega⟩ ⟨by omega, by omega⟩ (by decide)) ?_
      refine r_al rfl rfl ?_
      refine r_gf rfl c11 rfl rfl ?_
      refine r_gf rfl o3 rfl rfl ?_
      refine r_al rfl rfl ?_
      refine r_gf rfl c11 rfl rfl ?_
      refine r_mulI rfl ?_
      refine r_il rfl rfl ?_
      refine r_addI rfl ?_
      refine r_goto rfl ?_
      rw [show (W : Int) * (t_val T tx (t_q T tx (t_e T tx (t_q T tx pos))) : Int) + (t_val T tx (t_q T tx pos) : Int) = ((W * t_val T tx (t_q T tx (t_e T tx (t_q T tx pos))) + t_val T tx (t_q T tx pos) : Nat) : Int) by rw [Int.natCast_add, Int.natCast_mul]]
      refine r_reti rfl rfl ?_
      exact Or.inr (Or.inr ⟨hn1, hn2, rfl, e1.tr e2, _, t2⟩)
    · rw [if_neg hn2]
      refine r_ifT rfl (zcT0 (rfl)) ?_
      refine r_ic rfl ?_
      refine r_reti rfl rfl ?_
      exact Or.inr (Or.inl ⟨hn1, hn2, rfl, e1.tr e2, nm2, t2⟩)
  · rw [if_neg hn1]
    refine r_ifF rfl (zcF1 (rfl)) ?_
    refine r_ic rfl ?_
    refine r_reti rfl rfl ?_
    exact Or.inl ⟨hn1, rfl, e1, nm1, t1⟩
set_option maxRecDepth 20000 in
theorem c_readYard {pos : Nat} (hD : x_D M T tx m D lot q kd pos nm) (hpos : pos ≤ T) (hn0 : D.2.2.1 = 0) : ∃ r M', z_C S (d + 3) 15 [.ref 11] M r M' ∧ x_U M M' T tx m lot (t_yard T tx D pos) r := by
  obtain ⟨h, hA, r0, hr0⟩ := id hD
  obtain ⟨hT, h11, -⟩ := id h
  obtain ⟨ha, hO, ch, hR, hk9⟩ := id hA
  obtain ⟨o1, ⟨hW1, hW2⟩, ⟨hH1, hH2⟩, ⟨hL1, hL2⟩, hn⟩ := id hO
  have hC := p_WH hW2 hH2
  refine k_of rfl rfl (Nat.le_of_ble_eq_true rfl) ?_
  obtain ⟨p1, p2, p3, p4⟩ := t_pos (tx := tx) hpos
  obtain ⟨M1, k1, e1, nm1, t1, v1⟩ := c_nextNumber (S := S) (d := d) h hpos (lo := 1) (hi := 5) ⟨by omega, by omega⟩ ⟨by omega, by omega⟩
  have D1 := hD.tok e1 t1
  have E1 : z_ev M M1 (fun k => 11 ≤ k ∧ k < 25) := e1.wk (fun k g => by omega)
  obtain ⟨-, b11, -⟩ := id t1
  have o2 := (e1.2 13 (by decide)).trans o1
  refine r_al rfl rfl ?_
  refine r_ic rfl ?_
  refine r_ic rfl ?_
  refine r_cv2 rfl rfl h11 rfl (by decide) rfl (k1) ?_
  by_cases hn1 : t_isn T tx 1 5 (t_q T tx pos)
  · rw [if_pos hn1]
    have u1 := v1 hn1
    subst u1
    refine r_ifT rfl (zcT1 ⟨by omega, by omega⟩ ⟨by omega, by omega⟩ (by decide)) ?_
    refine r_al rfl rfl ?_
    refine r_gf rfl b11 rfl rfl ?_
    refine r_al rfl rfl ?_
    refine r_gf rfl b11 rfl rfl ?_
    refine r_pf0 rfl o2 rfl rfl rfl (Or.inl rfl) ?_
    obtain ⟨q1, q2, q3, q4⟩ := t_pos (tx := tx) p2
    have s1 : z_ev M1 (M1.set 13 (.inl (2, [.int (zI (t_val T tx (t_q T tx pos) : Int)), .int (zI (D.1.2.1 : Int)), .int (zI (D.1.2.2 : Int)), .int D.2.1, .int (zI (D.2.2.1 : Int)), .int lot, .ref 14]))) (fun k => k = 13) := .set rfl
    obtain ⟨M2, k2, e2, nm2, t2, v2⟩ := c_nextNumber (S := S) (d := d) (t1.ev s1 (by decide) (by decide)) p2 (lo := 1) (hi := 5) ⟨by omega, by omega⟩ ⟨by omega, by omega⟩
    have s2 : z_ev M1 M2 (fun k => 11 ≤ k ∧ k < 25) := (s1.wk (fun k g => by omega)).tr (e2.wk (fun k g => by omega))
    have f2 : z_ev M1 M2 (fun k => k = 11 ∨ k = 13) := (s1.wk (fun k g => Or.inr g)).tr (e2.wk (fun k g => Or.inl g))
    have E2 := E1.tr s2
    have R2 : k_R M2 13 ch := (hR.eqv e1 (fun k g1 g2 => by omega)).upd (by decide) (fun k g1 g2 g3 => by omega) |>.eqv e2 (fun k g1 g2 => by omega)
    have K2 : k_c M2 23 r0 := (hr0.eqv e1 (by decide) (by decide)).eqv f2 (by decide) (by decide)
    have o3 := (e2.2 13 (by decide)).trans (z_gs (e := .inl (2, [.int (zI (t_val T tx (t_q T tx pos) : Int)), .int (zI (D.1.2.1 : Int)), .int (zI (D.1.2.2 : Int)), .int D.2.1, .int (zI (D.2.2.1 : Int)), .int lot, .ref 14])) o2)
    obtain ⟨-, c11, -⟩ := id t2
    refine r_al rfl rfl ?_
    refine r_ic rfl ?_
    refine r_ic rfl ?_
    refine r_cv2 rfl rfl ((s1.2 11 (by decide)).trans b11) rfl (by decide) rfl (k2) ?_
    by_cases hn2 : t_isn T tx 1 5 (t_q T tx (t_e T tx (t_q T tx pos)))
    · rw [if_pos hn2]
      have u2 := v2 hn2
      subst u2
      refine r_ifT rfl (zcT1 ⟨by omega, by omega⟩ ⟨by omega, by omega⟩ (by decide)) ?_
      refine r_al rfl rfl ?_
      refine r_gf rfl c11 rfl rfl ?_
      refine r_al rfl rfl ?_
      refine r_gf rfl c11 rfl rfl ?_
      refine r_pf1 rfl o3 rfl rfl rfl (Or.inl rfl) ?_
      obtain ⟨r1, r2, r3, r4⟩ := t_pos (tx := tx) q2
      have s3 : z_ev M2 (M2.set 13 (.inl (2, [.int (zI (t_val T tx (t_q T tx pos) : Int)), .int (zI (t_val T tx (t_q T tx (t_e T tx (t_q T tx pos))) : Int)), .int (zI (D.1.2.2 : Int)), .int D.2.1, .int (zI (D.2.2.1 : Int)), .int lot, .ref 14]))) (fun k => k = 13) := .set rfl
      obtain ⟨M3, k3, e3, nm3, t3, v3⟩ := c_nextNumber (S := S) (d := d) (t2.ev s3 (by decide) (by decide)) q2 (lo := 1) (hi := 3) ⟨by omega, by omega⟩ ⟨by omega, by omega⟩
      have f3 : z_ev M2 M3 (fun k => k = 11 ∨ k = 13) := (s3.wk (fun k g => Or.inr g)).tr (e3.wk (fun k g => Or.inl g))
      have E3 := E2.tr (f3.wk (fun k g => by omega))
      have R3 : k_R M3 13 ch := (R2.upd (by decide) (fun k g1 g2 g3 => by omega)).eqv e3 (fun k g1 g2 => by omega)
      have K3 : k_c M3 23 r0 := K2.eqv f3 (by decide) (by decide)
      have o4 := (e3.2 13 (by decide)).trans (z_gs (e := .inl (2, [.int (zI (t_val T tx (t_q T tx pos) : Int)), .int (zI (t_val T tx (t_q T tx (t_e T tx (t_q T tx pos))) : Int)), .int (zI (D.1.2.2 : Int)), .int D.2.1, .int (zI (D.2.2.1 : Int)), .int lot, .ref 14])) o3)
      obtain ⟨-, d11, -⟩ := id t3
      refine r_al rfl rfl ?_
      refine r_ic rfl ?_
      refine r_ic rfl ?_
      refine r_cv2 rfl rfl ((s3.2 11 (by decide)).trans c11) rfl (by decide) rfl (k3) ?_
      by_cases hn3 : t_isn T tx 1 3 (t_q T tx (t_e T tx (t_q T tx (t_e T tx (t_q T tx pos)))))
      · rw [if_pos hn3]
        have u3 := v3 hn3
        subst u3
        refine r_ifT rfl (zcT1 ⟨by omega, by omega⟩ ⟨by omega, by omega⟩ (by decide)) ?_
        refine r_al rfl rfl ?_
        refine r_gf rfl d11 rfl rfl ?_
        refine r_al rfl rfl ?_
        refine r_gf rfl d11 rfl rfl ?_
        refine r_pf2 rfl o4 rfl rfl rfl (Or.inl rfl) ?_
        have s4 : z_ev M3 (M3.set 13 (.inl (2, [.int (zI (t_val T tx (t_q T tx pos) : Int)), .int (zI (t_val T tx (t_q T tx (t_e T tx (t_q T tx pos))) : Int)), .int (zI (t_val T tx (t_q T tx (t_e T tx (t_q T tx (t_e T tx (t_q T tx pos))))) : Int)), .int D.2.1, .int (zI (D.2.2.1 : Int)), .int lot, .ref 14]))) (fun k => k = 13) := .set rfl
        obtain ⟨M4, k4, e4, t4⟩ := c_nextSemi (S := S) (d := d) (t3.ev s4 (by decide) (by decide)) r2
        have f4 : z_ev M3 M4 (fun k => k = 11 ∨ k = 13) := (s4.wk (fun k g => Or.inr g)).tr (e4.wk (fun k g => Or.inl g))
        have E4 := E3.tr (f4.wk (fun k g => by omega))
        have R4 : k_R M4 13 ch := (R3.upd (by decide) (fun k g1 g2 g3 => by omega)).eqv e4 (fun k g1 g2 => by omega)
        have K4 : k_c M4 23 r0 := K3.eqv f4 (by decide) (by decide)
        have o5 := (e4.2 13 (by decide)).trans (z_gs (e := .inl (2, [.int (zI (t_val T tx (t_q T tx pos) : Int)), .int (zI (t_val T tx (t_q T tx (t_e T tx (t_q T tx pos))) : Int)), .int (zI (t_val T tx (t_q T tx (t_e T tx (t_q T tx (t_e T tx (t_q T tx pos))))) : Int)), .int D.2.1, .int (zI (D.2.2.1 : Int)), .int lot, .ref 14])) o4)
        have x1 := hn1.2.2
        have x2 := hn2.2.2
        have x3 := hn3.2.2
        have x1a : 1 ≤ t_val T tx (t_q T tx pos) ∧ t_val T tx (t_q T tx pos) ≤ 5 := by omega
        have x2a : 1 ≤ t_val T tx (t_q T tx (t_e T tx (t_q T tx pos))) ∧ t_val T tx (t_q T tx (t_e T tx (t_q T tx pos))) ≤ 5 := by omega
        have x3a : 1 ≤ t_val T tx (t_q T tx (t_e T tx (t_q T tx (t_e T tx (t_q T tx pos))))) ∧ t_val T tx (t_q T tx (t_e T tx (t_q T tx (t_e T tx (t_q T tx pos))))) ≤ 3 := by omega
        have D4 : x_D M4 T tx m ((t_val T tx (t_q T tx pos), t_val T tx (t_q T tx (t_e T tx (t_q T tx pos))), t_val T tx (t_q T tx (t_e T tx (t_q T tx (t_e T tx (t_q T tx pos)))))), D.2) lot _ _ _ _ := ⟨t4, ⟨by omega, ⟨o5, x1a, x2a, x3a, hn⟩, ch, R4, fun k hk => by rw [hn0] at hk; omega⟩, r0, K4⟩
        refine r_al rfl rfl ?_
        refine r_cv0 rfl rfl ((s4.2 11 (by decide)).trans d11) rfl (by decide) rfl (k4) ?_
        by_cases hn4 : t_kd T tx (t_q T tx (t_e T tx (t_q T tx (t_e T tx (t_q T tx (t_e T tx (t_q T tx pos))))))) = 3
        · rw [if_pos hn4]
          have hu : t_yard T tx D pos = .inr (((t_val T tx (t_q T tx pos), t_val T tx (t_q T tx (t_e T tx (t_q T tx pos))), t_val T tx (t_q T tx (t_e T tx (t_q T tx (t_e T tx (t_q T tx pos)))))), D.2), t_e T tx (t_q T tx (t_e T tx (t_q T tx (t_e T tx (t_q T tx (t_e T tx (t_q T tx pos)))))))) := (t_num_p hn1).trans ((t_num_p hn2).trans ((t_num_p hn3).trans (t_semi_p hn4)))
          refine r_reti rfl rfl ?_
          rw [hu]
          exact ⟨E4, rfl, _, _, _, D4⟩
        · rw [if_neg hn4]
          have hu : t_yard T tx D pos = .inl (t_q T tx (t_e T tx (t_q T tx (t_e T tx (t_q T tx (t_e T tx (t_q T tx pos))))))) := (t_num_p hn1).trans ((t_num_p hn2).trans ((t_num_p hn3).trans (t_semi_n hn4)))
          refine r_reti rfl rfl ?_
          rw [hu]
          exact ⟨E4, rfl, D4.fl⟩
      · rw [if_neg hn3]
        have hu : t_yard T tx D pos = .inl (t_q T tx (t_e T tx (t_q T tx (t_e T tx (t_q T tx pos))))) := (t_num_p hn1).trans ((t_num_p hn2).trans (t_num_n hn3))
        refine r_ifF rfl (zcF1 (rfl)) ?_
        refine r_ic rfl ?_
        refine r_reti rfl rfl ?_
        rw [hu]
        exact ⟨E3, rfl, ⟨_, _, _, t3⟩, ⟨fun k => match k with | 0 => zI (t_val T tx (t_q T tx pos) : Int) | 1 => zI (t_val T tx (t_q T tx (t_e T tx (t_q T tx pos))) : Int) | 2 => zI (D.1.2.2 : Int) | 3 => D.2.1 | 4 => zI (D.2.2.1 : Int) | _ => lot, o4⟩, ⟨ch, R3⟩, r0, K3⟩
    · rw [if_neg hn2]
      have hu : t_yard T tx D pos = .inl (t_q T tx (t_e T tx (t_q T tx pos))) := (t_num_p hn1).trans (t_num_n hn2)
      refine r_ifF rfl (zcF1 (rfl)) ?_
      refine r_ic rfl ?_
      refine r_reti rfl rfl ?_
      rw [hu]
      exact ⟨E2, rfl, ⟨_, _, _, t2⟩, ⟨fun k => match k with | 0 => zI (t_val T tx (t_q T tx pos) : Int) | 1 => zI (D.1.2.1 : Int) | 2 => zI (D.1.2.2 : Int) | 3 => D.2.1 | 4 => zI (D.2.2.1 : Int) | _ => lot, o3⟩, ⟨ch, R2⟩, r0, K2⟩
  · rw [if_neg hn1]
    have hu : t_yard T tx D pos = .inl (t_q T tx pos) := t_num_n hn1
    refine r_ifF rfl (zcF1 (rfl)) ?_
    refine r_ic rfl ?_
    refine r_reti rfl rfl ?_
    rw [hu]
    exact ⟨E1, rfl, D1.fl⟩
theorem c_endHouse {pos c : Nat} (hD : x_D M T tx m D lot q kd pos nm) (hpos : pos ≤ T) (hn0 : D.2.2.1 = 0) : ∃ r M', z_C S (d + 3) 17 [.ref 11, .int (zI (c : Int))] M r M' ∧ x_U M M' T tx m lot (t_semi T tx (D.1, h_add D.2.1 c, D.2.2) pos) r := by
  obtain ⟨h, hA, r0, hr0⟩ := id hD
  obtain ⟨hT, h11, -⟩ := id h
  obtain ⟨ha, hO, ch, hR, hk9⟩ := id hA
  obtain ⟨o1, ⟨hW1, hW2⟩, ⟨hH1, hH2⟩, ⟨hL1, hL2⟩, hn⟩ := id hO
  have hC := p_WH hW2 hH2
  refine k_of rfl rfl (Nat.le_of_ble_eq_true rfl) ?_
  refine r_al rfl rfl ?_
  refine r_gf rfl h11 rfl rfl ?_
  refine r_dupA rfl ?_
  refine r_gf rfl o1 rfl rfl ?_
  refine r_ic rfl ?_
  refine r_il rfl rfl ?_
  refine r_ishl rfl ?_
  refine r_ior rfl ?_
  refine r_pf3 rfl o1 rfl rfl rfl (Or.inl rfl) ?_
  have s1 : z_ev M (M.set 13 (.inl (2, [.int (zI (D.1.1 : Int)), .int (zI (D.1.2.1 : Int)), .int (zI (D.1.2.2 : Int)), .int (h_add D.2.1 c), .int (zI (D.2.2.1 : Int)), .int lot, .ref 14]))) (fun k => k = 13) := .set rfl
  have hA1 := hA.house (hs' := h_add D.2.1 c) (fun k hk => by rw [hn0] at hk; omega)
  obtain ⟨M1, k1, e1, t1⟩ := c_nextSemi (S := S) (d := d) (h.ev s1 (by decide) (by decide)) hpos
  have E1 : z_ev M M1 (fun k => 11 ≤ k ∧ k < 25) := (s1.wk (fun k g => by omega)).tr (e1.wk (fun k g => by omega))
  have D1 : x_D M1 T tx m (D.1, h_add D.2.1 c, D.2.2) lot _ _ _ _ := ⟨t1, hA1.ev e1 (fun k g1 g2 => by omega), r0, (hr0.eqv s1 (by decide) (by decide)).eqv e1 (by decide) (by decide)⟩
  refine r_al rfl rfl ?_
  refine r_cv0 rfl rfl ((s1.2 11 (by decide)).trans h11) rfl (by decide) rfl (k1) ?_
  by_cases hn4 : t_kd T tx (t_q T tx pos) = 3
  · rw [if_pos hn4, t_semi_p hn4]
    refine r_reti rfl rfl ?_
    exact ⟨E1, rfl, _, _, _, D1⟩
  · rw [if_neg hn4, t_semi_n hn4]
    refine r_reti rfl rfl ?_
    exact ⟨E1, rfl, D1.fl⟩
set_option maxRecDepth 20000 in
theorem c_endChain {pos c : Nat} (hD : x_D M T tx m D lot q kd pos nm) (hpos : pos ≤ T) (hn4' : D.2.2.1 < 4) (hc9 : c < D.1.1 * D.1.2.1) : ∃ r M', z_C S (d + 4) 18 [.ref 11, .int (zI (c : Int))] M r M' ∧ x_U M M' T tx m lot (if bt D.2.1 c = true then .inl q else t_steps T tx D c pos) r := by
  obtain ⟨h, hA, r0, hr0⟩ := id hD
  obtain ⟨hT, h11, -⟩ := id h
  obtain ⟨ha, hO, ch, hR, hk9⟩ := id hA
  obtain ⟨o1, ⟨hW1, hW2⟩, ⟨hH1, hH2⟩, ⟨hL1, hL2⟩, hn⟩ := id hO
  have hC := p_WH hW2 hH2
  refine k_of rfl rfl (Nat.le_of_ble_eq_true rfl) ?_
  obtain ⟨y1, y2, y3, y4, g0⟩ := r0
  refine r_al rfl rfl ?_
  refine r_gf rfl h11 rfl rfl ?_
  refine r_il rfl rfl ?_
  refine r_cv1 rfl rfl o1 rfl (by decide) rfl (c_isFree hO (c := (c : Int)) ⟨by omega, by omega⟩) ?_
  by_cases hb : bt D.2.1 c = true
  · have hfr : ¬ (0 ≤ (c : Int) ∧ (c : Int) < ((D.1.1 * D.1.2.1 : Nat) : Int) ∧ ¬ bt D.2.1 (c : Int).toNat = true) := fun g => g.2.2 (by rw [Int.toNat_natCast]; exact hb)
    rw [if_neg hfr, if_pos hb]
    refine r_ifF rfl (zcF1 (rfl)) ?_
    refine r_ic rfl ?_
    refine r_reti rfl rfl ?_
    exact ⟨.rf, rfl, hD.fl⟩
  · have hfr : 0 ≤ (c : Int) ∧ (c : Int) < ((D.1.1 * D.1.2.1 : Nat) : Int) ∧ ¬ bt D.2.1 (c : Int).toNat = true := ⟨by omega, by omega, by rw [Int.toNat_natCast]; exact hb⟩
    rw [if_pos hfr, if_neg hb]
    have s1 : z_ev M (M.set 23 (.inl (0, [.int (zI (c : Int)), .int y2, .int y3, .int y4, .ref 24]))) (fun k => k = 23) := .set rfl
    obtain ⟨M1, k1, e1, t1⟩ := c_nextToken (S := S) (d := d + 2) (h.ev s1 (by decide) (by decide)) hpos
    obtain ⟨p1, p2, p3, p4⟩ := t_pos (tx := tx) hpos
    have kl := t_kd_le (T := T) (tx := tx) (q := (t_q T tx pos))
    have f1 : z_ev M M1 (fun k => k = 11 ∨ k = 23) := (s1.wk (fun k g => Or.inr g)).tr (e1.wk (fun k g => Or.inl g))
    have E1 : z_ev M M1 (fun k => 11 ≤ k ∧ k < 25) := f1.wk (fun k g => by omega)
    have A1 := hA.ev f1 (fun k g1 g2 => by omega)
    have C1 : k_c M1 23 (zI (c : Int), y2, y3, y4, g0) := ⟨(e1.2 23 (by decide)).trans (z_gs hr0.1), (f1.2 24 (by decide)).trans hr0.2⟩
    have D1 : x_D M1 T tx m D lot _ _ _ _ := ⟨t1, A1, _, C1⟩
    obtain ⟨-, b11, -⟩ := id t1
    refine r_ifT rfl (zcT1 ⟨by omega, by omega⟩ ⟨by omega, by omega⟩ (by decide)) ?_
    refine r_al rfl rfl ?_
    refine r_gf rfl h11 rfl rfl ?_
    refine r_il rfl rfl ?_
    refine r_pf0 rfl hr0.1 rfl rfl rfl (Or.inl rfl) ?_
    refine r_al rfl rfl ?_
    refine r_cv0v rfl rfl ((s1.2 11 (by decide)).trans h11) rfl (by decide) rfl (k1) ?_
    refine r_al rfl rfl ?_
    refine r_gf rfl b11 rfl rfl ?_
    refine r_ic rfl ?_
    by_cases hk1 : t_kd T tx (t_q T tx pos) = 1
    · obtain ⟨rr, M2, k2, e2, hcs⟩ := c_takeSteps (S := S) (d := d + 2) t1 p4 p2 C1
      have T2 := t1.ev e2 (by decide) (by decide)
      have A2 := A1.ev e2 (fun k g1 g2 => by omega)
      have E2 : z_ev M M2 (fun k => 11 ≤ k ∧ k < 25) := E1.tr (e2.wk (fun k g => by omega))
      obtain ⟨-, c11, -⟩ := id T2
      have he2 := (t_e_ok (tx := tx) p1).2.2 (by omega)
      refine r_icF rfl (zcF1 (by omega)) ?_
      refine r_al rfl rfl ?_
      rcases hcs with ⟨rfl, hN12, g1, C2, hg1⟩ | ⟨rfl, hno, r2, C2⟩
      · refine r_cv0 rfl rfl b11 rfl (by decide) rfl (k2) ?_
        obtain ⟨la, rfl, -⟩ := zI_of y2
        have hkC : k_C M2 23 24 (c : Int) la ((t_e T tx (t_q T tx pos)) - (t_q T tx pos)) y4 g1 (t_st T tx (t_q T tx pos)) := ⟨C2.1, C2.2, hN12, by decide, hg1⟩
        have hw := c_walkOver (S := S) (d := d) A2.2.1 (f := c) hc9 hb hkC
        generalize hN : (t_e T tx (t_q T tx pos)) - (t_q T tx pos) = N at *
        refine r_ifF rfl (zcF0 ⟨by omega, by omega⟩ ⟨by omega, by omega⟩ (by decide)) ?_
        refine r_al rfl rfl ?_
        refine r_gf rfl c11 rfl rfl ?_
        refine r_al rfl rfl ?_
        refine r_gf rfl c11 rfl rfl ?_
        by_cases hp9 : (p_pos D.1.1 D.1.2.1 D.2.1 c (t_st T tx (t_q T tx pos)) N).isSome = true
        · rw [if_pos hp9] at hw
          obtain ⟨hok0, hpl, hmk⟩ := p_pos_ok hc9 hb (show 1 ≤ N by omega) hN12 hp9
          have ew : w_walk M2 D.1.1 D.1.2.1 D.2.1 23 24 c N (t_st T tx (t_q T tx pos)) = M2.set 23 (.inl (0, [.int (zI (c : Int)), .int (zI (k_last D.1.1 D.1.2.1 (c, N, t_st T tx (t_q T tx pos)) : Int)), .int (zI (N : Int)), .int (q_msk D.1.1 D.1.2.1 c (t_st T tx (t_q T tx pos)) N), .ref 24])) := by
            unfold w_walk
            rw [hpl, hmk]
          rw [ew] at hw
          have s3 : z_ev M2 (M2.set 23 (.inl (0, [.int (zI (c : Int)), .int (zI (k_last D.1.1 D.1.2.1 (c, N, t_st T tx (t_q T tx pos)) : Int)), .int (zI (N : Int)), .int (q_msk D.1.1 D.1.2.1 c (t_st T tx (t_q T tx pos)) N), .ref 24]))) (fun k => k = 23) := .set rfl
          obtain ⟨M4, k4, e4, t4⟩ := c_nextSemi (S := S) (d := d + 1) (T2.ev s3 (by decide) (by decide)) p2
          have f4 : z_ev M2 M4 (fun k => k = 11 ∨ k = 23) := (s3.wk (fun k g => Or.inr g)).tr (e4.wk (fun k g => Or.inl g))
          have E4 : z_ev M M4 (fun k => 11 ≤ k ∧ k < 25) := E2.tr (f4.wk (fun k g => by omega))
          have A4 := A2.ev f4 (fun k g1 g2 => by omega)
          have C4 : k_c M4 23 (zI (c : Int), zI (k_last D.1.1 D.1.2.1 (c, N, t_st T tx (t_q T tx pos)) : Int), zI (N : Int), q_msk D.1.1 D.1.2.1 c (t_st T tx (t_q T tx pos)) N, g1) := ⟨(e4.2 23 (by decide)).trans (z_gs C2.1), (f4.2 24 (by decide)).trans C2.2⟩
          have hgo : t_go T tx D c (t_q T tx pos) := ⟨hk1, by omega, by rw [hN]; exact hp9⟩
          obtain ⟨-, d11, -⟩ := id t4
          refine r_cv1 rfl rfl A2.2.1.1 rfl (by decide) rfl (hw) ?_
          refine r_ifF rfl (zcF0 ⟨by omega, by omega⟩ ⟨by omega, by omega⟩ (by decide)) ?_
          refine r_al rfl rfl ?_
          refine r_cv0 rfl rfl ((s3.2 11 (by decide)).trans c11) rfl (by decide) rfl (k4) ?_
          by_cases hn4 : t_kd T tx (t_q T tx (t_e T tx (t_q T tx pos))) = 3
          · rw [if_pos hn4]
            have hu : t_steps T tx D c pos = .inr (t_add T tx D c (t_q T tx pos), _) := (if_pos hgo).trans (t_semi_p hn4)
            obtain ⟨M5, k5, e5, A5⟩ := c_addChain (S := S) (d := d + 2) A4 C4 (k0 := (c, N, t_st T tx (t_q T tx pos))) ⟨rfl, rfl, rfl, rfl, fun j hj => (hg1 j hj).1⟩ hok0 (by omega) hn4'
            have D5 : x_D M5 T tx m (t_add T tx D c (t_q T tx pos)) lot _ _ _ _ := ⟨t4.ev e5 (by unfold z_sI; omega) (by unfold z_sI; omega), by unfold t_add; rw [hN]; exact A5, _, C4.eqv e5 (by unfold z_sI; omega) (by unfold z_sI; omega)⟩
            refine r_ifF rfl (zcF0 ⟨by omega, by omega⟩ ⟨by omega, by omega⟩ (by decide)) ?_
            refine r_al rfl rfl ?_
            refine r_gf rfl d11 rfl rfl ?_
            refine r_al rfl rfl ?_
            refine r_gf rfl d11 rfl rfl ?_
            refine r_cv1 rfl rfl A4.2.1.1 rfl (by decide) rfl (k5) ?_
            refine r_ifF rfl (zcF0 ⟨by omega, by omega⟩ ⟨by omega, by omega⟩ (by decide)) ?_
            refine r_ic rfl ?_
            refine r_goto rfl ?_
            refine r_reti rfl rfl ?_
            rw [hu]
            exact ⟨E4.tr (e5.wk (fun k g => by have := g.1; have := g.2; omega)), rfl, _, _, _, D5⟩
          · rw [if_neg hn4]
            have hu : t_steps T tx D c pos = .inl _ := (if_pos hgo).trans (t_semi_n hn4)
            refine r_ifT rfl (zcT0 (rfl)) ?_
            refine r_ic rfl ?_
            refine r_reti rfl rfl ?_
            rw [hu]
            exact ⟨E4, rfl, ⟨_, _, _, t4⟩, A4.fo.1, A4.fo.2, _, C4⟩
        · rw [if_neg hp9] at hw
          have ew : w_walk M2 D.1.1 D.1.2.1 D.2.1 23 24 c N (t_st T tx (t_q T tx pos)) = M2 := by
            unfold w_walk
            cases e9 : p_pos D.1.1 D.1.2.1 D.2.1 c (t_st T tx (t_q T tx pos)) N with
            | none => rfl
            | some t => rw [e9] at hp9; exact absurd rfl hp9
          rw [ew] at hw
          have hu : t_steps T tx D c pos = .inl (t_q T tx pos) := if_neg (fun g => hp9 (by rw [← hN]; exact g.2.2))
          refine r_cv1 rfl rfl A2.2.1.1 rfl (by decide) rfl (hw) ?_
          refine r_ifT rfl (zcT0 (rfl)) ?_
          refine r_ic rfl ?_
          refine r_reti rfl rfl ?_
          rw [hu]
          exact ⟨E2, rfl, ⟨_, _, _, T2⟩, A2.fo.1, A2.fo.2, _, C2⟩
      · refine r_cv0 rfl rfl b11 rfl (by decide) rfl (k2) ?_
        have hu : t_steps T tx D c pos = .inl (t_q T tx pos) := if_neg (fun g => hno ⟨g.2.1, p_pos_dir g.2.2⟩)
        refine r_ifT rfl (zcT0 (rfl)) ?_
        refine r_ic rfl ?_
        refine r_reti rfl rfl ?_
        rw [hu]
        exact ⟨E2, rfl, ⟨_, _, _, T2⟩, A2.fo.1, A2.fo.2, _, C2⟩
    · have hu : t_steps T tx D c pos = .inl (t_q T tx pos) := if_neg (fun g => hk1 g.1)
      refine r_icT rfl (zcT1 ⟨by omega, by omega⟩ ⟨by omega, by omega⟩ (by omega)) ?_
      refine r_ic rfl ?_
      refine r_reti rfl rfl ?_
      rw [hu]
      exact ⟨E1, rfl, D1.fl⟩
end RI
