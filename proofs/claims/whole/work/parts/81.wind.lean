/-! WIND: the class's lines -/
abbrev k_wn (n : Nat) (i4 : Int32) (L W : Nat) (op i9 : Int32) : ZE := .inl (4, [.ref 34, .ref 35, .ref 36, .int (zI (n : Int)), .int i4, .int (zI (L : Int)), .int (zI (W : Int)), .int op, .ref 37, .int i9])
def x_K (M : ZM) (L W : Nat) (op i4 i9 : Int32) (l : List (Nat × Nat)) : Prop := M[33]? = some (k_wn l.length i4 L W op i9) ∧ ∃ fs ln, M[34]? = some (zA 30 ln) ∧ M[35]? = some (zA 30 fs) ∧ w_ls l fs ln
theorem x_K.ev {M M' : ZM} {P : Nat → Prop} {L W : Nat} {op i4 i9 : Int32} {l : List (Nat × Nat)} (e : z_ev M M' P) (h1 : ¬ P 33) (h2 : ¬ P 34) (h3 : ¬ P 35) (h : x_K M L W op i4 i9 l) : x_K M' L W op i4 i9 l := by
  obtain ⟨g1, fs, ln, g2, g3, g4⟩ := h
  exact ⟨(e.2 _ h1).trans g1, fs, ln, (e.2 _ h2).trans g2, (e.2 _ h3).trans g3, g4⟩
theorem X_I.wind {M M' : ZM} {A : ZT} (e : z_ev M M' (fun k => 33 ≤ k ∧ k < 38)) (h : X_I M A) (hR : x_V M') : X_I M' A := by
  obtain ⟨h1, h2, h3, h4, h5, h6, ⟨r, h7⟩, h8⟩ := h
  exact ⟨by rw [e.1]; exact h1, (e.2 _ (by omega)).trans h2, h3.ev e (fun k g1 g2 => by omega), h4.ev e (fun k g1 g2 => by omega), h5.ev e (fun k g1 g2 => by omega), hR, ⟨r, h7.eqv e (by omega) (by omega)⟩, h8.ev e (fun k g1 g2 => by omega)⟩
theorem z_max0 {a b : Nat} (ha : a ≤ 1000) (hb : b ≤ 1000) : (if zI ((a : Int) - (b : Int)) < zI 0 then zI 0 else zI ((a : Int) - (b : Int))) = zI ((a - b : Nat) : Int) := by
  by_cases h : a < b
  · rw [if_pos (by rw [zI_lt ⟨by omega, by omega⟩ ⟨by omega, by omega⟩]; omega), show a - b = 0 by omega]
    rfl
  · rw [if_neg (by rw [zI_lt ⟨by omega, by omega⟩ ⟨by omega, by omega⟩]; omega), show ((a - b : Nat) : Int) = (a : Int) - (b : Int) by omega]
section WX
variable {S : ZS} {d : Nat} {M : ZM} {T : Nat} {tx : Nat → Int32} {W H L n : Nat} {hs lot : Int32} {kc : Nat → ZK} {im : Nat → Option ZB} {tr : Int64} {op i4 i9 : Int32}
set_option maxRecDepth 20000 in
theorem c_lookAl_l {F A : Int} {m : Nat} {e : Nat → Nat} (hm : m ≤ 5) (he9 : ∀ i, i < m → e i < 25) (hce : ∀ i : Nat, i < m → F + (i : Int) * A = (e i : Int)) : ∀ (k i : Nat) (l0 : List (Nat × Nat)) (oo : Option (Nat × Nat)) (M1 : ZM) (x6 x7 : Option Value), i + k = m → ((oo = none → l0.length + (k + 1) / 2 ≤ 30) ∧ (∀ x, oo = some x → l0.length + 1 + k / 2 ≤ 30)) → (z_ev M M1 (fun k => 33 ≤ k ∧ k < 36) ∧ x_K M1 L W op i4 i9 (l0 ++ oo.toList.map (fun x : Nat × Nat => (e x.1, x.2)))) → z_R S d 60 6 [some (.ref 33), some (.int (zI F)), some (.int (zI A)), some (.int (zI (m : Int))), some (.int (zI (if oo.isSome = true then 1 else 0))), some (.int (zI (i : Int))), x6, x7] [] M1 (fun r M2 => r = none ∧ z_ev M M2 (fun k => 33 ≤ k ∧ k < 36) ∧ x_K M2 L W op i4 i9 (l0 ++ (w_C (fun i => bt op (e i)) k i oo).map (fun x : Nat × Nat => (e x.1, x.2)))) := by
  intro k
  induction k with
  | zero =>
    intro i l0 oo M1 x6 x7 hi hbd hI
    obtain ⟨he, h33, fs, ln, h34, h35, hl⟩ := hI
    refine r_il rfl rfl ?_
    refine r_il rfl rfl ?_
    refine r_icT rfl (zcT3 ⟨by omega, by omega⟩ ⟨by omega, by omega⟩ (by omega)) ?_
    refine r_retv rfl rfl ?_
    exact ⟨rfl, he, h33, fs, ln, h34, h35, hl⟩
  | succ k ih =>
    intro i l0 oo M1 x6 x7 hi hbd hI
    obtain ⟨he, h33, fs, ln, h34, h35, hl⟩ := hI
    have ei := he9 i (by omega)
    refine r_il rfl rfl ?_
    refine r_il rfl rfl ?_
    refine r_icF rfl (zcF3 ⟨by omega, by omega⟩ ⟨by omega, by omega⟩ (by omega)) ?_
    refine r_il rfl rfl ?_
    refine r_il rfl rfl ?_
    refine r_il rfl rfl ?_
    refine r_mulI rfl ?_
    refine r_addI rfl ?_
    refine r_is6 rfl rfl ?_
    refine r_al rfl rfl ?_
    refine r_gf rfl h33 rfl rfl ?_
    refine r_il rfl rfl ?_
    refine r_ishr rfl ?_
    refine r_ic rfl ?_
    refine r_iand rfl ?_
    refine r_ic rfl ?_
    rw [hce i (by omega), z_bit op (c := e i) (by omega)]
    by_cases hb : bt op (e i) = true
    · rw [if_pos hb]
      refine r_icF rfl (zcF1 (rfl)) ?_
      refine r_ic rfl ?_
      refine r_goto rfl ?_
      refine r_is7 rfl rfl ?_
      refine r_il rfl rfl ?_
      refine r_ifF rfl (zcF0 ⟨by omega, by omega⟩ ⟨by omega, by omega⟩ (by decide)) ?_
      refine r_il rfl rfl ?_
      rcases oo with - | ⟨s, n⟩
      · rw [show (l0 ++ (none : Option (Nat × Nat)).toList.map (fun x : Nat × Nat => (e x.1, x.2))) = l0 from List.append_nil l0] at h33 hl
        have bb := hbd.1 rfl
        rw [show (if (none : Option (Nat × Nat)).isSome = true then (1 : Int) else 0) = 0 from rfl]
        refine r_ifF rfl (zcF1 (rfl)) ?_
        refine r_al rfl rfl ?_
        refine r_gf rfl h33 rfl rfl ?_
        refine r_ic rfl ?_
        refine r_icF rfl (zcF3 ⟨by omega, by omega⟩ ⟨by omega, by omega⟩ (by omega)) ?_
        refine r_al rfl rfl ?_
        refine r_gf rfl h33 rfl rfl ?_
        refine r_al rfl rfl ?_
        refine r_gf rfl h33 rfl rfl ?_
        refine r_il rfl rfl ?_
        refine r_iSI rfl h35 (by omega) (by omega) (by omega) ?_
        refine r_al rfl rfl ?_
        refine r_gf rfl (z_gn (by decide) h33) rfl rfl ?_
        refine r_al rfl rfl ?_
        refine r_gf rfl (z_gn (by decide) h33) rfl rfl ?_
        refine r_ic rfl ?_
        refine r_iSI rfl (z_gn (by decide) h34) (by omega) (by omega) (by omega) ?_
        refine r_al rfl rfl ?_
        refine r_dupA rfl ?_
        refine r_gf rfl (z_gn (by decide) (z_gn (by decide) h33)) rfl rfl ?_
        refine r_ic rfl ?_
        refine r_addI rfl ?_
        refine r_pf3 rfl (z_gn (by decide) (z_gn (by decide) h33)) rfl rfl rfl (Or.inl rfl) ?_
        refine r_il rfl rfl ?_
        refine r_ifF rfl (zcF0 ⟨by omega, by omega⟩ ⟨by omega, by omega⟩ (by decide)) ?_
        refine r_al rfl rfl ?_
        refine r_gf rfl (z_gs (z_gn (by decide) (z_gn (by decide) h33))) rfl rfl ?_
        refine r_ifF rfl (zcF5 ⟨by omega, by omega⟩ ⟨by omega, by omega⟩ (by omega)) ?_
        refine r_al rfl rfl ?_
        refine r_gf rfl (z_gs (z_gn (by decide) (z_gn (by decide) h33))) rfl rfl ?_
        refine r_al rfl rfl ?_
        refine r_gf rfl (z_gs (z_gn (by decide) (z_gn (by decide) h33))) rfl rfl ?_
        refine r_ic rfl ?_
        refine r_subI rfl ?_
        refine r_dup2 rfl ?_
        rw [show (l0.length : Int) + 1 - 1 = (l0.length : Int) by omega]
        refine r_iaI rfl (by decide) (z_gn (by decide) (z_gs (z_gn (by decide) h34))) (by omega) (by omega) (by omega) ?_
        rw [Int.toNat_natCast, pk_us]
        refine r_ic rfl ?_
        refine r_addI rfl ?_
        refine r_iSI rfl (z_gn (by decide) (z_gs (z_gn (by decide) h34))) (by omega) (by omega) (by omega) ?_
        refine r_il rfl rfl ?_
        refine r_is4 rfl rfl ?_
        refine r_jj5 rfl rfl ?_
        refine r_goto rfl ?_
        refine r_of (ih (i + 1) l0 (some (i, 1)) _ _ _ (by omega) ⟨fun g => (by cases g), fun x g => by omega⟩ ⟨(((he.tr (.set (by omega))).tr (.set (by omega))).tr (.set (by omega))).tr (.set (by omega)), ?_, upd fs l0.length (zI (e i : Int)), _, z_gs (z_gn (by decide) (z_gs (z_gn (by decide) h34))), z_gn (by decide) (z_gn (by decide) (z_gn (by decide) (z_gs h35))), (hl.add (e i) 0).inc⟩) (fun r M2 hq => ?_)
        · rw [show (l0 ++ (some (i, 1)).toList.map (fun x : Nat × Nat => (e x.1, x.2))).length = l0.length + 1 from List.length_append]
          exact z_gn (by decide) (z_gs (z_gn (by decide) (z_gn (by decide) h33)))
        · rw [show w_C (fun i => bt op (e i)) (k + 1) i none = w_C (fun i => bt op (e i)) k (i + 1) (some (i, 1)) from if_pos hb]
          exact hq
      · rw [show (l0 ++ (some (s, n)).toList.map (fun x : Nat × Nat => (e x.1, x.2))) = l0 ++ [(e s, n)] from rfl] at h33 hl
        have el : (l0 ++ [(e s, n)]).length = l0.length + 1 := List.length_append
        rw [el] at h33
        have bb := hbd.2 _ rfl
        rw [show (if (some (s, n)).isSome = true then (1 : Int) else 0) = 1 from rfl]
        refine r_ifT rfl (zcT1 ⟨by omega, by omega⟩ ⟨by omega, by omega⟩ (by decide)) ?_
        refine r_il rfl rfl ?_
        refine r_ifF rfl (zcF0 ⟨by omega, by omega⟩ ⟨by omega, by omega⟩ (by decide)) ?_
        refine r_al rfl rfl ?_
        refine r_gf rfl h33 rfl rfl ?_
        refine r_ifF rfl (zcF5 ⟨by omega, by omega⟩ ⟨by omega, by omega⟩ (by omega)) ?_
        refine r_al rfl rfl ?_
        refine r_gf rfl h33 rfl rfl ?_
        refine r_al rfl rfl ?_
        refine r_gf rfl h33 rfl rfl ?_
        refine r_ic rfl ?_
        refine r_subI rfl ?_
        refine r_dup2 rfl ?_
        rw [show ((l0.length + 1 : Nat) : Int) - 1 = (l0.length : Int) by omega]
        refine r_iaI rfl (by decide) h34 (by omega) (by omega) (by omega) ?_
        rw [Int.toNat_natCast, hl.last]
        refine r_ic rfl ?_
        refine r_addI rfl ?_
        refine r_iSI rfl h34 (by omega) (by omega) (by omega) ?_
        refine r_il rfl rfl ?_
        refine r_is4 rfl rfl ?_
        refine r_jj5 rfl rfl ?_
        refine r_goto rfl ?_
        refine r_of (ih (i + 1) l0 (some (s, n + 1)) _ _ _ (by omega) ⟨fun g => (by cases g), fun x g => by omega⟩ ⟨he.tr (.set (by omega)), ?_, fs, _, z_gs h34, z_gn (by decide) h35, hl.inc⟩) (fun r M2 hq => ?_)
        · rw [show (l0 ++ (some (s, n + 1)).toList.map (fun x : Nat × Nat => (e x.1, x.2))).length = l0.length + 1 from List.length_append]
          exact z_gn (by decide) h33
        · rw [show w_C (fun i => bt op (e i)) (k + 1) i (some (s, n)) = w_C (fun i => bt op (e i)) k (i + 1) (some (s, n + 1)) from if_pos hb]
          exact hq
    · rw [if_neg hb]
      refine r_icT rfl (zcT1 ⟨by omega, by omega⟩ ⟨by omega, by omega⟩ (by decide)) ?_
      refine r_ic rfl ?_
      refine r_is7 rfl rfl ?_
      refine r_il rfl rfl ?_
      refine r_ifT rfl (zcT0 (rfl)) ?_
      refine r_il rfl rfl ?_
      refine r_ifT rfl (zcT0 (rfl)) ?_
      refine r_il rfl rfl ?_
      refine r_is4 rfl rfl ?_
      refine r_jj5 rfl rfl ?_
      refine r_goto rfl ?_
      refine r_of (ih (i + 1) (l0 ++ oo.toList.map (fun x : Nat × Nat => (e x.1, x.2))) none _ _ _ (by omega) ⟨fun _ => ?_, fun x g => by cases g⟩ ⟨he, ?_⟩) (fun r M2 hq => ?_)
      · rw [List.length_append, List.length_map]
        rcases oo with - | x
        · have := hbd.1 rfl
          show l0.length + 0 + (k + 1) / 2 ≤ 30
          omega
        · have := hbd.2 x rfl
          show l0.length + 1 + (k + 1) / 2 ≤ 30
          omega
      · rw [show ((l0 ++ oo.toList.map (fun x : Nat × Nat => (e x.1, x.2))) ++ (none : Option (Nat × Nat)).toList.map (fun x : Nat × Nat => (e x.1, x.2))) = l0 ++ oo.toList.map (fun x : Nat × Nat => (e x.1, x.2)) from List.append_nil _]
        exact ⟨h33, fs, ln, h34, h35, hl⟩
      · rw [show w_C (fun i => bt op (e i)) (k + 1) i oo = oo.toList ++ w_C (fun i => bt op (e i)) k (i + 1) none from if_neg hb, List.map_append, ← List.append_assoc]
        exact hq
theorem c_lookAlong {F A : Int} {m : Nat} {e : Nat → Nat} (hm : m ≤ 5) (he9 : ∀ i, i < m → e i < 25) (hce : ∀ i : Nat, i < m → F + (i : Int) * A = (e i : Int)) {l : List (Nat × Nat)} (hl : l.length ≤ 27) (hK : x_K M L W op i4 i9 l) : ∃ M', z_C S d 60 [.ref 33, .int (zI F), .int (zI A), .int (zI (m : Int))] M none M' ∧ z_ev M M' (fun k => 33 ≤ k ∧ k < 36) ∧ x_K M' L W op i4 i9 (l ++ (w_R (fun i => bt op (e i)) m 0 false).map (fun x : Nat × Nat => (e x.1, x.2))) := by
  refine k_an ?_
  refine k_of rfl rfl (Nat.le_of_ble_eq_true rfl) ?_
  refine r_ic rfl ?_
  refine r_is4 rfl rfl ?_
  refine r_ic rfl ?_
  refine r_is5 rfl rfl ?_
  have t := c_lookAl_l (S := S) (d := d) (M := M) (L := L) (W := W) (op := op) (i4 := i4) (i9 := i9) (F := F) (A := A) (m := m) (e := e) hm he9 hce m 0 l none M none none (by omega) ⟨fun _ => by omega, fun x g => by cases g⟩ ⟨.rf, by rw [show (l ++ (none : Option (Nat × Nat)).toList.map (fun x : Nat × Nat => (e x.1, x.2))) = l from List.append_nil l]; exact hK⟩
  rw [(w_C_eq m 0).1] at t
  exact t
set_option maxRecDepth 20000 in
theorem c_look_c {a nc : Nat} {lt : Int32} (hO : k_O M a W H L hs nc lt) (ha : a < 30) : ∀ (k x : Nat) (l : List (Nat × Nat)) (M1 : ZM), x + k = W → l.length ≤ 15 + 3 * x → l ++ w_cols op W H k x = w_all op W H → (z_ev M M1 (fun k => 33 ≤ k ∧ k < 36) ∧ x_K M1 L W op (zI ((w_rows op W H 0).length : Int)) i9 l) → z_R S (d + 1) 59 70 [some (.ref 33), some (.ref a), some (.int (zI (x : Int)))] [] M1 (fun r M2 => r = none ∧ z_ev M M2 (fun k => 33 ≤ k ∧ k < 36) ∧ x_K M2 L W op (zI ((w_rows op W H 0).length : Int)) i9 (w_all op W H)) := by
  intro k
  induction k with
  | zero =>
    intro x l M1 hx hl9 hl hI
    obtain ⟨he, hK⟩ := hI
    obtain ⟨o1, ⟨hW1, hW2⟩, ⟨hH1, hH2⟩, ⟨hL1, hL2⟩, hn⟩ := id (hO.ev he (show ¬ (33 ≤ a ∧ a < 36) by omega))
    have hC := p_WH hW2 hH2
    refine r_il rfl rfl ?_
    refine r_al rfl rfl ?_
    refine r_gf rfl hK.1 rfl rfl ?_
    refine r_icT rfl (zcT3 ⟨by omega, by omega⟩ ⟨by omega, by omega⟩ (by omega)) ?_
    refine r_retv rfl rfl ?_
    rw [show l ++ w_cols op W H 0 x = l from List.append_nil l] at hl
    rw [hl] at hK
    exact ⟨rfl, he, hK⟩
  | succ k ih =>
    intro x l M1 hx hl9 hl hI
    obtain ⟨he, hK⟩ := hI
    obtain ⟨o1, ⟨hW1, hW2⟩, ⟨hH1, hH2⟩, ⟨hL1, hL2⟩, hn⟩ := id (hO.ev he (show ¬ (33 ≤ a ∧ a < 36) by omega))
    have hC := p_WH hW2 hH2
    obtain ⟨M2, k2, e2, hK2⟩ := c_lookAlong (S := S) (d := d) (F := (x : Int)) (A := (W : Int)) (m := H) (e := fun i => W * i + x) hH2 (fun i hi => by have := w_cell (W := W) (H := H) hi (show x < W by omega); show W * i + x < 25; omega) (fun i hi => by show _ = ((W * i + x : Nat) : Int); rw [Int.mul_comm]; omega) (l := l) (by omega) hK
    have hr := w_cs_len (op := op) (W := W) (x := x) hH2
    refine r_il rfl rfl ?_
    refine r_al rfl rfl ?_
    refine r_gf rfl hK.1 rfl rfl ?_
    refine r_icF rfl (zcF3 ⟨by omega, by omega⟩ ⟨by omega, by omega⟩ (by omega)) ?_
    refine r_al rfl rfl ?_
    refine r_il rfl rfl ?_
    refine r_al rfl rfl ?_
    refine r_gf rfl hK.1 rfl rfl ?_
    refine r_al rfl rfl ?_
    refine r_gf rfl o1 rfl rfl ?_
    refine r_cv3v rfl rfl hK.1 rfl (by decide) rfl (k2) ?_
    refine r_jj2 rfl rfl ?_
    refine r_goto rfl ?_
    refine ih (x + 1) (l ++ w_cs op W H x) M2 (by omega) ?_ ?_ ⟨he.tr e2, hK2⟩
    · rw [List.length_append]
      omega
    · rw [List.append_assoc]
      exact hl
set_option maxRecDepth 20000 in
theorem c_look_r {a nc : Nat} {lt : Int32} (hO : k_O M a W H L hs nc lt) (ha : a < 30) : ∀ (k y : Nat) (l : List (Nat × Nat)) (M1 : ZM), y + k = H → l.length ≤ 3 * y → l ++ w_rows op W k y = w_rows op W H 0 → (z_ev M M1 (fun k => 33 ≤ k ∧ k < 36) ∧ x_K M1 L W op i4 i9 l) → z_R S (d + 1) 59 31 [some (.ref 33), some (.ref a), some (.int (zI (y : Int)))] [] M1 (fun r M2 => r = none ∧ z_ev M M2 (fun k => 33 ≤ k ∧ k < 36) ∧ x_K M2 L W op (zI ((w_rows op W H 0).length : Int)) i9 (w_all op W H)) := by
  intro k
  induction k with
  | zero =>
    intro y l M1 hy hl9 hl hI
    obtain ⟨he, hK⟩ := hI
    obtain ⟨o1, ⟨hW1, hW2⟩, ⟨hH1, hH2⟩, ⟨hL1, hL2⟩, hn⟩ := id (hO.ev he (show ¬ (33 ≤ a ∧ a < 36) by omega))
    have hC := p_WH hW2 hH2
    rw [show l ++ w_rows op W 0 y = l from List.append_nil l] at hl
    refine r_il rfl rfl ?_
    refine r_al rfl rfl ?_
    refine r_gf rfl o1 rfl rfl ?_
    refine r_icT rfl (zcT3 ⟨by omega, by omega⟩ ⟨by omega, by omega⟩ (by omega)) ?_
    refine r_al rfl rfl ?_
    refine r_al rfl rfl ?_
    refine r_gf rfl hK.1 rfl rfl ?_
    refine r_pf4 rfl hK.1 rfl rfl rfl (Or.inl rfl) ?_
    refine r_ic rfl ?_
    refine r_is2 rfl rfl ?_
    subst hl
    obtain ⟨h33, fs, ln, h34, h35, h36⟩ := hK
    have hr := (w_all_in (op := op) hW2 hH2).2.1
    exact c_look_c hO ha W 0 (w_rows op W H 0) _ (by omega) (by omega) rfl ⟨he.tr (.set (by omega)), z_gs h33, fs, ln, z_gn (by decide) h34, z_gn (by decide) h35, h36⟩
  | succ k ih =>
    intro y l M1 hy hl9 hl hI
    obtain ⟨he, hK⟩ := hI
    obtain ⟨o1, ⟨hW1, hW2⟩, ⟨hH1, hH2⟩, ⟨hL1, hL2⟩, hn⟩ := id (hO.ev he (show ¬ (33 ≤ a ∧ a < 36) by omega))
    have hC := p_WH hW2 hH2
    obtain ⟨M2, k2, e2, hK2⟩ := c_lookAlong (S := S) (d := d) (F := (y : Int) * (W : Int)) (A := 1) (m := W) (e := fun i => W * y + i) hW2 (fun i hi => by have := w_cell (W := W) (H := H) (y := y) (show y < H by omega) hi; show W * y + i < 25; omega) (fun i hi => by show _ = ((W * y + i : Nat) : Int); rw [Int.mul_comm]; omega) (l := l) (by omega) hK
    have hr := w_rs_len (op := op) (W := W) (y := y) hW2
    refine r_il rfl rfl ?_
    refine r_al rfl rfl ?_
    refine r_gf rfl o1 rfl rfl ?_
    refine r_icF rfl (zcF3 ⟨by omega, by omega⟩ ⟨by omega, by omega⟩ (by omega)) ?_
    refine r_al rfl rfl ?_
    refine r_il rfl rfl ?_
    refine r_al rfl rfl ?_
    refine r_gf rfl hK.1 rfl rfl ?_
    refine r_mulI rfl ?_
    refine r_ic rfl ?_
    refine r_al rfl rfl ?_
    refine r_gf rfl hK.1 rfl rfl ?_
    refine r_cv3v rfl rfl hK.1 rfl (by decide) rfl (k2) ?_
    refine r_jj2 rfl rfl ?_
    refine r_goto rfl ?_
    refine ih (y + 1) (l ++ w_rs op W y) M2 (by omega) ?_ ?_ ⟨he.tr e2, hK2⟩
    · rw [List.length_append]
      omega
    · rw [List.append_assoc]
      exact hl
theorem c_look {a nc : Nat} {lt : Int32} {ch : Nat → ZCh} (hO : k_O M a W H L hs nc lt) (hR : k_R M a ch) (ha : a + 10 ≤ 33) (hV : x_V M) {op : Int32} (hop : p_open W H hs (p_trod (fun k => (ch k).2.2.2.1) nc) = op) : ∃ i9 M', z_C S (d + 2) 59 [.ref 33, .ref a] M none M' ∧ z_ev M M' (fun k => 33 ≤ k ∧ k < 36) ∧ x_K M' L W op (zI ((w_rows op W H 0).length : Int)) i9 (w_all op W H) := by
  subst hop
  obtain ⟨o1, ⟨hW1, hW2⟩, ⟨hH1, hH2⟩, ⟨hL1, hL2⟩, hn⟩ := id hO
  have hC := p_WH hW2 hH2
  obtain ⟨⟨i3, i4, i5, i6, i7, i9, v1⟩, ⟨f34, v34⟩, ⟨f35, v35⟩, v36, v37⟩ := hV
  refine ⟨i9, ?_⟩
  have ha : a < 30 := by omega
  refine k_an ?_
  refine k_of rfl rfl (Nat.le_of_ble_eq_true rfl) ?_
  refine r_al rfl rfl ?_
  refine r_al rfl rfl ?_
  refine r_gf rfl o1 rfl rfl ?_
  refine r_pf5 rfl v1 rfl rfl rfl (Or.inl rfl) ?_
  refine r_al rfl rfl ?_
  refine r_al rfl rfl ?_
  refine r_gf rfl (z_gn (by omega) o1) rfl rfl ?_
  refine r_pf6 rfl (z_gs v1) rfl rfl rfl (Or.inl rfl) ?_
  rw [List.set_set]
  refine r_al rfl rfl ?_
  refine r_al rfl rfl ?_
  have e0 : z_ev M (M.set 33 (.inl (4, [.ref 34, .ref 35, .ref 36, .int i3, .int i4, .int (zI (L : Int)), .int (zI (W : Int)), .int i7, .ref 37, .int i9]))) (fun k => 33 ≤ k ∧ k < 36) := .set (by omega)
  refine r_cv0 rfl rfl (z_gn (by omega) o1) rfl (by decide) rfl (c_openCells (hO.ev e0 (show ¬ (33 ≤ a ∧ a < 36) by omega)) (hR.eqv e0 (fun k g1 g2 => show ¬ (33 ≤ k ∧ k < 36) by omega))) ?_
  refine r_pf7 rfl (z_gs v1) rfl rfl rfl (Or.inl rfl) ?_
  rw [List.set_set]
  refine r_al rfl rfl ?_
  refine r_ic rfl ?_
  refine r_pf3 rfl (z_gs v1) rfl rfl rfl (Or.inl rfl) ?_
  rw [List.set_set]
  refine r_ic rfl ?_
  refine r_is2 rfl rfl ?_
  exact c_look_r hO ha H 0 [] _ (by omega) (by show 0 ≤ _; omega) rfl ⟨.set (by omega), z_gs v1, f35, f34, z_gn (by decide) v34, z_gn (by decide) v35, fun j x hx => by cases hx⟩
theorem c_harmOf {l : List (Nat × Nat)} (hK : x_K M L W op i4 i9 l) (hin : w_in l) (hL : L ≤ 3) (hlen : l.length ≤ 30) {j : Nat} (hj : j < l.length) : z_C S d 61 [.ref 33, .int (zI (j : Int))] M (some (.int (zI ((w_len l j - L : Nat) : Int)))) M := by
  obtain ⟨h33, fs, ln, h34, h35, hl⟩ := id hK
  have b1 := hin.at hj
  refine c_of rfl rfl (Nat.le_of_ble_eq_true rfl) ?_
  refine g_il rfl rfl ?_
  refine g_ifF rfl (zcF2 ⟨by omega, by omega⟩ ⟨by omega, by omega⟩ (by omega)) ?_
  refine g_il rfl rfl ?_
  refine g_al rfl rfl ?_
  refine g_gf rfl hK.1 rfl rfl ?_
  refine g_icF rfl (zcF3 ⟨by omega, by omega⟩ ⟨by omega, by omega⟩ (by omega)) ?_
  refine g_al rfl rfl ?_
  refine g_gf rfl hK.1 rfl rfl ?_
  refine g_il rfl rfl ?_
  refine g_iaI rfl (by decide) h34 (by omega) (by omega) (by omega) ?_
  rw [Int.toNat_natCast, (hl.at hj).2]
  refine g_al rfl rfl ?_
  refine g_gf rfl hK.1 rfl rfl ?_
  refine g_subI rfl ?_
  refine g_ic rfl ?_
  refine g_max rfl rfl ?_
  refine g_goto rfl ?_
  rw [z_max0 (by omega) (by omega)]
  exact g_reti rfl (rfl) rfl
theorem c_harmOfAll_l {l : List (Nat × Nat)} (hK : x_K M L W op i4 i9 l) (hin : w_in l) (hL : L ≤ 3) (hlen : l.length ≤ 30) : ∀ (m j : Nat), j + m = l.length → z_G S (d + 1) 62 4 [some (.ref 33), some (.int (zI (w_hm L l j : Int))), some (.int (zI (j : Int)))] [] M (some (.int (zI (w_hm L l l.length : Int)))) M := by
  intro m
  induction m with
  | zero =>
    intro j hj
    refine g_il rfl rfl ?_
    refine g_al rfl rfl ?_
    refine g_gf rfl hK.1 rfl rfl ?_
    refine g_icT rfl (zcT3 ⟨by omega, by omega⟩ ⟨by omega, by omega⟩ (by omega)) ?_
    refine g_il rfl rfl ?_
    exact g_reti rfl (by rw [show l.length = j by omega]) rfl
  | succ m ih =>
    intro j hj
    refine g_il rfl rfl ?_
    refine g_al rfl rfl ?_
    refine g_gf rfl hK.1 rfl rfl ?_
    refine g_icF rfl (zcF3 ⟨by omega, by omega⟩ ⟨by omega, by omega⟩ (by omega)) ?_
    refine g_il rfl rfl ?_
    refine g_al rfl rfl ?_
    refine g_il rfl rfl ?_
    refine g_cv1 rfl rfl hK.1 rfl (by decide) rfl (c_harmOf hK hin hL hlen (j := j) (by omega)) ?_
    refine g_addI rfl ?_
    refine g_is1 rfl rfl ?_
    refine g_jj2 rfl rfl ?_
    refine g_goto rfl ?_
    rw [← Int.natCast_add]
    exact ih (j + 1) (by omega)
theorem c_harmOfAll {l : List (Nat × Nat)} (hK : x_K M L W op i4 i9 l) (hin : w_in l) (hL : L ≤ 3) (hlen : l.length ≤ 30) : z_C S (d + 1) 62 [.ref 33] M (some (.int (zI (w_hm L l l.length : Int)))) M := by
  refine c_of rfl rfl (Nat.le_of_ble_eq_true rfl) ?_
  refine g_ic rfl ?_
  refine g_is1 rfl rfl ?_
  refine g_ic rfl ?_
  refine g_is2 rfl rfl ?_
  exact c_harmOfAll_l hK hin hL hlen l.length 0 (by omega)
theorem c_longest_l {l : List (Nat × Nat)} (hK : x_K M L W op i4 i9 l) (hin : w_in l) (hL : L ≤ 3) (hlen : l.length ≤ 30) : ∀ (m j : Nat), j + m = l.length → 1 ≤ j → z_G S d 63 15 [some (.ref 33), some (.int (zI (w_lg (w_len l) j : Int))), some (.int (zI (j : Int)))] [] M (some (.int (zI (w_lg (w_len l) l.length : Int)))) M := by
  obtain ⟨h33, fs, ln, h34, h35, hl⟩ := id hK
  intro m
  induction m with
  | zero =>
    intro j hj h1
    refine g_il rfl rfl ?_
    refine g_al rfl rfl ?_
    refine g_gf rfl hK.1 rfl rfl ?_
    refine g_icT rfl (zcT3 ⟨by omega, by omega⟩ ⟨by omega, by omega⟩ (by omega)) ?_
    refine g_il rfl rfl ?_
    exact g_reti rfl (by rw [show l.length = j by omega]) rfl
  | succ m ih =>
    intro j hj h1
    have b0 := w_lg_lt (f := w_len l) j (by omega)
    have b1 := hin.at (show j < l.length by omega)
    have b2 := hin.at (show w_lg (w_len l) j < l.length by omega)
    refine g_il rfl rfl ?_
    refine g_al rfl rfl ?_
    refine g_gf rfl hK.1 rfl rfl ?_
    refine g_icF rfl (zcF3 ⟨by omega, by omega⟩ ⟨by omega, by omega⟩ (by omega)) ?_
    refine g_al rfl rfl ?_
    refine g_gf rfl hK.1 rfl rfl ?_
    refine g_il rfl rfl ?_
    refine g_iaI rfl (by decide) h34 (by omega) (by omega) (by omega) ?_
    rw [Int.toNat_natCast, (hl.at (show j < l.length by omega)).2]
    refine g_al rfl rfl ?_
    refine g_gf rfl hK.1 rfl rfl ?_
    refine g_il rfl rfl ?_
    refine g_iaI rfl (by decide) h34 (by omega) (by omega) (by omega) ?_
    rw [Int.toNat_natCast, (hl.at (show w_lg (w_len l) j < l.length by omega)).2]
    by_cases hg : w_len l (w_lg (w_len l) j) < w_len l j
    · refine g_icF rfl (zcF5 ⟨by omega, by omega⟩ ⟨by omega, by omega⟩ (by omega)) ?_
      refine g_il rfl rfl ?_
      refine g_is1 rfl rfl ?_
      refine g_jj2 rfl rfl ?_
      refine g_goto rfl ?_
      have e := ih (j + 1) (by omega) (by omega)
      rw [show w_lg (w_len l) (j + 1) = j from if_pos hg] at e
      exact e
    · refine g_icT rfl (zcT5 ⟨by omega, by omega⟩ ⟨by omega, by omega⟩ (by omega)) ?_
      refine g_jj2 rfl rfl ?_
      refine g_goto rfl ?_
      have e := ih (j + 1) (by omega) (by omega)
      rw [show w_lg (w_len l) (j + 1) = w_lg (w_len l) j from if_neg hg] at e
      exact e
theorem c_longest {l : List (Nat × Nat)} (hK : x_K M L W op i4 i9 l) (hin : w_in l) (hL : L ≤ 3) (hlen : l.length ≤ 30) : z_C S d 63 [.ref 33] M (some (.int (zI (if l.length = 0 then -1 else (w_lg (w_len l) l.length : Int))))) M := by
  obtain ⟨h33, fs, ln, h34, h35, hl⟩ := id hK
  refine c_of rfl rfl (Nat.le_of_ble_eq_true rfl) ?_
  refine g_al rfl rfl ?_
  refine g_gf rfl hK.1 rfl rfl ?_
  by_cases h0 : 0 < l.length
  · rw [if_neg (by omega)]
    refine g_ifF rfl (zcF5 ⟨by omega, by omega⟩ ⟨by omega, by omega⟩ (by omega)) ?_
    refine g_ic rfl ?_
    refine g_goto rfl ?_
    refine g_is1 rfl rfl ?_
    refine g_ic rfl ?_
    refine g_is2 rfl rfl ?_
    have e := c_longest_l (S := S) (d := d) hK hin hL hlen (l.length - 1) 1 (by omega) (by omega)
    rw [w_lg_1] at e
    exact e
  · rw [if_pos (by omega)]
    refine g_ifT rfl (zcT5 ⟨by omega, by omega⟩ ⟨by omega, by omega⟩ (by omega)) ?_
    refine g_ic rfl ?_
    refine g_is1 rfl rfl ?_
    refine g_ic rfl ?_
    refine g_is2 rfl rfl ?_
    refine g_il rfl rfl ?_
    refine g_al rfl rfl ?_
    refine g_gf rfl hK.1 rfl rfl ?_
    refine g_icT rfl (zcT3 ⟨by omega, by omega⟩ ⟨by omega, by omega⟩ (by omega)) ?_
    refine g_il rfl rfl ?_
    exact g_reti rfl (rfl) rfl
theorem x_lines {q : Int} (hq : z_sm q) {op : Int32} (hop : p_open W H hs (v_trod W H n kc) = op) : z_Xc S 81 [.int (zI q)] ((T, tx), (W, H, L), (hs, lot, n, kc), im, tr) (.int (zI (v_lines W H L op q))) ((T, tx), (W, H, L), (hs, lot, n, kc), im, tr) := by
  intro d M hX
  obtain ⟨x1, x2, x3, x4, x5, x6, x7, x8⟩ := id hX
  have hA : k_A M 1 W H L hs lot n kc := x3
  obtain ⟨ha, hO, ch, hR, hk9⟩ := id hA
  obtain ⟨o1, ⟨hW1, hW2⟩, ⟨hH1, hH2⟩, ⟨hL1, hL2⟩, hn⟩ := id hO
  have hC := p_WH hW2 hH2
  unfold v_lines
  refine k_an ?_
  refine k_of rfl rfl (Nat.le_of_ble_eq_true rfl) ?_
  refine r_il rfl rfl ?_
  by_cases h0 : q < 0
  · rw [if_neg (by omega)]
    refine r_ifT rfl (zcT2 ⟨by omega, by omega⟩ ⟨by omega, by omega⟩ (h0)) ?_
    refine r_ic rfl ?_
    refine r_reti rfl rfl ?_
    exact ⟨rfl, hX, .rf⟩
  · refine r_ifF rfl (zcF2 ⟨by omega, by omega⟩ ⟨by omega, by omega⟩ (h0)) ?_
    refine r_il rfl rfl ?_
    refine r_ic rfl ?_
    by_cases h1 : 4 < q
    · rw [if_neg (by omega)]
      refine r_icF rfl (zcF5 ⟨by omega, by omega⟩ ⟨by omega, by omega⟩ (h1)) ?_
      refine r_ic rfl ?_
      refine r_reti rfl rfl ?_
      exact ⟨rfl, hX, .rf⟩
    · rw [if_pos (by omega)]
      have hTR : p_trod (fun k => (ch k).2.2.2.1) n = v_trod W H n kc := p_trod_c (fun k hk => (hk9 k hk).2.2.2.2.1)
      obtain ⟨i9, M2, k2, e2, hK⟩ := c_look (S := S) (d := d + 17) hO hR (by decide) x6 (op := op) (by rw [hTR]; exact hop)
      obtain ⟨⟨u3, u4, u5, u6, u7, u9, v33⟩, -, -, ⟨f36, v36⟩, f37, v37⟩ := id x6
      obtain ⟨hin, hr15, hlen⟩ := w_all_in (op := op) hW2 hH2
      have hX2 : X_I M2 ((T, tx), (W, H, L), (hs, lot, n, kc), im, tr) := by
        obtain ⟨h33, fs, ln, h34, h35, hl⟩ := id hK
        exact hX.wind (e2.wk (fun k g => by omega)) ⟨⟨_, _, _, _, _, _, h33⟩, ⟨ln, h34⟩, ⟨fs, h35⟩, ⟨f36, (e2.2 36 (by decide)).trans v36⟩, f37, (e2.2 37 (by decide)).trans v37⟩
      have e9 : z_ev M M2 (fun k => k < 62) := e2.wk (fun k g => by omega)
      have z0 := (e2.2 0 (by decide)).trans x2
      refine r_icT rfl (zcT5 ⟨by omega, by omega⟩ ⟨by omega, by omega⟩ (h1)) ?_
      refine r_al rfl rfl ?_
      refine r_gf rfl x2 rfl rfl ?_
      refine r_al rfl rfl ?_
      refine r_gf rfl x2 rfl rfl ?_
      refine r_cv1v rfl rfl v33 rfl (by decide) rfl (k2) ?_
      generalize w_all op W H = l at *
      obtain ⟨h33, fs, ln, h34, h35, hl⟩ := id hK
      refine r_il rfl rfl ?_
      by_cases q0 : q = 0
      · rw [if_pos q0]
        refine r_ifF rfl (zcF1 (q0)) ?_
        refine r_al rfl rfl ?_
        refine r_gf rfl z0 rfl rfl ?_
        refine r_gf rfl hK.1 rfl rfl ?_
        refine r_reti rfl rfl ?_
        exact ⟨rfl, hX2, e9⟩
      · rw [if_neg q0]
        refine r_ifT rfl (zcT1 ⟨by omega, by omega⟩ ⟨by omega, by omega⟩ (q0)) ?_
        refine r_il rfl rfl ?_
        refine r_ic rfl ?_
        by_cases q1 : q = 1
        · rw [if_pos q1]
          refine r_icF rfl (zcF1 (q1)) ?_
          refine r_al rfl rfl ?_
          refine r_gf rfl z0 rfl rfl ?_
          refine r_cv0 rfl rfl hK.1 rfl (by decide) rfl (c_harmOfAll hK hin hL2 hlen) ?_
          refine r_reti rfl rfl ?_
          exact ⟨rfl, hX2, e9⟩
        · rw [if_neg q1]
          refine r_icT rfl (zcT1 ⟨by omega, by omega⟩ ⟨by omega, by omega⟩ (q1)) ?_
          refine r_al rfl rfl ?_
          refine r_gf rfl z0 rfl rfl ?_
          refine r_cv0 rfl rfl hK.1 rfl (by decide) rfl (c_longest hK hin hL2 hlen) ?_
          refine r_is2 rfl rfl ?_
          refine r_il rfl rfl ?_
          by_cases hz : l.length = 0
          · rw [if_pos hz, if_pos hz]
            refine r_ifF rfl (zcF3 ⟨by omega, by omega⟩ ⟨by omega, by omega⟩ (by decide)) ?_
            refine r_ic rfl ?_
            refine r_reti rfl rfl ?_
            exact ⟨rfl, hX2, e9⟩
          · rw [if_neg hz, if_neg hz]
            have b0 := w_lg_lt (f := w_len l) l.length (by omega)
            have b1 := hl.at b0
            refine r_ifT rfl (zcT3 ⟨by omega, by omega⟩ ⟨by omega, by omega⟩ (by omega)) ?_
            refine r_il rfl rfl ?_
            refine r_ic rfl ?_
            by_cases q2 : q = 2
            · rw [if_pos q2]
              refine r_icF rfl (zcF1 (q2)) ?_
              refine r_al rfl rfl ?_
              refine r_gf rfl z0 rfl rfl ?_
              refine r_gf rfl hK.1 rfl rfl ?_
              refine r_il rfl rfl ?_
              refine r_iaI rfl (by decide) h34 (by omega) (by omega) (by omega) ?_
              rw [Int.toNat_natCast, b1.2]
              refine r_reti rfl rfl ?_
              exact ⟨rfl, hX2, e9⟩
            · rw [if_neg q2]
              refine r_icT rfl (zcT1 ⟨by omega, by omega⟩ ⟨by omega, by omega⟩ (q2)) ?_
              refine r_il rfl rfl ?_
              refine r_ic rfl ?_
              by_cases q3 : q = 3
              · rw [if_pos q3]
                refine r_icF rfl (zcF1 (q3)) ?_
                refine r_al rfl rfl ?_
                refine r_gf rfl z0 rfl rfl ?_
                refine r_gf rfl hK.1 rfl rfl ?_
                refine r_il rfl rfl ?_
                refine r_iaI rfl (by decide) h35 (by omega) (by omega) (by omega) ?_
                rw [Int.toNat_natCast, b1.1]
                refine r_reti rfl rfl ?_
                exact ⟨rfl, hX2, e9⟩
              · rw [if_neg q3]
                refine r_icT rfl (zcT1 ⟨by omega, by omega⟩ ⟨by omega, by omega⟩ (q3)) ?_
                refine r_il rfl rfl ?_
                refine r_al rfl rfl ?_
                refine r_gf rfl z0 rfl rfl ?_
                refine r_gf rfl hK.1 rfl rfl ?_
                by_cases q4 : w_lg (w_len l) l.length < (w_rows op W H 0).length
                · rw [if_pos q4]
                  refine r_icF rfl (zcF3 ⟨by omega, by omega⟩ ⟨by omega, by omega⟩ (by omega)) ?_
                  refine r_ic rfl ?_
                  refine r_goto rfl ?_
                  refine r_reti rfl rfl ?_
                  exact ⟨rfl, hX2, e9⟩
                · rw [if_neg q4]
                  refine r_icT rfl (zcT3 ⟨by omega, by omega⟩ ⟨by omega, by omega⟩ (by omega)) ?_
                  refine r_ic rfl ?_
                  refine r_reti rfl rfl ?_
                  exact ⟨rfl, hX2, e9⟩
set_option maxRecDepth 20000 in
theorem x_gusts_l {l : List (Nat × Nat)} (hin : w_in l) (hL : L ≤ 3) (hlen : l.length ≤ 30) (hpos : 0 < l.length) (h00 : M[0]? = some (k_bt tr)) (hK : x_K M L W op i4 i9 l) {q : Nat} (hq : q ≤ 99) : ∀ (m k : Nat) (M1 : ZM), k + m = q → (z_ev M M1 (fun k => k = 1) ∧ k_A M1 1 W H L hs (g_lot lot k) n kc) → z_R S (d + 1) 83 41 [some (.ref 0), some (.int (zI (q : Int))), some (.int (zI (g_sum L l lot k : Int))), some (.int (zI (k : Int)))] [] M1 (fun r M2 => r = some (.int (zI (g_sum L l lot q : Int))) ∧ z_ev M M2 (fun k => k = 1) ∧ k_A M2 1 W H L hs (g_lot lot q) n kc) := by
  intro m
  induction m with
  | zero =>
    intro k M1 hk hI
    obtain ⟨he, hA1⟩ := hI
    have z0 := (he.2 0 (by decide)).trans h00
    have hK1 := hK.ev he (by decide) (by decide) (by decide)
    refine r_il rfl rfl ?_
    refine r_il rfl rfl ?_
    refine r_icT rfl (zcT3 ⟨by omega, by omega⟩ ⟨by omega, by omega⟩ (by omega)) ?_
    refine r_il rfl rfl ?_
    obtain rfl : k = q := by omega
    refine r_reti rfl rfl ?_
    exact ⟨rfl, he, hA1⟩
  | succ m ih =>
    intro k M1 hk hI
    obtain ⟨he, hA1⟩ := hI
    have z0 := (he.2 0 (by decide)).trans h00
    have hK1 := hK.ev he (by decide) (by decide) (by decide)
    refine r_il rfl rfl ?_
    refine r_il rfl rfl ?_
    refine r_icF rfl (zcF3 ⟨by omega, by omega⟩ ⟨by omega, by omega⟩ (by omega)) ?_
    have bs := g_sum_le (L := L) (lot := lot) hin k
    have bu := g_u_lt (g_lot lot (k + 1))
    have bm := Nat.mod_lt (g_u (g_lot lot (k + 1))) hpos
    refine r_al rfl rfl ?_
    refine r_gf rfl z0 rfl rfl ?_
    refine r_al rfl rfl ?_
    refine r_gf rfl z0 rfl rfl ?_
    refine r_gf rfl hA1.2.1.1 rfl rfl ?_
    refine r_ic rfl ?_
    refine r_imul rfl ?_
    refine r_ic rfl ?_
    refine r_iadd rfl ?_
    refine r_pf5 rfl hA1.2.1.1 rfl rfl rfl (Or.inl rfl) ?_
    have hA2 : k_A (M1.set 1 (.inl (2, [.int (zI (W : Int)), .int (zI (H : Int)), .int (zI (L : Int)), .int hs, .int (zI (n : Int)), .int (g_lot lot (k + 1)), .ref 2]))) 1 W H L hs (g_lot lot (k + 1)) n kc := hA1.cell (Nat.le_refl n)
    have hK2 := hK1.ev (z_ev.set (P := fun k => k = 1) (e := .inl (2, [.int (zI (W : Int)), .int (zI (H : Int)), .int (zI (L : Int)), .int hs, .int (zI (n : Int)), .int (g_lot lot (k + 1)), .ref 2])) rfl) (by decide) (by decide) (by decide)
    rw [show g_lot lot k * zI 1103515245 + zI 12345 = g_lot lot (k + 1) from rfl]
    refine r_il rfl rfl ?_
    refine r_al rfl rfl ?_
    refine r_gf rfl (z_gn (by decide) z0) rfl rfl ?_
    refine r_al rfl rfl ?_
    refine r_gf rfl (z_gn (by decide) z0) rfl rfl ?_
    refine r_gf rfl (z_gs hA1.2.1.1) rfl rfl ?_
    refine r_ic rfl ?_
    refine r_iushr rfl ?_
    refine r_al rfl rfl ?_
    refine r_gf rfl (z_gn (by decide) z0) rfl rfl ?_
    refine r_gf rfl (z_gn (by decide) hK1.1) rfl rfl ?_
    rw [g_u_eq]
    refine r_remI rfl (⟨by omega, by omega⟩) (⟨by omega, by omega⟩) ?_
    rw [show ((g_u (g_lot lot (k + 1)) : Nat) : Int) % (l.length : Int) = ((g_u (g_lot lot (k + 1)) % l.length : Nat) : Int) from (Int.natCast_emod _ _).symm]
    refine r_cv1 rfl rfl (z_gn (by decide) hK1.1) rfl (by decide) rfl (c_harmOf hK2 hin hL hlen bm) ?_
    refine r_addI rfl ?_
    refine r_is2 rfl rfl ?_
    refine r_jj3 rfl rfl ?_
    refine r_goto rfl ?_
    rw [← Int.natCast_add]
    exact ih (k + 1) _ (by omega) ⟨he.tr (.set rfl), hA2⟩
theorem x_gusts {q : Int} (hq : z_sm q) {op : Int32} (hop : p_open W H hs (v_trod W H n kc) = op) : z_Xc S 83 [.int (zI q)] ((T, tx), (W, H, L), (hs, lot, n, kc), im, tr) (.int (zI (v_gusts W H L op lot q))) ((T, tx), (W, H, L), (hs, t_gusts W H op lot q, n, kc), im, tr) := by
  intro d M hX
  obtain ⟨x1, x2, x3, x4, x5, x6, x7, x8⟩ := id hX
  have hA : k_A M 1 W H L hs lot n kc := x3
  obtain ⟨ha, hO, ch, hR, hk9⟩ := id hA
  obtain ⟨o1, ⟨hW1, hW2⟩, ⟨hH1, hH2⟩, ⟨hL1, hL2⟩, hn⟩ := id hO
  have hC := p_WH hW2 hH2
  unfold v_gusts t_gusts
  refine k_an ?_
  refine k_of rfl rfl (Nat.le_of_ble_eq_true rfl) ?_
  refine r_il rfl rfl ?_
  refine r_ic rfl ?_
  by_cases h0 : q < 1
  · rw [if_neg (by omega), if_neg (by omega)]
    refine r_icT rfl (zcT2 ⟨by omega, by omega⟩ ⟨by omega, by omega⟩ (h0)) ?_
    refine r_ic rfl ?_
    refine r_reti rfl rfl ?_
    exact ⟨rfl, hX, .rf⟩
  · refine r_icF rfl (zcF2 ⟨by omega, by omega⟩ ⟨by omega, by omega⟩ (h0)) ?_
    refine r_il rfl rfl ?_
    refine r_ic rfl ?_
    by_cases h1 : 99 < q
    · rw [if_neg (by omega), if_neg (by omega)]
      refine r_icF rfl (zcF5 ⟨by omega, by omega⟩ ⟨by omega, by omega⟩ (h1)) ?_
      refine r_ic rfl ?_
      refine r_reti rfl rfl ?_
      exact ⟨rfl, hX, .rf⟩
    · have hq9 : 1 ≤ q ∧ q ≤ 99 := by omega
      rw [if_pos hq9]
      have hTR : p_trod (fun k => (ch k).2.2.2.1) n = v_trod W H n kc := p_trod_c (fun k hk => (hk9 k hk).2.2.2.2.1)
      obtain ⟨i9, M2, k2, e2, hK⟩ := c_look (S := S) (d := d + 17) hO hR (by decide) x6 (op := op) (by rw [hTR]; exact hop)
      obtain ⟨⟨u3, u4, u5, u6, u7, u9, v33⟩, -, -, ⟨f36, v36⟩, f37, v37⟩ := id x6
      obtain ⟨hin, hr15, hlen⟩ := w_all_in (op := op) hW2 hH2
      have hX2 : X_I M2 ((T, tx), (W, H, L), (hs, lot, n, kc), im, tr) := by
        obtain ⟨h33, fs, ln, h34, h35, hl⟩ := id hK
        exact hX.wind (e2.wk (fun k g => by omega)) ⟨⟨_, _, _, _, _, _, h33⟩, ⟨ln, h34⟩, ⟨fs, h35⟩, ⟨f36, (e2.2 36 (by decide)).trans v36⟩, f37, (e2.2 37 (by decide)).trans v37⟩
      have e9 : z_ev M M2 (fun k => k < 62) := e2.wk (fun k g => by omega)
      have z0 := (e2.2 0 (by decide)).trans x2
      refine r_icT rfl (zcT5 ⟨by omega, by omega⟩ ⟨by omega, by omega⟩ (h1)) ?_
      refine r_al rfl rfl ?_
      refine r_gf rfl x2 rfl rfl ?_
      refine r_al rfl rfl ?_
      refine r_gf rfl x2 rfl rfl ?_
      refine r_cv1v rfl rfl v33 rfl (by decide) rfl (k2) ?_
      generalize w_all op W H = l at *
      refine r_al rfl rfl ?_
      refine r_gf rfl z0 rfl rfl ?_
      refine r_gf rfl hK.1 rfl rfl ?_
      refine r_ic rfl ?_
      by_cases hz : l.length = 0
      · rw [if_pos hz, if_neg (fun g => g.2 hz)]
        refine r_icF rfl (zcF3 ⟨by omega, by omega⟩ ⟨by omega, by omega⟩ (by omega)) ?_
        refine r_ic rfl ?_
        refine r_reti rfl rfl ?_
        exact ⟨rfl, hX2, e9⟩
      · rw [if_neg hz, if_pos ⟨hq9, hz⟩]
        obtain ⟨q', rfl⟩ : ∃ x : Nat, q = (x : Int) := ⟨q.toNat, by omega⟩
        rw [Int.toNat_natCast]
        obtain ⟨-, -, z3, -⟩ := id hX2
        refine r_icT rfl (zcT3 ⟨by omega, by omega⟩ ⟨by omega, by omega⟩ (by omega)) ?_
        refine r_ic rfl ?_
        refine r_is2 rfl rfl ?_
        refine r_ic rfl ?_
        refine r_is3 rfl rfl ?_
        refine r_of (x_gusts_l hin hL2 hlen (by omega) z0 hK (q := q') (by omega) q' 0 M2 (by omega) ⟨.rf, z3⟩) (fun r M3 hq => ?_)
        obtain ⟨y1, y2, y3⟩ := hq
        exact ⟨y1, hX2.site (b' := (hs, g_lot lot q', n, kc)) (y2.wk (fun k g => by omega)) y3, e9.tr (y2.wk (fun k g => by omega))⟩
end WX
