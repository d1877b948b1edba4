/-! YARD: the reference: what is due -/
theorem t_so_k {T : Nat} {tx : Nat → Int32} {q : Nat} : (t_so T tx q = 4 ↔ t_kd T tx q = 2 ∧ t_ok T tx q) ∧ (t_so T tx q = 5 ↔ t_kd T tx q = 3) ∧ (t_so T tx q = 6 ↔ t_kd T tx q = 0) ∧ (t_so T tx q ≤ 3 ↔ t_kd T tx q = 1) ∧ (t_so T tx q = 0 ↔ t_yd T tx q) ∧ (t_so T tx q = 1 ↔ t_hs T tx q) ∧ (t_so T tx q = 2 ↔ t_ch T tx q) := by
  have x1 : t_yd T tx q → t_kd T tx q = 1 := fun g => g.1
  have x2 : t_hs T tx q → t_kd T tx q = 1 := fun g => g.1
  have x3 : t_ch T tx q → t_kd T tx q = 1 := fun g => g.1
  have x4 : t_yd T tx q → ¬ t_hs T tx q := fun g1 g2 => by have := g1.2.1; have := g2.2.1; omega
  have x5 : t_yd T tx q → ¬ t_ch T tx q := fun g1 g2 => by have := g1.2.1; have := g2.2.1; omega
  have x6 : t_hs T tx q → ¬ t_ch T tx q := fun g1 g2 => by have := g1.2.2.1; have := g2.2.2.1; omega
  have kl := t_kd_le (T := T) (tx := tx) (q := q)
  unfold t_so
  by_cases h0 : t_kd T tx q = 0
  · rw [if_pos h0]
    refine ⟨?_, ?_, ?_, ?_, ?_, ?_, ?_⟩ <;> constructor <;> intro g <;> first | omega | (have := x1 g; omega) | (have := x2 g; omega) | (have := x3 g; omega) | (have := g.1; omega)
  · rw [if_neg h0]
    by_cases h3 : t_kd T tx q = 3
    · rw [if_pos h3]
      refine ⟨?_, ?_, ?_, ?_, ?_, ?_, ?_⟩ <;> constructor <;> intro g <;> first | omega | (have := x1 g; omega) | (have := x2 g; omega) | (have := x3 g; omega) | (have := g.1; omega)
    · rw [if_neg h3]
      by_cases h1 : t_kd T tx q = 1
      · rw [if_pos h1]
        by_cases hy : t_yd T tx q
        · rw [if_pos hy]
          exact ⟨⟨fun g => by omega, fun g => by have := g.1; omega⟩, by omega, by omega, by omega, ⟨fun _ => hy, fun _ => rfl⟩, ⟨fun g => by omega, fun g => absurd g (x4 hy)⟩, ⟨fun g => by omega, fun g => absurd g (x5 hy)⟩⟩
        · rw [if_neg hy]
          by_cases hh : t_hs T tx q
          · rw [if_pos hh]
            exact ⟨⟨fun g => by omega, fun g => by have := g.1; omega⟩, by omega, by omega, by omega, ⟨fun g => by omega, fun g => absurd g hy⟩, ⟨fun _ => hh, fun _ => rfl⟩, ⟨fun g => by omega, fun g => absurd g (x6 hh)⟩⟩
          · rw [if_neg hh]
            by_cases hc : t_ch T tx q
            · rw [if_pos hc]
              exact ⟨⟨fun g => by omega, fun g => by have := g.1; omega⟩, by omega, by omega, by omega, ⟨fun g => by omega, fun g => absurd g hy⟩, ⟨fun g => by omega, fun g => absurd g hh⟩, ⟨fun _ => hc, fun _ => rfl⟩⟩
            · rw [if_neg hc]
              exact ⟨⟨fun g => by omega, fun g => by have := g.1; omega⟩, by omega, by omega, by omega, ⟨fun g => by omega, fun g => absurd g hy⟩, ⟨fun g => by omega, fun g => absurd g hh⟩, ⟨fun g => by omega, fun g => absurd g hc⟩⟩
      · rw [if_neg h1]
        by_cases h2 : t_kd T tx q = 2
        · rw [if_pos h2]
          by_cases ho : t_ok T tx q
          · rw [if_pos ho]
            refine ⟨⟨fun _ => ⟨h2, ho⟩, fun _ => rfl⟩, ?_, ?_, ?_, ?_, ?_, ?_⟩ <;> constructor <;> intro g <;> first | omega | (have := x1 g; omega) | (have := x2 g; omega) | (have := x3 g; omega)
          · rw [if_neg ho]
            refine ⟨⟨fun g => by omega, fun g => absurd g.2 ho⟩, ?_, ?_, ?_, ?_, ?_, ?_⟩ <;> constructor <;> intro g <;> first | omega | (have := x1 g; omega) | (have := x2 g; omega) | (have := x3 g; omega)
        · rw [if_neg h2]
          refine ⟨?_, ?_, ?_, ?_, ?_, ?_, ?_⟩ <;> constructor <;> intro g <;> first | omega | (have := x1 g; omega) | (have := x2 g; omega) | (have := x3 g; omega) | (have := g.1; omega)
/-- a fault's place, or the token that comes -/
def y_S (M : ZM) (tr : Int64) (v : Nat → Int32) (T : Nat) (tx : Nat → Int32) (u : Nat ⊕ Nat) : Prop := M[62]? = some (.inl (6, m_f tr v)) ∧ y_X M T tx ∧ v 2 = zI (T : Int) ∧ match u with
  | .inl f => f ≤ 200 ∧ v 12 = zI (f : Int)
  | .inr q => q ≤ T ∧ v 12 = zI (-9) ∧ v 8 = zI (t_e T tx q : Int) ∧ v 9 = zI (q : Int) ∧ v 10 = zI (t_so T tx q) ∧ v 11 = zI (t_va T tx q : Int)
theorem y_S.ev {M M' : ZM} {P : Nat → Prop} {tr : Int64} {v : Nat → Int32} {T : Nat} {tx : Nat → Int32} {u : Nat ⊕ Nat} (e : z_ev M M' P) (h1 : ¬ P 62) (h2 : ¬ P 63) (h : y_S M tr v T tx u) : y_S M' tr v T tx u := ⟨(e.2 _ h1).trans h.1, h.2.1.ev e h2, h.2.2⟩
def t_du (T : Nat) (tx : Nat → Int32) (u : Nat ⊕ Nat) (b : Bool) : Nat ⊕ Nat := match u with
  | .inl f => .inl f
  | .inr q => if b = true then .inr (t_q T tx (t_e T tx q)) else .inl q
def t_nb (T : Nat) (tx : Nat → Int32) (lo hi : Int) (u : Nat ⊕ Nat) : Bool := match u with
  | .inl _ => false
  | .inr q => decide (t_isn T tx lo hi q)
def t_nu (T : Nat) (tx : Nat → Int32) (lo hi : Int) (u : Nat ⊕ Nat) : Nat ⊕ Nat := t_du T tx u (t_nb T tx lo hi u)
section TZ
variable {S : ZS} {d : Nat} {M : ZM} {T : Nat} {tx : Nat → Int32} {tr : Int64} {v : Nat → Int32}
theorem m_due {u : Nat ⊕ Nat} (h : y_S M tr v T tx u) (b : Bool) : ∃ M', z_C S (d + 2) 107 [.ref 62, .int (zI (if b = true then 1 else 0))] M (some (.int (v 11))) M' ∧ z_ev M M' (fun k => k = 62) ∧ ∃ v', y_S M' tr v' T tx (t_du T tx u b) ∧ ∀ j, ¬ (8 ≤ j ∧ j ≤ 12) → v' j = v j := by
  refine k_an ?_
  refine k_of rfl rfl (Nat.le_of_ble_eq_true rfl) ?_
  obtain ⟨g62, hX, h2, hu⟩ := id h
  rcases u with f | q
  · obtain ⟨f2, h12⟩ := hu
    refine r_al rfl rfl ?_
    refine r_gf rfl g62 rfl rfl ?_
    refine r_is2 rfl rfl ?_
    refine r_al rfl rfl ?_
    refine r_gf rfl g62 rfl rfl ?_
    rw [h12]
    refine r_ic rfl ?_
    refine r_icT rfl (zcT1 ⟨by omega, by omega⟩ ⟨by omega, by omega⟩ (by omega)) ?_
    refine r_il rfl rfl ?_
    refine r_reti rfl rfl ?_
    exact ⟨rfl, .rf, v, ⟨g62, hX, h2, f2, h12⟩, fun j _ => rfl⟩
  · obtain ⟨hq, h12, h8, h9, h10, h11⟩ := hu
    refine r_al rfl rfl ?_
    refine r_gf rfl g62 rfl rfl ?_
    refine r_is2 rfl rfl ?_
    refine r_al rfl rfl ?_
    refine r_gf rfl g62 rfl rfl ?_
    rw [h12]
    refine r_ic rfl ?_
    refine r_icF rfl (zcF1 (rfl)) ?_
    refine r_il rfl rfl ?_
    rcases b with - | -
    · rw [if_neg Bool.false_ne_true]
      refine r_ifT rfl (zcT0 (rfl)) ?_
      refine r_al rfl rfl ?_
      refine r_al rfl rfl ?_
      refine r_gf rfl g62 rfl rfl ?_
      rw [h9]
      refine r_pf12 rfl g62 rfl rfl rfl (Or.inl rfl) ?_
      refine r_il rfl rfl ?_
      refine r_reti rfl rfl ?_
      have hT := hX.1
      exact ⟨rfl, .set rfl, upd v 12 (zI (q : Int)), ⟨z_gs g62, hX.ev (.set (P := fun k => k = 62) rfl) (by decide), (pk_un (by decide)).trans h2, by omega, pk_us⟩, fun j hj => pk_un (by omega)⟩
    · rw [if_pos rfl]
      obtain ⟨e1, e2, -⟩ := t_e_ok (tx := tx) hq
      obtain ⟨M1, k1, E1, v1, c62, c8, c9, c10, c11, cr⟩ := m_next (S := S) (d := d) g62 hX h2 h8 e2
      refine r_ifF rfl (zcF0 ⟨by omega, by omega⟩ ⟨by omega, by omega⟩ (by decide)) ?_
      refine r_al rfl rfl ?_
      refine r_cv0v rfl rfl g62 rfl (by decide) rfl (k1) ?_
      refine r_goto rfl ?_
      refine r_il rfl rfl ?_
      refine r_reti rfl rfl ?_
      exact ⟨rfl, E1, v1, ⟨c62, hX.ev E1 (by decide), (cr 2 (by omega)).trans h2, (t_pos (tx := tx) e2).1, (cr 12 (by omega)).trans h12, c8, c9, c10, c11⟩, fun j hj => cr j (by omega)⟩
theorem m_number {u : Nat ⊕ Nat} (h : y_S M tr v T tx u) {lo hi : Int} (hlo : z_sm lo) (hhi : z_sm hi) : ∃ M', z_C S (d + 3) 108 [.ref 62, .int (zI lo), .int (zI hi)] M (some (.int (v 11))) M' ∧ z_ev M M' (fun k => k = 62) ∧ ∃ v', y_S M' tr v' T tx (t_nu T tx lo hi u) ∧ ∀ j, ¬ (8 ≤ j ∧ j ≤ 12) → v' j = v j := by
  refine k_an ?_
  refine k_of rfl rfl (Nat.le_of_ble_eq_true rfl) ?_
  obtain ⟨g62, hX, h2, hu⟩ := id h
  rcases u with f | q
  · obtain ⟨a10, e10, b10⟩ := zI_of (v 10)
    obtain ⟨a11, e11, b11⟩ := zI_of (v 11)
    refine r_al rfl rfl ?_
    refine r_al rfl rfl ?_
    refine r_gf rfl g62 rfl rfl ?_
    rw [e10]
    refine r_ic rfl ?_
    by_cases h4 : a10 = 4
    · refine r_icF rfl (zcF1 (h4)) ?_
      refine r_al rfl rfl ?_
      refine r_gf rfl g62 rfl rfl ?_
      rw [e11]
      refine r_il rfl rfl ?_
      refine r_il rfl rfl ?_
      refine r_cs3 rfl rfl rfl rfl (m_in (x := a11) b11 hlo hhi) ?_
      by_cases hin : lo ≤ a11 ∧ a11 ≤ hi
      · rw [if_pos hin]
        refine r_ifF rfl (zcF0 ⟨by omega, by omega⟩ ⟨by omega, by omega⟩ (by decide)) ?_
        obtain ⟨M1, k1, E1, v1, s1, r1⟩ := m_due (S := S) (d := d) h true
        have s0 : t_nu T tx lo hi (.inl f) = t_du T tx (.inl f) true := rfl
        rw [s0]
        refine r_ic rfl ?_
        refine r_goto rfl ?_
        refine r_cv1 rfl rfl g62 rfl (by decide) rfl (k1) ?_
        refine r_reti rfl rfl ?_
        exact ⟨by rw [e11], E1, v1, s1, r1⟩
      · rw [if_neg hin]
        refine r_ifT rfl (zcT0 (rfl)) ?_
        obtain ⟨M1, k1, E1, v1, s1, r1⟩ := m_due (S := S) (d := d) h false
        refine r_ic rfl ?_
        refine r_cv1 rfl rfl g62 rfl (by decide) rfl (k1) ?_
        refine r_reti rfl rfl ?_
        exact ⟨by rw [e11], E1, v1, s1, r1⟩
    · refine r_icT rfl (zcT1 ⟨by omega, by omega⟩ ⟨by omega, by omega⟩ (h4)) ?_
      obtain ⟨M1, k1, E1, v1, s1, r1⟩ := m_due (S := S) (d := d) h false
      refine r_ic rfl ?_
      refine r_cv1 rfl rfl g62 rfl (by decide) rfl (k1) ?_
      refine r_reti rfl rfl ?_
      exact ⟨rfl, E1, v1, s1, r1⟩
  · obtain ⟨hq, h12, h8, h9, h10, h11⟩ := hu
    have sk := (t_so_k (T := T) (tx := tx) (q := q)).1
    have si := t_so_in (T := T) (tx := tx) (q := q)
    have vl := t_va_le (T := T) (tx := tx) (q := q)
    refine r_al rfl rfl ?_
    refine r_al rfl rfl ?_
    refine r_gf rfl g62 rfl rfl ?_
    rw [h10]
    refine r_ic rfl ?_
    by_cases h4 : t_so T tx q = 4
    · have hk := sk.mp h4
      have hv := (t_va_val hk.1).2
      have ho := hk.2.2
      have ev : t_val T tx q = t_va T tx q := by omega
      refine r_icF rfl (zcF1 (h4)) ?_
      refine r_al rfl rfl ?_
      refine r_gf rfl g62 rfl rfl ?_
      rw [h11]
      refine r_il rfl rfl ?_
      refine r_il rfl rfl ?_
      refine r_cs3 rfl rfl rfl rfl (m_in (x := (t_va T tx q : Int)) ⟨by omega, by omega⟩ hlo hhi) ?_
      by_cases hin : lo ≤ (t_va T tx q : Int) ∧ (t_va T tx q : Int) ≤ hi
      · have s0 : t_nb T tx lo hi (.inr q) = true := decide_eq_true ⟨hk.1, hk.2, by omega, by omega⟩
        have s1 : t_nu T tx lo hi (.inr q) = t_du T tx (.inr q) true := by unfold t_nu; rw [s0]
        rw [s1]
        rw [if_pos hin]
        refine r_ifF rfl (zcF0 ⟨by omega, by omega⟩ ⟨by omega, by omega⟩ (by decide)) ?_
        obtain ⟨M1, k1, E1, v1, s1, r1⟩ := m_due (S := S) (d := d) h true
        refine r_ic rfl ?_
        refine r_goto rfl ?_
        refine r_cv1 rfl rfl g62 rfl (by decide) rfl (k1) ?_
        refine r_reti rfl rfl ?_
        exact ⟨by rw [h11], E1, v1, s1, r1⟩
      · have s0 : t_nb T tx lo hi (.inr q) = false := decide_eq_false (fun g => hin (by have := g.2.2; omega))
        have s1 : t_nu T tx lo hi (.inr q) = t_du T tx (.inr q) false := by unfold t_nu; rw [s0]
        rw [s1]
        rw [if_neg hin]
        refine r_ifT rfl (zcT0 (rfl)) ?_
        obtain ⟨M1, k1, E1, v1, s1, r1⟩ := m_due (S := S) (d := d) h false
        refine r_ic rfl ?_
        refine r_cv1 rfl rfl g62 rfl (by decide) rfl (k1) ?_
        refine r_reti rfl rfl ?_
        exact ⟨by rw [h11], E1, v1, s1, r1⟩
    · have s0 : t_nb T tx lo hi (.inr q) = false := decide_eq_false (fun g => h4 (sk.mpr ⟨g.1, g.2.1⟩))
      have s1 : t_nu T tx lo hi (.inr q) = t_du T tx (.inr q) false := by unfold t_nu; rw [s0]
      rw [s1]
      refine r_icT rfl (zcT1 ⟨by omega, by omega⟩ ⟨by omega, by omega⟩ (h4)) ?_
      obtain ⟨M1, k1, E1, v1, s1, r1⟩ := m_due (S := S) (d := d) h false
      refine r_ic rfl ?_
      refine r_cv1 rfl rfl g62 rfl (by decide) rfl (k1) ?_
      refine r_reti rfl rfl ?_
      exact ⟨rfl, E1, v1, s1, r1⟩
def t_d9 (x : Int) : Int := if x = 110 then 0 else if x = 101 then 1 else if x = 115 then 2 else if x = 119 then 3 else -9
theorem t_d9_dir {x : Int} : (t_d9 x = -9 ∧ t_dir x = -1) ∨ (t_d9 x = t_dir x ∧ 0 ≤ t_dir x ∧ t_dir x ≤ 3) := by
  unfold t_d9 t_dir
  repeat' split
  all_goals omega
theorem t_oct256 : ∀ n : Nat, n < 256 → (zI ((n : Int) - 128) &&& zI 255).toBitVec.toNat = if n < 128 then n + 128 else n - 128 := by decide +kernel
theorem t_oct_let {j : Nat} (h : t_oct T tx) (hj : j < T) (hl : t_let (t_b T tx j)) : tx j = zI (t_b T tx j) := by
  obtain ⟨z, h1, h2, h3⟩ := h j hj
  have e : t_b T tx j = (t_by tx j : Int) := if_pos hj
  have e2 : t_by tx j = (zI z &&& zI 255).toBitVec.toNat := by unfold t_by; rw [h1]
  obtain ⟨n, rfl⟩ : ∃ n : Nat, z = (n : Int) - 128 := ⟨(z + 128).toNat, by omega⟩
  rw [t_oct256 n (by omega)] at e2
  rw [h1]
  refine congrArg zI ?_
  rw [e] at hl ⊢
  split at e2 <;> omega
theorem m_stepOf {x : Int} (hx : z_sm x) : z_C S d 110 [.int (zI x)] M (some (.int (zI (t_d9 x)))) M := by
  refine c_of rfl rfl (Nat.le_of_ble_eq_true rfl) ?_
  refine g_il rfl rfl ?_
  refine g_ic rfl ?_
  by_cases h1 : x = 110
  · refine g_icF rfl (zcF1 (h1)) ?_
    refine g_ic rfl ?_
    refine g_goto rfl ?_
    exact g_reti rfl (by rw [show t_d9 x = 0 from if_pos h1]) rfl
  · refine g_icT rfl (zcT1 ⟨by omega, by omega⟩ ⟨by omega, by omega⟩ (h1)) ?_
    refine g_il rfl rfl ?_
    refine g_ic rfl ?_
    by_cases h2 : x = 101
    · refine g_icF rfl (zcF1 (h2)) ?_
      refine g_ic rfl ?_
      refine g_goto rfl ?_
      exact g_reti rfl (by rw [show t_d9 x = 1 from (if_neg h1).trans (if_pos h2)]) rfl
    · refine g_icT rfl (zcT1 ⟨by omega, by omega⟩ ⟨by omega, by omega⟩ (h2)) ?_
      refine g_il rfl rfl ?_
      refine g_ic rfl ?_
      by_cases h3 : x = 115
      · refine g_icF rfl (zcF1 (h3)) ?_
        refine g_ic rfl ?_
        refine g_goto rfl ?_
        exact g_reti rfl (by rw [show t_d9 x = 2 from (if_neg h1).trans ((if_neg h2).trans (if_pos h3))]) rfl
      · refine g_icT rfl (zcT1 ⟨by omega, by omega⟩ ⟨by omega, by omega⟩ (h3)) ?_
        refine g_il rfl rfl ?_
        refine g_ic rfl ?_
        by_cases h4 : x = 119
        · refine g_icF rfl (zcF1 (h4)) ?_
          refine g_ic rfl ?_
          refine g_goto rfl ?_
          exact g_reti rfl (by rw [show t_d9 x = 3 from (if_neg h1).trans ((if_neg h2).trans ((if_neg h3).trans (if_pos h4)))]) rfl
        · refine g_icT rfl (zcT1 ⟨by omega, by omega⟩ ⟨by omega, by omega⟩ (h4)) ?_
          refine g_ic rfl ?_
          exact g_reti rfl (by rw [show t_d9 x = -9 from (if_neg h1).trans ((if_neg h2).trans ((if_neg h3).trans (if_neg h4)))]) rfl
set_option maxRecDepth 20000 in
theorem m_gO_l {wd hd ld nw : Nat → Int32} {Wd Hd c0 q nn : Nat} {hsd : Int32} (hB : m_B M tr v wd hd ld nw) (hX : y_X M T tx) (hoc : t_oct T tx) (w1 : wd 1 = zI (Wd : Int)) (w2 : hd 1 = zI (Hd : Int)) (hW : 1 ≤ Wd ∧ Wd ≤ 5) (hH : 1 ≤ Hd ∧ Hd ≤ 5) (hn4 : nn < 4) (n59 : nw 59 = hsd) (n60 : nw 60 = zI (nn : Int)) (hc0 : c0 < Wd * Hd) (hq : q ≤ T) (h8 : v 8 = zI (t_e T tx q : Int)) (h9 : v 9 = zI (q : Int)) (hk1 : t_kd T tx q = 1) (hN : t_e T tx q - q ≤ 12) : ∀ (k j cq : Nat) (nw1 : Nat → Int32) (x4 : Option Value), j + k = t_e T tx q - q → p_pos Wd Hd hsd c0 (t_st T tx q) j = some cq → ((∀ j, ¬ (70 + 12 * nn ≤ j ∧ j < 70 + 12 * nn + 12) → nw1 j = nw j) ∧ ∀ i, i < j → nw1 (70 + 12 * nn + i) = zI (t_st T tx q i)) → z_R S (d + 2) 111 42 [some (.ref 62), some (.int (zI (cq : Int))), some (.int (zI (nn : Int))), some (.int (zI ((q : Int) + (j : Int)))), x4] [] (M.set 67 (zA 236 nw1)) (fun r M2 => ∃ nw2, M2 = M.set 67 (zA 236 nw2) ∧ (∀ j, ¬ (70 + 12 * nn ≤ j ∧ j < 70 + 12 * nn + 12) → j ≠ 66 + nn → nw2 j = nw j) ∧ ((r = some (.int (zI 1)) ∧ (p_pos Wd Hd hsd c0 (t_st T tx q) (t_e T tx q - q)).isSome = true ∧ nw2 (66 + nn) = zI ((t_e T tx q - q : Nat) : Int) ∧ ∀ i, i < t_e T tx q - q → nw2 (70 + 12 * nn + i) = zI (t_st T tx q i)) ∨ (r = some (.int (zI 0)) ∧ ¬ (p_pos Wd Hd hsd c0 (t_st T tx q) (t_e T tx q - q)).isSome = true))) := by
  obtain ⟨b1, b2, b3, b4, b5⟩ := id hB
  obtain ⟨hT, gt, h63, hgt⟩ := id hX
  have hC := p_WH hW.2 hH.2
  obtain ⟨e1, e2, -⟩ := t_e_ok (tx := tx) hq
  obtain ⟨wl, -⟩ := t_word hk1
  intro k
  induction k with
  | zero =>
    intro j cq nw1 x4 hj hp hr
    refine r_il rfl rfl ?_
    refine r_al rfl rfl ?_
    refine r_gf rfl (z_gn (by decide) b1) rfl rfl ?_
    rw [h8]
    refine r_icT rfl (zcT3 ⟨by omega, by omega⟩ ⟨by omega, by omega⟩ (by omega)) ?_
    refine r_al rfl rfl ?_
    refine r_gf rfl (z_gn (by decide) b1) rfl rfl ?_
    refine r_ic rfl ?_
    refine r_il rfl rfl ?_
    refine r_addI rfl ?_
    refine r_al rfl rfl ?_
    refine r_gf rfl (z_gn (by decide) b1) rfl rfl ?_
    rw [h8]
    refine r_al rfl rfl ?_
    refine r_gf rfl (z_gn (by decide) b1) rfl rfl ?_
    rw [h9]
    refine r_subI rfl ?_
    rw [show (t_e T tx q : Int) - (q : Int) = ((t_e T tx q - q : Nat) : Int) by omega]
    refine r_iSI rfl (z_gs b5) (by omega) (by omega) (by omega) ?_
    rw [List.set_set]
    refine r_ic rfl ?_
    refine r_reti rfl rfl ?_
    rw [show (66 + (nn : Int)).toNat = 66 + nn by omega]
    obtain ⟨r1, r2⟩ := hr
    refine ⟨_, rfl, fun i h1 h2 => ?_, Or.inl ⟨rfl, ?_, pk_us, fun i hi => ?_⟩⟩
    · rw [pk_un h2]
      exact r1 i h1
    · rw [show t_e T tx q - q = j by omega, hp]
      rfl
    · rw [pk_un (by omega)]
      exact r2 i (by omega)
  | succ k ih =>
    intro j cq nw1 x4 hj hp hr
    have bi := t_b_in (T := T) (tx := tx) (i := q + j)
    have hlt := wl (q + j) (by omega) (by omega)
    have etx := t_oct_let hoc (j := q + j) (by omega) hlt
    have hlc := p_pos_lt hc0 j cq hp
    have dd := t_d9_dir (x := t_b T tx (q + j))
    have ep : p_pos Wd Hd hsd c0 (t_st T tx q) (j + 1) = p_to Wd Hd hsd cq (t_st T tx q j) := by
      show (match p_pos Wd Hd hsd c0 (t_st T tx q) j with | some c => p_to Wd Hd hsd c (t_st T tx q j) | none => none) = _
      rw [hp]
    have est : t_st T tx q j = t_dir (t_b T tx (q + j)) := rfl
    refine r_il rfl rfl ?_
    refine r_al rfl rfl ?_
    refine r_gf rfl (z_gn (by decide) b1) rfl rfl ?_
    rw [h8]
    refine r_icF rfl (zcF3 ⟨by omega, by omega⟩ ⟨by omega, by omega⟩ (by omega)) ?_
    refine r_al rfl rfl ?_
    refine r_gf rfl (z_gn (by decide) b1) rfl rfl ?_
    refine r_il rfl rfl ?_
    rw [show (q : Int) + (j : Int) = ((q + j : Nat) : Int) by omega]
    refine r_baI rfl (z_gn (by decide) h63) (by omega) (by omega) (by omega) ?_
    rw [Int.toNat_natCast, hgt (q + j) (by omega), etx]
    refine r_cs1 rfl rfl rfl rfl (m_stepOf (x := t_b T tx (q + j)) ⟨by omega, by omega⟩) ?_
    refine r_is4 rfl rfl ?_
    refine r_il rfl rfl ?_
    refine r_ic rfl ?_
    by_cases hd9 : t_d9 (t_b T tx (q + j)) = -9
    · have et : p_to Wd Hd hsd cq (t_st T tx q j) = none := by
        cases e8 : p_to Wd Hd hsd cq (t_st T tx q j) with
        | none => rfl
        | some t =>
          have := p_to_dir e8
          omega
      have e9 := p_pos_none (ep.trans et) k
      rw [show j + 1 + k = t_e T tx q - q by omega] at e9
      refine r_icF rfl (zcF1 (hd9)) ?_
      refine r_ic rfl ?_
      refine r_goto rfl ?_
      refine r_is1 rfl rfl ?_
      refine r_il rfl rfl ?_
      refine r_ic rfl ?_
      refine r_icT rfl (zcT0 (rfl)) ?_
      refine r_ic rfl ?_
      refine r_reti rfl rfl ?_
      exact ⟨nw1, rfl, fun i h1 _ => hr.1 i h1, Or.inr ⟨rfl, by rw [e9]; decide⟩⟩
    · have dg : t_d9 (t_b T tx (q + j)) = t_st T tx q j ∧ 0 ≤ t_st T tx q j ∧ t_st T tx q j ≤ 3 := by omega
      rw [dg.1]
      refine r_icT rfl (zcT1 ⟨by omega, by omega⟩ ⟨by omega, by omega⟩ (by omega)) ?_
      refine r_al rfl rfl ?_
      refine r_ic rfl ?_
      refine r_il rfl rfl ?_
      refine r_il rfl rfl ?_
      refine r_cv3 rfl rfl (z_gn (by decide) b1) rfl (by decide) rfl (m_off (M := M.set 67 (zA 236 nw1)) ⟨z_gn (by decide) b1, z_gn (by decide) b2, z_gn (by decide) b3, z_gn (by decide) b4, z_gs b5⟩ hW.1 hW.2 hH.1 hH.2 (e := 1) (by decide) w1 w2 (c := cq) hlc (st := t_st T tx q j) dg.2) ?_
      rcases ho : p_off Wd Hd cq (t_st T tx q j) with - | t
      · have et : p_to Wd Hd hsd cq (t_st T tx q j) = none := by unfold p_to; rw [ho]
        have e9 := p_pos_none (ep.trans et) k
        rw [show j + 1 + k = t_e T tx q - q by omega] at e9
        rw [show oI none (-9) = -9 from rfl]
        refine r_is1 rfl rfl ?_
        refine r_il rfl rfl ?_
        refine r_ic rfl ?_
        refine r_icT rfl (zcT0 (rfl)) ?_
        refine r_ic rfl ?_
        refine r_reti rfl rfl ?_
        exact ⟨nw1, rfl, fun i h1 _ => hr.1 i h1, Or.inr ⟨rfl, by rw [e9]; decide⟩⟩
      · have lt := p_off_lt hlc ho
        have n59b : nw1 59 = hsd := (hr.1 59 (by omega)).trans n59
        rw [show oI (some t) (-9) = (t : Int) from rfl]
        refine r_is1 rfl rfl ?_
        refine r_il rfl rfl ?_
        refine r_ic rfl ?_
        refine r_icF rfl (zcF0 ⟨by omega, by omega⟩ ⟨by omega, by omega⟩ (by omega)) ?_
        refine r_al rfl rfl ?_
        refine r_gf rfl (z_gn (by decide) b1) rfl rfl ?_
        refine r_ic rfl ?_
        refine r_iaI rfl (by decide) (z_gs b5) (by omega) (by omega) (by omega) ?_
        rw [show (59 : Int).toNat = 59 from rfl, n59b]
        refine r_il rfl rfl ?_
        refine r_ishr rfl ?_
        refine r_ic rfl ?_
        refine r_iand rfl ?_
        refine r_ic rfl ?_
        rw [z_bit hsd (c := t) (by omega)]
        by_cases hb : bt hsd t = true
        · have et : p_to Wd Hd hsd cq (t_st T tx q j) = none := by unfold p_to; rw [ho]; exact if_pos hb
          have e9 := p_pos_none (ep.trans et) k
          rw [show j + 1 + k = t_e T tx q - q by omega] at e9
          rw [if_pos hb]
          refine r_icF rfl (zcF1 (rfl)) ?_
          refine r_ic rfl ?_
          refine r_reti rfl rfl ?_
          exact ⟨nw1, rfl, fun i h1 _ => hr.1 i h1, Or.inr ⟨rfl, by rw [e9]; decide⟩⟩
        · have et : p_to Wd Hd hsd cq (t_st T tx q j) = some t := by unfold p_to; rw [ho]; exact if_neg hb
          rw [if_neg hb]
          refine r_icT rfl (zcT1 ⟨by omega, by omega⟩ ⟨by omega, by omega⟩ (by decide)) ?_
          refine r_al rfl rfl ?_
          refine r_gf rfl (z_gn (by decide) b1) rfl rfl ?_
          refine r_ic rfl ?_
          refine r_ic rfl ?_
          refine r_il rfl rfl ?_
          refine r_mulI rfl ?_
          refine r_addI rfl ?_
          refine r_il rfl rfl ?_
          refine r_addI rfl ?_
          refine r_al rfl rfl ?_
          refine r_gf rfl (z_gn (by decide) b1) rfl rfl ?_
          rw [h9]
          refine r_subI rfl ?_
          refine r_il rfl rfl ?_
          refine r_iSI rfl (z_gs b5) (by omega) (by omega) (by omega) ?_
          rw [List.set_set]
          refine r_jj3 rfl rfl ?_
          refine r_goto rfl ?_
          rw [show (70 + 12 * (nn : Int) + ((q + j : Nat) : Int) - (q : Int)).toNat = 70 + 12 * nn + j by omega, show ((q + j : Nat) : Int) + 1 = (q : Int) + ((j + 1 : Nat) : Int) by omega]
          refine ih (j + 1) t (upd nw1 (70 + 12 * nn + j) (zI (t_st T tx q j))) _ (by omega) (ep.trans et) ⟨fun i hi => ?_, fun i hi => ?_⟩
          · rw [pk_un (by omega)]
            exact hr.1 i hi
          · by_cases e7 : i = j
            · subst e7
              exact pk_us
            · rw [pk_un (by omega)]
              exact hr.2 i (by omega)
set_option maxRecDepth 20000 in
theorem m_goesOn {wd hd ld nw : Nat → Int32} {Wd Hd c0 q nn : Nat} {hsd : Int32} (hB : m_B M tr v wd hd ld nw) (hX : y_X M T tx) (hoc : t_oct T tx) (w1 : wd 1 = zI (Wd : Int)) (w2 : hd 1 = zI (Hd : Int)) (hW : 1 ≤ Wd ∧ Wd ≤ 5) (hH : 1 ≤ Hd ∧ Hd ≤ 5) (hn4 : nn < 4) (n59 : nw 59 = hsd) (n60 : nw 60 = zI (nn : Int)) (hc0 : c0 < Wd * Hd) (hq : q ≤ T) (h8 : v 8 = zI (t_e T tx q : Int)) (h9 : v 9 = zI (q : Int)) (h10 : v 10 = zI (t_so T tx q)) (h13 : v 13 = zI (c0 : Int)) : ∃ r M', z_C S (d + 2) 111 [.ref 62] M r M' ∧ (∃ nw2, M' = M.set 67 (zA 236 nw2) ∧ (∀ j, ¬ (70 + 12 * nn ≤ j ∧ j < 70 + 12 * nn + 12) → j ≠ 66 + nn → nw2 j = nw j) ∧ ((r = some (.int (zI 1)) ∧ (t_kd T tx q = 1 ∧ t_e T tx q - q ≤ 12 ∧ (p_pos Wd Hd hsd c0 (t_st T tx q) (t_e T tx q - q)).isSome = true) ∧ nw2 (66 + nn) = zI ((t_e T tx q - q : Nat) : Int) ∧ ∀ i, i < t_e T tx q - q → nw2 (70 + 12 * nn + i) = zI (t_st T tx q i)) ∨ (r = some (.int (zI 0)) ∧ ¬ (t_kd T tx q = 1 ∧ t_e T tx q - q ≤ 12 ∧ (p_pos Wd Hd hsd c0 (t_st T tx q) (t_e T tx q - q)).isSome = true)))) := by
  refine k_of rfl rfl (Nat.le_of_ble_eq_true rfl) ?_
  obtain ⟨b1, b2, b3, b4, b5⟩ := id hB
  have hT := hX.1
  obtain ⟨e1, e2, -⟩ := t_e_ok (tx := tx) hq
  have sk := (t_so_k (T := T) (tx := tx) (q := q)).2.2.2.1
  have si := t_so_in (T := T) (tx := tx) (q := q)
  refine r_al rfl rfl ?_
  refine r_gf rfl b1 rfl rfl ?_
  rw [h13]
  refine r_is1 rfl rfl ?_
  refine r_al rfl rfl ?_
  refine r_gf rfl b1 rfl rfl ?_
  refine r_ic rfl ?_
  refine r_iaI rfl (by decide) b5 (by omega) (by omega) (by omega) ?_
  rw [show (60 : Int).toNat = 60 from rfl, n60]
  refine r_is2 rfl rfl ?_
  refine r_al rfl rfl ?_
  refine r_gf rfl b1 rfl rfl ?_
  rw [h10]
  refine r_ic rfl ?_
  by_cases hk1 : t_so T tx q ≤ 3
  · refine r_icF rfl (zcF4 ⟨by omega, by omega⟩ ⟨by omega, by omega⟩ (by omega)) ?_
    refine r_al rfl rfl ?_
    refine r_gf rfl b1 rfl rfl ?_
    rw [h8]
    refine r_al rfl rfl ?_
    refine r_gf rfl b1 rfl rfl ?_
    rw [h9]
    refine r_subI rfl ?_
    refine r_ic rfl ?_
    by_cases h12 : t_e T tx q - q ≤ 12
    · refine r_icT rfl (zcT5 ⟨by omega, by omega⟩ ⟨by omega, by omega⟩ (by omega)) ?_
      refine r_al rfl rfl ?_
      refine r_gf rfl b1 rfl rfl ?_
      rw [h9]
      refine r_is3 rfl rfl ?_
      have t := m_gO_l (S := S) (d := d) hB hX hoc w1 w2 hW hH hn4 n59 n60 hc0 hq h8 h9 (sk.mp hk1) h12 (t_e T tx q - q) 0 c0 nw none (by omega) rfl ⟨fun j _ => rfl, fun i hi => by omega⟩
      rw [z_same b5, show (q : Int) + ((0 : Nat) : Int) = (q : Int) by omega] at t
      refine r_of t (fun r M2 hq9 => ?_)
      obtain ⟨nw2, y1, y2, y3⟩ := hq9
      refine ⟨nw2, y1, y2, ?_⟩
      rcases y3 with ⟨z1, z2, z3, z4⟩ | ⟨z1, z2⟩
      · exact Or.inl ⟨z1, ⟨sk.mp hk1, h12, z2⟩, z3, z4⟩
      · exact Or.inr ⟨z1, fun g => z2 g.2.2⟩
    · refine r_icF rfl (zcF5 ⟨by omega, by omega⟩ ⟨by omega, by omega⟩ (by omega)) ?_
      refine r_ic rfl ?_
      refine r_reti rfl rfl ?_
      exact ⟨nw, (z_same b5).symm, fun j _ _ => rfl, Or.inr ⟨rfl, fun g => h12 g.2.1⟩⟩
  · refine r_icT rfl (zcT4 ⟨by omega, by omega⟩ ⟨by omega, by omega⟩ (by omega)) ?_
    refine r_ic rfl ?_
    refine r_reti rfl rfl ?_
    exact ⟨nw, (z_same b5).symm, fun j _ _ => rfl, Or.inr ⟨rfl, fun g => hk1 (sk.mpr g.1)⟩⟩
end TZ
