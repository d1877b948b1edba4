/-! YARD: the reference: an item -/
/-- the draft as the reference has it -/
def y_Dr (wd hd ld nw : Nat → Int32) (D : ZD) : Prop := (wd 1 = zI (D.1.1 : Int) ∧ hd 1 = zI (D.1.2.1 : Int) ∧ ld 1 = zI (D.1.2.2 : Int)) ∧ m_A nw 59 D.2.1 (nw 61) D.2.2.1 D.2.2.2
/-- what a reading leaves as it was -/
def y_E (M M' : ZM) (tr : Int64) (v wd hd ld nw v' wd' hd' ld' nw' : Nat → Int32) : Prop := z_ev M M' (fun k => k = 62 ∨ (64 ≤ k ∧ k < 68)) ∧ m_B M' tr v' wd' hd' ld' nw' ∧ v' 2 = v 2 ∧ (wd' 0 = wd 0 ∧ hd' 0 = hd 0 ∧ ld' 0 = ld 0) ∧ ∀ j, j < 59 ∨ 118 ≤ j → nw' j = nw j
theorem y_E.v {M M1 M2 : ZM} {tr : Int64} {v wd hd ld nw v1 wd1 hd1 ld1 nw1 v2 : Nat → Int32} (h : y_E M M1 tr v wd hd ld nw v1 wd1 hd1 ld1 nw1) (e : z_ev M1 M2 (fun k => k = 62)) (g : M2[62]? = some (.inl (6, m_f tr v2))) (h2 : v2 2 = v1 2) : y_E M M2 tr v wd hd ld nw v2 wd1 hd1 ld1 nw1 := by
  obtain ⟨a1, ⟨b1, b2, b3, b4, b5⟩, a3, a4, a5⟩ := h
  exact ⟨a1.tr (e.wk (fun k g => Or.inl g)), ⟨g, (e.2 _ (by decide)).trans b2, (e.2 _ (by decide)).trans b3, (e.2 _ (by decide)).trans b4, (e.2 _ (by decide)).trans b5⟩, h2.trans a3, a4, a5⟩
theorem y_E.n {M M1 : ZM} {tr : Int64} {v wd hd ld nw v1 wd1 hd1 ld1 nw1 : Nat → Int32} (h : y_E M M1 tr v wd hd ld nw v1 wd1 hd1 ld1 nw1) (nw2 : Nat → Int32) (g : ∀ j, j < 59 ∨ 118 ≤ j → nw2 j = nw1 j) : y_E M (M1.set 67 (zA 236 nw2)) tr v wd hd ld nw v1 wd1 hd1 ld1 nw2 := by
  obtain ⟨a1, ⟨b1, b2, b3, b4, b5⟩, a3, a4, a5⟩ := h
  exact ⟨a1.tr (.set (by omega)), ⟨z_gn (by decide) b1, z_gn (by decide) b2, z_gn (by decide) b3, z_gn (by decide) b4, z_gs b5⟩, a3, a4, fun j hj => (g j hj).trans (a5 j hj)⟩
def t_end (T : Nat) (tx : Nat → Int32) (D : ZD) (u : Nat ⊕ Nat) : Nat ⊕ (ZD × Nat) := match u with
  | .inl f => .inl f
  | .inr q => if t_kd T tx q = 3 then .inr (D, t_e T tx q) else .inl q
def y_O (M M' : ZM) (tr : Int64) (v wd hd ld nw : Nat → Int32) (T : Nat) (tx : Nat → Int32) (u : Nat ⊕ (ZD × Nat)) : Prop := ∃ v' wd' hd' ld' nw', y_E M M' tr v wd hd ld nw v' wd' hd' ld' nw' ∧ match u with
  | .inl f => f ≤ 200 ∧ v' 12 = zI (f : Int)
  | .inr x => y_S M' tr v' T tx (.inr (t_q T tx x.2)) ∧ y_Dr wd' hd' ld' nw' x.1
section TW
variable {T : Nat} {tx : Nat → Int32}
theorem t_nu_p {lo hi : Int} {q : Nat} (h : t_isn T tx lo hi q) : t_nu T tx lo hi (.inr q) = .inr (t_q T tx (t_e T tx q)) := by
  show (if decide (t_isn T tx lo hi q) = true then Sum.inr (t_q T tx (t_e T tx q)) else Sum.inl q) = _
  exact if_pos (decide_eq_true h)
theorem t_nu_n {lo hi : Int} {q : Nat} (h : ¬ t_isn T tx lo hi q) : t_nu T tx lo hi (.inr q) = .inl q := by
  show (if decide (t_isn T tx lo hi q) = true then Sum.inr (t_q T tx (t_e T tx q)) else Sum.inl q) = _
  exact if_neg (fun g => h (of_decide_eq_true g))
theorem t_nu_f {lo hi : Int} {f : Nat} : t_nu T tx lo hi (.inl f) = .inl f := rfl
theorem t_num_u {D : ZD} {lo hi : Int} {pos : Nat} {k : Nat → Nat → Nat ⊕ (ZD × Nat)} {F : Nat ⊕ Nat → Nat ⊕ (ZD × Nat)} (hf : ∀ f, F (.inl f) = .inl f) (hk : t_isn T tx lo hi (t_q T tx pos) → k (t_val T tx (t_q T tx pos)) (t_e T tx (t_q T tx pos)) = F (.inr (t_q T tx (t_e T tx (t_q T tx pos))))) : t_num T tx lo hi pos k = F (t_nu T tx lo hi (.inr (t_q T tx pos))) := by
  by_cases h : t_isn T tx lo hi (t_q T tx pos)
  · rw [t_num_p h, t_nu_p h]
    exact hk h
  · rw [t_num_n h, t_nu_n h, hf]
theorem t_yard_u {D : ZD} {pos : Nat} : t_yard T tx D pos = t_end T tx ((t_val T tx (t_q T tx pos), t_val T tx (t_q T tx (t_e T tx (t_q T tx pos))), t_val T tx (t_q T tx (t_e T tx (t_q T tx (t_e T tx (t_q T tx pos)))))), D.2) (t_nu T tx 1 3 (t_nu T tx 1 5 (t_nu T tx 1 5 (.inr (t_q T tx pos))))) := by
  unfold t_yard
  refine t_num_u (D := D) (F := fun u => t_end T tx _ (t_nu T tx 1 3 (t_nu T tx 1 5 u))) (fun f => rfl) (fun h1 => ?_)
  refine t_num_u (D := D) (F := fun u => t_end T tx _ (t_nu T tx 1 3 u)) (fun f => rfl) (fun h2 => ?_)
  exact t_num_u (D := D) (F := fun u => t_end T tx _ u) (fun f => rfl) (fun h3 => rfl)
theorem t_house_u {D : ZD} {pos : Nat} : t_house T tx D pos = t_end T tx (D.1, h_add D.2.1 (D.1.1 * t_val T tx (t_q T tx (t_e T tx (t_q T tx pos))) + t_val T tx (t_q T tx pos)), D.2.2) (t_nu T tx 0 ((D.1.2.1 : Int) - 1) (t_nu T tx 0 ((D.1.1 : Int) - 1) (.inr (t_q T tx pos)))) := by
  unfold t_house
  refine t_num_u (D := D) (F := fun u => t_end T tx _ (t_nu T tx 0 ((D.1.2.1 : Int) - 1) u)) (fun f => rfl) (fun h1 => ?_)
  exact t_num_u (D := D) (F := fun u => t_end T tx _ u) (fun f => rfl) (fun h3 => rfl)
end TW
section TV
variable {S : ZS} {d : Nat} {M : ZM} {T : Nat} {tx : Nat → Int32} {tr : Int64} {v wd hd ld nw : Nat → Int32} {D : ZD}
theorem m_rI_e {M1 : ZM} {v1 wd1 hd1 ld1 nw1 : Nat → Int32} (hE : y_E M M1 tr v wd hd ld nw v1 wd1 hd1 ld1 nw1) {u : Nat ⊕ Nat} (hS : y_S M1 tr v1 T tx u) (hDr : ∀ q, u = .inr q → y_Dr wd1 hd1 ld1 nw1 D) {x1 x2 x3 x4 : Option Value} : z_R S (d + 3) 113 180 [some (.ref 62), x1, x2, x3, x4] [] M1 (fun r M' => r = none ∧ y_O M M' tr v wd hd ld nw T tx (t_end T tx D u)) := by
  obtain ⟨a1, ⟨b1, b2, b3, b4, b5⟩, a3, a4, a5⟩ := id hE
  rcases u with f | q
  · have s12 := id hS.2.2.2
    obtain ⟨a10, e10, b10⟩ := zI_of (v1 10)
    refine r_al rfl rfl ?_
    refine r_al rfl rfl ?_
    refine r_gf rfl b1 rfl rfl ?_
    rw [e10]
    refine r_ic rfl ?_
    by_cases h5 : a10 = 5
    · refine r_icF rfl (zcF1 (h5)) ?_
      obtain ⟨M2, k2, e2, v2, s2, r2⟩ := m_due (S := S) (d := d) hS true
      refine r_ic rfl ?_
      refine r_goto rfl ?_
      refine r_cv1 rfl rfl b1 rfl (by decide) rfl (k2) ?_
      refine r_popI rfl ?_
      refine r_retv rfl rfl ?_
      have E2 := hE.v e2 s2.1 (r2 2 (by omega))
      exact ⟨rfl, v2, wd1, hd1, ld1, nw1, E2, s2.2.2.2⟩
    · refine r_icT rfl (zcT1 ⟨by omega, by omega⟩ ⟨by omega, by omega⟩ (h5)) ?_
      obtain ⟨M2, k2, e2, v2, s2, r2⟩ := m_due (S := S) (d := d) hS false
      refine r_ic rfl ?_
      refine r_cv1 rfl rfl b1 rfl (by decide) rfl (k2) ?_
      refine r_popI rfl ?_
      refine r_retv rfl rfl ?_
      have E2 := hE.v e2 s2.1 (r2 2 (by omega))
      exact ⟨rfl, v2, wd1, hd1, ld1, nw1, E2, s2.2.2.2⟩
  · obtain ⟨hq, h12, h8, h9, h10, h11⟩ := id hS.2.2.2
    have sk := (t_so_k (T := T) (tx := tx) (q := q)).2.1
    have si := t_so_in (T := T) (tx := tx) (q := q)
    refine r_al rfl rfl ?_
    refine r_al rfl rfl ?_
    refine r_gf rfl b1 rfl rfl ?_
    rw [h10]
    refine r_ic rfl ?_
    by_cases h5 : t_so T tx q = 5
    · refine r_icF rfl (zcF1 (h5)) ?_
      obtain ⟨M2, k2, e2, v2, s2, r2⟩ := m_due (S := S) (d := d) hS true
      refine r_ic rfl ?_
      refine r_goto rfl ?_
      refine r_cv1 rfl rfl b1 rfl (by decide) rfl (k2) ?_
      refine r_popI rfl ?_
      refine r_retv rfl rfl ?_
      have E2 := hE.v e2 s2.1 (r2 2 (by omega))
      have eu : t_end T tx D (.inr q) = .inr (D, t_e T tx q) := if_pos (sk.mp h5)
      rw [eu]
      exact ⟨rfl, v2, wd1, hd1, ld1, nw1, E2, s2, hDr q rfl⟩
    · refine r_icT rfl (zcT1 ⟨by omega, by omega⟩ ⟨by omega, by omega⟩ (h5)) ?_
      obtain ⟨M2, k2, e2, v2, s2, r2⟩ := m_due (S := S) (d := d) hS false
      refine r_ic rfl ?_
      refine r_cv1 rfl rfl b1 rfl (by decide) rfl (k2) ?_
      refine r_popI rfl ?_
      refine r_retv rfl rfl ?_
      have E2 := hE.v e2 s2.1 (r2 2 (by omega))
      have eu : t_end T tx D (.inr q) = .inl q := if_neg (fun g => h5 (sk.mpr g))
      rw [eu]
      exact ⟨rfl, v2, wd1, hd1, ld1, nw1, E2, s2.2.2.2⟩
set_option maxRecDepth 20000 in
theorem m_rI_y {M1 : ZM} {v1 wd1 hd1 ld1 nw1 : Nat → Int32} (hE : y_E M M1 tr v wd hd ld nw v1 wd1 hd1 ld1 nw1) {pos : Nat} (hS : y_S M1 tr v1 T tx (.inr (t_q T tx pos))) (hDr : y_Dr wd1 hd1 ld1 nw1 D) {x1 x2 x3 x4 : Option Value} : z_R S (d + 4) 113 68 [some (.ref 62), x1, x2, x3, x4] [] M1 (fun r M' => r = none ∧ y_O M M' tr v wd hd ld nw T tx (t_yard T tx D pos)) := by
  obtain ⟨a1, ⟨b1, b2, b3, b4, b5⟩, a3, a4, a5⟩ := id hE
  obtain ⟨M2, k2, e2, v2, s2, r2⟩ := m_number (S := S) (d := d) hS (lo := 1) (hi := 5) ⟨by omega, by omega⟩ ⟨by omega, by omega⟩
  have s2' := s2.ev (.set (P := fun k => k = 64) (e := zA 2 (upd wd1 1 (v1 11))) rfl) (by decide) (by decide)
  obtain ⟨M3, k3, e3, v3, s3, r3⟩ := m_number (S := S) (d := d) s2' (lo := 1) (hi := 5) ⟨by omega, by omega⟩ ⟨by omega, by omega⟩
  have s3' := s3.ev (.set (P := fun k => k = 65) (e := zA 2 (upd hd1 1 (v2 11))) rfl) (by decide) (by decide)
  obtain ⟨M4, k4, e4, v4, s4, r4⟩ := m_number (S := S) (d := d) s3' (lo := 1) (hi := 3) ⟨by omega, by omega⟩ ⟨by omega, by omega⟩
  have c2 := (e2.2 64 (by decide)).trans b2
  have c3 := (e3.2 65 (by decide)).trans (z_gn (by decide) ((e2.2 65 (by decide)).trans b3))
  have c4 := (e4.2 66 (by decide)).trans (z_gn (by decide) ((e3.2 66 (by decide)).trans (z_gn (by decide) ((e2.2 66 (by decide)).trans b4))))
  have c5 := (e4.2 67 (by decide)).trans (z_gn (by decide) ((e3.2 67 (by decide)).trans (z_gn (by decide) ((e2.2 67 (by decide)).trans b5))))
  have d3 := (e4.2 65 (by decide)).trans (z_gs (e := zA 2 (upd hd1 1 (v2 11))) c3)
  have d2 := (e4.2 64 (by decide)).trans (z_gn (by decide) ((e3.2 64 (by decide)).trans (z_gs (e := zA 2 (upd wd1 1 (v1 11))) c2)))
  have E4 : y_E M (M4.set 66 (zA 2 (upd ld1 1 (v3 11)))) tr v wd hd ld nw v4 (upd wd1 1 (v1 11)) (upd hd1 1 (v2 11)) (upd ld1 1 (v3 11)) nw1 := ⟨(((((a1.tr (e2.wk (fun k g => Or.inl g))).tr (.set (by omega))).tr (e3.wk (fun k g => Or.inl g))).tr (.set (by omega))).tr (e4.wk (fun k g => Or.inl g))).tr (.set (by omega)), ⟨z_gn (by decide) s4.1, z_gn (by decide) d2, z_gn (by decide) d3, z_gs c4, z_gn (by decide) c5⟩, (r4 2 (by omega)).trans ((r3 2 (by omega)).trans ((r2 2 (by omega)).trans a3)), ⟨(pk_un (by decide)).trans a4.1, (pk_un (by decide)).trans a4.2.1, (pk_un (by decide)).trans a4.2.2⟩, a5⟩
  refine r_al rfl rfl ?_
  refine r_gf rfl b1 rfl rfl ?_
  refine r_ic rfl ?_
  refine r_al rfl rfl ?_
  refine r_ic rfl ?_
  refine r_ic rfl ?_
  refine r_cv2 rfl rfl b1 rfl (by decide) rfl (k2) ?_
  refine r_iSI rfl c2 (by omega) (by omega) (by omega) ?_
  rw [show (1 : Int).toNat = 1 from rfl]
  refine r_al rfl rfl ?_
  refine r_gf rfl s2'.1 rfl rfl ?_
  refine r_ic rfl ?_
  refine r_al rfl rfl ?_
  refine r_ic rfl ?_
  refine r_ic rfl ?_
  refine r_cv2 rfl rfl s2'.1 rfl (by decide) rfl (k3) ?_
  refine r_iSI rfl c3 (by omega) (by omega) (by omega) ?_
  rw [show (1 : Int).toNat = 1 from rfl]
  refine r_al rfl rfl ?_
  refine r_gf rfl s3'.1 rfl rfl ?_
  refine r_ic rfl ?_
  refine r_al rfl rfl ?_
  refine r_ic rfl ?_
  refine r_ic rfl ?_
  refine r_cv2 rfl rfl s3'.1 rfl (by decide) rfl (k4) ?_
  refine r_iSI rfl c4 (by omega) (by omega) (by omega) ?_
  rw [show (1 : Int).toNat = 1 from rfl]
  refine r_goto rfl ?_
  rw [t_yard_u]
  refine m_rI_e E4 (s4.ev (.set (P := fun k => k = 66) rfl) (by decide) (by decide)) (fun q hq9 => ?_)
  obtain ⟨y1, y2⟩ := hDr
  have hq1 := hS.2.2.2
  by_cases i1 : t_isn T tx 1 5 (t_q T tx pos)
  · rw [t_nu_p i1] at hq9 s2
    by_cases i2 : t_isn T tx 1 5 (t_q T tx (t_e T tx (t_q T tx pos)))
    · rw [t_nu_p i2] at hq9
      rw [t_nu_p i1, t_nu_p i2] at s3
      by_cases i3 : t_isn T tx 1 3 (t_q T tx (t_e T tx (t_q T tx (t_e T tx (t_q T tx pos)))))
      · have z1 := (t_va_val i1.1).2
        have z2 := (t_va_val i2.1).2
        have z3 := (t_va_val i3.1).2
        have x1 := i1.2.1.2
        have x2 := i2.2.1.2
        have x3 := i3.2.1.2
        have q1 := s2.2.2.2
        have q2 := s3.2.2.2
        refine ⟨⟨?_, ?_, ?_⟩, y2⟩
        · show upd wd1 1 (v1 11) 1 = zI (t_val T tx (t_q T tx pos) : Int)
          rw [pk_us, hq1.2.2.2.2.2, show t_val T tx (t_q T tx pos) = t_va T tx (t_q T tx pos) by omega]
        · show upd hd1 1 (v2 11) 1 = zI (t_val T tx (t_q T tx (t_e T tx (t_q T tx pos))) : Int)
          rw [pk_us, q1.2.2.2.2.2, show t_val T tx (t_q T tx (t_e T tx (t_q T tx pos))) = t_va T tx (t_q T tx (t_e T tx (t_q T tx pos))) by omega]
        · show upd ld1 1 (v3 11) 1 = zI (t_val T tx (t_q T tx (t_e T tx (t_q T tx (t_e T tx (t_q T tx pos))))) : Int)
          rw [pk_us, q2.2.2.2.2.2, show t_val T tx (t_q T tx (t_e T tx (t_q T tx (t_e T tx (t_q T tx pos))))) = t_va T tx (t_q T tx (t_e T tx (t_q T tx (t_e T tx (t_q T tx pos))))) by omega]
      · rw [t_nu_n i3] at hq9
        cases hq9
    · rw [t_nu_n i2] at hq9
      cases hq9
  · rw [t_nu_n i1] at hq9
    cases hq9
set_option maxRecDepth 20000 in
theorem m_rI_h {M1 : ZM} {v1 wd1 hd1 ld1 nw1 : Nat → Int32} (hE : y_E M M1 tr v wd hd ld nw v1 wd1 hd1 ld1 nw1) {pos : Nat} (hS : y_S M1 tr v1 T tx (.inr (t_q T tx pos))) (hDr : y_Dr wd1 hd1 ld1 nw1 D) (hwf : (1 ≤ D.1.1 ∧ D.1.1 ≤ 5) ∧ (1 ≤ D.1.2.1 ∧ D.1.2.1 ≤ 5) ∧ (1 ≤ D.1.2.2 ∧ D.1.2.2 ≤ 3) ∧ D.2.2.1 ≤ 4) (hn0 : D.2.2.1 = 0) {y1 y2 : Int} {x3 x4 : Option Value} : z_R S (d + 4) 113 112 [some (.ref 62), some (.int (zI y1)), some (.int (zI y2)), x3, x4] [] M1 (fun r M' => r = none ∧ y_O M M' tr v wd hd ld nw T tx (t_house T tx D pos)) := by
  obtain ⟨a1, ⟨b1, b2, b3, b4, b5⟩, a3, a4, a5⟩ := id hE
  obtain ⟨⟨hW1, hW2⟩, ⟨hH1, hH2⟩, -, hn4⟩ := id hwf
  obtain ⟨⟨d1, d2, d3⟩, dA⟩ := id hDr
  obtain ⟨M2, k2, e2, v2, s2, r2⟩ := m_number (S := S) (d := d) hS (lo := 0) (hi := (D.1.1 : Int) - 1) ⟨by omega, by omega⟩ ⟨by omega, by omega⟩
  obtain ⟨M3, k3, e3, v3, s3, r3⟩ := m_number (S := S) (d := d) s2 (lo := 0) (hi := (D.1.2.1 : Int) - 1) ⟨by omega, by omega⟩ ⟨by omega, by omega⟩
  have E2 := hE.v e2 s2.1 (r2 2 (by omega))
  have E3 := E2.v e3 s3.1 (r3 2 (by omega))
  obtain ⟨-, ⟨-, c2, c3, c4, c5⟩, -⟩ := id E2
  obtain ⟨-, ⟨-, f2, f3, f4, f5⟩, -⟩ := id E3
  refine r_al rfl rfl ?_
  refine r_ic rfl ?_
  refine r_al rfl rfl ?_
  refine r_gf rfl b1 rfl rfl ?_
  refine r_ic rfl ?_
  refine r_iaI rfl (by decide) b2 (by omega) (by omega) (by omega) ?_
  rw [show (1 : Int).toNat = 1 from rfl, d1]
  refine r_ic rfl ?_
  refine r_subI rfl ?_
  refine r_cv2 rfl rfl b1 rfl (by decide) rfl (k2) ?_
  refine r_is3 rfl rfl ?_
  refine r_al rfl rfl ?_
  refine r_ic rfl ?_
  refine r_al rfl rfl ?_
  refine r_gf rfl s2.1 rfl rfl ?_
  refine r_ic rfl ?_
  refine r_iaI rfl (by decide) c3 (by omega) (by omega) (by omega) ?_
  rw [show (1 : Int).toNat = 1 from rfl, d2]
  refine r_ic rfl ?_
  refine r_subI rfl ?_
  refine r_cv2 rfl rfl s2.1 rfl (by decide) rfl (k3) ?_
  rw [t_house_u]
  refine r_is4 rfl rfl ?_
  by_cases i1 : t_isn T tx 0 ((D.1.1 : Int) - 1) (t_q T tx pos)
  · by_cases i2 : t_isn T tx 0 ((D.1.2.1 : Int) - 1) (t_q T tx (t_e T tx (t_q T tx pos)))
    · rw [t_nu_p i1, t_nu_p i2] at s3 ⊢
      have q0 := hS.2.2.2
      rw [t_nu_p i1] at s2
      have q1 := s2.2.2.2
      have q2 := s3.2.2.2
      have z1 := (t_va_val i1.1).2
      have z2 := (t_va_val i2.1).2
      have x1' := i1.2.1.2
      have x2' := i2.2.1.2
      have ex : v1 11 = zI (t_val T tx (t_q T tx pos) : Int) := by rw [q0.2.2.2.2.2, show t_val T tx (t_q T tx pos) = t_va T tx (t_q T tx pos) by omega]
      have ey : v2 11 = zI (t_val T tx (t_q T tx (t_e T tx (t_q T tx pos))) : Int) := by rw [q1.2.2.2.2.2, show t_val T tx (t_q T tx (t_e T tx (t_q T tx pos))) = t_va T tx (t_q T tx (t_e T tx (t_q T tx pos))) by omega]
      have h12 := q2.2.1
      rw [ex, ey]
      refine r_al rfl rfl ?_
      refine r_gf rfl s3.1 rfl rfl ?_
      rw [h12]
      refine r_ic rfl ?_
      refine r_icF rfl (zcF1 (rfl)) ?_
      refine r_al rfl rfl ?_
      refine r_gf rfl s3.1 rfl rfl ?_
      refine r_ic rfl ?_
      refine r_dup2 rfl ?_
      refine r_iaI rfl (by decide) f5 (by omega) (by omega) (by omega) ?_
      rw [show (59 : Int).toNat = 59 from rfl, dA.1]
      refine r_ic rfl ?_
      refine r_al rfl rfl ?_
      refine r_gf rfl s3.1 rfl rfl ?_
      refine r_ic rfl ?_
      refine r_iaI rfl (by decide) f2 (by omega) (by omega) (by omega) ?_
      rw [show (1 : Int).toNat = 1 from rfl, d1]
      refine r_il rfl rfl ?_
      refine r_mulI rfl ?_
      refine r_il rfl rfl ?_
      refine r_addI rfl ?_
      refine r_ishl rfl ?_
      refine r_ior rfl ?_
      rw [show (D.1.1 : Int) * (t_val T tx (t_q T tx (t_e T tx (t_q T tx pos))) : Int) + (t_val T tx (t_q T tx pos) : Int) = ((D.1.1 * t_val T tx (t_q T tx (t_e T tx (t_q T tx pos))) + t_val T tx (t_q T tx pos) : Nat) : Int) by rw [Int.natCast_add, Int.natCast_mul]]
      refine r_iSI rfl f5 (by omega) (by omega) (by omega) ?_
      refine r_goto rfl ?_
      rw [show (59 : Int).toNat = 59 from rfl]
      generalize D.1.1 * t_val T tx (t_q T tx (t_e T tx (t_q T tx pos))) + t_val T tx (t_q T tx pos) = cn at *
      refine m_rI_e (d := d + 1) (D := (D.1, h_add D.2.1 cn, D.2.2)) (E3.n (upd nw1 59 (h_add D.2.1 cn)) (fun j hj => pk_un (by omega))) (s3.ev (.set (P := fun k => k = 67) rfl) (by decide) (by decide)) (fun q hq9 => ⟨⟨d1, d2, d3⟩, pk_us, (pk_un (by decide)).trans dA.2.1, rfl, fun k hk => ?_⟩)
      have hk : k < D.2.2.1 := hk
      rw [hn0] at hk
      omega
    · rw [t_nu_p i1, t_nu_n i2] at s3 ⊢
      obtain ⟨q2, h12⟩ := id s3.2.2.2
      refine r_al rfl rfl ?_
      refine r_gf rfl s3.1 rfl rfl ?_
      rw [h12]
      refine r_ic rfl ?_
      refine r_icT rfl (zcT1 ⟨by omega, by omega⟩ ⟨by omega, by omega⟩ (by omega)) ?_
      refine r_goto rfl ?_
      exact m_rI_e (d := d + 1) E3 s3 (fun q hq9 => by cases hq9)
  · rw [t_nu_n i1, t_nu_f] at s3 ⊢
    obtain ⟨q2, h12⟩ := id s3.2.2.2
    refine r_al rfl rfl ?_
    refine r_gf rfl s3.1 rfl rfl ?_
    rw [h12]
    refine r_ic rfl ?_
    refine r_icT rfl (zcT1 ⟨by omega, by omega⟩ ⟨by omega, by omega⟩ (by omega)) ?_
    refine r_goto rfl ?_
    exact m_rI_e (d := d + 1) E3 s3 (fun q hq9 => by cases hq9)
end TV
