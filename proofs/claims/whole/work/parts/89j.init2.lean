/-! CONSTRUCTORS: the reader, the class, the reference -/
theorem k_c.pt {M M' : ZM} {c : Nat} {r : ZCh} (h : k_c M c r) (e : ∀ k, c ≤ k → k < c + 2 → M'[k]? = M[k]?) : k_c M' c r := ⟨(e _ (by omega) (by omega)).trans h.1, (e _ (by omega) (by omega)).trans h.2⟩
theorem k_R.pt {M M' : ZM} {a : Nat} {ch : Nat → ZCh} (h : k_R M a ch) (e : ∀ k, a ≤ k → k < a + 10 → M'[k]? = M[k]?) : k_R M' a ch := by
  obtain ⟨⟨cf, h1, h2⟩, h3⟩ := h
  exact ⟨⟨cf, (e _ (by omega) (by omega)).trans h1, h2⟩, fun k hk => (h3 k hk).pt (fun j g1 g2 => e j (by omega) (by omega))⟩
theorem x_W.pt {M M' : ZM} (h : x_W M) (q : ∀ k, 25 ≤ k → k < 33 → M'[k]? = M[k]?) : x_W M' := by
  obtain ⟨⟨a1, a2, h1⟩, ⟨f2, h2⟩, ⟨f3, h3⟩, ⟨f4, h4⟩, ⟨f5, h5⟩, ⟨f6, h6⟩, ⟨f7, h7⟩, f8, h8⟩ := h
  exact ⟨⟨a1, a2, (q _ (by decide) (by decide)).trans h1⟩, ⟨f2, (q _ (by decide) (by decide)).trans h2⟩, ⟨f3, (q _ (by decide) (by decide)).trans h3⟩, ⟨f4, (q _ (by decide) (by decide)).trans h4⟩, ⟨f5, (q _ (by decide) (by decide)).trans h5⟩, ⟨f6, (q _ (by decide) (by decide)).trans h6⟩, ⟨f7, (q _ (by decide) (by decide)).trans h7⟩, f8, (q _ (by decide) (by decide)).trans h8⟩
theorem x_V.pt {M M' : ZM} (h : x_V M) (q : ∀ k, 33 ≤ k → k < 38 → M'[k]? = M[k]?) : x_V M' := by
  obtain ⟨⟨a1, a2, a3, a4, a5, a6, h1⟩, ⟨f2, h2⟩, ⟨f3, h3⟩, ⟨f4, h4⟩, f5, h5⟩ := h
  exact ⟨⟨a1, a2, a3, a4, a5, a6, (q _ (by decide) (by decide)).trans h1⟩, ⟨f2, (q _ (by decide) (by decide)).trans h2⟩, ⟨f3, (q _ (by decide) (by decide)).trans h3⟩, ⟨f4, (q _ (by decide) (by decide)).trans h4⟩, f5, (q _ (by decide) (by decide)).trans h5⟩
section CQ
variable {S : ZS} {d : Nat} {M : ZM}
theorem c_iR {tx : Nat → Int32} (hl : M.length = 12) (h : M[11]? = some (.inl (1, [.int (zI 0), .int (zI 0), .int (zI 0), .null, .null, .null, .int (zI 0), .int (zI 0), .int (zI 0)]))) : ∃ M', z_C S (d + 2) 10 [.ref 11] M none M' ∧ M'.length = 25 ∧ x_R M' 0 tx ∧ ∀ k, k < 11 → M'[k]? = M[k]? := by
  refine k_an ?_
  refine k_of rfl rfl (Nat.le_of_ble_eq_true rfl) ?_
  refine r_al rfl rfl ?_
  refine r_obj rfl rfl ?_
  refine r_al rfl rfl ?_
  refine r_ic rfl ?_
  refine r_naB rfl hl (by decide) ⟨by decide, by decide⟩ ?_
  rw [show (200 : Int).toNat = 200 from rfl]
  obtain ⟨pp1, pp2, pp3⟩ := z_ap (x := .inr (1, 200, .inl (fun _ => 0))) hl
  refine r_pf4 rfl ((pp3 11 (by decide)).trans h) rfl rfl rfl (Or.inr rfl) ?_
  generalize hMa : (M ++ [(.inr (1, 200, .inl (fun _ => 0)) : ZE)]) = Ma at *
  have e0 : z_ev Ma (Ma.set 11 (.inl (1, [.int (zI 0), .int (zI 0), .int (zI 0), .null, .ref 12, .null, .int (zI 0), .int (zI 0), .int (zI 0)]))) (fun k => k = 11) := .set rfl
  have o0 : (Ma.set 11 (.inl (1, [.int (zI 0), .int (zI 0), .int (zI 0), .null, .ref 12, .null, .int (zI 0), .int (zI 0), .int (zI 0)]) : ZE))[11]? = some (.inl (1, [.int (zI 0), .int (zI 0), .int (zI 0), .null, .ref 12, .null, .int (zI 0), .int (zI 0), .int (zI 0)])) := z_gs ((pp3 11 (by decide)).trans h)
  have l0 : (Ma.set 11 (.inl (1, [.int (zI 0), .int (zI 0), .int (zI 0), .null, .ref 12, .null, .int (zI 0), .int (zI 0), .int (zI 0)]) : ZE)).length = 13 := by rw [List.length_set]; exact pp1
  have f0 : ∀ k, k ≠ 11 → k < 12 → (Ma.set 11 (.inl (1, [.int (zI 0), .int (zI 0), .int (zI 0), .null, .ref 12, .null, .int (zI 0), .int (zI 0), .int (zI 0)]) : ZE))[k]? = M[k]? := fun k g1 g2 => (e0.2 k g1).trans (pp3 k (by omega))
  have c0 : ∀ k, k ≠ 11 → (Ma.set 11 (.inl (1, [.int (zI 0), .int (zI 0), .int (zI 0), .null, .ref 12, .null, .int (zI 0), .int (zI 0), .int (zI 0)]) : ZE))[k]? = Ma[k]? := fun k g1 => e0.2 k g1
  generalize Ma.set 11 (.inl (1, [.int (zI 0), .int (zI 0), .int (zI 0), .null, .ref 12, .null, .int (zI 0), .int (zI 0), .int (zI 0)]) : ZE) = A0 at *
  refine r_al rfl rfl ?_
  refine r_new (fs := [.int (zI 0), .int (zI 0), .int (zI 0), .int (zI 0), .int (zI 0), .int (zI 0), .null]) rfl l0 ⟨by decide, by decide⟩ rfl ?_
  obtain ⟨p11, p12, p13⟩ := z_ap (x := .inl (2, [.int (zI 0), .int (zI 0), .int (zI 0), .int (zI 0), .int (zI 0), .int (zI 0), .null])) l0
  obtain ⟨B1, kk1, L1, O1, R1, q1⟩ := c_iS (S := S) (d := d) (a := 13) (by decide) p11 p12
  refine r_dupA rfl ?_
  refine r_cx0v rfl rfl rfl rfl rfl (kk1) ?_
  refine r_pf3 rfl ((q1 11 (by decide)).trans ((p13 11 (by decide)).trans o0)) rfl rfl rfl (Or.inr rfl) ?_
  have e1 : z_ev B1 (B1.set 11 (.inl (1, [.int (zI 0), .int (zI 0), .int (zI 0), .ref 13, .ref 12, .null, .int (zI 0), .int (zI 0), .int (zI 0)]))) (fun k => k = 11) := .set rfl
  have o1 : (B1.set 11 (.inl (1, [.int (zI 0), .int (zI 0), .int (zI 0), .ref 13, .ref 12, .null, .int (zI 0), .int (zI 0), .int (zI 0)]) : ZE))[11]? = some (.inl (1, [.int (zI 0), .int (zI 0), .int (zI 0), .ref 13, .ref 12, .null, .int (zI 0), .int (zI 0), .int (zI 0)])) := z_gs ((q1 11 (by decide)).trans ((p13 11 (by decide)).trans o0))
  have l1 : (B1.set 11 (.inl (1, [.int (zI 0), .int (zI 0), .int (zI 0), .ref 13, .ref 12, .null, .int (zI 0), .int (zI 0), .int (zI 0)]) : ZE)).length = 23 := by rw [List.length_set]; exact L1
  have f1 : ∀ k, k ≠ 11 → k < 13 → (B1.set 11 (.inl (1, [.int (zI 0), .int (zI 0), .int (zI 0), .ref 13, .ref 12, .null, .int (zI 0), .int (zI 0), .int (zI 0)]) : ZE))[k]? = A0[k]? := fun k g1 g2 => (e1.2 k g1).trans ((q1 k (by omega)).trans (p13 k (by omega)))
  have c1 : ∀ k, k ≠ 11 → (B1.set 11 (.inl (1, [.int (zI 0), .int (zI 0), .int (zI 0), .ref 13, .ref 12, .null, .int (zI 0), .int (zI 0), .int (zI 0)]) : ZE))[k]? = B1[k]? := fun k g1 => e1.2 k g1
  generalize B1.set 11 (.inl (1, [.int (zI 0), .int (zI 0), .int (zI 0), .ref 13, .ref 12, .null, .int (zI 0), .int (zI 0), .int (zI 0)]) : ZE) = A1 at *
  refine r_al rfl rfl ?_
  refine r_new (fs := [.int (zI 0), .int (zI 0), .int (zI 0), .int (zI 0), .null]) rfl l1 ⟨by decide, by decide⟩ rfl ?_
  obtain ⟨p21, p22, p23⟩ := z_ap (x := .inl (0, [.int (zI 0), .int (zI 0), .int (zI 0), .int (zI 0), .null])) l1
  obtain ⟨B2, kk2, L2, O2, S2, q2⟩ := c_iC (S := S) (d := d + 1) p22 p21 (by decide) (by decide)
  refine r_dupA rfl ?_
  refine r_cx0v rfl rfl rfl rfl rfl (kk2) ?_
  refine r_pf5 rfl ((q2 11 (by decide) (by decide)).trans ((p23 11 (by decide)).trans o1)) rfl rfl rfl (Or.inr rfl) ?_
  have e2 : z_ev B2 (B2.set 11 (.inl (1, [.int (zI 0), .int (zI 0), .int (zI 0), .ref 13, .ref 12, .ref 23, .int (zI 0), .int (zI 0), .int (zI 0)]))) (fun k => k = 11) := .set rfl
  have o2 : (B2.set 11 (.inl (1, [.int (zI 0), .int (zI 0), .int (zI 0), .ref 13, .ref 12, .ref 23, .int (zI 0), .int (zI 0), .int (zI 0)]) : ZE))[11]? = some (.inl (1, [.int (zI 0), .int (zI 0), .int (zI 0), .ref 13, .ref 12, .ref 23, .int (zI 0), .int (zI 0), .int (zI 0)])) := z_gs ((q2 11 (by decide) (by decide)).trans ((p23 11 (by decide)).trans o1))
  have l2 : (B2.set 11 (.inl (1, [.int (zI 0), .int (zI 0), .int (zI 0), .ref 13, .ref 12, .ref 23, .int (zI 0), .int (zI 0), .int (zI 0)]) : ZE)).length = 25 := by rw [List.length_set]; exact L2
  have f2 : ∀ k, k ≠ 11 → k < 23 → (B2.set 11 (.inl (1, [.int (zI 0), .int (zI 0), .int (zI 0), .ref 13, .ref 12, .ref 23, .int (zI 0), .int (zI 0), .int (zI 0)]) : ZE))[k]? = A1[k]? := fun k g1 g2 => (e2.2 k g1).trans ((q2 k (by omega) (by omega)).trans (p23 k (by omega)))
  have c2 : ∀ k, k ≠ 11 → (B2.set 11 (.inl (1, [.int (zI 0), .int (zI 0), .int (zI 0), .ref 13, .ref 12, .ref 23, .int (zI 0), .int (zI 0), .int (zI 0)]) : ZE))[k]? = B2[k]? := fun k g1 => e2.2 k g1
  generalize B2.set 11 (.inl (1, [.int (zI 0), .int (zI 0), .int (zI 0), .ref 13, .ref 12, .ref 23, .int (zI 0), .int (zI 0), .int (zI 0)]) : ZE) = A2 at *
  refine r_retv rfl rfl ?_
  refine ⟨rfl, l2, ⟨Nat.zero_le _, ⟨_, _, _, _, _, o2⟩, ⟨_, (f2 12 (by decide) (by decide)).trans ((f1 12 (by decide) (by decide)).trans ((c0 12 (by decide)).trans pp2)), fun j hj => absurd hj (Nat.not_lt_zero _)⟩, ⟨fun k => match k with | 0 => zI 5 | 1 => zI 5 | 2 => zI 1 | 3 => zI 0 | 4 => zI 0 | _ => zI 1, (f2 13 (by decide) (by decide)).trans ((c1 13 (by decide)).trans O1)⟩, ⟨_, R1.pt (fun k g1 g2 => (f2 k (by omega) (by omega)).trans (c1 k (by omega)))⟩, (zI 0, zI 0, zI 0, zI 0, fun _ => 0), ⟨(c2 23 (by decide)).trans O2, (c2 24 (by decide)).trans S2⟩⟩, fun k hk => (f2 k (by omega) (by omega)).trans ((f1 k (by omega) (by omega)).trans (f0 k (by omega) (by omega)))⟩
theorem x_R.pt {M M' : ZM} {T : Nat} {tx : Nat → Int32} (h : x_R M T tx) (e : ∀ k, 11 ≤ k → k < 25 → M'[k]? = M[k]?) : x_R M' T tx := by
  obtain ⟨h1, ⟨a1, a2, a3, a4, a5, h2⟩, ⟨g, h3, h4⟩, ⟨v, h5⟩, ⟨ch, h6⟩, r, h7⟩ := h
  exact ⟨h1, ⟨a1, a2, a3, a4, a5, (e _ (by decide) (by decide)).trans h2⟩, ⟨g, (e _ (by decide) (by decide)).trans h3, h4⟩, ⟨v, (e _ (by decide) (by decide)).trans h5⟩, ⟨ch, h6.pt (fun k g1 g2 => e k (by omega) (by omega))⟩, r, h7.pt (fun k g1 g2 => e k (by omega) (by omega))⟩
set_option maxRecDepth 20000 in
theorem c_iB {tx : Nat → Int32} {kc : Nat → ZK} (hl : M.length = 1) (h : M[0]? = some (.inl (5, [.null, .null, .null, .null, .null, .null, .null, .long 0]))) : ∃ M', z_C S (d + 3) 69 [.ref 0] M none M' ∧ M'.length = 62 ∧ M'[0]? = some (k_bt (Int64.ofInt 0)) ∧ k_A M' 1 5 5 1 (zI 0) (zI 1) 0 kc ∧ x_R M' 0 tx ∧ x_W M' ∧ x_V M' ∧ (∃ r, k_c M' 38 r) ∧ x_G M' 5 5 1 (fun _ => none) := by
  refine k_an ?_
  refine k_of rfl rfl (Nat.le_of_ble_eq_true rfl) ?_
  refine r_al rfl rfl ?_
  refine r_obj rfl rfl ?_
  refine r_al rfl rfl ?_
  refine r_new (fs := [.int (zI 0), .int (zI 0), .int (zI 0), .int (zI 0), .int (zI 0), .int (zI 0), .null]) rfl hl ⟨by decide, by decide⟩ rfl ?_
  obtain ⟨p01, p02, p03⟩ := z_ap (x := .inl (2, [.int (zI 0), .int (zI 0), .int (zI 0), .int (zI 0), .int (zI 0), .int (zI 0), .null])) hl
  obtain ⟨B0, kk0, L0, O0, R0, q0⟩ := c_iS (S := S) (d := d + 1) (a := 1) (by decide) p01 p02
  refine r_dupA rfl ?_
  refine r_cx0v rfl rfl rfl rfl rfl (kk0) ?_
  refine r_pf0 rfl ((q0 0 (by decide)).trans ((p03 0 (by decide)).trans h)) rfl rfl rfl (Or.inr rfl) ?_
  have e0 : z_ev B0 (B0.set 0 (.inl (5, [.ref 1, .null, .null, .null, .null, .null, .null, .long 0]))) (fun k => k = 0) := .set rfl
  have o0 : (B0.set 0 (.inl (5, [.ref 1, .null, .null, .null, .null, .null, .null, .long 0]) : ZE))[0]? = some (.inl (5, [.ref 1, .null, .null, .null, .null, .null, .null, .long 0])) := z_gs ((q0 0 (by decide)).trans ((p03 0 (by decide)).trans h))
  have l0 : (B0.set 0 (.inl (5, [.ref 1, .null, .null, .null, .null, .null, .null, .long 0]) : ZE)).length = 11 := by rw [List.length_set]; exact L0
  have f0 : ∀ k, k ≠ 0 → k < 1 → (B0.set 0 (.inl (5, [.ref 1, .null, .null, .null, .null, .null, .null, .long 0]) : ZE))[k]? = M[k]? := fun k g1 g2 => (e0.2 k g1).trans ((q0 k (by omega)).trans (p03 k (by omega)))
  have c0 : ∀ k, k ≠ 0 → (B0.set 0 (.inl (5, [.ref 1, .null, .null, .null, .null, .null, .null, .long 0]) : ZE))[k]? = B0[k]? := fun k g1 => e0.2 k g1
  generalize B0.set 0 (.inl (5, [.ref 1, .null, .null, .null, .null, .null, .null, .long 0]) : ZE) = A0 at *
  refine r_al rfl rfl ?_
  refine r_new (fs := [.int (zI 0), .int (zI 0), .int (zI 0), .null, .null, .null, .int (zI 0), .int (zI 0), .int (zI 0)]) rfl l0 ⟨by decide, by decide⟩ rfl ?_
  obtain ⟨p11, p12, p13⟩ := z_ap (x := .inl (1, [.int (zI 0), .int (zI 0), .int (zI 0), .null, .null, .null, .int (zI 0), .int (zI 0), .int (zI 0)])) l0
  obtain ⟨B1, kk1, L1, X1, q1⟩ := c_iR (S := S) (d := d) (tx := tx) p11 p12
  refine r_dupA rfl ?_
  refine r_cx0v rfl rfl rfl rfl rfl (kk1) ?_
  refine r_pf1 rfl ((q1 0 (by decide)).trans ((p13 0 (by decide)).trans o0)) rfl rfl rfl (Or.inr rfl) ?_
  have e1 : z_ev B1 (B1.set 0 (.inl (5, [.ref 1, .ref 11, .null, .null, .null, .null, .null, .long 0]))) (fun k => k = 0) := .set rfl
  have o1 : (B1.set 0 (.inl (5, [.ref 1, .ref 11, .null, .null, .null, .null, .null, .long 0]) : ZE))[0]? = some (.inl (5, [.ref 1, .ref 11, .null, .null, .null, .null, .null, .long 0])) := z_gs ((q1 0 (by decide)).trans ((p13 0 (by decide)).trans o0))
  have l1 : (B1.set 0 (.inl (5, [.ref 1, .ref 11, .null, .null, .null, .null, .null, .long 0]) : ZE)).length = 25 := by rw [List.length_set]; exact L1
  have f1 : ∀ k, k ≠ 0 → k < 11 → (B1.set 0 (.inl (5, [.ref 1, .ref 11, .null, .null, .null, .null, .null, .long 0]) : ZE))[k]? = A0[k]? := fun k g1 g2 => (e1.2 k g1).trans ((q1 k (by omega)).trans (p13 k (by omega)))
  have c1 : ∀ k, k ≠ 0 → (B1.set 0 (.inl (5, [.ref 1, .ref 11, .null, .null, .null, .null, .null, .long 0]) : ZE))[k]? = B1[k]? := fun k g1 => e1.2 k g1
  generalize B1.set 0 (.inl (5, [.ref 1, .ref 11, .null, .null, .null, .null, .null, .long 0]) : ZE) = A1 at *
  refine r_al rfl rfl ?_
  refine r_new (fs := [.null, .int (zI 0), .int (zI 0), .null, .null, .null, .null, .null, .null]) rfl l1 ⟨by decide, by decide⟩ rfl ?_
  obtain ⟨p21, p22, p23⟩ := z_ap (x := .inl (3, [.null, .int (zI 0), .int (zI 0), .null, .null, .null, .null, .null, .null])) l1
  obtain ⟨B2, kk2, L2, W2, q2⟩ := c_iW (S := S) (d := d + 2) p21 p22
  refine r_dupA rfl ?_
  refine r_cx0v rfl rfl rfl rfl rfl (kk2) ?_
  refine r_pf2 rfl ((q2 0 (by decide)).trans ((p23 0 (by decide)).trans o1)) rfl rfl rfl (Or.inr rfl) ?_
  have e2 : z_ev B2 (B2.set 0 (.inl (5, [.ref 1, .ref 11, .ref 25, .null, .null, .null, .null, .long 0]))) (fun k => k = 0) := .set rfl
  have o2 : (B2.set 0 (.inl (5, [.ref 1, .ref 11, .ref 25, .null, .null, .null, .null, .long 0]) : ZE))[0]? = some (.inl (5, [.ref 1, .ref 11, .ref 25, .null, .null, .null, .null, .long 0])) := z_gs ((q2 0 (by decide)).trans ((p23 0 (by decide)).trans o1))
  have l2 : (B2.set 0 (.inl (5, [.ref 1, .ref 11, .ref 25, .null, .null, .null, .null, .long 0]) : ZE)).length = 33 := by rw [List.length_set]; exact L2
  have f2 : ∀ k, k ≠ 0 → k < 25 → (B2.set 0 (.inl (5, [.ref 1, .ref 11, .ref 25, .null, .null, .null, .null, .long 0]) : ZE))[k]? = A1[k]? := fun k g1 g2 => (e2.2 k g1).trans ((q2 k (by omega)).trans (p23 k (by omega)))
  have c2 : ∀ k, k ≠ 0 → (B2.set 0 (.inl (5, [.ref 1, .ref 11, .ref 25, .null, .null, .null, .null, .long 0]) : ZE))[k]? = B2[k]? := fun k g1 => e2.2 k g1
  generalize B2.set 0 (.inl (5, [.ref 1, .ref 11, .ref 25, .null, .null, .null, .null, .long 0]) : ZE) = A2 at *
  refine r_al rfl rfl ?_
  refine r_new (fs := [.null, .null, .null, .int (zI 0), .int (zI 0), .int (zI 0), .int (zI 0), .int (zI 0), .null, .int (zI 0)]) rfl l2 ⟨by decide, by decide⟩ rfl ?_
  obtain ⟨p31, p32, p33⟩ := z_ap (x := .inl (4, [.null, .null, .null, .int (zI 0), .int (zI 0), .int (zI 0), .int (zI 0), .int (zI 0), .null, .int (zI 0)])) l2
  obtain ⟨B3, kk3, L3, V3, q3⟩ := c_iV (S := S) (d := d + 2) p31 p32
  refine r_dupA rfl ?_
  refine r_cx0v rfl rfl rfl rfl rfl (kk3) ?_
  refine r_pf3 rfl ((q3 0 (by decide)).trans ((p33 0 (by decide)).trans o2)) rfl rfl rfl (Or.inr rfl) ?_
  have e3 : z_ev B3 (B3.set 0 (.inl (5, [.ref 1, .ref 11, .ref 25, .ref 33, .null, .null, .null, .long 0]))) (fun k => k = 0) := .set rfl
  have o3 : (B3.set 0 (.inl (5, [.ref 1, .ref 11, .ref 25, .ref 33, .null, .null, .null, .long 0]) : ZE))[0]? = some (.inl (5, [.ref 1, .ref 11, .ref 25, .ref 33, .null, .null, .null, .long 0])) := z_gs ((q3 0 (by decide)).trans ((p33 0 (by decide)).trans o2))
  have l3 : (B3.set 0 (.inl (5, [.ref 1, .ref 11, .ref 25, .ref 33, .null, .null, .null, .long 0]) : ZE)).length = 38 := by rw [List.length_set]; exact L3
  have f3 : ∀ k, k ≠ 0 → k < 33 → (B3.set 0 (.inl (5, [.ref 1, .ref 11, .ref 25, .ref 33, .null, .null, .null, .long 0]) : ZE))[k]? = A2[k]? := fun k g1 g2 => (e3.2 k g1).trans ((q3 k (by omega)).trans (p33 k (by omega)))
  have c3 : ∀ k, k ≠ 0 → (B3.set 0 (.inl (5, [.ref 1, .ref 11, .ref 25, .ref 33, .null, .null, .null, .long 0]) : ZE))[k]? = B3[k]? := fun k g1 => e3.2 k g1
  generalize B3.set 0 (.inl (5, [.ref 1, .ref 11, .ref 25, .ref 33, .null, .null, .null, .long 0]) : ZE) = A3 at *
  refine r_al rfl rfl ?_
  refine r_new (fs := [.int (zI 0), .int (zI 0), .int (zI 0), .int (zI 0), .null]) rfl l3 ⟨by decide, by decide⟩ rfl ?_
  obtain ⟨p41, p42, p43⟩ := z_ap (x := .inl (0, [.int (zI 0), .int (zI 0), .int (zI 0), .int (zI 0), .null])) l3
  obtain ⟨B4, kk4, L4, O4, S4, q4⟩ := c_iC (S := S) (d := d + 2) p42 p41 (by decide) (by decide)
  refine r_dupA rfl ?_
  refine r_cx0v rfl rfl rfl rfl rfl (kk4) ?_
  refine r_pf4 rfl ((q4 0 (by decide) (by decide)).trans ((p43 0 (by decide)).trans o3)) rfl rfl rfl (Or.inr rfl) ?_
  have e4 : z_ev B4 (B4.set 0 (.inl (5, [.ref 1, .ref 11, .ref 25, .ref 33, .ref 38, .null, .null, .long 0]))) (fun k => k = 0) := .set rfl
  have o4 : (B4.set 0 (.inl (5, [.ref 1, .ref 11, .ref 25, .ref 33, .ref 38, .null, .null, .long 0]) : ZE))[0]? = some (.inl (5, [.ref 1, .ref 11, .ref 25, .ref 33, .ref 38, .null, .null, .long 0])) := z_gs ((q4 0 (by decide) (by decide)).trans ((p43 0 (by decide)).trans o3))
  have l4 : (B4.set 0 (.inl (5, [.ref 1, .ref 11, .ref 25, .ref 33, .ref 38, .null, .null, .long 0]) : ZE)).length = 40 := by rw [List.length_set]; exact L4
  have f4 : ∀ k, k ≠ 0 → k < 38 → (B4.set 0 (.inl (5, [.ref 1, .ref 11, .ref 25, .ref 33, .ref 38, .null, .null, .long 0]) : ZE))[k]? = A3[k]? := fun k g1 g2 => (e4.2 k g1).trans ((q4 k (by omega) (by omega)).trans (p43 k (by omega)))
  have c4 : ∀ k, k ≠ 0 → (B4.set 0 (.inl (5, [.ref 1, .ref 11, .ref 25, .ref 33, .ref 38, .null, .null, .long 0]) : ZE))[k]? = B4[k]? := fun k g1 => e4.2 k g1
  generalize B4.set 0 (.inl (5, [.ref 1, .ref 11, .ref 25, .ref 33, .ref 38, .null, .null, .long 0]) : ZE) = A4 at *
  refine r_al rfl rfl ?_
  refine r_ic rfl ?_
  refine r_nr5 rfl l4 (by decide) ⟨by decide, by decide⟩ ?_
  rw [show (2 : Int).toNat = 2 from rfl]
  obtain ⟨p51, p52, p53⟩ := z_ap (x := .inr (5, 2, .inr (.inr (fun _ => none)))) l4
  refine r_pf5 rfl ((p53 0 (by decide)).trans o4) rfl rfl rfl (Or.inr rfl) ?_
  generalize hMb : (A4 ++ [(.inr (5, 2, .inr (.inr (fun _ => none))) : ZE)]) = Mb at *
  have e5 : z_ev Mb (Mb.set 0 (.inl (5, [.ref 1, .ref 11, .ref 25, .ref 33, .ref 38, .ref 40, .null, .long 0]))) (fun k => k = 0) := .set rfl
  have o5 : (Mb.set 0 (.inl (5, [.ref 1, .ref 11, .ref 25, .ref 33, .ref 38, .ref 40, .null, .long 0]) : ZE))[0]? = some (.inl (5, [.ref 1, .ref 11, .ref 25, .ref 33, .ref 38, .ref 40, .null, .long 0])) := z_gs ((p53 0 (by decide)).trans o4)
  have l5 : (Mb.set 0 (.inl (5, [.ref 1, .ref 11, .ref 25, .ref 33, .ref 38, .ref 40, .null, .long 0]) : ZE)).length = 41 := by rw [List.length_set]; exact p51
  have f5 : ∀ k, k ≠ 0 → k < 40 → (Mb.set 0 (.inl (5, [.ref 1, .ref 11, .ref 25, .ref 33, .ref 38, .ref 40, .null, .long 0]) : ZE))[k]? = A4[k]? := fun k g1 g2 => (e5.2 k g1).trans (p53 k (by omega))
  have c5 : ∀ k, k ≠ 0 → (Mb.set 0 (.inl (5, [.ref 1, .ref 11, .ref 25, .ref 33, .ref 38, .ref 40, .null, .long 0]) : ZE))[k]? = Mb[k]? := fun k g1 => e5.2 k g1
  generalize Mb.set 0 (.inl (5, [.ref 1, .ref 11, .ref 25, .ref 33, .ref 38, .ref 40, .null, .long 0]) : ZE) = A5 at *
  refine r_ic rfl ?_
  refine r_is1 rfl rfl ?_
  refine r_il rfl rfl ?_
  refine r_ic rfl ?_
  refine r_icF rfl (zcF3 ⟨by omega, by omega⟩ ⟨by omega, by omega⟩ (by decide)) ?_
  refine r_al rfl rfl ?_
  refine r_gf rfl o5 rfl rfl ?_
  refine r_il rfl rfl ?_
  refine r_new (fs := [.int (zI 0), .int (zI 0), .int (zI 0), .int (zI 0), .int (zI 0), .int (zI 0), .null]) rfl l5 ⟨by decide, by decide⟩ rfl ?_
  obtain ⟨p61, p62, p63⟩ := z_ap (x := .inl (2, [.int (zI 0), .int (zI 0), .int (zI 0), .int (zI 0), .int (zI 0), .int (zI 0), .null])) l5
  obtain ⟨B6, kk6, L6, O6, R6, q6⟩ := c_iS (S := S) (d := d + 1) (a := 41) (by decide) p61 p62
  refine r_dupA rfl ?_
  refine r_cx0v rfl rfl rfl rfl rfl (kk6) ?_
  refine r_aT5 rfl ((q6 40 (by decide)).trans ((p63 40 (by decide)).trans ((c5 40 (by decide)).trans p52))) O6 (by decide) (by decide) (by decide) ?_
  have e6 : z_ev B6 (B6.set 40 (.inr (5, 2, .inr (.inr (va_up (fun _ => none) (0 : Int).toNat (some 41)))))) (fun k => k = 40) := .set rfl
  have o6 : (B6.set 40 (.inr (5, 2, .inr (.inr (va_up (fun _ => none) (0 : Int).toNat (some 41)))) : ZE))[0]? = some (.inl (5, [.ref 1, .ref 11, .ref 25, .ref 33, .ref 38, .ref 40, .null, .long 0])) := (e6.2 0 (by decide)).trans ((q6 0 (by decide)).trans ((p63 0 (by decide)).trans o5))
  have l6 : (B6.set 40 (.inr (5, 2, .inr (.inr (va_up (fun _ => none) (0 : Int).toNat (some 41)))) : ZE)).length = 51 := by rw [List.length_set]; exact L6
  have n6 : (B6.set 40 (.inr (5, 2, .inr (.inr (va_up (fun _ => none) (0 : Int).toNat (some 41)))) : ZE))[40]? = some (.inr (5, 2, .inr (.inr (va_up (fun _ => none) (0 : Int).toNat (some 41))))) := z_gs ((q6 40 (by decide)).trans ((p63 40 (by decide)).trans ((c5 40 (by decide)).trans p52)))
  have f6 : ∀ k, k ≠ 40 → k < 41 → (B6.set 40 (.inr (5, 2, .inr (.inr (va_up (fun _ => none) (0 : Int).toNat (some 41)))) : ZE))[k]? = A5[k]? := fun k g1 g2 => (e6.2 k g1).trans ((q6 k (by omega)).trans (p63 k (by omega)))
  have c6 : ∀ k, k ≠ 40 → (B6.set 40 (.inr (5, 2, .inr (.inr (va_up (fun _ => none) (0 : Int).toNat (some 41)))) : ZE))[k]? = B6[k]? := fun k g1 => e6.2 k g1
  generalize B6.set 40 (.inr (5, 2, .inr (.inr (va_up (fun _ => none) (0 : Int).toNat (some 41)))) : ZE) = A6 at *
  refine r_jj1 rfl rfl ?_
  refine r_goto rfl ?_
  refine r_il rfl rfl ?_
  refine r_ic rfl ?_
  refine r_icF rfl (zcF3 ⟨by omega, by omega⟩ ⟨by omega, by omega⟩ (by decide)) ?_
  refine r_al rfl rfl ?_
  refine r_gf rfl o6 rfl rfl ?_
  refine r_il rfl rfl ?_
  refine r_new (fs := [.int (zI 0), .int (zI 0), .int (zI 0), .int (zI 0), .int (zI 0), .int (zI 0), .null]) rfl l6 ⟨by decide, by decide⟩ rfl ?_
  obtain ⟨p71, p72, p73⟩ := z_ap (x := .inl (2, [.int (zI 0), .int (zI 0), .int (zI 0), .int (zI 0), .int (zI 0), .int (zI 0), .null])) l6
  obtain ⟨B7, kk7, L7, O7, R7, q7⟩ := c_iS (S := S) (d := d + 1) (a := 51) (by decide) p71 p72
  refine r_dupA rfl ?_
  refine r_cx0v rfl rfl rfl rfl rfl (kk7) ?_
  refine r_aT5 rfl ((q7 40 (by decide)).trans ((p73 40 (by decide)).trans n6)) O7 (by decide) (by decide) (by decide) ?_
  have e7 : z_ev B7 (B7.set 40 (.inr (5, 2, .inr (.inr (va_up (va_up (fun _ => none) (0 : Int).toNat (some 41)) ((0 + 1) : Int).toNat (some 51)))))) (fun k => k = 40) := .set rfl
  have o7 : (B7.set 40 (.inr (5, 2, .inr (.inr (va_up (va_up (fun _ => none) (0 : Int).toNat (some 41)) ((0 + 1) : Int).toNat (some 51)))) : ZE))[0]? = some (.inl (5, [.ref 1, .ref 11, .ref 25, .ref 33, .ref 38, .ref 40, .null, .long 0])) := (e7.2 0 (by decide)).trans ((q7 0 (by decide)).trans ((p73 0 (by decide)).trans o6))
  have l7 : (B7.set 40 (.inr (5, 2, .inr (.inr (va_up (va_up (fun _ => none) (0 : Int).toNat (some 41)) ((0 + 1) : Int).toNat (some 51)))) : ZE)).length = 61 := by rw [List.length_set]; exact L7
  have n7 : (B7.set 40 (.inr (5, 2, .inr (.inr (va_up (va_up (fun _ => none) (0 : Int).toNat (some 41)) ((0 + 1) : Int).toNat (some 51)))) : ZE))[40]? = some (.inr (5, 2, .inr (.inr (va_up (va_up (fun _ => none) (0 : Int).toNat (some 41)) ((0 + 1) : Int).toNat (some 51))))) := z_gs ((q7 40 (by decide)).trans ((p73 40 (by decide)).trans n6))
  have f7 : ∀ k, k ≠ 40 → k < 51 → (B7.set 40 (.inr (5, 2, .inr (.inr (va_up (va_up (fun _ => none) (0 : Int).toNat (some 41)) ((0 + 1) : Int).toNat (some 51)))) : ZE))[k]? = A6[k]? := fun k g1 g2 => (e7.2 k g1).trans ((q7 k (by omega)).trans (p73 k (by omega)))
  have c7 : ∀ k, k ≠ 40 → (B7.set 40 (.inr (5, 2, .inr (.inr (va_up (va_up (fun _ => none) (0 : Int).toNat (some 41)) ((0 + 1) : Int).toNat (some 51)))) : ZE))[k]? = B7[k]? := fun k g1 => e7.2 k g1
  generalize B7.set 40 (.inr (5, 2, .inr (.inr (va_up (va_up (fun _ => none) (0 : Int).toNat (some 41)) ((0 + 1) : Int).toNat (some 51)))) : ZE) = A7 at *
  refine r_jj1 rfl rfl ?_
  refine r_goto rfl ?_
  refine r_il rfl rfl ?_
  refine r_ic rfl ?_
  refine r_icT rfl (zcT3 ⟨by omega, by omega⟩ ⟨by omega, by omega⟩ (by decide)) ?_
  refine r_al rfl rfl ?_
  refine r_ic rfl ?_
  refine r_naZ rfl l7 (by decide) ⟨by decide, by decide⟩ ?_
  rw [show (2 : Int).toNat = 2 from rfl]
  obtain ⟨p81, p82, p83⟩ := z_ap (x := .inr (2, 2, .inl (fun _ => 0))) l7
  refine r_pf6 rfl ((p83 0 (by decide)).trans o7) rfl rfl rfl (Or.inr rfl) ?_
  generalize hMc : (A7 ++ [(.inr (2, 2, .inl (fun _ => 0)) : ZE)]) = Mc at *
  have e8 : z_ev Mc (Mc.set 0 (.inl (5, [.ref 1, .ref 11, .ref 25, .ref 33, .ref 38, .ref 40, .ref 61, .long 0]))) (fun k => k = 0) := .set rfl
  have o8 : (Mc.set 0 (.inl (5, [.ref 1, .ref 11, .ref 25, .ref 33, .ref 38, .ref 40, .ref 61, .long 0]) : ZE))[0]? = some (.inl (5, [.ref 1, .ref 11, .ref 25, .ref 33, .ref 38, .ref 40, .ref 61, .long 0])) := z_gs ((p83 0 (by decide)).trans o7)
  have l8 : (Mc.set 0 (.inl (5, [.ref 1, .ref 11, .ref 25, .ref 33, .ref 38, .ref 40, .ref 61, .long 0]) : ZE)).length = 62 := by rw [List.length_set]; exact p81
  have f8 : ∀ k, k ≠ 0 → k < 61 → (Mc.set 0 (.inl (5, [.ref 1, .ref 11, .ref 25, .ref 33, .ref 38, .ref 40, .ref 61, .long 0]) : ZE))[k]? = A7[k]? := fun k g1 g2 => (e8.2 k g1).trans (p83 k (by omega))
  have c8 : ∀ k, k ≠ 0 → (Mc.set 0 (.inl (5, [.ref 1, .ref 11, .ref 25, .ref 33, .ref 38, .ref 40, .ref 61, .long 0]) : ZE))[k]? = Mc[k]? := fun k g1 => e8.2 k g1
  generalize Mc.set 0 (.inl (5, [.ref 1, .ref 11, .ref 25, .ref 33, .ref 38, .ref 40, .ref 61, .long 0]) : ZE) = A8 at *
  refine r_al rfl rfl ?_
  refine r_lc rfl ?_
  refine r_pf7 rfl o8 rfl rfl rfl (Or.inr rfl) ?_
  have e9 : z_ev A8 (A8.set 0 (.inl (5, [.ref 1, .ref 11, .ref 25, .ref 33, .ref 38, .ref 40, .ref 61, .long (Int64.ofInt 0)]))) (fun k => k = 0) := .set rfl
  have o9 : (A8.set 0 (.inl (5, [.ref 1, .ref 11, .ref 25, .ref 33, .ref 38, .ref 40, .ref 61, .long (Int64.ofInt 0)]) : ZE))[0]? = some (.inl (5, [.ref 1, .ref 11, .ref 25, .ref 33, .ref 38, .ref 40, .ref 61, .long (Int64.ofInt 0)])) := z_gs o8
  have l9 : (A8.set 0 (.inl (5, [.ref 1, .ref 11, .ref 25, .ref 33, .ref 38, .ref 40, .ref 61, .long (Int64.ofInt 0)]) : ZE)).length = 62 := by rw [List.length_set]; exact l8
  have f9 : ∀ k, k ≠ 0 → k < 62 → (A8.set 0 (.inl (5, [.ref 1, .ref 11, .ref 25, .ref 33, .ref 38, .ref 40, .ref 61, .long (Int64.ofInt 0)]) : ZE))[k]? = A8[k]? := fun k g1 g2 => (e9.2 k g1).trans (rfl)
  have c9 : ∀ k, k ≠ 0 → (A8.set 0 (.inl (5, [.ref 1, .ref 11, .ref 25, .ref 33, .ref 38, .ref 40, .ref 61, .long (Int64.ofInt 0)]) : ZE))[k]? = A8[k]? := fun k g1 => e9.2 k g1
  generalize A8.set 0 (.inl (5, [.ref 1, .ref 11, .ref 25, .ref 33, .ref 38, .ref 40, .ref 61, .long (Int64.ofInt 0)]) : ZE) = A9 at *
  refine r_retv rfl rfl ?_
  have t5 : ∀ k, 1 ≤ k → k < 40 → A9[k]? = A4[k]? := fun k g1 g2 => (f9 k (by omega) (by omega)).trans ((f8 k (by omega) (by omega)).trans ((f7 k (by omega) (by omega)).trans ((f6 k (by omega) (by omega)).trans (f5 k (by omega) (by omega)))))
  have t4 : ∀ k, 1 ≤ k → k < 38 → A9[k]? = A3[k]? := fun k g1 g2 => (t5 k g1 (by omega)).trans (f4 k (by omega) (by omega))
  have t3 : ∀ k, 1 ≤ k → k < 33 → A9[k]? = A2[k]? := fun k g1 g2 => (t4 k g1 (by omega)).trans (f3 k (by omega) (by omega))
  have t2 : ∀ k, 1 ≤ k → k < 25 → A9[k]? = A1[k]? := fun k g1 g2 => (t3 k g1 (by omega)).trans (f2 k (by omega) (by omega))
  have t1 : ∀ k, 1 ≤ k → k < 11 → A9[k]? = A0[k]? := fun k g1 g2 => (t2 k g1 (by omega)).trans (f1 k (by omega) (by omega))
  have u40 : A9[40]? = some _ := (f9 40 (by omega) (by omega)).trans ((f8 40 (by omega) (by omega)).trans n7)
  refine ⟨rfl, l9, o9, ⟨by decide, ⟨(t1 1 (by decide) (by decide)).trans ((c0 1 (by decide)).trans O0), by decide, by decide, by decide, by decide⟩, _, R0.pt (fun k g1 g2 => (t1 k (by omega) (by omega)).trans (c0 k (by omega))), fun k hk => absurd hk (Nat.not_lt_zero _)⟩, X1.pt (fun k g1 g2 => (t2 k (by omega) (by omega)).trans (c1 k (by omega))), W2.pt (fun k g1 g2 => (t3 k (by omega) (by omega)).trans (c2 k (by omega))), V3.pt (fun k g1 g2 => (t4 k (by omega) (by omega)).trans (c3 k (by omega))), ⟨(zI 0, zI 0, zI 0, zI 0, fun _ => 0), (t5 38 (by decide) (by decide)).trans ((c4 38 (by decide)).trans O4), (t5 39 (by decide) (by decide)).trans ((c4 39 (by decide)).trans S4)⟩, ⟨⟨_, u40, rfl, rfl⟩, ⟨_, (f9 61 (by decide) (by decide)).trans ((c8 61 (by decide)).trans p82), fun i hi => rfl⟩, fun i hi => ?_⟩⟩
  obtain rfl | rfl : i = 0 ∨ i = 1 := by omega
  · have t6 : ∀ k, 41 ≤ k → k < 51 → A9[k]? = B6[k]? := fun k g1 g2 => (f9 k (by omega) (by omega)).trans ((f8 k (by omega) (by omega)).trans ((f7 k (by omega) (by omega)).trans (c6 k (by omega))))
    exact ⟨⟨fun k => match k with | 0 => zI 5 | 1 => zI 5 | 2 => zI 1 | 3 => zI 0 | 4 => zI 0 | _ => zI 1, (t6 41 (by decide) (by decide)).trans O6⟩, ⟨_, R6.pt (fun k g1 g2 => t6 k (by omega) (by omega))⟩, fun b hb => by cases hb⟩
  · have t7 : ∀ k, 51 ≤ k → k < 61 → A9[k]? = B7[k]? := fun k g1 g2 => (f9 k (by omega) (by omega)).trans ((f8 k (by omega) (by omega)).trans (c7 k (by omega)))
    exact ⟨⟨fun k => match k with | 0 => zI 5 | 1 => zI 5 | 2 => zI 1 | 3 => zI 0 | 4 => zI 0 | _ => zI 1, (t7 51 (by decide) (by decide)).trans O7⟩, ⟨_, R7.pt (fun k g1 g2 => t7 k (by omega) (by omega))⟩, fun b hb => by cases hb⟩
set_option maxRecDepth 20000 in
theorem c_iM {tx : Nat → Int32} {kc : Nat → ZK} (hl : M.length = 63) (h : M[62]? = some (.inl (6, [.long 0, .null, .int (zI 0), .null, .null, .null, .null, .null, .int (zI 0), .int (zI 0), .int (zI 0), .int (zI 0), .int (zI 0), .int (zI 0), .null, .null, .null, .null, .null, .null, .null, .int (zI 0), .null, .null, .int (zI 0)]))) : ∃ M', z_C S d 101 [.ref 62] M none M' ∧ M'.length = 78 ∧ (∀ k, k < 62 → M'[k]? = M[k]?) ∧ ∃ v wd hd ld nw : Nat → Int32, m_Y M' (Int64.ofInt 0) v wd hd ld nw 5 5 1 (zI 0) (zI 1) 0 kc ∧ v 2 = zI ((0 : Nat) : Int) ∧ (0 ≤ 200) ∧ (∃ g : Nat → Int32, M'[63]? = some (.inr (1, 200, .inl g)) ∧ ∀ j, j < 0 → g j = tx j) ∧ (∃ kf : Nat → Int32, M'[68]? = some (.inr (2, 2, .inl kf)) ∧ ∀ i, i < 2 → kf i = zI (if ((fun _ => none : Nat → Option ZB) i).isSome = true then 1 else 0)) ∧ (∀ i, i < 2 → ∀ b, (fun _ => none : Nat → Option ZB) i = some b → m_A nw (59 * (2 + i)) b.1 b.2.1 b.2.2.1 b.2.2.2 ∧ b.2.2.1 ≤ 4 ∧ ∀ k, k < b.2.2.1 → p_ok 5 5 b.1 (b.2.2.2 k)) ∧ y_W M' := by
  refine k_an ?_
  refine k_of rfl rfl (Nat.le_of_ble_eq_true rfl) ?_
  refine r_al rfl rfl ?_
  refine r_obj rfl rfl ?_
  refine r_al rfl rfl ?_
  refine r_ic rfl ?_
  refine r_naB rfl hl (by decide) ⟨by decide, by decide⟩ ?_
  rw [show (200 : Int).toNat = 200 from rfl]
  refine r_pf1 rfl (((z_ap hl).2.2 62 (by decide)).trans h) rfl rfl rfl (Or.inr rfl) ?_
  obtain ⟨l0, o0, n0, f0⟩ := z_na (x := .inr (1, 200, .inl (fun _ => 0))) (y := .inl (6, [.long 0, .ref 63, .int (zI 0), .null, .null, .null, .null, .null, .int (zI 0), .int (zI 0), .int (zI 0), .int (zI 0), .int (zI 0), .int (zI 0), .null, .null, .null, .null, .null, .null, .null, .int (zI 0), .null, .null, .int (zI 0)])) hl (show 62 < 63 by decide)
  generalize hg0 : (M ++ [(.inr (1, 200, .inl (fun _ => 0)) : ZE)]).set 62 (.inl (6, [.long 0, .ref 63, .int (zI 0), .null, .null, .null, .null, .null, .int (zI 0), .int (zI 0), .int (zI 0), .int (zI 0), .int (zI 0), .int (zI 0), .null, .null, .null, .null, .null, .null, .null, .int (zI 0), .null, .null, .int (zI 0)]) : ZE) = M0 at *
  refine r_al rfl rfl ?_
  refine r_ic rfl ?_
  refine r_naI rfl l0 (by decide) ⟨by decide, by decide⟩ ?_
  rw [show (2 : Int).toNat = 2 from rfl]
  refine r_pf3 rfl (((z_ap l0).2.2 62 (by decide)).trans o0) rfl rfl rfl (Or.inr rfl) ?_
  obtain ⟨l1, o1, n1, f1⟩ := z_na (x := .inr (0, 2, .inl (fun _ => 0))) (y := .inl (6, [.long 0, .ref 63, .int (zI 0), .ref 64, .null, .null, .null, .null, .int (zI 0), .int (zI 0), .int (zI 0), .int (zI 0), .int (zI 0), .int (zI 0), .null, .null, .null, .null, .null, .null, .null, .int (zI 0), .null, .null, .int (zI 0)])) l0 (show 62 < 64 by decide)
  generalize hg1 : (M0 ++ [(.inr (0, 2, .inl (fun _ => 0)) : ZE)]).set 62 (.inl (6, [.long 0, .ref 63, .int (zI 0), .ref 64, .null, .null, .null, .null, .int (zI 0), .int (zI 0), .int (zI 0), .int (zI 0), .int (zI 0), .int (zI 0), .null, .null, .null, .null, .null, .null, .null, .int (zI 0), .null, .null, .int (zI 0)]) : ZE) = M1 at *
  refine r_al rfl rfl ?_
  refine r_ic rfl ?_
  refine r_naI rfl l1 (by decide) ⟨by decide, by decide⟩ ?_
  rw [show (2 : Int).toNat = 2 from rfl]
  refine r_pf4 rfl (((z_ap l1).2.2 62 (by decide)).trans o1) rfl rfl rfl (Or.inr rfl) ?_
  obtain ⟨l2, o2, n2, f2⟩ := z_na (x := .inr (0, 2, .inl (fun _ => 0))) (y := .inl (6, [.long 0, .ref 63, .int (zI 0), .ref 64, .ref 65, .null, .null, .null, .int (zI 0), .int (zI 0), .int (zI 0), .int (zI 0), .int (zI 0), .int (zI 0), .null, .null, .null, .null, .null, .null, .null, .int (zI 0), .null, .null, .int (zI 0)])) l1 (show 62 < 65 by decide)
  generalize hg2 : (M1 ++ [(.inr (0, 2, .inl (fun _ => 0)) : ZE)]).set 62 (.inl (6, [.long 0, .ref 63, .int (zI 0), .ref 64, .ref 65, .null, .null, .null, .int (zI 0), .int (zI 0), .int (zI 0), .int (zI 0), .int (zI 0), .int (zI 0), .null, .null, .null, .null, .null, .null, .null, .int (zI 0), .null, .null, .int (zI 0)]) : ZE) = M2 at *
  refine r_al rfl rfl ?_
  refine r_ic rfl ?_
  refine r_naI rfl l2 (by decide) ⟨by decide, by decide⟩ ?_
  rw [show (2 : Int).toNat = 2 from rfl]
  refine r_pf5 rfl (((z_ap l2).2.2 62 (by decide)).trans o2) rfl rfl rfl (Or.inr rfl) ?_
  obtain ⟨l3, o3, n3, f3⟩ := z_na (x := .inr (0, 2, .inl (fun _ => 0))) (y := .inl (6, [.long 0, .ref 63, .int (zI 0), .ref 64, .ref 65, .ref 66, .null, .null, .int (zI 0), .int (zI 0), .int (zI 0), .int (zI 0), .int (zI 0), .int (zI 0), .null, .null, .null, .null, .null, .null, .null, .int (zI 0), .null, .null, .int (zI 0)])) l2 (show 62 < 66 by decide)
  generalize hg3 : (M2 ++ [(.inr (0, 2, .inl (fun _ => 0)) : ZE)]).set 62 (.inl (6, [.long 0, .ref 63, .int (zI 0), .ref 64, .ref 65, .ref 66, .null, .null, .int (zI 0), .int (zI 0), .int (zI 0), .int (zI 0), .int (zI 0), .int (zI 0), .null, .null, .null, .null, .null, .null, .null, .int (zI 0), .null, .null, .int (zI 0)]) : ZE) = M3 at *
  refine r_al rfl rfl ?_
  refine r_ic rfl ?_
  refine r_naI rfl l3 (by decide) ⟨by decide, by decide⟩ ?_
  rw [show (236 : Int).toNat = 236 from rfl]
  refine r_pf6 rfl (((z_ap l3).2.2 62 (by decide)).trans o3) rfl rfl rfl (Or.inr rfl) ?_
  obtain ⟨l4, o4, n4, f4⟩ := z_na (x := .inr (0, 236, .inl (fun _ => 0))) (y := .inl (6, [.long 0, .ref 63, .int (zI 0), .ref 64, .ref 65, .ref 66, .ref 67, .null, .int (zI 0), .int (zI 0), .int (zI 0), .int (zI 0), .int (zI 0), .int (zI 0), .null, .null, .null, .null, .null, .null, .null, .int (zI 0), .null, .null, .int (zI 0)])) l3 (show 62 < 67 by decide)
  generalize hg4 : (M3 ++ [(.inr (0, 236, .inl (fun _ => 0)) : ZE)]).set 62 (.inl (6, [.long 0, .ref 63, .int (zI 0), .ref 64, .ref 65, .ref 66, .ref 67, .null, .int (zI 0), .int (zI 0), .int (zI 0), .int (zI 0), .int (zI 0), .int (zI 0), .null, .null, .null, .null, .null, .null, .null, .int (zI 0), .null, .null, .int (zI 0)]) : ZE) = M4 at *
  refine r_al rfl rfl ?_
  refine r_ic rfl ?_
  refine r_naZ rfl l4 (by decide) ⟨by decide, by decide⟩ ?_
  rw [show (2 : Int).toNat = 2 from rfl]
  refine r_pf7 rfl (((z_ap l4).2.2 62 (by decide)).trans o4) rfl rfl rfl (Or.inr rfl) ?_
  obtain ⟨l5, o5, n5, f5⟩ := z_na (x := .inr (2, 2, .inl (fun _ => 0))) (y := .inl (6, [.long 0, .ref 63, .int (zI 0), .ref 64, .ref 65, .ref 66, .ref 67, .ref 68, .int (zI 0), .int (zI 0), .int (zI 0), .int (zI 0), .int (zI 0), .int (zI 0), .null, .null, .null, .null, .null, .null, .null, .int (zI 0), .null, .null, .int (zI 0)])) l4 (show 62 < 68 by decide)
  generalize hg5 : (M4 ++ [(.inr (2, 2, .inl (fun _ => 0)) : ZE)]).set 62 (.inl (6, [.long 0, .ref 63, .int (zI 0), .ref 64, .ref 65, .ref 66, .ref 67, .ref 68, .int (zI 0), .int (zI 0), .int (zI 0), .int (zI 0), .int (zI 0), .int (zI 0), .null, .null, .null, .null, .null, .null, .null, .int (zI 0), .null, .null, .int (zI 0)]) : ZE) = M5 at *
  refine r_al rfl rfl ?_
  refine r_ic rfl ?_
  refine r_naI rfl l5 (by decide) ⟨by decide, by decide⟩ ?_
  rw [show (325 : Int).toNat = 325 from rfl]
  refine r_pf14 rfl (((z_ap l5).2.2 62 (by decide)).trans o5) rfl rfl rfl (Or.inr rfl) ?_
  obtain ⟨l6, o6, n6, f6⟩ := z_na (x := .inr (0, 325, .inl (fun _ => 0))) (y := .inl (6, [.long 0, .ref 63, .int (zI 0), .ref 64, .ref 65, .ref 66, .ref 67, .ref 68, .int (zI 0), .int (zI 0), .int (zI 0), .int (zI 0), .int (zI 0), .int (zI 0), .ref 69, .null, .null, .null, .null, .null, .null, .int (zI 0), .null, .null, .int (zI 0)])) l5 (show 62 < 69 by decide)
  generalize hg6 : (M5 ++ [(.inr (0, 325, .inl (fun _ => 0)) : ZE)]).set 62 (.inl (6, [.long 0, .ref 63, .int (zI 0), .ref 64, .ref 65, .ref 66, .ref 67, .ref 68, .int (zI 0), .int (zI 0), .int (zI 0), .int (zI 0), .int (zI 0), .int (zI 0), .ref 69, .null, .null, .null, .null, .null, .null, .int (zI 0), .null, .null, .int (zI 0)]) : ZE) = M6 at *
  refine r_al rfl rfl ?_
  refine r_ic rfl ?_
  refine r_naJ rfl l6 (by decide) ⟨by decide, by decide⟩ ?_
  rw [show (325 : Int).toNat = 325 from rfl]
  refine r_pf15 rfl (((z_ap l6).2.2 62 (by decide)).trans o6) rfl rfl rfl (Or.inr rfl) ?_
  obtain ⟨l7, o7, n7, f7⟩ := z_na (x := .inr (3, 325, .inr (.inl (fun _ => 0)))) (y := .inl (6, [.long 0, .ref 63, .int (zI 0), .ref 64, .ref 65, .ref 66, .ref 67, .ref 68, .int (zI 0), .int (zI 0), .int (zI 0), .int (zI 0), .int (zI 0), .int (zI 0), .ref 69, .ref 70, .null, .null, .null, .null, .null, .int (zI 0), .null, .null, .int (zI 0)])) l6 (show 62 < 70 by decide)
  generalize hg7 : (M6 ++ [(.inr (3, 325, .inr (.inl (fun _ => 0))) : ZE)]).set 62 (.inl (6, [.long 0, .ref 63, .int (zI 0), .ref 64, .ref 65, .ref 66, .ref 67, .ref 68, .int (zI 0), .int (zI 0), .int (zI 0), .int (zI 0), .int (zI 0), .int (zI 0), .ref 69, .ref 70, .null, .null, .null, .null, .null, .int (zI 0), .null, .null, .int (zI 0)]) : ZE) = M7 at *
  refine r_al rfl rfl ?_
  refine r_ic rfl ?_
  refine r_naJ rfl l7 (by decide) ⟨by decide, by decide⟩ ?_
  rw [show (325 : Int).toNat = 325 from rfl]
  refine r_pf16 rfl (((z_ap l7).2.2 62 (by decide)).trans o7) rfl rfl rfl (Or.inr rfl) ?_
  obtain ⟨l8, o8, n8, f8⟩ := z_na (x := .inr (3, 325, .inr (.inl (fun _ => 0)))) (y := .inl (6, [.long 0, .ref 63, .int (zI 0), .ref 64, .ref 65, .ref 66, .ref 67, .ref 68, .int (zI 0), .int (zI 0), .int (zI 0), .int (zI 0), .int (zI 0), .int (zI 0), .ref 69, .ref 70, .ref 71, .null, .null, .null, .null, .int (zI 0), .null, .null, .int (zI 0)])) l7 (show 62 < 71 by decide)
  generalize hg8 : (M7 ++ [(.inr (3, 325, .inr (.inl (fun _ => 0))) : ZE)]).set 62 (.inl (6, [.long 0, .ref 63, .int (zI 0), .ref 64, .ref 65, .ref 66, .ref 67, .ref 68, .int (zI 0), .int (zI 0), .int (zI 0), .int (zI 0), .int (zI 0), .int (zI 0), .ref 69, .ref 70, .ref 71, .null, .null, .null, .null, .int (zI 0), .null, .null, .int (zI 0)]) : ZE) = M8 at *
  refine r_al rfl rfl ?_
  refine r_ic rfl ?_
  refine r_naI rfl l8 (by decide) ⟨by decide, by decide⟩ ?_
  rw [show (4225 : Int).toNat = 4225 from rfl]
  refine r_pf17 rfl (((z_ap l8).2.2 62 (by decide)).trans o8) rfl rfl rfl (Or.inr rfl) ?_
  obtain ⟨l9, o9, n9, f9⟩ := z_na (x := .inr (0, 4225, .inl (fun _ => 0))) (y := .inl (6, [.long 0, .ref 63, .int (zI 0), .ref 64, .ref 65, .ref 66, .ref 67, .ref 68, .int (zI 0), .int (zI 0), .int (zI 0), .int (zI 0), .int (zI 0), .int (zI 0), .ref 69, .ref 70, .ref 71, .ref 72, .null, .null, .null, .int (zI 0), .null, .null, .int (zI 0)])) l8 (show 62 < 72 by decide)
  generalize hg9 : (M8 ++ [(.inr (0, 4225, .inl (fun _ => 0)) : ZE)]).set 62 (.inl (6, [.long 0, .ref 63, .int (zI 0), .ref 64, .ref 65, .ref 66, .ref 67, .ref 68, .int (zI 0), .int (zI 0), .int (zI 0), .int (zI 0), .int (zI 0), .int (zI 0), .ref 69, .ref 70, .ref 71, .ref 72, .null, .null, .null, .int (zI 0), .null, .null, .int (zI 0)]) : ZE) = M9 at *
  refine r_al rfl rfl ?_
  refine r_ic rfl ?_
  refine r_naI rfl l9 (by decide) ⟨by decide, by decide⟩ ?_
  rw [show (60 : Int).toNat = 60 from rfl]
  refine r_pf18 rfl (((z_ap l9).2.2 62 (by decide)).trans o9) rfl rfl rfl (Or.inr rfl) ?_
  obtain ⟨l10, o10, n10, f10⟩ := z_na (x := .inr (0, 60, .inl (fun _ => 0))) (y := .inl (6, [.long 0, .ref 63, .int (zI 0), .ref 64, .ref 65, .ref 66, .ref 67, .ref 68, .int (zI 0), .int (zI 0), .int (zI 0), .int (zI 0), .int (zI 0), .int (zI 0), .ref 69, .ref 70, .ref 71, .ref 72, .ref 73, .null, .null, .int (zI 0), .null, .null, .int (zI 0)])) l9 (show 62 < 73 by decide)
  generalize hg10 : (M9 ++ [(.inr (0, 60, .inl (fun _ => 0)) : ZE)]).set 62 (.inl (6, [.long 0, .ref 63, .int (zI 0), .ref 64, .ref 65, .ref 66, .ref 67, .ref 68, .int (zI 0), .int (zI 0), .int (zI 0), .int (zI 0), .int (zI 0), .int (zI 0), .ref 69, .ref 70, .ref 71, .ref 72, .ref 73, .null, .null, .int (zI 0), .null, .null, .int (zI 0)]) : ZE) = M10 at *
  refine r_al rfl rfl ?_
  refine r_ic rfl ?_
  refine r_naI rfl l10 (by decide) ⟨by decide, by decide⟩ ?_
  rw [show (60 : Int).toNat = 60 from rfl]
  refine r_pf19 rfl (((z_ap l10).2.2 62 (by decide)).trans o10) rfl rfl rfl (Or.inr rfl) ?_
  obtain ⟨l11, o11, n11, f11⟩ := z_na (x := .inr (0, 60, .inl (fun _ => 0))) (y := .inl (6, [.long 0, .ref 63, .int (zI 0), .ref 64, .ref 65, .ref 66, .ref 67, .ref 68, .int (zI 0), .int (zI 0), .int (zI 0), .int (zI 0), .int (zI 0), .int (zI 0), .ref 69, .ref 70, .ref 71, .ref 72, .ref 73, .ref 74, .null, .int (zI 0), .null, .null, .int (zI 0)])) l10 (show 62 < 74 by decide)
  generalize hg11 : (M10 ++ [(.inr (0, 60, .inl (fun _ => 0)) : ZE)]).set 62 (.inl (6, [.long 0, .ref 63, .int (zI 0), .ref 64, .ref 65, .ref 66, .ref 67, .ref 68, .int (zI 0), .int (zI 0), .int (zI 0), .int (zI 0), .int (zI 0), .int (zI 0), .ref 69, .ref 70, .ref 71, .ref 72, .ref 73, .ref 74, .null, .int (zI 0), .null, .null, .int (zI 0)]) : ZE) = M11 at *
  refine r_al rfl rfl ?_
  refine r_ic rfl ?_
  refine r_naI rfl l11 (by decide) ⟨by decide, by decide⟩ ?_
  rw [show (60 : Int).toNat = 60 from rfl]
  refine r_pf20 rfl (((z_ap l11).2.2 62 (by decide)).trans o11) rfl rfl rfl (Or.inr rfl) ?_
  obtain ⟨l12, o12, n12, f12⟩ := z_na (x := .inr (0, 60, .inl (fun _ => 0))) (y := .inl (6, [.long 0, .ref 63, .int (zI 0), .ref 64, .ref 65, .ref 66, .ref 67, .ref 68, .int (zI 0), .int (zI 0), .int (zI 0), .int (zI 0), .int (zI 0), .int (zI 0), .ref 69, .ref 70, .ref 71, .ref 72, .ref 73, .ref 74, .ref 75, .int (zI 0), .null, .null, .int (zI 0)])) l11 (show 62 < 75 by decide)
  generalize hg12 : (M11 ++ [(.inr (0, 60, .inl (fun _ => 0)) : ZE)]).set 62 (.inl (6, [.long 0, .ref 63, .int (zI 0), .ref 64, .ref 65, .ref 66, .ref 67, .ref 68, .int (zI 0), .int (zI 0), .int (zI 0), .int (zI 0), .int (zI 0), .int (zI 0), .ref 69, .ref 70, .ref 71, .ref 72, .ref 73, .ref 74, .ref 75, .int (zI 0), .null, .null, .int (zI 0)]) : ZE) = M12 at *
  refine r_al rfl rfl ?_
  refine r_ic rfl ?_
  refine r_naI rfl l12 (by decide) ⟨by decide, by decide⟩ ?_
  rw [show (3 : Int).toNat = 3 from rfl]
  refine r_pf22 rfl (((z_ap l12).2.2 62 (by decide)).trans o12) rfl rfl rfl (Or.inr rfl) ?_
  obtain ⟨l13, o13, n13, f13⟩ := z_na (x := .inr (0, 3, .inl (fun _ => 0))) (y := .inl (6, [.long 0, .ref 63, .int (zI 0), .ref 64, .ref 65, .ref 66, .ref 67, .ref 68, .int (zI 0), .int (zI 0), .int (zI 0), .int (zI 0), .int (zI 0), .int (zI 0), .ref 69, .ref 70, .ref 71, .ref 72, .ref 73, .ref 74, .ref 75, .int (zI 0), .ref 76, .null, .int (zI 0)])) l12 (show 62 < 76 by decide)
  generalize hg13 : (M12 ++ [(.inr (0, 3, .inl (fun _ => 0)) : ZE)]).set 62 (.inl (6, [.long 0, .ref 63, .int (zI 0), .ref 64, .ref 65, .ref 66, .ref 67, .ref 68, .int (zI 0), .int (zI 0), .int (zI 0), .int (zI 0), .int (zI 0), .int (zI 0), .ref 69, .ref 70, .ref 71, .ref 72, .ref 73, .ref 74, .ref 75, .int (zI 0), .ref 76, .null, .int (zI 0)]) : ZE) = M13 at *
  refine r_al rfl rfl ?_
  refine r_ic rfl ?_
  refine r_naI rfl l13 (by decide) ⟨by decide, by decide⟩ ?_
  rw [show (12 : Int).toNat = 12 from rfl]
  refine r_pf23 rfl (((z_ap l13).2.2 62 (by decide)).trans o13) rfl rfl rfl (Or.inr rfl) ?_
  obtain ⟨l14, o14, n14, f14⟩ := z_na (x := .inr (0, 12, .inl (fun _ => 0))) (y := .inl (6, [.long 0, .ref 63, .int (zI 0), .ref 64, .ref 65, .ref 66, .ref 67, .ref 68, .int (zI 0), .int (zI 0), .int (zI 0), .int (zI 0), .int (zI 0), .int (zI 0), .ref 69, .ref 70, .ref 71, .ref 72, .ref 73, .ref 74, .ref 75, .int (zI 0), .ref 76, .ref 77, .int (zI 0)])) l13 (show 62 < 77 by decide)
  generalize hg14 : (M13 ++ [(.inr (0, 12, .inl (fun _ => 0)) : ZE)]).set 62 (.inl (6, [.long 0, .ref 63, .int (zI 0), .ref 64, .ref 65, .ref 66, .ref 67, .ref 68, .int (zI 0), .int (zI 0), .int (zI 0), .int (zI 0), .int (zI 0), .int (zI 0), .ref 69, .ref 70, .ref 71, .ref 72, .ref 73, .ref 74, .ref 75, .int (zI 0), .ref 76, .ref 77, .int (zI 0)]) : ZE) = M14 at *
  have v63 := ((f14 63 (by decide) (by decide)).trans ((f13 63 (by decide) (by decide)).trans ((f12 63 (by decide) (by decide)).trans ((f11 63 (by decide) (by decide)).trans ((f10 63 (by decide) (by decide)).trans ((f9 63 (by decide) (by decide)).trans ((f8 63 (by decide) (by decide)).trans ((f7 63 (by decide) (by decide)).trans ((f6 63 (by decide) (by decide)).trans ((f5 63 (by decide) (by decide)).trans ((f4 63 (by decide) (by decide)).trans ((f3 63 (by decide) (by decide)).trans ((f2 63 (by decide) (by decide)).trans ((f1 63 (by decide) (by decide)).trans n0))))))))))))))
  have v64 := ((f14 64 (by decide) (by decide)).trans ((f13 64 (by decide) (by decide)).trans ((f12 64 (by decide) (by decide)).trans ((f11 64 (by decide) (by decide)).trans ((f10 64 (by decide) (by decide)).trans ((f9 64 (by decide) (by decide)).trans ((f8 64 (by decide) (by decide)).trans ((f7 64 (by decide) (by decide)).trans ((f6 64 (by decide) (by decide)).trans ((f5 64 (by decide) (by decide)).trans ((f4 64 (by decide) (by decide)).trans ((f3 64 (by decide) (by decide)).trans ((f2 64 (by decide) (by decide)).trans n1)))))))))))))
  have v65 := ((f14 65 (by decide) (by decide)).trans ((f13 65 (by decide) (by decide)).trans ((f12 65 (by decide) (by decide)).trans ((f11 65 (by decide) (by decide)).trans ((f10 65 (by decide) (by decide)).trans ((f9 65 (by decide) (by decide)).trans ((f8 65 (by decide) (by decide)).trans ((f7 65 (by decide) (by decide)).trans ((f6 65 (by decide) (by decide)).trans ((f5 65 (by decide) (by decide)).trans ((f4 65 (by decide) (by decide)).trans ((f3 65 (by decide) (by decide)).trans n2))))))))))))
  have v66 := ((f14 66 (by decide) (by decide)).trans ((f13 66 (by decide) (by decide)).trans ((f12 66 (by decide) (by decide)).trans ((f11 66 (by decide) (by decide)).trans ((f10 66 (by decide) (by decide)).trans ((f9 66 (by decide) (by decide)).trans ((f8 66 (by decide) (by decide)).trans ((f7 66 (by decide) (by decide)).trans ((f6 66 (by decide) (by decide)).trans ((f5 66 (by decide) (by decide)).trans ((f4 66 (by decide) (by decide)).trans n3)))))))))))
  have v67 := ((f14 67 (by decide) (by decide)).trans ((f13 67 (by decide) (by decide)).trans ((f12 67 (by decide) (by decide)).trans ((f11 67 (by decide) (by decide)).trans ((f10 67 (by decide) (by decide)).trans ((f9 67 (by decide) (by decide)).trans ((f8 67 (by decide) (by decide)).trans ((f7 67 (by decide) (by decide)).trans ((f6 67 (by decide) (by decide)).trans ((f5 67 (by decide) (by decide)).trans n4))))))))))
  have v68 := ((f14 68 (by decide) (by decide)).trans ((f13 68 (by decide) (by decide)).trans ((f12 68 (by decide) (by decide)).trans ((f11 68 (by decide) (by decide)).trans ((f10 68 (by decide) (by decide)).trans ((f9 68 (by decide) (by decide)).trans ((f8 68 (by decide) (by decide)).trans ((f7 68 (by decide) (by decide)).trans ((f6 68 (by decide) (by decide)).trans n5)))))))))
  have v69 := ((f14 69 (by decide) (by decide)).trans ((f13 69 (by decide) (by decide)).trans ((f12 69 (by decide) (by decide)).trans ((f11 69 (by decide) (by decide)).trans ((f10 69 (by decide) (by decide)).trans ((f9 69 (by decide) (by decide)).trans ((f8 69 (by decide) (by decide)).trans ((f7 69 (by decide) (by decide)).trans n6))))))))
  have v70 := ((f14 70 (by decide) (by decide)).trans ((f13 70 (by decide) (by decide)).trans ((f12 70 (by decide) (by decide)).trans ((f11 70 (by decide) (by decide)).trans ((f10 70 (by decide) (by decide)).trans ((f9 70 (by decide) (by decide)).trans ((f8 70 (by decide) (by decide)).trans n7)))))))
  have v71 := ((f14 71 (by decide) (by decide)).trans ((f13 71 (by decide) (by decide)).trans ((f12 71 (by decide) (by decide)).trans ((f11 71 (by decide) (by decide)).trans ((f10 71 (by decide) (by decide)).trans ((f9 71 (by decide) (by decide)).trans n8))))))
  have v72 := ((f14 72 (by decide) (by decide)).trans ((f13 72 (by decide) (by decide)).trans ((f12 72 (by decide) (by decide)).trans ((f11 72 (by decide) (by decide)).trans ((f10 72 (by decide) (by decide)).trans n9)))))
  have v73 := ((f14 73 (by decide) (by decide)).trans ((f13 73 (by decide) (by decide)).trans ((f12 73 (by decide) (by decide)).trans ((f11 73 (by decide) (by decide)).trans n10))))
  have v74 := ((f14 74 (by decide) (by decide)).trans ((f13 74 (by decide) (by decide)).trans ((f12 74 (by decide) (by decide)).trans n11)))
  have v75 := ((f14 75 (by decide) (by decide)).trans ((f13 75 (by decide) (by decide)).trans n12))
  have v76 := ((f14 76 (by decide) (by decide)).trans n13)
  have v77 := n14
  refine r_al rfl rfl ?_
  refine r_gf rfl o14 rfl rfl ?_
  refine r_ic rfl ?_
  refine r_ic rfl ?_
  refine r_iSI rfl v64 (by omega) (by omega) (by omega) ?_
  refine r_al rfl rfl ?_
  refine r_gf rfl (z_gn (by decide) o14) rfl rfl ?_
  refine r_ic rfl ?_
  refine r_ic rfl ?_
  refine r_iSI rfl (z_gn (by decide) v65) (by omega) (by omega) (by omega) ?_
  refine r_al rfl rfl ?_
  refine r_gf rfl (z_gn (by decide) (z_gn (by decide) o14)) rfl rfl ?_
  refine r_ic rfl ?_
  refine r_ic rfl ?_
  refine r_iSI rfl (z_gn (by decide) (z_gn (by decide) v66)) (by omega) (by omega) (by omega) ?_
  refine r_al rfl rfl ?_
  refine r_gf rfl (z_gn (by decide) (z_gn (by decide) (z_gn (by decide) o14))) rfl rfl ?_
  refine r_ic rfl ?_
  refine r_ic rfl ?_
  refine r_iSI rfl (z_gn (by decide) (z_gn (by decide) (z_gn (by decide) v67))) (by omega) (by omega) (by omega) ?_
  refine r_retv rfl rfl ?_
  rw [show (0 : Int).toNat = 0 from rfl, show (2 : Int).toNat = 2 from rfl]
  refine ⟨rfl, by rw [List.length_set, List.length_set, List.length_set, List.length_set]; exact l14, fun k hk => ?_, fun _ => zI 0, _, _, _, _, ⟨⟨z_gn (by decide) (z_gn (by decide) (z_gn (by decide) (z_gn (by decide) o14))), z_gn (by decide) (z_gn (by decide) (z_gn (by decide) (z_gs v64))), z_gn (by decide) (z_gn (by decide) (z_gs (z_gn (by decide) v65))), z_gn (by decide) (z_gs (z_gn (by decide) (z_gn (by decide) v66))), z_gs (z_gn (by decide) (z_gn (by decide) (z_gn (by decide) v67)))⟩, ⟨pk_us, pk_us, pk_us⟩, ⟨⟨by decide, by decide⟩, ⟨by decide, by decide⟩, ⟨by decide, by decide⟩, by decide⟩, ⟨rfl, rfl, pk_us, fun k hk => absurd hk (Nat.not_lt_zero _)⟩, fun k hk => absurd hk (Nat.not_lt_zero _)⟩, rfl, Nat.zero_le _, ⟨_, z_gn (by decide) (z_gn (by decide) (z_gn (by decide) (z_gn (by decide) v63))), fun j hj => absurd hj (Nat.not_lt_zero _)⟩, ⟨_, z_gn (by decide) (z_gn (by decide) (z_gn (by decide) (z_gn (by decide) v68))), fun i hi => rfl⟩, fun i hi b hb => (by cases hb), ⟨_, z_gn (by decide) (z_gn (by decide) (z_gn (by decide) (z_gn (by decide) v69)))⟩, ⟨_, z_gn (by decide) (z_gn (by decide) (z_gn (by decide) (z_gn (by decide) v70)))⟩, ⟨_, z_gn (by decide) (z_gn (by decide) (z_gn (by decide) (z_gn (by decide) v71)))⟩, ⟨_, z_gn (by decide) (z_gn (by decide) (z_gn (by decide) (z_gn (by decide) v72)))⟩, ⟨_, z_gn (by decide) (z_gn (by decide) (z_gn (by decide) (z_gn (by decide) v73)))⟩, ⟨_, z_gn (by decide) (z_gn (by decide) (z_gn (by decide) (z_gn (by decide) v74)))⟩, ⟨_, z_gn (by decide) (z_gn (by decide) (z_gn (by decide) (z_gn (by decide) v75)))⟩, ⟨_, z_gn (by decide) (z_gn (by decide) (z_gn (by decide) (z_gn (by decide) v76)))⟩, _, z_gn (by decide) (z_gn (by decide) (z_gn (by decide) (z_gn (by decide) v77)))⟩
  rw [z_gn (a := 67) (b := k) (by omega) (z_gn (a := 66) (b := k) (by omega) (z_gn (a := 65) (b := k) (by omega) (z_gn (a := 64) (b := k) (by omega) rfl)))]
  revert k hk
  exact fun k hk => ((f14 k (by omega) (by omega)).trans ((f13 k (by omega) (by omega)).trans ((f12 k (by omega) (by omega)).trans ((f11 k (by omega) (by omega)).trans ((f10 k (by omega) (by omega)).trans ((f9 k (by omega) (by omega)).trans ((f8 k (by omega) (by omega)).trans ((f7 k (by omega) (by omega)).trans ((f6 k (by omega) (by omega)).trans ((f5 k (by omega) (by omega)).trans ((f4 k (by omega) (by omega)).trans ((f3 k (by omega) (by omega)).trans ((f2 k (by omega) (by omega)).trans ((f1 k (by omega) (by omega)).trans (f0 k (by omega) (by omega))))))))))))))))
end CQ
