/-! MARK: both sides -/
abbrev k_bt (x : Int64) : ZE := .inl (5, [.ref 1, .ref 11, .ref 25, .ref 33, .ref 38, .ref 40, .ref 61, .long x])
theorem X_I.mark {M : ZM} {T : Nat} {tx : Nat → Int32} {Y : Nat × Nat × Nat} {b : ZB} {im : Nat → Option ZB} {tr : Int64} (h : X_I M ((T, tx), Y, b, im, tr)) (x : Int64) : X_I (M.set 0 (k_bt x)) ((T, tx), Y, b, im, x) := by
  obtain ⟨h1, h2, h3, h4, h5, h6, ⟨r, h7⟩, h8⟩ := h
  have e : z_ev M (M.set 0 (k_bt x)) (fun k => k = 0) := .set rfl
  exact ⟨by rw [e.1]; exact h1, z_gs h2, h3.ev e (fun k g1 g2 => by omega), h4.ev e (fun k g1 g2 => by omega), h5.ev e (fun k g1 g2 => by omega), h6.ev e (fun k g1 g2 => by omega), ⟨r, h7.eqv e (by omega) (by omega)⟩, h8.ev e (fun k g1 g2 => by omega)⟩
theorem m_Y.tr {M : ZM} {tr : Int64} {v wd hd ld nw : Nat → Int32} {W H L n : Nat} {hs lot : Int32} {kc : Nat → ZK} (h : m_Y M tr v wd hd ld nw W H L hs lot n kc) (x : Int64) : m_Y (M.set 62 (.inl (6, m_f x v))) x v wd hd ld nw W H L hs lot n kc := by
  obtain ⟨⟨h1, h2, h3, h4, h5⟩, h6⟩ := h
  exact ⟨⟨z_gs h1, z_gn (by decide) h2, z_gn (by decide) h3, z_gn (by decide) h4, z_gn (by decide) h5⟩, h6⟩
theorem Y_I.mark {M : ZM} {T : Nat} {tx : Nat → Int32} {W H L : Nat} {b : ZB} {im : Nat → Option ZB} {tr : Int64} {v wd hd ld nw : Nat → Int32} (h : Y_I M ((T, tx), (W, H, L), b, im, tr)) (hB : m_B M tr v wd hd ld nw) (x : Int64) : Y_I (M.set 62 (.inl (6, m_f x v))) ((T, tx), (W, H, L), b, im, x) := by
  obtain ⟨h1, v2, wd2, hd2, ld2, nw2, h2, h3, h4, ⟨g, h5, h5b⟩, ⟨kf, h6, h6b⟩, h7, h8⟩ := h
  have h2 : m_Y M tr v2 wd2 hd2 ld2 nw2 W H L b.1 b.2.1 b.2.2.1 b.2.2.2 := h2
  have h3 : v2 2 = zI (T : Int) := h3
  have e : z_ev M (M.set 62 (.inl (6, m_f x v))) (fun k => k = 62) := .set rfl
  have ev : m_f x v2 = m_f x v := by
    have g := h2.1.1.symm.trans hB.1
    have g : m_f tr v2 = m_f tr v := by injection g with g; injection g with g; injection g
    exact congrArg (fun l => Value.long x :: l.tail) g
  refine ⟨by rw [e.1]; exact h1, v2, wd2, hd2, ld2, nw2, ?_, h3, h4, ⟨g, (e.2 _ (by decide)).trans h5, h5b⟩, ⟨kf, (e.2 _ (by decide)).trans h6, h6b⟩, h7, h8.ev e (fun k g1 g2 => by omega)⟩
  rw [← ev]
  exact h2.tr x
def v_mark (W H L : Nat) (hs : Int32) (n : Nat) (kc : Nat → ZK) (q k : Int) : Int := if (0 ≤ q ∧ q ≤ 5) ∧ 0 ≤ k ∧ k < (n : Int) then (if q = 0 then ((kc k.toNat).2.1 : Int) else if q = 1 then 2 * ((kc k.toNat).2.1 : Int) else if q = 2 then ((kc k.toNat).2.1 : Int) - (p_long (kc k.toNat).2.2 (kc k.toNat).2.1 : Int) else if q = 3 then 2 * ((kc k.toNat).2.1 : Int) + k else if q = 4 then ((kc k.toNat).2.1 : Int) - (p_long (kc k.toNat).2.2 (kc k.toNat).2.1 : Int) + (if v_dst W H L hs (kc k.toNat).1 (k_last W H (kc k.toNat)) ≤ 60 then (v_dst W H L hs (kc k.toNat).1 (k_last W H (kc k.toNat)) : Int) else 0) else ((kc k.toNat).2.1 : Int) + (v_hc hs : Int)) else -1000000
def t_mark (n : Nat) (tr : Int64) (q k : Int) : Int64 := if (0 ≤ q ∧ q ≤ 5) ∧ 0 ≤ k ∧ k < (n : Int) then tr + Int64.ofInt (if q = 0 then 1 else if q = 1 then 11 else if q = 2 then 101 else if q = 3 then 1011 else if q = 4 then 10101 else 100001) else tr
theorem z_la {x : Int64} {a b c : Int} (h : a + b = c) : x + Int64.ofInt a + Int64.ofInt b = x + Int64.ofInt c := by
  rw [Int64.add_assoc, ← Int64.ofInt_add, h]
section MK
variable {S : ZS} {d : Nat} {M : ZM} {T : Nat} {tx : Nat → Int32} {W H L n : Nat} {hs lot : Int32} {kc : Nat → ZK} {im : Nat → Option ZB} {tr : Int64} {c sa : Nat} {f la : Int} {N : Nat} {cs : Int32} {g : Nat → Int32} {s : Nat → Int}
theorem c_mChain {x : Int64} (h0 : M[0]? = some (k_bt x)) (hk : k_C M c sa f la N cs g s) (hc : ¬ c = 0) (hsa : ¬ sa = 0) : z_C S d 94 [.ref 0, .ref c] M (some (.int (zI ((N : Int))))) (M.set 0 (k_bt (x + Int64.ofInt 1))) := by
  obtain ⟨q1, q2, q3, q4, q5⟩ := id hk
  refine c_of rfl rfl (Nat.le_of_ble_eq_true rfl) ?_
  refine g_al rfl rfl ?_
  refine g_dupA rfl ?_
  refine g_gf rfl h0 rfl rfl ?_
  refine g_lc rfl ?_
  refine g_ladd rfl ?_
  refine g_pf7 rfl h0 rfl rfl rfl (Or.inl rfl) ?_
  refine g_al rfl rfl ?_
  refine g_gf rfl (z_gn (by omega) q1) rfl rfl ?_
  exact g_reti rfl (rfl) rfl
theorem c_mWall {x : Int64} (h0 : M[0]? = some (k_bt x)) (hk : k_C M c sa f la N cs g s) (hc : ¬ c = 0) (hsa : ¬ sa = 0) : z_C S (d + 1) 95 [.ref 0, .ref c] M (some (.int (zI (2 * (N : Int))))) (M.set 0 (k_bt (x + Int64.ofInt 11))) := by
  obtain ⟨q1, q2, q3, q4, q5⟩ := id hk
  refine c_of rfl rfl (Nat.le_of_ble_eq_true rfl) ?_
  refine g_al rfl rfl ?_
  refine g_dupA rfl ?_
  refine g_gf rfl h0 rfl rfl ?_
  refine g_lc rfl ?_
  refine g_ladd rfl ?_
  refine g_pf7 rfl h0 rfl rfl rfl (Or.inl rfl) ?_
  refine g_al rfl rfl ?_
  refine g_al rfl rfl ?_
  refine g_cv1 rfl rfl (z_gs h0) rfl (by decide) rfl (c_mChain (z_gs h0) (hk.ev (.set (P := fun k => k = 0) rfl) hc hsa) hc hsa) ?_
  rw [List.set_set, z_la (show (10 : Int) + 1 = 11 from rfl)]
  refine g_ic rfl ?_
  refine g_mulI rfl ?_
  exact g_reti rfl (by rw [Int.mul_comm]) rfl
theorem c_mWay {x : Int64} (h0 : M[0]? = some (k_bt x)) (hk : k_C M c sa f la N cs g s) (hc : ¬ c = 0) (hsa : ¬ sa = 0) : z_C S (d + 3) 96 [.ref 0, .ref c] M (some (.int (zI ((N : Int) - (p_long s N : Int))))) (M.set 0 (k_bt (x + Int64.ofInt 101))) := by
  obtain ⟨q1, q2, q3, q4, q5⟩ := id hk
  refine c_of rfl rfl (Nat.le_of_ble_eq_true rfl) ?_
  refine g_al rfl rfl ?_
  refine g_dupA rfl ?_
  refine g_gf rfl h0 rfl rfl ?_
  refine g_lc rfl ?_
  refine g_ladd rfl ?_
  refine g_pf7 rfl h0 rfl rfl rfl (Or.inl rfl) ?_
  refine g_al rfl rfl ?_
  refine g_al rfl rfl ?_
  refine g_cv1 rfl rfl (z_gs h0) rfl (by decide) rfl (c_mChain (z_gs h0) (hk.ev (.set (P := fun k => k = 0) rfl) hc hsa) hc hsa) ?_
  rw [List.set_set, z_la (show (100 : Int) + 1 = 101 from rfl)]
  refine g_al rfl rfl ?_
  refine g_cv0 rfl rfl (z_gn (by omega) q1) rfl (by decide) rfl (c_longestRun (hk.ev (.set (P := fun k => k = 0) rfl) hc hsa)) ?_
  refine g_subI rfl ?_
  exact g_reti rfl (rfl) rfl
theorem c_mDoor {x : Int64} (h0 : M[0]? = some (k_bt x)) (hk : k_C M c sa f la N cs g s) (hc : ¬ c = 0) (hsa : ¬ sa = 0) {k : Int} : z_C S (d + 2) 97 [.ref 0, .ref c, .int (zI k)] M (some (.int (zI (2 * (N : Int) + k)))) (M.set 0 (k_bt (x + Int64.ofInt 1011))) := by
  obtain ⟨q1, q2, q3, q4, q5⟩ := id hk
  refine c_of rfl rfl (Nat.le_of_ble_eq_true rfl) ?_
  refine g_al rfl rfl ?_
  refine g_dupA rfl ?_
  refine g_gf rfl h0 rfl rfl ?_
  refine g_lc rfl ?_
  refine g_ladd rfl ?_
  refine g_pf7 rfl h0 rfl rfl rfl (Or.inl rfl) ?_
  refine g_al rfl rfl ?_
  refine g_al rfl rfl ?_
  refine g_cv1 rfl rfl (z_gs h0) rfl (by decide) rfl (c_mWall (z_gs h0) (hk.ev (.set (P := fun k => k = 0) rfl) hc hsa) hc hsa) ?_
  rw [List.set_set, z_la (show (1000 : Int) + 11 = 1011 from rfl)]
  refine g_il rfl rfl ?_
  refine g_addI rfl ?_
  exact g_reti rfl (rfl) rfl
theorem c_mRope {x : Int64} (h0 : M[0]? = some (k_bt x)) (hk : k_C M c sa f la N cs g s) (hc : ¬ c = 0) (hsa : ¬ sa = 0) (hp : p_in W H hs) (hO : k_O M 1 W H L hs n lot) : z_C S (d + 2) 99 [.ref 0, .ref c] M (some (.int (zI ((N : Int) + (v_hc hs : Int))))) (M.set 0 (k_bt (x + Int64.ofInt 100001))) := by
  obtain ⟨q1, q2, q3, q4, q5⟩ := id hk
  refine c_of rfl rfl (Nat.le_of_ble_eq_true rfl) ?_
  refine g_al rfl rfl ?_
  refine g_dupA rfl ?_
  refine g_gf rfl h0 rfl rfl ?_
  refine g_lc rfl ?_
  refine g_ladd rfl ?_
  refine g_pf7 rfl h0 rfl rfl rfl (Or.inl rfl) ?_
  refine g_al rfl rfl ?_
  refine g_al rfl rfl ?_
  refine g_cv1 rfl rfl (z_gs h0) rfl (by decide) rfl (c_mChain (z_gs h0) (hk.ev (.set (P := fun k => k = 0) rfl) hc hsa) hc hsa) ?_
  rw [List.set_set, z_la (show (100000 : Int) + 1 = 100001 from rfl)]
  refine g_al rfl rfl ?_
  refine g_gf rfl (z_gs h0) rfl rfl ?_
  refine g_cv0 rfl rfl (z_gn (by decide) hO.1) rfl (by decide) rfl (c_houseCount (hO.ev (.set (P := fun k => k = 0) rfl) (by decide))) ?_
  rw [v_hc32 hp (p_WH hO.2.1.2 hO.2.2.1.2)]
  refine g_addI rfl ?_
  exact g_reti rfl (rfl) rfl
theorem c_mGlance {fN b : Nat} {x : Int64} (h0 : M[0]? = some (k_bt x)) (hk : k_C M c sa (fN : Int) (b : Int) N cs g s) (hc : ¬ c = 0) (hsa : ¬ sa = 0) (hc2 : c < 25) (hsa2 : sa < 25) (hO : k_O M 1 W H L hs n lot) (hW : x_W M) (ha : fN < W * H) (hb : b < W * H) : ∃ M', z_C S (d + 5) 98 [.ref 0, .ref c] M (some (.int (zI ((N : Int) - (p_long s N : Int) + (if p_dst (p_aC W H L hs) b (13 * fN) ≤ 60 then (p_dst (p_aC W H L hs) b (13 * fN) : Int) else 0))))) M' ∧ ∃ M2, M' = M2.set 0 (k_bt (x + Int64.ofInt 10101)) ∧ z_ev (M.set 0 (k_bt (x + Int64.ofInt 10000))) M2 (fun k => 25 ≤ k ∧ k < 33) ∧ x_W M2 := by
  obtain ⟨q1, q2, q3, q4, q5⟩ := id hk
  refine k_an ?_
  refine k_of rfl rfl (Nat.le_of_ble_eq_true rfl) ?_
  refine r_al rfl rfl ?_
  refine r_dupA rfl ?_
  refine r_gf rfl h0 rfl rfl ?_
  refine r_lc rfl ?_
  refine r_ladd rfl ?_
  refine r_pf7 rfl h0 rfl rfl rfl (Or.inl rfl) ?_
  obtain ⟨M2, k2, e2, w2, -⟩ := c_shortest (S := S) (d := d) (a := fN) (b := b) (hO.ev (.set (P := fun k => k = 0) rfl) (by decide)) (hW.ev (.set (P := fun k => k = 0) rfl) (fun k g1 g2 => by omega)) ha hb
  obtain ⟨⟨u1, u2, v25⟩, -⟩ := hW.ev (M' := M.set 0 (k_bt (x + Int64.ofInt 10000))) (.set (P := fun k => k = 0) rfl) (fun k g1 g2 => by omega)
  have dl := (p_dst_ok (p_aC W H L hs) b (13 * fN)).1
  generalize p_dst (p_aC W H L hs) b (13 * fN) = n2 at *
  refine r_al rfl rfl ?_
  refine r_gf rfl (z_gs h0) rfl rfl ?_
  refine r_al rfl rfl ?_
  refine r_gf rfl (z_gs h0) rfl rfl ?_
  refine r_al rfl rfl ?_
  refine r_gf rfl (z_gn (by omega) q1) rfl rfl ?_
  refine r_al rfl rfl ?_
  refine r_gf rfl (z_gn (by omega) q1) rfl rfl ?_
  refine r_cv3 rfl rfl v25 rfl (by decide) rfl (k2) ?_
  have h02 := (e2.2 0 (by decide)).trans (z_gs h0)
  have hk2 := ((hk.ev (.set (P := fun k => k = 0) rfl) hc hsa)).ev e2 (by omega) (by omega)
  refine r_is2 rfl rfl ?_
  refine r_al rfl rfl ?_
  refine r_al rfl rfl ?_
  refine r_cv1 rfl rfl h02 rfl (by decide) rfl (c_mWay h02 hk2 hc hsa) ?_
  rw [z_la (show (10000 : Int) + 101 = 10101 from rfl)]
  refine r_il rfl rfl ?_
  refine r_ic rfl ?_
  by_cases hd9 : n2 ≤ 60
  · rw [if_pos hd9, if_pos hd9]
    refine r_icT rfl (zcT1 ⟨by omega, by omega⟩ ⟨by omega, by omega⟩ (by omega)) ?_
    refine r_il rfl rfl ?_
    refine r_addI rfl ?_
    refine r_reti rfl rfl ?_
    exact ⟨rfl, M2, rfl, e2, w2⟩
  · rw [if_neg hd9, if_neg hd9]
    refine r_icF rfl (zcF1 (rfl)) ?_
    refine r_ic rfl ?_
    refine r_goto rfl ?_
    refine r_addI rfl ?_
    refine r_reti rfl rfl ?_
    exact ⟨rfl, M2, rfl, e2, w2⟩
theorem x_mark (hp : p_in W H hs) {q k : Int} (hq8 : z_sm q) (hk : z_sm k) : z_Xc S 89 [.int (zI q), .int (zI k)] ((T, tx), (W, H, L), (hs, lot, n, kc), im, tr) (.int (zI (v_mark W H L hs n kc q k))) ((T, tx), (W, H, L), (hs, lot, n, kc), im, t_mark n tr q k) := by
  intro d M hX
  obtain ⟨x1, x2, x3, x4, x5, x6, x7, x8⟩ := id hX
  have hA : k_A M 1 W H L hs lot n kc := x3
  obtain ⟨ha, hO, ch, hR, hk9⟩ := id hA
  obtain ⟨o1, ⟨hW1, hW2⟩, ⟨hH1, hH2⟩, ⟨hL1, hL2⟩, hn⟩ := id hO
  have hC := p_WH hW2 hH2
  unfold v_mark t_mark v_dst
  refine k_an ?_
  refine k_of rfl rfl (Nat.le_of_ble_eq_true rfl) ?_
  refine r_al rfl rfl ?_
  refine r_gf rfl x2 rfl rfl ?_
  refine r_il rfl rfl ?_
  by_cases h0 : 0 ≤ k ∧ k < (n : Int)
  · refine r_cv1 rfl rfl o1 rfl (by decide) rfl (c_chainAt hO hR h0.1 h0.2) ?_
    obtain ⟨j, rfl⟩ : ∃ q : Nat, k = (q : Int) := ⟨k.toNat, by omega⟩
    obtain ⟨cs, g, hq⟩ := hA.chain (k := j) (by omega)
    obtain ⟨q1, q2, q3, q4, q5⟩ := id hq
    have hpk := (hk9 j (by omega)).1
    have l1 := k_last_lt hpk
    have l2 := hpk.1
    have h0' : M[0]? = some (k_bt tr) := x2
    have c0 : ¬ (1 + 2 + 2 * j) = 0 := by omega
    have s0 : ¬ (1 + 2 + 2 * j + 1) = 0 := by omega
    rw [Int.toNat_natCast]
    refine r_as3 rfl rfl ?_
    refine r_al rfl rfl ?_
    refine r_nnT rfl ?_
    refine r_il rfl rfl ?_
    obtain hq9 | hq9 | hq9 | hq9 | hq9 | hq9 | hq9 : q = 0 ∨ q = 1 ∨ q = 2 ∨ q = 3 ∨ q = 4 ∨ q = 5 ∨ (q < 0 ∨ 5 < q) := by omega
    · subst hq9
      have hcnd : ((0 : Int) ≤ 0 ∧ (0 : Int) ≤ 5) ∧ 0 ≤ (j : Int) ∧ (j : Int) < (n : Int) := ⟨⟨by omega, by omega⟩, h0⟩
      rw [if_pos hcnd, if_pos hcnd]
      rw [if_pos rfl, if_pos rfl]
      refine r_tsI rfl (by rw [zI_toInt ⟨by omega, by omega⟩]; omega) (v := 56) (by rw [zI_toInt ⟨by omega, by omega⟩]; rfl) ?_
      refine r_al rfl rfl ?_
      refine r_al rfl rfl ?_
      refine r_cv1 rfl rfl x2 rfl (by decide) rfl (c_mChain h0' hq c0 s0) ?_
      refine r_reti rfl rfl ?_
      exact ⟨rfl, hX.mark _, .set (by omega)⟩
    · subst hq9
      have hcnd : ((0 : Int) ≤ 1 ∧ (1 : Int) ≤ 5) ∧ 0 ≤ (j : Int) ∧ (j : Int) < (n : Int) := ⟨⟨by omega, by omega⟩, h0⟩
      rw [if_pos hcnd, if_pos hcnd]
      rw [if_neg (show ¬ (1 : Int) = 0 by decide), if_neg (show ¬ (1 : Int) = 0 by decide)]
      rw [if_pos rfl, if_pos rfl]
      refine r_tsI rfl (by rw [zI_toInt ⟨by omega, by omega⟩]; omega) (v := 62) (by rw [zI_toInt ⟨by omega, by omega⟩]; rfl) ?_
      refine r_al rfl rfl ?_
      refine r_al rfl rfl ?_
      refine r_cv1 rfl rfl x2 rfl (by decide) rfl (c_mWall h0' hq c0 s0) ?_
      refine r_reti rfl rfl ?_
      exact ⟨rfl, hX.mark _, .set (by omega)⟩
    · subst hq9
      have hcnd : ((0 : Int) ≤ 2 ∧ (2 : Int) ≤ 5) ∧ 0 ≤ (j : Int) ∧ (j : Int) < (n : Int) := ⟨⟨by omega, by omega⟩, h0⟩
      rw [if_pos hcnd, if_pos hcnd]
      rw [if_neg (show ¬ (2 : Int) = 0 by decide), if_neg (show ¬ (2 : Int) = 0 by decide)]
      rw [if_neg (show ¬ (2 : Int) = 1 by decide), if_neg (show ¬ (2 : Int) = 1 by decide)]
      rw [if_pos rfl, if_pos rfl]
      refine r_tsI rfl (by rw [zI_toInt ⟨by omega, by omega⟩]; omega) (v := 68) (by rw [zI_toInt ⟨by omega, by omega⟩]; rfl) ?_
      refine r_al rfl rfl ?_
      refine r_al rfl rfl ?_
      refine r_cv1 rfl rfl x2 rfl (by decide) rfl (c_mWay h0' hq c0 s0) ?_
      refine r_reti rfl rfl ?_
      exact ⟨rfl, hX.mark _, .set (by omega)⟩
    · subst hq9
      have hcnd : ((0 : Int) ≤ 3 ∧ (3 : Int) ≤ 5) ∧ 0 ≤ (j : Int) ∧ (j : Int) < (n : Int) := ⟨⟨by omega, by omega⟩, h0⟩
      rw [if_pos hcnd, if_pos hcnd]
      rw [if_neg (show ¬ (3 : Int) = 0 by decide), if_neg (show ¬ (3 : Int) = 0 by decide)]
      rw [if_neg (show ¬ (3 : Int) = 1 by decide), if_neg (show ¬ (3 : Int) = 1 by decide)]
      rw [if_neg (show ¬ (3 : Int) = 2 by decide), if_neg (show ¬ (3 : Int) = 2 by decide)]
      rw [if_pos rfl, if_pos rfl]
      refine r_tsI rfl (by rw [zI_toInt ⟨by omega, by omega⟩]; omega) (v := 74) (by rw [zI_toInt ⟨by omega, by omega⟩]; rfl) ?_
      refine r_al rfl rfl ?_
      refine r_al rfl rfl ?_
      refine r_il rfl rfl ?_
      refine r_cv2 rfl rfl x2 rfl (by decide) rfl (c_mDoor h0' hq c0 s0) ?_
      refine r_reti rfl rfl ?_
      exact ⟨rfl, hX.mark _, .set (by omega)⟩
    · subst hq9
      have hcnd : ((0 : Int) ≤ 4 ∧ (4 : Int) ≤ 5) ∧ 0 ≤ (j : Int) ∧ (j : Int) < (n : Int) := ⟨⟨by omega, by omega⟩, h0⟩
      rw [if_pos hcnd, if_pos hcnd]
      rw [if_neg (show ¬ (4 : Int) = 0 by decide), if_neg (show ¬ (4 : Int) = 0 by decide)]
      rw [if_neg (show ¬ (4 : Int) = 1 by decide), if_neg (show ¬ (4 : Int) = 1 by decide)]
      rw [if_neg (show ¬ (4 : Int) = 2 by decide), if_neg (show ¬ (4 : Int) = 2 by decide)]
      rw [if_neg (show ¬ (4 : Int) = 3 by decide), if_neg (show ¬ (4 : Int) = 3 by decide)]
      rw [if_pos rfl, if_pos rfl]
      refine r_tsI rfl (by rw [zI_toInt ⟨by omega, by omega⟩]; omega) (v := 81) (by rw [zI_toInt ⟨by omega, by omega⟩]; rfl) ?_
      refine r_al rfl rfl ?_
      refine r_al rfl rfl ?_
      obtain ⟨M2, k2, M3, rfl, e3, w3⟩ := c_mGlance (S := S) (d := d + 14) h0' hq c0 s0 (by omega) (by omega) hO x5 l2 l1
      refine r_cv1 rfl rfl x2 rfl (by decide) rfl (k2) ?_
      refine r_reti rfl rfl ?_
      refine ⟨rfl, ((hX.mark _).walk e3 w3).mark _, ?_⟩
      exact ((z_ev.set (by omega)).tr (e3.wk (fun k g => by omega))).tr (.set (by omega))
    · subst hq9
      have hcnd : ((0 : Int) ≤ 5 ∧ (5 : Int) ≤ 5) ∧ 0 ≤ (j : Int) ∧ (j : Int) < (n : Int) := ⟨⟨by omega, by omega⟩, h0⟩
      rw [if_pos hcnd, if_pos hcnd]
      rw [if_neg (show ¬ (5 : Int) = 0 by decide), if_neg (show ¬ (5 : Int) = 0 by decide)]
      rw [if_neg (show ¬ (5 : Int) = 1 by decide), if_neg (show ¬ (5 : Int) = 1 by decide)]
      rw [if_neg (show ¬ (5 : Int) = 2 by decide), if_neg (show ¬ (5 : Int) = 2 by decide)]
      rw [if_neg (show ¬ (5 : Int) = 3 by decide), if_neg (show ¬ (5 : Int) = 3 by decide)]
      rw [if_neg (show ¬ (5 : Int) = 4 by decide), if_neg (show ¬ (5 : Int) = 4 by decide)]
      refine r_tsI rfl (by rw [zI_toInt ⟨by omega, by omega⟩]; omega) (v := 87) (by rw [zI_toInt ⟨by omega, by omega⟩]; rfl) ?_
      refine r_al rfl rfl ?_
      refine r_al rfl rfl ?_
      refine r_cv1 rfl rfl x2 rfl (by decide) rfl (c_mRope h0' hq c0 s0 hp hO) ?_
      refine r_reti rfl rfl ?_
      exact ⟨rfl, hX.mark _, .set (by omega)⟩
    · rw [if_neg (fun g => by have := g.1; omega), if_neg (fun g => by have := g.1; omega)]
      refine r_tsO rfl (by rw [zI_toInt hq8]; omega) ?_
      refine r_ic rfl ?_
      refine r_reti rfl rfl ?_
      exact ⟨rfl, hX, .rf⟩
  · rw [if_neg (fun g => h0 g.2), if_neg (fun g => h0 g.2)]
    refine r_cv1 rfl rfl o1 rfl (by decide) rfl (c_chainAtN hO hR hk (by omega)) ?_
    refine r_an3 rfl rfl ?_
    refine r_aln rfl rfl ?_
    refine r_nnF rfl ?_
    refine r_ic rfl ?_
    refine r_reti rfl rfl ?_
    exact ⟨rfl, hX, .rf⟩
theorem y_mark {q k : Int} (hq8 : z_sm q) (hk : z_sm k) : z_Yc S 160 [.int (zI q), .int (zI k)] ((T, tx), (W, H, L), (hs, lot, n, kc), im, tr) (.int (zI (v_mark W H L hs n kc q k))) ((T, tx), (W, H, L), (hs, lot, n, kc), im, t_mark n tr q k) := by
  intro d M hY
  obtain ⟨y1, v, wd, hd, ld, nw, h, y3, y4, y5, y6, y7, y8⟩ := id hY
  have h : m_Y M tr v wd hd ld nw W H L hs lot n kc := h
  obtain ⟨⟨h1, h2, h3, h4, h5⟩, ⟨w1, w2, w3⟩, ⟨⟨hW1, hW2⟩, ⟨hH1, hH2⟩, ⟨hL1, hL2⟩, hn⟩, ⟨a1, a2, a3, a4⟩, hok⟩ := id h
  have hC := p_WH hW2 hH2
  unfold v_mark t_mark v_dst
  refine k_an ?_
  refine k_of rfl rfl (Nat.le_of_ble_eq_true rfl) ?_
  refine r_il rfl rfl ?_
  refine r_ic rfl ?_
  refine r_ic rfl ?_
  refine r_cs3 rfl rfl rfl rfl (m_in hq8 ⟨by omega, by omega⟩ ⟨by omega, by omega⟩) ?_
  by_cases hq9 : 0 ≤ q ∧ q ≤ 5
  · rw [if_pos hq9]
    refine r_ifF rfl (zcF0 ⟨by omega, by omega⟩ ⟨by omega, by omega⟩ (by decide)) ?_
    refine r_al rfl rfl ?_
    refine r_il rfl rfl ?_
    refine r_cv1 rfl rfl h1 rfl (by decide) rfl (m_isChain h hk) ?_
    by_cases h0' : 0 ≤ k ∧ k < (n : Int)
    · rw [if_pos h0']
      obtain ⟨j, rfl⟩ : ∃ q : Nat, k = (q : Int) := ⟨k.toNat, by omega⟩
      have hj : j < n := by omega
      have hpk := hok j hj
      have l1 := k_last_lt hpk
      have l2 := hpk.1
      have hcnd := And.intro hq9 h0'
      rw [if_pos hcnd, if_pos hcnd, Int.toNat_natCast]
      refine r_ifT rfl (zcT1 ⟨by omega, by omega⟩ ⟨by omega, by omega⟩ (by decide)) ?_
      refine r_al rfl rfl ?_
      refine r_il rfl rfl ?_
      refine r_cv1 rfl rfl h1 rfl (by decide) rfl (m_steps h hj) ?_
      refine r_is3 rfl rfl ?_
      refine r_il rfl rfl ?_
      obtain hz | hz | hz | hz | hz | hz : q = 0 ∨ q = 1 ∨ q = 2 ∨ q = 3 ∨ q = 4 ∨ q = 5 := by omega
      · subst hz
        rw [if_pos rfl, if_pos rfl]
        refine r_tsI rfl (by rw [zI_toInt ⟨by omega, by omega⟩]; omega) (v := 60) (by rw [zI_toInt ⟨by omega, by omega⟩]; rfl) ?_
        refine r_al rfl rfl ?_
        refine r_dupA rfl ?_
        refine r_gf rfl h1 rfl rfl ?_
        refine r_lc rfl ?_
        refine r_ladd rfl ?_
        refine r_pf0 rfl h1 rfl rfl rfl (Or.inl rfl) ?_
        have hM := h.tr (tr + Int64.ofInt 1)
        refine r_il rfl rfl ?_
        refine r_reti rfl rfl ?_
        exact ⟨rfl, hY.mark ⟨h1, h2, h3, h4, h5⟩ _, .set (by omega)⟩
      · subst hz
        rw [if_neg (show ¬ (1 : Int) = 0 by decide), if_neg (show ¬ (1 : Int) = 0 by decide)]
        rw [if_pos rfl, if_pos rfl]
        refine r_tsI rfl (by rw [zI_toInt ⟨by omega, by omega⟩]; omega) (v := 72) (by rw [zI_toInt ⟨by omega, by omega⟩]; rfl) ?_
        refine r_al rfl rfl ?_
        refine r_dupA rfl ?_
        refine r_gf rfl h1 rfl rfl ?_
        refine r_lc rfl ?_
        refine r_ladd rfl ?_
        refine r_pf0 rfl h1 rfl rfl rfl (Or.inl rfl) ?_
        have hM := h.tr (tr + Int64.ofInt 11)
        refine r_ic rfl ?_
        refine r_il rfl rfl ?_
        refine r_mulI rfl ?_
        refine r_reti rfl rfl ?_
        exact ⟨rfl, hY.mark ⟨h1, h2, h3, h4, h5⟩ _, .set (by omega)⟩
      · subst hz
        rw [if_neg (show ¬ (2 : Int) = 0 by decide), if_neg (show ¬ (2 : Int) = 0 by decide)]
        rw [if_neg (show ¬ (2 : Int) = 1 by decide), if_neg (show ¬ (2 : Int) = 1 by decide)]
        rw [if_pos rfl, if_pos rfl]
        refine r_tsI rfl (by rw [zI_toInt ⟨by omega, by omega⟩]; omega) (v := 88) (by rw [zI_toInt ⟨by omega, by omega⟩]; rfl) ?_
        refine r_al rfl rfl ?_
        refine r_dupA rfl ?_
        refine r_gf rfl h1 rfl rfl ?_
        refine r_lc rfl ?_
        refine r_ladd rfl ?_
        refine r_pf0 rfl h1 rfl rfl rfl (Or.inl rfl) ?_
        have hM := h.tr (tr + Int64.ofInt 101)
        refine r_il rfl rfl ?_
        refine r_al rfl rfl ?_
        refine r_il rfl rfl ?_
        refine r_cv1 rfl rfl (z_gs h1) rfl (by decide) rfl (m_longest hM hj) ?_
        refine r_subI rfl ?_
        refine r_reti rfl rfl ?_
        exact ⟨rfl, hY.mark ⟨h1, h2, h3, h4, h5⟩ _, .set (by omega)⟩
      · subst hz
        rw [if_neg (show ¬ (3 : Int) = 0 by decide), if_neg (show ¬ (3 : Int) = 0 by decide)]
        rw [if_neg (show ¬ (3 : Int) = 1 by decide), if_neg (show ¬ (3 : Int) = 1 by decide)]
        rw [if_neg (show ¬ (3 : Int) = 2 by decide), if_neg (show ¬ (3 : Int) = 2 by decide)]
        rw [if_pos rfl, if_pos rfl]
        refine r_tsI rfl (by rw [zI_toInt ⟨by omega, by omega⟩]; omega) (v := 108) (by rw [zI_toInt ⟨by omega, by omega⟩]; rfl) ?_
        refine r_al rfl rfl ?_
        refine r_dupA rfl ?_
        refine r_gf rfl h1 rfl rfl ?_
        refine r_lc rfl ?_
        refine r_ladd rfl ?_
        refine r_pf0 rfl h1 rfl rfl rfl (Or.inl rfl) ?_
        have hM := h.tr (tr + Int64.ofInt 1011)
        refine r_ic rfl ?_
        refine r_il rfl rfl ?_
        refine r_mulI rfl ?_
        refine r_il rfl rfl ?_
        refine r_addI rfl ?_
        refine r_reti rfl rfl ?_
        exact ⟨rfl, hY.mark ⟨h1, h2, h3, h4, h5⟩ _, .set (by omega)⟩
      · subst hz
        rw [if_neg (show ¬ (4 : Int) = 0 by decide), if_neg (show ¬ (4 : Int) = 0 by decide)]
        rw [if_neg (show ¬ (4 : Int) = 1 by decide), if_neg (show ¬ (4 : Int) = 1 by decide)]
        rw [if_neg (show ¬ (4 : Int) = 2 by decide), if_neg (show ¬ (4 : Int) = 2 by decide)]
        rw [if_neg (show ¬ (4 : Int) = 3 by decide), if_neg (show ¬ (4 : Int) = 3 by decide)]
        rw [if_pos rfl, if_pos rfl]
        refine r_tsI rfl (by rw [zI_toInt ⟨by omega, by omega⟩]; omega) (v := 126) (by rw [zI_toInt ⟨by omega, by omega⟩]; rfl) ?_
        refine r_al rfl rfl ?_
        refine r_dupA rfl ?_
        refine r_gf rfl h1 rfl rfl ?_
        refine r_lc rfl ?_
        refine r_ladd rfl ?_
        refine r_pf0 rfl h1 rfl rfl rfl (Or.inl rfl) ?_
        have hM := h.tr (tr + Int64.ofInt 10101)
        refine r_al rfl rfl ?_
        refine r_al rfl rfl ?_
        refine r_gf rfl (z_gs h1) rfl rfl ?_
        refine r_ic rfl ?_
        refine r_il rfl rfl ?_
        refine r_addI rfl ?_
        refine r_iaI rfl (by decide) (z_gn (by decide) h5) (by omega) (by omega) (by omega) ?_
        rw [show (3 + (j : Int)).toNat = 0 + 3 + j by omega, (a4 j hj).1]
        refine r_al rfl rfl ?_
        refine r_il rfl rfl ?_
        refine r_cv1 rfl rfl (z_gs h1) rfl (by decide) rfl (m_lastCell hM hj) ?_
        obtain ⟨⟨f69, r69⟩, ⟨f70, r70⟩, ⟨f71, r71⟩, ⟨f72, r72⟩, ⟨f73, r73⟩, ⟨f74, r74⟩, ⟨f75, r75⟩, ⟨f76, r76⟩, f77, r77⟩ := id y8
        obtain ⟨M2, k2, e2, fl, lf, h69, hfl, hle⟩ := m_stepsOf (S := S) (d := d + 15) hM (b := k_last W H (kc j)) l1 (z_gn (by decide) r69) (a := (kc j).1) l2
        have hY1 := hY.mark ⟨h1, h2, h3, h4, h5⟩ (tr + Int64.ofInt 10101)
        have hM2 := hM.ev e2 (fun k x1 x2 => by omega)
        have hY2 := hY1.rows (e2.wk (fun k g => by omega)) ⟨⟨fl, h69⟩, ⟨f70, (e2.2 70 (by decide)).trans (z_gn (by decide) r70)⟩, ⟨f71, (e2.2 71 (by decide)).trans (z_gn (by decide) r71)⟩, ⟨f72, (e2.2 72 (by decide)).trans (z_gn (by decide) r72)⟩, ⟨f73, (e2.2 73 (by decide)).trans (z_gn (by decide) r73)⟩, ⟨f74, (e2.2 74 (by decide)).trans (z_gn (by decide) r74)⟩, ⟨f75, (e2.2 75 (by decide)).trans (z_gn (by decide) r75)⟩, ⟨f76, (e2.2 76 (by decide)).trans (z_gn (by decide) r76)⟩, f77, (e2.2 77 (by decide)).trans (z_gn (by decide) r77)⟩
        have e9 : z_ev M M2 (fun k => 62 ≤ k) := (z_ev.set (by omega)).tr (e2.wk (fun k g => by omega))
        have dl := (p_dst_ok (p_aC W H L hs) (k_last W H (kc j)) (13 * (kc j).1)).1
        generalize p_dst (p_aC W H L hs) (k_last W H (kc j)) (13 * (kc j).1) = n2 at *
        refine r_cv2 rfl rfl (z_gs h1) rfl (by decide) rfl (k2) ?_
        refine r_is4 rfl rfl ?_
        refine r_il rfl rfl ?_
        refine r_al rfl rfl ?_
        refine r_il rfl rfl ?_
        refine r_cv1 rfl rfl hM2.1.1 rfl (by decide) rfl (m_longest hM2 hj) ?_
        refine r_subI rfl ?_
        refine r_il rfl rfl ?_
        refine r_ic rfl ?_
        by_cases hd9 : n2 ≤ 60
        · rw [if_pos hd9, if_pos hd9]
          refine r_icT rfl (zcT1 ⟨by omega, by omega⟩ ⟨by omega, by omega⟩ (by omega)) ?_
          refine r_il rfl rfl ?_
          refine r_addI rfl ?_
          refine r_reti rfl rfl ?_
          exact ⟨rfl, hY2, e9⟩
        · rw [if_neg hd9, if_neg hd9]
          refine r_icF rfl (zcF1 (rfl)) ?_
          refine r_ic rfl ?_
          refine r_goto rfl ?_
          refine r_addI rfl ?_
          refine r_reti rfl rfl ?_
          exact ⟨rfl, hY2, e9⟩
      · subst hz
        rw [if_neg (show ¬ (5 : Int) = 0 by decide), if_neg (show ¬ (5 : Int) = 0 by decide)]
        rw [if_neg (show ¬ (5 : Int) = 1 by decide), if_neg (show ¬ (5 : Int) = 1 by decide)]
        rw [if_neg (show ¬ (5 : Int) = 2 by decide), if_neg (show ¬ (5 : Int) = 2 by decide)]
        rw [if_neg (show ¬ (5 : Int) = 3 by decide), if_neg (show ¬ (5 : Int) = 3 by decide)]
        rw [if_neg (show ¬ (5 : Int) = 4 by decide), if_neg (show ¬ (5 : Int) = 4 by decide)]
        refine r_tsO rfl (by rw [zI_toInt ⟨by omega, by omega⟩]; omega) ?_
        refine r_al rfl rfl ?_
        refine r_dupA rfl ?_
        refine r_gf rfl h1 rfl rfl ?_
        refine r_lc rfl ?_
        refine r_ladd rfl ?_
        refine r_pf0 rfl h1 rfl rfl rfl (Or.inl rfl) ?_
        have hM := h.tr (tr + Int64.ofInt 100001)
        refine r_il rfl rfl ?_
        refine r_al rfl rfl ?_
        refine r_cv0 rfl rfl (z_gs h1) rfl (by decide) rfl (m_houses hM.1.1 hM.1.2.2.2.2 a1) ?_
        refine r_addI rfl ?_
        refine r_reti rfl rfl ?_
        exact ⟨rfl, hY.mark ⟨h1, h2, h3, h4, h5⟩ _, .set (by omega)⟩
    · rw [if_neg h0', if_neg (fun g => h0' g.2), if_neg (fun g => h0' g.2)]
      refine r_ifF rfl (zcF1 (rfl)) ?_
      refine r_ic rfl ?_
      refine r_reti rfl rfl ?_
      exact ⟨rfl, hY, .rf⟩
  · rw [if_neg hq9, if_neg (fun g => hq9 g.1), if_neg (fun g => hq9 g.1)]
    refine r_ifT rfl (zcT0 (rfl)) ?_
    refine r_ic rfl ?_
    refine r_reti rfl rfl ?_
    exact ⟨rfl, hY, .rf⟩
end MK
