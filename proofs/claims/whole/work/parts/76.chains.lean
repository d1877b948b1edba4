/-! CHAINS WRITTEN: a step more, a chain more; a joint with any -/
section CW
variable {S : ZS} {d : Nat} {M : ZM} {W H L n : Nat} {hs lot : Int32} {kc : Nat → ZK} {c : Nat}
theorem c_addStep {x1 x2 x4 : Int32} {g : Nat → Int32} (h : k_c M c (x1, x2, zI (n : Int), x4, g)) (hn : n ≤ 12) {t : Int} (ht : z_sm t) : ∃ M', z_C S d 2 [.ref c, .int (zI t)] M (some (.int (zI (if (0 ≤ t ∧ t ≤ 3) ∧ n < 12 then 1 else 0)))) M' ∧ z_ev M M' (fun k => k = c ∨ k = c + 1) ∧ ((0 ≤ t ∧ t ≤ 3) ∧ n < 12 → k_c M' c (x1, x2, zI ((n + 1 : Nat) : Int), x4, upd g n (zI t))) ∧ (¬ ((0 ≤ t ∧ t ≤ 3) ∧ n < 12) → M' = M) := by
  obtain ⟨h1, h2⟩ := h
  have h1 : M[c]? = some (.inl (0, [.int x1, .int x2, .int (zI (n : Int)), .int x4, .ref (c + 1)])) := h1
  have h2 : M[c + 1]? = some (.inr (0, 12, .inl g)) := h2
  refine k_an ?_
  refine k_of rfl rfl (Nat.le_of_ble_eq_true rfl) ?_
  refine r_il rfl rfl ?_
  by_cases ha : t < 0
  · refine r_ifT rfl (zcT2 ⟨by omega, by omega⟩ ⟨by omega, by omega⟩ (ha)) ?_
    refine r_ic rfl ?_
    refine r_reti rfl rfl ?_
    exact ⟨by rw [if_neg (by omega)], .rf, fun g => by omega, fun _ => rfl⟩
  · refine r_ifF rfl (zcF2 ⟨by omega, by omega⟩ ⟨by omega, by omega⟩ (ha)) ?_
    refine r_il rfl rfl ?_
    refine r_ic rfl ?_
    by_cases hb : t < 4
    · refine r_icF rfl (zcF3 ⟨by omega, by omega⟩ ⟨by omega, by omega⟩ (hb)) ?_
      refine r_al rfl rfl ?_
      refine r_gf rfl h1 rfl rfl ?_
      refine r_ifF rfl (zcF2 ⟨by omega, by omega⟩ ⟨by omega, by omega⟩ (by omega)) ?_
      refine r_al rfl rfl ?_
      refine r_gf rfl h1 rfl rfl ?_
      refine r_ic rfl ?_
      by_cases hn2 : n < 12
      · refine r_icT rfl (zcT2 ⟨by omega, by omega⟩ ⟨by omega, by omega⟩ (by omega)) ?_
        refine r_al rfl rfl ?_
        refine r_gf rfl h1 rfl rfl ?_
        refine r_al rfl rfl ?_
        refine r_gf rfl h1 rfl rfl ?_
        refine r_il rfl rfl ?_
        refine r_iSI rfl h2 (by omega) (by omega) (by omega) ?_
        refine r_al rfl rfl ?_
        refine r_dupA rfl ?_
        refine r_gf rfl (z_gn (by omega) h1) rfl rfl ?_
        refine r_ic rfl ?_
        refine r_addI rfl ?_
        refine r_pf2 rfl (z_gn (by omega) h1) rfl rfl rfl (Or.inl rfl) ?_
        refine r_ic rfl ?_
        refine r_reti rfl rfl ?_
        refine ⟨by rw [if_pos (by omega)], (z_ev.set (Or.inr rfl)).tr (.set (Or.inl rfl)), fun _ => ⟨z_gs (z_gn (by omega) h1), ?_⟩, fun g => absurd ⟨⟨by omega, by omega⟩, hn2⟩ g⟩
        rw [Int.toNat_natCast]
        exact z_gn (by omega) (z_gs h2)
      · refine r_icF rfl (zcF2 ⟨by omega, by omega⟩ ⟨by omega, by omega⟩ (by omega)) ?_
        refine r_ic rfl ?_
        refine r_reti rfl rfl ?_
        exact ⟨by rw [if_neg (by omega)], .rf, fun g => by omega, fun _ => rfl⟩
    · refine r_icT rfl (zcT3 ⟨by omega, by omega⟩ ⟨by omega, by omega⟩ (hb)) ?_
      refine r_ic rfl ?_
      refine r_reti rfl rfl ?_
      exact ⟨by rw [if_neg (by omega)], .rf, fun g => by omega, fun _ => rfl⟩
theorem c_joinsAny_l {a sa fN N0 : Nat} {cs : Int32} {g : Nat → Int32} {s0 : Nat → Int} (hA : k_A M a W H L hs lot n kc) (hk0 : k_C M c sa (fN : Int) (k_last W H (fN, N0, s0) : Int) N0 cs g s0) (hN0 : 1 ≤ N0) (hf0 : fN < W * H) (hl0 : k_last W H (fN, N0, s0) < W * H) : ∀ (m i : Nat), i + m = n → p_nj W H L kc (fN, N0, s0) i = true → z_G S (d + 3) 44 2 [some (.ref a), some (.ref c), some (.int (zI (i : Int)))] [] M (some (.int (zI (if p_nj W H L kc (fN, N0, s0) n = true then 0 else 1)))) M := by
  obtain ⟨ha60, hO, ch, hR, hk9⟩ := id hA
  obtain ⟨o1, ⟨hW1, hW2⟩, ⟨hH1, hH2⟩, ⟨hL1, hL2⟩, hn⟩ := id hO
  have hC := p_WH hW2 hH2
  obtain ⟨⟨cf, r1, r2⟩, r3⟩ := id hR
  intro m
  induction m with
  | zero =>
    intro i hi hi9
    refine g_il rfl rfl ?_
    refine g_al rfl rfl ?_
    refine g_gf rfl o1 rfl rfl ?_
    refine g_icT rfl (zcT3 ⟨by omega, by omega⟩ ⟨by omega, by omega⟩ (by omega)) ?_
    refine g_ic rfl ?_
    exact g_reti rfl (by rw [show n = i by omega, hi9]; rfl) rfl
  | succ m ih =>
    intro i hi hi9
    obtain ⟨cs2, g2, hq⟩ := hA.chain (k := i) (by omega)
    have hpk := (hk9 i (by omega)).1
    have l1 := k_last_lt hpk
    have l2 := hpk.1
    have l3 := hpk.2.1
    refine g_il rfl rfl ?_
    refine g_al rfl rfl ?_
    refine g_gf rfl o1 rfl rfl ?_
    refine g_icF rfl (zcF3 ⟨by omega, by omega⟩ ⟨by omega, by omega⟩ (by omega)) ?_
    refine g_il rfl rfl ?_
    refine g_ic rfl ?_
    refine g_icF rfl (zcF3 ⟨by omega, by omega⟩ ⟨by omega, by omega⟩ (by omega)) ?_
    refine g_al rfl rfl ?_
    refine g_gf rfl o1 rfl rfl ?_
    refine g_il rfl rfl ?_
    refine g_aaI4 rfl r1 (by omega) (by omega) (by omega) (by rw [Int.toNat_natCast, r2 i (by omega)]) ?_
    refine g_al rfl rfl ?_
    refine g_al rfl rfl ?_
    refine g_gf rfl o1 rfl rfl ?_
    refine g_cv2 rfl rfl hq.1 rfl (by decide) rfl (c_joins hq hk0 l3.1 hN0 (by omega) (by omega) (by omega)) ?_
    by_cases hj1 : p_join (k_last W H (kc i) : Int) (kc i).2.2 (kc i).2.1 (fN : Int) s0 N0 L = true
    · rw [if_pos hj1]
      have e9 : p_nj W H L kc (fN, N0, s0) (i + 1) = false := by
        show (p_nj W H L kc (fN, N0, s0) i && !(p_join (k_last W H (kc i) : Int) (kc i).2.2 (kc i).2.1 (fN : Int) s0 N0 L || p_join (k_last W H (fN, N0, s0) : Int) s0 N0 ((kc i).1 : Int) (kc i).2.2 (kc i).2.1 L)) = false
        rw [hi9, hj1]
        rfl
      have e8 := p_nj_f e9 m
      rw [show i + 1 + m = n by omega] at e8
      refine g_ifT rfl (zcT1 ⟨by omega, by omega⟩ ⟨by omega, by omega⟩ (by decide)) ?_
      refine g_ic rfl ?_
      exact g_reti rfl (by rw [e8]; rfl) rfl
    · rw [if_neg hj1]
      refine g_ifF rfl (zcF1 (rfl)) ?_
      refine g_al rfl rfl ?_
      refine g_al rfl rfl ?_
      refine g_gf rfl o1 rfl rfl ?_
      refine g_il rfl rfl ?_
      refine g_aaI4 rfl r1 (by omega) (by omega) (by omega) (by rw [Int.toNat_natCast, r2 i (by omega)]) ?_
      refine g_al rfl rfl ?_
      refine g_gf rfl o1 rfl rfl ?_
      refine g_cv2 rfl rfl hk0.1 rfl (by decide) rfl (c_joins hk0 hq hN0 l3.1 (by omega) (by omega) (by omega)) ?_
      by_cases hj2 : p_join (k_last W H (fN, N0, s0) : Int) s0 N0 ((kc i).1 : Int) (kc i).2.2 (kc i).2.1 L = true
      · rw [if_pos hj2]
        have e9 : p_nj W H L kc (fN, N0, s0) (i + 1) = false := by
          show (p_nj W H L kc (fN, N0, s0) i && !(p_join (k_last W H (kc i) : Int) (kc i).2.2 (kc i).2.1 (fN : Int) s0 N0 L || p_join (k_last W H (fN, N0, s0) : Int) s0 N0 ((kc i).1 : Int) (kc i).2.2 (kc i).2.1 L)) = false
          rw [hi9, hj2, Bool.or_true]
          rfl
        have e8 := p_nj_f e9 m
        rw [show i + 1 + m = n by omega] at e8
        refine g_ifF rfl (zcF0 ⟨by omega, by omega⟩ ⟨by omega, by omega⟩ (by decide)) ?_
        refine g_ic rfl ?_
        exact g_reti rfl (by rw [e8]; rfl) rfl
      · rw [if_neg hj2]
        refine g_ifT rfl (zcT0 (rfl)) ?_
        refine g_jj2 rfl rfl ?_
        refine g_goto rfl ?_
        refine ih (i + 1) (by omega) ?_
        show (p_nj W H L kc (fN, N0, s0) i && !(p_join (k_last W H (kc i) : Int) (kc i).2.2 (kc i).2.1 (fN : Int) s0 N0 L || p_join (k_last W H (fN, N0, s0) : Int) s0 N0 ((kc i).1 : Int) (kc i).2.2 (kc i).2.1 L)) = true
        rw [hi9, Bool.not_eq_true _ |>.mp hj1, Bool.not_eq_true _ |>.mp hj2]
        rfl
theorem c_joinsAny {a sa fN N0 : Nat} {cs : Int32} {g : Nat → Int32} {s0 : Nat → Int} (hA : k_A M a W H L hs lot n kc) (hk0 : k_C M c sa (fN : Int) (k_last W H (fN, N0, s0) : Int) N0 cs g s0) (hN0 : 1 ≤ N0) (hf0 : fN < W * H) (hl0 : k_last W H (fN, N0, s0) < W * H) : z_C S (d + 3) 44 [.ref a, .ref c] M (some (.int (zI (if p_nj W H L kc (fN, N0, s0) n = true then 0 else 1)))) M := by
  refine c_of rfl rfl (Nat.le_of_ble_eq_true rfl) ?_
  refine g_ic rfl ?_
  refine g_is2 rfl rfl ?_
  exact c_joinsAny_l hA hk0 hN0 hf0 hl0 n 0 (by omega) rfl
theorem c_addChain4 {a : Nat} (hA : k_A M a W H L hs lot 4 kc) : z_C S d 45 [.ref a, .ref c] M (some (.int (zI 0))) M := by
  obtain ⟨ha60, hO, ch, hR, hk9⟩ := id hA
  obtain ⟨o1, ⟨hW1, hW2⟩, ⟨hH1, hH2⟩, ⟨hL1, hL2⟩, hn⟩ := id hO
  have hC := p_WH hW2 hH2
  obtain ⟨⟨cf, r1, r2⟩, r3⟩ := id hR
  refine c_of rfl rfl (Nat.le_of_ble_eq_true rfl) ?_
  refine g_al rfl rfl ?_
  refine g_gf rfl o1 rfl rfl ?_
  refine g_ifF rfl (zcF2 ⟨by omega, by omega⟩ ⟨by omega, by omega⟩ (by omega)) ?_
  refine g_al rfl rfl ?_
  refine g_gf rfl o1 rfl rfl ?_
  refine g_ic rfl ?_
  refine g_icF rfl (zcF2 ⟨by omega, by omega⟩ ⟨by omega, by omega⟩ (by omega)) ?_
  refine g_ic rfl ?_
  exact g_reti rfl (rfl) rfl
theorem c_addChain {a : Nat} {r : ZCh} {k0 : ZK} (hA : k_A M a W H L hs lot n kc) (hr : k_c M c r) (hrep : z_rep W H r k0) (hok0 : p_ok W H hs k0) (hne : c + 2 ≤ a ∨ a + 10 ≤ c) (hn4 : n < 4) : ∃ M', z_C S (d + 1) 45 [.ref a, .ref c] M (some (.int (zI 1))) M' ∧ z_ev M M' (z_sI a) ∧ k_A M' a W H L hs lot (n + 1) (fun k => if k = n then k0 else kc k) := by
  obtain ⟨ha60, hO, ch, hR, hk9⟩ := id hA
  obtain ⟨o1, ⟨hW1, hW2⟩, ⟨hH1, hH2⟩, ⟨hL1, hL2⟩, hn⟩ := id hO
  have hC := p_WH hW2 hH2
  obtain ⟨⟨cf, r1, r2⟩, r3⟩ := id hR
  refine k_an ?_
  refine k_of rfl rfl (Nat.le_of_ble_eq_true rfl) ?_
  refine r_al rfl rfl ?_
  refine r_gf rfl o1 rfl rfl ?_
  refine r_ifF rfl (zcF2 ⟨by omega, by omega⟩ ⟨by omega, by omega⟩ (by omega)) ?_
  refine r_al rfl rfl ?_
  refine r_gf rfl o1 rfl rfl ?_
  refine r_ic rfl ?_
  refine r_icT rfl (zcT2 ⟨by omega, by omega⟩ ⟨by omega, by omega⟩ (by omega)) ?_
  refine r_al rfl rfl ?_
  refine r_gf rfl o1 rfl rfl ?_
  refine r_al rfl rfl ?_
  refine r_gf rfl o1 rfl rfl ?_
  refine r_aaI4 rfl r1 (by omega) (by omega) (by omega) (by rw [Int.toNat_natCast, r2 n (by omega)]) ?_
  have kR : k_R (w_c M (a + 2 + 2 * n) (r.1, r.2.1, r.2.2.1, r.2.2.2.1, va_cpy r.2.2.2.2 (ch n).2.2.2.2 0 0 12)) a (fun k => if k = n then (r.1, r.2.1, r.2.2.1, r.2.2.2.1, va_cpy r.2.2.2.2 (ch n).2.2.2.2 0 0 12) else ch k) := by
    refine ⟨⟨cf, w_c_ne (by omega) (by omega) r1, r2⟩, fun k hk => ?_⟩
    dsimp only
    by_cases e : k = n
    · subst e
      rw [if_pos rfl]
      exact w_c_at (r3 k hk)
    · rw [if_neg e]
      exact w_c_kc (by omega) (r3 k hk)
  refine r_al rfl rfl ?_
  refine r_cv1v rfl rfl (r3 n hn4).1 rfl (by decide) rfl (c_copyC (r3 n hn4) hr (by omega)) ?_
  refine r_al rfl rfl ?_
  refine r_dupA rfl ?_
  refine r_gf rfl (w_c_ne (by omega) (by omega) o1) rfl rfl ?_
  refine r_ic rfl ?_
  refine r_addI rfl ?_
  refine r_pf4 rfl (w_c_ne (by omega) (by omega) o1) rfl rfl rfl (Or.inl rfl) ?_
  refine r_ic rfl ?_
  refine r_reti rfl rfl ?_
  refine ⟨rfl, (z_ev.wc ⟨by omega, by omega⟩ ⟨by omega, by omega⟩).tr (.set ⟨by omega, by omega⟩), ha60, ⟨z_gs (w_c_ne (by omega) (by omega) o1), ⟨hW1, hW2⟩, ⟨hH1, hH2⟩, ⟨hL1, hL2⟩, hn4⟩, _, kR.upd (by omega) (fun k _ _ _ => by omega), fun k hk => ?_⟩
  dsimp only
  by_cases e : k = n
  · subst e
    rw [if_pos rfl, if_pos rfl]
    exact ⟨hok0, hrep.alk z_alk_cpy hok0.2.1.2⟩
  · rw [if_neg e, if_neg e]
    exact hk9 k (by omega)
end CW
