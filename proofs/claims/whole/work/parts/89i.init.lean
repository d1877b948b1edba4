/-! CONSTRUCTORS -/
theorem z_na {M : ZM} {a N : Nat} {x y : ZE} (hl : M.length = N) (ha : a < N) : ((M ++ [x]).set a y).length = N + 1 ∧ ((M ++ [x]).set a y)[a]? = some y ∧ ((M ++ [x]).set a y)[N]? = some x ∧ ∀ k, k ≠ a → k < N → ((M ++ [x]).set a y)[k]? = M[k]? := by
  subst hl
  refine ⟨by rw [List.length_set, List.length_append]; rfl, ?_, ?_, fun k h1 h2 => ?_⟩
  · rw [List.getElem?_set_self (by rw [List.length_append]; show a < M.length + 1; omega)]
  · rw [List.getElem?_set_ne (by omega), List.getElem?_append_right (Nat.le_refl _), Nat.sub_self]
    rfl
  · rw [List.getElem?_set_ne (by omega), List.getElem?_append_left h2]
theorem z_ap {M : ZM} {N : Nat} {x : ZE} (hl : M.length = N) : (M ++ [x]).length = N + 1 ∧ (M ++ [x])[N]? = some x ∧ ∀ k, k < N → (M ++ [x])[k]? = M[k]? := by
  subst hl
  refine ⟨by rw [List.length_append]; rfl, ?_, fun k h2 => List.getElem?_append_left h2⟩
  rw [List.getElem?_append_right (Nat.le_refl _), Nat.sub_self]
  rfl
section CO
variable {S : ZS} {d y pc nx : Nat} {ls : ZL} {st : List Value} {M : ZM} {Q : Option Value → ZM → Prop}
theorem z_nac {n : Int} {M : ZM} (h0 : 0 ≤ n ∧ n ≤ 5000) (hN : M.length < 900) : ¬ ((decide (zI n < 0) || decide (5000 < (zI n).toNatClampNeg) || decide (900 ≤ M.length)) = true) := by
  rw [Bool.or_eq_true, Bool.or_eq_true, decide_eq_true_iff, decide_eq_true_iff, decide_eq_true_iff, ← zI_0, zI_lt ⟨by omega, by omega⟩ ⟨by omega, by omega⟩, zI_cl ⟨by omega, by omega⟩]
  omega

theorem r_naI {n : Int} {N : Nat} (hc : z_code y pc = some (nx, .newarray .int)) (hl : M.length = N) (hN : N < 900) (h0 : 0 ≤ n ∧ n ≤ 5000) (k : z_R S d y nx ls (.ref N :: st) (M ++ [.inr (0, n.toNat, .inl (fun _ => 0))]) Q) : z_R S d y pc ls (.int (zI n) :: st) M Q := by
  obtain ⟨r, M', k, hq⟩ := k
  subst hl
  refine ⟨r, M', g_step hc ?_ k, hq⟩
  simp only [z_stp]
  rw [if_neg (z_nac h0 hN), zI_cl ⟨by omega, by omega⟩]
theorem r_naB {n : Int} {N : Nat} (hc : z_code y pc = some (nx, .newarray .byte)) (hl : M.length = N) (hN : N < 900) (h0 : 0 ≤ n ∧ n ≤ 5000) (k : z_R S d y nx ls (.ref N :: st) (M ++ [.inr (1, n.toNat, .inl (fun _ => 0))]) Q) : z_R S d y pc ls (.int (zI n) :: st) M Q := by
  obtain ⟨r, M', k, hq⟩ := k
  subst hl
  refine ⟨r, M', g_step hc ?_ k, hq⟩
  simp only [z_stp]
  rw [if_neg (z_nac h0 hN), zI_cl ⟨by omega, by omega⟩]
theorem r_naZ {n : Int} {N : Nat} (hc : z_code y pc = some (nx, .newarray .boolean)) (hl : M.length = N) (hN : N < 900) (h0 : 0 ≤ n ∧ n ≤ 5000) (k : z_R S d y nx ls (.ref N :: st) (M ++ [.inr (2, n.toNat, .inl (fun _ => 0))]) Q) : z_R S d y pc ls (.int (zI n) :: st) M Q := by
  obtain ⟨r, M', k, hq⟩ := k
  subst hl
  refine ⟨r, M', g_step hc ?_ k, hq⟩
  simp only [z_stp]
  rw [if_neg (z_nac h0 hN), zI_cl ⟨by omega, by omega⟩]
theorem r_naJ {n : Int} {N : Nat} (hc : z_code y pc = some (nx, .newarray .long)) (hl : M.length = N) (hN : N < 900) (h0 : 0 ≤ n ∧ n ≤ 5000) (k : z_R S d y nx ls (.ref N :: st) (M ++ [.inr (3, n.toNat, .inr (.inl (fun _ => 0)))]) Q) : z_R S d y pc ls (.int (zI n) :: st) M Q := by
  obtain ⟨r, M', k, hq⟩ := k
  subst hl
  refine ⟨r, M', g_step hc ?_ k, hq⟩
  simp only [z_stp]
  rw [if_neg (z_nac h0 hN), zI_cl ⟨by omega, by omega⟩]
theorem r_nr4 {n : Int} {N : Nat} (hc : z_code y pc = some (nx, .anewarray 4)) (hl : M.length = N) (hN : N < 900) (h0 : 0 ≤ n ∧ n ≤ 5000) (k : z_R S d y nx ls (.ref N :: st) (M ++ [.inr (4, n.toNat, .inr (.inr (fun _ => none)))]) Q) : z_R S d y pc ls (.int (zI n) :: st) M Q := by
  obtain ⟨r, M', k, hq⟩ := k
  subst hl
  refine ⟨r, M', g_step hc ?_ k, hq⟩
  simp only [z_stp]
  rw [if_neg (z_nac h0 hN), zI_cl ⟨by omega, by omega⟩]
theorem r_aT4 {a x n : Nat} {f : Nat → Option Nat} {i : Int} {fs : List Value} (hc : z_code y pc = some (nx, .aastore)) (hM : M[a]? = some (.inr (4, n, .inr (.inr f)))) (hx : M[x]? = some (.inl (0, fs))) (h0 : 0 ≤ i) (hn : i < n) (hs : i ≤ 1000000000) (k : z_R S d y nx ls st (M.set a (.inr (4, n, .inr (.inr (va_up f i.toNat (some x)))))) Q) : z_R S d y pc ls (.ref x :: .int (zI i) :: .ref a :: st) M Q := by
  obtain ⟨r, M', k, hq⟩ := k
  refine ⟨r, M', g_step hc ?_ k, hq⟩
  simp only [z_stp]
  rw [hM, hx]
  show (if z_in (zI i) n = true then _ else _) = _
  rw [if_pos (zI_in h0 hn hs), zI_cl ⟨by omega, by omega⟩]
theorem r_nr5 {n : Int} {N : Nat} (hc : z_code y pc = some (nx, .anewarray 5)) (hl : M.length = N) (hN : N < 900) (h0 : 0 ≤ n ∧ n ≤ 5000) (k : z_R S d y nx ls (.ref N :: st) (M ++ [.inr (5, n.toNat, .inr (.inr (fun _ => none)))]) Q) : z_R S d y pc ls (.int (zI n) :: st) M Q := by
  obtain ⟨r, M', k, hq⟩ := k
  subst hl
  refine ⟨r, M', g_step hc ?_ k, hq⟩
  simp only [z_stp]
  rw [if_neg (z_nac h0 hN), zI_cl ⟨by omega, by omega⟩]
theorem r_aT5 {a x n : Nat} {f : Nat → Option Nat} {i : Int} {fs : List Value} (hc : z_code y pc = some (nx, .aastore)) (hM : M[a]? = some (.inr (5, n, .inr (.inr f)))) (hx : M[x]? = some (.inl (2, fs))) (h0 : 0 ≤ i) (hn : i < n) (hs : i ≤ 1000000000) (k : z_R S d y nx ls st (M.set a (.inr (5, n, .inr (.inr (va_up f i.toNat (some x)))))) Q) : z_R S d y pc ls (.ref x :: .int (zI i) :: .ref a :: st) M Q := by
  obtain ⟨r, M', k, hq⟩ := k
  refine ⟨r, M', g_step hc ?_ k, hq⟩
  simp only [z_stp]
  rw [hM, hx]
  show (if z_in (zI i) n = true then _ else _) = _
  rw [if_pos (zI_in h0 hn hs), zI_cl ⟨by omega, by omega⟩]
theorem r_new {ci N : Nat} {fs : List Value} (hc : z_code y pc = some (nx, .new ci)) (hl : M.length = N) (h : ci < 7 ∧ N < 900) (hf : (List.range (z_cls ci).2.2).map (fun k => z_dfl (z_fty ci k)) = fs) (k : z_R S d y nx ls (.ref N :: st) (M ++ [.inl (ci, fs)]) Q) : z_R S d y pc ls st M Q := by
  obtain ⟨r, M', k, hq⟩ := k
  subst hl
  subst hf
  refine ⟨r, M', g_step hc ?_ k, hq⟩
  simp only [z_stp]
  rw [if_pos h]
end CO
section CP
variable {S : ZS} {d : Nat} {M : ZM}
theorem c_iC {c N : Nat} {x1 x2 x3 x4 : Int32} (h : M[c]? = some (.inl (0, [.int x1, .int x2, .int x3, .int x4, .null]))) (hl : M.length = N) (hc : c < N) (hN : N < 900) : ∃ M', z_C S d 0 [.ref c] M none M' ∧ M'.length = N + 1 ∧ M'[c]? = some (.inl (0, [.int x1, .int x2, .int x3, .int x4, .ref N])) ∧ M'[N]? = some (zA 12 (fun _ => 0)) ∧ ∀ k, k ≠ c → k < N → M'[k]? = M[k]? := by
  refine k_an ?_
  refine k_of rfl rfl (Nat.le_of_ble_eq_true rfl) ?_
  refine r_al rfl rfl ?_
  refine r_obj rfl rfl ?_
  refine r_al rfl rfl ?_
  refine r_ic rfl ?_
  refine r_naI rfl hl (by omega) ⟨by decide, by decide⟩ ?_
  refine r_pf4 rfl (((z_ap hl).2.2 c hc).trans h) rfl rfl rfl (Or.inr rfl) ?_
  refine r_retv rfl rfl ?_
  obtain ⟨l1, o1, n1, f1⟩ := z_na (x := zA 12 (fun _ => 0)) (y := .inl (0, [.int x1, .int x2, .int x3, .int x4, .ref N])) hl hc
  exact ⟨rfl, l1, o1, n1, f1⟩
theorem c_iS_l {a : Nat} (ha : a < 100) {Q : Option Value → ZM → Prop} (hx : ∀ (M1 : ZM) (x1 : Option Value), (M1.length = a + 2 + 2 * 4 ∧ M1[a]? = some (.inl (2, [.int (zI 0), .int (zI 0), .int (zI 0), .int (zI 0), .int (zI 0), .int (zI 0), .ref (a + 1)])) ∧ (∃ cf : Nat → Option Nat, M1[a + 1]? = some (.inr (4, 4, .inr (.inr cf))) ∧ ∀ k, k < 4 → cf k = some (a + 2 + 2 * k)) ∧ (∀ k, k < 4 → k_c M1 (a + 2 + 2 * k) (zI 0, zI 0, zI 0, zI 0, fun _ => 0)) ∧ ∀ k, k < a → M1[k]? = M[k]?) → z_R S (d + 1) 30 38 [some (.ref a), x1] [] M1 Q) : ∀ (m i : Nat) (M1 : ZM), i + m = 4 → (M1.length = a + 2 + 2 * i ∧ M1[a]? = some (.inl (2, [.int (zI 0), .int (zI 0), .int (zI 0), .int (zI 0), .int (zI 0), .int (zI 0), .ref (a + 1)])) ∧ (∃ cf : Nat → Option Nat, M1[a + 1]? = some (.inr (4, 4, .inr (.inr cf))) ∧ ∀ k, k < i → cf k = some (a + 2 + 2 * k)) ∧ (∀ k, k < i → k_c M1 (a + 2 + 2 * k) (zI 0, zI 0, zI 0, zI 0, fun _ => 0)) ∧ ∀ k, k < a → M1[k]? = M[k]?) → z_R S (d + 1) 30 14 [some (.ref a), some (.int (zI (i : Int)))] [] M1 Q := by
  intro m
  induction m with
  | zero =>
    intro i M1 hi hI
    obtain ⟨h0, h1, ⟨cf, h2, h3⟩, h4, h5⟩ := hI
    refine r_il rfl rfl ?_
    refine r_ic rfl ?_
    refine r_icT rfl (zcT3 ⟨by omega, by omega⟩ ⟨by omega, by omega⟩ (by omega)) ?_
    obtain rfl : i = 4 := by omega
    exact hx M1 _ ⟨h0, h1, ⟨cf, h2, h3⟩, h4, h5⟩
  | succ m ih =>
    intro i M1 hi hI
    obtain ⟨h0, h1, ⟨cf, h2, h3⟩, h4, h5⟩ := hI
    refine r_il rfl rfl ?_
    refine r_ic rfl ?_
    refine r_icF rfl (zcF3 ⟨by omega, by omega⟩ ⟨by omega, by omega⟩ (by omega)) ?_
    refine r_al rfl rfl ?_
    refine r_gf rfl h1 rfl rfl ?_
    refine r_il rfl rfl ?_
    refine r_new (fs := [.int 0, .int 0, .int 0, .int 0, .null]) rfl h0 ⟨by decide, by omega⟩ rfl ?_
    obtain ⟨p1, p2, p3⟩ := z_ap (x := .inl (0, [.int 0, .int 0, .int 0, .int 0, .null])) h0
    obtain ⟨M2, k2, q1, q2, q3, q4⟩ := c_iC (S := S) (d := d) p2 p1 (by omega) (by omega)
    refine r_dupA rfl ?_
    refine r_cx0v rfl rfl rfl rfl rfl (k2) ?_
    refine r_aT4 rfl ((q4 _ (by omega) (by omega)).trans ((p3 _ (by omega)).trans h2)) q2 (by omega) (by omega) (by omega) ?_
    refine r_jj1 rfl rfl ?_
    refine r_goto rfl ?_
    have kk : ∀ k, k ≠ a + 1 → k < a + 2 + 2 * i → (M2.set (a + 1) (.inr (4, 4, .inr (.inr (va_up cf (i : Int).toNat (some (a + 2 + 2 * i)))))))[k]? = M1[k]? := fun k g1 g2 => z_gn (by omega) ((q4 k (by omega) (by omega)).trans (p3 k (by omega)))
    refine ih (i + 1) _ (by omega) ⟨by rw [List.length_set, q1]; omega, (kk a (by omega) (by omega)).trans h1, ⟨_, z_gs ((q4 _ (by omega) (by omega)).trans ((p3 _ (by omega)).trans h2)), fun k hk => ?_⟩, fun k hk => ?_, fun k hk => (kk k (by omega) (by omega)).trans (h5 k hk)⟩
    · rw [Int.toNat_natCast]
      by_cases e9 : k = i
      · subst e9
        exact if_pos rfl
      · exact (if_neg e9).trans (h3 k (by omega))
    · by_cases e9 : k = i
      · subst e9
        exact ⟨z_gn (by omega) q2, z_gn (by omega) q3⟩
      · obtain ⟨u1, u2⟩ := h4 k (by omega)
        exact ⟨(kk _ (by omega) (by omega)).trans u1, (kk _ (by omega) (by omega)).trans u2⟩
theorem c_bAn {a : Nat} {x0 x1 x2 x3 x4 x5 : Int32} {x6 : Value} (h : M[a]? = some (.inl (2, [.int x0, .int x1, .int x2, .int x3, .int x4, .int x5, x6]))) : z_C S d 31 [.ref a] M none (M.set a (.inl (2, [.int (zI 5), .int (zI 5), .int (zI 1), .int (zI 0), .int (zI 0), .int x5, x6]))) := by
  refine c_of rfl rfl (Nat.le_of_ble_eq_true rfl) ?_
  refine g_al rfl rfl ?_
  refine g_ic rfl ?_
  refine g_pf0 rfl h rfl rfl rfl (Or.inl rfl) ?_
  refine g_al rfl rfl ?_
  refine g_ic rfl ?_
  refine g_pf1 rfl (z_gs h) rfl rfl rfl (Or.inl rfl) ?_
  rw [List.set_set]
  refine g_al rfl rfl ?_
  refine g_ic rfl ?_
  refine g_pf2 rfl (z_gs h) rfl rfl rfl (Or.inl rfl) ?_
  rw [List.set_set]
  refine g_al rfl rfl ?_
  refine g_ic rfl ?_
  refine g_pf3 rfl (z_gs h) rfl rfl rfl (Or.inl rfl) ?_
  rw [List.set_set]
  refine g_al rfl rfl ?_
  refine g_ic rfl ?_
  refine g_pf4 rfl (z_gs h) rfl rfl rfl (Or.inl rfl) ?_
  rw [List.set_set]
  exact g_retv rfl (rfl) rfl
theorem c_iS {a : Nat} (ha : a < 100) (hl : M.length = a + 1) (h : M[a]? = some (.inl (2, [.int (zI 0), .int (zI 0), .int (zI 0), .int (zI 0), .int (zI 0), .int (zI 0), .null]))) : ∃ M', z_C S (d + 1) 30 [.ref a] M none M' ∧ M'.length = a + 10 ∧ M'[a]? = some (.inl (2, [.int (zI 5), .int (zI 5), .int (zI 1), .int (zI 0), .int (zI 0), .int (zI 1), .ref (a + 1)])) ∧ k_R M' a (fun _ => (zI 0, zI 0, zI 0, zI 0, fun _ => 0)) ∧ ∀ k, k < a → M'[k]? = M[k]? := by
  refine k_an ?_
  refine k_of rfl rfl (Nat.le_of_ble_eq_true rfl) ?_
  refine r_al rfl rfl ?_
  refine r_obj rfl rfl ?_
  refine r_al rfl rfl ?_
  refine r_ic rfl ?_
  refine r_nr4 rfl hl (by omega) ⟨by decide, by decide⟩ ?_
  refine r_pf6 rfl (((z_ap hl).2.2 a (by omega)).trans h) rfl rfl rfl (Or.inr rfl) ?_
  rw [show (4 : Int).toNat = 4 from rfl]
  obtain ⟨l1, o1, n1, f1⟩ := z_na (x := .inr (4, 4, .inr (.inr (fun _ => none)))) (y := .inl (2, [.int (zI 0), .int (zI 0), .int (zI 0), .int (zI 0), .int (zI 0), .int (zI 0), .ref (a + 1)])) hl (show a < a + 1 by omega)
  refine r_ic rfl ?_
  refine r_is1 rfl rfl ?_
  refine c_iS_l (M := M) ha (fun M1 x1 hI => ?_) 4 0 _ (by omega) ⟨by rw [l1], o1, ⟨_, n1, fun k hk => by omega⟩, fun k hk => by omega, fun k hk => f1 k (by omega) (by omega)⟩
  obtain ⟨h0, h1, h2, h4, h5⟩ := hI
  refine r_al rfl rfl ?_
  refine r_ic rfl ?_
  refine r_pf5 rfl h1 rfl rfl rfl (Or.inl rfl) ?_
  refine r_al rfl rfl ?_
  refine r_cv0v rfl rfl (z_gs h1) rfl (by decide) rfl (c_bAn (z_gs h1)) ?_
  rw [List.set_set]
  refine r_retv rfl rfl ?_
  obtain ⟨cf, g2, g3⟩ := h2
  refine ⟨rfl, by rw [List.length_set]; omega, z_gs h1, ⟨⟨cf, z_gn (by omega) g2, g3⟩, fun k hk => ⟨z_gn (by omega) (h4 k hk).1, z_gn (by omega) (h4 k hk).2⟩⟩, fun k hk => z_gn (by omega) (h5 k hk)⟩
theorem c_iW (hl : M.length = 26) (h : M[25]? = some (.inl (3, [.null, .int (zI 0), .int (zI 0), .null, .null, .null, .null, .null, .null]))) : ∃ M', z_C S d 46 [.ref 25] M none M' ∧ M'.length = 33 ∧ x_W M' ∧ ∀ k, k < 25 → M'[k]? = M[k]? := by
  refine k_an ?_
  refine k_of rfl rfl (Nat.le_of_ble_eq_true rfl) ?_
  refine r_al rfl rfl ?_
  refine r_obj rfl rfl ?_
  refine r_al rfl rfl ?_
  refine r_ic rfl ?_
  refine r_naI rfl hl (by decide) ⟨by decide, by decide⟩ ?_
  rw [show (60 : Int).toNat = 60 from rfl]
  refine r_pf0 rfl (((z_ap hl).2.2 25 (by decide)).trans h) rfl rfl rfl (Or.inr rfl) ?_
  obtain ⟨l0, o0, n0, f0⟩ := z_na (x := .inr (0, 60, .inl (fun _ => 0))) (y := .inl (3, [.ref 26, .int (zI 0), .int (zI 0), .null, .null, .null, .null, .null, .null])) hl (show 25 < 26 by decide)
  generalize hg0 : (M ++ [(.inr (0, 60, .inl (fun _ => 0)) : ZE)]).set 25 (.inl (3, [.ref 26, .int (zI 0), .int (zI 0), .null, .null, .null, .null, .null, .null]) : ZE) = M0 at *
  refine r_al rfl rfl ?_
  refine r_ic rfl ?_
  refine r_naI rfl l0 (by decide) ⟨by decide, by decide⟩ ?_
  rw [show (100 : Int).toNat = 100 from rfl]
  refine r_pf3 rfl (((z_ap l0).2.2 25 (by decide)).trans o0) rfl rfl rfl (Or.inr rfl) ?_
  obtain ⟨l1, o1, n1, f1⟩ := z_na (x := .inr (0, 100, .inl (fun _ => 0))) (y := .inl (3, [.ref 26, .int (zI 0), .int (zI 0), .ref 27, .null, .null, .null, .null, .null])) l0 (show 25 < 27 by decide)
  generalize hg1 : (M0 ++ [(.inr (0, 100, .inl (fun _ => 0)) : ZE)]).set 25 (.inl (3, [.ref 26, .int (zI 0), .int (zI 0), .ref 27, .null, .null, .null, .null, .null]) : ZE) = M1 at *
  refine r_al rfl rfl ?_
  refine r_ic rfl ?_
  refine r_naI rfl l1 (by decide) ⟨by decide, by decide⟩ ?_
  rw [show (325 : Int).toNat = 325 from rfl]
  refine r_pf4 rfl (((z_ap l1).2.2 25 (by decide)).trans o1) rfl rfl rfl (Or.inr rfl) ?_
  obtain ⟨l2, o2, n2, f2⟩ := z_na (x := .inr (0, 325, .inl (fun _ => 0))) (y := .inl (3, [.ref 26, .int (zI 0), .int (zI 0), .ref 27, .ref 28, .null, .null, .null, .null])) l1 (show 25 < 28 by decide)
  generalize hg2 : (M1 ++ [(.inr (0, 325, .inl (fun _ => 0)) : ZE)]).set 25 (.inl (3, [.ref 26, .int (zI 0), .int (zI 0), .ref 27, .ref 28, .null, .null, .null, .null]) : ZE) = M2 at *
  refine r_al rfl rfl ?_
  refine r_ic rfl ?_
  refine r_naI rfl l2 (by decide) ⟨by decide, by decide⟩ ?_
  rw [show (325 : Int).toNat = 325 from rfl]
  refine r_pf5 rfl (((z_ap l2).2.2 25 (by decide)).trans o2) rfl rfl rfl (Or.inr rfl) ?_
  obtain ⟨l3, o3, n3, f3⟩ := z_na (x := .inr (0, 325, .inl (fun _ => 0))) (y := .inl (3, [.ref 26, .int (zI 0), .int (zI 0), .ref 27, .ref 28, .ref 29, .null, .null, .null])) l2 (show 25 < 29 by decide)
  generalize hg3 : (M2 ++ [(.inr (0, 325, .inl (fun _ => 0)) : ZE)]).set 25 (.inl (3, [.ref 26, .int (zI 0), .int (zI 0), .ref 27, .ref 28, .ref 29, .null, .null, .null]) : ZE) = M3 at *
  refine r_al rfl rfl ?_
  refine r_ic rfl ?_
  refine r_naJ rfl l3 (by decide) ⟨by decide, by decide⟩ ?_
  rw [show (325 : Int).toNat = 325 from rfl]
  refine r_pf6 rfl (((z_ap l3).2.2 25 (by decide)).trans o3) rfl rfl rfl (Or.inr rfl) ?_
  obtain ⟨l4, o4, n4, f4⟩ := z_na (x := .inr (3, 325, .inr (.inl (fun _ => 0)))) (y := .inl (3, [.ref 26, .int (zI 0), .int (zI 0), .ref 27, .ref 28, .ref 29, .ref 30, .null, .null])) l3 (show 25 < 30 by decide)
  generalize hg4 : (M3 ++ [(.inr (3, 325, .inr (.inl (fun _ => 0))) : ZE)]).set 25 (.inl (3, [.ref 26, .int (zI 0), .int (zI 0), .ref 27, .ref 28, .ref 29, .ref 30, .null, .null]) : ZE) = M4 at *
  refine r_al rfl rfl ?_
  refine r_ic rfl ?_
  refine r_naJ rfl l4 (by decide) ⟨by decide, by decide⟩ ?_
  rw [show (325 : Int).toNat = 325 from rfl]
  refine r_pf7 rfl (((z_ap l4).2.2 25 (by decide)).trans o4) rfl rfl rfl (Or.inr rfl) ?_
  obtain ⟨l5, o5, n5, f5⟩ := z_na (x := .inr (3, 325, .inr (.inl (fun _ => 0)))) (y := .inl (3, [.ref 26, .int (zI 0), .int (zI 0), .ref 27, .ref 28, .ref 29, .ref 30, .ref 31, .null])) l4 (show 25 < 31 by decide)
  generalize hg5 : (M4 ++ [(.inr (3, 325, .inr (.inl (fun _ => 0))) : ZE)]).set 25 (.inl (3, [.ref 26, .int (zI 0), .int (zI 0), .ref 27, .ref 28, .ref 29, .ref 30, .ref 31, .null]) : ZE) = M5 at *
  refine r_al rfl rfl ?_
  refine r_ic rfl ?_
  refine r_naI rfl l5 (by decide) ⟨by decide, by decide⟩ ?_
  rw [show (4225 : Int).toNat = 4225 from rfl]
  refine r_pf8 rfl (((z_ap l5).2.2 25 (by decide)).trans o5) rfl rfl rfl (Or.inr rfl) ?_
  obtain ⟨l6, o6, n6, f6⟩ := z_na (x := .inr (0, 4225, .inl (fun _ => 0))) (y := .inl (3, [.ref 26, .int (zI 0), .int (zI 0), .ref 27, .ref 28, .ref 29, .ref 30, .ref 31, .ref 32])) l5 (show 25 < 32 by decide)
  generalize hg6 : (M5 ++ [(.inr (0, 4225, .inl (fun _ => 0)) : ZE)]).set 25 (.inl (3, [.ref 26, .int (zI 0), .int (zI 0), .ref 27, .ref 28, .ref 29, .ref 30, .ref 31, .ref 32]) : ZE) = M6 at *
  refine r_retv rfl rfl ?_
  exact ⟨rfl, l6, ⟨⟨_, _, o6⟩, ⟨_, ((f6 26 (by decide) (by decide)).trans ((f5 26 (by decide) (by decide)).trans ((f4 26 (by decide) (by decide)).trans ((f3 26 (by decide) (by decide)).trans ((f2 26 (by decide) (by decide)).trans ((f1 26 (by decide) (by decide)).trans n0))))))⟩, ⟨_, ((f6 27 (by decide) (by decide)).trans ((f5 27 (by decide) (by decide)).trans ((f4 27 (by decide) (by decide)).trans ((f3 27 (by decide) (by decide)).trans ((f2 27 (by decide) (by decide)).trans n1)))))⟩, ⟨_, ((f6 28 (by decide) (by decide)).trans ((f5 28 (by decide) (by decide)).trans ((f4 28 (by decide) (by decide)).trans ((f3 28 (by decide) (by decide)).trans n2))))⟩, ⟨_, ((f6 29 (by decide) (by decide)).trans ((f5 29 (by decide) (by decide)).trans ((f4 29 (by decide) (by decide)).trans n3)))⟩, ⟨_, ((f6 30 (by decide) (by decide)).trans ((f5 30 (by decide) (by decide)).trans n4))⟩, ⟨_, ((f6 31 (by decide) (by decide)).trans n5)⟩, _, n6⟩, fun k hk => ((f6 k (by omega) (by omega)).trans ((f5 k (by omega) (by omega)).trans ((f4 k (by omega) (by omega)).trans ((f3 k (by omega) (by omega)).trans ((f2 k (by omega) (by omega)).trans ((f1 k (by omega) (by omega)).trans (f0 k (by omega) (by omega))))))))⟩
theorem c_iV (hl : M.length = 34) (h : M[33]? = some (.inl (4, [.null, .null, .null, .int (zI 0), .int (zI 0), .int (zI 0), .int (zI 0), .int (zI 0), .null, .int (zI 0)]))) : ∃ M', z_C S d 58 [.ref 33] M none M' ∧ M'.length = 38 ∧ x_V M' ∧ ∀ k, k < 33 → M'[k]? = M[k]? := by
  refine k_an ?_
  refine k_of rfl rfl (Nat.le_of_ble_eq_true rfl) ?_
  refine r_al rfl rfl ?_
  refine r_obj rfl rfl ?_
  refine r_al rfl rfl ?_
  refine r_ic rfl ?_
  refine r_naI rfl hl (by decide) ⟨by decide, by decide⟩ ?_
  rw [show (30 : Int).toNat = 30 from rfl]
  refine r_pf0 rfl (((z_ap hl).2.2 33 (by decide)).trans h) rfl rfl rfl (Or.inr rfl) ?_
  obtain ⟨l0, o0, n0, f0⟩ := z_na (x := .inr (0, 30, .inl (fun _ => 0))) (y := .inl (4, [.ref 34, .null, .null, .int (zI 0), .int (zI 0), .int (zI 0), .int (zI 0), .int (zI 0), .null, .int (zI 0)])) hl (show 33 < 34 by decide)
  generalize hg0 : (M ++ [(.inr (0, 30, .inl (fun _ => 0)) : ZE)]).set 33 (.inl (4, [.ref 34, .null, .null, .int (zI 0), .int (zI 0), .int (zI 0), .int (zI 0), .int (zI 0), .null, .int (zI 0)]) : ZE) = M0 at *
  refine r_al rfl rfl ?_
  refine r_ic rfl ?_
  refine r_naI rfl l0 (by decide) ⟨by decide, by decide⟩ ?_
  rw [show (30 : Int).toNat = 30 from rfl]
  refine r_pf1 rfl (((z_ap l0).2.2 33 (by decide)).trans o0) rfl rfl rfl (Or.inr rfl) ?_
  obtain ⟨l1, o1, n1, f1⟩ := z_na (x := .inr (0, 30, .inl (fun _ => 0))) (y := .inl (4, [.ref 34, .ref 35, .null, .int (zI 0), .int (zI 0), .int (zI 0), .int (zI 0), .int (zI 0), .null, .int (zI 0)])) l0 (show 33 < 35 by decide)
  generalize hg1 : (M0 ++ [(.inr (0, 30, .inl (fun _ => 0)) : ZE)]).set 33 (.inl (4, [.ref 34, .ref 35, .null, .int (zI 0), .int (zI 0), .int (zI 0), .int (zI 0), .int (zI 0), .null, .int (zI 0)]) : ZE) = M1 at *
  refine r_al rfl rfl ?_
  refine r_ic rfl ?_
  refine r_naI rfl l1 (by decide) ⟨by decide, by decide⟩ ?_
  rw [show (3 : Int).toNat = 3 from rfl]
  refine r_pf2 rfl (((z_ap l1).2.2 33 (by decide)).trans o1) rfl rfl rfl (Or.inr rfl) ?_
  obtain ⟨l2, o2, n2, f2⟩ := z_na (x := .inr (0, 3, .inl (fun _ => 0))) (y := .inl (4, [.ref 34, .ref 35, .ref 36, .int (zI 0), .int (zI 0), .int (zI 0), .int (zI 0), .int (zI 0), .null, .int (zI 0)])) l1 (show 33 < 36 by decide)
  generalize hg2 : (M1 ++ [(.inr (0, 3, .inl (fun _ => 0)) : ZE)]).set 33 (.inl (4, [.ref 34, .ref 35, .ref 36, .int (zI 0), .int (zI 0), .int (zI 0), .int (zI 0), .int (zI 0), .null, .int (zI 0)]) : ZE) = M2 at *
  refine r_al rfl rfl ?_
  refine r_ic rfl ?_
  refine r_naI rfl l2 (by decide) ⟨by decide, by decide⟩ ?_
  rw [show (40 : Int).toNat = 40 from rfl]
  refine r_pf8 rfl (((z_ap l2).2.2 33 (by decide)).trans o2) rfl rfl rfl (Or.inr rfl) ?_
  obtain ⟨l3, o3, n3, f3⟩ := z_na (x := .inr (0, 40, .inl (fun _ => 0))) (y := .inl (4, [.ref 34, .ref 35, .ref 36, .int (zI 0), .int (zI 0), .int (zI 0), .int (zI 0), .int (zI 0), .ref 37, .int (zI 0)])) l2 (show 33 < 37 by decide)
  generalize hg3 : (M2 ++ [(.inr (0, 40, .inl (fun _ => 0)) : ZE)]).set 33 (.inl (4, [.ref 34, .ref 35, .ref 36, .int (zI 0), .int (zI 0), .int (zI 0), .int (zI 0), .int (zI 0), .ref 37, .int (zI 0)]) : ZE) = M3 at *
  refine r_retv rfl rfl ?_
  exact ⟨rfl, l3, ⟨⟨_, _, _, _, _, _, o3⟩, ⟨_, ((f3 34 (by decide) (by decide)).trans ((f2 34 (by decide) (by decide)).trans ((f1 34 (by decide) (by decide)).trans n0)))⟩, ⟨_, ((f3 35 (by decide) (by decide)).trans ((f2 35 (by decide) (by decide)).trans n1))⟩, ⟨_, ((f3 36 (by decide) (by decide)).trans n2)⟩, _, n3⟩, fun k hk => ((f3 k (by omega) (by omega)).trans ((f2 k (by omega) (by omega)).trans ((f1 k (by omega) (by omega)).trans (f0 k (by omega) (by omega)))))⟩
end CP
