/-! Chain's methods that read -/
/-- a Chain's cell, its row of steps, and what they say -/
def k_C (M : ZM) (c sa : Nat) (f la : Int) (N : Nat) (cs : Int32) (g : Nat → Int32) (s : Nat → Int) : Prop :=
  M[c]? = some (.inl (0, [.int (zI f), .int (zI la), .int (zI (N : Int)), .int cs, .ref sa])) ∧ M[sa]? = some (.inr (0, 12, .inl g)) ∧ N ≤ 12 ∧ sa ≠ 1000 ∧ ∀ j : Nat, j < N → g j = zI (s j) ∧ 0 ≤ s j ∧ s j ≤ 3
section CH
variable {S : ZS} {d : Nat} {M : ZM} {c sa : Nat} {f la : Int} {N : Nat} {cs : Int32} {g : Nat → Int32} {s : Nat → Int}
theorem c_stepAt (h : k_C M c sa f la N cs g s) {i : Int} (h0 : 0 ≤ i) (hn : i < N) : z_C S d 3 [.ref c, .int (zI i)] M (some (.int (zI (s i.toNat)))) M := by
  obtain ⟨h1, h2, h3, h4, h5⟩ := h
  refine c_of rfl rfl (Nat.le_of_ble_eq_true rfl) ?_
  refine g_il rfl rfl ?_
  refine g_ifF rfl (zcF2 ⟨by omega, by omega⟩ ⟨by omega, by omega⟩ (by omega)) ?_
  refine g_il rfl rfl ?_
  refine g_al rfl rfl ?_
  refine g_gf rfl h1 rfl rfl ?_
  refine g_icF rfl (zcF3 ⟨by omega, by omega⟩ ⟨by omega, by omega⟩ (by omega)) ?_
  refine g_il rfl rfl ?_
  refine g_ic rfl ?_
  refine g_icF rfl (zcF3 ⟨by omega, by omega⟩ ⟨by omega, by omega⟩ (by omega)) ?_
  refine g_al rfl rfl ?_
  refine g_gf rfl h1 rfl rfl ?_
  refine g_il rfl rfl ?_
  refine g_iaI rfl (by omega) h2 (by omega) (by omega) (by omega) ?_
  rw [(h5 i.toNat (by omega)).1]
  refine g_goto rfl ?_
  exact g_reti rfl (rfl) rfl
theorem c_stepAtN (h : k_C M c sa f la N cs g s) {i : Int} (h8 : z_sm i) (hn : i < 0 ∨ (N : Int) ≤ i) : z_C S d 3 [.ref c, .int (zI i)] M (some (.int (zI (-1)))) M := by
  obtain ⟨h1, h2, h3, h4, h5⟩ := h
  refine c_of rfl rfl (Nat.le_of_ble_eq_true rfl) ?_
  refine g_il rfl rfl ?_
  by_cases h0 : i < 0
  · refine g_ifT rfl (zcT2 ⟨by omega, by omega⟩ ⟨by omega, by omega⟩ (h0)) ?_
    refine g_ic rfl ?_
    exact g_reti rfl (rfl) rfl
  · refine g_ifF rfl (zcF2 ⟨by omega, by omega⟩ ⟨by omega, by omega⟩ (h0)) ?_
    refine g_il rfl rfl ?_
    refine g_al rfl rfl ?_
    refine g_gf rfl h1 rfl rfl ?_
    refine g_icT rfl (zcT3 ⟨by omega, by omega⟩ ⟨by omega, by omega⟩ (by omega)) ?_
    refine g_ic rfl ?_
    exact g_reti rfl (rfl) rfl
theorem c_runUpTo_l (h : k_C M c sa f la N cs g s) {i : Nat} (hi : i < N) : ∀ (j : Nat) (run : Int), j ≤ i → 0 ≤ run ∧ run ≤ 100 - (j : Int) → z_G S (d + 1) 5 4 [some (.ref c), some (.int (zI (i : Int))), some (.int (zI run)), some (.int (zI (j : Int)))] [] M (some (.int (zI (run + (p_back s (s i) j : Int))))) M := by
  obtain ⟨h1, h2, h3, h4, h5⟩ := id h
  intro j
  induction j with
  | zero =>
    intro run hj hr
    refine g_il rfl rfl ?_
    refine g_ifT rfl (zcT5 ⟨by omega, by omega⟩ ⟨by omega, by omega⟩ (by omega)) ?_
    refine g_il rfl rfl ?_
    exact g_reti rfl (by rw [show p_back s (s i) 0 = 0 from rfl]; simp) rfl
  | succ j ih =>
    intro run hj hr
    refine g_il rfl rfl ?_
    refine g_ifF rfl (zcF5 ⟨by omega, by omega⟩ ⟨by omega, by omega⟩ (by omega)) ?_
    refine g_al rfl rfl ?_
    refine g_il rfl rfl ?_
    refine g_ic rfl ?_
    refine g_subI rfl ?_
    rw [show ((j + 1 : Nat) : Int) - 1 = (j : Int) by omega]
    refine g_cv1 rfl rfl h1 rfl (by decide) rfl (c_stepAt h (i := (j : Int)) (by omega) (by omega)) ?_
    refine g_al rfl rfl ?_
    refine g_il rfl rfl ?_
    refine g_cv1 rfl rfl h1 rfl (by decide) rfl (c_stepAt h (i := (i : Int)) (by omega) (by omega)) ?_
    rw [Int.toNat_natCast, Int.toNat_natCast]
    have e1 := (h5 j (by omega)).2
    have e2 := (h5 i hi).2
    by_cases he : s j = s i
    · refine g_icF rfl (zcF1 (he)) ?_
      refine g_jj2 rfl rfl ?_
      refine g_jj3 rfl rfl ?_
      refine g_goto rfl ?_
      rw [show ((j + 1 : Nat) : Int) + (-1) = (j : Int) by omega]
      have e3 := ih (run + 1) (by omega) (by omega)
      unfold p_back
      rw [if_pos he]
      rw [show run + ((p_back s (s i) j + 1 : Nat) : Int) = run + 1 + (p_back s (s i) j : Int) by omega]
      exact e3
    · refine g_icT rfl (zcT1 ⟨by omega, by omega⟩ ⟨by omega, by omega⟩ (he)) ?_
      refine g_il rfl rfl ?_
      exact g_reti rfl (by unfold p_back; rw [if_neg he]; simp) rfl
theorem c_runUpTo (h : k_C M c sa f la N cs g s) {i : Nat} (hi : i < N) : z_C S (d + 1) 5 [.ref c, .int (zI (i : Int))] M (some (.int (zI (p_run s i : Int)))) M := by
  obtain ⟨h1, h2, h3, h4, h5⟩ := id h
  refine c_of rfl rfl (Nat.le_of_ble_eq_true rfl) ?_
  refine g_ic rfl ?_
  refine g_is2 rfl rfl ?_
  refine g_il rfl rfl ?_
  refine g_is3 rfl rfl ?_
  have e1 := c_runUpTo_l (S := S) (d := d) h hi i 1 (Nat.le_refl _) ⟨by omega, by omega⟩
  rw [show (1 : Int) + (p_back s (s i) i : Int) = ((p_run s i : Nat) : Int) by unfold p_run; omega] at e1
  exact e1
theorem c_firstRun_l (h : k_C M c sa f la N cs g s) (hN : 1 ≤ N) : ∀ (n k : Nat), N + 1 ≤ n + k ∧ k ≤ N → z_G S (d + 1) 6 2 [some (.ref c), some (.int (zI (k : Int)))] [] M (some (.int (zI (p_fr s N n k : Int)))) M := by
  obtain ⟨h1, h2, h3, h4, h5⟩ := id h
  intro n
  induction n with
  | zero => intro k hk; omega
  | succ n ih =>
    intro k hk0
    refine g_il rfl rfl ?_
    refine g_al rfl rfl ?_
    refine g_gf rfl h1 rfl rfl ?_
    by_cases hk : k < N
    · refine g_icF rfl (zcF3 ⟨by omega, by omega⟩ ⟨by omega, by omega⟩ (by omega)) ?_
      refine g_al rfl rfl ?_
      refine g_il rfl rfl ?_
      refine g_cv1 rfl rfl h1 rfl (by decide) rfl (c_stepAt h (i := (k : Int)) (by omega) (by omega)) ?_
      refine g_al rfl rfl ?_
      refine g_ic rfl ?_
      refine g_cv1 rfl rfl h1 rfl (by decide) rfl (c_stepAt h (i := 0) (by omega) (by omega)) ?_
      rw [Int.toNat_natCast, show (0 : Int).toNat = 0 from rfl]
      have e1 := (h5 k hk).2
      have e2 := (h5 0 (by omega)).2
      by_cases he : s k = s 0
      · refine g_icF rfl (zcF1 (he)) ?_
        refine g_jj1 rfl rfl ?_
        refine g_goto rfl ?_
        rw [show p_fr s N (n + 1) k = p_fr s N n (k + 1) by conv => lhs; unfold p_fr; rw [if_pos ⟨hk, he⟩]]
        exact ih (k + 1) (by omega)
      · refine g_icT rfl (zcT1 ⟨by omega, by omega⟩ ⟨by omega, by omega⟩ (he)) ?_
        refine g_il rfl rfl ?_
        exact g_reti rfl (by rw [show p_fr s N (n + 1) k = k by conv => lhs; unfold p_fr; rw [if_neg (fun g => he g.2)]]) rfl
    · refine g_icT rfl (zcT3 ⟨by omega, by omega⟩ ⟨by omega, by omega⟩ (by omega)) ?_
      refine g_il rfl rfl ?_
      exact g_reti rfl (by rw [show p_fr s N (n + 1) k = k by conv => lhs; unfold p_fr; rw [if_neg (fun g => hk g.1)]]) rfl
theorem c_firstRun (h : k_C M c sa f la N cs g s) (hN : 1 ≤ N) : z_C S (d + 1) 6 [.ref c] M (some (.int (zI (p_first s N : Int)))) M := by
  obtain ⟨h1, h2, h3, h4, h5⟩ := id h
  refine c_of rfl rfl (Nat.le_of_ble_eq_true rfl) ?_
  refine g_ic rfl ?_
  refine g_is1 rfl rfl ?_
  exact c_firstRun_l h hN N 1 (by omega)
theorem c_longestRun_l (h : k_C M c sa f la N cs g s) : ∀ (n i : Nat), i + n = N → z_G S (d + 2) 7 4 [some (.ref c), some (.int (zI (p_long s i : Int))), some (.int (zI (i : Int)))] [] M (some (.int (zI (p_long s N : Int)))) M := by
  obtain ⟨h1, h2, h3, h4, h5⟩ := id h
  intro n
  induction n with
  | zero =>
    intro i hi
    refine g_il rfl rfl ?_
    refine g_al rfl rfl ?_
    refine g_gf rfl h1 rfl rfl ?_
    refine g_icT rfl (zcT3 ⟨by omega, by omega⟩ ⟨by omega, by omega⟩ (by omega)) ?_
    refine g_il rfl rfl ?_
    exact g_reti rfl (by rw [show i = N by omega]) rfl
  | succ n ih =>
    intro i hi
    refine g_il rfl rfl ?_
    refine g_al rfl rfl ?_
    refine g_gf rfl h1 rfl rfl ?_
    refine g_icF rfl (zcF3 ⟨by omega, by omega⟩ ⟨by omega, by omega⟩ (by omega)) ?_
    refine g_il rfl rfl ?_
    refine g_al rfl rfl ?_
    refine g_il rfl rfl ?_
    refine g_cv1 rfl rfl h1 rfl (by decide) rfl (c_runUpTo h (i := i) (by omega)) ?_
    refine g_max rfl rfl ?_
    refine g_is1 rfl rfl ?_
    refine g_jj2 rfl rfl ?_
    refine g_goto rfl ?_
    have e4 := p_run_le s i
    have e5 := p_long_le s i
    have e3 := ih (i + 1) (by omega)
    rw [show (if zI (p_long s i : Int) < zI (p_run s i : Int) then zI (p_run s i : Int) else zI (p_long s i : Int)) = zI ((p_long s (i + 1) : Nat) : Int) by rw [show p_long s (i + 1) = max (p_long s i) (p_run s i) from rfl]; split <;> rename_i g <;> rw [zI_lt ⟨by omega, by omega⟩ ⟨by omega, by omega⟩] at g <;> congr 1 <;> omega]
    exact e3
theorem c_longestRun (h : k_C M c sa f la N cs g s) : z_C S (d + 2) 7 [.ref c] M (some (.int (zI (p_long s N : Int)))) M := by
  obtain ⟨h1, h2, h3, h4, h5⟩ := id h
  refine c_of rfl rfl (Nat.le_of_ble_eq_true rfl) ?_
  refine g_ic rfl ?_
  refine g_is1 rfl rfl ?_
  refine g_ic rfl ?_
  refine g_is2 rfl rfl ?_
  exact c_longestRun_l h N 0 (by omega)
theorem c_straightAt_l (h : k_C M c sa f la N cs g s) {lim : Nat} (hl : lim ≤ 1000) : ∀ (n i : Nat), i + n = N → z_G S (d + 2) 8 2 [some (.ref c), some (.int (zI (lim : Int))), some (.int (zI (i : Int)))] [] M (some (.int (zI (p_strF s lim N n i)))) M := by
  obtain ⟨h1, h2, h3, h4, h5⟩ := id h
  intro n
  induction n with
  | zero =>
    intro i hi
    refine g_il rfl rfl ?_
    refine g_al rfl rfl ?_
    refine g_gf rfl h1 rfl rfl ?_
    refine g_icT rfl (zcT3 ⟨by omega, by omega⟩ ⟨by omega, by omega⟩ (by omega)) ?_
    refine g_ic rfl ?_
    exact g_reti rfl (rfl) rfl
  | succ n ih =>
    intro i hi
    refine g_il rfl rfl ?_
    refine g_al rfl rfl ?_
    refine g_gf rfl h1 rfl rfl ?_
    refine g_icF rfl (zcF3 ⟨by omega, by omega⟩ ⟨by omega, by omega⟩ (by omega)) ?_
    refine g_al rfl rfl ?_
    refine g_il rfl rfl ?_
    refine g_cv1 rfl rfl h1 rfl (by decide) rfl (c_runUpTo h (i := i) (by omega)) ?_
    refine g_il rfl rfl ?_
    have e4 := p_run_le s i
    by_cases he : lim < p_run s i
    · refine g_icF rfl (zcF5 ⟨by omega, by omega⟩ ⟨by omega, by omega⟩ (by omega)) ?_
      refine g_il rfl rfl ?_
      exact g_reti rfl (by rw [show p_strF s lim N (n + 1) i = (i : Int) by conv => lhs; unfold p_strF; rw [if_pos (by omega), if_pos he]]) rfl
    · refine g_icT rfl (zcT5 ⟨by omega, by omega⟩ ⟨by omega, by omega⟩ (by omega)) ?_
      refine g_jj2 rfl rfl ?_
      refine g_goto rfl ?_
      rw [show p_strF s lim N (n + 1) i = p_strF s lim N n (i + 1) by conv => lhs; unfold p_strF; rw [if_pos (by omega), if_neg he]]
      exact ih (i + 1) (by omega)
theorem c_straightAt (h : k_C M c sa f la N cs g s) {lim : Nat} (hl : lim ≤ 1000) : z_C S (d + 2) 8 [.ref c, .int (zI (lim : Int))] M (some (.int (zI (p_str s lim N)))) M := by
  obtain ⟨h1, h2, h3, h4, h5⟩ := id h
  refine c_of rfl rfl (Nat.le_of_ble_eq_true rfl) ?_
  refine g_ic rfl ?_
  refine g_is2 rfl rfl ?_
  exact c_straightAt_l h hl N 0 (by omega)
end CH
