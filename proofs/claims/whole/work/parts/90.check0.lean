theorem z_chs {y : Nat} : ∀ (k : Nat) (l : List (Nat × Nat × Instr)), l.length ≤ 40 * k → (∀ j, j < k → z_chl y ((l.drop (40 * j)).take 40) = true) → z_chl y l = true := by
  intro k
  induction k with
  | zero =>
    intro l hl _
    have h0 : l = [] := List.length_eq_zero_iff.mp (by omega)
    subst h0
    rfl
  | succ k ih =>
    intro l hl h
    have h1 := h 0 (by omega)
    have h2 := ih (l.drop 40) (by rw [List.length_drop]; omega) (fun j hj => by
      have h3 := h (j + 1) (by omega)
      rw [List.drop_drop]
      rw [show 40 + 40 * j = 40 * (j + 1) by omega]
      exact h3)
    unfold z_chl at h1 h2 ⊢
    rw [Nat.mul_zero, List.drop_zero] at h1
    rw [← List.take_append_drop 40 l, List.all_append, h1, h2]
    rfl
theorem z_k0 : z_chk 0 = true := by decide +kernel
theorem z_k1 : z_chk 1 = true := by decide +kernel
theorem z_k2 : z_chk 2 = true := by decide +kernel
theorem z_k3 : z_chk 3 = true := by decide +kernel
theorem z_k4 : z_chk 4 = true := by decide +kernel
theorem z_k5 : z_chk 5 = true := by decide +kernel
theorem z_k6 : z_chk 6 = true := by decide +kernel
theorem z_k7 : z_chk 7 = true := by decide +kernel
theorem z_k8 : z_chk 8 = true := by decide +kernel
theorem z_k9 : z_chk 9 = true := by decide +kernel
theorem z_k10 : z_chk 10 = true := by decide +kernel
theorem z_k11 : z_chk 11 = true := by decide +kernel
theorem z_k12 : z_chk 12 = true := by decide +kernel
theorem z_k13 : z_chk 13 = true := by decide +kernel
theorem z_k14 : z_chk 14 = true := by decide +kernel
theorem z_k15 : z_chk 15 = true := by decide +kernel
theorem z_k16 : z_chk 16 = true := by decide +kernel
theorem z_k17 : z_chk 17 = true := by decide +kernel
theorem z_k18 : z_chk 18 = true := by decide +kernel
theorem z_k19 : z_chk 19 = true := by decide +kernel
theorem z_k20 : z_chk 20 = true := by decide +kernel
theorem z_k21 : z_chk 21 = true := by decide +kernel
theorem z_k22 : z_chk 22 = true := by decide +kernel
theorem z_k23 : z_chk 23 = true := by decide +kernel
theorem z_k24 : z_chk 24 = true := by decide +kernel
theorem z_k25_0 : z_chl 25 (((z_tab 25).drop (40 * 0)).take 40) = true := by decide +kernel
theorem z_k25_1 : z_chl 25 (((z_tab 25).drop (40 * 1)).take 40) = true := by decide +kernel
theorem z_k25_2 : z_chl 25 (((z_tab 25).drop (40 * 2)).take 40) = true := by decide +kernel
theorem z_k25 : z_chk 25 = true := z_chs 3 _ (by decide +kernel) (fun j hj => by
  match j, hj with
  | 0, _ => exact z_k25_0
  | 1, _ => exact z_k25_1
  | 2, _ => exact z_k25_2
  | n + 3, h => exact absurd h (by omega))
theorem z_k26 : z_chk 26 = true := by decide +kernel
theorem z_k27 : z_chk 27 = true := by decide +kernel
theorem z_k28 : z_chk 28 = true := by decide +kernel
theorem z_k29 : z_chk 29 = true := by decide +kernel
theorem z_k30 : z_chk 30 = true := by decide +kernel
theorem z_k31 : z_chk 31 = true := by decide +kernel
theorem z_k32 : z_chk 32 = true := by decide +kernel
theorem z_k33 : z_chk 33 = true := by decide +kernel
theorem z_k34 : z_chk 34 = true := by decide +kernel
theorem z_k35 : z_chk 35 = true := by decide +kernel
theorem z_k36 : z_chk 36 = true := by decide +kernel
theorem z_k37 : z_chk 37 = true := by decide +kernel
theorem z_k38 : z_chk 38 = true := by decide +kernel
theorem z_k39 : z_chk 39 = true := by decide +kernel
theorem z_k40 : z_chk 40 = true := by decide +kernel
theorem z_k41 : z_chk 41 = true := by decide +kernel
theorem z_k42_0 : z_chl 42 (((z_tab 42).drop (40 * 0)).take 40) = true := by decide +kernel
theorem z_k42_1 : z_chl 42 (((z_tab 42).drop (40 * 1)).take 40) = true := by decide +kernel
theorem z_k42 : z_chk 42 = true := z_chs 2 _ (by decide +kernel) (fun j hj => by
  match j, hj with
  | 0, _ => exact z_k42_0
  | 1, _ => exact z_k42_1
  | n + 2, h => exact absurd h (by omega))
theorem z_k43 : z_chk 43 = true := by decide +kernel
theorem z_k44 : z_chk 44 = true := by decide +kernel
theorem z_k45 : z_chk 45 = true := by decide +kernel
theorem z_k46 : z_chk 46 = true := by decide +kernel
theorem z_k47_0 : z_chl 47 (((z_tab 47).drop (40 * 0)).take 40) = true := by decide +kernel
theorem z_k47_1 : z_chl 47 (((z_tab 47).drop (40 * 1)).take 40) = true := by decide +kernel
theorem z_k47_2 : z_chl 47 (((z_tab 47).drop (40 * 2)).take 40) = true := by decide +kernel
theorem z_k47 : z_chk 47 = true := z_chs 3 _ (by decide +kernel) (fun j hj => by
  match j, hj with
  | 0, _ => exact z_k47_0
  | 1, _ => exact z_k47_1
  | 2, _ => exact z_k47_2
  | n + 3, h => exact absurd h (by omega))
theorem z_k48 : z_chk 48 = true := by decide +kernel
