/-! SIZES, and the law on every script -/
def l_ok (M : ZM) (k : Nat) : Prop := ∃ e, M[k]? = some e ∧ z_sz1 e ≤ 4225
theorem l_arr {M : ZM} {k t n : Nat} {x : (Nat → Int32) ⊕ ((Nat → Int64) ⊕ (Nat → Option Nat))} (h : M[k]? = some (.inr (t, n, x))) (hn : n ≤ 4225) : l_ok M k := ⟨_, h, hn⟩
theorem l_cls : ∀ ci, ci < 7 → (z_cls ci).2.2 ≤ 4225 := by decide +kernel
theorem l_obj {M : ZM} {k ci : Nat} {fs : List Value} (h : M[k]? = some (.inl (ci, fs))) (hc : ci < 7) : l_ok M k := ⟨_, h, l_cls ci hc⟩
theorem l_szs : ∀ (M : ZM), (∀ k, k < M.length → l_ok M k) → z_sz M ≤ M.length * 4225 := by
  intro M
  induction M with
  | nil => intro _; exact Nat.zero_le _
  | cons e t ih =>
    intro h
    have h1 : z_sz t ≤ t.length * 4225 := ih (fun k hk => h (k + 1) (by rw [List.length_cons]; omega))
    obtain ⟨e', g1, g2⟩ := h 0 (by rw [List.length_cons]; omega)
    have g1 : some e = some e' := g1
    cases g1
    show z_sz1 e + z_sz t ≤ _
    rw [List.length_cons]
    omega
theorem l_kR {M : ZM} {a : Nat} {ch : Nat → ZCh} (h : k_R M a ch) : ∀ k, a + 1 ≤ k → k < a + 10 → l_ok M k := by
  obtain ⟨⟨cf, h1, -⟩, h2⟩ := h
  intro k g1 g2
  by_cases hk : k = a + 1
  · rw [hk]; exact l_arr h1 (by decide)
  · obtain ⟨j, hj, hk2⟩ : ∃ j, j < 4 ∧ (k = a + 2 + 2 * j ∨ k = a + 2 + 2 * j + 1) := ⟨(k - a - 2) / 2, by omega, by omega⟩
    obtain ⟨c1, c2⟩ := h2 j hj
    rcases hk2 with hk2 | hk2
    · rw [hk2]; exact l_obj c1 (by decide)
    · rw [hk2]; exact l_arr c2 (by decide)
theorem l_all {M : ZM} (h : l_I M) : ∀ k, k < 78 → l_ok M k := by
  obtain ⟨A, hX, hY, -, -⟩ := h
  obtain ⟨-, x0, ⟨-, ⟨a1, -⟩, ch, aR, -⟩, ⟨-, ⟨_, _, _, _, _, r11⟩, ⟨_, r12, -⟩, ⟨_, r13⟩, ⟨_, rR⟩, _, r23, r24⟩, ⟨⟨_, _, w25⟩, ⟨_, w26⟩, ⟨_, w27⟩, ⟨_, w28⟩, ⟨_, w29⟩, ⟨_, w30⟩, ⟨_, w31⟩, _, w32⟩, ⟨⟨_, _, _, _, _, _, v33⟩, ⟨_, v34⟩, ⟨_, v35⟩, ⟨_, v36⟩, _, v37⟩, ⟨_, c38, c39⟩, ⟨⟨_, g40, -⟩, ⟨_, g61, -⟩, gi⟩⟩ := hX
  obtain ⟨-, _, _, _, _, _, ⟨⟨b62, b64, b65, b66, b67⟩, -⟩, -, -, ⟨_, y63, -⟩, ⟨_, y68, -⟩, -, ⟨_, y69⟩, ⟨_, y70⟩, ⟨_, y71⟩, ⟨_, y72⟩, ⟨_, y73⟩, ⟨_, y74⟩, ⟨_, y75⟩, ⟨_, y76⟩, _, y77⟩ := hY
  obtain ⟨⟨_, i41⟩, ⟨_, iR⟩, -⟩ := gi 0 (by decide)
  obtain ⟨⟨_, j51⟩, ⟨_, jR⟩, -⟩ := gi 1 (by decide)
  intro k hk
  by_cases k1 : 2 ≤ k ∧ k < 11
  · exact l_kR aR k (by omega) (by omega)
  by_cases k2 : 14 ≤ k ∧ k < 23
  · exact l_kR rR k (by omega) (by omega)
  by_cases k3 : 42 ≤ k ∧ k < 51
  · exact l_kR iR k (by omega) (by omega)
  by_cases k4 : 52 ≤ k ∧ k < 61
  · exact l_kR jR k (by omega) (by omega)
  have hc : k = 0 ∨ k = 1 ∨ k = 11 ∨ k = 12 ∨ k = 13 ∨ k = 23 ∨ k = 24 ∨ k = 25 ∨ k = 26 ∨ k = 27 ∨ k = 28 ∨ k = 29 ∨ k = 30 ∨ k = 31 ∨ k = 32 ∨ k = 33 ∨ k = 34 ∨ k = 35 ∨ k = 36 ∨ k = 37 ∨ k = 38 ∨ k = 39 ∨ k = 40 ∨ k = 41 ∨ k = 51 ∨ k = 61 ∨ k = 62 ∨ k = 63 ∨ k = 64 ∨ k = 65 ∨ k = 66 ∨ k = 67 ∨ k = 68 ∨ k = 69 ∨ k = 70 ∨ k = 71 ∨ k = 72 ∨ k = 73 ∨ k = 74 ∨ k = 75 ∨ k = 76 ∨ k = 77 := by omega
  rcases hc with rfl | rfl | rfl | rfl | rfl | rfl | rfl | rfl | rfl | rfl | rfl | rfl | rfl | rfl | rfl | rfl | rfl | rfl | rfl | rfl | rfl | rfl | rfl | rfl | rfl | rfl | rfl | rfl | rfl | rfl | rfl | rfl | rfl | rfl | rfl | rfl | rfl | rfl | rfl | rfl | rfl | rfl
  · exact l_obj x0 (by decide)
  · exact l_obj a1 (by decide)
  · exact l_obj r11 (by decide)
  · exact l_arr r12 (by decide)
  · exact l_obj r13 (by decide)
  · exact l_obj r23 (by decide)
  · exact l_arr r24 (by decide)
  · exact l_obj w25 (by decide)
  · exact l_arr w26 (by decide)
  · exact l_arr w27 (by decide)
  · exact l_arr w28 (by decide)
  · exact l_arr w29 (by decide)
  · exact l_arr w30 (by decide)
  · exact l_arr w31 (by decide)
  · exact l_arr w32 (by decide)
  · exact l_obj v33 (by decide)
  · exact l_arr v34 (by decide)
  · exact l_arr v35 (by decide)
  · exact l_arr v36 (by decide)
  · exact l_arr v37 (by decide)
  · exact l_obj c38 (by decide)
  · exact l_arr c39 (by decide)
  · exact l_arr g40 (by decide)
  · exact l_obj i41 (by decide)
  · exact l_obj j51 (by decide)
  · exact l_arr g61 (by decide)
  · exact l_obj b62 (by decide)
  · exact l_arr y63 (by decide)
  · exact l_arr b64 (by decide)
  · exact l_arr b65 (by decide)
  · exact l_arr b66 (by decide)
  · exact l_arr b67 (by decide)
  · exact l_arr y68 (by decide)
  · exact l_arr y69 (by decide)
  · exact l_arr y70 (by decide)
  · exact l_arr y71 (by decide)
  · exact l_arr y72 (by decide)
  · exact l_arr y73 (by decide)
  · exact l_arr y74 (by decide)
  · exact l_arr y75 (by decide)
  · exact l_arr y76 (by decide)
  · exact l_arr y77 (by decide)
/-- the law's run, on every script -/
theorem z_law : z_Law := by
  intro L xs hL
  obtain ⟨r, M', ⟨n, hn⟩, hr, hI⟩ := l_start (S := (L, xs)) (d := 0) hL
  rw [hr] at hn
  have hl : M'.length = 78 := by obtain ⟨A, -, -, -, h⟩ := hI; exact h
  have hz := l_szs M' (fun k hk => l_all hI k (by omega))
  exact ⟨n, 21, M', hn, by decide, by omega, by rw [hl] at hz; omega⟩
