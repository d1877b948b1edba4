/-! whole numbers as ints -/
abbrev z_sm (a : Int) : Prop := -1000000000 ≤ a ∧ a ≤ 1000000000
theorem zI_0 : zI 0 = 0 := rfl
theorem zI_add (a b : Int) : zI a + zI b = zI (a + b) := (Int32.ofInt_add a b).symm
theorem zI_sub (a b : Int) : zI a - zI b = zI (a - b) := (Int32.ofInt_sub a b).symm
theorem zI_mul (a b : Int) : zI a * zI b = zI (a * b) := (Int32.ofInt_mul a b).symm
theorem zI_toInt {a : Int} (h : z_sm a) : (zI a).toInt = a := Int32.toInt_ofInt_of_le (by omega) (by omega)
theorem zI_lt {a b : Int} (ha : z_sm a) (hb : z_sm b) : zI a < zI b ↔ a < b := by rw [Int32.lt_iff_toInt_lt, zI_toInt ha, zI_toInt hb]
theorem zI_le {a b : Int} (ha : z_sm a) (hb : z_sm b) : zI a ≤ zI b ↔ a ≤ b := by rw [Int32.le_iff_toInt_le, zI_toInt ha, zI_toInt hb]
theorem zI_eq {a b : Int} (ha : z_sm a) (hb : z_sm b) : zI a = zI b ↔ a = b := by rw [← Int32.toInt_inj, zI_toInt ha, zI_toInt hb]
theorem zI_cl {a : Int} (h : z_sm a) : (zI a).toNatClampNeg = a.toNat := by
  unfold Int32.toNatClampNeg
  rw [zI_toInt h]
theorem zI_in {a : Int} {n : Nat} (h0 : 0 ≤ a) (hn : a < n) (h : a ≤ 1000000000) : z_in (zI a) n = true := by
  have hs : z_sm a := ⟨by omega, h⟩
  unfold z_in
  rw [zI_cl hs]
  have h1 : ¬ zI a < 0 := by
    rw [← zI_0, zI_lt hs ⟨by omega, by omega⟩]
    omega
  have h2 : ¬ n ≤ a.toNat := by omega
  simp [h1, h2]
theorem zI_div {a b : Int} (ha : 0 ≤ a ∧ a ≤ 1000000000) (hb : 0 < b ∧ b ≤ 1000000000) : zI a / zI b = zI (a / b) := by
  have h : Int32.ofInt (a.tdiv b) = Int32.ofInt a / Int32.ofInt b := Int32.ofInt_tdiv (by show (-2147483648 : Int) ≤ a; omega) (by show a ≤ 2147483647; omega) (by show (-2147483648 : Int) ≤ b; omega) (by show b ≤ 2147483647; omega)
  rw [Int.tdiv_eq_ediv_of_nonneg ha.1] at h
  exact h.symm
theorem zI_rem {a b : Int} (ha : 0 ≤ a ∧ a ≤ 1000000000) (hb : 0 < b ∧ b ≤ 1000000000) : zI a - zI a / zI b * zI b = zI (a % b) := by
  rw [zI_div ha hb, zI_mul, zI_sub]
  congr 1
  rw [Int.emod_def, Int.mul_comm]
theorem zI_ne0 {b : Int} (hb : z_sm b) (h : b ≠ 0) : ¬ zI b = 0 := by
  rw [← zI_0, zI_eq hb ⟨by omega, by omega⟩]
  exact h
theorem zcT0 {a b : Int} (h : a = b) : z_cc 0 (zI a) (zI b) = true := decide_eq_true (by rw [h])
theorem zcF0 {a b : Int} (ha : z_sm a) (hb : z_sm b) (h : ¬ a = b) : z_cc 0 (zI a) (zI b) = false := decide_eq_false (by rw [zI_eq ha hb]; exact h)
theorem zcT1 {a b : Int} (ha : z_sm a) (hb : z_sm b) (h : ¬ a = b) : z_cc 1 (zI a) (zI b) = true := by
  show (!decide (zI a = zI b)) = true
  rw [decide_eq_false (by rw [zI_eq ha hb]; exact h)]
  rfl
theorem zcF1 {a b : Int} (h : a = b) : z_cc 1 (zI a) (zI b) = false := by
  show (!decide (zI a = zI b)) = false
  rw [decide_eq_true (by rw [h])]
  rfl
theorem zcT2 {a b : Int} (ha : z_sm a) (hb : z_sm b) (h : a < b) : z_cc 2 (zI a) (zI b) = true := decide_eq_true (by rw [zI_lt ha hb]; exact h)
theorem zcF2 {a b : Int} (ha : z_sm a) (hb : z_sm b) (h : ¬ a < b) : z_cc 2 (zI a) (zI b) = false := decide_eq_false (by rw [zI_lt ha hb]; exact h)
theorem zcT3 {a b : Int} (ha : z_sm a) (hb : z_sm b) (h : ¬ a < b) : z_cc 3 (zI a) (zI b) = true := decide_eq_true (by rw [zI_le hb ha]; omega)
theorem zcF3 {a b : Int} (ha : z_sm a) (hb : z_sm b) (h : a < b) : z_cc 3 (zI a) (zI b) = false := decide_eq_false (by rw [zI_le hb ha]; omega)
theorem zcT4 {a b : Int} (ha : z_sm a) (hb : z_sm b) (h : b < a) : z_cc 4 (zI a) (zI b) = true := decide_eq_true (by rw [zI_lt hb ha]; exact h)
theorem zcF4 {a b : Int} (ha : z_sm a) (hb : z_sm b) (h : ¬ b < a) : z_cc 4 (zI a) (zI b) = false := decide_eq_false (by rw [zI_lt hb ha]; exact h)
theorem zcT5 {a b : Int} (ha : z_sm a) (hb : z_sm b) (h : ¬ b < a) : z_cc 5 (zI a) (zI b) = true := decide_eq_true (by rw [zI_le ha hb]; omega)
theorem zcF5 {a b : Int} (ha : z_sm a) (hb : z_sm b) (h : b < a) : z_cc 5 (zI a) (zI b) = false := decide_eq_false (by rw [zI_le ha hb]; omega)
/-- every int is such a number -/
theorem zI_of (x : Int32) : ∃ a : Int, x = zI a ∧ -2147483648 ≤ a ∧ a ≤ 2147483647 := ⟨x.toInt, (Int32.ofInt_toInt x).symm, Int32.le_toInt x, by have := Int32.toInt_lt x; omega⟩
theorem z_gs {M : ZM} {a : Nat} {x e : ZE} (h : M[a]? = some x) : (M.set a e)[a]? = some e := by
  rw [List.getElem?_set_self]
  exact (List.getElem?_eq_some_iff.mp h).1
theorem z_gn {M : ZM} {a b : Nat} {e : ZE} {x : Option ZE} (h : a ≠ b) (h2 : M[b]? = x) : (M.set a e)[b]? = x := by
  rw [List.getElem?_set_ne h]
  exact h2
