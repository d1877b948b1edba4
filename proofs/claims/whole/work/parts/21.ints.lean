/-! whole numbers as ints -/
abbrev z_sm (a : Int) : Prop := -2147483648 ≤ a ∧ a ≤ 2147483647
theorem zI_0 : zI 0 = 0 := rfl
theorem zI_add (a b : Int) : zI a + zI b = zI (a + b) := (Int32.ofInt_add a b).symm
theorem zI_sub (a b : Int) : zI a - zI b = zI (a - b) := (Int32.ofInt_sub a b).symm
theorem zI_mul (a b : Int) : zI a * zI b = zI (a * b) := (Int32.ofInt_mul a b).symm
theorem zI_toInt {a : Int} (h : z_sm a) : (zI a).toInt = a := Int32.toInt_ofInt_of_le (by omega) (by omega)
theorem zI_lt {a b : Int} (ha : z_sm a) (hb : z_sm b) : zI a < zI b ↔ a < b := by rw [Int32.lt_iff_toInt_lt, zI_toInt ha, zI_toInt hb]
theorem zI_le {a b : Int} (ha : z_sm a) (hb : z_sm b) : zI a ≤ zI b ↔ a ≤ b := by rw [Int32.le_iff_toInt_le, zI_toInt ha, zI_toInt hb]
theorem zI_eq {a b : Int} (ha : z_sm a) (hb : z_sm b) : zI a = zI b ↔ a = b := by rw [← Int32.toInt_inj, zI_toInt ha, zI_toInt hb]
theorem zI_cl {a : Int} (h : z_sm a) : (zI a).toNatClampNeg = a.toNat := by
  unfold Int32.toNatClampNeg
  rw [zI_toInt h]
theorem zI_in {a : Int} {n : Nat} (h0 : 0 ≤ a) (hn : a < n) (h : a ≤ 1000000000) : z_in (zI a) n = true := by
  have hs : z_sm a := ⟨by omega, by omega⟩
  unfold z_in
  rw [zI_cl hs]
  have h1 : ¬ zI a < 0 := by
    rw [← zI_0, zI_lt hs ⟨by omega, by omega⟩]
    omega
  have h2 : ¬ n ≤ a.toNat := by omega
  simp [h1, h2]
theorem zI_div {a b : Int} (ha : 0 ≤ a ∧ a ≤ 1000000000) (hb : 0 < b ∧ b ≤ 1000000000) : zI a / zI b = zI (a / b) := by
  have h : Int32.ofInt (a.tdiv b) = Int32.ofInt a / Int32.ofInt b := Int32.ofInt_tdiv (by show (-2147483648 : Int) ≤ a; omega) (by show a ≤ 2147483647; omega) (by show (-2147483648 : Int) ≤ b; omega) (by show b ≤ 2147483647; omega)
  rw [Int.tdiv_eq_ediv_of_nonneg ha.1] at h
  exact h.symm
theorem zI_rem {a b : Int} (ha : 0 ≤ a ∧ a ≤ 1000000000) (hb : 0 < b ∧ b ≤ 1000000000) : zI a - zI a / zI b * zI b = zI (a % b) := by
  rw [zI_div ha hb, zI_mul, zI_sub]
  congr 1
  rw [Int.emod_def, Int.mul_comm]
theorem zI_ne0 {b : Int} (hb : z_sm b) (h : b ≠ 0) : ¬ zI b = 0 := by
  rw [← zI_0, zI_eq hb ⟨by omega, by omega⟩]
  exact h
theorem zcT0 {a b : Int} (h : a = b) : z_cc 0 (zI a) (zI b) = true := decide_eq_true (by rw [h])
theorem zcF0 {a b : Int} (ha : z_sm a) (hb : z_sm b) (h : ¬ a = b) : z_cc 0 (zI a) (zI b) = false := decide_eq_false (by rw [zI_eq ha hb]; exact h)
theorem zcT1 {a b : Int} (ha : z_sm a) (hb : z_sm b) (h : ¬ a = b) : z_cc 1 (zI a) (zI b) = true := by
  show (!decide (zI a = zI b)) = true
  rw [decide_eq_false (by rw [zI_eq ha hb]; exact h)]
  rfl
theorem zcF1 {a b : Int} (h : a = b) : z_cc 1 (zI a) (zI b) = false := by
  show (!decide (zI a = zI b)) = false
  rw [decide_eq_true (by rw [h])]
  rfl
theorem zcT2 {a b : Int} (ha : z_sm a) (hb : z_sm b) (h : a < b) : z_cc 2 (zI a) (zI b) = true := decide_eq_true (by rw [zI_lt ha hb]; exact h)
theorem zcF2 {a b : Int} (ha : z_sm a) (hb : z_sm b) (h : ¬ a < b) : z_cc 2 (zI a) (zI b) = false := decide_eq_false (by rw [zI_lt ha hb]; exact h)
theorem zcT3 {a b : Int} (ha : z_sm a) (hb : z_sm b) (h : ¬ a < b) : z_cc 3 (zI a) (zI b) = true := decide_eq_true (by rw [zI_le hb ha]; omega)
theorem zcF3 {a b : Int} (ha : z_sm a) (hb : z_sm b) (h : a < b) : z_cc 3 (zI a) (zI b) = false := decide_eq_false (by rw [zI_le hb ha]; omega)
theorem zcT4 {a b : Int} (ha : z_sm a) (hb : z_sm b) (h : b < a) : z_cc 4 (zI a) (zI b) = true := decide_eq_true (by rw [zI_lt hb ha]; exact h)
theorem zcF4 {a b : Int} (ha : z_sm a) (hb : z_sm b) (h : ¬ b < a) : z_cc 4 (zI a) (zI b) = false := decide_eq_false (by rw [zI_lt hb ha]; exact h)
theorem zcT5 {a b : Int} (ha : z_sm a) (hb : z_sm b) (h : ¬ b < a) : z_cc 5 (zI a) (zI b) = true := decide_eq_true (by rw [zI_le ha hb]; omega)
theorem zcF5 {a b : Int} (ha : z_sm a) (hb : z_sm b) (h : b < a) : z_cc 5 (zI a) (zI b) = false := decide_eq_false (by rw [zI_le ha hb]; omega)
/-- every int is such a number -/
theorem zI_of (x : Int32) : ∃ a : Int, x = zI a ∧ -2147483648 ≤ a ∧ a ≤ 2147483647 := ⟨x.toInt, (Int32.ofInt_toInt x).symm, Int32.le_toInt x, by have := Int32.toInt_lt x; omega⟩
theorem z_gs {M : ZM} {a : Nat} {x e : ZE} (h : M[a]? = some x) : (M.set a e)[a]? = some e := by
  rw [List.getElem?_set_self]
  exact (List.getElem?_eq_some_iff.mp h).1
theorem z_gn {M : ZM} {a b : Nat} {e : ZE} {x : Option ZE} (h : a ≠ b) (h2 : M[b]? = x) : (M.set a e)[b]? = x := by
  rw [List.getElem?_set_ne h]
  exact h2
section ZGI
variable {S : ZS} {d y pc nx : Nat} {ls : ZL} {st : List Value} {M M' : ZM} {r : Option Value}
theorem g_addI {a b : Int} (hc : z_code y pc = some (nx, .iadd)) (k : z_G S d y nx ls (.int (zI (a + b)) :: st) M r M') : z_G S d y pc ls (.int (zI b) :: .int (zI a) :: st) M r M' := g_iadd hc (by rw [zI_add]; exact k)
theorem g_subI {a b : Int} (hc : z_code y pc = some (nx, .isub)) (k : z_G S d y nx ls (.int (zI (a - b)) :: st) M r M') : z_G S d y pc ls (.int (zI b) :: .int (zI a) :: st) M r M' := g_isub hc (by rw [zI_sub]; exact k)
theorem g_mulI {a b : Int} (hc : z_code y pc = some (nx, .imul)) (k : z_G S d y nx ls (.int (zI (a * b)) :: st) M r M') : z_G S d y pc ls (.int (zI b) :: .int (zI a) :: st) M r M' := g_imul hc (by rw [zI_mul]; exact k)
theorem g_divI {a b : Int} (hc : z_code y pc = some (nx, .idiv)) (ha : 0 ≤ a ∧ a ≤ 1000000000) (hb : 0 < b ∧ b ≤ 1000000000) (k : z_G S d y nx ls (.int (zI (a / b)) :: st) M r M') : z_G S d y pc ls (.int (zI b) :: .int (zI a) :: st) M r M' := g_idiv hc (zI_ne0 ⟨by omega, by omega⟩ (by omega)) (by rw [zI_div ha hb]; exact k)
theorem g_remI {a b : Int} (hc : z_code y pc = some (nx, .irem)) (ha : 0 ≤ a ∧ a ≤ 1000000000) (hb : 0 < b ∧ b ≤ 1000000000) (k : z_G S d y nx ls (.int (zI (a % b)) :: st) M r M') : z_G S d y pc ls (.int (zI b) :: .int (zI a) :: st) M r M' := g_irem hc (zI_ne0 ⟨by omega, by omega⟩ (by omega)) (by rw [zI_rem ha hb]; exact k)
theorem g_jj0 {t : ZL} {a n : Int} (hc : z_code y pc = some (nx, .iinc 0 n)) (k : z_G S d y nx (some (.int (zI (a + n))) :: t) st M r M') : z_G S d y pc (some (.int (zI a)) :: t) st M r M' := g_ii0 hc (by rw [zI_add]; exact k)
theorem g_jj1 {v0 : Option Value} {t : ZL} {a n : Int} (hc : z_code y pc = some (nx, .iinc 1 n)) (hv : z_nl v0 = true) (k : z_G S d y nx (v0 :: some (.int (zI (a + n))) :: t) st M r M') : z_G S d y pc (v0 :: some (.int (zI a)) :: t) st M r M' := g_ii1 hc hv (by rw [zI_add]; exact k)
theorem g_jj2 {v0 v1 : Option Value} {t : ZL} {a n : Int} (hc : z_code y pc = some (nx, .iinc 2 n)) (hv : z_nl v1 = true) (k : z_G S d y nx (v0 :: v1 :: some (.int (zI (a + n))) :: t) st M r M') : z_G S d y pc (v0 :: v1 :: some (.int (zI a)) :: t) st M r M' := g_ii2 hc hv (by rw [zI_add]; exact k)
theorem g_jj3 {v0 v1 v2 : Option Value} {t : ZL} {a n : Int} (hc : z_code y pc = some (nx, .iinc 3 n)) (hv : z_nl v2 = true) (k : z_G S d y nx (v0 :: v1 :: v2 :: some (.int (zI (a + n))) :: t) st M r M') : z_G S d y pc (v0 :: v1 :: v2 :: some (.int (zI a)) :: t) st M r M' := g_ii3 hc hv (by rw [zI_add]; exact k)
theorem g_jj4 {v0 v1 v2 v3 : Option Value} {t : ZL} {a n : Int} (hc : z_code y pc = some (nx, .iinc 4 n)) (hv : z_nl v3 = true) (k : z_G S d y nx (v0 :: v1 :: v2 :: v3 :: some (.int (zI (a + n))) :: t) st M r M') : z_G S d y pc (v0 :: v1 :: v2 :: v3 :: some (.int (zI a)) :: t) st M r M' := g_ii4 hc hv (by rw [zI_add]; exact k)
theorem g_jj5 {v0 v1 v2 v3 v4 : Option Value} {t : ZL} {a n : Int} (hc : z_code y pc = some (nx, .iinc 5 n)) (hv : z_nl v4 = true) (k : z_G S d y nx (v0 :: v1 :: v2 :: v3 :: v4 :: some (.int (zI (a + n))) :: t) st M r M') : z_G S d y pc (v0 :: v1 :: v2 :: v3 :: v4 :: some (.int (zI a)) :: t) st M r M' := g_ii5 hc hv (by rw [zI_add]; exact k)
theorem g_jj6 {v0 v1 v2 v3 v4 v5 : Option Value} {t : ZL} {a n : Int} (hc : z_code y pc = some (nx, .iinc 6 n)) (hv : z_nl v5 = true) (k : z_G S d y nx (v0 :: v1 :: v2 :: v3 :: v4 :: v5 :: some (.int (zI (a + n))) :: t) st M r M') : z_G S d y pc (v0 :: v1 :: v2 :: v3 :: v4 :: v5 :: some (.int (zI a)) :: t) st M r M' := g_ii6 hc hv (by rw [zI_add]; exact k)
theorem g_jj7 {v0 v1 v2 v3 v4 v5 v6 : Option Value} {t : ZL} {a n : Int} (hc : z_code y pc = some (nx, .iinc 7 n)) (hv : z_nl v6 = true) (k : z_G S d y nx (v0 :: v1 :: v2 :: v3 :: v4 :: v5 :: v6 :: some (.int (zI (a + n))) :: t) st M r M') : z_G S d y pc (v0 :: v1 :: v2 :: v3 :: v4 :: v5 :: v6 :: some (.int (zI a)) :: t) st M r M' := g_ii7 hc hv (by rw [zI_add]; exact k)
theorem g_jj8 {v0 v1 v2 v3 v4 v5 v6 v7 : Option Value} {t : ZL} {a n : Int} (hc : z_code y pc = some (nx, .iinc 8 n)) (hv : z_nl v7 = true) (k : z_G S d y nx (v0 :: v1 :: v2 :: v3 :: v4 :: v5 :: v6 :: v7 :: some (.int (zI (a + n))) :: t) st M r M') : z_G S d y pc (v0 :: v1 :: v2 :: v3 :: v4 :: v5 :: v6 :: v7 :: some (.int (zI a)) :: t) st M r M' := g_ii8 hc hv (by rw [zI_add]; exact k)
theorem g_jj9 {v0 v1 v2 v3 v4 v5 v6 v7 v8 : Option Value} {t : ZL} {a n : Int} (hc : z_code y pc = some (nx, .iinc 9 n)) (hv : z_nl v8 = true) (k : z_G S d y nx (v0 :: v1 :: v2 :: v3 :: v4 :: v5 :: v6 :: v7 :: v8 :: some (.int (zI (a + n))) :: t) st M r M') : z_G S d y pc (v0 :: v1 :: v2 :: v3 :: v4 :: v5 :: v6 :: v7 :: v8 :: some (.int (zI a)) :: t) st M r M' := g_ii9 hc hv (by rw [zI_add]; exact k)
theorem g_jj10 {v0 v1 v2 v3 v4 v5 v6 v7 v8 v9 : Option Value} {t : ZL} {a n : Int} (hc : z_code y pc = some (nx, .iinc 10 n)) (hv : z_nl v9 = true) (k : z_G S d y nx (v0 :: v1 :: v2 :: v3 :: v4 :: v5 :: v6 :: v7 :: v8 :: v9 :: some (.int (zI (a + n))) :: t) st M r M') : z_G S d y pc (v0 :: v1 :: v2 :: v3 :: v4 :: v5 :: v6 :: v7 :: v8 :: v9 :: some (.int (zI a)) :: t) st M r M' := g_ii10 hc hv (by rw [zI_add]; exact k)
theorem g_jj11 {v0 v1 v2 v3 v4 v5 v6 v7 v8 v9 v10 : Option Value} {t : ZL} {a n : Int} (hc : z_code y pc = some (nx, .iinc 11 n)) (hv : z_nl v10 = true) (k : z_G S d y nx (v0 :: v1 :: v2 :: v3 :: v4 :: v5 :: v6 :: v7 :: v8 :: v9 :: v10 :: some (.int (zI (a + n))) :: t) st M r M') : z_G S d y pc (v0 :: v1 :: v2 :: v3 :: v4 :: v5 :: v6 :: v7 :: v8 :: v9 :: v10 :: some (.int (zI a)) :: t) st M r M' := g_ii11 hc hv (by rw [zI_add]; exact k)
theorem g_jj12 {v0 v1 v2 v3 v4 v5 v6 v7 v8 v9 v10 v11 : Option Value} {t : ZL} {a n : Int} (hc : z_code y pc = some (nx, .iinc 12 n)) (hv : z_nl v11 = true) (k : z_G S d y nx (v0 :: v1 :: v2 :: v3 :: v4 :: v5 :: v6 :: v7 :: v8 :: v9 :: v10 :: v11 :: some (.int (zI (a + n))) :: t) st M r M') : z_G S d y pc (v0 :: v1 :: v2 :: v3 :: v4 :: v5 :: v6 :: v7 :: v8 :: v9 :: v10 :: v11 :: some (.int (zI a)) :: t) st M r M' := g_ii12 hc hv (by rw [zI_add]; exact k)
theorem g_iaI {a n : Nat} {f : Nat → Int32} {i : Int} (hc : z_code y pc = some (nx, .iaload)) (h9 : ¬ a = 1000) (hM : M[a]? = some (.inr (0, n, .inl f))) (h0 : 0 ≤ i) (hn : i < n) (hs : i ≤ 1000000000) (k : z_G S d y nx ls (.int (f i.toNat) :: st) M r M') : z_G S d y pc ls (.int (zI i) :: .ref a :: st) M r M' := g_ia hc h9 hM (zI_in h0 hn hs) (by rw [zI_cl ⟨by omega, by omega⟩]; exact k)
theorem g_baI {a n : Nat} {f : Nat → Int32} {i : Int} (hc : z_code y pc = some (nx, .baload)) (hM : M[a]? = some (.inr (1, n, .inl f))) (h0 : 0 ≤ i) (hn : i < n) (hs : i ≤ 1000000000) (k : z_G S d y nx ls (.int (f i.toNat) :: st) M r M') : z_G S d y pc ls (.int (zI i) :: .ref a :: st) M r M' := g_ba hc hM (zI_in h0 hn hs) (by rw [zI_cl ⟨by omega, by omega⟩]; exact k)
theorem g_zaI {a n : Nat} {f : Nat → Int32} {i : Int} (hc : z_code y pc = some (nx, .baload)) (hM : M[a]? = some (.inr (2, n, .inl f))) (h0 : 0 ≤ i) (hn : i < n) (hs : i ≤ 1000000000) (k : z_G S d y nx ls (.int (f i.toNat) :: st) M r M') : z_G S d y pc ls (.int (zI i) :: .ref a :: st) M r M' := g_za hc hM (zI_in h0 hn hs) (by rw [zI_cl ⟨by omega, by omega⟩]; exact k)
theorem g_jaI {a n : Nat} {f : Nat → Int64} {i : Int} (hc : z_code y pc = some (nx, .laload)) (hM : M[a]? = some (.inr (3, n, .inr (.inl f)))) (h0 : 0 ≤ i) (hn : i < n) (hs : i ≤ 1000000000) (k : z_G S d y nx ls (.long (f i.toNat) :: st) M r M') : z_G S d y pc ls (.int (zI i) :: .ref a :: st) M r M' := g_ja hc hM (zI_in h0 hn hs) (by rw [zI_cl ⟨by omega, by omega⟩]; exact k)
theorem g_aaI4 {a n : Nat} {f : Nat → Option Nat} {i : Int} {v : Value} (hc : z_code y pc = some (nx, .aaload)) (hM : M[a]? = some (.inr (4, n, .inr (.inr f)))) (h0 : 0 ≤ i) (hn : i < n) (hs : i ≤ 1000000000) (hv : va_rf (f i.toNat) = v) (k : z_G S d y nx ls (v :: st) M r M') : z_G S d y pc ls (.int (zI i) :: .ref a :: st) M r M' := g_aa4 hc hM (zI_in h0 hn hs) (by rw [zI_cl ⟨by omega, by omega⟩, hv]; exact k)
theorem g_aaI5 {a n : Nat} {f : Nat → Option Nat} {i : Int} {v : Value} (hc : z_code y pc = some (nx, .aaload)) (hM : M[a]? = some (.inr (5, n, .inr (.inr f)))) (h0 : 0 ≤ i) (hn : i < n) (hs : i ≤ 1000000000) (hv : va_rf (f i.toNat) = v) (k : z_G S d y nx ls (v :: st) M r M') : z_G S d y pc ls (.int (zI i) :: .ref a :: st) M r M' := g_aa5 hc hM (zI_in h0 hn hs) (by rw [zI_cl ⟨by omega, by omega⟩, hv]; exact k)
theorem g_iSI {a n : Nat} {f : Nat → Int32} {i : Int} {x : Int32} (hc : z_code y pc = some (nx, .iastore)) (hM : M[a]? = some (.inr (0, n, .inl f))) (h0 : 0 ≤ i) (hn : i < n) (hs : i ≤ 1000000000) (k : z_G S d y nx ls st (M.set a (.inr (0, n, .inl (upd f i.toNat x)))) r M') : z_G S d y pc ls (.int x :: .int (zI i) :: .ref a :: st) M r M' := g_iS hc hM (zI_in h0 hn hs) (by rw [zI_cl ⟨by omega, by omega⟩]; exact k)
theorem g_bSI {a n : Nat} {f : Nat → Int32} {i : Int} {x : Int32} (hc : z_code y pc = some (nx, .bastore)) (hM : M[a]? = some (.inr (1, n, .inl f))) (h0 : 0 ≤ i) (hn : i < n) (hs : i ≤ 1000000000) (k : z_G S d y nx ls st (M.set a (.inr (1, n, .inl (upd f i.toNat (vp_nar .byte x))))) r M') : z_G S d y pc ls (.int x :: .int (zI i) :: .ref a :: st) M r M' := g_bS hc hM (zI_in h0 hn hs) (by rw [zI_cl ⟨by omega, by omega⟩]; exact k)
theorem g_zSI {a n : Nat} {f : Nat → Int32} {i : Int} {x : Int32} (hc : z_code y pc = some (nx, .bastore)) (hM : M[a]? = some (.inr (2, n, .inl f))) (h0 : 0 ≤ i) (hn : i < n) (hs : i ≤ 1000000000) (k : z_G S d y nx ls st (M.set a (.inr (2, n, .inl (upd f i.toNat (vp_nar .boolean x))))) r M') : z_G S d y pc ls (.int x :: .int (zI i) :: .ref a :: st) M r M' := g_zS hc hM (zI_in h0 hn hs) (by rw [zI_cl ⟨by omega, by omega⟩]; exact k)
theorem g_jSI {a n : Nat} {f : Nat → Int64} {i : Int} {x : Int64} (hc : z_code y pc = some (nx, .lastore)) (hM : M[a]? = some (.inr (3, n, .inr (.inl f)))) (h0 : 0 ≤ i) (hn : i < n) (hs : i ≤ 1000000000) (k : z_G S d y nx ls st (M.set a (.inr (3, n, .inr (.inl (vp_updL f i.toNat x))))) r M') : z_G S d y pc ls (.long x :: .int (zI i) :: .ref a :: st) M r M' := g_jS hc hM (zI_in h0 hn hs) (by rw [zI_cl ⟨by omega, by omega⟩]; exact k)
end ZGI
