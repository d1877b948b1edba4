/-! YARD: pure: how a text is read -/
def t_by (tx : Nat → Int32) (i : Nat) : Nat := (tx i &&& zI 255).toBitVec.toNat
/-- the byte at a place; -1 behind the text -/
def t_b (T : Nat) (tx : Nat → Int32) (i : Nat) : Int := if i < T then (t_by tx i : Int) else -1
theorem t_by_lt (tx : Nat → Int32) (i : Nat) : t_by tx i < 256 := by
  unfold t_by
  rw [Int32.toBitVec_and, BitVec.toNat_and]
  exact Nat.lt_succ_of_le Nat.and_le_right
theorem t_by_eq (tx : Nat → Int32) (i : Nat) : tx i &&& zI 255 = zI (t_by tx i : Int) := by
  apply Int32.toBitVec_inj.mp
  apply BitVec.eq_of_toNat_eq
  show t_by tx i = (BitVec.ofInt 32 (t_by tx i : Int)).toNat
  rw [BitVec.ofInt_natCast, BitVec.toNat_ofNat, Nat.mod_eq_of_lt (by have := t_by_lt tx i; omega)]
theorem t_b_in {T : Nat} {tx : Nat → Int32} {i : Nat} : -1 ≤ t_b T tx i ∧ t_b T tx i < 256 := by
  have := t_by_lt tx i
  unfold t_b
  split <;> omega
/-- each element is a byte -/
def t_oct (T : Nat) (tx : Nat → Int32) : Prop := ∀ j, j < T → ∃ z : Int, tx j = zI z ∧ -128 ≤ z ∧ z ≤ 127
abbrev t_let (x : Int) : Prop := 97 ≤ x ∧ x ≤ 122
abbrev t_fig (x : Int) : Prop := 48 ≤ x ∧ x ≤ 57
def t_sk (T : Nat) (tx : Nat → Int32) : Nat → Nat → Nat
  | 0, p => p
  | f + 1, p => if t_b T tx p = 32 then t_sk T tx f (p + 1) else p
theorem t_sk_ok {T : Nat} {tx : Nat → Int32} : ∀ (f p : Nat), p ≤ t_sk T tx f p ∧ (∀ i, p ≤ i → i < t_sk T tx f p → t_b T tx i = 32) ∧ (T ≤ p + f → ¬ t_b T tx (t_sk T tx f p) = 32) ∧ (p ≤ T → t_sk T tx f p ≤ T) := by
  intro f
  induction f with
  | zero =>
    intro p
    refine ⟨Nat.le_refl _, fun i h1 h2 => by have h2 : i < p := h2; omega, fun h g => ?_, fun h => h⟩
    have g : t_b T tx p = 32 := g
    have e : t_b T tx p = -1 := if_neg (by omega)
    omega
  | succ f ih =>
    intro p
    obtain ⟨i1, i2, i3, i4⟩ := ih (p + 1)
    unfold t_sk
    by_cases h : t_b T tx p = 32
    · have hp : p < T := by
        by_cases g : p < T
        · exact g
        · have e : t_b T tx p = -1 := if_neg g
          omega
      rw [if_pos h]
      refine ⟨by omega, fun i h1 h2 => ?_, fun g => i3 (by omega), fun g => i4 (by omega)⟩
      by_cases e : i = p
      · subst e
        exact h
      · exact i2 i (by omega) h2
    · rw [if_neg h]
      exact ⟨Nat.le_refl _, fun i h1 h2 => by omega, fun _ => h, fun g => g⟩
def t_le (T : Nat) (tx : Nat → Int32) : Nat → Nat → Nat
  | 0, p => p
  | f + 1, p => if t_let (t_b T tx p) then t_le T tx f (p + 1) else p
theorem t_le_ok {T : Nat} {tx : Nat → Int32} : ∀ (f p : Nat), p ≤ t_le T tx f p ∧ (∀ i, p ≤ i → i < t_le T tx f p → t_let (t_b T tx i)) ∧ (T ≤ p + f → ¬ t_let (t_b T tx (t_le T tx f p))) ∧ (p ≤ T → t_le T tx f p ≤ T) := by
  intro f
  induction f with
  | zero =>
    intro p
    refine ⟨Nat.le_refl _, fun i h1 h2 => by have h2 : i < p := h2; omega, fun h g => ?_, fun h => h⟩
    have g : t_let (t_b T tx p) := g
    have e : t_b T tx p = -1 := if_neg (by omega)
    omega
  | succ f ih =>
    intro p
    obtain ⟨i1, i2, i3, i4⟩ := ih (p + 1)
    unfold t_le
    by_cases h : t_let (t_b T tx p)
    · have hp : p < T := by
        by_cases g : p < T
        · exact g
        · have e : t_b T tx p = -1 := if_neg g
          omega
      rw [if_pos h]
      refine ⟨by omega, fun i h1 h2 => ?_, fun g => i3 (by omega), fun g => i4 (by omega)⟩
      by_cases e : i = p
      · subst e
        exact h
      · exact i2 i (by omega) h2
    · rw [if_neg h]
      exact ⟨Nat.le_refl _, fun i h1 h2 => by omega, fun _ => h, fun g => g⟩
def t_fe (T : Nat) (tx : Nat → Int32) : Nat → Nat → Nat
  | 0, p => p
  | f + 1, p => if t_fig (t_b T tx p) then t_fe T tx f (p + 1) else p
theorem t_fe_ok {T : Nat} {tx : Nat → Int32} : ∀ (f p : Nat), p ≤ t_fe T tx f p ∧ (∀ i, p ≤ i → i < t_fe T tx f p → t_fig (t_b T tx i)) ∧ (T ≤ p + f → ¬ t_fig (t_b T tx (t_fe T tx f p))) ∧ (p ≤ T → t_fe T tx f p ≤ T) := by
  intro f
  induction f with
  | zero =>
    intro p
    refine ⟨Nat.le_refl _, fun i h1 h2 => by have h2 : i < p := h2; omega, fun h g => ?_, fun h => h⟩
    have g : t_fig (t_b T tx p) := g
    have e : t_b T tx p = -1 := if_neg (by omega)
    omega
  | succ f ih =>
    intro p
    obtain ⟨i1, i2, i3, i4⟩ := ih (p + 1)
    unfold t_fe
    by_cases h : t_fig (t_b T tx p)
    · have hp : p < T := by
        by_cases g : p < T
        · exact g
        · have e : t_b T tx p = -1 := if_neg g
          omega
      rw [if_pos h]
      refine ⟨by omega, fun i h1 h2 => ?_, fun g => i3 (by omega), fun g => i4 (by omega)⟩
      by_cases e : i = p
      · subst e
        exact h
      · exact i2 i (by omega) h2
    · rw [if_neg h]
      exact ⟨Nat.le_refl _, fun i h1 h2 => by omega, fun _ => h, fun g => g⟩
/-! tokens -/
/-- where the token behind pos begins -/
def t_q (T : Nat) (tx : Nat → Int32) (pos : Nat) : Nat := t_sk T tx T pos
/-- its kind: 0 end, 1 word, 2 number, 3 semicolon, 4 wrong -/
def t_kd (T : Nat) (tx : Nat → Int32) (q : Nat) : Nat := if T ≤ q then 0 else if t_b T tx q = 59 then 3 else if t_let (t_b T tx q) then 1 else if t_fig (t_b T tx q) then 2 else 4
/-- where it ends -/
def t_e (T : Nat) (tx : Nat → Int32) (q : Nat) : Nat := if T ≤ q then q else if t_b T tx q = 59 then q + 1 else if t_let (t_b T tx q) then t_le T tx T (q + 1) else if t_fig (t_b T tx q) then t_fe T tx T (q + 1) else q + 1
theorem t_q_ok {T : Nat} {tx : Nat → Int32} {pos : Nat} (h : pos ≤ T) : pos ≤ t_q T tx pos ∧ t_q T tx pos ≤ T ∧ ¬ t_b T tx (t_q T tx pos) = 32 := by
  obtain ⟨h1, h2, h3, h4⟩ := t_sk_ok (T := T) (tx := tx) T pos
  exact ⟨h1, h4 h, h3 (by omega)⟩
theorem t_e_ok {T : Nat} {tx : Nat → Int32} {q : Nat} (h : q ≤ T) : q ≤ t_e T tx q ∧ t_e T tx q ≤ T ∧ (¬ t_kd T tx q = 0 → q < t_e T tx q ∧ q < T) := by
  unfold t_e t_kd
  by_cases h0 : T ≤ q
  · rw [if_pos h0, if_pos h0]
    exact ⟨Nat.le_refl _, h, fun g => absurd rfl g⟩
  · rw [if_neg h0, if_neg h0]
    by_cases h1 : t_b T tx q = 59
    · rw [if_pos h1, if_pos h1]
      omega
    · rw [if_neg h1, if_neg h1]
      by_cases h2 : t_let (t_b T tx q)
      · rw [if_pos h2, if_pos h2]
        obtain ⟨g1, g2, g3, g4⟩ := t_le_ok (T := T) (tx := tx) T (q + 1)
        have g4 := g4 (by omega)
        omega
      · rw [if_neg h2, if_neg h2]
        by_cases h3 : t_fig (t_b T tx q)
        · rw [if_pos h3, if_pos h3]
          obtain ⟨g1, g2, g3, g4⟩ := t_fe_ok (T := T) (tx := tx) T (q + 1)
          have g4 := g4 (by omega)
          omega
        · rw [if_neg h3, if_neg h3]
          omega
theorem t_kd_le {T : Nat} {tx : Nat → Int32} {q : Nat} : t_kd T tx q ≤ 4 := by
  unfold t_kd
  repeat' split
  all_goals omega
/-- the bytes of a word, of a number -/
theorem t_word {T : Nat} {tx : Nat → Int32} {q : Nat} (h : t_kd T tx q = 1) : (∀ i, q ≤ i → i < t_e T tx q → t_let (t_b T tx i)) ∧ q < T ∧ t_let (t_b T tx q) ∧ ¬ t_b T tx q = 59 ∧ t_e T tx q = t_le T tx T (q + 1) := by
  unfold t_kd at h
  unfold t_e
  by_cases h0 : T ≤ q
  · rw [if_pos h0] at h
    cases h
  · rw [if_neg h0] at h ⊢
    by_cases h1 : t_b T tx q = 59
    · rw [if_pos h1] at h
      cases h
    · rw [if_neg h1] at h ⊢
      by_cases h2 : t_let (t_b T tx q)
      · rw [if_pos h2]
        obtain ⟨g1, g2, g3, g4⟩ := t_le_ok (T := T) (tx := tx) T (q + 1)
        refine ⟨fun i h3 h4 => ?_, by omega, h2, h1, rfl⟩
        by_cases e : i = q
        · subst e
          exact h2
        · exact g2 i (by omega) h4
      · rw [if_neg h2] at h
        by_cases h3 : t_fig (t_b T tx q)
        · rw [if_pos h3] at h
          cases h
        · rw [if_neg h3] at h
          cases h
theorem t_figs {T : Nat} {tx : Nat → Int32} {q : Nat} (h : t_kd T tx q = 2) : (∀ i, q ≤ i → i < t_e T tx q → t_fig (t_b T tx i)) ∧ q < T ∧ t_fig (t_b T tx q) ∧ t_e T tx q = t_fe T tx T (q + 1) := by
  unfold t_kd at h
  unfold t_e
  by_cases h0 : T ≤ q
  · rw [if_pos h0] at h
    cases h
  · rw [if_neg h0] at h ⊢
    by_cases h1 : t_b T tx q = 59
    · rw [if_pos h1] at h
      cases h
    · rw [if_neg h1] at h ⊢
      by_cases h2 : t_let (t_b T tx q)
      · rw [if_pos h2] at h
        cases h
      · rw [if_neg h2] at h ⊢
        by_cases h3 : t_fig (t_b T tx q)
        · rw [if_pos h3]
          obtain ⟨g1, g2, g3, g4⟩ := t_fe_ok (T := T) (tx := tx) T (q + 1)
          refine ⟨fun i h3 h4 => ?_, by omega, h3, rfl⟩
          by_cases e : i = q
          · subst e
            assumption
          · exact g2 i (by omega) h4
        · rw [if_neg h3] at h
          cases h
/-! numbers -/
/-- held just above the most -/
def t_nv (tx : Nat → Int32) : Nat → Nat → Nat → Nat
  | 0, _, a => a
  | k + 1, i, a => t_nv tx k (i + 1) (min (10 * a + (t_by tx i - 48)) 100)
def t_rv (tx : Nat → Int32) : Nat → Nat → Nat → Nat
  | 0, _, a => a
  | k + 1, i, a => t_rv tx k (i + 1) (if 99 < a then a else 10 * a + (t_by tx i - 48))
theorem t_nv_rv {tx : Nat → Int32} : ∀ (k i a : Nat), t_nv tx k i (min a 100) = min (t_rv tx k i a) 100 := by
  intro k
  induction k with
  | zero => intro i a; rfl
  | succ k ih =>
    intro i a
    show t_nv tx k (i + 1) (min (10 * min a 100 + (t_by tx i - 48)) 100) = min (t_rv tx k (i + 1) (if 99 < a then a else 10 * a + (t_by tx i - 48))) 100
    rw [← ih]
    congr 1
    by_cases h : 99 < a
    · rw [if_pos h]
      omega
    · rw [if_neg h]
      omega
theorem t_nv_le {tx : Nat → Int32} : ∀ (k i a : Nat), a ≤ 100 → t_nv tx k i a ≤ 100 := by
  intro k
  induction k with
  | zero => intro i a h; exact h
  | succ k ih =>
    intro i a _
    exact ih (i + 1) _ (by omega)
def t_val (T : Nat) (tx : Nat → Int32) (q : Nat) : Nat := t_nv tx (t_e T tx q - q) q 0
abbrev t_ok (T : Nat) (tx : Nat → Int32) (q : Nat) : Prop := ¬ (t_b T tx q = 48 ∧ q + 1 < t_e T tx q) ∧ t_val T tx q ≤ 99
abbrev t_isn (T : Nat) (tx : Nat → Int32) (lo hi : Int) (q : Nat) : Prop := t_kd T tx q = 2 ∧ t_ok T tx q ∧ lo ≤ (t_val T tx q : Int) ∧ (t_val T tx q : Int) ≤ hi
/-! words -/
abbrev t_w4 (T : Nat) (tx : Nat → Int32) (q : Nat) (c0 c1 c2 c3 : Int) : Prop := t_kd T tx q = 1 ∧ t_e T tx q = q + 4 ∧ t_b T tx q = c0 ∧ t_b T tx (q + 1) = c1 ∧ t_b T tx (q + 2) = c2 ∧ t_b T tx (q + 3) = c3
abbrev t_w5 (T : Nat) (tx : Nat → Int32) (q : Nat) (c0 c1 c2 c3 c4 : Int) : Prop := t_kd T tx q = 1 ∧ t_e T tx q = q + 5 ∧ t_b T tx q = c0 ∧ t_b T tx (q + 1) = c1 ∧ t_b T tx (q + 2) = c2 ∧ t_b T tx (q + 3) = c3 ∧ t_b T tx (q + 4) = c4
abbrev t_yd (T : Nat) (tx : Nat → Int32) (q : Nat) : Prop := t_w4 T tx q 121 97 114 100
abbrev t_hs (T : Nat) (tx : Nat → Int32) (q : Nat) : Prop := t_w5 T tx q 104 111 117 115 101
abbrev t_ch (T : Nat) (tx : Nat → Int32) (q : Nat) : Prop := t_w5 T tx q 99 104 97 105 110
/-- the letters of a word as one number, as the reference has it -/
def t_cd (T : Nat) (tx : Nat → Int32) (q : Nat) : Nat → Nat → Int → Int
  | 0, _, a => a
  | k + 1, j, a => t_cd T tx q k (j + 1) (if j < 5 then 27 * a + t_b T tx (q + j) - 96 else 0)
def t_code (T : Nat) (tx : Nat → Int32) (q : Nat) : Int := if 5 < t_e T tx q - q then 0 else t_cd T tx q (t_e T tx q - q) 0 0
theorem t_code_w {T : Nat} {tx : Nat → Int32} {q : Nat} (hq : q ≤ T) (h : t_kd T tx q = 1) : (t_code T tx q = 493294 ↔ t_yd T tx q) ∧ (t_code T tx q = 4562600 ↔ t_hs T tx q) ∧ (t_code T tx q = 1752773 ↔ t_ch T tx q) := by
  obtain ⟨w1, w2, w3, w4, w5⟩ := t_word h
  have he := (t_e_ok (tx := tx) hq).2.2 (by omega)
  unfold t_code t_yd t_hs t_ch t_w4 t_w5
  by_cases h5 : 5 < t_e T tx q - q
  · rw [if_pos h5]
    omega
  · rw [if_neg h5]
    have b0 := w1 q (by omega) (by omega)
    obtain h1 | h1 | h1 | h1 | h1 : t_e T tx q - q = 1 ∨ t_e T tx q - q = 2 ∨ t_e T tx q - q = 3 ∨ t_e T tx q - q = 4 ∨ t_e T tx q - q = 5 := by omega
    · rw [h1, show t_cd T tx q 1 0 0 = 27 * 0 + t_b T tx (q + 0) - 96 from rfl, Nat.add_zero]
      omega
    · have b1 := w1 (q + 1) (by omega) (by omega)
      rw [h1, show t_cd T tx q 2 0 0 = 27 * (27 * 0 + t_b T tx (q + 0) - 96) + t_b T tx (q + 1) - 96 from rfl, Nat.add_zero]
      omega
    · have b1 := w1 (q + 1) (by omega) (by omega)
      have b2 := w1 (q + 2) (by omega) (by omega)
      rw [h1, show t_cd T tx q 3 0 0 = 27 * (27 * (27 * 0 + t_b T tx (q + 0) - 96) + t_b T tx (q + 1) - 96) + t_b T tx (q + 2) - 96 from rfl, Nat.add_zero]
      omega
    · have b1 := w1 (q + 1) (by omega) (by omega)
      have b2 := w1 (q + 2) (by omega) (by omega)
      have b3 := w1 (q + 3) (by omega) (by omega)
      rw [h1, show t_cd T tx q 4 0 0 = 27 * (27 * (27 * (27 * 0 + t_b T tx (q + 0) - 96) + t_b T tx (q + 1) - 96) + t_b T tx (q + 2) - 96) + t_b T tx (q + 3) - 96 from rfl, Nat.add_zero]
      omega
    · have b1 := w1 (q + 1) (by omega) (by omega)
      have b2 := w1 (q + 2) (by omega) (by omega)
      have b3 := w1 (q + 3) (by omega) (by omega)
      have b4 := w1 (q + 4) (by omega) (by omega)
      rw [h1, show t_cd T tx q 5 0 0 = 27 * (27 * (27 * (27 * (27 * 0 + t_b T tx (q + 0) - 96) + t_b T tx (q + 1) - 96) + t_b T tx (q + 2) - 96) + t_b T tx (q + 3) - 96) + t_b T tx (q + 4) - 96 from rfl, Nat.add_zero]
      omega
/-! items -/
/-- a draft: (wide, high, limit), houses, how many chains, the chains -/
abbrev ZD : Type := (Nat × Nat × Nat) × Int32 × Nat × (Nat → ZK)
def t_dir (x : Int) : Int := if x = 110 then 0 else if x = 101 then 1 else if x = 115 then 2 else if x = 119 then 3 else -1
def t_st (T : Nat) (tx : Nat → Int32) (q : Nat) : Nat → Int := fun i => t_dir (t_b T tx (q + i))
section TI
variable (T : Nat) (tx : Nat → Int32)
def t_semi (D : ZD) (pos : Nat) : Nat ⊕ (ZD × Nat) := if t_kd T tx (t_q T tx pos) = 3 then .inr (D, t_e T tx (t_q T tx pos)) else .inl (t_q T tx pos)
def t_num {α : Type} (lo hi : Int) (pos : Nat) (k : Nat → Nat → Nat ⊕ α) : Nat ⊕ α := if t_isn T tx lo hi (t_q T tx pos) then k (t_val T tx (t_q T tx pos)) (t_e T tx (t_q T tx pos)) else .inl (t_q T tx pos)
def t_yard (D : ZD) (pos : Nat) : Nat ⊕ (ZD × Nat) := t_num T tx 1 5 pos (fun w e1 => t_num T tx 1 5 e1 (fun h e2 => t_num T tx 1 3 e2 (fun l e3 => t_semi T tx ((w, h, l), D.2) e3)))
def t_house (D : ZD) (pos : Nat) : Nat ⊕ (ZD × Nat) := t_num T tx 0 ((D.1.1 : Int) - 1) pos (fun x e1 => t_num T tx 0 ((D.1.2.1 : Int) - 1) e1 (fun y e2 => t_semi T tx (D.1, h_add D.2.1 (D.1.1 * y + x), D.2.2) e2))
abbrev t_go (D : ZD) (c q : Nat) : Prop := t_kd T tx q = 1 ∧ t_e T tx q - q ≤ 12 ∧ (p_pos D.1.1 D.1.2.1 D.2.1 c (t_st T tx q) (t_e T tx q - q)).isSome = true
def t_add (D : ZD) (c q : Nat) : ZD := (D.1, D.2.1, D.2.2.1 + 1, fun k => if k = D.2.2.1 then (c, t_e T tx q - q, t_st T tx q) else D.2.2.2 k)
def t_steps (D : ZD) (c pos : Nat) : Nat ⊕ (ZD × Nat) := if t_go T tx D c (t_q T tx pos) then t_semi T tx (t_add T tx D c (t_q T tx pos)) (t_e T tx (t_q T tx pos)) else .inl (t_q T tx pos)
def t_chain (D : ZD) (pos : Nat) : Nat ⊕ (ZD × Nat) := t_num T tx 0 ((D.1.1 : Int) - 1) pos (fun x e1 => t_num T tx 0 ((D.1.2.1 : Int) - 1) e1 (fun y e2 => if bt D.2.1 (D.1.1 * y + x) = true then .inl (t_q T tx e1) else t_steps T tx D (D.1.1 * y + x) e2))
/-- an item: its first token is at q -/
def t_item (m : Nat) (D : ZD) (q : Nat) : Nat ⊕ (ZD × Nat) := if t_yd T tx q then (if m = 0 then t_yard T tx D (t_e T tx q) else .inl q) else if t_hs T tx q ∧ D.2.2.1 = 0 then t_house T tx D (t_e T tx q) else if t_ch T tx q ∧ D.2.2.1 < 4 then t_chain T tx D (t_e T tx q) else .inl q
/-- all items from pos on -/
def t_run : Nat → Nat → ZD → Nat → Nat ⊕ (Nat × ZD)
  | 0, m, D, _ => .inr (m, D)
  | f + 1, m, D, pos => if t_kd T tx (t_q T tx pos) = 0 then .inr (m, D) else match t_item T tx m D (t_q T tx pos) with
    | .inl z => .inl z
    | .inr x => t_run f (m + 1) x.1 x.2
end TI
def t_D0 : ZD := ((5, 5, 1), zI 0, 0, fun _ => (0, 0, fun _ => 0))
def v_yard (T : Nat) (tx : Nat → Int32) : Int := match t_run T tx 201 0 t_D0 0 with
  | .inl f => -10 - (f : Int)
  | .inr x => (x.1 : Int)
def a_yard (T : Nat) (tx : Nat → Int32) (A : ZT) : ZT := match t_run T tx 201 0 t_D0 0 with
  | .inl _ => A
  | .inr x => ((0, tx), x.2.1, (x.2.2.1, A.2.2.1.2.1, x.2.2.2.1, x.2.2.2.2), fun _ => none, A.2.2.2.2)
/-- a draft is in order -/
def t_wf (D : ZD) : Prop := ((1 ≤ D.1.1 ∧ D.1.1 ≤ 5) ∧ (1 ≤ D.1.2.1 ∧ D.1.2.1 ≤ 5) ∧ (1 ≤ D.1.2.2 ∧ D.1.2.2 ≤ 3) ∧ D.2.2.1 ≤ 4) ∧ (∀ k, k < D.2.2.1 → p_ok D.1.1 D.1.2.1 D.2.1 (D.2.2.2 k)) ∧ p_in D.1.1 D.1.2.1 D.2.1
