/-! WIND: pure. b: which of a strip's cells are open -/
/-- how long it stays open from the i-th on, of k -/
def w_rn (b : Nat → Bool) : Nat → Nat → Nat
  | 0, _ => 0
  | k + 1, i => if b i = true then w_rn b k (i + 1) + 1 else 0
/-- the lines of a strip: where they begin and how long they are; p: open ahead of i -/
def w_R (b : Nat → Bool) : Nat → Nat → Bool → List (Nat × Nat)
  | 0, _, _ => []
  | k + 1, i, p => if b i = true then (if p = true then w_R b k (i + 1) true else (i, w_rn b (k + 1) i) :: w_R b k (i + 1) true) else w_R b k (i + 1) false
/-- as the class finds them; o: the line that goes on -/
def w_C (b : Nat → Bool) : Nat → Nat → Option (Nat × Nat) → List (Nat × Nat)
  | 0, _, o => o.toList
  | k + 1, i, o => if b i = true then w_C b k (i + 1) (some (match o with | some x => (x.1, x.2 + 1) | none => (i, 1))) else o.toList ++ w_C b k (i + 1) none
theorem w_C_eq {b : Nat → Bool} : ∀ (k i : Nat), w_C b k i none = w_R b k i false ∧ ∀ s n, w_C b k i (some (s, n)) = (s, n + w_rn b k i) :: w_R b k i true := by
  intro k
  induction k with
  | zero => intro i; exact ⟨rfl, fun s n => rfl⟩
  | succ k ih =>
    intro i
    obtain ⟨h1, h2⟩ := ih (i + 1)
    unfold w_C w_R
    by_cases e : b i = true
    · rw [if_pos e, if_pos e, if_neg Bool.false_ne_true]
      have er : w_rn b (k + 1) i = w_rn b k (i + 1) + 1 := if_pos e
      refine ⟨?_, fun s n => ?_⟩
      · rw [er, show w_C b k (i + 1) (some (match (none : Option (Nat × Nat)) with | some x => (x.1, x.2 + 1) | none => (i, 1))) = w_C b k (i + 1) (some (i, 1)) from rfl, h2, Nat.add_comm 1]
      · rw [if_pos e, if_pos e, if_pos rfl, er, show w_C b k (i + 1) (some (match some (s, n) with | some x => (x.1, x.2 + 1) | none => (i, 1))) = w_C b k (i + 1) (some (s, n + 1)) from rfl, h2, show n + 1 + w_rn b k (i + 1) = n + (w_rn b k (i + 1) + 1) by omega]
    · rw [if_neg e, if_neg e, h1]
      have er : w_rn b (k + 1) i = 0 := if_neg e
      refine ⟨rfl, fun s n => ?_⟩
      rw [if_neg e, if_neg e, er]
      rfl
theorem w_rn_le {b : Nat → Bool} : ∀ (k i : Nat), w_rn b k i ≤ k ∧ (∀ u, u < w_rn b k i → b (i + u) = true) ∧ (w_rn b k i < k → b (i + w_rn b k i) = false) := by
  intro k
  induction k with
  | zero => intro i; exact ⟨Nat.le_refl 0, fun u hu => absurd hu (Nat.not_lt_zero _), fun h => absurd h (Nat.lt_irrefl _)⟩
  | succ k ih =>
    intro i
    obtain ⟨h1, h2, h3⟩ := ih (i + 1)
    unfold w_rn
    by_cases e : b i = true
    · rw [if_pos e]
      refine ⟨by omega, fun u hu => ?_, fun h => ?_⟩
      · by_cases e2 : u = 0
        · rw [e2]
          exact e
        · have := h2 (u - 1) (by omega)
          rw [show i + 1 + (u - 1) = i + u by omega] at this
          exact this
      · have := h3 (by omega)
        rw [show i + 1 + w_rn b k (i + 1) = i + (w_rn b k (i + 1) + 1) by omega] at this
        exact this
    · rw [if_neg e]
      refine ⟨by omega, fun u hu => by omega, fun h => ?_⟩
      cases e2 : b (i + 0) with
      | false => rfl
      | true => exact absurd e2 e
/-- what is in the row of lines -/
theorem w_R_in {b : Nat → Bool} : ∀ (k i : Nat) (p : Bool) (x : Nat × Nat), x ∈ w_R b k i p → i ≤ x.1 ∧ x.1 + x.2 ≤ i + k ∧ 1 ≤ x.2 ∧ ∀ u, u < x.2 → b (x.1 + u) = true := by
  intro k
  induction k with
  | zero => intro i p x hx; cases hx
  | succ k ih =>
    intro i p x hx
    unfold w_R at hx
    by_cases e : b i = true
    · rw [if_pos e] at hx
      by_cases hp : p = true
      · rw [if_pos hp] at hx
        obtain ⟨g1, g2, g3, g4⟩ := ih (i + 1) true x hx
        exact ⟨by omega, by omega, g3, g4⟩
      · rw [if_neg hp] at hx
        rcases List.mem_cons.mp hx with rfl | hx
        · obtain ⟨g1, g2, g3⟩ := w_rn_le (b := b) (k + 1) i
          have er : w_rn b (k + 1) i = w_rn b k (i + 1) + 1 := if_pos e
          exact ⟨Nat.le_refl _, by show i + w_rn b (k + 1) i ≤ i + (k + 1); omega, by show 1 ≤ w_rn b (k + 1) i; omega, g2⟩
        · obtain ⟨g1, g2, g3, g4⟩ := ih (i + 1) true x hx
          exact ⟨by omega, by omega, g3, g4⟩
    · rw [if_neg e] at hx
      obtain ⟨g1, g2, g3, g4⟩ := ih (i + 1) false x hx
      exact ⟨by omega, by omega, g3, g4⟩
/-- a stretch of open cells lies in a line -/
theorem w_R_of {b : Nat → Bool} {L i : Nat} (hw : ∀ u, u ≤ L → b (i + u) = true) : ∀ (k j : Nat) (p : Bool), j ≤ i → i + L < j + k → (p = true → j + w_rn b k j ≤ i) → ∃ x, x ∈ w_R b k j p ∧ x.1 ≤ i ∧ i + L < x.1 + x.2 := by
  intro k
  induction k with
  | zero => intro j p h1 h2; omega
  | succ k ih =>
    intro j p h1 h2 h3
    unfold w_R
    by_cases e : b j = true
    · have er : w_rn b (k + 1) j = w_rn b k (j + 1) + 1 := if_pos e
      rw [if_pos e]
      by_cases hp : p = true
      · rw [if_pos hp]
        have h3 := h3 hp
        exact ih (j + 1) true (by omega) (by omega) (fun _ => by omega)
      · rw [if_neg hp]
        by_cases hi : i < j + w_rn b (k + 1) j
        · refine ⟨(j, w_rn b (k + 1) j), List.mem_cons_self .., h1, ?_⟩
          show i + L < j + w_rn b (k + 1) j
          obtain ⟨g1, g2, g3⟩ := w_rn_le (b := b) (k + 1) j
          by_cases hh : i + L < j + w_rn b (k + 1) j
          · exact hh
          · have t1 := g3 (by omega)
            have t2 := hw (j + w_rn b (k + 1) j - i) (by omega)
            rw [show i + (j + w_rn b (k + 1) j - i) = j + w_rn b (k + 1) j by omega, t1] at t2
            cases t2
        · obtain ⟨x, x1, x2⟩ := ih (j + 1) true (by omega) (by omega) (fun _ => by omega)
          exact ⟨x, List.mem_cons_of_mem _ x1, x2⟩
    · rw [if_neg e]
      by_cases hi : i = j
      · have := hw 0 (Nat.zero_le _)
        rw [Nat.add_zero, hi] at this
        exact absurd this e
      · exact ih (j + 1) false (by omega) (by omega) (fun h => by cases h)
theorem w_R_len {b : Nat → Bool} : ∀ (k i : Nat), (w_R b k i false).length ≤ (k + 1) / 2 ∧ (w_R b k i true).length ≤ k / 2 := by
  intro k
  induction k with
  | zero => intro i; exact ⟨Nat.zero_le _, Nat.zero_le _⟩
  | succ k ih =>
    intro i
    obtain ⟨h1, h2⟩ := ih (i + 1)
    unfold w_R
    by_cases e : b i = true
    · rw [if_pos e, if_pos e, if_neg Bool.false_ne_true, if_pos rfl, List.length_cons]
      omega
    · rw [if_neg e, if_neg e]
      omega
/-- how far beyond the limit -/
def w_ex (L : Nat) : List (Nat × Nat) → Nat
  | [] => 0
  | x :: l => (x.2 - L) + w_ex L l
theorem w_ex_app {L : Nat} (l m : List (Nat × Nat)) : w_ex L (l ++ m) = w_ex L l + w_ex L m := by
  induction l with
  | nil => exact (Nat.zero_add _).symm
  | cons x l ih =>
    show (x.2 - L) + w_ex L (l ++ m) = (x.2 - L) + w_ex L l + w_ex L m
    rw [ih]
    omega
theorem w_ex_map {L : Nat} {f : Nat × Nat → Nat × Nat} (hf : ∀ x, (f x).2 = x.2) (l : List (Nat × Nat)) : w_ex L (l.map f) = w_ex L l := by
  induction l with
  | nil => rfl
  | cons x l ih =>
    show ((f x).2 - L) + w_ex L (l.map f) = (x.2 - L) + w_ex L l
    rw [ih, hf]
theorem w_R_ex {b : Nat → Bool} {L : Nat} (hL : 1 ≤ L) : ∀ (k i : Nat), w_ex L (w_R b k i false) ≤ k - 1 ∧ w_rn b k i + w_ex L (w_R b k i true) ≤ k ∧ w_ex L (w_R b k i true) ≤ k - 1 := by
  intro k
  induction k with
  | zero => intro i; exact ⟨Nat.zero_le _, Nat.zero_le _, Nat.zero_le _⟩
  | succ k ih =>
    intro i
    obtain ⟨h1, h2, h3⟩ := ih (i + 1)
    unfold w_R
    by_cases e : b i = true
    · have er : w_rn b (k + 1) i = w_rn b k (i + 1) + 1 := if_pos e
      rw [if_pos e, if_pos e, if_neg Bool.false_ne_true, if_pos rfl, er]
      refine ⟨?_, by omega, by omega⟩
      show (w_rn b k (i + 1) + 1 - L) + w_ex L (w_R b k (i + 1) true) ≤ k + 1 - 1
      omega
    · have er : w_rn b (k + 1) i = 0 := if_neg e
      rw [if_neg e, if_neg e, er]
      omega
theorem w_ex_0 {L : Nat} (l : List (Nat × Nat)) : w_ex L l = 0 ↔ ∀ x, x ∈ l → x.2 ≤ L := by
  induction l with
  | nil => exact ⟨fun _ x hx => (by cases hx), fun _ => rfl⟩
  | cons x l ih =>
    show (x.2 - L) + w_ex L l = 0 ↔ _
    constructor
    · intro h y hy
      rcases List.mem_cons.mp hy with rfl | hy
      · omega
      · exact ih.mp (by omega) y hy
    · intro h
      have h1 := h x (List.mem_cons_self ..)
      have h2 := ih.mpr (fun y hy => h y (List.mem_cons_of_mem _ hy))
      omega
/-! all lines of the yard -/
def w_rs (op : Int32) (W y : Nat) : List (Nat × Nat) := (w_R (fun i => bt op (W * y + i)) W 0 false).map (fun x => (W * y + x.1, x.2))
def w_cs (op : Int32) (W H x : Nat) : List (Nat × Nat) := (w_R (fun i => bt op (W * i + x)) H 0 false).map (fun z => (W * z.1 + x, z.2))
def w_rows (op : Int32) (W : Nat) : Nat → Nat → List (Nat × Nat)
  | 0, _ => []
  | k + 1, y => w_rs op W y ++ w_rows op W k (y + 1)
def w_cols (op : Int32) (W H : Nat) : Nat → Nat → List (Nat × Nat)
  | 0, _ => []
  | k + 1, x => w_cs op W H x ++ w_cols op W H k (x + 1)
def w_all (op : Int32) (W H : Nat) : List (Nat × Nat) := w_rows op W H 0 ++ w_cols op W H W 0
theorem w_cell {W H y i : Nat} (hy : y < H) (hi : i < W) : W * y + i < W * H := by
  have e3 : W * y + W ≤ W * H := by
    rw [← Nat.mul_succ]
    exact Nat.mul_le_mul_left W hy
  omega
abbrev w_in (l : List (Nat × Nat)) : Prop := ∀ x, x ∈ l → x.1 < 25 ∧ 1 ≤ x.2 ∧ x.2 ≤ 5
theorem w_in.app {l m : List (Nat × Nat)} (h1 : w_in l) (h2 : w_in m) : w_in (l ++ m) := fun x hx => by
  rcases List.mem_append.mp hx with h | h
  · exact h1 x h
  · exact h2 x h
theorem w_rs_in {op : Int32} {W H y : Nat} (hC : W * H ≤ 25) (hW : W ≤ 5) (hy : y < H) : w_in (w_rs op W y) := fun x hx => by
  obtain ⟨z, h1, rfl⟩ := List.mem_map.mp hx
  obtain ⟨g1, g2, g3, g4⟩ := w_R_in _ _ _ z h1
  have := w_cell (W := W) (H := H) hy (show z.1 < W by omega)
  exact ⟨by show W * y + z.1 < 25; omega, g3, by show z.2 ≤ 5; omega⟩
theorem w_cs_in {op : Int32} {W H x : Nat} (hC : W * H ≤ 25) (hH : H ≤ 5) (hx : x < W) : w_in (w_cs op W H x) := fun z hz => by
  obtain ⟨z, h1, rfl⟩ := List.mem_map.mp hz
  obtain ⟨g1, g2, g3, g4⟩ := w_R_in _ _ _ z h1
  have := w_cell (W := W) (H := H) (y := z.1) (by omega) hx
  exact ⟨by show W * z.1 + x < 25; omega, g3, by show z.2 ≤ 5; omega⟩
theorem w_rs_len {op : Int32} {W y : Nat} (hW : W ≤ 5) : (w_rs op W y).length ≤ 3 := by
  unfold w_rs
  rw [List.length_map]
  have := (w_R_len (b := fun i => bt op (W * y + i)) W 0).1
  omega
theorem w_cs_len {op : Int32} {W H x : Nat} (hH : H ≤ 5) : (w_cs op W H x).length ≤ 3 := by
  unfold w_cs
  rw [List.length_map]
  have := (w_R_len (b := fun i => bt op (W * i + x)) H 0).1
  omega
theorem w_rows_in {op : Int32} {W H : Nat} (hC : W * H ≤ 25) (hW : W ≤ 5) : ∀ (k y : Nat), y + k ≤ H → w_in (w_rows op W k y) ∧ (w_rows op W k y).length ≤ 3 * k := by
  intro k
  induction k with
  | zero => intro y _; exact ⟨fun x hx => (by cases hx), Nat.le_refl _⟩
  | succ k ih =>
    intro y hy
    obtain ⟨h1, h2⟩ := ih (y + 1) (by omega)
    have := w_rs_len (op := op) (y := y) hW
    refine ⟨(w_rs_in (H := H) hC hW (by omega)).app h1, ?_⟩
    show (w_rs op W y ++ w_rows op W k (y + 1)).length ≤ 3 * (k + 1)
    rw [List.length_append]
    omega
theorem w_cols_in {op : Int32} {W H : Nat} (hC : W * H ≤ 25) (hH : H ≤ 5) : ∀ (k x : Nat), x + k ≤ W → w_in (w_cols op W H k x) ∧ (w_cols op W H k x).length ≤ 3 * k := by
  intro k
  induction k with
  | zero => intro y _; exact ⟨fun x hx => (by cases hx), Nat.le_refl _⟩
  | succ k ih =>
    intro y hy
    obtain ⟨h1, h2⟩ := ih (y + 1) (by omega)
    have := w_cs_len (op := op) (W := W) (x := y) hH
    refine ⟨(w_cs_in hC hH (by omega)).app h1, ?_⟩
    show (w_cs op W H y ++ w_cols op W H k (y + 1)).length ≤ 3 * (k + 1)
    rw [List.length_append]
    omega
theorem w_all_in {op : Int32} {W H : Nat} (hW : W ≤ 5) (hH : H ≤ 5) : w_in (w_all op W H) ∧ (w_rows op W H 0).length ≤ 15 ∧ (w_all op W H).length ≤ 30 := by
  have hC := p_WH hW hH
  obtain ⟨h1, h2⟩ := w_rows_in (op := op) hC hW H 0 (by omega)
  obtain ⟨h3, h4⟩ := w_cols_in (op := op) hC hH W 0 (by omega)
  refine ⟨h1.app h3, by omega, ?_⟩
  unfold w_all
  rw [List.length_append]
  omega
/-! a row of lines in two rows of ints -/
def w_ls (l : List (Nat × Nat)) (fs ln : Nat → Int32) : Prop := ∀ j x, l[j]? = some x → fs j = zI (x.1 : Int) ∧ ln j = zI (x.2 : Int)
theorem w_one {x y : Nat × Nat} {k : Nat} (h : [x][k]? = some y) : k = 0 ∧ x = y := by
  cases k with
  | zero =>
    have h : some x = some y := h
    cases h
    exact ⟨rfl, rfl⟩
  | succ k => cases h
theorem w_ls.add {l : List (Nat × Nat)} {fs ln : Nat → Int32} (h : w_ls l fs ln) (a n : Nat) : w_ls (l ++ [(a, n)]) (upd fs l.length (zI (a : Int))) (upd ln l.length (zI (n : Int))) := by
  intro j x hx
  rw [List.getElem?_append] at hx
  split at hx
  · rename_i hj
    rw [pk_un (by omega), pk_un (by omega)]
    exact h j x hx
  · rename_i hj
    obtain ⟨e1, rfl⟩ := w_one hx
    obtain rfl : j = l.length := by omega
    exact ⟨pk_us, pk_us⟩
theorem w_ls.inc {l : List (Nat × Nat)} {a n : Nat} {fs ln : Nat → Int32} (h : w_ls (l ++ [(a, n)]) fs ln) : w_ls (l ++ [(a, n + 1)]) fs (upd ln l.length (zI ((n + 1 : Nat) : Int))) := by
  intro j x hx
  rw [List.getElem?_append] at hx
  split at hx
  · rename_i hj
    rw [pk_un (by omega)]
    exact h j x (by rw [List.getElem?_append, if_pos hj]; exact hx)
  · rename_i hj
    obtain ⟨e1, rfl⟩ := w_one hx
    obtain rfl : j = l.length := by omega
    have := h l.length (a, n) (by rw [List.getElem?_append, if_neg (Nat.lt_irrefl _), Nat.sub_self]; rfl)
    exact ⟨this.1, pk_us⟩
theorem w_ls.last {l : List (Nat × Nat)} {a n : Nat} {fs ln : Nat → Int32} (h : w_ls (l ++ [(a, n)]) fs ln) : ln l.length = zI (n : Int) := (h l.length (a, n) (by rw [List.getElem?_append, if_neg (Nat.lt_irrefl _), Nat.sub_self]; rfl)).2
def w_fst (l : List (Nat × Nat)) (j : Nat) : Nat := ((l[j]?).getD (0, 0)).1
def w_len (l : List (Nat × Nat)) (j : Nat) : Nat := ((l[j]?).getD (0, 0)).2
theorem w_ls.at {l : List (Nat × Nat)} {fs ln : Nat → Int32} (h : w_ls l fs ln) {j : Nat} (hj : j < l.length) : fs j = zI (w_fst l j : Int) ∧ ln j = zI (w_len l j : Int) := by
  have e : l[j]? = some l[j] := List.getElem?_eq_getElem hj
  have := h j _ e
  unfold w_fst w_len
  rw [e]
  exact this
theorem w_in.at {l : List (Nat × Nat)} (h : w_in l) {j : Nat} (hj : j < l.length) : w_fst l j < 25 ∧ 1 ≤ w_len l j ∧ w_len l j ≤ 5 := by
  have e : l[j]? = some l[j] := List.getElem?_eq_getElem hj
  unfold w_fst w_len
  rw [e]
  exact h _ (List.getElem_mem hj)
theorem w_len_le {l : List (Nat × Nat)} (h : w_in l) (j : Nat) : w_len l j ≤ 5 := by
  by_cases hj : j < l.length
  · exact (h.at hj).2.2
  · unfold w_len
    rw [List.getElem?_eq_none (by omega)]
    exact Nat.zero_le _
/-- the harm of the first k lines -/
def w_hm (L : Nat) (l : List (Nat × Nat)) : Nat → Nat
  | 0 => 0
  | k + 1 => w_hm L l k + (w_len l k - L)
theorem w_hm_le {L : Nat} {l : List (Nat × Nat)} (h : w_in l) : ∀ k, w_hm L l k ≤ 5 * k := by
  intro k
  induction k with
  | zero => exact Nat.le_refl _
  | succ k ih =>
    have := w_len_le h k
    show w_hm L l k + (w_len l k - L) ≤ 5 * (k + 1)
    omega
/-- the number of the longest of the first k; the first of these -/
def w_lg (f : Nat → Nat) : Nat → Nat
  | 0 => 0
  | k + 1 => if f (w_lg f k) < f k then k else w_lg f k
theorem w_lg_lt {f : Nat → Nat} : ∀ k, 0 < k → w_lg f k < k := by
  intro k
  induction k with
  | zero => intro h; omega
  | succ k ih =>
    intro _
    unfold w_lg
    split
    · omega
    · cases k with
      | zero => exact Nat.lt_succ_self 0
      | succ k =>
        have := ih (by omega)
        omega
theorem w_lg_1 {f : Nat → Nat} : w_lg f 1 = 0 := by
  unfold w_lg
  split <;> rfl
def v_lines (W H L : Nat) (op : Int32) (w : Int) : Int := if 0 ≤ w ∧ w ≤ 4 then (if w = 0 then ((w_all op W H).length : Int) else if w = 1 then (w_hm L (w_all op W H) (w_all op W H).length : Int) else if (w_all op W H).length = 0 then -9 else if w = 2 then (w_len (w_all op W H) (w_lg (w_len (w_all op W H)) (w_all op W H).length) : Int) else if w = 3 then (w_fst (w_all op W H) (w_lg (w_len (w_all op W H)) (w_all op W H).length) : Int) else if w_lg (w_len (w_all op W H)) (w_all op W H).length < (w_rows op W H 0).length then 0 else 1) else -1
/-- the lot -/
def g_lot (lot : Int32) : Nat → Int32
  | 0 => lot
  | k + 1 => g_lot lot k * zI 1103515245 + zI 12345
def g_u (x : Int32) : Nat := x.toBitVec.toNat / 65536
theorem g_u_lt (x : Int32) : g_u x < 65536 := by
  have := x.toBitVec.isLt
  unfold g_u
  omega
theorem g_u_eq (x : Int32) : (x.toUInt32 >>> ((zI 16).toUInt32 &&& Int32.toUInt32 31)).toInt32 = zI (g_u x : Int) := by
  have h := pk_ushr x (zI 16) 16 (by decide)
  apply Int32.toBitVec_inj.mp
  apply BitVec.eq_of_toNat_eq
  rw [h]
  show _ = (BitVec.ofInt 32 (g_u x : Int)).toNat
  rw [BitVec.ofInt_natCast, BitVec.toNat_ofNat, Nat.mod_eq_of_lt (by have := g_u_lt x; omega)]
  rfl
def g_sum (L : Nat) (l : List (Nat × Nat)) (lot : Int32) : Nat → Nat
  | 0 => 0
  | k + 1 => g_sum L l lot k + (w_len l (g_u (g_lot lot (k + 1)) % l.length) - L)
theorem g_sum_le {L : Nat} {l : List (Nat × Nat)} {lot : Int32} (h : w_in l) : ∀ k, g_sum L l lot k ≤ 5 * k := by
  intro k
  induction k with
  | zero => exact Nat.le_refl _
  | succ k ih =>
    have := w_len_le h (g_u (g_lot lot (k + 1)) % l.length)
    show g_sum L l lot k + (w_len l (g_u (g_lot lot (k + 1)) % l.length) - L) ≤ 5 * (k + 1)
    omega
def v_gusts (W H L : Nat) (op lot : Int32) (n : Int) : Int := if 1 ≤ n ∧ n ≤ 99 then (if (w_all op W H).length = 0 then 0 else (g_sum L (w_all op W H) lot n.toNat : Int)) else -1
def t_gusts (W H : Nat) (op lot : Int32) (n : Int) : Int32 := if (1 ≤ n ∧ n ≤ 99) ∧ ¬ (w_all op W H).length = 0 then g_lot lot n.toNat else lot
