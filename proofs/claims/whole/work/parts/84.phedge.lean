/-! HEDGES: pure -/
abbrev h_bit (c : Nat) : Int32 := zI 1 <<< (zI (c : Int) &&& 31)
/-- k cells from c on, a apart -/
def h_mk (c a : Nat) : Nat → Int32
  | 0 => zI 0
  | k + 1 => h_mk c a k ||| h_bit (c + k * a)
theorem b_zero (i : Nat) : bt (zI 0) i = false := b_0 i
theorem h_mk_bt {c a : Nat} : ∀ (k i : Nat), i < 32 → (∀ u, u < k → c + u * a < 32) → (bt (h_mk c a k) i = true ↔ ∃ u, u < k ∧ i = c + u * a) := by
  intro k
  induction k with
  | zero =>
    intro i hi _
    constructor
    · intro h
      rw [show h_mk c a 0 = zI 0 from rfl, b_zero] at h
      cases h
    · rintro ⟨u, hu, -⟩
      omega
  | succ k ih =>
    intro i hi hu
    rw [show h_mk c a (k + 1) = h_mk c a k ||| h_bit (c + k * a) from rfl, b_or, b_pow (hu k (by omega)) hi, Bool.or_eq_true, ih i hi (fun u h => hu u (by omega)), decide_eq_true_iff]
    constructor
    · rintro (⟨u, h1, h2⟩ | h)
      · exact ⟨u, by omega, h2⟩
      · exact ⟨k, by omega, h⟩
    · rintro ⟨u, h1, h2⟩
      by_cases e : u = k
      · subst e
        exact Or.inr h2
      · exact Or.inl ⟨u, by omega, h2⟩
theorem h_and0 {x y : Int32} : x &&& y = zI 0 ↔ ∀ i, i < 32 → ¬ (bt x i = true ∧ bt y i = true) := by
  constructor
  · intro h i hi g
    have this : bt (x &&& y) i = bt (zI 0) i := congrArg (fun z => bt z i) h
    rw [b_and, b_zero, g.1, g.2] at this
    cases this
  · intro h
    apply b_ext
    intro i hi
    rw [b_and, b_zero]
    have := h i hi
    cases h1 : bt x i <;> cases h2 : bt y i
    · rfl
    · rfl
    · rfl
    · exact absurd ⟨h1, h2⟩ this
theorem h_mk_hit {c a k : Nat} {hg : Int32} (hu : ∀ u, u < k → c + u * a < 32) : ¬ (h_mk c a k &&& hg = zI 0) ↔ ∃ u, u < k ∧ bt hg (c + u * a) = true := by
  rw [h_and0]
  constructor
  · intro h
    by_cases g : ∃ u, u < k ∧ bt hg (c + u * a) = true
    · exact g
    · refine absurd (fun i hi ⟨g1, g2⟩ => ?_) h
      obtain ⟨u, h1, h2⟩ := (h_mk_bt k i hi hu).mp g1
      exact g ⟨u, h1, by rw [← h2]; exact g2⟩
  · rintro ⟨u, h1, h2⟩ h
    exact h _ (hu u h1) ⟨(h_mk_bt k _ (hu u h1) hu).mpr ⟨u, h1, rfl⟩, h2⟩
/-! strips -/
theorem w_R_ok {b : Nat → Bool} {m L : Nat} : (∀ z, z ∈ w_R b m 0 false → z.2 ≤ L) ↔ ∀ i, i + L < m → ∃ u, u ≤ L ∧ b (i + u) = false := by
  constructor
  · intro h i hi
    by_cases g : ∃ u, u ≤ L ∧ b (i + u) = false
    · exact g
    · obtain ⟨x, x1, x2, x3⟩ := w_R_of (b := b) (L := L) (i := i) (fun u hu => by
        cases e : b (i + u) with
        | true => rfl
        | false => exact absurd ⟨u, hu, e⟩ g) m 0 false (Nat.zero_le _) (by omega) (fun g => by cases g)
      have := h x x1
      omega
  · intro h z hz
    obtain ⟨g1, g2, g3, g4⟩ := w_R_in m 0 false z hz
    by_cases e : z.2 ≤ L
    · exact e
    · obtain ⟨u, h1, h2⟩ := h z.1 (by omega)
      rw [g4 u (by omega)] at h2
      cases h2
theorem w_R_br {b g : Nat → Bool} {m L : Nat} : (∀ z, z ∈ w_R b m 0 false → ∀ t, t < z.2 - L → ∃ u, u < L + 1 ∧ g (z.1 + t + u) = true) ↔ ∀ z, z ∈ w_R (fun i => b i && !g i) m 0 false → z.2 ≤ L := by
  rw [w_R_ok]
  constructor
  · intro h i hi
    by_cases hh : ∃ u, u ≤ L ∧ b (i + u) = false
    · obtain ⟨u, h1, h2⟩ := hh
      exact ⟨u, h1, by rw [h2]; rfl⟩
    · obtain ⟨x, x1, x2, x3⟩ := w_R_of (b := b) (L := L) (i := i) (fun u hu => by
        cases e : b (i + u) with
        | true => rfl
        | false => exact absurd ⟨u, hu, e⟩ hh) m 0 false (Nat.zero_le _) (by omega) (fun g => by cases g)
      obtain ⟨u, h1, h2⟩ := h x x1 (i - x.1) (by omega)
      rw [show x.1 + (i - x.1) + u = i + u by omega] at h2
      exact ⟨u, by omega, by rw [h2]; exact Bool.and_false _⟩
  · intro h z hz t ht
    obtain ⟨g1, g2, g3, g4⟩ := w_R_in m 0 false z hz
    obtain ⟨u, h1, h2⟩ := h (z.1 + t) (by omega)
    rw [show z.1 + t + u = z.1 + (t + u) by omega, g4 (t + u) (by omega)] at h2
    refine ⟨u, by omega, ?_⟩
    rw [show z.1 + t + u = z.1 + (t + u) by omega]
    cases e : g (z.1 + (t + u)) with
    | true => rfl
    | false => rw [e] at h2; cases h2
theorem w_rows_mem {op : Int32} {W : Nat} {z : Nat × Nat} : ∀ (k y : Nat), z ∈ w_rows op W k y ↔ ∃ y', y ≤ y' ∧ y' < y + k ∧ z ∈ w_rs op W y' := by
  intro k
  induction k with
  | zero =>
    intro y
    constructor
    · intro h
      cases h
    · rintro ⟨y', h1, h2, -⟩
      omega
  | succ k ih =>
    intro y
    rw [show w_rows op W (k + 1) y = w_rs op W y ++ w_rows op W k (y + 1) from rfl, List.mem_append, ih]
    constructor
    · rintro (h | ⟨y', h1, h2, h3⟩)
      · exact ⟨y, Nat.le_refl _, by omega, h⟩
      · exact ⟨y', by omega, by omega, h3⟩
    · rintro ⟨y', h1, h2, h3⟩
      by_cases e : y' = y
      · subst e
        exact Or.inl h3
      · exact Or.inr ⟨y', by omega, by omega, h3⟩
theorem w_cols_mem {op : Int32} {W H : Nat} {z : Nat × Nat} : ∀ (k x : Nat), z ∈ w_cols op W H k x ↔ ∃ x', x ≤ x' ∧ x' < x + k ∧ z ∈ w_cs op W H x' := by
  intro k
  induction k with
  | zero =>
    intro y
    constructor
    · intro h
      cases h
    · rintro ⟨y', h1, h2, -⟩
      omega
  | succ k ih =>
    intro y
    rw [show w_cols op W H (k + 1) y = w_cs op W H y ++ w_cols op W H k (y + 1) from rfl, List.mem_append, ih]
    constructor
    · rintro (h | ⟨y', h1, h2, h3⟩)
      · exact ⟨y, Nat.le_refl _, by omega, h⟩
      · exact ⟨y', by omega, by omega, h3⟩
    · rintro ⟨y', h1, h2, h3⟩
      by_cases e : y' = y
      · subst e
        exact Or.inl h3
      · exact Or.inr ⟨y', by omega, by omega, h3⟩
theorem h_bits (op hg : Int32) (c : Nat) : bt (op &&& (hg ^^^ zI (-1))) c = (bt op c && !bt hg c) := by
  rw [b_and]
  by_cases h : c < 32
  · rw [b_neg hg h]
  · rw [b_big (by omega), Bool.false_and, Bool.false_and]
/-! the stretches -/
def h_s1 (f a : Nat) : Nat → Nat → List (Nat × Nat)
  | 0, _ => []
  | k + 1, t => (f + t * a, a) :: h_s1 f a k (t + 1)
def h_sl (L W nR : Nat) (l : List (Nat × Nat)) : Nat → Nat → List (Nat × Nat)
  | 0, _ => []
  | k + 1, j => h_s1 (w_fst l j) (if j < nR then 1 else W) (w_len l j - L) 0 ++ h_sl L W nR l k (j + 1)
theorem h_s1_mem {f a : Nat} {x : Nat × Nat} : ∀ (k t : Nat), x ∈ h_s1 f a k t ↔ ∃ u, t ≤ u ∧ u < t + k ∧ x = (f + u * a, a) := by
  intro k
  induction k with
  | zero =>
    intro t
    constructor
    · intro h
      cases h
    · rintro ⟨u, h1, h2, -⟩
      omega
  | succ k ih =>
    intro t
    rw [show h_s1 f a (k + 1) t = (f + t * a, a) :: h_s1 f a k (t + 1) from rfl, List.mem_cons, ih]
    constructor
    · rintro (h | ⟨u, h1, h2, h3⟩)
      · exact ⟨t, Nat.le_refl _, by omega, h⟩
      · exact ⟨u, by omega, by omega, h3⟩
    · rintro ⟨u, h1, h2, h3⟩
      by_cases e : u = t
      · subst e
        exact Or.inl h3
      · exact Or.inr ⟨u, by omega, by omega, h3⟩
theorem h_s1_len {f a : Nat} : ∀ (k t : Nat), (h_s1 f a k t).length = k := by
  intro k
  induction k with
  | zero => intro t; rfl
  | succ k ih =>
    intro t
    show (h_s1 f a k (t + 1)).length + 1 = k + 1
    rw [ih]
theorem h_sl_mem {L W nR : Nat} {l : List (Nat × Nat)} {x : Nat × Nat} : ∀ (k j : Nat), x ∈ h_sl L W nR l k j ↔ ∃ i, j ≤ i ∧ i < j + k ∧ ∃ t, t < w_len l i - L ∧ x = (w_fst l i + t * (if i < nR then 1 else W), if i < nR then 1 else W) := by
  intro k
  induction k with
  | zero =>
    intro j
    constructor
    · intro h
      cases h
    · rintro ⟨i, h1, h2, -⟩
      omega
  | succ k ih =>
    intro j
    rw [show h_sl L W nR l (k + 1) j = h_s1 (w_fst l j) (if j < nR then 1 else W) (w_len l j - L) 0 ++ h_sl L W nR l k (j + 1) from rfl, List.mem_append, ih, h_s1_mem]
    constructor
    · rintro (⟨u, h1, h2, h3⟩ | ⟨i, h1, h2, h3⟩)
      · exact ⟨j, Nat.le_refl _, by omega, u, by omega, h3⟩
      · exact ⟨i, by omega, by omega, h3⟩
    · rintro ⟨i, h1, h2, t, h3, h4⟩
      by_cases e : i = j
      · subst e
        exact Or.inl ⟨t, Nat.zero_le _, by omega, h4⟩
      · exact Or.inr ⟨i, by omega, by omega, t, h3, h4⟩
theorem w_hm_cons {L : Nat} {x : Nat × Nat} {l : List (Nat × Nat)} : ∀ k, w_hm L (x :: l) (k + 1) = (x.2 - L) + w_hm L l k := by
  intro k
  induction k with
  | zero =>
    show 0 + (x.2 - L) = (x.2 - L) + 0
    omega
  | succ k ih =>
    show w_hm L (x :: l) (k + 1) + (w_len (x :: l) (k + 1) - L) = (x.2 - L) + (w_hm L l k + (w_len l k - L))
    rw [ih, show w_len (x :: l) (k + 1) = w_len l k from rfl]
    omega
theorem w_hm_ex {L : Nat} (l : List (Nat × Nat)) : w_hm L l l.length = w_ex L l := by
  induction l with
  | nil => rfl
  | cons x l ih =>
    rw [List.length_cons, w_hm_cons, ih]
    rfl
theorem h_sl_len {L W nR : Nat} {l : List (Nat × Nat)} : ∀ (k j : Nat), (h_sl L W nR l k j).length + w_hm L l j = w_hm L l (j + k) := by
  intro k
  induction k with
  | zero => intro j; exact Nat.zero_add _
  | succ k ih =>
    intro j
    rw [show h_sl L W nR l (k + 1) j = h_s1 (w_fst l j) (if j < nR then 1 else W) (w_len l j - L) 0 ++ h_sl L W nR l k (j + 1) from rfl, List.length_append, h_s1_len, show j + (k + 1) = j + 1 + k by omega, ← ih]
    show _ = _ + (w_hm L l j + (w_len l j - L))
    omega
theorem w_rs_ex {op : Int32} {W L y : Nat} (hL : 1 ≤ L) : w_ex L (w_rs op W y) ≤ W - 1 := by
  unfold w_rs
  rw [w_ex_map (f := fun x : Nat × Nat => (W * y + x.1, x.2)) (fun x => rfl)]
  exact (w_R_ex hL W 0).1
theorem w_cs_ex {op : Int32} {W H L x : Nat} (hL : 1 ≤ L) : w_ex L (w_cs op W H x) ≤ H - 1 := by
  unfold w_cs
  rw [w_ex_map (f := fun z : Nat × Nat => (W * z.1 + x, z.2)) (fun x => rfl)]
  exact (w_R_ex hL H 0).1
theorem w_rows_ex {op : Int32} {W L : Nat} (hL : 1 ≤ L) (hW : W ≤ 5) : ∀ (k y : Nat), w_ex L (w_rows op W k y) ≤ 4 * k := by
  intro k
  induction k with
  | zero => intro y; exact Nat.le_refl _
  | succ k ih =>
    intro y
    rw [show w_rows op W (k + 1) y = w_rs op W y ++ w_rows op W k (y + 1) from rfl, w_ex_app]
    have := ih (y + 1)
    have := w_rs_ex (op := op) (W := W) (y := y) hL
    omega
theorem w_cols_ex {op : Int32} {W H L : Nat} (hL : 1 ≤ L) (hH : H ≤ 5) : ∀ (k x : Nat), w_ex L (w_cols op W H k x) ≤ 4 * k := by
  intro k
  induction k with
  | zero => intro y; exact Nat.le_refl _
  | succ k ih =>
    intro x
    rw [show w_cols op W H (k + 1) x = w_cs op W H x ++ w_cols op W H k (x + 1) from rfl, w_ex_app]
    have := ih (x + 1)
    have := w_cs_ex (op := op) (W := W) (H := H) (x := x) hL
    omega
/-- all stretches -/
def h_all (op : Int32) (W H L : Nat) : List (Nat × Nat) := h_sl L W (w_rows op W H 0).length (w_all op W H) (w_all op W H).length 0
theorem h_all_len {op : Int32} {W H L : Nat} (hL : 1 ≤ L) (hW : W ≤ 5) (hH : H ≤ 5) : (h_all op W H L).length ≤ 40 := by
  have h := h_sl_len (L := L) (W := W) (nR := (w_rows op W H 0).length) (l := w_all op W H) (w_all op W H).length 0
  rw [Nat.zero_add, w_hm_ex] at h
  have h1 := w_rows_ex (op := op) hL hW H 0
  have h2 := w_cols_ex (op := op) (W := W) hL hH W 0
  have e : w_ex L (w_all op W H) = w_ex L (w_rows op W H 0) + w_ex L (w_cols op W H W 0) := w_ex_app _ _
  have e2 : w_hm L (w_all op W H) 0 = 0 := rfl
  unfold h_all
  omega
theorem w_split {rows cols : List (Nat × Nat)} {W : Nat} {Q : Nat → Nat → Nat → Prop} : (∀ i, i < (rows ++ cols).length → Q (if i < rows.length then 1 else W) (w_fst (rows ++ cols) i) (w_len (rows ++ cols) i)) ↔ (∀ z, z ∈ rows → Q 1 z.1 z.2) ∧ ∀ z, z ∈ cols → Q W z.1 z.2 := by
  constructor
  · intro h
    refine ⟨fun z hz => ?_, fun z hz => ?_⟩
    · obtain ⟨i, hi, rfl⟩ := List.mem_iff_getElem.mp hz
      have := h i (by rw [List.length_append]; omega)
      unfold w_fst w_len at this
      rw [if_pos hi, List.getElem?_append, if_pos hi, List.getElem?_eq_getElem hi] at this
      exact this
    · obtain ⟨i, hi, rfl⟩ := List.mem_iff_getElem.mp hz
      have := h (rows.length + i) (by rw [List.length_append]; omega)
      unfold w_fst w_len at this
      rw [if_neg (by omega), List.getElem?_append, if_neg (by omega), Nat.add_sub_cancel_left, List.getElem?_eq_getElem hi] at this
      exact this
  · rintro ⟨h1, h2⟩ i hi
    rw [List.length_append] at hi
    unfold w_fst w_len
    rw [List.getElem?_append]
    by_cases e : i < rows.length
    · rw [if_pos e, if_pos e, List.getElem?_eq_getElem e]
      exact h1 _ (List.getElem_mem e)
    · rw [if_neg e, if_neg e, List.getElem?_eq_getElem (show i - rows.length < cols.length by omega)]
      exact h2 _ (List.getElem_mem _)
theorem h_sl_all {L W nR : Nat} {l : List (Nat × Nat)} {hg : Int32} : (∀ x, x ∈ h_sl L W nR l l.length 0 → ¬ (h_mk x.1 x.2 (L + 1) &&& hg = zI 0)) ↔ ∀ i, i < l.length → ∀ t, t < w_len l i - L → ¬ (h_mk (w_fst l i + t * (if i < nR then 1 else W)) (if i < nR then 1 else W) (L + 1) &&& hg = zI 0) := by
  constructor
  · intro h i hi t ht
    exact h (w_fst l i + t * (if i < nR then 1 else W), if i < nR then 1 else W) ((h_sl_mem _ _).mpr ⟨i, Nat.zero_le _, by omega, t, ht, rfl⟩)
  · intro h x hx
    obtain ⟨i, h1, h2, t, h3, rfl⟩ := (h_sl_mem _ _).mp hx
    exact h i (by omega) t h3
/-- no line has any harm behind these hedges -/
def h_P (W H L : Nat) (op hg : Int32) : Bool := decide (w_ex L (w_all (op &&& (hg ^^^ zI (-1))) W H) = 0)
theorem h_brk {W H L : Nat} {op hg : Int32} (hW : W ≤ 5) (hH : H ≤ 5) : (∀ x, x ∈ h_all op W H L → ¬ (h_mk x.1 x.2 (L + 1) &&& hg = zI 0)) ↔ h_P W H L op hg = true := by
  have hC := p_WH hW hH
  unfold h_P
  rw [decide_eq_true_iff, w_ex_0]
  unfold h_all
  rw [h_sl_all]
  have e2 : (∀ i, i < (w_all op W H).length → ∀ t, t < w_len (w_all op W H) i - L → ¬ (h_mk (w_fst (w_all op W H) i + t * (if i < (w_rows op W H 0).length then 1 else W)) (if i < (w_rows op W H 0).length then 1 else W) (L + 1) &&& hg = zI 0)) ↔ (∀ z, z ∈ w_rows op W H 0 → ∀ t, t < z.2 - L → ¬ (h_mk (z.1 + t * 1) 1 (L + 1) &&& hg = zI 0)) ∧ ∀ z, z ∈ w_cols op W H W 0 → ∀ t, t < z.2 - L → ¬ (h_mk (z.1 + t * W) W (L + 1) &&& hg = zI 0) := w_split (rows := w_rows op W H 0) (cols := w_cols op W H W 0) (W := W) (Q := fun a f n => ∀ t, t < n - L → ¬ (h_mk (f + t * a) a (L + 1) &&& hg = zI 0))
  rw [e2]
  have er : (∀ z, z ∈ w_rows op W H 0 → ∀ t, t < z.2 - L → ¬ (h_mk (z.1 + t * 1) 1 (L + 1) &&& hg = zI 0)) ↔ ∀ z, z ∈ w_rows (op &&& (hg ^^^ zI (-1))) W H 0 → z.2 ≤ L := by
    have key : ∀ y, y < H → ((∀ z, z ∈ w_rs op W y → ∀ t, t < z.2 - L → ¬ (h_mk (z.1 + t * 1) 1 (L + 1) &&& hg = zI 0)) ↔ ∀ z, z ∈ w_rs (op &&& (hg ^^^ zI (-1))) W y → z.2 ≤ L) := by
      intro y hy
      unfold w_rs
      rw [show (fun i => bt (op &&& (hg ^^^ zI (-1))) (W * y + i)) = (fun i => bt op (W * y + i) && !bt hg (W * y + i)) from funext (fun i => h_bits op hg _)]
      have br := w_R_br (b := fun i => bt op (W * y + i)) (g := fun i => bt hg (W * y + i)) (m := W) (L := L)
      constructor
      · intro h z hz
        obtain ⟨z', hz', rfl⟩ := List.mem_map.mp hz
        refine br.mp (fun x hx t ht => ?_) z' hz'
        obtain ⟨g1, g2, g3, g4⟩ := w_R_in W 0 false x hx
        have h9 := h _ (List.mem_map.mpr ⟨x, hx, rfl⟩) t ht
        have h9 := (h_mk_hit (fun u hu => by have := w_cell (W := W) (H := H) hy (show x.1 + t + u < W by omega); show W * y + x.1 + t * 1 + u * 1 < 32; omega)).mp h9
        obtain ⟨u, h1, h2⟩ := h9
        exact ⟨u, h1, by rw [show W * y + (x.1 + t + u) = W * y + x.1 + t * 1 + u * 1 by omega]; exact h2⟩
      · intro h z hz t ht
        obtain ⟨x, hx, rfl⟩ := List.mem_map.mp hz
        obtain ⟨g1, g2, g3, g4⟩ := w_R_in W 0 false x hx
        have ht : t < x.2 - L := ht
        refine (h_mk_hit (fun u hu => by have := w_cell (W := W) (H := H) hy (show x.1 + t + u < W by omega); show W * y + x.1 + t * 1 + u * 1 < 32; omega)).mpr ?_
        obtain ⟨u, h1, h2⟩ := br.mpr (fun z hz => h (W * y + z.1, z.2) (List.mem_map.mpr ⟨z, hz, rfl⟩)) x hx t ht
        exact ⟨u, h1, by show bt hg (W * y + x.1 + t * 1 + u * 1) = true; rw [show W * y + x.1 + t * 1 + u * 1 = W * y + (x.1 + t + u) by omega]; exact h2⟩
    constructor
    · intro h z hz
      obtain ⟨y, h1, h2, h3⟩ := (w_rows_mem _ _).mp hz
      exact (key y (by omega)).mp (fun x hx => h x ((w_rows_mem _ _).mpr ⟨y, h1, h2, hx⟩)) z h3
    · intro h z hz
      obtain ⟨y, h1, h2, h3⟩ := (w_rows_mem _ _).mp hz
      exact (key y (by omega)).mpr (fun x hx => h x ((w_rows_mem _ _).mpr ⟨y, h1, h2, hx⟩)) z h3
  have ec : (∀ z, z ∈ w_cols op W H W 0 → ∀ t, t < z.2 - L → ¬ (h_mk (z.1 + t * W) W (L + 1) &&& hg = zI 0)) ↔ ∀ z, z ∈ w_cols (op &&& (hg ^^^ zI (-1))) W H W 0 → z.2 ≤ L := by
    have key : ∀ x, x < W → ((∀ z, z ∈ w_cs op W H x → ∀ t, t < z.2 - L → ¬ (h_mk (z.1 + t * W) W (L + 1) &&& hg = zI 0)) ↔ ∀ z, z ∈ w_cs (op &&& (hg ^^^ zI (-1))) W H x → z.2 ≤ L) := by
      intro x hx
      unfold w_cs
      rw [show (fun i => bt (op &&& (hg ^^^ zI (-1))) (W * i + x)) = (fun i => bt op (W * i + x) && !bt hg (W * i + x)) from funext (fun i => h_bits op hg _)]
      have br := w_R_br (b := fun i => bt op (W * i + x)) (g := fun i => bt hg (W * i + x)) (m := H) (L := L)
      have ee : ∀ z t u : Nat, W * z + x + t * W + u * W = W * (z + t + u) + x := fun z t u => by
        rw [Nat.mul_add, Nat.mul_add, Nat.mul_comm t, Nat.mul_comm u]
        omega
      constructor
      · intro h z hz
        obtain ⟨z', hz', rfl⟩ := List.mem_map.mp hz
        refine br.mp (fun y hy t ht => ?_) z' hz'
        obtain ⟨g1, g2, g3, g4⟩ := w_R_in H 0 false y hy
        have h9 := h _ (List.mem_map.mpr ⟨y, hy, rfl⟩) t ht
        have h9 := (h_mk_hit (fun u hu => by have := w_cell (W := W) (H := H) (show y.1 + t + u < H by omega) hx; have := ee y.1 t u; show W * y.1 + x + t * W + u * W < 32; omega)).mp h9
        obtain ⟨u, h1, h2⟩ := h9
        exact ⟨u, h1, by rw [← ee]; exact h2⟩
      · intro h z hz t ht
        obtain ⟨y, hy, rfl⟩ := List.mem_map.mp hz
        obtain ⟨g1, g2, g3, g4⟩ := w_R_in H 0 false y hy
        have ht : t < y.2 - L := ht
        refine (h_mk_hit (fun u hu => by have := w_cell (W := W) (H := H) (show y.1 + t + u < H by omega) hx; have := ee y.1 t u; show W * y.1 + x + t * W + u * W < 32; omega)).mpr ?_
        obtain ⟨u, h1, h2⟩ := br.mpr (fun z hz => h (W * z.1 + x, z.2) (List.mem_map.mpr ⟨z, hz, rfl⟩)) y hy t ht
        exact ⟨u, h1, by show bt hg (W * y.1 + x + t * W + u * W) = true; rw [ee]; exact h2⟩
    constructor
    · intro h z hz
      obtain ⟨y, h1, h2, h3⟩ := (w_cols_mem _ _).mp hz
      exact (key y (by omega)).mp (fun x hx => h x ((w_cols_mem _ _).mpr ⟨y, h1, h2, hx⟩)) z h3
    · intro h z hz
      obtain ⟨y, h1, h2, h3⟩ := (w_cols_mem _ _).mp hz
      exact (key y (by omega)).mpr (fun x hx => h x ((w_cols_mem _ _).mpr ⟨y, h1, h2, hx⟩)) z h3
  rw [er, ec]
  unfold w_all
  constructor
  · rintro ⟨h1, h2⟩ z hz
    rcases List.mem_append.mp hz with hz | hz
    · exact h1 z hz
    · exact h2 z hz
  · intro h
    exact ⟨fun z hz => h z (List.mem_append.mpr (Or.inl hz)), fun z hz => h z (List.mem_append.mpr (Or.inr hz))⟩
/-! the search -/
def h_lp (op : Int32) (f : Nat → Nat → Int32 → Option (List Nat)) : Nat → Nat → Int32 → Option (List Nat)
  | 0, _, _ => none
  | k + 1, c, hg => if bt op c = true then (match f k (c + 1) (hg ||| h_bit c) with
    | some l => some (c :: l)
    | none => h_lp op f k (c + 1) hg) else h_lp op f k (c + 1) hg
/-- r hedges more, among k cells from c on -/
def h_find (P : Int32 → Bool) (op : Int32) : Nat → Nat → Nat → Int32 → Option (List Nat)
  | 0 => fun _ _ hg => if P hg = true then some [] else none
  | r + 1 => h_lp op (h_find P op r)
def h_lq (f : Nat → Nat → Int32 → Option (List Nat)) : Nat → Nat → Int32 → Option (List Nat)
  | 0, _, _ => none
  | k + 1, c, hg => match f k (c + 1) (hg ||| h_bit c) with
    | some l => some (c :: l)
    | none => h_lq f k (c + 1) hg
abbrev h_sub (op hg : Int32) : Prop := hg &&& (op ^^^ zI (-1)) = zI 0
/-- as the reference searches: what is not open is refused at the end -/
def h_fq (P : Int32 → Bool) (op : Int32) : Nat → Nat → Nat → Int32 → Option (List Nat)
  | 0 => fun _ _ hg => if h_sub op hg ∧ P hg = true then some [] else none
  | r + 1 => h_lq (h_fq P op r)
theorem h_sub_iff {op hg : Int32} : h_sub op hg ↔ ∀ i, i < 32 → bt hg i = true → bt op i = true := by
  unfold h_sub
  rw [h_and0]
  constructor
  · intro h i hi g
    have := h i hi
    rw [b_neg op hi] at this
    cases e : bt op i with
    | true => rfl
    | false => exact absurd ⟨g, by rw [e]; rfl⟩ this
  · intro h i hi g
    rw [b_neg op hi, h i hi g.1] at g
    cases g.2
theorem h_sub_or {op hg : Int32} {c : Nat} (hc : c < 32) : h_sub op (hg ||| h_bit c) ↔ h_sub op hg ∧ bt op c = true := by
  rw [h_sub_iff, h_sub_iff]
  constructor
  · intro h
    refine ⟨fun i hi g => h i hi (by rw [b_or, g]; rfl), h c hc ?_⟩
    rw [b_or, b_pow hc hc, decide_eq_true rfl]
    exact Bool.or_true _
  · rintro ⟨h1, h2⟩ i hi g
    rw [b_or, b_pow hc hi, Bool.or_eq_true] at g
    rcases g with g | g
    · exact h1 i hi g
    · rw [of_decide_eq_true g]
      exact h2
theorem h_fq_none {P : Int32 → Bool} {op : Int32} : ∀ (r k c : Nat) (hg : Int32), c + k ≤ 32 → ¬ h_sub op hg → h_fq P op r k c hg = none := by
  intro r
  induction r with
  | zero => intro k c hg _ h; exact if_neg (fun g => h g.1)
  | succ r ih =>
    intro k
    induction k with
    | zero => intro c hg _ _; rfl
    | succ k ih2 =>
      intro c hg hk h
      show (match h_fq P op r k (c + 1) (hg ||| h_bit c) with | some l => some (c :: l) | none => h_fq P op (r + 1) k (c + 1) hg) = none
      rw [ih k (c + 1) (hg ||| h_bit c) (by omega) (fun g => h ((h_sub_or (by omega)).mp g).1)]
      exact ih2 (c + 1) hg (by omega) h
theorem h_fq_eq {P : Int32 → Bool} {op : Int32} : ∀ (r k c : Nat) (hg : Int32), c + k ≤ 32 → h_sub op hg → h_fq P op r k c hg = h_find P op r k c hg := by
  intro r
  induction r with
  | zero =>
    intro k c hg _ h
    show (if h_sub op hg ∧ P hg = true then some [] else none) = (if P hg = true then some [] else none)
    by_cases g : P hg = true
    · rw [if_pos g, if_pos ⟨h, g⟩]
    · rw [if_neg g, if_neg (fun x => g x.2)]
  | succ r ih =>
    intro k
    induction k with
    | zero => intro c hg _ _; rfl
    | succ k ih2 =>
      intro c hg hk h
      show (match h_fq P op r k (c + 1) (hg ||| h_bit c) with | some l => some (c :: l) | none => h_fq P op (r + 1) k (c + 1) hg) = (if bt op c = true then (match h_find P op r k (c + 1) (hg ||| h_bit c) with | some l => some (c :: l) | none => h_find P op (r + 1) k (c + 1) hg) else h_find P op (r + 1) k (c + 1) hg)
      rw [ih2 (c + 1) hg (by omega) h]
      by_cases g : bt op c = true
      · rw [if_pos g, ih k (c + 1) _ (by omega) ((h_sub_or (by omega)).mpr ⟨h, g⟩)]
      · rw [if_neg g, h_fq_none r k (c + 1) _ (by omega) (fun x => g ((h_sub_or (by omega)).mp x).2)]
theorem h_find_ext {P : Int32 → Bool} {op : Int32} {e : Nat} : ∀ (r k c : Nat) (hg : Int32), (∀ c', c + k ≤ c' → bt op c' = false) → h_find P op r (k + e) c hg = h_find P op r k c hg := by
  intro r
  induction r with
  | zero => intro k c hg _; rfl
  | succ r ih =>
    intro k
    induction k with
    | zero =>
      intro c hg h
      rw [Nat.zero_add]
      have : ∀ e c, (∀ c', c ≤ c' → bt op c' = false) → h_lp op (h_find P op r) e c hg = none := by
        intro e
        induction e with
        | zero => intro c _; rfl
        | succ e ih3 =>
          intro c h
          unfold h_lp
          rw [if_neg (by rw [h c (Nat.le_refl _)]; exact Bool.false_ne_true)]
          exact ih3 (c + 1) (fun c' hc => h c' (by omega))
      exact this e c (fun c' hc => h c' (by omega))
    | succ k ih2 =>
      intro c hg h
      rw [show k + 1 + e = k + e + 1 by omega]
      show (if bt op c = true then (match h_find P op r (k + e) (c + 1) (hg ||| h_bit c) with | some l => some (c :: l) | none => h_find P op (r + 1) (k + e) (c + 1) hg) else h_find P op (r + 1) (k + e) (c + 1) hg) = (if bt op c = true then (match h_find P op r k (c + 1) (hg ||| h_bit c) with | some l => some (c :: l) | none => h_find P op (r + 1) k (c + 1) hg) else h_find P op (r + 1) k (c + 1) hg)
      rw [ih k (c + 1) _ (fun c' hc => h c' (by omega)), ih2 (c + 1) hg (fun c' hc => h c' (by omega))]
/-- n hedges that break all, the first such -/
def h_F (W H L : Nat) (op : Int32) (n : Nat) : Option (List Nat) := h_find (h_P W H L op) op n 25 0 (zI 0)
theorem h_F_q {W H L : Nat} {op : Int32} (hC : W * H ≤ 25) (h : ∀ c, W * H ≤ c → bt op c = false) (n : Nat) : h_fq (h_P W H L op) op n (W * H) 0 (zI 0) = h_F W H L op n := by
  have hs : h_sub op (zI 0) := h_sub_iff.mpr (fun i _ g => by rw [b_zero] at g; cases g)
  rw [h_fq_eq n (W * H) 0 (zI 0) (by omega) hs]
  have := h_find_ext (P := h_P W H L op) (op := op) (e := 25 - W * H) n (W * H) 0 (zI 0) (fun c' hc => h c' (by omega))
  rw [show W * H + (25 - W * H) = 25 by omega] at this
  exact this.symm
theorem h_find_len {P : Int32 → Bool} {op : Int32} : ∀ (r k c : Nat) (hg : Int32) (l : List Nat), h_find P op r k c hg = some l → l.length = r ∧ ∀ x, x ∈ l → x < c + k := by
  intro r
  induction r with
  | zero =>
    intro k c hg l h
    have h : (if P hg = true then some [] else none) = some l := h
    split at h
    · cases h
      exact ⟨rfl, fun x hx => by cases hx⟩
    · cases h
  | succ r ih =>
    intro k
    induction k with
    | zero => intro c hg l h; cases h
    | succ k ih2 =>
      intro c hg l h
      have h : (if bt op c = true then (match h_find P op r k (c + 1) (hg ||| h_bit c) with | some l => some (c :: l) | none => h_find P op (r + 1) k (c + 1) hg) else h_find P op (r + 1) k (c + 1) hg) = some l := h
      split at h
      · cases e : h_find P op r k (c + 1) (hg ||| h_bit c) with
        | some l2 =>
          rw [e] at h
          cases h
          obtain ⟨g1, g2⟩ := ih k (c + 1) _ l2 e
          refine ⟨by rw [List.length_cons, g1], fun x hx => ?_⟩
          rcases List.mem_cons.mp hx with rfl | hx
          · omega
          · have := g2 x hx
            omega
        | none =>
          rw [e] at h
          obtain ⟨g1, g2⟩ := ih2 (c + 1) hg l h
          exact ⟨g1, fun x hx => by have := g2 x hx; omega⟩
      · obtain ⟨g1, g2⟩ := ih2 (c + 1) hg l h
        exact ⟨g1, fun x hx => by have := g2 x hx; omega⟩
/-- how few: from n on, k tries -/
def h_sz (F : Nat → Option (List Nat)) : Nat → Nat → Option (Nat × List Nat)
  | 0, _ => none
  | k + 1, n => match F n with
    | some l => some (n, l)
    | none => h_sz F k (n + 1)
def v_hedges (F : Nat → Option (List Nat)) (i : Int) : Int := if -1 ≤ i ∧ i ≤ 2 then (match h_sz F 4 0 with
  | none => -9
  | some (n, l) => if i = -1 then (n : Int) else if i < (n : Int) then (l.getD i.toNat 0 : Int) else -5) else -1
theorem p_open_hi {W H : Nat} {hs t : Int32} (hC : W * H ≤ 25) {c : Nat} (hc : W * H ≤ c) : bt (p_open W H hs t) c = false := by
  by_cases h : c < 32
  · unfold p_open
    rw [b_and, b_and, b_low (W * H) (by omega) c h, decide_eq_false (by omega), Bool.false_and, Bool.false_and]
  · exact b_big (by omega)
