/-! MEND: pure. a: what is behind a step; F: far; b: the last cell; m steps st; r: how many steps are left -/
def p_cst (s : Nat) (own : Int) : Nat := if (s : Int) = own then 0 else 1
def p_dv (F : Nat) (D : Nat → Nat) (own : Int) (s : Nat) (o : Option Nat) : Nat := match o with
  | some q => D q + p_cst s own
  | none => F
def p_mn (a : Nat → Nat → Option Nat) (F : Nat) (D : Nat → Nat) (own : Int) (p : Nat) : Nat → Nat
  | 0 => F
  | s + 1 => min (p_mn a F D own p s) (p_dv F D own s (a p s))
/-- the fewest steps that differ -/
def p_D (a : Nat → Nat → Option Nat) (F b m : Nat) (st : Nat → Int) : Nat → Nat → Nat
  | 0, p => if p / 13 = b then 0 else F
  | r + 1, p => p_mn a F (p_D a F b m st r) (st (m - (r + 1))) p 4
def p_pick (v : Nat → Nat) (t : Nat) : Nat := if v 0 ≤ t then 0 else if v 1 ≤ t then 1 else if v 2 ≤ t then 2 else 3
/-- the j-th step of the mended chain, from p -/
def p_mk (a : Nat → Nat → Option Nat) (b m : Nat) (st : Nat → Int) (j p : Nat) : Nat := p_pick (fun s => p_dv 1000 (p_D a 1000 b m st (m - (j + 1))) (st j) s (a p s)) (p_D a 1000 b m st (m - j) p)
/-- where it is ahead of its j-th step -/
def p_mp (a : Nat → Nat → Option Nat) (b m : Nat) (st : Nat → Int) (start : Nat) : Nat → Nat
  | 0 => start
  | j + 1 => (a (p_mp a b m st start j) (p_mk a b m st j (p_mp a b m st start j))).getD 0
theorem p_cst_le {s : Nat} {own : Int} : p_cst s own ≤ 1 := by
  unfold p_cst
  split <;> omega
theorem p_mn_le {a : Nat → Nat → Option Nat} {F : Nat} {D : Nat → Nat} {own : Int} {p : Nat} : ∀ n, p_mn a F D own p n ≤ F := by
  intro n
  induction n with
  | zero => exact Nat.le_refl F
  | succ n ih =>
    show min _ _ ≤ F
    omega
theorem p_mn_dv {a : Nat → Nat → Option Nat} {F : Nat} {D : Nat → Nat} {own : Int} {p : Nat} : ∀ n s, s < n → p_mn a F D own p n ≤ p_dv F D own s (a p s) := by
  intro n
  induction n with
  | zero => intro s hs; omega
  | succ n ih =>
    intro s hs
    show min _ _ ≤ _
    by_cases e : s = n
    · subst e
      exact Nat.min_le_right _ _
    · exact Nat.le_trans (Nat.min_le_left _ _) (ih s (by omega))
theorem p_mn_at {a : Nat → Nat → Option Nat} {F : Nat} {D : Nat → Nat} {own : Int} {p : Nat} : ∀ n, p_mn a F D own p n = F ∨ ∃ s, s < n ∧ p_mn a F D own p n = p_dv F D own s (a p s) := by
  intro n
  induction n with
  | zero => exact Or.inl rfl
  | succ n ih =>
    have e : p_mn a F D own p (n + 1) = min (p_mn a F D own p n) (p_dv F D own n (a p n)) := rfl
    by_cases h : p_mn a F D own p n ≤ p_dv F D own n (a p n)
    · rw [e, Nat.min_eq_left h]
      rcases ih with g | ⟨s, h1, h2⟩
      · exact Or.inl g
      · exact Or.inr ⟨s, by omega, h2⟩
    · exact Or.inr ⟨n, by omega, by rw [e, Nat.min_eq_right (by omega)]⟩
theorem p_D_le {a : Nat → Nat → Option Nat} {F b m : Nat} {st : Nat → Int} {r p : Nat} : p_D a F b m st r p ≤ F := by
  cases r with
  | zero =>
    show (if _ then 0 else F) ≤ F
    split <;> omega
  | succ r => exact p_mn_le 4
theorem p_D_fin {a : Nat → Nat → Option Nat} {F b m : Nat} {st : Nat → Int} : ∀ r p, p_D a F b m st r p = F ∨ p_D a F b m st r p ≤ r := by
  intro r
  induction r with
  | zero =>
    intro p
    show (if _ then 0 else F) = F ∨ (if _ then 0 else F) ≤ 0
    split
    · exact Or.inr (Nat.le_refl 0)
    · exact Or.inl rfl
  | succ r ih =>
    intro p
    have e : p_D a F b m st (r + 1) p = p_mn a F (p_D a F b m st r) (st (m - (r + 1))) p 4 := rfl
    have l := p_mn_le (a := a) (F := F) (D := p_D a F b m st r) (own := st (m - (r + 1))) (p := p) 4
    rw [e]
    rcases p_mn_at (a := a) (F := F) (D := p_D a F b m st r) (own := st (m - (r + 1))) (p := p) 4 with g | ⟨s, h1, h2⟩
    · exact Or.inl g
    · cases ha : a p s with
      | none => rw [ha] at h2; exact Or.inl h2
      | some q =>
        rw [ha] at h2
        have h2 : _ = p_D a F b m st r q + p_cst s (st (m - (r + 1))) := h2
        have := p_cst_le (s := s) (own := st (m - (r + 1)))
        rcases ih q with g | g
        · rw [g] at h2
          left
          omega
        · right
          omega
theorem p_D_rel {W H L : Nat} {hs : Int32} {b m : Nat} {st : Nat → Int} (hL : L ≤ 3) : ∀ r p, r ≤ 100 → p_val L p → (p_D (p_aR W H L hs) 999 b m st r p = p_D (p_aC W H L hs) 1000 b m st r p ∧ p_D (p_aC W H L hs) 1000 b m st r p ≤ r) ∨ (p_D (p_aR W H L hs) 999 b m st r p = 999 ∧ p_D (p_aC W H L hs) 1000 b m st r p = 1000) := by
  intro r
  induction r with
  | zero =>
    intro p _ _
    show ((if _ then 0 else 999) = (if _ then 0 else 1000) ∧ (if _ then 0 else 1000) ≤ 0) ∨ ((if _ then 0 else 999) = 999 ∧ (if _ then 0 else 1000) = 1000)
    by_cases g : p / 13 = b
    · rw [if_pos g, if_pos g]
      exact Or.inl ⟨rfl, Nat.le_refl 0⟩
    · rw [if_neg g, if_neg g]
      exact Or.inr ⟨rfl, rfl⟩
  | succ r ih =>
    intro p hr hp
    have key : ∀ n, n ≤ 4 → (p_mn (p_aR W H L hs) 999 (p_D (p_aR W H L hs) 999 b m st r) (st (m - (r + 1))) p n = p_mn (p_aC W H L hs) 1000 (p_D (p_aC W H L hs) 1000 b m st r) (st (m - (r + 1))) p n ∧ p_mn (p_aC W H L hs) 1000 (p_D (p_aC W H L hs) 1000 b m st r) (st (m - (r + 1))) p n ≤ r + 1) ∨ (p_mn (p_aR W H L hs) 999 (p_D (p_aR W H L hs) 999 b m st r) (st (m - (r + 1))) p n = 999 ∧ p_mn (p_aC W H L hs) 1000 (p_D (p_aC W H L hs) 1000 b m st r) (st (m - (r + 1))) p n = 1000) := by
      intro n
      induction n with
      | zero => intro _; exact Or.inr ⟨rfl, rfl⟩
      | succ n ih2 =>
        intro hn
        have k2 := ih2 (by omega)
        show (min _ (p_dv 999 _ _ n (p_aR W H L hs p n)) = min _ (p_dv 1000 _ _ n (p_aC W H L hs p n)) ∧ min _ (p_dv 1000 _ _ n (p_aC W H L hs p n)) ≤ r + 1) ∨ (min _ (p_dv 999 _ _ n (p_aR W H L hs p n)) = 999 ∧ min _ (p_dv 1000 _ _ n (p_aC W H L hs p n)) = 1000)
        rw [p_a_eq hp]
        cases ha : p_aC W H L hs p n with
        | none =>
          show (min _ 999 = min _ 1000 ∧ min _ 1000 ≤ r + 1) ∨ (min _ 999 = 999 ∧ min _ 1000 = 1000)
          omega
        | some q =>
          have k3 := ih q (by omega) (p_aC_val (by omega) hL ha)
          have := p_cst_le (s := n) (own := st (m - (r + 1)))
          show (min _ (p_D (p_aR W H L hs) 999 b m st r q + p_cst n (st (m - (r + 1)))) = min _ (p_D (p_aC W H L hs) 1000 b m st r q + p_cst n (st (m - (r + 1)))) ∧ min _ (p_D (p_aC W H L hs) 1000 b m st r q + p_cst n (st (m - (r + 1)))) ≤ r + 1) ∨ (min _ (p_D (p_aR W H L hs) 999 b m st r q + p_cst n (st (m - (r + 1)))) = 999 ∧ min _ (p_D (p_aC W H L hs) 1000 b m st r q + p_cst n (st (m - (r + 1)))) = 1000)
          omega
    exact key 4 (Nat.le_refl 4)
theorem p_pick_ok {v : Nat → Nat} {t : Nat} (h : ∃ s, s < 4 ∧ v s ≤ t) : p_pick v t < 4 ∧ v (p_pick v t) ≤ t ∧ ∀ s, s < p_pick v t → ¬ v s ≤ t := by
  unfold p_pick
  by_cases h0 : v 0 ≤ t
  · rw [if_pos h0]
    exact ⟨by decide, h0, fun s hs => by omega⟩
  · rw [if_neg h0]
    by_cases h1 : v 1 ≤ t
    · rw [if_pos h1]
      exact ⟨by decide, h1, fun s hs => by
        obtain rfl : s = 0 := by omega
        exact h0⟩
    · rw [if_neg h1]
      by_cases h2 : v 2 ≤ t
      · rw [if_pos h2]
        exact ⟨by decide, h2, fun s hs => by
          obtain rfl | rfl : s = 0 ∨ s = 1 := by omega
          · exact h0
          · exact h1⟩
      · rw [if_neg h2]
        have h3 : v 3 ≤ t := by
          obtain ⟨s, g1, g2⟩ := h
          obtain rfl | rfl | rfl | rfl : s = 0 ∨ s = 1 ∨ s = 2 ∨ s = 3 := by omega
          · exact absurd g2 h0
          · exact absurd g2 h1
          · exact absurd g2 h2
          · exact g2
        exact ⟨by decide, h3, fun s hs => by
          obtain rfl | rfl | rfl : s = 0 ∨ s = 1 ∨ s = 2 := by omega
          · exact h0
          · exact h1
          · exact h2⟩
/-- a step of the mended chain: it leads on, and to the fewest -/
theorem p_mk_ok {W H L : Nat} {hs : Int32} {b m : Nat} {st : Nat → Int} {j p : Nat} (hj : j < m) (hm : m ≤ 12) (hf : p_D (p_aC W H L hs) 1000 b m st (m - j) p < 1000) : p_mk (p_aC W H L hs) b m st j p < 4 ∧ (∃ q, p_aC W H L hs p (p_mk (p_aC W H L hs) b m st j p) = some q ∧ p_D (p_aC W H L hs) 1000 b m st (m - (j + 1)) q + p_cst (p_mk (p_aC W H L hs) b m st j p) (st j) = p_D (p_aC W H L hs) 1000 b m st (m - j) p) ∧ ∀ s, s < p_mk (p_aC W H L hs) b m st j p → p_D (p_aC W H L hs) 1000 b m st (m - j) p < p_dv 1000 (p_D (p_aC W H L hs) 1000 b m st (m - (j + 1))) (st j) s (p_aC W H L hs p s) := by
  have e : p_D (p_aC W H L hs) 1000 b m st (m - j) p = p_mn (p_aC W H L hs) 1000 (p_D (p_aC W H L hs) 1000 b m st (m - (j + 1))) (st j) p 4 := by
    rw [show m - j = m - (j + 1) + 1 by omega]
    show p_mn _ _ _ (st (m - (m - (j + 1) + 1))) p 4 = _
    rw [show m - (m - (j + 1) + 1) = j by omega]
  have hp := p_pick_ok (v := fun s => p_dv 1000 (p_D (p_aC W H L hs) 1000 b m st (m - (j + 1))) (st j) s (p_aC W H L hs p s)) (t := p_D (p_aC W H L hs) 1000 b m st (m - j) p) (by
    rcases p_mn_at (a := p_aC W H L hs) (F := 1000) (D := p_D (p_aC W H L hs) 1000 b m st (m - (j + 1))) (own := st j) (p := p) 4 with g | ⟨s, h1, h2⟩
    · rw [e, g] at hf
      omega
    · exact ⟨s, h1, by rw [e, h2]; exact Nat.le_refl _⟩)
  obtain ⟨h1, h2, h3⟩ := hp
  have hk : p_pick (fun s => p_dv 1000 (p_D (p_aC W H L hs) 1000 b m st (m - (j + 1))) (st j) s (p_aC W H L hs p s)) (p_D (p_aC W H L hs) 1000 b m st (m - j) p) = p_mk (p_aC W H L hs) b m st j p := rfl
  rw [hk] at h1 h2 h3
  refine ⟨h1, ?_, fun s hs9 => Nat.lt_of_not_le (h3 s hs9)⟩
  have l := p_mn_dv (a := p_aC W H L hs) (F := 1000) (D := p_D (p_aC W H L hs) 1000 b m st (m - (j + 1))) (own := st j) (p := p) 4 _ h1
  rw [← e] at l
  have h2 : p_dv 1000 (p_D (p_aC W H L hs) 1000 b m st (m - (j + 1))) (st j) (p_mk (p_aC W H L hs) b m st j p) (p_aC W H L hs p (p_mk (p_aC W H L hs) b m st j p)) ≤ p_D (p_aC W H L hs) 1000 b m st (m - j) p := h2
  cases ha : p_aC W H L hs p (p_mk (p_aC W H L hs) b m st j p) with
  | none =>
    rw [ha] at h2
    have h2 : 1000 ≤ p_D (p_aC W H L hs) 1000 b m st (m - j) p := h2
    omega
  | some q =>
    rw [ha] at h2 l
    exact ⟨q, rfl, Nat.le_antisymm h2 l⟩
theorem p_mp_ok {W H L : Nat} {hs : Int32} {b m : Nat} {st : Nat → Int} {start : Nat} (hm : m ≤ 12) (hL : L ≤ 3) (hs0 : start < 13 * (W * H)) (hv : p_val L start) (hf : p_D (p_aC W H L hs) 1000 b m st m start < 1000) : ∀ j, j ≤ m → p_mp (p_aC W H L hs) b m st start j < 13 * (W * H) ∧ p_val L (p_mp (p_aC W H L hs) b m st start j) ∧ p_D (p_aC W H L hs) 1000 b m st (m - j) (p_mp (p_aC W H L hs) b m st start j) < 1000 := by
  intro j
  induction j with
  | zero => intro _; exact ⟨hs0, hv, hf⟩
  | succ j ih =>
    intro hj
    obtain ⟨h1, h2, h3⟩ := ih (by omega)
    obtain ⟨g1, ⟨q, g2, g3⟩, g4⟩ := p_mk_ok (show j < m by omega) hm h3
    have e : p_mp (p_aC W H L hs) b m st start (j + 1) = q := by
      show (p_aC W H L hs (p_mp (p_aC W H L hs) b m st start j) (p_mk (p_aC W H L hs) b m st j (p_mp (p_aC W H L hs) b m st start j))).getD 0 = q
      rw [g2]
      rfl
    rw [e]
    exact ⟨p_aC_lt g1 hL h1 g2, p_aC_val g1 hL g2, by omega⟩
theorem z_min {x y : Nat} (hx : x ≤ 100000) (hy : y ≤ 100000) : (if zI (y : Int) < zI (x : Int) then zI (y : Int) else zI (x : Int)) = zI ((min x y : Nat) : Int) := by
  by_cases h : y < x
  · rw [if_pos (by rw [zI_lt ⟨by omega, by omega⟩ ⟨by omega, by omega⟩]; omega), show min x y = y by omega]
  · rw [if_neg (by rw [zI_lt ⟨by omega, by omega⟩ ⟨by omega, by omega⟩]; omega), show min x y = x by omega]
