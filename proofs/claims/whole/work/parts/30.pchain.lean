/-! RUNS of steps: pure words. s: the steps, N: how many -/
def p_back (s : Nat → Int) (v : Int) : Nat → Nat
  | 0 => 0
  | j + 1 => if s j = v then p_back s v j + 1 else 0
/-- how long the run is that ends with the i-th step -/
def p_run (s : Nat → Int) (i : Nat) : Nat := p_back s (s i) i + 1
def p_fr (s : Nat → Int) (N : Nat) : Nat → Nat → Nat
  | 0, k => k
  | n + 1, k => if k < N ∧ s k = s 0 then p_fr s N n (k + 1) else k
/-- how long the first run is -/
def p_first (s : Nat → Int) (N : Nat) : Nat := p_fr s N N 1
/-- the longest run among the first N steps -/
def p_long (s : Nat → Int) : Nat → Nat
  | 0 => 0
  | i + 1 => max (p_long s i) (p_run s i)
def p_strF (s : Nat → Int) (lim N : Nat) : Nat → Nat → Int
  | 0, _ => -9
  | n + 1, i => if i < N then (if lim < p_run s i then (i : Int) else p_strF s lim N n (i + 1)) else -9
/-- the first step with which a run is longer than lim; -9: none -/
def p_str (s : Nat → Int) (lim N : Nat) : Int := p_strF s lim N N 0
theorem p_back_le (s : Nat → Int) (v : Int) (j : Nat) : p_back s v j ≤ j := by
  induction j with
  | zero => exact Nat.le_refl 0
  | succ j ih =>
    unfold p_back
    split <;> omega
theorem p_run_le (s : Nat → Int) (i : Nat) : p_run s i ≤ i + 1 := Nat.succ_le_succ (p_back_le s _ i)
theorem p_run_pos (s : Nat → Int) (i : Nat) : 1 ≤ p_run s i := Nat.succ_le_succ (Nat.zero_le _)
theorem p_fr_le (s : Nat → Int) (N : Nat) : ∀ n k : Nat, p_fr s N n k ≤ max k N ∧ k ≤ p_fr s N n k := by
  intro n
  induction n with
  | zero => intro k; exact ⟨Nat.le_max_left _ _, Nat.le_refl _⟩
  | succ n ih =>
    intro k
    unfold p_fr
    split
    · have := ih (k + 1)
      omega
    · omega
theorem p_long_le (s : Nat → Int) (n : Nat) : p_long s n ≤ n := by
  induction n with
  | zero => exact Nat.le_refl 0
  | succ i ih =>
    unfold p_long
    have := p_run_le s i
    omega
theorem p_strF_in (s : Nat → Int) (lim N : Nat) : ∀ n i : Nat, p_strF s lim N n i = -9 ∨ (0 ≤ p_strF s lim N n i ∧ p_strF s lim N n i < N) := by
  intro n
  induction n with
  | zero => intro i; exact Or.inl rfl
  | succ n ih =>
    intro i
    unfold p_strF
    split
    · split
      · right
        omega
      · exact ih (i + 1)
    · exact Or.inl rfl
