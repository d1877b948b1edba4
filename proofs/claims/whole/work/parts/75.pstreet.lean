/-! STREET: pure. The figures of a number, the highest first, each less one -/
def s_dF : Nat → Nat → Nat
  | 0, _ => 0
  | f + 1, z => if z = 0 then 0 else s_dF f (z / 10) + 1
/-- how many figures -/
def s_dl (z : Nat) : Nat := s_dF 10 z
def s_st (z : Nat) : Nat → Int := fun i => ((z / 10 ^ (s_dl z - 1 - i) % 10 : Nat) : Int) - 1
def p_un : Nat → Nat
  | 0 => 0
  | m + 1 => 10 ^ m
theorem s_pow (j : Nat) : 1 ≤ 10 ^ j := Nat.one_le_pow _ _ (by decide)
theorem s_dF_iff : ∀ (f z j : Nat), j < s_dF f z ↔ 10 ^ j ≤ z ∧ j < f := by
  intro f
  induction f with
  | zero =>
    intro z j
    exact ⟨fun h => absurd h (Nat.not_lt_zero _), fun h => absurd h.2 (Nat.not_lt_zero _)⟩
  | succ f ih =>
    intro z j
    unfold s_dF
    by_cases e : z = 0
    · rw [if_pos e]
      have := s_pow j
      exact ⟨fun h => by omega, fun h => by omega⟩
    · rw [if_neg e]
      cases j with
      | zero => exact ⟨fun h => ⟨by have : (10 : Nat) ^ 0 = 1 := rfl; omega, by omega⟩, fun h => by omega⟩
      | succ j =>
        have i := ih (z / 10) j
        rw [Nat.le_div_iff_mul_le (by decide), ← Nat.pow_succ] at i
        constructor
        · intro h
          have i := i.mp (by omega)
          exact ⟨i.1, by omega⟩
        · intro h
          have i := i.mpr ⟨h.1, by omega⟩
          omega
theorem s_dl_iff {z j : Nat} (hj : j < 10) : j < s_dl z ↔ 10 ^ j ≤ z := by
  have := s_dF_iff 10 z j
  unfold s_dl
  constructor
  · intro h
    exact (this.mp h).1
  · intro h
    exact this.mpr ⟨h, hj⟩
theorem s_dl_1 {z : Nat} (h : 1 ≤ z) : 1 ≤ s_dl z := (s_dl_iff (j := 0) (by decide)).mpr h
theorem s_dl_9 {z : Nat} : s_dl z ≤ 9 ↔ z ≤ 999999999 := by
  have h := s_dl_iff (z := z) (j := 9) (by decide)
  rw [show (10 : Nat) ^ 9 = 1000000000 from rfl] at h
  omega
theorem s_un {m : Nat} : p_un (m + 1) / 10 = p_un m := by
  cases m with
  | zero => rfl
  | succ m =>
    show 10 ^ (m + 1) / 10 = 10 ^ m
    rw [Nat.pow_succ]
    exact Nat.mul_div_cancel _ (by decide)
theorem s_dig {z m : Nat} : z % 10 ^ (m + 1) / 10 ^ m = z / 10 ^ m % 10 := by
  rw [Nat.pow_succ]
  exact Nat.mod_mul_right_div_self z (10 ^ m) 10
theorem s_rem {z m : Nat} : z % 10 ^ (m + 1) % 10 ^ m = z % 10 ^ m := by
  rw [Nat.pow_succ]
  exact Nat.mod_mul_right_mod z (10 ^ m) 10
theorem s_st_at {z m : Nat} (h : m < s_dl z) : s_st z (s_dl z - 1 - m) = ((z / 10 ^ m % 10 : Nat) : Int) - 1 := by
  unfold s_st
  rw [show s_dl z - 1 - (s_dl z - 1 - m) = m by omega]
theorem s_st_in {z i : Nat} : -1 ≤ s_st z i ∧ s_st z i ≤ 8 := by
  unfold s_st
  omega
/-! runs, ahead and back -/
def p_fw (s : Nat → Int) (N i : Nat) : Nat → Nat → Nat
  | 0, t => t
  | m + 1, t => if i + t < N ∧ s (i + t) = s i then p_fw s N i m (t + 1) else t
/-- how long the run is that begins with the i-th step -/
def p_fwd (s : Nat → Int) (N i : Nat) : Nat := p_fw s N i N 1
theorem p_fw_ok {s : Nat → Int} {N i : Nat} : ∀ (m t : Nat), t ≤ p_fw s N i m t ∧ p_fw s N i m t ≤ t + m ∧ (∀ u, t ≤ u → u < p_fw s N i m t → i + u < N ∧ s (i + u) = s i) ∧ (p_fw s N i m t = t + m ∨ ¬ (i + p_fw s N i m t < N ∧ s (i + p_fw s N i m t) = s i)) := by
  intro m
  induction m with
  | zero =>
    intro t
    exact ⟨Nat.le_refl _, Nat.le_refl _, fun u h1 h2 => by have : u < t := h2; omega, Or.inl rfl⟩
  | succ m ih =>
    intro t
    unfold p_fw
    by_cases h : i + t < N ∧ s (i + t) = s i
    · rw [if_pos h]
      obtain ⟨g1, g2, g3, g4⟩ := ih (t + 1)
      refine ⟨by omega, by omega, fun u h1 h2 => ?_, ?_⟩
      · by_cases e : u = t
        · subst e
          exact h
        · exact g3 u (by omega) h2
      · rcases g4 with g4 | g4
        · left
          omega
        · exact Or.inr g4
    · rw [if_neg h]
      exact ⟨Nat.le_refl _, by omega, fun u h1 h2 => by omega, Or.inr h⟩
theorem p_fwd_0 {s : Nat → Int} {N : Nat} : p_fwd s N 0 = p_first s N := by
  have : ∀ m t, p_fw s N 0 m t = p_fr s N m t := by
    intro m
    induction m with
    | zero => intro t; rfl
    | succ m ih =>
      intro t
      unfold p_fw p_fr
      rw [Nat.zero_add, ih]
  exact this N 1
theorem p_back_ge {s : Nat → Int} {v : Int} : ∀ (j r : Nat), r ≤ j → (∀ t, t < r → s (j - 1 - t) = v) → r ≤ p_back s v j := by
  intro j
  induction j with
  | zero => intro r h _; exact h
  | succ j ih =>
    intro r hr h
    cases r with
    | zero => exact Nat.zero_le _
    | succ r =>
      have h0 := h 0 (by omega)
      rw [show j + 1 - 1 - 0 = j by omega] at h0
      unfold p_back
      rw [if_pos h0]
      have := ih r (by omega) (fun t ht => by
        have := h (t + 1) (by omega)
        rw [show j + 1 - 1 - (t + 1) = j - 1 - t by omega] at this
        exact this)
      omega
theorem p_back_at {s : Nat → Int} {v : Int} : ∀ (j r : Nat), r < p_back s v j → s (j - 1 - r) = v := by
  intro j
  induction j with
  | zero => intro r h; exact absurd h (Nat.not_lt_zero _)
  | succ j ih =>
    intro r h
    unfold p_back at h
    split at h
    · rename_i e
      cases r with
      | zero => rw [show j + 1 - 1 - 0 = j by omega]; exact e
      | succ r =>
        rw [show j + 1 - 1 - (r + 1) = j - 1 - r by omega]
        exact ih r (by omega)
    · omega
theorem p_fwd_run {s : Nat → Int} {N L i : Nat} (hL : 1 ≤ L) (h : L < p_fwd s N i) : ∃ k, k < N ∧ L < p_run s k := by
  obtain ⟨g1, g2, g3, g4⟩ := p_fw_ok (s := s) (N := N) (i := i) N 1
  have h : L < p_fw s N i N 1 := h
  have gL := g3 L (by omega) h
  refine ⟨i + L, gL.1, ?_⟩
  have := p_back_ge (s := s) (v := s (i + L)) (i + L) L (by omega) (fun t ht => by
    by_cases e : L - 1 - t = 0
    · rw [show i + L - 1 - t = i by omega, gL.2]
    · have := g3 (L - 1 - t) (by omega) (by omega)
      rw [show i + L - 1 - t = i + (L - 1 - t) by omega, this.2, gL.2])
  unfold p_run
  omega
theorem p_run_fwd {s : Nat → Int} {N L i : Nat} (hi : i < N) (h : L < p_run s i) : ∃ k, k < N ∧ L < p_fwd s N k := by
  unfold p_run at h
  have hle := p_back_le s (s i) i
  have hv : ∀ u, u ≤ L → s (i - L + u) = s i := fun u hu => by
    by_cases e : u = L
    · rw [show i - L + u = i by omega]
    · have := p_back_at (s := s) (v := s i) i (L - 1 - u) (by omega)
      rw [show i - 1 - (L - 1 - u) = i - L + u by omega] at this
      exact this
  refine ⟨i - L, by omega, ?_⟩
  obtain ⟨g1, g2, g3, g4⟩ := p_fw_ok (s := s) (N := N) (i := i - L) N 1
  show L < p_fw s N (i - L) N 1
  generalize p_fw s N (i - L) N 1 = P at *
  by_cases e : L < P
  · exact e
  · rcases g4 with g4 | g4
    · omega
    · have e1 := hv P (by omega)
      have e2 := hv 0 (by omega)
      exact absurd ⟨by omega, by rw [e1, ← e2]; rfl⟩ g4
theorem p_strF_iff {s : Nat → Int} {L N : Nat} : ∀ (m i : Nat), i + m = N → (p_strF s L N m i = -9 ↔ ∀ k, i ≤ k → k < N → ¬ L < p_run s k) := by
  intro m
  induction m with
  | zero => intro i hi; exact ⟨fun _ k h1 h2 => by omega, fun _ => rfl⟩
  | succ m ih =>
    intro i hi
    unfold p_strF
    rw [if_pos (by omega)]
    by_cases e : L < p_run s i
    · rw [if_pos e]
      exact ⟨fun h => by omega, fun h => absurd e (h i (Nat.le_refl _) (by omega))⟩
    · rw [if_neg e, ih (i + 1) (by omega)]
      constructor
      · intro h k h1 h2
        by_cases e2 : k = i
        · subst e2
          exact e
        · exact h k (by omega) h2
      · intro h k h1 h2
        exact h k (by omega) h2
theorem p_str_iff {s : Nat → Int} {L N : Nat} : p_str s L N = -9 ↔ ∀ k, k < N → ¬ L < p_run s k := by
  unfold p_str
  rw [p_strF_iff N 0 (by omega)]
  exact ⟨fun h k hk => h k (Nat.zero_le _) hk, fun h k _ hk => h k hk⟩
theorem p_str_fwd {s : Nat → Int} {L N : Nat} (hL : 1 ≤ L) : p_str s L N = -9 ↔ ∀ k, k < N → ¬ L < p_fwd s N k := by
  rw [p_str_iff]
  constructor
  · intro h k hk g
    obtain ⟨j, h1, h2⟩ := p_fwd_run hL g
    exact h j h1 h2
  · intro h k hk g
    obtain ⟨j, h1, h2⟩ := p_run_fwd hk g
    exact h j h1 h2
/-! joints of a chain with those that are -/
def p_nj (W H L : Nat) (kc : Nat → ZK) (k0 : ZK) : Nat → Bool
  | 0 => true
  | k + 1 => p_nj W H L kc k0 k && !(p_join (k_last W H (kc k) : Int) (kc k).2.2 (kc k).2.1 (k0.1 : Int) k0.2.2 k0.2.1 L || p_join (k_last W H k0 : Int) k0.2.2 k0.2.1 ((kc k).1 : Int) (kc k).2.2 (kc k).2.1 L)
theorem p_nj_f {W H L : Nat} {kc : Nat → ZK} {k0 : ZK} {i : Nat} (h : p_nj W H L kc k0 i = false) : ∀ m, p_nj W H L kc k0 (i + m) = false := by
  intro m
  induction m with
  | zero => exact h
  | succ m ih =>
    show (p_nj W H L kc k0 (i + m) && _) = false
    rw [ih]
    rfl
theorem p_to_dir {W H c t : Nat} {hs : Int32} {st : Int} (h : p_to W H hs c st = some t) : 0 ≤ st ∧ st ≤ 3 := by
  by_cases e : 0 ≤ st ∧ st ≤ 3
  · exact e
  · unfold p_to p_off at h
    rw [if_neg (by omega), if_neg (by omega), if_neg (by omega), if_neg (by omega)] at h
    cases h
theorem p_pos_pre {W H f : Nat} {hs : Int32} {s : Nat → Int} {n i : Nat} (h : (p_pos W H hs f s n).isSome = true) (hi : i ≤ n) : ∃ c, p_pos W H hs f s i = some c := by
  cases e : p_pos W H hs f s i with
  | some c => exact ⟨c, rfl⟩
  | none =>
    have := p_pos_none e (n - i)
    rw [show i + (n - i) = n by omega] at this
    rw [this] at h
    cases h
theorem p_pos_dir {W H f : Nat} {hs : Int32} {s : Nat → Int} {n : Nat} (h : (p_pos W H hs f s n).isSome = true) : ∀ i, i < n → 0 ≤ s i ∧ s i ≤ 3 := by
  intro i hi
  obtain ⟨c, hc⟩ := p_pos_pre h (i := i) (by omega)
  obtain ⟨c2, hc2⟩ := p_pos_pre h (i := i + 1) (by omega)
  unfold p_pos at hc2
  rw [hc] at hc2
  exact p_to_dir hc2
theorem p_pos_ok {W H f : Nat} {hs : Int32} {s : Nat → Int} {N : Nat} (hf : f < W * H) (hb : ¬ bt hs f = true) (h1 : 1 ≤ N) (h2 : N ≤ 12) (h : (p_pos W H hs f s N).isSome = true) : p_ok W H hs (f, N, s) ∧ p_pos W H hs f s N = some (k_last W H (f, N, s)) ∧ p_msk W H hs f s N = q_msk W H f s N := by
  obtain ⟨c, hc⟩ := p_pos_pre h (Nat.le_refl N)
  obtain ⟨g1, g2, g3⟩ := q_of_p N c hc
  refine ⟨⟨hf, ⟨h1, h2⟩, p_pos_dir h, fun i hi => ?_⟩, ?_, g2⟩
  · by_cases e : i = 0
    · subst e
      exact ⟨f, rfl, hb⟩
    · exact g3 i (by omega) hi
  · rw [hc]
    show some c = some ((q_pos W H f s N).getD 0)
    rw [g1]
    rfl
/-- a street can be gone -/
abbrev p_isS (W H : Nat) (hs : Int32) (c z : Int) : Prop := p_fr2 W H hs c ∧ (1 ≤ z ∧ z ≤ 999999999) ∧ (p_pos W H hs c.toNat (s_st z.toNat) (s_dl z.toNat)).isSome = true
def k_str (c z : Int) : ZK := (c.toNat, s_dl z.toNat, s_st z.toNat)
abbrev p_bnt (W H L n : Nat) (kc : Nat → ZK) (k0 : ZK) : Prop := p_str k0.2.2 L k0.2.1 = -9 ∧ p_nj W H L kc k0 n = true
def v_street (W H L : Nat) (hs : Int32) (n : Nat) (kc : Nat → ZK) (c z : Int) : Int := if p_isS W H hs c z then (if p_bnt W H L n kc (k_str c z) then (if n = 4 then -3 else ((n + 1 : Nat) : Int)) else -2) else -1
def t_street (W H L : Nat) (hs lot : Int32) (n : Nat) (kc : Nat → ZK) (c z : Int) : ZB := if p_isS W H hs c z ∧ p_bnt W H L n kc (k_str c z) ∧ ¬ n = 4 then (hs, lot, n + 1, fun k => if k = n then k_str c z else kc k) else (hs, lot, n, kc)
