/-! WAY: pure. a: what is behind a step; b: the goal's cell -/
def p_hb (v : Nat → Bool) (o : Option Nat) : Bool := match o with
  | some q => v q
  | none => false
/-- a row of just k steps leads from p to the cell b -/
def p_rch (a : Nat → Nat → Option Nat) (b : Nat) : Nat → Nat → Bool
  | 0, p => decide (p / 13 = b)
  | k + 1, p => p_hb (p_rch a b k) (a p 0) || p_hb (p_rch a b k) (a p 1) || p_hb (p_rch a b k) (a p 2) || p_hb (p_rch a b k) (a p 3)
def p_pkB (v : Nat → Bool) : Nat := if v 0 = true then 0 else if v 1 = true then 1 else if v 2 = true then 2 else 3
def p_df (v : Nat → Bool) : Nat → Nat → Nat
  | 0, k => k
  | f + 1, k => if v k = true then k else p_df v f (k + 1)
/-- how many steps the way has; 61: not by 60 -/
def p_dst (a : Nat → Nat → Option Nat) (b p : Nat) : Nat := p_df (fun k => p_rch a b k p) 61 0
/-- the step from p, if k more come behind it -/
def p_ws (a : Nat → Nat → Option Nat) (b k p : Nat) : Nat := p_pkB (fun s => p_hb (p_rch a b k) (a p s))
/-- where the way of n steps is ahead of its j-th -/
def p_wg (a : Nat → Nat → Option Nat) (b n start : Nat) : Nat → Nat
  | 0 => start
  | j + 1 => (a (p_wg a b n start j) (p_ws a b (n - (j + 1)) (p_wg a b n start j))).getD 0
theorem p_rch_s {a : Nat → Nat → Option Nat} {b k p s q : Nat} (hs : s < 4) (h : a p s = some q) (hr : p_rch a b k q = true) : p_rch a b (k + 1) p = true := by
  have e : p_hb (p_rch a b k) (a p s) = true := by rw [h]; exact hr
  show (p_hb (p_rch a b k) (a p 0) || p_hb (p_rch a b k) (a p 1) || p_hb (p_rch a b k) (a p 2) || p_hb (p_rch a b k) (a p 3)) = true
  obtain rfl | rfl | rfl | rfl : s = 0 ∨ s = 1 ∨ s = 2 ∨ s = 3 := by omega
  · rw [e]; rfl
  · rw [e, Bool.or_true]; rfl
  · rw [e, Bool.or_true]; rfl
  · rw [e, Bool.or_true]
theorem p_hb_e {v : Nat → Bool} {o : Option Nat} (h : p_hb v o = true) : ∃ q, o = some q ∧ v q = true := by
  cases o with
  | none => cases h
  | some q => exact ⟨q, rfl, h⟩
theorem p_rch_x {a : Nat → Nat → Option Nat} {b k p : Nat} (h : p_rch a b (k + 1) p = true) : ∃ s, s < 4 ∧ p_hb (p_rch a b k) (a p s) = true := by
  have h : (p_hb (p_rch a b k) (a p 0) || p_hb (p_rch a b k) (a p 1) || p_hb (p_rch a b k) (a p 2) || p_hb (p_rch a b k) (a p 3)) = true := h
  rw [Bool.or_eq_true, Bool.or_eq_true, Bool.or_eq_true] at h
  rcases h with ((h | h) | h) | h
  · exact ⟨0, by decide, h⟩
  · exact ⟨1, by decide, h⟩
  · exact ⟨2, by decide, h⟩
  · exact ⟨3, by decide, h⟩
theorem p_rch_e {a : Nat → Nat → Option Nat} {b k p : Nat} (h : p_rch a b (k + 1) p = true) : ∃ s q, s < 4 ∧ a p s = some q ∧ p_rch a b k q = true := by
  obtain ⟨s, h1, h2⟩ := p_rch_x h
  obtain ⟨q, h3, h4⟩ := p_hb_e h2
  exact ⟨s, q, h1, h3, h4⟩
theorem p_pkB_ok {v : Nat → Bool} (h : ∃ s, s < 4 ∧ v s = true) : p_pkB v < 4 ∧ v (p_pkB v) = true ∧ ∀ s, s < p_pkB v → v s = false := by
  have nf : ∀ s, ¬ v s = true → v s = false := fun s g => by
    cases e : v s with
    | true => exact absurd e g
    | false => rfl
  unfold p_pkB
  by_cases h0 : v 0 = true
  · rw [if_pos h0]
    exact ⟨by decide, h0, fun s hs => by omega⟩
  · rw [if_neg h0]
    by_cases h1 : v 1 = true
    · rw [if_pos h1]
      exact ⟨by decide, h1, fun s hs => by
        obtain rfl : s = 0 := by omega
        exact nf _ h0⟩
    · rw [if_neg h1]
      by_cases h2 : v 2 = true
      · rw [if_pos h2]
        exact ⟨by decide, h2, fun s hs => by
          obtain rfl | rfl : s = 0 ∨ s = 1 := by omega
          · exact nf _ h0
          · exact nf _ h1⟩
      · rw [if_neg h2]
        have h3 : v 3 = true := by
          obtain ⟨s, g1, g2⟩ := h
          obtain rfl | rfl | rfl | rfl : s = 0 ∨ s = 1 ∨ s = 2 ∨ s = 3 := by omega
          · exact absurd g2 h0
          · exact absurd g2 h1
          · exact absurd g2 h2
          · exact g2
        exact ⟨by decide, h3, fun s hs => by
          obtain rfl | rfl | rfl : s = 0 ∨ s = 1 ∨ s = 2 := by omega
          · exact nf _ h0
          · exact nf _ h1
          · exact nf _ h2⟩
theorem p_df_ok {v : Nat → Bool} : ∀ (f k : Nat), k ≤ p_df v f k ∧ p_df v f k ≤ k + f ∧ (∀ j, k ≤ j → j < p_df v f k → v j = false) ∧ (p_df v f k < k + f → v (p_df v f k) = true) := by
  intro f
  induction f with
  | zero =>
    intro k
    show k ≤ k ∧ k ≤ k + 0 ∧ (∀ j, k ≤ j → j < k → v j = false) ∧ (k < k + 0 → v k = true)
    exact ⟨by omega, by omega, fun j h1 h2 => by omega, fun h => by omega⟩
  | succ f ih =>
    intro k
    obtain ⟨i1, i2, i3, i4⟩ := ih (k + 1)
    unfold p_df
    by_cases h : v k = true
    · rw [if_pos h]
      exact ⟨by omega, by omega, fun j h1 h2 => by omega, fun _ => h⟩
    · rw [if_neg h]
      refine ⟨by omega, by omega, fun j h1 h2 => ?_, fun g => i4 (by omega)⟩
      by_cases e : j = k
      · subst e
        cases e : v j with
        | true => exact absurd e h
        | false => rfl
      · exact i3 j (by omega) h2
/-- from p, k steps behind the beginning, no row is shorter than n in all -/
def p_lb (a : Nat → Nat → Option Nat) (b n k p : Nat) : Prop := ∀ m, p_rch a b m p = true → n ≤ k + m
theorem p_lb_s {a : Nat → Nat → Option Nat} {b n k p s q : Nat} (h : p_lb a b n k p) (hs : s < 4) (hq : a p s = some q) : p_lb a b n (k + 1) q := fun m hm => by
  have := h (m + 1) (p_rch_s hs hq hm)
  omega
theorem p_lb_m {a : Nat → Nat → Option Nat} {b n k p : Nat} (h : p_lb a b n k p) : p_lb a b n (k + 1) p := fun m hm => by
  have := h m hm
  omega
theorem p_dst_ok (a : Nat → Nat → Option Nat) (b p : Nat) : p_dst a b p ≤ 61 ∧ (p_dst a b p ≤ 60 → p_rch a b (p_dst a b p) p = true) ∧ p_lb a b (p_dst a b p) 0 p := by
  obtain ⟨h1, h2, h3, h4⟩ := p_df_ok (v := fun k => p_rch a b k p) 61 0
  refine ⟨by have : p_df (fun k => p_rch a b k p) 61 0 ≤ 0 + 61 := h2; unfold p_dst; omega, fun g => h4 (by unfold p_dst at g; omega), fun m hm => ?_⟩
  by_cases g : m < p_df (fun k => p_rch a b k p) 61 0
  · have g2 := h3 m (Nat.zero_le _) g
    have g2 : p_rch a b m p = false := g2
    rw [g2] at hm
    cases hm
  · unfold p_dst
    omega
theorem p_rch_eq {W H L : Nat} {hs : Int32} {b : Nat} (hL : L ≤ 3) : ∀ (k p : Nat), p_val L p → p_rch (p_aR W H L hs) b k p = p_rch (p_aC W H L hs) b k p := by
  intro k
  induction k with
  | zero => intro p _; rfl
  | succ k ih =>
    intro p hp
    have e : ∀ s, s < 4 → p_hb (p_rch (p_aR W H L hs) b k) (p_aR W H L hs p s) = p_hb (p_rch (p_aC W H L hs) b k) (p_aC W H L hs p s) := by
      intro s h4
      rw [p_a_eq hp]
      cases ha : p_aC W H L hs p s with
      | none => rfl
      | some q => exact ih q (p_aC_val h4 hL ha)
    show (p_hb _ (p_aR W H L hs p 0) || p_hb _ (p_aR W H L hs p 1) || p_hb _ (p_aR W H L hs p 2) || p_hb _ (p_aR W H L hs p 3)) = (p_hb _ (p_aC W H L hs p 0) || p_hb _ (p_aC W H L hs p 1) || p_hb _ (p_aC W H L hs p 2) || p_hb _ (p_aC W H L hs p 3))
    rw [e 0 (by decide), e 1 (by decide), e 2 (by decide), e 3 (by decide)]
section PW
variable {W H L : Nat} {hs : Int32} {b n st : Nat}
/-- the way's places -/
theorem p_wg_ok (hL : L ≤ 3) (h0 : st < 13 * (W * H)) (hv : p_val L st) (hr : p_rch (p_aC W H L hs) b n st = true) (hl : p_lb (p_aC W H L hs) b n 0 st) : ∀ j, j ≤ n → p_wg (p_aC W H L hs) b n st j < 13 * (W * H) ∧ p_val L (p_wg (p_aC W H L hs) b n st j) ∧ p_rch (p_aC W H L hs) b (n - j) (p_wg (p_aC W H L hs) b n st j) = true ∧ p_lb (p_aC W H L hs) b n j (p_wg (p_aC W H L hs) b n st j) := by
  intro j
  induction j with
  | zero => intro _; exact ⟨h0, hv, hr, hl⟩
  | succ j ih =>
    intro hj
    obtain ⟨i1, i2, i3, i4⟩ := ih (by omega)
    rw [show n - j = n - (j + 1) + 1 by omega] at i3
    obtain ⟨g1, g2, g3⟩ := p_pkB_ok (p_rch_x i3)
    obtain ⟨q, g4, g5⟩ := p_hb_e g2
    have e : p_wg (p_aC W H L hs) b n st (j + 1) = q := by
      show (p_aC W H L hs (p_wg (p_aC W H L hs) b n st j) (p_pkB (fun s => p_hb (p_rch (p_aC W H L hs) b (n - (j + 1))) (p_aC W H L hs (p_wg (p_aC W H L hs) b n st j) s)))).getD 0 = q
      rw [g4]
      rfl
    rw [e]
    exact ⟨p_aC_lt g1 hL i1 g4, p_aC_val g1 hL g4, g5, p_lb_s i4 g1 g4⟩
theorem p_ws_ok {j p : Nat} (hr : p_rch (p_aC W H L hs) b (j + 1) p = true) : p_ws (p_aC W H L hs) b j p < 4 ∧ (∃ q, p_aC W H L hs p (p_ws (p_aC W H L hs) b j p) = some q ∧ p_rch (p_aC W H L hs) b j q = true) ∧ ∀ s, s < p_ws (p_aC W H L hs) b j p → p_hb (p_rch (p_aC W H L hs) b j) (p_aC W H L hs p s) = false := by
  obtain ⟨g1, g2, g3⟩ := p_pkB_ok (p_rch_x hr)
  obtain ⟨q, g4, g5⟩ := p_hb_e g2
  exact ⟨g1, ⟨q, g4, g5⟩, g3⟩
theorem p_wg_s {j : Nat} : p_wg (p_aC W H L hs) b n st (j + 1) = (p_aC W H L hs (p_wg (p_aC W H L hs) b n st j) (p_ws (p_aC W H L hs) b (n - (j + 1)) (p_wg (p_aC W H L hs) b n st j))).getD 0 := rfl
end PW
/-! the reference's row: how many steps are left -/
def p_lok (W H L : Nat) (hs : Int32) (b : Nat) (lf : Nat → Nat) : Prop := (∀ p, lf p ≤ 999) ∧ (∀ p, p < 13 * (W * H) → lf p = 999 ∨ p_rch (p_aR W H L hs) b (lf p) p = true) ∧ ∀ p, p < 13 * (W * H) → p / 13 = b → lf p = 0
def p_fix (W H L : Nat) (hs : Int32) (lf : Nat → Nat) (p s : Nat) : Prop := ∀ q, p_aR W H L hs p s = some q → lf p ≤ lf q + 1
theorem p_left_le {W H L : Nat} {hs : Int32} {b : Nat} {lf : Nat → Nat} (h : p_lok W H L hs b lf) (hf : ∀ p s, p < 13 * (W * H) → s < 4 → p_fix W H L hs lf p s) : ∀ (k p : Nat), p < 13 * (W * H) → p_rch (p_aR W H L hs) b k p = true → lf p ≤ k := by
  intro k
  induction k with
  | zero =>
    intro p hp hr
    have := h.2.2 p hp (of_decide_eq_true hr)
    omega
  | succ k ih =>
    intro p hp hr
    obtain ⟨s, q, h1, h2, h3⟩ := p_rch_e hr
    have g1 := hf p s hp h1 q h2
    have g2 := ih q (p_aR_lt h1 hp h2) h3
    omega
/-- at the end: the row tells the steps that are left -/
def p_lend (W H L : Nat) (hs : Int32) (b : Nat) (lf : Nat → Nat) : Prop := (∀ p, lf p ≤ 999) ∧ ∀ p, p < 13 * (W * H) → p_val L p → (∀ k, p_rch (p_aC W H L hs) b k p = true → lf p ≤ k) ∧ (lf p = 999 ∨ p_rch (p_aC W H L hs) b (lf p) p = true)
theorem p_left_end {W H L : Nat} {hs : Int32} {b : Nat} {lf : Nat → Nat} (hL : L ≤ 3) (h : p_lok W H L hs b lf) (hf : ∀ p s, p < 13 * (W * H) → s < 4 → p_fix W H L hs lf p s) : p_lend W H L hs b lf := by
  refine ⟨h.1, fun p hp hv => ⟨fun k hk => p_left_le h hf k p hp (by rw [p_rch_eq hL _ _ hv]; exact hk), ?_⟩⟩
  rw [← p_rch_eq hL _ _ hv]
  exact h.2.1 p hp
theorem p_lend_dst {W H L : Nat} {hs : Int32} {b : Nat} {lf : Nat → Nat} (h : p_lend W H L hs b lf) {p : Nat} (hp : p < 13 * (W * H)) (hv : p_val L p) : (p_dst (p_aC W H L hs) b p ≤ 60 ∧ lf p = p_dst (p_aC W H L hs) b p) ∨ (p_dst (p_aC W H L hs) b p = 61 ∧ 60 < lf p) := by
  obtain ⟨d1, d2, d3⟩ := p_dst_ok (p_aC W H L hs) b p
  obtain ⟨g1, g2⟩ := h.2 p hp hv
  by_cases e : p_dst (p_aC W H L hs) b p ≤ 60
  · left
    have g3 := g1 _ (d2 e)
    rcases g2 with g2 | g2
    · omega
    · have := d3 _ g2
      omega
  · right
    refine ⟨by omega, ?_⟩
    rcases g2 with g2 | g2
    · omega
    · have := d3 _ g2
      omega
/-- the reference's choice along the way -/
theorem p_lend_ws {W H L : Nat} {hs : Int32} {b n st : Nat} {lf : Nat → Nat} (hL : L ≤ 3) (h : p_lend W H L hs b lf) (h0 : st < 13 * (W * H)) (hv : p_val L st) (hn : n ≤ 60) (hr : p_rch (p_aC W H L hs) b n st = true) (hl : p_lb (p_aC W H L hs) b n 0 st) {j t : Nat} (hj : j < n) (ht : t ≤ p_ws (p_aC W H L hs) b (n - (j + 1)) (p_wg (p_aC W H L hs) b n st j)) : (t < p_ws (p_aC W H L hs) b (n - (j + 1)) (p_wg (p_aC W H L hs) b n st j) ∧ (p_aR W H L hs (p_wg (p_aC W H L hs) b n st j) t = none ∨ ∃ q, p_aR W H L hs (p_wg (p_aC W H L hs) b n st j) t = some q ∧ (lf q : Int) ≠ (lf (p_wg (p_aC W H L hs) b n st j) : Int) - 1)) ∨ (t = p_ws (p_aC W H L hs) b (n - (j + 1)) (p_wg (p_aC W H L hs) b n st j) ∧ p_aR W H L hs (p_wg (p_aC W H L hs) b n st j) t = some (p_wg (p_aC W H L hs) b n st (j + 1)) ∧ (lf (p_wg (p_aC W H L hs) b n st (j + 1)) : Int) = (lf (p_wg (p_aC W H L hs) b n st j) : Int) - 1) := by
  have lfv : ∀ i, i ≤ n → lf (p_wg (p_aC W H L hs) b n st i) = n - i := by
    intro i hi
    obtain ⟨w1, w2, w3, w4⟩ := p_wg_ok hL h0 hv hr hl i hi
    obtain ⟨g1, g2⟩ := h.2 _ w1 w2
    have g3 := g1 _ w3
    rcases g2 with g2 | g2
    · omega
    · have := w4 _ g2
      omega
  obtain ⟨w1, w2, w3, w4⟩ := p_wg_ok hL h0 hv hr hl j (by omega)
  rw [show n - j = n - (j + 1) + 1 by omega] at w3
  obtain ⟨s1, ⟨y, s2, s3⟩, s4⟩ := p_ws_ok w3
  rw [p_a_eq w2, lfv j (by omega), lfv (j + 1) (by omega)]
  by_cases e : t = p_ws (p_aC W H L hs) b (n - (j + 1)) (p_wg (p_aC W H L hs) b n st j)
  · subst e
    refine Or.inr ⟨rfl, ?_, by omega⟩
    rw [p_wg_s, s2]
    rfl
  · refine Or.inl ⟨by omega, ?_⟩
    have s5 := s4 t (by omega)
    cases ha : p_aC W H L hs (p_wg (p_aC W H L hs) b n st j) t with
    | none => exact Or.inl rfl
    | some q =>
      refine Or.inr ⟨q, rfl, fun g => ?_⟩
      rw [ha] at s5
      have s5 : p_rch (p_aC W H L hs) b (n - (j + 1)) q = false := s5
      obtain ⟨g1, g2⟩ := h.2 q (p_aC_lt (by omega) hL w1 ha) (p_aC_val (by omega) hL ha)
      rcases g2 with g2 | g2
      · omega
      · rw [show lf q = n - (j + 1) by omega, s5] at g2
        cases g2
def p_sumN (f : Nat → Nat) : Nat → Nat
  | 0 => 0
  | k + 1 => p_sumN f k + f k
def p_upN (f : Nat → Nat) (p v : Nat) : Nat → Nat := fun x => if x = p then v else f x
theorem p_upN_s {f : Nat → Nat} {p v : Nat} : p_upN f p v p = v := if_pos rfl
theorem p_upN_n {f : Nat → Nat} {p v x : Nat} (h : x ≠ p) : p_upN f p v x = f x := if_neg h
theorem p_sumN_up {f : Nat → Nat} {p v : Nat} (hv : v < f p) : ∀ N, (p < N → p_sumN (p_upN f p v) N < p_sumN f N) ∧ (N ≤ p → p_sumN (p_upN f p v) N = p_sumN f N) := by
  intro N
  induction N with
  | zero => exact ⟨fun h => by omega, fun _ => rfl⟩
  | succ N ih =>
    refine ⟨fun h => ?_, fun h => ?_⟩
    · show p_sumN (p_upN f p v) N + p_upN f p v N < p_sumN f N + f N
      by_cases e : N = p
      · subst e
        rw [p_upN_s, ih.2 (Nat.le_refl _)]
        omega
      · rw [p_upN_n e]
        have := ih.1 (by omega)
        omega
    · show p_sumN (p_upN f p v) N + p_upN f p v N = p_sumN f N + f N
      rw [p_upN_n (by omega), ih.2 (by omega)]
theorem p_lok_up {W H L : Nat} {hs : Int32} {b : Nat} {lf : Nat → Nat} (h : p_lok W H L hs b lf) {p s q : Nat} (hp : p < 13 * (W * H)) (hs4 : s < 4) (ha : p_aR W H L hs p s = some q) (hlt : lf q + 1 < lf p) : p_lok W H L hs b (p_upN lf p (lf q + 1)) := by
  have := h.1 p
  refine ⟨fun x => ?_, fun x hx => ?_, fun x hx hb => ?_⟩
  · by_cases e : x = p
    · subst e
      rw [p_upN_s]
      omega
    · rw [p_upN_n e]
      exact h.1 x
  · by_cases e : x = p
    · subst e
      rw [p_upN_s]
      rcases h.2.1 q (p_aR_lt hs4 hp ha) with g | g
      · omega
      · exact Or.inr (p_rch_s hs4 ha g)
    · rw [p_upN_n e]
      exact h.2.1 x hx
  · by_cases e : x = p
    · subst e
      have := h.2.2 x hx hb
      omega
    · rw [p_upN_n e]
      exact h.2.2 x hx hb
