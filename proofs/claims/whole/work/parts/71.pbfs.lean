/-! WAY: the class's search, level by level: what holds of its rows -/
def p_upO (f : Nat → Option Nat) (p v : Nat) : Nat → Option Nat := fun x => if x = p then some v else f x
theorem p_upO_s {f : Nat → Option Nat} {p v : Nat} : p_upO f p v p = some v := if_pos rfl
theorem p_upO_n {f : Nat → Option Nat} {p v x : Nat} (h : x ≠ p) : p_upO f p v x = f x := if_neg h
/-- how many are found -/
def p_cnS (f : Nat → Option Nat) : Nat → Nat
  | 0 => 0
  | k + 1 => p_cnS f k + (if (f k).isSome = true then 1 else 0)
theorem p_cnS_lt {f : Nat → Option Nat} {q : Nat} (h : f q = none) : ∀ N, p_cnS f N ≤ N ∧ (q < N → p_cnS f N < N) := by
  intro N
  induction N with
  | zero => exact ⟨Nat.le_refl 0, fun g => by omega⟩
  | succ N ih =>
    have e : p_cnS f (N + 1) = p_cnS f N + (if (f N).isSome = true then 1 else 0) := rfl
    rw [e]
    have l : (if (f N).isSome = true then 1 else 0) ≤ 1 := by split <;> omega
    refine ⟨by omega, fun g => ?_⟩
    by_cases e : N = q
    · subst e
      rw [h, if_neg (by decide)]
      omega
    · have := ih.2 (by omega)
      omega
theorem p_cnS_up {f : Nat → Option Nat} {q v : Nat} (h : f q = none) : ∀ N, (q < N → p_cnS (p_upO f q v) N = p_cnS f N + 1) ∧ (N ≤ q → p_cnS (p_upO f q v) N = p_cnS f N) := by
  intro N
  induction N with
  | zero => exact ⟨fun g => by omega, fun _ => rfl⟩
  | succ N ih =>
    refine ⟨fun g => ?_, fun g => ?_⟩
    · show p_cnS (p_upO f q v) N + (if (p_upO f q v N).isSome = true then 1 else 0) = p_cnS f N + (if (f N).isSome = true then 1 else 0) + 1
      by_cases e : N = q
      · subst e
        rw [p_upO_s, h, ih.2 (Nat.le_refl _)]
        rfl
      · rw [p_upO_n e, ih.1 (by omega)]
        omega
    · show p_cnS (p_upO f q v) N + (if (p_upO f q v N).isSome = true then 1 else 0) = p_cnS f N + (if (f N).isSome = true then 1 else 0)
      rw [p_upO_n (by omega), ih.2 (by omega)]
theorem p_cnS_0 {f : Nat → Option Nat} (h : ∀ x, f x = none) : ∀ N, p_cnS f N = 0 := by
  intro N
  induction N with
  | zero => rfl
  | succ N ih =>
    show p_cnS f N + (if (f N).isSome = true then 1 else 0) = 0
    rw [ih, h N]
    rfl
section PQ
variable (W H L : Nat) (hs : Int32) (b n st : Nat)
/-- the first of a level from which the way goes on has not been gone from -/
def p_phA (j head le d : Nat) (f : Nat → Option Nat) (qu : Nat → Nat) : Prop := ∃ h, head ≤ h ∧ h < le ∧ qu h = p_wg (p_aC W H L hs) b n st j ∧ (∀ i, head ≤ i → i < h → p_rch (p_aC W H L hs) b (n - j) (qu i) = false) ∧ (∀ p, (f p).isSome = true → p_rch (p_aC W H L hs) b (n - (j + 1)) p = false) ∧ (h = head → d ≤ p_ws (p_aC W H L hs) b (n - (j + 1)) (p_wg (p_aC W H L hs) b n st j)) ∧ ∀ i, i < j → f (p_wg (p_aC W H L hs) b n st (i + 1)) = some (p_wg (p_aC W H L hs) b n st i)
/-- it has -/
def p_phB (j le tail : Nat) (f : Nat → Option Nat) (qu : Nat → Nat) : Prop := j + 1 < n ∧ ∃ h, le ≤ h ∧ h < tail ∧ qu h = p_wg (p_aC W H L hs) b n st (j + 1) ∧ (∀ i, le ≤ i → i < h → p_rch (p_aC W H L hs) b (n - (j + 1)) (qu i) = false) ∧ ∀ i, i < j + 1 → f (p_wg (p_aC W H L hs) b n st (i + 1)) = some (p_wg (p_aC W H L hs) b n st i)
def p_Q (j head le tail d : Nat) (f : Nat → Option Nat) (qu : Nat → Nat) : Prop := (head ≤ le ∧ le ≤ tail ∧ tail ≤ 325) ∧ (∀ i, i < tail → qu i < 13 * (W * H) ∧ p_val L (qu i) ∧ (f (qu i)).isSome = true) ∧ tail = p_cnS f 325 ∧ (∀ p y, f p = some y → y < 13 * (W * H)) ∧ (∀ i, head ≤ i → i < le → p_lb (p_aC W H L hs) b n j (qu i)) ∧ (∀ i, le ≤ i → i < tail → p_lb (p_aC W H L hs) b n (j + 1) (qu i)) ∧ (∀ p, (f p).isSome = true → p_lb (p_aC W H L hs) b n (j + 1) p) ∧ (n ≤ 60 → j < n ∧ (p_phA W H L hs b n st j head le d f qu ∨ p_phB W H L hs b n st j le tail f qu))
end PQ
section PQ
variable {W H L : Nat} {hs : Int32} {b n st : Nat}
/-- what is given of the way: n steps, or 61 -/
abbrev p_giv (W H L : Nat) (hs : Int32) (b n st : Nat) : Prop := (L ≤ 3 ∧ W * H ≤ 25) ∧ st < 13 * (W * H) ∧ p_val L st ∧ 1 ≤ n ∧ n ≤ 61 ∧ (n ≤ 60 → p_rch (p_aC W H L hs) b n st = true) ∧ p_lb (p_aC W H L hs) b n 0 st
theorem p_giv.wg (g : p_giv W H L hs b n st) (h6 : n ≤ 60) {j : Nat} (hj : j < n) : p_wg (p_aC W H L hs) b n st j < 13 * (W * H) ∧ p_val L (p_wg (p_aC W H L hs) b n st j) ∧ p_ws (p_aC W H L hs) b (n - (j + 1)) (p_wg (p_aC W H L hs) b n st j) < 4 ∧ p_aC W H L hs (p_wg (p_aC W H L hs) b n st j) (p_ws (p_aC W H L hs) b (n - (j + 1)) (p_wg (p_aC W H L hs) b n st j)) = some (p_wg (p_aC W H L hs) b n st (j + 1)) ∧ p_rch (p_aC W H L hs) b (n - (j + 1)) (p_wg (p_aC W H L hs) b n st (j + 1)) = true ∧ ∀ s, s < p_ws (p_aC W H L hs) b (n - (j + 1)) (p_wg (p_aC W H L hs) b n st j) → p_hb (p_rch (p_aC W H L hs) b (n - (j + 1))) (p_aC W H L hs (p_wg (p_aC W H L hs) b n st j) s) = false := by
  obtain ⟨⟨hL, hC⟩, h0, hv, h1, h2, hr, hl⟩ := g
  obtain ⟨w1, w2, w3, w4⟩ := p_wg_ok hL h0 hv (hr h6) hl j (by omega)
  rw [show n - j = n - (j + 1) + 1 by omega] at w3
  obtain ⟨s1, ⟨y, s2, s3⟩, s4⟩ := p_ws_ok w3
  have e : p_wg (p_aC W H L hs) b n st (j + 1) = y := by rw [p_wg_s, s2]; rfl
  rw [e]
  exact ⟨w1, w2, s1, s2, s3, s4⟩
variable {j head le tail d : Nat} {f : Nat → Option Nat} {qu : Nat → Nat}
/-- a step that leads nowhere, or to what is found already -/
theorem p_Q.skip (g : p_giv W H L hs b n st) (h : p_Q W H L hs b n st j head le tail d f qu) (ha : p_aC W H L hs (qu head) d = none ∨ ∃ q, p_aC W H L hs (qu head) d = some q ∧ (f q).isSome = true) : p_Q W H L hs b n st j head le tail (d + 1) f qu := by
  obtain ⟨b1, b2, b3, b4, b5, b6, b7, b8⟩ := h
  refine ⟨b1, b2, b3, b4, b5, b6, b7, fun h6 => ?_⟩
  obtain ⟨hj, hph⟩ := b8 h6
  refine ⟨hj, ?_⟩
  rcases hph with ⟨h, a1, a2, a3, a4, a5, a6, a7⟩ | hB
  · refine Or.inl ⟨h, a1, a2, a3, a4, a5, fun e => ?_, a7⟩
    have a6 := a6 e
    obtain ⟨w1, w2, w3, w4, w5, w6⟩ := g.wg h6 hj
    subst e
    rw [a3] at ha
    by_cases e2 : d = p_ws (p_aC W H L hs) b (n - (j + 1)) (p_wg (p_aC W H L hs) b n st j)
    · rw [e2, w4] at ha
      rcases ha with ha | ⟨q, ha, hs9⟩
      · cases ha
      · cases ha
        have := a5 _ hs9
        rw [w5] at this
        cases this
    · omega
  · exact Or.inr hB
theorem p_Q.room (g : p_giv W H L hs b n st) (h : p_Q W H L hs b n st j head le tail d f qu) {q : Nat} (hq : q < 13 * (W * H)) (hf : f q = none) : tail < 325 := by
  obtain ⟨b1, b2, b3, -⟩ := h
  have := (p_cnS_lt hf 325).2 (by have := g.1.2; omega)
  omega
theorem isN {o : Option Nat} (h : ¬ o.isSome = true) : o = none := by
  cases o with
  | none => rfl
  | some x => exact absurd rfl h
theorem p_path_up {q : Nat} (hf : f q = none) {j : Nat} {P : Nat → Nat} (h : ∀ i, i < j → f (P (i + 1)) = some (P i)) {v : Nat} : ∀ i, i < j → p_upO f q v (P (i + 1)) = some (P i) := by
  intro i hi
  rw [p_upO_n (fun e => by
    have := h i hi
    rw [e, hf] at this
    cases this)]
  exact h i hi
/-- a step to what is new, not on the goal's cell -/
theorem p_Q.push (g : p_giv W H L hs b n st) (h : p_Q W H L hs b n st j head le tail d f qu) (hd : d < 4) (hh : head < le) {q : Nat} (ha : p_aC W H L hs (qu head) d = some q) (hf : f q = none) (hb : ¬ q / 13 = b) : p_Q W H L hs b n st j head le (tail + 1) (d + 1) (p_upO f q (qu head)) (p_upN qu tail q) := by
  have hroom : ∀ x, x < 13 * (W * H) → f x = none → tail < 325 := fun x hx hx2 => h.room g hx hx2
  obtain ⟨⟨b1, b1', b1''⟩, b2, b3, b4, b5, b6, b7, b8⟩ := h
  obtain ⟨c1, c2, c3⟩ := b2 head (by omega)
  have hL := g.1.1
  have q1 := p_aC_lt hd hL c1 ha
  have q2 := p_aC_val hd hL ha
  have ht := hroom q q1 hf
  have lq := p_lb_s (b5 head (Nat.le_refl _) hh) hd ha
  have hq325 : q < 325 := by have := g.1.2; omega
  have so : ∀ x, (p_upO f q (qu head) x).isSome = true → x = q ∨ (f x).isSome = true := fun x hx => by
    by_cases e : x = q
    · exact Or.inl e
    · rw [p_upO_n e] at hx
      exact Or.inr hx
  have os : ∀ x, (f x).isSome = true → (p_upO f q (qu head) x).isSome = true := fun x hx => by
    by_cases e : x = q
    · subst e
      rw [p_upO_s]
      rfl
    · rw [p_upO_n e]
      exact hx
  refine ⟨⟨b1, by omega, by omega⟩, fun i hi => ?_, ?_, fun p y hp => ?_, fun i h1 h2 => ?_, fun i h1 h2 => ?_, fun p hp => ?_, fun h6 => ?_⟩
  · by_cases e : i = tail
    · subst e
      rw [p_upN_s]
      exact ⟨q1, q2, by rw [p_upO_s]; rfl⟩
    · rw [p_upN_n e]
      obtain ⟨x1, x2, x3⟩ := b2 i (by omega)
      exact ⟨x1, x2, os _ x3⟩
  · rw [(p_cnS_up hf 325).1 hq325, b3]
  · by_cases e : p = q
    · subst e
      rw [p_upO_s] at hp
      cases hp
      exact c1
    · rw [p_upO_n e] at hp
      exact b4 p y hp
  · rw [p_upN_n (by omega)]
    exact b5 i h1 h2
  · by_cases e : i = tail
    · subst e
      rw [p_upN_s]
      exact lq
    · rw [p_upN_n e]
      exact b6 i h1 (by omega)
  · rcases so p hp with e | e
    · subst e
      exact lq
    · exact b7 p e
  · obtain ⟨hj, hph⟩ := b8 h6
    refine ⟨hj, ?_⟩
    obtain ⟨w1, w2, w3, w4, w5, w6⟩ := g.wg h6 hj
    rcases hph with ⟨h, a1, a2, a3, a4, a5, a6, a7⟩ | ⟨hj2, h, a1, a2, a3, a4, a5⟩
    · cases hg : p_rch (p_aC W H L hs) b (n - (j + 1)) q with
      | false =>
        refine Or.inl ⟨h, a1, a2, by rw [p_upN_n (by omega)]; exact a3, fun i h1 h2 => by rw [p_upN_n (by omega)]; exact a4 i h1 h2, fun p hp => ?_, fun e => ?_, p_path_up hf a7⟩
        · rcases so p hp with e | e
          · subst e
            exact hg
          · exact a5 p e
        · have a6 := a6 e
          subst e
          by_cases e2 : d = p_ws (p_aC W H L hs) b (n - (j + 1)) (p_wg (p_aC W H L hs) b n st j)
          · rw [a3, e2, w4] at ha
            cases ha
            rw [w5] at hg
            cases hg
          · omega
      | true =>
        have gc := p_rch_s hd ha hg
        rw [show n - (j + 1) + 1 = n - j by omega] at gc
        have eh : h = head := by
          by_cases e : h = head
          · exact e
          · have := a4 head (Nat.le_refl _) (by omega)
            rw [gc] at this
            cases this
        have a6 := a6 eh
        subst eh
        have ed : d = p_ws (p_aC W H L hs) b (n - (j + 1)) (p_wg (p_aC W H L hs) b n st j) := by
          by_cases e : d < p_ws (p_aC W H L hs) b (n - (j + 1)) (p_wg (p_aC W H L hs) b n st j)
          · have := w6 d e
            rw [← a3, ha] at this
            have this : p_rch (p_aC W H L hs) b (n - (j + 1)) q = false := this
            rw [hg] at this
            cases this
          · omega
        have eq : p_wg (p_aC W H L hs) b n st (j + 1) = q := by
          have ha2 := ha
          rw [a3, ed, w4] at ha2
          cases ha2
          rfl
        refine Or.inr ⟨?_, tail, b1', by omega, by rw [p_upN_s, eq], fun i h1 h2 => ?_, fun i hi => ?_⟩
        · by_cases e : j + 1 < n
          · exact e
          · rw [show n - (j + 1) = 0 by omega] at hg
            exact absurd (of_decide_eq_true hg) hb
        · rw [p_upN_n (by omega)]
          exact a5 _ (b2 i (by omega)).2.2
        · by_cases e : i = j
          · subst e
            rw [eq, p_upO_s, a3]
          · exact p_path_up hf a7 i (by omega)
    · exact Or.inr ⟨hj2, h, a1, by omega, by rw [p_upN_n (by omega)]; exact a3, fun i h1 h2 => by rw [p_upN_n (by omega)]; exact a4 i h1 h2, p_path_up hf a5⟩
/-- a step to what is new, on the goal's cell: it is the way's last -/
theorem p_Q.goal (g : p_giv W H L hs b n st) (h : p_Q W H L hs b n st j head le tail d f qu) (hj60 : j < 60) (hd : d < 4) (hh : head < le) {q : Nat} (ha : p_aC W H L hs (qu head) d = some q) (hf : f q = none) (hb : q / 13 = b) : n = j + 1 ∧ q = p_wg (p_aC W H L hs) b n st n ∧ ∀ i, i < n → p_upO f q (qu head) (p_wg (p_aC W H L hs) b n st (i + 1)) = some (p_wg (p_aC W H L hs) b n st i) := by
  obtain ⟨⟨b1, b1', b1''⟩, b2, b3, b4, b5, b6, b7, b8⟩ := h
  have r0 : p_rch (p_aC W H L hs) b 0 q = true := decide_eq_true hb
  have lq := p_lb_s (b5 head (Nat.le_refl _) hh) hd ha 0 r0
  have h6 : n ≤ 60 := by omega
  obtain ⟨hj, hph⟩ := b8 h6
  have en : n = j + 1 := by omega
  obtain ⟨w1, w2, w3, w4, w5, w6⟩ := g.wg h6 hj
  rcases hph with ⟨h, a1, a2, a3, a4, a5, a6, a7⟩ | ⟨hj2, -⟩
  · have gc := p_rch_s hd ha r0
    have eh : h = head := by
      by_cases e : h = head
      · exact e
      · have := a4 head (Nat.le_refl _) (by omega)
        rw [show n - j = 0 + 1 by omega, gc] at this
        cases this
    have a6 := a6 eh
    subst eh
    have ed : d = p_ws (p_aC W H L hs) b (n - (j + 1)) (p_wg (p_aC W H L hs) b n st j) := by
      by_cases e : d < p_ws (p_aC W H L hs) b (n - (j + 1)) (p_wg (p_aC W H L hs) b n st j)
      · have := w6 d e
        rw [← a3, ha, show n - (j + 1) = 0 by omega] at this
        have this : p_rch (p_aC W H L hs) b 0 q = false := this
        rw [r0] at this
        cases this
      · omega
    have eq : p_wg (p_aC W H L hs) b n st (j + 1) = q := by
      have ha2 := ha
      rw [a3, ed, w4] at ha2
      cases ha2
      rfl
    refine ⟨en, ?_, fun i hi => ?_⟩
    · rw [← eq, ← en]
    · by_cases e : i = j
      · subst e
        rw [eq, p_upO_s, a3]
      · exact p_path_up hf a7 i (by omega)
  · omega
/-- all four steps of one are gone -/
theorem p_Q.next (g : p_giv W H L hs b n st) (h : p_Q W H L hs b n st j head le tail 4 f qu) (hh : head < le) : p_Q W H L hs b n st j (head + 1) le tail 0 f qu := by
  obtain ⟨⟨b1, b1', b1''⟩, b2, b3, b4, b5, b6, b7, b8⟩ := h
  refine ⟨⟨by omega, b1', b1''⟩, b2, b3, b4, fun i h1 h2 => b5 i (by omega) h2, b6, b7, fun h6 => ?_⟩
  obtain ⟨hj, hph⟩ := b8 h6
  refine ⟨hj, ?_⟩
  rcases hph with ⟨h, a1, a2, a3, a4, a5, a6, a7⟩ | hB
  · obtain ⟨w1, w2, w3, w4, w5, w6⟩ := g.wg h6 hj
    have : h ≠ head := fun e => by
      have := a6 e
      omega
    exact Or.inl ⟨h, by omega, a2, a3, fun i h1 h2 => a4 i (by omega) h2, a5, fun _ => Nat.zero_le _, a7⟩
  · exact Or.inr hB
/-- a level is done -/
theorem p_Q.level (h : p_Q W H L hs b n st j le le tail 0 f qu) : p_Q W H L hs b n st (j + 1) le tail tail 0 f qu := by
  obtain ⟨⟨b1, b1', b1''⟩, b2, b3, b4, b5, b6, b7, b8⟩ := h
  refine ⟨⟨b1', Nat.le_refl _, b1''⟩, b2, b3, b4, b6, fun i h1 h2 => by omega, fun p hp => p_lb_m (b7 p hp), fun h6 => ?_⟩
  obtain ⟨hj, hph⟩ := b8 h6
  rcases hph with ⟨h, a1, a2, -⟩ | ⟨hj2, h, a1, a2, a3, a4, a5⟩
  · omega
  · refine ⟨hj2, Or.inl ⟨h, a1, a2, a3, a4, fun p hp => ?_, fun _ => Nat.zero_le _, a5⟩⟩
    cases e : p_rch (p_aC W H L hs) b (n - (j + 1 + 1)) p with
    | false => rfl
    | true =>
      have := b7 p hp _ e
      omega
/-- the beginning -/
theorem p_Q.zero (g : p_giv W H L hs b n st) : p_Q W H L hs b n st 0 0 1 1 0 (p_upO (fun _ => none) st st) (fun _ => st) := by
  obtain ⟨⟨hL, hC⟩, h0, hv, h1, h2, hr, hl⟩ := g
  have so : ∀ x, (p_upO (fun _ => none) st st x).isSome = true → x = st := fun x hx => by
    by_cases e : x = st
    · exact e
    · rw [p_upO_n e] at hx
      cases hx
  refine ⟨⟨by omega, by omega, by omega⟩, fun i hi => ⟨h0, hv, by rw [p_upO_s]; rfl⟩, ?_, fun p y hp => ?_, fun i h1 h2 => hl, fun i h1 h2 => by omega, fun p hp => ?_, fun h6 => ⟨by omega, Or.inl ⟨0, by omega, by omega, rfl, fun i h1 h2 => by omega, fun p hp => ?_, fun _ => Nat.zero_le _, fun i hi => by omega⟩⟩⟩
  · rw [(p_cnS_up rfl 325).1 (by omega), p_cnS_0 (fun _ => rfl)]
  · have e := so p (by rw [hp]; rfl)
    subst e
    rw [p_upO_s] at hp
    cases hp
    exact h0
  · rw [so p hp]
    exact p_lb_m hl
  · rw [so p hp]
    cases e : p_rch (p_aC W H L hs) b (n - (0 + 1)) st with
    | false => rfl
    | true =>
      have := hl _ e
      omega
end PQ
