/-! THE WHOLE STATE as a value: the text, the yard, the images, the trace; and how either side holds it (the class in the cells below 62, the reference from 62 on) -/
/-- houses, the lot, how many chains, the chains -/
abbrev ZB : Type := Int32 × Int32 × Nat × (Nat → ZK)
/-- ((bytes, text), (W, H, L), what images keep, the two images, the trace) -/
abbrev ZT : Type := (Nat × (Nat → Int32)) × (Nat × Nat × Nat) × ZB × (Nat → Option ZB) × Int64
def x_R (M : ZM) (T : Nat) (tx : Nat → Int32) : Prop := T ≤ 200 ∧ (∃ i1 i2 i6 i7 i8 : Int32, M[11]? = some (.inl (1, [.int (zI (T : Int)), .int i1, .int i2, .ref 13, .ref 12, .ref 23, .int i6, .int i7, .int i8]))) ∧ (∃ g : Nat → Int32, M[12]? = some (.inr (1, 200, .inl g)) ∧ ∀ j, j < T → g j = tx j) ∧ (∃ v, k_o M 13 v) ∧ (∃ ch, k_R M 13 ch) ∧ ∃ r, k_c M 23 r
def x_W (M : ZM) : Prop := (∃ i1 i2 : Int32, M[25]? = some (.inl (3, [.ref 26, .int i1, .int i2, .ref 27, .ref 28, .ref 29, .ref 30, .ref 31, .ref 32]))) ∧ (∃ f : Nat → Int32, M[26]? = some (.inr (0, 60, .inl f))) ∧ (∃ f : Nat → Int32, M[27]? = some (.inr (0, 100, .inl f))) ∧ (∃ f : Nat → Int32, M[28]? = some (.inr (0, 325, .inl f))) ∧ (∃ f : Nat → Int32, M[29]? = some (.inr (0, 325, .inl f))) ∧ (∃ f : Nat → Int64, M[30]? = some (.inr (3, 325, .inr (.inl f)))) ∧ (∃ f : Nat → Int64, M[31]? = some (.inr (3, 325, .inr (.inl f)))) ∧ ∃ f : Nat → Int32, M[32]? = some (.inr (0, 4225, .inl f))
def x_V (M : ZM) : Prop := (∃ i3 i4 i5 i6 i7 i9 : Int32, M[33]? = some (.inl (4, [.ref 34, .ref 35, .ref 36, .int i3, .int i4, .int i5, .int i6, .int i7, .ref 37, .int i9]))) ∧ (∃ f : Nat → Int32, M[34]? = some (.inr (0, 30, .inl f))) ∧ (∃ f : Nat → Int32, M[35]? = some (.inr (0, 30, .inl f))) ∧ (∃ f : Nat → Int32, M[36]? = some (.inr (0, 3, .inl f))) ∧ ∃ f : Nat → Int32, M[37]? = some (.inr (0, 40, .inl f))
def x_G (M : ZM) (W H L : Nat) (im : Nat → Option ZB) : Prop := (∃ f : Nat → Option Nat, M[40]? = some (.inr (5, 2, .inr (.inr f))) ∧ f 0 = some 41 ∧ f 1 = some 51) ∧ (∃ kf : Nat → Int32, M[61]? = some (.inr (2, 2, .inl kf)) ∧ ∀ i, i < 2 → kf i = zI (if (im i).isSome = true then 1 else 0)) ∧ ∀ i, i < 2 → (∃ v, k_o M (41 + 10 * i) v) ∧ (∃ ch, k_R M (41 + 10 * i) ch) ∧ ∀ b, im i = some b → k_A M (41 + 10 * i) W H L b.1 b.2.1 b.2.2.1 b.2.2.2
/-- the class holds this state -/
def X_I (M : ZM) (A : ZT) : Prop := 78 ≤ M.length ∧ M[0]? = some (.inl (5, [.ref 1, .ref 11, .ref 25, .ref 33, .ref 38, .ref 40, .ref 61, .long A.2.2.2.2])) ∧ k_A M 1 A.2.1.1 A.2.1.2.1 A.2.1.2.2 A.2.2.1.1 A.2.2.1.2.1 A.2.2.1.2.2.1 A.2.2.1.2.2.2 ∧ x_R M A.1.1 A.1.2 ∧ x_W M ∧ x_V M ∧ (∃ r, k_c M 38 r) ∧ x_G M A.2.1.1 A.2.1.2.1 A.2.1.2.2 A.2.2.2.1
/-- the reference's rows that hold nothing between calls -/
def y_W (M : ZM) : Prop := (∃ f : Nat → Int32, M[69]? = some (.inr (0, 325, .inl f))) ∧ (∃ f : Nat → Int64, M[70]? = some (.inr (3, 325, .inr (.inl f)))) ∧ (∃ f : Nat → Int64, M[71]? = some (.inr (3, 325, .inr (.inl f)))) ∧ (∃ f : Nat → Int32, M[72]? = some (.inr (0, 4225, .inl f))) ∧ (∃ f : Nat → Int32, M[73]? = some (.inr (0, 60, .inl f))) ∧ (∃ f : Nat → Int32, M[74]? = some (.inr (0, 60, .inl f))) ∧ (∃ f : Nat → Int32, M[75]? = some (.inr (0, 60, .inl f))) ∧ (∃ f : Nat → Int32, M[76]? = some (.inr (0, 3, .inl f))) ∧ ∃ f : Nat → Int32, M[77]? = some (.inr (0, 12, .inl f))
/-- the reference holds this state -/
def Y_I (M : ZM) (A : ZT) : Prop := 78 ≤ M.length ∧ ∃ v wd hd ld nw : Nat → Int32, m_Y M A.2.2.2.2 v wd hd ld nw A.2.1.1 A.2.1.2.1 A.2.1.2.2 A.2.2.1.1 A.2.2.1.2.1 A.2.2.1.2.2.1 A.2.2.1.2.2.2 ∧ v 2 = zI (A.1.1 : Int) ∧ A.1.1 ≤ 200 ∧ (∃ g : Nat → Int32, M[63]? = some (.inr (1, 200, .inl g)) ∧ ∀ j, j < A.1.1 → g j = A.1.2 j) ∧ (∃ kf : Nat → Int32, M[68]? = some (.inr (2, 2, .inl kf)) ∧ ∀ i, i < 2 → kf i = zI (if (A.2.2.2.1 i).isSome = true then 1 else 0)) ∧ (∀ i, i < 2 → ∀ b, A.2.2.2.1 i = some b → m_A nw (59 * (2 + i)) b.1 b.2.1 b.2.2.1 b.2.2.2 ∧ b.2.2.1 ≤ 4 ∧ ∀ k, k < b.2.2.1 → p_ok A.2.1.1 A.2.1.2.1 b.1 (b.2.2.2 k)) ∧ y_W M
theorem k_O.ev {M M' : ZM} {P : Nat → Prop} {a W H L n : Nat} {hs lot : Int32} (e : z_ev M M' P) (h0 : ¬ P a) (h : k_O M a W H L hs n lot) : k_O M' a W H L hs n lot := ⟨(e.2 _ h0).trans h.1, h.2⟩
theorem k_A.ev {M M' : ZM} {P : Nat → Prop} {a W H L n : Nat} {hs lot : Int32} {kc : Nat → ZK} (e : z_ev M M' P) (h0 : ∀ k, a ≤ k → k < a + 10 → ¬ P k) (h : k_A M a W H L hs lot n kc) : k_A M' a W H L hs lot n kc := by
  obtain ⟨h1, h2, ch, h3, h4⟩ := h
  exact ⟨h1, h2.ev e (h0 _ (by omega) (by omega)), ch, h3.eqv e h0, h4⟩
theorem k_o.ev {M M' : ZM} {P : Nat → Prop} {a : Nat} {v : Nat → Int32} (e : z_ev M M' P) (h0 : ¬ P a) (h : k_o M a v) : k_o M' a v := (e.2 _ h0).trans h
theorem x_R.ev {M M' : ZM} {P : Nat → Prop} {T : Nat} {tx : Nat → Int32} (e : z_ev M M' P) (h0 : ∀ k, 11 ≤ k → k < 25 → ¬ P k) (h : x_R M T tx) : x_R M' T tx := by
  obtain ⟨h1, ⟨a1, a2, a3, a4, a5, h2⟩, ⟨g, h3, h4⟩, ⟨v, h5⟩, ⟨ch, h6⟩, r, h7⟩ := h
  exact ⟨h1, ⟨a1, a2, a3, a4, a5, (e.2 _ (h0 _ (by decide) (by decide))).trans h2⟩, ⟨g, (e.2 _ (h0 _ (by decide) (by decide))).trans h3, h4⟩, ⟨v, h5.ev e (h0 _ (by decide) (by decide))⟩, ⟨ch, h6.eqv e (fun k g1 g2 => h0 k (by omega) (by omega))⟩, r, h7.eqv e (h0 _ (by decide) (by decide)) (h0 _ (by decide) (by decide))⟩
theorem x_W.ev {M M' : ZM} {P : Nat → Prop} (e : z_ev M M' P) (h0 : ∀ k, 25 ≤ k → k < 33 → ¬ P k) (h : x_W M) : x_W M' := by
  obtain ⟨⟨a1, a2, h1⟩, ⟨f2, h2⟩, ⟨f3, h3⟩, ⟨f4, h4⟩, ⟨f5, h5⟩, ⟨f6, h6⟩, ⟨f7, h7⟩, f8, h8⟩ := h
  have q : ∀ k, 25 ≤ k → k < 33 → M'[k]? = M[k]? := fun k g1 g2 => e.2 k (h0 k g1 g2)
  exact ⟨⟨a1, a2, (q _ (by decide) (by decide)).trans h1⟩, ⟨f2, (q _ (by decide) (by decide)).trans h2⟩, ⟨f3, (q _ (by decide) (by decide)).trans h3⟩, ⟨f4, (q _ (by decide) (by decide)).trans h4⟩, ⟨f5, (q _ (by decide) (by decide)).trans h5⟩, ⟨f6, (q _ (by decide) (by decide)).trans h6⟩, ⟨f7, (q _ (by decide) (by decide)).trans h7⟩, f8, (q _ (by decide) (by decide)).trans h8⟩
theorem x_V.ev {M M' : ZM} {P : Nat → Prop} (e : z_ev M M' P) (h0 : ∀ k, 33 ≤ k → k < 38 → ¬ P k) (h : x_V M) : x_V M' := by
  obtain ⟨⟨a1, a2, a3, a4, a5, a6, h1⟩, ⟨f2, h2⟩, ⟨f3, h3⟩, ⟨f4, h4⟩, f5, h5⟩ := h
  have q : ∀ k, 33 ≤ k → k < 38 → M'[k]? = M[k]? := fun k g1 g2 => e.2 k (h0 k g1 g2)
  exact ⟨⟨a1, a2, a3, a4, a5, a6, (q _ (by decide) (by decide)).trans h1⟩, ⟨f2, (q _ (by decide) (by decide)).trans h2⟩, ⟨f3, (q _ (by decide) (by decide)).trans h3⟩, ⟨f4, (q _ (by decide) (by decide)).trans h4⟩, f5, (q _ (by decide) (by decide)).trans h5⟩
theorem x_G.ev {M M' : ZM} {P : Nat → Prop} {W H L : Nat} {im : Nat → Option ZB} (e : z_ev M M' P) (h0 : ∀ k, 40 ≤ k → k < 62 → ¬ P k) (h : x_G M W H L im) : x_G M' W H L im := by
  obtain ⟨⟨f, h1, h2⟩, ⟨kf, h3, h4⟩, h5⟩ := h
  refine ⟨⟨f, (e.2 _ (h0 _ (by decide) (by decide))).trans h1, h2⟩, ⟨kf, (e.2 _ (h0 _ (by decide) (by decide))).trans h3, h4⟩, fun i hi => ?_⟩
  obtain ⟨⟨v, g1⟩, ⟨ch, g2⟩, g3⟩ := h5 i hi
  exact ⟨⟨v, g1.ev e (h0 _ (by omega) (by omega))⟩, ⟨ch, g2.eqv e (fun k x1 x2 => h0 k (by omega) (by omega))⟩, fun b hb => (g3 b hb).ev e (fun k x1 x2 => h0 k (by omega) (by omega))⟩
theorem X_I.ev {M M' : ZM} {P : Nat → Prop} {A : ZT} (e : z_ev M M' P) (h0 : ∀ k, k < 62 → ¬ P k) (h : X_I M A) : X_I M' A := by
  obtain ⟨h1, h2, h3, h4, h5, h6, ⟨r, h7⟩, h8⟩ := h
  exact ⟨by rw [e.1]; exact h1, (e.2 _ (h0 _ (by decide))).trans h2, h3.ev e (fun k g1 g2 => h0 k (by omega)), h4.ev e (fun k g1 g2 => h0 k (by omega)), h5.ev e (fun k g1 g2 => h0 k (by omega)), h6.ev e (fun k g1 g2 => h0 k (by omega)), ⟨r, h7.eqv e (h0 _ (by decide)) (h0 _ (by decide))⟩, h8.ev e (fun k g1 g2 => h0 k (by omega))⟩
theorem m_B.ev {M M' : ZM} {P : Nat → Prop} {tr : Int64} {v wd hd ld nw : Nat → Int32} (e : z_ev M M' P) (h0 : ∀ k, 62 ≤ k → k < 68 → ¬ P k) (h : m_B M tr v wd hd ld nw) : m_B M' tr v wd hd ld nw := by
  obtain ⟨h1, h2, h3, h4, h5⟩ := h
  have q : ∀ k, 62 ≤ k → k < 68 → M'[k]? = M[k]? := fun k g1 g2 => e.2 k (h0 k g1 g2)
  exact ⟨(q _ (by decide) (by decide)).trans h1, (q _ (by decide) (by decide)).trans h2, (q _ (by decide) (by decide)).trans h3, (q _ (by decide) (by decide)).trans h4, (q _ (by decide) (by decide)).trans h5⟩
theorem y_W.ev {M M' : ZM} {P : Nat → Prop} (e : z_ev M M' P) (h0 : ∀ k, 69 ≤ k → k < 78 → ¬ P k) (h : y_W M) : y_W M' := by
  obtain ⟨⟨f1, h1⟩, ⟨f2, h2⟩, ⟨f3, h3⟩, ⟨f4, h4⟩, ⟨f5, h5⟩, ⟨f6, h6⟩, ⟨f7, h7⟩, ⟨f8, h8⟩, f9, h9⟩ := h
  have q : ∀ k, 69 ≤ k → k < 78 → M'[k]? = M[k]? := fun k g1 g2 => e.2 k (h0 k g1 g2)
  exact ⟨⟨f1, (q _ (by decide) (by decide)).trans h1⟩, ⟨f2, (q _ (by decide) (by decide)).trans h2⟩, ⟨f3, (q _ (by decide) (by decide)).trans h3⟩, ⟨f4, (q _ (by decide) (by decide)).trans h4⟩, ⟨f5, (q _ (by decide) (by decide)).trans h5⟩, ⟨f6, (q _ (by decide) (by decide)).trans h6⟩, ⟨f7, (q _ (by decide) (by decide)).trans h7⟩, ⟨f8, (q _ (by decide) (by decide)).trans h8⟩, f9, (q _ (by decide) (by decide)).trans h9⟩
theorem Y_I.ev {M M' : ZM} {P : Nat → Prop} {A : ZT} (e : z_ev M M' P) (h0 : ∀ k, 62 ≤ k → ¬ P k) (h : Y_I M A) : Y_I M' A := by
  obtain ⟨h1, v, wd, hd, ld, nw, ⟨h2, h2b⟩, h3, h4, ⟨g, h5, h5b⟩, ⟨kf, h6, h6b⟩, h7, h8⟩ := h
  exact ⟨by rw [e.1]; exact h1, v, wd, hd, ld, nw, ⟨h2.ev e (fun k g1 g2 => h0 k (by omega)), h2b⟩, h3, h4, ⟨g, (e.2 _ (h0 _ (by decide))).trans h5, h5b⟩, ⟨kf, (e.2 _ (h0 _ (by decide))).trans h6, h6b⟩, h7, h8.ev e (fun k g1 g2 => h0 k (by omega))⟩
/-- a call of either side, as the law makes it: the answer and the state behind it -/
def z_Xc (S : ZS) (y : Nat) (as : List Value) (A : ZT) (r : Value) (A' : ZT) : Prop := ∀ (d : Nat) (M : ZM), X_I M A → ∃ M', z_C S (d + 20) y (.ref 0 :: as) M (some r) M' ∧ X_I M' A' ∧ z_ev M M' (fun k => k < 62)
def z_Yc (S : ZS) (y : Nat) (as : List Value) (A : ZT) (r : Value) (A' : ZT) : Prop := ∀ (d : Nat) (M : ZM), Y_I M A → ∃ M', z_C S (d + 20) y (.ref 62 :: as) M (some r) M' ∧ Y_I M' A' ∧ z_ev M M' (fun k => 62 ≤ k)
