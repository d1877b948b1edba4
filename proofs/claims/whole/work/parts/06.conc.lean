/-! from the small machine to the machine: what a state of the one is in the other -/
def z_ad (b : Nat) (sp : Nat → Nat) (k : Nat) : Nat := if k < 1000 then b + k else sp (k - 1000)
def z_v (ad : Nat → Nat) (v : Value) : Value := match v with
  | .ref k => .ref (ad k)
  | w => w
def z_e (ad : Nat → Nat) (cA : Nat → ClassId) (e : ZE) : va_E := match e with
  | .inl o => .inr (o.1, o.2.map (z_v ad))
  | .inr (t, n, .inl f) => .inl (cA t, n, .inl f)
  | .inr (t, n, .inr (.inl f)) => .inl (cA t, n, .inr (.inl f))
  | .inr (t, n, .inr (.inr f)) => .inl (cA t, n, .inr (.inr (.inr (.inr (fun j => (f j).map ad)))))
def z_ws (b : Nat) (sp : Nat → Nat) (cA : Nat → ClassId) (M : ZM) : va_W := M.mapIdx (fun k e => (b + k, z_e (z_ad b sp) cA e))
def z_A (b : Nat) : Nat → Prop := fun q => b ≤ q
theorem z_ws_get (b : Nat) (sp : Nat → Nat) (cA : Nat → ClassId) (M : ZM) (k : Nat) : (z_ws b sp cA M)[k]? = (M[k]?).map (fun e => (b + k, z_e (z_ad b sp) cA e)) := by
  unfold z_ws
  rw [List.getElem?_mapIdx]
theorem z_ws_at {b : Nat} {sp : Nat → Nat} {cA : Nat → ClassId} {M : ZM} {k : Nat} {e : ZE} (h : M[k]? = some e) : (z_ws b sp cA M)[k]? = some (b + k, z_e (z_ad b sp) cA e) := by
  rw [z_ws_get, h]
  rfl
theorem z_ws_set (b : Nat) (sp : Nat → Nat) (cA : Nat → ClassId) (M : ZM) (k : Nat) (e : ZE) : z_ws b sp cA (M.set k e) = (z_ws b sp cA M).set k (b + k, z_e (z_ad b sp) cA e) := by
  unfold z_ws
  rw [List.mapIdx_set]
theorem z_ws_app (b : Nat) (sp : Nat → Nat) (cA : Nat → ClassId) (M : ZM) (e : ZE) : z_ws b sp cA (M ++ [e]) = z_ws b sp cA M ++ [(b + M.length, z_e (z_ad b sp) cA e)] := by
  unfold z_ws
  rw [List.mapIdx_append]
  simp
theorem z_D (b : Nat) (sp : Nat → Nat) (cA : Nat → ClassId) (M : ZM) : va_D (z_A b) (z_ws b sp cA M) := by
  refine ⟨fun i j p q hi hj hpq => ?_, fun k q hk => ?_⟩
  · rw [z_ws_get] at hi hj
    cases h1 : M[i]? with
    | none => rw [h1] at hi; cases hi
    | some e1 =>
      cases h2 : M[j]? with
      | none => rw [h2] at hj; cases hj
      | some e2 =>
        rw [h1] at hi
        rw [h2] at hj
        cases hi
        cases hj
        have h3 : b + i = b + j := hpq
        omega
  · rw [z_ws_get] at hk
    cases h1 : M[k]? with
    | none => rw [h1] at hk; cases hk
    | some e1 =>
      rw [h1] at hk
      cases hk
      exact Nat.le_add_right b k
/-- the cells of the small machine are the heap's last ones -/
def z_wd (b : Nat) (sp : Nat → Nat) (cA : Nat → ClassId) (D : va_G) (M : ZM) (H : Heap) : Prop := M.length ≤ 900 ∧ va_P D vwCl (z_ws b sp cA M) H
def z_has (ad : Nat → Nat) (ls : Array Slot) (n : Nat) (L : ZL) : Prop := ls.size = n ∧ lv_wf ls ∧ L.length = n ∧ ∀ (i : Nat) (v : Value), L[i]? = some (some v) → ls[i]? = some (.val (z_v ad v))
def z_asc (ad : Nat → Nat) (L : ZL) : List (Nat × Value) := (List.range L.length).filterMap (fun i => match L[i]? with
  | some (some v) => some (i, z_v ad v)
  | _ => none)
theorem z_asc_mem {ad : Nat → Nat} {L : ZL} {q : Nat × Value} : q ∈ z_asc ad L ↔ ∃ v, L[q.1]? = some (some v) ∧ q.2 = z_v ad v := by
  unfold z_asc
  rw [List.mem_filterMap]
  constructor
  · rintro ⟨i, hi, h⟩
    split at h
    · rename_i v hv
      cases h
      exact ⟨v, hv, rfl⟩
    · cases h
  · rintro ⟨v, hv, h⟩
    refine ⟨q.1, List.mem_range.mpr (List.getElem?_eq_some_iff.mp hv).1, ?_⟩
    rw [hv]
    show some (q.1, z_v ad v) = some q
    rw [← h]
theorem z_has.lv {ad : Nat → Nat} {ls : Array Slot} {n : Nat} {L : ZL} (h : z_has ad ls n L) : lv_has ls n (z_asc ad L) := by
  refine ⟨h.1, h.2.1, fun q hq => ?_⟩
  obtain ⟨v, h1, h2⟩ := z_asc_mem.mp hq
  rw [h2]
  exact h.2.2.2 _ _ h1
theorem z_v_cat (ad : Nat → Nat) (v : Value) : (z_v ad v).category = v.category := by cases v <;> rfl
theorem z_cut_len (L : ZL) (i : Nat) : (z_cut L i).length = L.length := by
  unfold z_cut
  split
  · rfl
  · split
    · split
      · exact List.length_set
      · rfl
    · rfl
theorem z_cut_at {L : ZL} {i j : Nat} {v : Value} (h : (z_cut L i)[j]? = some (some v)) : L[j]? = some (some v) ∧ ¬ (j + 1 = i ∧ v.category = 2) := by
  unfold z_cut at h
  split at h
  · exact ⟨h, fun g => by omega⟩
  · rename_i k
    split at h
    · rename_i w hw
      split at h
      · rename_i hc
        rw [List.getElem?_set] at h
        split at h
        · split at h
          · cases h
          · cases h
        · rename_i hne
          exact ⟨h, fun g => hne (by omega)⟩
      · rename_i hc
        refine ⟨h, fun g => hc ?_⟩
        have : j = k := by omega
        subst this
        rw [hw] at h
        cases h
        exact g.2
    · rename_i hno
      refine ⟨h, fun g => ?_⟩
      have : j = k := by omega
      subst this
      exact hno v h
theorem z_has.st1 {ad : Nat → Nat} {ls : Array Slot} {n i : Nat} {L : ZL} {v w : Value} (hw : z_v ad v = w) (hL : L.length = n) (h : lv_has ls n ((i, w) :: (z_asc ad L).filter (fun q => !(q.1 == i) && !(q.1 + 1 == i && q.2.category == 2)))) : z_has ad ls n (z_st1 L i v) := by
  refine ⟨h.1, h.2.1, ?_, fun j x hj => ?_⟩
  · unfold z_st1
    rw [List.length_set, z_cut_len, hL]
  · unfold z_st1 at hj
    rw [List.getElem?_set] at hj
    split at hj
    · rename_i he
      split at hj
      · cases hj
        subst he
        rw [hw]
        exact h.2.2 (i, w) List.mem_cons_self
      · cases hj
    · rename_i hne
      obtain ⟨h1, h2⟩ := z_cut_at hj
      refine h.2.2 (j, z_v ad x) (List.mem_cons_of_mem _ (List.mem_filter.mpr ⟨z_asc_mem.mpr ⟨x, h1, rfl⟩, ?_⟩))
      simp only [Bool.and_eq_true, Bool.not_eq_true', beq_eq_false_iff_ne, Bool.and_eq_false_iff, z_v_cat]
      refine ⟨fun g => hne g.symm, ?_⟩
      by_cases hx : j + 1 = i
      · exact Or.inr (fun g => h2 ⟨hx, g⟩)
      · exact Or.inl hx
theorem z_has.st2 {ad : Nat → Nat} {ls : Array Slot} {n i : Nat} {L : ZL} {v w : Value} (hw : z_v ad v = w) (hL : L.length = n) (h : lv_has ls n ((i, w) :: (z_asc ad L).filter (fun q => !(q.1 == i) && (!(q.1 == i + 1) && !(q.1 + 1 == i && q.2.category == 2))))) : z_has ad ls n (z_st2 L i v) := by
  refine ⟨h.1, h.2.1, ?_, fun j x hj => ?_⟩
  · unfold z_st2
    rw [List.length_set, List.length_set, z_cut_len, hL]
  · unfold z_st2 at hj
    rw [List.getElem?_set] at hj
    split at hj
    · rename_i he
      split at hj
      · cases hj
        subst he
        rw [hw]
        exact h.2.2 (i, w) List.mem_cons_self
      · cases hj
    · rename_i hne
      rw [List.getElem?_set] at hj
      split at hj
      · split at hj
        · cases hj
        · cases hj
      · rename_i hne2
        obtain ⟨h1, h2⟩ := z_cut_at hj
        refine h.2.2 (j, z_v ad x) (List.mem_cons_of_mem _ (List.mem_filter.mpr ⟨z_asc_mem.mpr ⟨x, h1, rfl⟩, ?_⟩))
        simp only [Bool.and_eq_true, Bool.not_eq_true', beq_eq_false_iff_ne, Bool.and_eq_false_iff, z_v_cat]
        refine ⟨fun g => hne g.symm, fun g => hne2 g.symm, ?_⟩
        by_cases hx : j + 1 = i
        · exact Or.inr (fun g => h2 ⟨hx, g⟩)
        · exact Or.inl hx
def z_tys (cA : Nat → ClassId) : List (ClassId × FieldType) := [(cA 0, .int), (cA 1, .byte), (cA 2, .boolean), (cA 3, .long), (cA 4, .object RX0), (cA 5, .object RX2)]
/-- how many slots the cells have -/
def z_sz1 (e : ZE) : Nat := match e with
  | .inl o => (z_cls o.1).2.2
  | .inr a => a.2.1
def z_sz : ZM → Nat
  | [] => 0
  | e :: t => z_sz1 e + z_sz t
theorem z_sz_app (M : ZM) (e : ZE) : z_sz (M ++ [e]) = z_sz M + z_sz1 e := by
  induction M with
  | nil => show z_sz1 e + 0 = 0 + z_sz1 e; omega
  | cons x t ih => show z_sz1 x + z_sz (t ++ [e]) = z_sz1 x + z_sz t + z_sz1 e; omega
theorem z_sz_set : ∀ (M : ZM) (k : Nat) (e x : ZE), M[k]? = some x → z_sz1 e = z_sz1 x → z_sz (M.set k e) = z_sz M := by
  intro M
  induction M with
  | nil => intro k e x h _; cases h
  | cons y t ih =>
    intro k e x h he
    cases k with
    | zero =>
      cases h
      show z_sz1 e + z_sz t = z_sz1 y + z_sz t
      omega
    | succ k =>
      show z_sz1 y + z_sz (t.set k e) = z_sz1 y + z_sz t
      rw [ih k e x h he]
