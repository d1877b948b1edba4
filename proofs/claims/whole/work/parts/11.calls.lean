/-! calls: the contract of every method, out of the small machine's run of it -/
def z_rm (d mc ms : Nat) : Room := { frames := d + 6, cells := mc, slots := ms, locals := 100 * d + 300 }
def z_wsy (y : Nat) : List Cond := Cond.code (z_mt y).1 (z_mt y).2.1 (z_mt y).2.2.1 (z_mt y).2.2.2.1 :: z_gw
def z_Pc (b : Nat) (sp : Nat → Nat) (cA : Nat → ClassId) (D : va_G) (S : ZS) (as : List Value) (M : ZM) : Array Value → State → Prop := fun v U => v = (as.map (z_v (z_ad b sp))).toArray ∧ U.heap.size = b + M.length ∧ z_wd b sp cA D M U.heap ∧ va_K D vwCl (z_tys cA) U ∧ z_sp b sp S U U.heap
def z_Qc (b : Nat) (sp : Nat → Nat) (cA : Nat → ClassId) (D : va_G) (r : Option Value) (M' : ZM) : Array Value → State → Outcome → State → Prop := fun _ st o t => o = .returned (r.map (z_v (z_ad b sp))) ∧ z_wd b sp cA D M' t.heap ∧ va_F (z_A b) st t
def z_Met (l : Launch) (b : Nat) (sp : Nat → Nat) (cA : Nat → ClassId) (D : va_G) (S : ZS) (d y : Nat) (as : List Value) (M : ZM) (r : Option Value) (M' : ZM) : Prop :=
  Met l (z_mt y).1 (z_wsy y) (z_rm d (M'.length - M.length) (z_sz M' - z_sz M)) (z_Pc b sp cA D S as M) (z_Qc b sp cA D r M') (M'.length - M.length) (z_sz M' - z_sz M) (z_A b)
theorem z_good {ws : List Cond} (h : ∀ w ∈ ws, w ∈ z_gw) : GoodIn z_gw ws := fun w hw => ⟨h w hw, good_of_word (List.mem_filter.mp (h w hw)).2⟩
theorem z_wsy_in {y : Nat} (h : y < 168) : ∀ w ∈ z_wsy y, w ∈ z_gw := by
  intro w hw
  rcases List.mem_cons.mp hw with rfl | hw
  · exact List.mem_filter.mpr ⟨z_cwk y h, rfl⟩
  · exact hw
theorem z_sp.to {b : Nat} {sp : Nat → Nat} {S : ZS} {s U : State} {H : Heap} {locs : List Loc} (h : z_sp b sp S s s.heap) (hb : b ≤ s.heap.size) (hS : va_S (z_A b) s.heap H locs) (hW : s.WarmedH U.vm) (hU : U.heap = H) : z_sp b sp S U U.heap := by
  obtain ⟨h1, h2, ⟨adV, h3⟩, h4, h5, h6, h7, h8⟩ := h
  have hk : ∀ q : Nat, q < s.heap.size → ¬ z_A b q → U.heap[q]? = s.heap[q]? := fun q g1 g2 => by rw [hU]; exact hS.2.1 q g1 g2
  have h0 : sp 0 < b := h1 0 (by omega)
  exact ⟨h1, (h2.moved hW.alike).kept (hk _ (by omega) (fun g => absurd g (by unfold z_A; omega))), ⟨adV, (h3.moved hW.alike).kept hk⟩, fun q hq => by
    obtain ⟨tx, g⟩ := h4 q hq
    exact ⟨tx, g.warm hW⟩, h5.moved hW.alike, h6.moved hW.alike, (va_Z.moved hW.alike h7).kept hk, (h8.moved hW.alike).kept hk⟩
theorem z_blind {b : Nat} {sp : Nat → Nat} {cA : Nat → ClassId} {D : va_G} {S : ZS} {as : List Value} {M : ZM} : FrameBlind (z_Pc b sp cA D S as M) := by
  intro a U g mk h
  obtain ⟨h1, h2, h3, h4, h5⟩ := h
  obtain ⟨g1, g2, ⟨adV, g3⟩, g4, g5, g6, g7, g8⟩ := h5
  have hv : U.vm.Alike (U.calling g mk a).vm := Vm.Alike.refl U.vm
  exact ⟨h1, h2, h3, va_K.moved (u := U) (U := U.calling g mk a) hv h4, g1, va_X.moved (u := U) (U := U.calling g mk a) hv g2, ⟨adV, vk_S.moved (u := U) (U := U.calling g mk a) hv g3⟩, fun q hq => by
    obtain ⟨tx, gg⟩ := g4 q hq
    exact ⟨tx, vk_R.same (u := U) (U := U.calling g mk a) rfl gg⟩, va_AO.moved (u := U) (U := U.calling g mk a) hv g5, va_AO.moved (u := U) (U := U.calling g mk a) hv g6, va_Z.moved (u := U) (U := U.calling g mk a) hv g7, va_Zq.moved (u := U) (U := U.calling g mk a) hv g8⟩
theorem z_mok_of {k : Nat} (h : z_mok k = true) : k < 168 ∧ Cond.initialized (z_mt k).1.cls ∈ z_gw ∧ ((z_mt k).1.cls ≠ "java/lang/invoke/MethodHandle" ∧ (z_mt k).1.cls ≠ "java/lang/invoke/VarHandle" ∧ (parseMethodDescriptor (z_mt k).1.desc).map (fun d => d.parameters.length) = some (z_mt k).2.2.2.2.1) ∧ plainName (z_mt k).1.cls = true ∧ (z_mt k).2.2.1 ≤ 30 := by
  unfold z_mok z_par at h
  simp only [Bool.and_eq_true, decide_eq_true_eq] at h
  obtain ⟨⟨⟨⟨⟨⟨h1, h2⟩, h3⟩, h4⟩, h5⟩, h6⟩, h7⟩ := h
  exact ⟨h1, z_w_of h2, ⟨h3, h4, h5⟩, h6, h7⟩
theorem z_mono1 {S : ZS} {y : Nat} {i : Instr} {nx pc' : Nat} {ls ls' : ZL} {st st' : List Value} {M M' : ZM} (h : z_stp S y i nx ls st M = some (.inl (pc', ls', st', M'))) : M.length ≤ M'.length ∧ z_sz M ≤ z_sz M' := by
  cases i <;> simp only [z_stp] at h <;> (repeat' (split at h)) <;> first
    | (cases h; done)
    | (cases h; exact ⟨Nat.le_refl _, Nat.le_refl _⟩)
    | (cases h; exact ⟨Nat.le_of_eq List.length_set.symm, by refine Nat.le_of_eq (Eq.symm (z_sz_set _ _ _ _ (by assumption) ?_)); rfl⟩)
    | (cases h; exact ⟨by rw [List.length_append]; exact Nat.le_add_right _ _, by rw [z_sz_app]; exact Nat.le_add_right _ _⟩)
theorem z_mono {S : ZS} : ∀ (n d y pc : Nat) (ls : ZL) (st : List Value) (M : ZM) (r : Option Value) (M' : ZM), z_xm S n d y pc ls st M = some (r, M') → M.length ≤ M'.length ∧ z_sz M ≤ z_sz M' := by
  intro n
  induction n with
  | zero => intro d y pc ls st M r M' h; cases h
  | succ n ih =>
    intro d y pc ls st M r M' h
    unfold z_xm at h
    split at h
    · cases h
    · split at h
      · cases h
      · rename_i h1
        have g1 := z_mono1 h1
        have g2 := ih _ _ _ _ _ _ _ _ h
        exact ⟨Nat.le_trans g1.1 g2.1, Nat.le_trans g1.2 g2.2⟩
      · cases h
        exact ⟨Nat.le_refl _, Nat.le_refl _⟩
      · split at h
        · cases h
        · split at h
          · split at h
            · cases h
            · rename_i h2
              have g1 := ih _ _ _ _ _ _ _ _ h2
              have g2 := ih _ _ _ _ _ _ _ _ h
              exact ⟨Nat.le_trans g1.1 g2.1, Nat.le_trans g1.2 g2.2⟩
          · cases h
theorem z_sl_at {ad : Nat → Nat} : ∀ (as : List Value) (i : Nat) (v : Value), (z_sl as)[i]? = some (some v) → (lg_sl (as.map (z_v ad)))[i]? = some (.val (z_v ad v)) := by
  intro as
  induction as with
  | nil => intro i v h; cases h
  | cons a t ih =>
    intro i v h
    have e : lg_sl ((a :: t).map (z_v ad)) = (if a.category = 2 then [.val (z_v ad a), .second] else [.val (z_v ad a)]) ++ lg_sl (t.map (z_v ad)) := by
      unfold lg_sl
      rw [List.map_cons, List.flatMap_cons, z_v_cat]
    rw [e]
    unfold z_sl at h
    by_cases hc : a.category = 2
    · rw [if_pos hc] at h ⊢
      match i with
      | 0 => cases h; rfl
      | 1 => cases h
      | j + 2 => exact ih j v h
    · rw [if_neg hc] at h ⊢
      match i with
      | 0 => cases h; rfl
      | j + 1 => exact ih j v h
theorem z_sl_len {ad : Nat → Nat} : ∀ (as : List Value), (lg_sl (as.map (z_v ad))).length = (z_sl as).length := by
  intro as
  induction as with
  | nil => rfl
  | cons a t ih =>
    have e : lg_sl ((a :: t).map (z_v ad)) = (if a.category = 2 then [.val (z_v ad a), .second] else [.val (z_v ad a)]) ++ lg_sl (t.map (z_v ad)) := by
      unfold lg_sl
      rw [List.map_cons, List.flatMap_cons, z_v_cat]
    rw [e, List.length_append, ih]
    by_cases hc : a.category = 2
    · rw [if_pos hc]
      conv => rhs; unfold z_sl; rw [if_pos hc]
      simp only [List.length_cons, List.length_nil]
      omega
    · rw [if_neg hc]
      conv => rhs; unfold z_sl; rw [if_neg hc]
      simp only [List.length_cons, List.length_nil]
      omega
theorem z_has_ent {ad : Nat → Nat} {as : List Value} {n : Nat} (h : (z_sl as).length ≤ n) : z_has ad ((lg_sl (as.map (z_v ad)) ++ List.replicate (n - (lg_sl (as.map (z_v ad))).length) Slot.unset).toArray) n (z_ent as n) := by
  have hl := z_sl_len (ad := ad) as
  have h1 := lv_entry (as.map (z_v ad)) (n := n) (by rw [hl]; exact h)
  refine ⟨h1.1, h1.2.1, ?_, fun i v hi => ?_⟩
  · unfold z_ent
    rw [List.length_append, List.length_replicate]
    omega
  · unfold z_ent at hi
    rw [List.getElem?_append] at hi
    split at hi
    · rename_i hlt
      have h2 := z_sl_at (ad := ad) as i v hi
      rw [List.getElem?_toArray, List.getElem?_append_left (by rw [hl]; exact hlt)]
      exact h2
    · rw [List.getElem?_replicate] at hi
      split at hi
      · cases hi
      · cases hi
section ZCA
variable {b : Nat} {sp : Nat → Nat} {cA : Nat → ClassId} {D : va_G} {S : ZS} {p : Program} {l : Launch} {e : Env} {R : Room} {s : State} {m : MethodId} {args : Array Value} {below : List Frame} {meth : Method} {c : Code} {Q : State → Prop} {y m0 z0 : Nat}
variable {pc nx : Nat} {ls : ZL} {st : List Value} {M M1 : ZM}
theorem z_call {H : Heap} {locs : List Loc} {lsC : Array Slot} {st0 rest : List Value} {r : Option Value} {a : Array Value} (hm : M.length ≤ M1.length ∧ z_sz M ≤ z_sz M1) (h0 : m0 ≤ M.length) (hz0 : z0 ≤ z_sz M) (hr : va_Run p l e R s m args below meth c H locs (M.length - m0) (z_sz M - z0) (M1.length - M.length) (z_sz M1 - z_sz M) (F0 m pc lsC st0) rest (z_Qc b sp cA D r M1 a) (z_A b)) (hS : va_S (z_A b) s.heap H locs)
    (kk : ∀ (H1 : Heap) (locs1 : List Loc), z_wd b sp cA D M1 H1 → va_S (z_A b) s.heap H1 locs1 → W p l e R s m args below meth c H1 locs1 (M1.length - m0) (z_sz M1 - z0) Q (F0 m (pc + 3) lsC ((r.map (z_v (z_ad b sp))).toList ++ rest))) : W p l e R s m args below meth c H locs (M.length - m0) (z_sz M - z0) Q (F0 m pc lsC st0) := by
  intro T hT X
  obtain ⟨v, st₀, t, T', L, g0, X', hL, e1, e2, ⟨hv, hw, hz, hk⟩, stp⟩ := hr T hT X
  have hv : v = r.map (z_v (z_ad b sp)) := by cases hv; rfl
  subst hv
  rw [g0] at hz hk
  have hS1 : va_S (z_A b) s.heap T'.heap (locs ++ L) := ⟨Nat.le_trans hS.1 (by rw [e1]; exact hz), fun q h1 h2 => by rw [e1, hk q (Nat.lt_of_lt_of_le h1 hS.1) h2]; exact hS.2.1 q h1 h2, fun q hq => by
    rcases List.mem_append.mp hq with h | h
    · exact hS.2.2 q h
    · exact hL q h⟩
  have hc1 : M.length - m0 + (M1.length - M.length) = M1.length - m0 := by omega
  have hc2 : z_sz M - z0 + (z_sz M1 - z_sz M) = z_sz M1 - z0 := by omega
  rw [hc1, hc2] at X'
  obtain ⟨t2, a1, b1⟩ := kk T'.heap (locs ++ L) (by rw [e1]; exact hw) hS1 T' rfl X'
  exact ⟨t2, stp t2 a1, b1⟩
theorem z_pre {H : Heap} {locs : List Loc} {as : List Value} (C : z_cx b sp cA D S p R s m args meth c y m0) (hW : z_wd b sp cA D M H) (hS : va_S (z_A b) s.heap H locs) (hsz : H.size = b + M.length) : ∀ U : State, U.heap = H → s.WarmedH U.vm → z_Pc b sp cA D S as M (as.map (z_v (z_ad b sp))).toArray U := by
  obtain ⟨hx, hb, hml, hown, hts, hK, hsp, hbs, hini, hck, hfr, hlo⟩ := C
  intro U hU hW1
  exact ⟨rfl, by rw [hU]; exact hsz, by rw [hU]; exact hW, va_K.moved hW1.alike hK, hsp.to (by omega) hS hW1 hU⟩
end ZCA
