/-! THE CLAIM OUT OF ONE WALK OF THE LAW'S BODY. Your part is whole_start (and what it stands on); all else here is the same for every law, but numbers. -/
def R_law : String := "BentYardsLaw"
def lw_P (b : Addr) (xs : List Int32) (args : Array Value) (s : State) : Prop := args = #[.ref b] ∧ s.IntsAt b xs ∧ xs.length ≤ 2048 ∧ (Jvm.Cond.and given_1 narrow_1).before args s = true
def lw_Q (_ : Array Value) (s : State) (o : Outcome) (t : State) : Prop := o = .returned (some (.int 1)) ∧ Framed s o t [] 600000 7302250
def lw_Z (below : List Frame) (a : Array Value) (s : State) : State → Prop := fun t => ∃ o, t.status = .running ∧ Ended t below o ∧ lw_Q a s o t
/-- the law's own end, with 1 on the stack, nothing written that was there before, its room as the claim has it -/
theorem lw_ret {p : Program} {l : Launch} {e : Env} {s : State} {m : MethodId} {below : List Frame} {meth : Method} {c : Code} {b : Nat} (hx : p.tables.exec = Jvm.exec) (hb : c.code = code) (hr : meth.sig.returnType = ret) (hlocks : meth.locks = false) {pc : Nat} {H : Heap} {ls : Array Slot} (hdg : decode code pc = .ok (.ireturn, 1)) : W p l e room_1 s m #[Value.ref b] below meth c H [] 600000 7302250 (lw_Z below #[Value.ref b] s) (F0 m pc ls [.int 1]) := by
  intro T hT X
  obtain ⟨fs, hret, hrun, hended, hW, hframe⟩ := X.leave (v := some (.int 1)) (hlocks := hlocks) (fun h => by rw [hr] at h; cases h)
  have hmeth' : T.vm.method? m = some meth := X.method'
  refine ⟨T.setFrames fs, ?_, .returned (some (.int 1)), hrun, hended, rfl, ⟨_, rfl⟩, hW, hframe⟩
  jvm_step X.here [X.here.top, hx, hb, hdg, hmeth', hr, ret, narrow_b1]
  (try refine ⟨rfl, ?_⟩); (try refine ⟨rfl, ?_⟩)
  first | (intro acts; rw [hret _ acts rfl rfl rfl]) | rw [hret _ _ rfl rfl rfl]
  exact Steps.refl _
/-- what holds at the law's entry: the machine, the code, the tables' words (any of lw_tbl by 'hts w (by decide +kernel)'), the script of L ints xs at the cell b, what the Statement gives of the start (any of its parts by flat_of_before) -/
def lw_At (p : Program) (s : State) (m : MethodId) (meth : Method) (c : Code) (b L : Nat) (xs : Nat → Int32) : Prop :=
  p.tables.exec = Jvm.exec ∧ c.code = code ∧ meth.sig.returnType = ret ∧ c.maxLocals = 4 ∧ s.vm.findClass R_law = some m.cls ∧ (∀ w ∈ lw_tbl, w.before #[Value.ref b] s = true) ∧ va_X b L xs s s.heap ∧ b < s.heap.size ∧ meth.locks = false ∧ (Jvm.Cond.and given_1 narrow_1).before #[Value.ref b] s = true
/-- the small machine's run of the law, on every script -/
def z_Law : Prop := ∀ (L : Nat) (xs : Nat → Int32), L ≤ 2048 → ∃ (n d : Nat) (M' : ZM), z_xm (L, xs) n d 168 0 [some (.ref 1000), none, none, none] [] [] = some (some (.int 1), M') ∧ d ≤ 800 ∧ M'.length ≤ 600000 ∧ z_sz M' ≤ 7302250
theorem z_arrP {s : State} {args : Array Value} {ty : FieldType} (hp : (match ty with
  | .object _ => false
  | .array _ => false
  | _ => true) = true) (h : (Cond.arrayClass ty).before args s = true) : ∃ cB : ClassId, ArrOfT s cB ty ∧ va_RA s cB ty := by
  obtain ⟨cB, kA, comp, h1, h2, h3⟩ := Cond.arrayClass_spec h
  refine ⟨cB, fun n z => ⟨fun k h => (by cases h), kA, h2, comp, h3⟩, ?_⟩
  cases ty <;> first | exact h1 | cases hp
theorem z_arrQ {s : State} {args : Array Value} {C : String} (h : (Cond.arrayOver (.object C)).before args s = true) : ∃ cB : ClassId, ArrOfT s cB (.object C) ∧ va_RA s cB (.object C) := by
  obtain ⟨comp, cB, kA, h1, h2, h3, h4, h5⟩ := Cond.arrayOver_spec h
  exact ⟨cB, fun n z => ⟨fun k h => (by cases h), kA, h3, comp, h4⟩, kA, comp, h3, h4, h1, h5⟩
theorem z_eqv {args : Array Value} {s : State} {t : Term} (h : (Cond.eq t (.int 1)).before args s = true) : t.eval args s none [] s = some (.int 1) := by
  cases hv : t.eval args s none [] s with
  | none => simp [Cond.before, Cond.holds, Cond.value, hv] at h
  | some v =>
    have h2 : (Term.int 1).eval args s none [] s = some (.int 1) := rfl
    simp only [Cond.before, Cond.holds, Cond.value, hv, h2] at h
    cases v <;> simp at h
    rw [h]
set_option maxRecDepth 20000 in
set_option maxHeartbeats 4000000 in
theorem z_law_start (hlaw : z_Law) (hck : ∀ y, y < 169 → z_chk y = true) {p : Program} {e : Env} {s : State} {m : MethodId} {below : List Frame} {meth : Method} {c : Code} (l : Launch) {b L : Nat} {xs : Nat → Int32} (hL : L ≤ 2048) (C0 : lw_At p s m meth c b L xs) : W p l e room_1 s m #[Value.ref b] below meth c s.heap [] 0 0 (lw_Z below #[Value.ref b] s) (entryFrame m ([Value.ref b] : List Value).toArray 4) := by
  obtain ⟨hx, hb, hr, hml, hown, hts0, hX, hbl, hlocks, hgv⟩ := C0
  have hts : ∀ w ∈ z_gw, w.before #[Value.ref b] s = true := fun w hw => hts0 w (List.mem_filter.mp hw).1
  have hs := flat_of_before _ hgv
  have hnA : ∀ a : Nat, a < s.heap.size → ¬ z_A s.heap.size a := fun a h g => absurd h (Nat.not_lt.mpr g)
  have hin : ∀ ci, ci < 7 → Cond.instantiable (z_cls ci).1 (z_cls ci).2.2 ∈ z_gw := by
    intro ci h
    match ci, h with
    | 0, _ => exact z_w_of (by decide +kernel)
    | 1, _ => exact z_w_of (by decide +kernel)
    | 2, _ => exact z_w_of (by decide +kernel)
    | 3, _ => exact z_w_of (by decide +kernel)
    | 4, _ => exact z_w_of (by decide +kernel)
    | 5, _ => exact z_w_of (by decide +kernel)
    | 6, _ => exact z_w_of (by decide +kernel)
  have hkn : ∀ ci, ∃ q : ClassId × (Nat → Nat), ci < 7 → u_Kn s (z_cls ci).1 (z_cls ci).2.1 (z_cls ci).2.2 q.1 q.2 := by
    intro ci
    by_cases h : ci < 7
    · obtain ⟨cC, iS, hK⟩ := u_known hts (z_inc h) (hts _ (hin ci h))
      exact ⟨(cC, iS), fun _ => hK⟩
    · exact ⟨(0, fun _ => 0), fun g => absurd g h⟩
  have har : ∀ t : Nat, ∃ cB : ClassId, ∀ ty, (z_tys (fun _ => cB))[t]? = some (cB, ty) → ArrOfT s cB ty ∧ va_RA s cB ty := by
    intro t
    match t with
    | 0 => obtain ⟨cB, h⟩ := z_arrP rfl (hts _ (z_w_of (by decide +kernel : z_w (.arrayClass .int) = true))); exact ⟨cB, fun ty g => by cases g; exact h⟩
    | 1 => obtain ⟨cB, h⟩ := z_arrP rfl (hts _ (z_w_of (by decide +kernel : z_w (.arrayClass .byte) = true))); exact ⟨cB, fun ty g => by cases g; exact h⟩
    | 2 => obtain ⟨cB, h⟩ := z_arrP rfl (hts _ (z_w_of (by decide +kernel : z_w (.arrayClass .boolean) = true))); exact ⟨cB, fun ty g => by cases g; exact h⟩
    | 3 => obtain ⟨cB, h⟩ := z_arrP rfl (hts _ (z_w_of (by decide +kernel : z_w (.arrayClass .long) = true))); exact ⟨cB, fun ty g => by cases g; exact h⟩
    | 4 => obtain ⟨cB, h⟩ := z_arrQ (hts0 (.arrayOver (.object RX0)) (by decide +kernel)); exact ⟨cB, fun ty g => by cases g; exact h⟩
    | 5 => obtain ⟨cB, h⟩ := z_arrQ (hts0 (.arrayOver (.object RX2)) (by decide +kernel)); exact ⟨cB, fun ty g => by cases g; exact h⟩
    | n + 6 => exact ⟨0, fun ty g => by simp [z_tys] at g⟩
  obtain ⟨dq, hdq⟩ := Classical.skolem.mp hkn
  obtain ⟨cA, hcA⟩ := Classical.skolem.mp har
  have hK : va_K (fun k => (dq k).1, fun k => (dq k).2) vwCl (z_tys cA) s := by
    refine ⟨fun ci q hq => ?_, fun t q hq => ?_⟩
    · have h7 : ci < 7 := (List.getElem?_eq_some_iff.mp hq).1
      rw [z_cl h7] at hq
      cases hq
      exact hdq ci h7
    · match t, hq with
      | 0, hq => cases hq; exact hcA 0 _ rfl
      | 1, hq => cases hq; exact hcA 1 _ rfl
      | 2, hq => cases hq; exact hcA 2 _ rfl
      | 3, hq => cases hq; exact hcA 3 _ rfl
      | 4, hq => cases hq; exact hcA 4 _ rfl
      | 5, hq => cases hq; exact hcA 5 _ rfl
      | n + 6, hq => simp [z_tys] at hq
  let idx : Nat → Nat := fun i => match i with
    | 0 => 48
    | 1 => 80
    | _ => 85
  have h3 : ∀ P : Nat → Prop, P 0 → P 1 → P 2 → ∀ i, i < 3 → P i := fun P a0 a1 a2 i h => match i, h with
    | 0, _ => a0
    | 1, _ => a1
    | 2, _ => a2
  obtain ⟨adK, adV, hvk, htm⟩ := vk_Sof (args := #[Value.ref b]) (s := s) (N := 3) (tm := fun i => .string RX1 (idx i)) (len := [4, 5, 5]) (byt := z_byts) (A := z_A s.heap.size)
    (h3 _ (by decide) (by decide) (by decide))
    (h3 _ (hs _ (by decide +kernel)) (hs _ (by decide +kernel)) (hs _ (by decide +kernel)))
    (h3 _ (hs _ (by decide +kernel)) (hs _ (by decide +kernel)) (hs _ (by decide +kernel)))
    (h3 _ (hs _ (by decide +kernel)) (hs _ (by decide +kernel)) (hs _ (by decide +kernel)))
    (h3 _ (hs _ (by decide +kernel)) (hs _ (by decide +kernel)) (hs _ (by decide +kernel)))
    (h3 _ (fun j hj => match j, hj with
      | 0, _ => hs _ (by decide +kernel)
      | 1, _ => hs _ (by decide +kernel)
      | 2, _ => hs _ (by decide +kernel)
      | 3, _ => hs _ (by decide +kernel)) (fun j hj => match j, hj with
      | 0, _ => hs _ (by decide +kernel)
      | 1, _ => hs _ (by decide +kernel)
      | 2, _ => hs _ (by decide +kernel)
      | 3, _ => hs _ (by decide +kernel)
      | 4, _ => hs _ (by decide +kernel)) (fun j hj => match j, hj with
      | 0, _ => hs _ (by decide +kernel)
      | 1, _ => hs _ (by decide +kernel)
      | 2, _ => hs _ (by decide +kernel)
      | 3, _ => hs _ (by decide +kernel)
      | 4, _ => hs _ (by decide +kernel)))
    (fun i j hi hj hne => match i, hi, j, hj, hne with
      | 0, _, 0, _, h => absurd rfl h
      | 1, _, 1, _, h => absurd rfl h
      | 2, _, 2, _, h => absurd rfl h
      | 0, _, 1, _, _ => Or.inl (hs _ (by decide +kernel))
      | 0, _, 2, _, _ => Or.inl (hs _ (by decide +kernel))
      | 1, _, 2, _, _ => Or.inl (hs _ (by decide +kernel))
      | 1, _, 0, _, _ => Or.inr (hs _ (by decide +kernel))
      | 2, _, 0, _, _ => Or.inr (hs _ (by decide +kernel))
      | 2, _, 1, _, _ => Or.inr (hs _ (by decide +kernel))) hnA
  let sp : Nat → Nat := fun k => match k with
    | 0 => b
    | i + 1 => adK i
  have hlt : ∀ i, i < 3 → adK i < s.heap.size := by
    intro i hi
    obtain ⟨cell, h1, -⟩ := (hvk.1 i hi).1
    exact (Array.getElem?_eq_some_iff.mp h1).1
  have hsp : z_sp s.heap.size sp (L, xs) s s.heap := by
    refine ⟨fun k hk => ?_, hX, ⟨adV, hvk⟩, fun q hq => ?_, va_AO.of (hts0 (.arrayOver (.object RX0)) (by decide +kernel)), va_AO.of (hts0 (.arrayOver (.object RX2)) (by decide +kernel)), ?_, ?_⟩
    · match k, hk with
      | 0, _ => exact hbl
      | 1, _ => exact hlt 0 (by omega)
      | 2, _ => exact hlt 1 (by omega)
      | 3, _ => exact hlt 2 (by omega)
    · have hq2 : q = (48, 0) ∨ q = (80, 1) ∨ q = (85, 2) := by
        simpa [z_strs] using hq
      rcases hq2 with rfl | rfl | rfl
      · exact ⟨"yard", vk_R.of (hts0 (.stringRef RX1 48 "yard") (by decide +kernel)) (htm 0 (by omega))⟩
      · exact ⟨"house", vk_R.of (hts0 (.stringRef RX1 80 "house") (by decide +kernel)) (htm 1 (by omega))⟩
      · exact ⟨"chain", vk_R.of (hts0 (.stringRef RX1 85 "chain") (by decide +kernel)) (htm 2 (by omega))⟩
    · refine va_Zof (args := #[Value.ref b]) (hts0 (.laysStatic "java/lang/String" "COMPACT_STRINGS" "Z") (by decide +kernel)) (hts0 (.initialized "java/lang/String") (by decide +kernel)) ?_ hnA
      exact z_eqv (hs (.eq (.static "java/lang/String" "COMPACT_STRINGS" "Z") (.int 1)) (by decide +kernel))
    · exact va_Zqof (args := #[Value.ref b]) (hts0 (.laysStatic "jdk/internal/util/Preconditions" "SIOOBE_FORMATTER" "Ljava/util/function/BiFunction;") (by decide +kernel)) (hts0 (.initialized "jdk/internal/util/Preconditions") (by decide +kernel)) (hs (.isRef (.static "jdk/internal/util/Preconditions" "SIOOBE_FORMATTER" "Ljava/util/function/BiFunction;")) (by decide +kernel)) hnA
  obtain ⟨n, d, M', hrun, hd, hM1, hM2⟩ := hlaw L xs hL
  have C : z_cx s.heap.size sp cA (fun k => (dq k).1, fun k => (dq k).2) (L, xs) p room_1 s m #[Value.ref b] meth c 168 0 := ⟨hx, hb, hml, hown, hts, hK, hsp, rfl, fun h => absurd h (by decide), hck 168 (by omega), by decide, by decide⟩
  have h1 := z_sound z_stl z_stc (fun y hy => hck y (by omega)) (L, xs) n s.heap.size sp cA (fun k => (dq k).1, fun k => (dq k).2) p l e room_1 s m #[Value.ref b] below meth c (lw_Z below #[Value.ref b] s) 168 0 0 d 0 _ _ _ _ _ hrun C (by show d + 6 ≤ 2048; omega) (by show 100 * d + 300 ≤ 84000; omega) (Nat.le_refl _) (Nat.le_refl _) (by show M'.length - 0 ≤ 600000; omega) (by show z_sz M' - 0 ≤ 7302250; omega) (by
    intro pc' nx' i' ls' st' hc hst H locs lsC hW hLs hS
    have hrl := z_rel_of (hck 168 (by omega)) hc
    refine va_forget (fun q hq => hS.2.2 q hq) ?_
    refine W.widen (k := 600000) (n := 7302250) (by omega) (by omega) ?_
    cases i' with
    | ireturn =>
      obtain ⟨hdd, -⟩ := z_dq_of hrl
      simp only [z_stp] at hst
      split at hst
      · split at hst
        · cases hst
          exact lw_ret hx hb hr hlocks hdd
        · cases hst
      · cases hst
    | lreturn =>
      simp only [z_stp] at hst
      split at hst
      · split at hst <;> cases hst
      · cases hst
    | areturn =>
      simp only [z_stp] at hst
      split at hst
      · split at hst <;> cases hst
      · split at hst <;> cases hst
      · cases hst
    | return_ =>
      simp only [z_stp] at hst
      split at hst <;> cases hst
    | _ => exact absurd hst (by simp only [z_stp]; (repeat' split) <;> (intro g; cases g)))
  have h2 := h1 s.heap [] _ ⟨by decide, fun k q h => by simp [z_ws] at h⟩ (z_has_ent (ad := z_ad s.heap.size sp) (as := [.ref 1000]) (n := 4) (by decide)) va_S.rf
  rw [lg_entry_eq]
  exact h2
