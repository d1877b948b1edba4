/-- the three words of the text, by their places -/
def z_byts : List (List Int32) := [z_wch 0, z_wch 1, z_wch 2]
/-- what lies below the cells: the script, the words -/
def z_sp (b : Nat) (sp : Nat → Nat) (S : ZS) (s : State) (H : Heap) : Prop := (∀ k, k < 4 → sp k < b) ∧ va_X (sp 0) S.1 S.2 s H ∧ (∃ adV, vk_S 3 [4, 5, 5] z_byts (fun i => sp (i + 1)) adV (z_A b) s H) ∧ (∀ q ∈ z_strs, ∃ tx, vk_R RX1 q.1 tx (sp (q.2 + 1)) s) ∧ va_AO RX0 s ∧ va_AO RX2 s ∧ va_Z "java/lang/String" "COMPACT_STRINGS" "Z" (.int 1) (z_A b) s H ∧ va_Zq "jdk/internal/util/Preconditions" "SIOOBE_FORMATTER" "Ljava/util/function/BiFunction;" (z_A b) s H
/-- a method's run: the machine, its code, the tables -/
def z_cx (b : Nat) (sp : Nat → Nat) (cA : Nat → ClassId) (D : va_G) (S : ZS) (p : Program) (R : Room) (s : State) (m : MethodId) (args : Array Value) (meth : Method) (c : Code) (y m0 : Nat) : Prop :=
  p.tables.exec = Jvm.exec ∧ c.code = (z_mt y).2.1 ∧ c.maxLocals = (z_mt y).2.2.1 ∧ s.vm.findClass (z_mt y).1.cls = some m.cls ∧ (∀ w ∈ z_gw, w.before args s = true) ∧ va_K D vwCl (z_tys cA) s ∧ z_sp b sp S s s.heap ∧ s.heap.size = b + m0 ∧ ((z_mt y).1.name = "<init>" → meth.name = "<init>") ∧ z_chk y = true ∧ 6 ≤ R.frames ∧ 300 ≤ R.locals
/-- from every state of the machine that is this one of the small machine -/
def z_K (b : Nat) (sp : Nat → Nat) (cA : Nat → ClassId) (D : va_G) (p : Program) (l : Launch) (e : Env) (R : Room) (s : State) (m : MethodId) (args : Array Value) (below : List Frame) (meth : Method) (c : Code) (Q : State → Prop) (y m0 z0 : Nat) (pc : Nat) (ls : ZL) (st : List Value) (M : ZM) : Prop :=
  ∀ (H : Heap) (locs : List Loc) (lsC : Array Slot), z_wd b sp cA D M H → z_has (z_ad b sp) lsC (z_mt y).2.2.1 ls → va_S (z_A b) s.heap H locs → W p l e R s m args below meth c H locs (M.length - m0) (z_sz M - z0) Q (F0 m pc lsC (st.map (z_v (z_ad b sp))))
theorem z_fin4 {k : Nat} (h : k < 4) : ((Fin.ofNat 4 k : Fin 4) : Nat) = k := Nat.mod_eq_of_lt h
theorem z_ad_lo {b : Nat} {sp : Nat → Nat} {k : Nat} (h : k < 1000) : z_ad b sp k = b + k := if_pos h
theorem z_in_of {i : Int32} {n : Nat} (h : z_in i n = true) : vp_in i n := by
  unfold z_in at h
  unfold vp_in
  simp only [Bool.not_eq_true', Bool.or_eq_false_iff, decide_eq_false_iff_not] at h
  exact fun g => g.elim h.1 h.2
theorem z_cat_of {st : List Value} {ad : Nat → Nat} (h : z_cat st = true) : ((st.map (z_v ad)).map fun v => v.category).sum ≤ 8 := by
  have h1 : (st.map (z_v ad)).map (fun v => v.category) = st.map (fun v => v.category) := by
    rw [List.map_map]
    exact List.map_congr_left (fun v _ => z_v_cat ad v)
  rw [h1]
  exact of_decide_eq_true h
section ZST
variable {b : Nat} {sp : Nat → Nat} {cA : Nat → ClassId} {D : va_G} {S : ZS} {p : Program} {l : Launch} {e : Env} {R : Room} {s : State} {m : MethodId} {args : Array Value} {below : List Frame} {meth : Method} {c : Code} {Q : State → Prop} {y m0 z0 : Nat}
variable {pc nx : Nat} {ls : ZL} {st : List Value} {M : ZM}

theorem z_s_iconst (C : z_cx b sp cA D S p R s m args meth c y m0) {n : Int} (hc : z_code y pc = some (nx, .iconst n)) (k : z_K b sp cA D p l e R s m args below meth c Q y m0 z0 nx ls (.int (Int32.ofInt n) :: st) M) : z_K b sp cA D p l e R s m args below meth c Q y m0 z0 pc ls st M := by
  intro H locs lsC hW hL hS
  obtain ⟨hx, hb, hml, hown, hts, hK, hsp, hbs, hini, hck, hfr, hlo⟩ := C
  have hr := z_rel_of hck hc
  have hk := k H locs lsC hW hL hS
  simp only [z_rel, Bool.or_eq_true] at hr
  rcases hr with hr | hr
  · obtain ⟨hd, rfl⟩ := z_dq_of hr
    exact lv_iconst hx hb hd rfl hk
  · split at hr
    · rename_i q hq
      simp only [Bool.and_eq_true, decide_eq_true_eq] at hr
      obtain ⟨rfl, hv⟩ := hr
      exact lv_bipush hx hb hq hv hk
    · rename_i q hq
      simp only [Bool.and_eq_true, decide_eq_true_eq] at hr
      obtain ⟨rfl, hv⟩ := hr
      exact lv_sipush hx hb hq hv hk
    · rename_i q hq
      simp only [Bool.and_eq_true, decide_eq_true_eq] at hr
      obtain ⟨rfl, hv⟩ := hr
      exact lv_ldc hx hb hown (hts _ (z_w_of hv)) hq hk
    · rename_i q hq
      simp only [Bool.and_eq_true, decide_eq_true_eq] at hr
      obtain ⟨rfl, hv⟩ := hr
      exact lv_ldcw hx hb hown (hts _ (z_w_of hv)) hq hk
    · cases hr
theorem z_s_lcon (C : z_cx b sp cA D S p R s m args meth c y m0) {n : Int} (hc : z_code y pc = some (nx, .goto_w n)) (k : z_K b sp cA D p l e R s m args below meth c Q y m0 z0 nx ls (.long (Int64.ofInt n) :: st) M) : z_K b sp cA D p l e R s m args below meth c Q y m0 z0 pc ls st M := by
  intro H locs lsC hW hL hS
  obtain ⟨hx, hb, hml, hown, hts, hK, hsp, hbs, hini, hck, hfr, hlo⟩ := C
  have hr := z_rel_of hck hc
  have hk := k H locs lsC hW hL hS
  simp only [z_rel] at hr
  split at hr
  · rename_i q hq
    simp only [Bool.and_eq_true, decide_eq_true_eq] at hr
    obtain ⟨rfl, hv⟩ := hr
    exact lv_lconst hx hb hq hv hk
  · rename_i q hq
    simp only [Bool.and_eq_true, decide_eq_true_eq] at hr
    obtain ⟨rfl, hv⟩ := hr
    exact lv_ldc2 hx hb hown (hts _ (z_w_of hv)) hq hk
  · cases hr
theorem z_s_null (C : z_cx b sp cA D S p R s m args meth c y m0) (hc : z_code y pc = some (nx, .aconst_null)) (k : z_K b sp cA D p l e R s m args below meth c Q y m0 z0 nx ls (.null :: st) M) : z_K b sp cA D p l e R s m args below meth c Q y m0 z0 pc ls st M := by
  intro H locs lsC hW hL hS
  obtain ⟨hx, hb, hml, hown, hts, hK, hsp, hbs, hini, hck, hfr, hlo⟩ := C
  have hr := z_rel_of hck hc
  obtain ⟨hd, rfl⟩ := z_dq_of hr
  exact lv_null hx hb hd (k H locs lsC hW hL hS)
theorem z_s_ldc (C : z_cx b sp cA D S p R s m args meth c y m0) {n : Nat} (hn : n < 3) (hc : z_code y pc = some (nx, .ldc n)) (k : z_K b sp cA D p l e R s m args below meth c Q y m0 z0 nx ls (.ref (1001 + n) :: st) M) : z_K b sp cA D p l e R s m args below meth c Q y m0 z0 pc ls st M := by
  intro H locs lsC hW hL hS
  obtain ⟨hx, hb, hml, hown, hts, hK, hsp, hbs, hini, hck, hfr, hlo⟩ := C
  have hr := z_rel_of hck hc
  have hk := k H locs lsC hW hL hS
  simp only [z_rel] at hr
  split at hr
  · rename_i q hq
    simp only [Bool.and_eq_true, decide_eq_true_eq] at hr
    obtain ⟨⟨rfl, ho⟩, hv⟩ := hr
    obtain ⟨tx, hR⟩ := hsp.2.2.2.1 _ hv
    have h1 : z_ad b sp (1001 + n) = sp (n + 1) := by
      unfold z_ad
      rw [if_neg (by omega), show 1001 + n - 1000 = n + 1 by omega]
    have hk : W p l e R s m args below meth c H locs (M.length - m0) (z_sz M - z0) Q (F0 m (pc + 2) lsC (.ref (z_ad b sp (1001 + n)) :: st.map (z_v (z_ad b sp)))) := hk
    rw [h1] at hk
    exact va_ldcS hx hb (ho ▸ hown) hR hq hk
  · cases hr
theorem z_s_iload (C : z_cx b sp cA D S p R s m args meth c y m0) {n : Nat} {x : Int32} (hl : ls[n]? = some (some (.int x))) (hc : z_code y pc = some (nx, .iload n)) (k : z_K b sp cA D p l e R s m args below meth c Q y m0 z0 nx ls (.int x :: st) M) : z_K b sp cA D p l e R s m args below meth c Q y m0 z0 pc ls st M := by
  intro H locs lsC hW hL hS
  obtain ⟨hx, hb, hml, hown, hts, hK, hsp, hbs, hini, hck, hfr, hlo⟩ := C
  have hr := z_rel_of hck hc
  have hk := k H locs lsC hW hL hS
  have hv := hL.2.2.2 _ _ hl
  simp only [z_rel, Bool.or_eq_true, Bool.and_eq_true, decide_eq_true_eq] at hr
  rcases hr with hr | ⟨h4, hr⟩
  · obtain ⟨hd, rfl⟩ := z_dq_of hr
    exact lv_iload hx hb hd hv hk
  · obtain ⟨hd, rfl⟩ := z_dq_of hr
    exact lv_iload_n hx hb hd (z_fin4 h4) hv hk
theorem z_s_lload (C : z_cx b sp cA D S p R s m args meth c y m0) {n : Nat} {x : Int64} (hl : ls[n]? = some (some (.long x))) (hc : z_code y pc = some (nx, .lload n)) (k : z_K b sp cA D p l e R s m args below meth c Q y m0 z0 nx ls (.long x :: st) M) : z_K b sp cA D p l e R s m args below meth c Q y m0 z0 pc ls st M := by
  intro H locs lsC hW hL hS
  obtain ⟨hx, hb, hml, hown, hts, hK, hsp, hbs, hini, hck, hfr, hlo⟩ := C
  have hr := z_rel_of hck hc
  have hk := k H locs lsC hW hL hS
  have hv := hL.2.2.2 _ _ hl
  simp only [z_rel, Bool.or_eq_true, Bool.and_eq_true, decide_eq_true_eq] at hr
  rcases hr with hr | ⟨h4, hr⟩
  · obtain ⟨hd, rfl⟩ := z_dq_of hr
    exact lv_lload hx hb hd hv hk
  · obtain ⟨hd, rfl⟩ := z_dq_of hr
    exact lv_lload_n hx hb hd (z_fin4 h4) hv hk
theorem z_s_aload (C : z_cx b sp cA D S p R s m args meth c y m0) {n : Nat} {x : Nat} (hl : ls[n]? = some (some (.ref x))) (hc : z_code y pc = some (nx, .aload n)) (k : z_K b sp cA D p l e R s m args below meth c Q y m0 z0 nx ls (.ref x :: st) M) : z_K b sp cA D p l e R s m args below meth c Q y m0 z0 pc ls st M := by
  intro H locs lsC hW hL hS
  obtain ⟨hx, hb, hml, hown, hts, hK, hsp, hbs, hini, hck, hfr, hlo⟩ := C
  have hr := z_rel_of hck hc
  have hk := k H locs lsC hW hL hS
  have hv := hL.2.2.2 _ _ hl
  simp only [z_rel, Bool.or_eq_true, Bool.and_eq_true, decide_eq_true_eq] at hr
  rcases hr with hr | ⟨h4, hr⟩
  · obtain ⟨hd, rfl⟩ := z_dq_of hr
    exact lv_aload hx hb hd hv hk
  · obtain ⟨hd, rfl⟩ := z_dq_of hr
    exact lv_aload_n hx hb hd (z_fin4 h4) hv hk
theorem z_s_aloadN (C : z_cx b sp cA D S p R s m args meth c y m0) {n : Nat} (hl : ls[n]? = some (some (.null))) (hc : z_code y pc = some (nx, .aload n)) (k : z_K b sp cA D p l e R s m args below meth c Q y m0 z0 nx ls (.null :: st) M) : z_K b sp cA D p l e R s m args below meth c Q y m0 z0 pc ls st M := by
  intro H locs lsC hW hL hS
  obtain ⟨hx, hb, hml, hown, hts, hK, hsp, hbs, hini, hck, hfr, hlo⟩ := C
  have hr := z_rel_of hck hc
  have hk := k H locs lsC hW hL hS
  have hv := hL.2.2.2 _ _ hl
  simp only [z_rel, Bool.or_eq_true, Bool.and_eq_true, decide_eq_true_eq] at hr
  rcases hr with hr | ⟨h4, hr⟩
  · obtain ⟨hd, rfl⟩ := z_dq_of hr
    exact lv_aloadN hx hb hd hv hk
  · obtain ⟨hd, rfl⟩ := z_dq_of hr
    exact lv_aload_nN hx hb hd (z_fin4 h4) hv hk
theorem z_s_istore (C : z_cx b sp cA D S p R s m args meth c y m0) {n : Nat} {x : Int32} (hl : n < ls.length) (hc : z_code y pc = some (nx, .istore n)) (k : z_K b sp cA D p l e R s m args below meth c Q y m0 z0 nx (z_st1 ls n (.int x)) st M) : z_K b sp cA D p l e R s m args below meth c Q y m0 z0 pc ls (.int x :: st) M := by
  intro H locs lsC hW hL hS
  obtain ⟨hx, hb, hml, hown, hts, hK, hsp, hbs, hini, hck, hfr, hlo⟩ := C
  have hr := z_rel_of hck hc
  rw [hL.2.2.1] at hl
  simp only [z_rel, Bool.or_eq_true, Bool.and_eq_true, decide_eq_true_eq] at hr
  rcases hr with hr | ⟨h4, hr⟩
  · obtain ⟨hd, rfl⟩ := z_dq_of hr
    exact lv_istore hx hb hd hL.lv hl rfl (fun ls' h' => k H locs ls' hW (z_has.st1 rfl hL.2.2.1 h') hS)
  · obtain ⟨hd, rfl⟩ := z_dq_of hr
    exact lv_istore_n hx hb hd (z_fin4 h4) hL.lv hl rfl (fun ls' h' => k H locs ls' hW (z_has.st1 rfl hL.2.2.1 h') hS)
theorem z_s_lstore (C : z_cx b sp cA D S p R s m args meth c y m0) {n : Nat} {x : Int64} (hl : n + 1 < ls.length) (hc : z_code y pc = some (nx, .lstore n)) (k : z_K b sp cA D p l e R s m args below meth c Q y m0 z0 nx (z_st2 ls n (.long x)) st M) : z_K b sp cA D p l e R s m args below meth c Q y m0 z0 pc ls (.long x :: st) M := by
  intro H locs lsC hW hL hS
  obtain ⟨hx, hb, hml, hown, hts, hK, hsp, hbs, hini, hck, hfr, hlo⟩ := C
  have hr := z_rel_of hck hc
  rw [hL.2.2.1] at hl
  simp only [z_rel, Bool.or_eq_true, Bool.and_eq_true, decide_eq_true_eq] at hr
  rcases hr with hr | ⟨h4, hr⟩
  · obtain ⟨hd, rfl⟩ := z_dq_of hr
    exact lv_lstore hx hb hd hL.lv hl rfl (fun ls' h' => k H locs ls' hW (z_has.st2 rfl hL.2.2.1 h') hS)
  · obtain ⟨hd, rfl⟩ := z_dq_of hr
    exact lv_lstore_n hx hb hd (z_fin4 h4) hL.lv hl rfl (fun ls' h' => k H locs ls' hW (z_has.st2 rfl hL.2.2.1 h') hS)
theorem z_s_astore (C : z_cx b sp cA D S p R s m args meth c y m0) {n : Nat} {x : Nat} (hl : n < ls.length) (hc : z_code y pc = some (nx, .astore n)) (k : z_K b sp cA D p l e R s m args below meth c Q y m0 z0 nx (z_st1 ls n (.ref x)) st M) : z_K b sp cA D p l e R s m args below meth c Q y m0 z0 pc ls (.ref x :: st) M := by
  intro H locs lsC hW hL hS
  obtain ⟨hx, hb, hml, hown, hts, hK, hsp, hbs, hini, hck, hfr, hlo⟩ := C
  have hr := z_rel_of hck hc
  rw [hL.2.2.1] at hl
  simp only [z_rel, Bool.or_eq_true, Bool.and_eq_true, decide_eq_true_eq] at hr
  rcases hr with hr | ⟨h4, hr⟩
  · obtain ⟨hd, rfl⟩ := z_dq_of hr
    exact lv_astore hx hb hd hL.lv hl rfl (fun ls' h' => k H locs ls' hW (z_has.st1 rfl hL.2.2.1 h') hS)
  · obtain ⟨hd, rfl⟩ := z_dq_of hr
    exact lv_astore_n hx hb hd (z_fin4 h4) hL.lv hl rfl (fun ls' h' => k H locs ls' hW (z_has.st1 rfl hL.2.2.1 h') hS)
theorem z_s_astoreN (C : z_cx b sp cA D S p R s m args meth c y m0) {n : Nat} (hl : n < ls.length) (hc : z_code y pc = some (nx, .astore n)) (k : z_K b sp cA D p l e R s m args below meth c Q y m0 z0 nx (z_st1 ls n (.null)) st M) : z_K b sp cA D p l e R s m args below meth c Q y m0 z0 pc ls (.null :: st) M := by
  intro H locs lsC hW hL hS
  obtain ⟨hx, hb, hml, hown, hts, hK, hsp, hbs, hini, hck, hfr, hlo⟩ := C
  have hr := z_rel_of hck hc
  rw [hL.2.2.1] at hl
  simp only [z_rel, Bool.or_eq_true, Bool.and_eq_true, decide_eq_true_eq] at hr
  rcases hr with hr | ⟨h4, hr⟩
  · obtain ⟨hd, rfl⟩ := z_dq_of hr
    exact lv_astoreN hx hb hd hL.lv hl rfl (fun ls' h' => k H locs ls' hW (z_has.st1 rfl hL.2.2.1 h') hS)
  · obtain ⟨hd, rfl⟩ := z_dq_of hr
    exact lv_astore_nN hx hb hd (z_fin4 h4) hL.lv hl rfl (fun ls' h' => k H locs ls' hW (z_has.st1 rfl hL.2.2.1 h') hS)
theorem z_s_iinc (C : z_cx b sp cA D S p R s m args meth c y m0) {n : Nat} {v : Int} {x : Int32} (hl : ls[n]? = some (some (.int x))) (hc : z_code y pc = some (nx, .iinc n v)) (k : z_K b sp cA D p l e R s m args below meth c Q y m0 z0 nx (z_st1 ls n (.int (x + Int32.ofInt v))) st M) : z_K b sp cA D p l e R s m args below meth c Q y m0 z0 pc ls st M := by
  intro H locs lsC hW hL hS
  obtain ⟨hx, hb, hml, hown, hts, hK, hsp, hbs, hini, hck, hfr, hlo⟩ := C
  have hr := z_rel_of hck hc
  obtain ⟨hd, rfl⟩ := z_dq_of hr
  have hn : n < (z_mt y).2.2.1 := by
    rw [← hL.2.2.1]
    exact (List.getElem?_eq_some_iff.mp hl).1
  obtain ⟨i, hi⟩ := List.getElem?_of_mem (z_asc_mem.mpr ⟨_, hl, rfl⟩ : ((n, z_v (z_ad b sp) (.int x)) : Nat × Value) ∈ z_asc (z_ad b sp) ls)
  exact lv_iinc hx hb hd hL.lv (k := i) hi rfl hn rfl (fun ls' h' => k H locs ls' hW (z_has.st1 rfl hL.2.2.1 h') hS)
theorem z_s_iadd (C : z_cx b sp cA D S p R s m args meth c y m0) {a1 a2 : Int32} (hc : z_code y pc = some (nx, .iadd)) (k : z_K b sp cA D p l e R s m args below meth c Q y m0 z0 nx ls (.int (a2 + a1) :: st) M) : z_K b sp cA D p l e R s m args below meth c Q y m0 z0 pc ls (.int a1 :: .int a2 :: st) M := by
  intro H locs lsC hW hL hS
  obtain ⟨hx, hb, hml, hown, hts, hK, hsp, hbs, hini, hck, hfr, hlo⟩ := C
  have hr := z_rel_of hck hc
  obtain ⟨hd, rfl⟩ := z_dq_of hr
  exact lv_iadd hx hb hd (k H locs lsC hW hL hS)
theorem z_s_isub (C : z_cx b sp cA D S p R s m args meth c y m0) {a1 a2 : Int32} (hc : z_code y pc = some (nx, .isub)) (k : z_K b sp cA D p l e R s m args below meth c Q y m0 z0 nx ls (.int (a2 - a1) :: st) M) : z_K b sp cA D p l e R s m args below meth c Q y m0 z0 pc ls (.int a1 :: .int a2 :: st) M := by
  intro H locs lsC hW hL hS
  obtain ⟨hx, hb, hml, hown, hts, hK, hsp, hbs, hini, hck, hfr, hlo⟩ := C
  have hr := z_rel_of hck hc
  obtain ⟨hd, rfl⟩ := z_dq_of hr
  exact lv_isub hx hb hd (k H locs lsC hW hL hS)
theorem z_s_imul (C : z_cx b sp cA D S p R s m args meth c y m0) {a1 a2 : Int32} (hc : z_code y pc = some (nx, .imul)) (k : z_K b sp cA D p l e R s m args below meth c Q y m0 z0 nx ls (.int (a2 * a1) :: st) M) : z_K b sp cA D p l e R s m args below meth c Q y m0 z0 pc ls (.int a1 :: .int a2 :: st) M := by
  intro H locs lsC hW hL hS
  obtain ⟨hx, hb, hml, hown, hts, hK, hsp, hbs, hini, hck, hfr, hlo⟩ := C
  have hr := z_rel_of hck hc
  obtain ⟨hd, rfl⟩ := z_dq_of hr
  exact lv_imul hx hb hd (k H locs lsC hW hL hS)
theorem z_s_iand (C : z_cx b sp cA D S p R s m args meth c y m0) {a1 a2 : Int32} (hc : z_code y pc = some (nx, .iand)) (k : z_K b sp cA D p l e R s m args below meth c Q y m0 z0 nx ls (.int (a2 &&& a1) :: st) M) : z_K b sp cA D p l e R s m args below meth c Q y m0 z0 pc ls (.int a1 :: .int a2 :: st) M := by
  intro H locs lsC hW hL hS
  obtain ⟨hx, hb, hml, hown, hts, hK, hsp, hbs, hini, hck, hfr, hlo⟩ := C
  have hr := z_rel_of hck hc
  obtain ⟨hd, rfl⟩ := z_dq_of hr
  exact lv_iand hx hb hd (k H locs lsC hW hL hS)
theorem z_s_ior (C : z_cx b sp cA D S p R s m args meth c y m0) {a1 a2 : Int32} (hc : z_code y pc = some (nx, .ior)) (k : z_K b sp cA D p l e R s m args below meth c Q y m0 z0 nx ls (.int (a2 ||| a1) :: st) M) : z_K b sp cA D p l e R s m args below meth c Q y m0 z0 pc ls (.int a1 :: .int a2 :: st) M := by
  intro H locs lsC hW hL hS
  obtain ⟨hx, hb, hml, hown, hts, hK, hsp, hbs, hini, hck, hfr, hlo⟩ := C
  have hr := z_rel_of hck hc
  obtain ⟨hd, rfl⟩ := z_dq_of hr
  exact lv_ior hx hb hd (k H locs lsC hW hL hS)
theorem z_s_ixor (C : z_cx b sp cA D S p R s m args meth c y m0) {a1 a2 : Int32} (hc : z_code y pc = some (nx, .ixor)) (k : z_K b sp cA D p l e R s m args below meth c Q y m0 z0 nx ls (.int (a2 ^^^ a1) :: st) M) : z_K b sp cA D p l e R s m args below meth c Q y m0 z0 pc ls (.int a1 :: .int a2 :: st) M := by
  intro H locs lsC hW hL hS
  obtain ⟨hx, hb, hml, hown, hts, hK, hsp, hbs, hini, hck, hfr, hlo⟩ := C
  have hr := z_rel_of hck hc
  obtain ⟨hd, rfl⟩ := z_dq_of hr
  exact lv_ixor hx hb hd (k H locs lsC hW hL hS)
theorem z_s_ishl (C : z_cx b sp cA D S p R s m args meth c y m0) {a1 a2 : Int32} (hc : z_code y pc = some (nx, .ishl)) (k : z_K b sp cA D p l e R s m args below meth c Q y m0 z0 nx ls (.int (a2 <<< (a1 &&& 31)) :: st) M) : z_K b sp cA D p l e R s m args below meth c Q y m0 z0 pc ls (.int a1 :: .int a2 :: st) M := by
  intro H locs lsC hW hL hS
  obtain ⟨hx, hb, hml, hown, hts, hK, hsp, hbs, hini, hck, hfr, hlo⟩ := C
  have hr := z_rel_of hck hc
  obtain ⟨hd, rfl⟩ := z_dq_of hr
  exact lv_ishl hx hb hd (k H locs lsC hW hL hS)
theorem z_s_ishr (C : z_cx b sp cA D S p R s m args meth c y m0) {a1 a2 : Int32} (hc : z_code y pc = some (nx, .ishr)) (k : z_K b sp cA D p l e R s m args below meth c Q y m0 z0 nx ls (.int (a2 >>> (a1 &&& 31)) :: st) M) : z_K b sp cA D p l e R s m args below meth c Q y m0 z0 pc ls (.int a1 :: .int a2 :: st) M := by
  intro H locs lsC hW hL hS
  obtain ⟨hx, hb, hml, hown, hts, hK, hsp, hbs, hini, hck, hfr, hlo⟩ := C
  have hr := z_rel_of hck hc
  obtain ⟨hd, rfl⟩ := z_dq_of hr
  exact lv_ishr hx hb hd (k H locs lsC hW hL hS)
theorem z_s_iushr (C : z_cx b sp cA D S p R s m args meth c y m0) {a1 a2 : Int32} (hc : z_code y pc = some (nx, .iushr)) (k : z_K b sp cA D p l e R s m args below meth c Q y m0 z0 nx ls (.int ((a2.toUInt32 >>> (a1.toUInt32 &&& Int32.toUInt32 31)).toInt32) :: st) M) : z_K b sp cA D p l e R s m args below meth c Q y m0 z0 pc ls (.int a1 :: .int a2 :: st) M := by
  intro H locs lsC hW hL hS
  obtain ⟨hx, hb, hml, hown, hts, hK, hsp, hbs, hini, hck, hfr, hlo⟩ := C
  have hr := z_rel_of hck hc
  obtain ⟨hd, rfl⟩ := z_dq_of hr
  exact lv_iushr hx hb hd rfl (k H locs lsC hW hL hS)
theorem z_s_idiv (C : z_cx b sp cA D S p R s m args meth c y m0) {a1 a2 : Int32} (hne : ¬ a1 = 0) (hc : z_code y pc = some (nx, .idiv)) (k : z_K b sp cA D p l e R s m args below meth c Q y m0 z0 nx ls (.int (a2 / a1) :: st) M) : z_K b sp cA D p l e R s m args below meth c Q y m0 z0 pc ls (.int a1 :: .int a2 :: st) M := by
  intro H locs lsC hW hL hS
  obtain ⟨hx, hb, hml, hown, hts, hK, hsp, hbs, hini, hck, hfr, hlo⟩ := C
  have hr := z_rel_of hck hc
  obtain ⟨hd, rfl⟩ := z_dq_of hr
  exact lv_idiv hx hb hd hne (k H locs lsC hW hL hS)
theorem z_s_irem (C : z_cx b sp cA D S p R s m args meth c y m0) {a1 a2 : Int32} (hne : ¬ a1 = 0) (hc : z_code y pc = some (nx, .irem)) (k : z_K b sp cA D p l e R s m args below meth c Q y m0 z0 nx ls (.int (a2 - a2 / a1 * a1) :: st) M) : z_K b sp cA D p l e R s m args below meth c Q y m0 z0 pc ls (.int a1 :: .int a2 :: st) M := by
  intro H locs lsC hW hL hS
  obtain ⟨hx, hb, hml, hown, hts, hK, hsp, hbs, hini, hck, hfr, hlo⟩ := C
  have hr := z_rel_of hck hc
  obtain ⟨hd, rfl⟩ := z_dq_of hr
  exact lv_irem hx hb hd hne (k H locs lsC hW hL hS)
theorem z_s_ladd (C : z_cx b sp cA D S p R s m args meth c y m0) {a1 a2 : Int64} (hc : z_code y pc = some (nx, .ladd)) (k : z_K b sp cA D p l e R s m args below meth c Q y m0 z0 nx ls (.long (a2 + a1) :: st) M) : z_K b sp cA D p l e R s m args below meth c Q y m0 z0 pc ls (.long a1 :: .long a2 :: st) M := by
  intro H locs lsC hW hL hS
  obtain ⟨hx, hb, hml, hown, hts, hK, hsp, hbs, hini, hck, hfr, hlo⟩ := C
  have hr := z_rel_of hck hc
  obtain ⟨hd, rfl⟩ := z_dq_of hr
  exact lv_ladd hx hb hd (k H locs lsC hW hL hS)
theorem z_s_land (C : z_cx b sp cA D S p R s m args meth c y m0) {a1 a2 : Int64} (hc : z_code y pc = some (nx, .land)) (k : z_K b sp cA D p l e R s m args below meth c Q y m0 z0 nx ls (.long (a2 &&& a1) :: st) M) : z_K b sp cA D p l e R s m args below meth c Q y m0 z0 pc ls (.long a1 :: .long a2 :: st) M := by
  intro H locs lsC hW hL hS
  obtain ⟨hx, hb, hml, hown, hts, hK, hsp, hbs, hini, hck, hfr, hlo⟩ := C
  have hr := z_rel_of hck hc
  obtain ⟨hd, rfl⟩ := z_dq_of hr
  exact lv_land hx hb hd (k H locs lsC hW hL hS)
theorem z_s_lor (C : z_cx b sp cA D S p R s m args meth c y m0) {a1 a2 : Int64} (hc : z_code y pc = some (nx, .lor)) (k : z_K b sp cA D p l e R s m args below meth c Q y m0 z0 nx ls (.long (a2 ||| a1) :: st) M) : z_K b sp cA D p l e R s m args below meth c Q y m0 z0 pc ls (.long a1 :: .long a2 :: st) M := by
  intro H locs lsC hW hL hS
  obtain ⟨hx, hb, hml, hown, hts, hK, hsp, hbs, hini, hck, hfr, hlo⟩ := C
  have hr := z_rel_of hck hc
  obtain ⟨hd, rfl⟩ := z_dq_of hr
  exact lv_lor hx hb hd (k H locs lsC hW hL hS)
theorem z_s_lshl (C : z_cx b sp cA D S p R s m args meth c y m0) {a1 : Int32} {a2 : Int64} (hc : z_code y pc = some (nx, .lshl)) (k : z_K b sp cA D p l e R s m args below meth c Q y m0 z0 nx ls (.long (a2 <<< (a1.toInt64 &&& 63)) :: st) M) : z_K b sp cA D p l e R s m args below meth c Q y m0 z0 pc ls (.int a1 :: .long a2 :: st) M := by
  intro H locs lsC hW hL hS
  obtain ⟨hx, hb, hml, hown, hts, hK, hsp, hbs, hini, hck, hfr, hlo⟩ := C
  have hr := z_rel_of hck hc
  obtain ⟨hd, rfl⟩ := z_dq_of hr
  exact lv_lshl hx hb hd rfl (k H locs lsC hW hL hS)
theorem z_s_lshr (C : z_cx b sp cA D S p R s m args meth c y m0) {a1 : Int32} {a2 : Int64} (hc : z_code y pc = some (nx, .lshr)) (k : z_K b sp cA D p l e R s m args below meth c Q y m0 z0 nx ls (.long (a2 >>> (a1.toInt64 &&& 63)) :: st) M) : z_K b sp cA D p l e R s m args below meth c Q y m0 z0 pc ls (.int a1 :: .long a2 :: st) M := by
  intro H locs lsC hW hL hS
  obtain ⟨hx, hb, hml, hown, hts, hK, hsp, hbs, hini, hck, hfr, hlo⟩ := C
  have hr := z_rel_of hck hc
  obtain ⟨hd, rfl⟩ := z_dq_of hr
  exact lv_lshr hx hb hd rfl (k H locs lsC hW hL hS)
theorem z_s_lushr (C : z_cx b sp cA D S p R s m args meth c y m0) {a1 : Int32} {a2 : Int64} (hc : z_code y pc = some (nx, .lushr)) (k : z_K b sp cA D p l e R s m args below meth c Q y m0 z0 nx ls (.long ((a2.toUInt64 >>> (a1.toInt64.toUInt64 &&& Int64.toUInt64 63)).toInt64) :: st) M) : z_K b sp cA D p l e R s m args below meth c Q y m0 z0 pc ls (.int a1 :: .long a2 :: st) M := by
  intro H locs lsC hW hL hS
  obtain ⟨hx, hb, hml, hown, hts, hK, hsp, hbs, hini, hck, hfr, hlo⟩ := C
  have hr := z_rel_of hck hc
  obtain ⟨hd, rfl⟩ := z_dq_of hr
  exact lv_lushr hx hb hd rfl (k H locs lsC hW hL hS)
theorem z_s_lcmp (C : z_cx b sp cA D S p R s m args meth c y m0) {a1 a2 : Int64} (hc : z_code y pc = some (nx, .lcmp)) (k : z_K b sp cA D p l e R s m args below meth c Q y m0 z0 nx ls (.int (lg_cmp a2 a1) :: st) M) : z_K b sp cA D p l e R s m args below meth c Q y m0 z0 pc ls (.long a1 :: .long a2 :: st) M := by
  intro H locs lsC hW hL hS
  obtain ⟨hx, hb, hml, hown, hts, hK, hsp, hbs, hini, hck, hfr, hlo⟩ := C
  have hr := z_rel_of hck hc
  obtain ⟨hd, rfl⟩ := z_dq_of hr
  exact W.lcmp hx hb hd (k H locs lsC hW hL hS)
theorem z_s_i2l (C : z_cx b sp cA D S p R s m args meth c y m0) {a1 : Int32} (hc : z_code y pc = some (nx, .i2l)) (k : z_K b sp cA D p l e R s m args below meth c Q y m0 z0 nx ls (.long a1.toInt64 :: st) M) : z_K b sp cA D p l e R s m args below meth c Q y m0 z0 pc ls (.int a1 :: st) M := by
  intro H locs lsC hW hL hS
  obtain ⟨hx, hb, hml, hown, hts, hK, hsp, hbs, hini, hck, hfr, hlo⟩ := C
  have hr := z_rel_of hck hc
  obtain ⟨hd, rfl⟩ := z_dq_of hr
  exact lv_i2l hx hb hd rfl (k H locs lsC hW hL hS)
theorem z_s_l2i (C : z_cx b sp cA D S p R s m args meth c y m0) {a1 : Int64} (hc : z_code y pc = some (nx, .l2i)) (k : z_K b sp cA D p l e R s m args below meth c Q y m0 z0 nx ls (.int a1.toInt32 :: st) M) : z_K b sp cA D p l e R s m args below meth c Q y m0 z0 pc ls (.long a1 :: st) M := by
  intro H locs lsC hW hL hS
  obtain ⟨hx, hb, hml, hown, hts, hK, hsp, hbs, hini, hck, hfr, hlo⟩ := C
  have hr := z_rel_of hck hc
  obtain ⟨hd, rfl⟩ := z_dq_of hr
  exact lv_l2i hx hb hd rfl (k H locs lsC hW hL hS)
theorem z_s_i2b (C : z_cx b sp cA D S p R s m args meth c y m0) {a1 : Int32} (hc : z_code y pc = some (nx, .i2b)) (k : z_K b sp cA D p l e R s m args below meth c Q y m0 z0 nx ls (.int a1.toInt8.toInt32 :: st) M) : z_K b sp cA D p l e R s m args below meth c Q y m0 z0 pc ls (.int a1 :: st) M := by
  intro H locs lsC hW hL hS
  obtain ⟨hx, hb, hml, hown, hts, hK, hsp, hbs, hini, hck, hfr, hlo⟩ := C
  have hr := z_rel_of hck hc
  obtain ⟨hd, rfl⟩ := z_dq_of hr
  exact lv_i2b hx hb hd rfl (k H locs lsC hW hL hS)
theorem z_s_dup (C : z_cx b sp cA D S p R s m args meth c y m0) {v : Value} (h1 : v.category = 1) (hc : z_code y pc = some (nx, .dup)) (k : z_K b sp cA D p l e R s m args below meth c Q y m0 z0 nx ls (v :: v :: st) M) : z_K b sp cA D p l e R s m args below meth c Q y m0 z0 pc ls (v :: st) M := by
  intro H locs lsC hW hL hS
  obtain ⟨hx, hb, hml, hown, hts, hK, hsp, hbs, hini, hck, hfr, hlo⟩ := C
  have hr := z_rel_of hck hc
  obtain ⟨hd, rfl⟩ := z_dq_of hr
  exact lv_dup hx hb hd ((z_v_cat _ v).trans h1) (k H locs lsC hW hL hS)
theorem z_s_dup2 (C : z_cx b sp cA D S p R s m args meth c y m0) {v w : Value} (h1 : v.category = 1) (h2 : w.category = 1) (hc : z_code y pc = some (nx, .dup2)) (k : z_K b sp cA D p l e R s m args below meth c Q y m0 z0 nx ls (v :: w :: v :: w :: st) M) : z_K b sp cA D p l e R s m args below meth c Q y m0 z0 pc ls (v :: w :: st) M := by
  intro H locs lsC hW hL hS
  obtain ⟨hx, hb, hml, hown, hts, hK, hsp, hbs, hini, hck, hfr, hlo⟩ := C
  have hr := z_rel_of hck hc
  obtain ⟨hd, rfl⟩ := z_dq_of hr
  exact lv_dup2_11 hx hb hd ((z_v_cat _ v).trans h1) ((z_v_cat _ w).trans h2) (k H locs lsC hW hL hS)
theorem z_s_pop (C : z_cx b sp cA D S p R s m args meth c y m0) {v : Value} (h1 : v.category = 1) (hc : z_code y pc = some (nx, .pop)) (k : z_K b sp cA D p l e R s m args below meth c Q y m0 z0 nx ls st M) : z_K b sp cA D p l e R s m args below meth c Q y m0 z0 pc ls (v :: st) M := by
  intro H locs lsC hW hL hS
  obtain ⟨hx, hb, hml, hown, hts, hK, hsp, hbs, hini, hck, hfr, hlo⟩ := C
  have hr := z_rel_of hck hc
  obtain ⟨hd, rfl⟩ := z_dq_of hr
  exact lv_pop hx hb hd ((z_v_cat _ v).trans h1) (k H locs lsC hW hL hS)
theorem z_s_goto (C : z_cx b sp cA D S p R s m args meth c y m0) {t : Nat} (hc : z_code y pc = some (nx, .ret t)) (k : z_K b sp cA D p l e R s m args below meth c Q y m0 z0 t ls st M) : z_K b sp cA D p l e R s m args below meth c Q y m0 z0 pc ls st M := by
  intro H locs lsC hW hL hS
  obtain ⟨hx, hb, hml, hown, hts, hK, hsp, hbs, hini, hck, hfr, hlo⟩ := C
  have hr := z_rel_of hck hc
  obtain ⟨hd, rfl⟩ := z_dq_of hr
  exact lv_goto hx hb hd (by omega) (k H locs lsC hW hL hS)
theorem z_s_icmp (C : z_cx b sp cA D S p R s m args meth c y m0) {q t : Nat} {a1 a2 : Int32} (hc : z_code y pc = some (nx, .invokeinterface q t)) (k : z_K b sp cA D p l e R s m args below meth c Q y m0 z0 (if z_cc q a2 a1 = true then t else nx) ls st M) : z_K b sp cA D p l e R s m args below meth c Q y m0 z0 pc ls (.int a1 :: .int a2 :: st) M := by
  intro H locs lsC hW hL hS
  obtain ⟨hx, hb, hml, hown, hts, hK, hsp, hbs, hini, hck, hfr, hlo⟩ := C
  have hr := z_rel_of hck hc
  simp only [z_rel, Bool.and_eq_true, decide_eq_true_eq] at hr
  obtain ⟨h6, hr⟩ := hr
  obtain ⟨hd, rfl⟩ := z_dq_of hr
  match q, h6 with
  | 0, _ =>
    refine lv_icmp_eq hx hb hd (tgt := t) (by omega) (fun g => ?_) (fun g => ?_)
    · have k := k H locs lsC hW hL hS
      rw [if_pos (by simp [z_cc, g])] at k
      exact k
    · have k := k H locs lsC hW hL hS
      rw [if_neg (by simp [z_cc]; first | exact g | exact Classical.not_not.mp g | exact Int32.not_lt.mp g | exact Int32.not_le.mp g)] at k
      exact k
  | 1, _ =>
    refine lv_icmp_ne hx hb hd (tgt := t) (by omega) (fun g => ?_) (fun g => ?_)
    · have k := k H locs lsC hW hL hS
      rw [if_pos (by simp [z_cc, g])] at k
      exact k
    · have k := k H locs lsC hW hL hS
      rw [if_neg (by simp [z_cc]; first | exact g | exact Classical.not_not.mp g | exact Int32.not_lt.mp g | exact Int32.not_le.mp g)] at k
      exact k
  | 2, _ =>
    refine lv_icmp_lt hx hb hd (tgt := t) (by omega) (fun g => ?_) (fun g => ?_)
    · have k := k H locs lsC hW hL hS
      rw [if_pos (by simp [z_cc, g])] at k
      exact k
    · have k := k H locs lsC hW hL hS
      rw [if_neg (by simp [z_cc]; first | exact g | exact Classical.not_not.mp g | exact Int32.not_lt.mp g | exact Int32.not_le.mp g)] at k
      exact k
  | 3, _ =>
    refine lv_icmp_ge hx hb hd (tgt := t) (by omega) (fun g => ?_) (fun g => ?_)
    · have k := k H locs lsC hW hL hS
      rw [if_pos (by simp [z_cc, g])] at k
      exact k
    · have k := k H locs lsC hW hL hS
      rw [if_neg (by simp [z_cc]; first | exact g | exact Classical.not_not.mp g | exact Int32.not_lt.mp g | exact Int32.not_le.mp g)] at k
      exact k
  | 4, _ =>
    refine lv_icmp_gt hx hb hd (tgt := t) (by omega) (fun g => ?_) (fun g => ?_)
    · have k := k H locs lsC hW hL hS
      rw [if_pos (by simp [z_cc, g])] at k
      exact k
    · have k := k H locs lsC hW hL hS
      rw [if_neg (by simp [z_cc]; first | exact g | exact Classical.not_not.mp g | exact Int32.not_lt.mp g | exact Int32.not_le.mp g)] at k
      exact k
  | 5, _ =>
    refine lv_icmp_le hx hb hd (tgt := t) (by omega) (fun g => ?_) (fun g => ?_)
    · have k := k H locs lsC hW hL hS
      rw [if_pos (by simp [z_cc, g])] at k
      exact k
    · have k := k H locs lsC hW hL hS
      rw [if_neg (by simp [z_cc]; first | exact g | exact Classical.not_not.mp g | exact Int32.not_lt.mp g | exact Int32.not_le.mp g)] at k
      exact k
theorem z_s_if (C : z_cx b sp cA D S p R s m args meth c y m0) {q t : Nat} {a1 : Int32} (hc : z_code y pc = some (nx, .multianewarray q t)) (k : z_K b sp cA D p l e R s m args below meth c Q y m0 z0 (if z_cc q a1 0 = true then t else nx) ls st M) : z_K b sp cA D p l e R s m args below meth c Q y m0 z0 pc ls (.int a1 :: st) M := by
  intro H locs lsC hW hL hS
  obtain ⟨hx, hb, hml, hown, hts, hK, hsp, hbs, hini, hck, hfr, hlo⟩ := C
  have hr := z_rel_of hck hc
  simp only [z_rel, Bool.and_eq_true, decide_eq_true_eq] at hr
  obtain ⟨h6, hr⟩ := hr
  obtain ⟨hd, rfl⟩ := z_dq_of hr
  match q, h6 with
  | 0, _ =>
    refine lv_if_eq hx hb hd (tgt := t) (by omega) (fun g => ?_) (fun g => ?_)
    · have k := k H locs lsC hW hL hS
      rw [if_pos (by simp [z_cc, g])] at k
      exact k
    · have k := k H locs lsC hW hL hS
      rw [if_neg (by simp [z_cc]; first | exact g | exact Classical.not_not.mp g | exact Int32.not_lt.mp g | exact Int32.not_le.mp g)] at k
      exact k
  | 1, _ =>
    refine lv_if_ne hx hb hd (tgt := t) (by omega) (fun g => ?_) (fun g => ?_)
    · have k := k H locs lsC hW hL hS
      rw [if_pos (by simp [z_cc, g])] at k
      exact k
    · have k := k H locs lsC hW hL hS
      rw [if_neg (by simp [z_cc]; first | exact g | exact Classical.not_not.mp g | exact Int32.not_lt.mp g | exact Int32.not_le.mp g)] at k
      exact k
  | 2, _ =>
    refine lv_if_lt hx hb hd (tgt := t) (by omega) (fun g => ?_) (fun g => ?_)
    · have k := k H locs lsC hW hL hS
      rw [if_pos (by simp [z_cc, g])] at k
      exact k
    · have k := k H locs lsC hW hL hS
      rw [if_neg (by simp [z_cc]; first | exact g | exact Classical.not_not.mp g | exact Int32.not_lt.mp g | exact Int32.not_le.mp g)] at k
      exact k
  | 3, _ =>
    refine lv_if_ge hx hb hd (tgt := t) (by omega) (fun g => ?_) (fun g => ?_)
    · have k := k H locs lsC hW hL hS
      rw [if_pos (by simp [z_cc, g])] at k
      exact k
    · have k := k H locs lsC hW hL hS
      rw [if_neg (by simp [z_cc]; first | exact g | exact Classical.not_not.mp g | exact Int32.not_lt.mp g | exact Int32.not_le.mp g)] at k
      exact k
  | 4, _ =>
    refine lv_if_gt hx hb hd (tgt := t) (by omega) (fun g => ?_) (fun g => ?_)
    · have k := k H locs lsC hW hL hS
      rw [if_pos (by simp [z_cc, g])] at k
      exact k
    · have k := k H locs lsC hW hL hS
      rw [if_neg (by simp [z_cc]; first | exact g | exact Classical.not_not.mp g | exact Int32.not_lt.mp g | exact Int32.not_le.mp g)] at k
      exact k
  | 5, _ =>
    refine lv_if_le hx hb hd (tgt := t) (by omega) (fun g => ?_) (fun g => ?_)
    · have k := k H locs lsC hW hL hS
      rw [if_pos (by simp [z_cc, g])] at k
      exact k
    · have k := k H locs lsC hW hL hS
      rw [if_neg (by simp [z_cc]; first | exact g | exact Classical.not_not.mp g | exact Int32.not_lt.mp g | exact Int32.not_le.mp g)] at k
      exact k
theorem z_s_ifnull (C : z_cx b sp cA D S p R s m args meth c y m0) {t x : Nat} (hc : z_code y pc = some (nx, .dload t)) (k : z_K b sp cA D p l e R s m args below meth c Q y m0 z0 nx ls st M) : z_K b sp cA D p l e R s m args below meth c Q y m0 z0 pc ls (.ref x :: st) M := by
  intro H locs lsC hW hL hS
  obtain ⟨hx, hb, hml, hown, hts, hK, hsp, hbs, hini, hck, hfr, hlo⟩ := C
  have hr := z_rel_of hck hc
  obtain ⟨hd, rfl⟩ := z_dq_of hr
  exact lv_ifnull hx hb hd (k H locs lsC hW hL hS)
theorem z_s_ifnullN (C : z_cx b sp cA D S p R s m args meth c y m0) {t : Nat} (hc : z_code y pc = some (nx, .dload t)) (k : z_K b sp cA D p l e R s m args below meth c Q y m0 z0 t ls st M) : z_K b sp cA D p l e R s m args below meth c Q y m0 z0 pc ls (.null :: st) M := by
  intro H locs lsC hW hL hS
  obtain ⟨hx, hb, hml, hown, hts, hK, hsp, hbs, hini, hck, hfr, hlo⟩ := C
  have hr := z_rel_of hck hc
  obtain ⟨hd, rfl⟩ := z_dq_of hr
  exact lv_ifnullN hx hb hd (by omega) (k H locs lsC hW hL hS)
theorem z_s_ifnonnull (C : z_cx b sp cA D S p R s m args meth c y m0) {t x : Nat} (hc : z_code y pc = some (nx, .dstore t)) (k : z_K b sp cA D p l e R s m args below meth c Q y m0 z0 t ls st M) : z_K b sp cA D p l e R s m args below meth c Q y m0 z0 pc ls (.ref x :: st) M := by
  intro H locs lsC hW hL hS
  obtain ⟨hx, hb, hml, hown, hts, hK, hsp, hbs, hini, hck, hfr, hlo⟩ := C
  have hr := z_rel_of hck hc
  obtain ⟨hd, rfl⟩ := z_dq_of hr
  exact lv_ifnonnull hx hb hd (by omega) (k H locs lsC hW hL hS)
theorem z_s_ifnonnullN (C : z_cx b sp cA D S p R s m args meth c y m0) {t : Nat} (hc : z_code y pc = some (nx, .dstore t)) (k : z_K b sp cA D p l e R s m args below meth c Q y m0 z0 nx ls st M) : z_K b sp cA D p l e R s m args below meth c Q y m0 z0 pc ls (.null :: st) M := by
  intro H locs lsC hW hL hS
  obtain ⟨hx, hb, hml, hown, hts, hK, hsp, hbs, hini, hck, hfr, hlo⟩ := C
  have hr := z_rel_of hck hc
  obtain ⟨hd, rfl⟩ := z_dq_of hr
  exact lv_ifnonnullN hx hb hd (k H locs lsC hW hL hS)
theorem z_s_tabOut (C : z_cx b sp cA D S p R s m args meth c y m0) {d lo hi : Int} {offs : Array Int} {x : Int32} (h : x.toInt < lo ∨ hi < x.toInt) (hc : z_code y pc = some (nx, .tableswitch d lo hi offs)) (k : z_K b sp cA D p l e R s m args below meth c Q y m0 z0 d.toNat ls st M) : z_K b sp cA D p l e R s m args below meth c Q y m0 z0 pc ls (.int x :: st) M := by
  intro H locs lsC hW hL hS
  obtain ⟨hx, hb, hml, hown, hts, hK, hsp, hbs, hini, hck, hfr, hlo⟩ := C
  have hr := z_rel_of hck hc
  simp only [z_rel, Bool.and_eq_true, decide_eq_true_eq] at hr
  obtain ⟨⟨h0, h1⟩, hr⟩ := hr
  split at hr
  · rename_i d' lo' hi' offs' len hq
    simp only [Bool.and_eq_true, decide_eq_true_eq] at hr
    obtain ⟨⟨⟨rfl, rfl⟩, h4⟩, h5⟩ := hr
    exact lv_tableOut hx hb hq h (by omega) (k H locs lsC hW hL hS)
  · cases hr
theorem z_s_tabIn (C : z_cx b sp cA D S p R s m args meth c y m0) {d lo hi : Int} {offs : Array Int} {x : Int32} {v : Int} (h : ¬ (x.toInt < lo ∨ hi < x.toInt)) (ho : offs[(x.toInt - lo).toNat]? = some v) (hc : z_code y pc = some (nx, .tableswitch d lo hi offs)) (k : z_K b sp cA D p l e R s m args below meth c Q y m0 z0 v.toNat ls st M) : z_K b sp cA D p l e R s m args below meth c Q y m0 z0 pc ls (.int x :: st) M := by
  intro H locs lsC hW hL hS
  obtain ⟨hx, hb, hml, hown, hts, hK, hsp, hbs, hini, hck, hfr, hlo⟩ := C
  have hr := z_rel_of hck hc
  simp only [z_rel, Bool.and_eq_true, decide_eq_true_eq] at hr
  obtain ⟨⟨h0, h1⟩, hr⟩ := hr
  split at hr
  · rename_i d' lo' hi' offs' len hq
    simp only [Bool.and_eq_true, decide_eq_true_eq] at hr
    obtain ⟨⟨⟨rfl, rfl⟩, h4⟩, h5⟩ := hr
    have hv : 0 ≤ v := by
      have h2 := Array.all_eq_true_iff_forall_mem.mp h1 v (Array.mem_of_getElem? ho)
      exact of_decide_eq_true h2
    subst h5
    rw [Array.getElem?_map] at ho
    cases hg : offs'[(x.toInt - lo).toNat]? with
    | none => rw [hg] at ho; cases ho
    | some w =>
      rw [hg] at ho
      have ho : w + (pc : Int) = v := Option.some.inj ho
      exact lv_tableIn hx hb hq (fun g => h (Or.inl g)) (fun g => h (Or.inr g)) hg (by omega) (k H locs lsC hW hL hS)
  · cases hr
end ZST
