theorem z_lks {pc : Int} (x d : Int) : ∀ l : List (Int × Int), Op.lookupswitch.offset (l.map (fun o => (o.1, o.2 + pc))) (d + pc) x = Op.lookupswitch.offset l d x + pc := by
  intro l
  induction l with
  | nil => rfl
  | cons q t ih =>
    obtain ⟨a, v⟩ := q
    by_cases h : x = a
    · subst h
      simp [Op.lookupswitch.offset]
    · have h2 : ¬ a = x := fun g => h g.symm
      show (if a = x then v + pc else Op.lookupswitch.offset (t.map (fun o => (o.1, o.2 + pc))) (d + pc) x) = (if a = x then v else Op.lookupswitch.offset t d x) + pc
      rw [if_neg h2, if_neg h2]
      exact ih
theorem z_lkp (x d : Int) : ∀ l : List (Int × Int), 0 ≤ d → (∀ q ∈ l, 0 ≤ q.2) → 0 ≤ Op.lookupswitch.offset l d x := by
  intro l
  induction l with
  | nil => intro h _; exact h
  | cons q t ih =>
    intro h hl
    obtain ⟨a, v⟩ := q
    have ih := ih h (fun q hq => hl q (List.mem_cons_of_mem _ hq))
    have h0 : 0 ≤ v := hl (a, v) List.mem_cons_self
    by_cases h1 : x = a
    · subst h1
      simp [Op.lookupswitch.offset]
      exact h0
    · have h2 : ¬ a = x := fun g => h1 g.symm
      show 0 ≤ (if a = x then v else Op.lookupswitch.offset t d x)
      rw [if_neg h2]
      exact ih
section ZST
variable {b : Nat} {sp : Nat → Nat} {cA : Nat → ClassId} {D : va_G} {S : ZS} {p : Program} {l : Launch} {e : Env} {R : Room} {s : State} {m : MethodId} {args : Array Value} {below : List Frame} {meth : Method} {c : Code} {Q : State → Prop} {y m0 z0 : Nat}
variable {pc nx : Nat} {ls : ZL} {st : List Value} {M : ZM}

theorem z_s_lookup (C : z_cx b sp cA D S p R s m args meth c y m0) {d : Int} {ps : Array (Int × Int)} {x : Int32} (hc : z_code y pc = some (nx, .lookupswitch d ps)) (k : z_K b sp cA D p l e R s m args below meth c Q y m0 z0 (Op.lookupswitch.offset ps.toList d x.toInt).toNat ls st M) : z_K b sp cA D p l e R s m args below meth c Q y m0 z0 pc ls (.int x :: st) M := by
  intro H locs lsC hW hL hS
  obtain ⟨hx, hb, hml, hown, hts, hK, hsp, hbs, hini, hck, hfr, hlo⟩ := C
  have hr := z_rel_of hck hc
  simp only [z_rel, Bool.and_eq_true, decide_eq_true_eq] at hr
  obtain ⟨⟨h0, h1⟩, hr⟩ := hr
  split at hr
  · rename_i d' ps' len hq
    simp only [Bool.and_eq_true, decide_eq_true_eq] at hr
    obtain ⟨⟨h3, h4⟩, h5⟩ := hr
    have h6 := z_lks (pc := (pc : Int)) x.toInt d' ps'.toList
    rw [h5, h4] at h6
    have h7 : 0 ≤ Op.lookupswitch.offset ps.toList d x.toInt := z_lkp _ _ _ h0 (fun q hq => of_decide_eq_true (Array.all_eq_true_iff_forall_mem.mp h1 q (Array.mem_toList_iff.mp hq)))
    exact lv_lookup hx hb hq h3 rfl (by omega) (k H locs lsC hW hL hS)
  · cases hr
theorem z_s_newI (C : z_cx b sp cA D S p R s m args meth c y m0) {n : Int32} (hn : ¬ n < 0) (hn5 : n.toNatClampNeg ≤ 5000) (h0 : m0 ≤ M.length) (hz0 : z0 ≤ z_sz M) (h9 : M.length < 900) (hrc : M.length + 1 - m0 ≤ R.cells) (hrs : z_sz M + n.toNatClampNeg - z0 ≤ R.slots) (hc : z_code y pc = some (nx, .newarray .int)) (k : z_K b sp cA D p l e R s m args below meth c Q y m0 z0 nx ls (.ref M.length :: st) (M ++ [(.inr (0, n.toNatClampNeg, .inl (fun _ => 0)))])) : z_K b sp cA D p l e R s m args below meth c Q y m0 z0 pc ls (.int n :: st) M := by
  intro H locs lsC hW hL hS
  obtain ⟨hx, hb, hml, hown, hts, hK, hsp, hbs, hini, hck, hfr, hlo⟩ := C
  have hr := z_rel_of hck hc
  simp only [z_rel, Bool.and_eq_true] at hr
  obtain ⟨⟨hr, -⟩, w1⟩ := hr
  obtain ⟨hd, rfl⟩ := z_dq_of hr
  refine z_up h0 hbs hW hS rfl (fun hsz => ?_)
  refine va_newaK (g := F0 m pc lsC (.int n :: st.map (z_v (z_ad b sp)))) hx hb (hts _ (z_w_of w1)) rfl hd rfl hn rfl (show _ * 4 ≤ _ by omega) (by omega) (by omega) hsz fun H1 cB e1 z1 o1 hAr hNm => ?_
  have o2 : ∀ q, q < H.size → H1[q]? = H[q]? := fun q h => o1 q (by omega)
  have hcB : cB = cA 0 := Option.some.inj (hNm.symm.trans (hK.2 0 _ rfl).2)
  subst hcB
  have hW1 := hW.app (x := (.inr (0, n.toNatClampNeg, .inl (fun _ => 0)))) h9 o2 e1
  have := k H1 locs lsC hW1 hL (z_S_app hS (by omega) o2)
  rw [List.length_append, z_sz_app] at this
  have e2 : z_ad b sp M.length = b + M.length := z_ad_lo (by omega)
  have this : W p l e R s m args below meth c H1 locs (M.length + 1 - m0) (z_sz M + n.toNatClampNeg - z0) Q (F0 m (pc + 2) lsC (.ref (z_ad b sp M.length) :: st.map (z_v (z_ad b sp)))) := this
  rw [e2] at this
  exact W.cs (by omega) (by omega) this
theorem z_s_newB (C : z_cx b sp cA D S p R s m args meth c y m0) {n : Int32} (hn : ¬ n < 0) (hn5 : n.toNatClampNeg ≤ 5000) (h0 : m0 ≤ M.length) (hz0 : z0 ≤ z_sz M) (h9 : M.length < 900) (hrc : M.length + 1 - m0 ≤ R.cells) (hrs : z_sz M + n.toNatClampNeg - z0 ≤ R.slots) (hc : z_code y pc = some (nx, .newarray .byte)) (k : z_K b sp cA D p l e R s m args below meth c Q y m0 z0 nx ls (.ref M.length :: st) (M ++ [(.inr (1, n.toNatClampNeg, .inl (fun _ => 0)))])) : z_K b sp cA D p l e R s m args below meth c Q y m0 z0 pc ls (.int n :: st) M := by
  intro H locs lsC hW hL hS
  obtain ⟨hx, hb, hml, hown, hts, hK, hsp, hbs, hini, hck, hfr, hlo⟩ := C
  have hr := z_rel_of hck hc
  simp only [z_rel, Bool.and_eq_true] at hr
  obtain ⟨⟨hr, -⟩, w1⟩ := hr
  obtain ⟨hd, rfl⟩ := z_dq_of hr
  refine z_up h0 hbs hW hS rfl (fun hsz => ?_)
  refine va_newaK (g := F0 m pc lsC (.int n :: st.map (z_v (z_ad b sp)))) hx hb (hts _ (z_w_of w1)) rfl hd rfl hn rfl (show _ * 1 ≤ _ by omega) (by omega) (by omega) hsz fun H1 cB e1 z1 o1 hAr hNm => ?_
  have o2 : ∀ q, q < H.size → H1[q]? = H[q]? := fun q h => o1 q (by omega)
  have hcB : cB = cA 1 := Option.some.inj (hNm.symm.trans (hK.2 1 _ rfl).2)
  subst hcB
  have hW1 := hW.app (x := (.inr (1, n.toNatClampNeg, .inl (fun _ => 0)))) h9 o2 e1
  have := k H1 locs lsC hW1 hL (z_S_app hS (by omega) o2)
  rw [List.length_append, z_sz_app] at this
  have e2 : z_ad b sp M.length = b + M.length := z_ad_lo (by omega)
  have this : W p l e R s m args below meth c H1 locs (M.length + 1 - m0) (z_sz M + n.toNatClampNeg - z0) Q (F0 m (pc + 2) lsC (.ref (z_ad b sp M.length) :: st.map (z_v (z_ad b sp)))) := this
  rw [e2] at this
  exact W.cs (by omega) (by omega) this
theorem z_s_newZ (C : z_cx b sp cA D S p R s m args meth c y m0) {n : Int32} (hn : ¬ n < 0) (hn5 : n.toNatClampNeg ≤ 5000) (h0 : m0 ≤ M.length) (hz0 : z0 ≤ z_sz M) (h9 : M.length < 900) (hrc : M.length + 1 - m0 ≤ R.cells) (hrs : z_sz M + n.toNatClampNeg - z0 ≤ R.slots) (hc : z_code y pc = some (nx, .newarray .boolean)) (k : z_K b sp cA D p l e R s m args below meth c Q y m0 z0 nx ls (.ref M.length :: st) (M ++ [(.inr (2, n.toNatClampNeg, .inl (fun _ => 0)))])) : z_K b sp cA D p l e R s m args below meth c Q y m0 z0 pc ls (.int n :: st) M := by
  intro H locs lsC hW hL hS
  obtain ⟨hx, hb, hml, hown, hts, hK, hsp, hbs, hini, hck, hfr, hlo⟩ := C
  have hr := z_rel_of hck hc
  simp only [z_rel, Bool.and_eq_true] at hr
  obtain ⟨⟨hr, -⟩, w1⟩ := hr
  obtain ⟨hd, rfl⟩ := z_dq_of hr
  refine z_up h0 hbs hW hS rfl (fun hsz => ?_)
  refine va_newaK (g := F0 m pc lsC (.int n :: st.map (z_v (z_ad b sp)))) hx hb (hts _ (z_w_of w1)) rfl hd rfl hn rfl (show _ * 1 ≤ _ by omega) (by omega) (by omega) hsz fun H1 cB e1 z1 o1 hAr hNm => ?_
  have o2 : ∀ q, q < H.size → H1[q]? = H[q]? := fun q h => o1 q (by omega)
  have hcB : cB = cA 2 := Option.some.inj (hNm.symm.trans (hK.2 2 _ rfl).2)
  subst hcB
  have hW1 := hW.app (x := (.inr (2, n.toNatClampNeg, .inl (fun _ => 0)))) h9 o2 e1
  have := k H1 locs lsC hW1 hL (z_S_app hS (by omega) o2)
  rw [List.length_append, z_sz_app] at this
  have e2 : z_ad b sp M.length = b + M.length := z_ad_lo (by omega)
  have this : W p l e R s m args below meth c H1 locs (M.length + 1 - m0) (z_sz M + n.toNatClampNeg - z0) Q (F0 m (pc + 2) lsC (.ref (z_ad b sp M.length) :: st.map (z_v (z_ad b sp)))) := this
  rw [e2] at this
  exact W.cs (by omega) (by omega) this
theorem z_s_newJ (C : z_cx b sp cA D S p R s m args meth c y m0) {n : Int32} (hn : ¬ n < 0) (hn5 : n.toNatClampNeg ≤ 5000) (h0 : m0 ≤ M.length) (hz0 : z0 ≤ z_sz M) (h9 : M.length < 900) (hrc : M.length + 1 - m0 ≤ R.cells) (hrs : z_sz M + n.toNatClampNeg - z0 ≤ R.slots) (hc : z_code y pc = some (nx, .newarray .long)) (k : z_K b sp cA D p l e R s m args below meth c Q y m0 z0 nx ls (.ref M.length :: st) (M ++ [(.inr (3, n.toNatClampNeg, .inr (.inl (fun _ => 0))))])) : z_K b sp cA D p l e R s m args below meth c Q y m0 z0 pc ls (.int n :: st) M := by
  intro H locs lsC hW hL hS
  obtain ⟨hx, hb, hml, hown, hts, hK, hsp, hbs, hini, hck, hfr, hlo⟩ := C
  have hr := z_rel_of hck hc
  simp only [z_rel, Bool.and_eq_true] at hr
  obtain ⟨⟨hr, -⟩, w1⟩ := hr
  obtain ⟨hd, rfl⟩ := z_dq_of hr
  refine z_up h0 hbs hW hS rfl (fun hsz => ?_)
  refine va_newaK (g := F0 m pc lsC (.int n :: st.map (z_v (z_ad b sp)))) hx hb (hts _ (z_w_of w1)) rfl hd rfl hn rfl (show _ * 8 ≤ _ by omega) (by omega) (by omega) hsz fun H1 cB e1 z1 o1 hAr hNm => ?_
  have o2 : ∀ q, q < H.size → H1[q]? = H[q]? := fun q h => o1 q (by omega)
  have hcB : cB = cA 3 := Option.some.inj (hNm.symm.trans (hK.2 3 _ rfl).2)
  subst hcB
  have hW1 := hW.app (x := (.inr (3, n.toNatClampNeg, .inr (.inl (fun _ => 0))))) h9 o2 e1
  have := k H1 locs lsC hW1 hL (z_S_app hS (by omega) o2)
  rw [List.length_append, z_sz_app] at this
  have e2 : z_ad b sp M.length = b + M.length := z_ad_lo (by omega)
  have this : W p l e R s m args below meth c H1 locs (M.length + 1 - m0) (z_sz M + n.toNatClampNeg - z0) Q (F0 m (pc + 2) lsC (.ref (z_ad b sp M.length) :: st.map (z_v (z_ad b sp)))) := this
  rw [e2] at this
  exact W.cs (by omega) (by omega) this
theorem z_s_new4 (C : z_cx b sp cA D S p R s m args meth c y m0) {n : Int32} (hn : ¬ n < 0) (hn5 : n.toNatClampNeg ≤ 5000) (h0 : m0 ≤ M.length) (hz0 : z0 ≤ z_sz M) (h9 : M.length < 900) (hrc : M.length + 1 - m0 ≤ R.cells) (hrs : z_sz M + n.toNatClampNeg - z0 ≤ R.slots) (hc : z_code y pc = some (nx, .anewarray 4)) (k : z_K b sp cA D p l e R s m args below meth c Q y m0 z0 nx ls (.ref M.length :: st) (M ++ [(.inr (4, n.toNatClampNeg, .inr (.inr (fun _ => none))))])) : z_K b sp cA D p l e R s m args below meth c Q y m0 z0 pc ls (.int n :: st) M := by
  intro H locs lsC hW hL hS
  obtain ⟨hx, hb, hml, hown, hts, hK, hsp, hbs, hini, hck, hfr, hlo⟩ := C
  have hr := z_rel_of hck hc
  simp only [z_rel] at hr
  split at hr
  · rename_i q hq
    simp only [Bool.and_eq_true, Bool.or_eq_true, decide_eq_true_eq] at hr
    obtain ⟨rfl, w1⟩ := hr
    have w1 : z_w (.classLink (z_mt y).1.cls q RX0) = true := by
      rcases w1 with ⟨g, w⟩ | ⟨g, w⟩
      · first | exact w | exact absurd g (by decide)
      · first | exact w | exact absurd g (by decide)
    refine z_up h0 hbs hW hS rfl (fun hsz => ?_)
    refine W.anew (g := F0 m pc lsC (.int n :: st.map (z_v (z_ad b sp)))) hx hb hown (hts _ (z_w_of w1)) (va_AO.use hsp.2.2.2.2.1) rfl hq rfl hn (by omega) (by omega) (by omega) fun cB kA comp f1 f2 f3 f4 => ?_
    generalize hH1 : H.push ({ cls := cB, slots := Array.replicate n.toNatClampNeg .null, vm := .none } : Cell) = H1
    have z1 : H1.size = H.size + 1 := by rw [← hH1, Array.size_push]
    have e1 : H1[H.size]? = some (arrV cB n.toNatClampNeg (fun _ => .null)) := by rw [← hH1, Array.getElem?_push_size, ← arrV_new]
    have o2 : ∀ q : Nat, q < H.size → H1[q]? = H[q]? := fun q hq => by rw [← hH1, Array.getElem?_push, if_neg (Nat.ne_of_lt hq)]
    obtain ⟨kA2, comp2, g1, g2, g3, g4⟩ := (hK.2 4 _ rfl).2
    have hcB : cB = cA 4 := Option.some.inj (f1.symm.trans g4)
    subst hcB
    rw [hsz] at e1
    have hW1 := hW.app (x := (.inr (4, n.toNatClampNeg, .inr (.inr (fun _ => none))))) h9 o2 e1
    have := k H1 locs lsC hW1 hL (z_S_app hS (by omega) o2)
    rw [List.length_append, z_sz_app] at this
    have e2 : z_ad b sp M.length = b + M.length := z_ad_lo (by omega)
    have this : W p l e R s m args below meth c H1 locs (M.length + 1 - m0) (z_sz M + n.toNatClampNeg - z0) Q (F0 m (pc + 3) lsC (.ref (z_ad b sp M.length) :: st.map (z_v (z_ad b sp)))) := this
    rw [e2] at this
    rw [hsz]
    exact W.cs (by omega) (by omega) this
  · cases hr
theorem z_s_new5 (C : z_cx b sp cA D S p R s m args meth c y m0) {n : Int32} (hn : ¬ n < 0) (hn5 : n.toNatClampNeg ≤ 5000) (h0 : m0 ≤ M.length) (hz0 : z0 ≤ z_sz M) (h9 : M.length < 900) (hrc : M.length + 1 - m0 ≤ R.cells) (hrs : z_sz M + n.toNatClampNeg - z0 ≤ R.slots) (hc : z_code y pc = some (nx, .anewarray 5)) (k : z_K b sp cA D p l e R s m args below meth c Q y m0 z0 nx ls (.ref M.length :: st) (M ++ [(.inr (5, n.toNatClampNeg, .inr (.inr (fun _ => none))))])) : z_K b sp cA D p l e R s m args below meth c Q y m0 z0 pc ls (.int n :: st) M := by
  intro H locs lsC hW hL hS
  obtain ⟨hx, hb, hml, hown, hts, hK, hsp, hbs, hini, hck, hfr, hlo⟩ := C
  have hr := z_rel_of hck hc
  simp only [z_rel] at hr
  split at hr
  · rename_i q hq
    simp only [Bool.and_eq_true, Bool.or_eq_true, decide_eq_true_eq] at hr
    obtain ⟨rfl, w1⟩ := hr
    have w1 : z_w (.classLink (z_mt y).1.cls q RX2) = true := by
      rcases w1 with ⟨g, w⟩ | ⟨g, w⟩
      · first | exact w | exact absurd g (by decide)
      · first | exact w | exact absurd g (by decide)
    refine z_up h0 hbs hW hS rfl (fun hsz => ?_)
    refine W.anew (g := F0 m pc lsC (.int n :: st.map (z_v (z_ad b sp)))) hx hb hown (hts _ (z_w_of w1)) (va_AO.use hsp.2.2.2.2.2.1) rfl hq rfl hn (by omega) (by omega) (by omega) fun cB kA comp f1 f2 f3 f4 => ?_
    generalize hH1 : H.push ({ cls := cB, slots := Array.replicate n.toNatClampNeg .null, vm := .none } : Cell) = H1
    have z1 : H1.size = H.size + 1 := by rw [← hH1, Array.size_push]
    have e1 : H1[H.size]? = some (arrV cB n.toNatClampNeg (fun _ => .null)) := by rw [← hH1, Array.getElem?_push_size, ← arrV_new]
    have o2 : ∀ q : Nat, q < H.size → H1[q]? = H[q]? := fun q hq => by rw [← hH1, Array.getElem?_push, if_neg (Nat.ne_of_lt hq)]
    obtain ⟨kA2, comp2, g1, g2, g3, g4⟩ := (hK.2 5 _ rfl).2
    have hcB : cB = cA 5 := Option.some.inj (f1.symm.trans g4)
    subst hcB
    rw [hsz] at e1
    have hW1 := hW.app (x := (.inr (5, n.toNatClampNeg, .inr (.inr (fun _ => none))))) h9 o2 e1
    have := k H1 locs lsC hW1 hL (z_S_app hS (by omega) o2)
    rw [List.length_append, z_sz_app] at this
    have e2 : z_ad b sp M.length = b + M.length := z_ad_lo (by omega)
    have this : W p l e R s m args below meth c H1 locs (M.length + 1 - m0) (z_sz M + n.toNatClampNeg - z0) Q (F0 m (pc + 3) lsC (.ref (z_ad b sp M.length) :: st.map (z_v (z_ad b sp)))) := this
    rw [e2] at this
    rw [hsz]
    exact W.cs (by omega) (by omega) this
  · cases hr
theorem z_s_obj (C : z_cx b sp cA D S p R s m args meth c y m0) {a : Nat} (hr8 : z_cat st = true) (hc : z_code y pc = some (nx, .monitorenter)) (k : z_K b sp cA D p l e R s m args below meth c Q y m0 z0 nx ls st M) : z_K b sp cA D p l e R s m args below meth c Q y m0 z0 pc ls (.ref a :: st) M := by
  intro H locs lsC hW hL hS
  obtain ⟨hx, hb, hml, hown, hts, hK, hsp, hbs, hini, hck, hfr, hlo⟩ := C
  have hr := z_rel_of hck hc
  simp only [z_rel] at hr
  split at hr
  · rename_i q hq
    simp only [Bool.and_eq_true, decide_eq_true_eq] at hr
    obtain ⟨⟨⟨rfl, w1⟩, w2⟩, w3⟩ := hr
    have h8 := z_cat_of (ad := z_ad b sp) hr8
    exact W.objInit (g := F0 m pc lsC (.ref (z_ad b sp a) :: st.map (z_v (z_ad b sp)))) hx hb hown (hts _ (z_w_of w1)) (hts _ (z_w_of w2)) (hts _ (z_w_of w3)) rfl (hL.1.trans hml.symm) rfl hq (by omega) (by show 2 * 0 + _ + 12 ≤ _; omega) (k H locs lsC hW hL hS)
  · cases hr
theorem z_s_copy (C : z_cx b sp cA D S p R s m args meth c y m0) {a a2 n0 n1 : Nat} {f g : Nat → Int32} {n dp sq : Int32} (hM : M[a]? = some (.inr (0, n0, .inl f))) (hM2 : M[a2]? = some (.inr (0, n1, .inl g))) (h1 : ¬ sq < 0) (h2 : ¬ dp < 0) (h3 : ¬ n < 0) (h4 : sq.toNatClampNeg + n.toNatClampNeg ≤ n0) (h5 : dp.toNatClampNeg + n.toNatClampNeg ≤ n1) (hr8 : z_cat st = true) (hc : z_code y pc = some (nx, .athrow)) (k : z_K b sp cA D p l e R s m args below meth c Q y m0 z0 nx ls st (M.set a2 (.inr (0, n1, .inl (va_cpy f g sq.toNatClampNeg dp.toNatClampNeg n.toNatClampNeg))))) : z_K b sp cA D p l e R s m args below meth c Q y m0 z0 pc ls (.int n :: .int dp :: .ref a2 :: .int sq :: .ref a :: st) M := by
  intro H locs lsC hW hL hS
  obtain ⟨hx, hb, hml, hown, hts, hK, hsp, hbs, hini, hck, hfr, hlo⟩ := C
  have hr := z_rel_of hck hc
  simp only [z_rel] at hr
  split at hr
  · rename_i q hq
    simp only [Bool.and_eq_true, decide_eq_true_eq] at hr
    obtain ⟨⟨⟨⟨rfl, w1⟩, w2⟩, w3⟩, w4⟩ := hr
    have h8 := z_cat_of (ad := z_ad b sp) hr8
    have ha : z_ad b sp a = b + a := z_ad_lo (z_lt9 hM hW.1)
    have ha2 : z_ad b sp a2 = b + a2 := z_ad_lo (z_lt9 hM2 hW.1)
    show W p l e R s m args below meth c H locs (M.length - m0) (z_sz M - z0) Q (F0 m pc lsC (.int n :: .int dp :: .ref (z_ad b sp a2) :: .int sq :: .ref (z_ad b sp a) :: st.map (z_v (z_ad b sp))))
    rw [ha, ha2]
    refine va_copyi hx hb (hml.trans hL.1.symm) hown (hts _ (z_w_of w1)) (hts _ (z_w_of w2)) (hts _ (z_w_of w3)) (hts _ (z_w_of w4)) hK hW.2 (z_D b sp cA M) hS a a2 0 0 (z_ws_at hM) (z_ws_at hM2) rfl rfl rfl h1 h2 h3 h4 h5 (fun _ _ => rfl) (by omega) ?_ hq (fun H1 locs1 hP _ hS1 => ?_)
    · have : nativeFrameWords "java/lang/System" "arraycopy" 5 ≤ 100 := by decide +kernel
      omega
    · have := k H1 locs1 lsC (hW.set hP) hL hS1
      rw [List.length_set, z_sz_set M a2 (.inr (0, n1, .inl (va_cpy f g sq.toNatClampNeg dp.toNatClampNeg n.toNatClampNeg))) _ hM2 rfl] at this
      exact this
  · cases hr
theorem z_s_max (C : z_cx b sp cA D S p R s m args meth c y m0) {a1 a2 : Int32} (hr8 : z_cat st = true) (hrc : M.length - m0 ≤ R.cells) (hrs : z_sz M - z0 ≤ R.slots) (hc : z_code y pc = some (nx, .dadd)) (k : z_K b sp cA D p l e R s m args below meth c Q y m0 z0 nx ls (.int (if a2 < a1 then a1 else a2) :: st) M) : z_K b sp cA D p l e R s m args below meth c Q y m0 z0 pc ls (.int a1 :: .int a2 :: st) M := by
  intro H locs lsC hW hL hS
  obtain ⟨hx, hb, hml, hown, hts, hK, hsp, hbs, hini, hck, hfr, hlo⟩ := C
  have hr := z_rel_of hck hc
  simp only [z_rel] at hr
  split at hr
  · rename_i q hq
    simp only [Bool.and_eq_true, decide_eq_true_eq] at hr
    obtain ⟨⟨⟨rfl, w1⟩, w2⟩, w3⟩ := hr
    have h8 := z_cat_of (ad := z_ad b sp) hr8
    exact va_mmax hx hb (hml.trans hL.1.symm) hown (hts _ (z_w_of w1)) (hts _ (z_w_of w2)) (hts _ (z_w_of w3)) (hts _ (List.mem_filter.mpr ⟨z_cw_max, rfl⟩)) (by omega) (by omega) hrc hrs hq (k H locs lsC hW hL hS)
  · cases hr
theorem z_s_min (C : z_cx b sp cA D S p R s m args meth c y m0) {a1 a2 : Int32} (hr8 : z_cat st = true) (hrc : M.length - m0 ≤ R.cells) (hrs : z_sz M - z0 ≤ R.slots) (hc : z_code y pc = some (nx, .dsub)) (k : z_K b sp cA D p l e R s m args below meth c Q y m0 z0 nx ls (.int (if a1 < a2 then a1 else a2) :: st) M) : z_K b sp cA D p l e R s m args below meth c Q y m0 z0 pc ls (.int a1 :: .int a2 :: st) M := by
  intro H locs lsC hW hL hS
  obtain ⟨hx, hb, hml, hown, hts, hK, hsp, hbs, hini, hck, hfr, hlo⟩ := C
  have hr := z_rel_of hck hc
  simp only [z_rel] at hr
  split at hr
  · rename_i q hq
    simp only [Bool.and_eq_true, decide_eq_true_eq] at hr
    obtain ⟨⟨⟨rfl, w1⟩, w2⟩, w3⟩ := hr
    have h8 := z_cat_of (ad := z_ad b sp) hr8
    exact va_mmin hx hb (hml.trans hL.1.symm) hown (hts _ (z_w_of w1)) (hts _ (z_w_of w2)) (hts _ (z_w_of w3)) (hts _ (List.mem_filter.mpr ⟨z_cw_min, rfl⟩)) (by omega) (by omega) hrc hrs hq (k H locs lsC hW hL hS)
  · cases hr
end ZST
