/-! String.length and String.charAt of the three words -/
def z_PJ (b : Nat) (sp : Nat → Nat) (S : ZS) (as : List Value) : Array Value → State → Prop := fun v U => v = as.toArray ∧ b ≤ U.heap.size ∧ z_sp b sp S U U.heap
def z_QJ (r : Option Value) : Array Value → State → Outcome → State → Prop := fun _ st o t => o = .returned r ∧ t.heap = st.heap
def z_rj (k : Nat) : Room := { frames := k, cells := 0, slots := 0, locals := 30 * k }
theorem z_blindJ {b : Nat} {sp : Nat → Nat} {S : ZS} {as : List Value} : FrameBlind (z_PJ b sp S as) := by
  intro a U g mk h
  obtain ⟨h1, h0, h5⟩ := h
  obtain ⟨g1, g2, ⟨adV, g3⟩, g4, g5, g6, g7, g8⟩ := h5
  have hv : U.vm.Alike (U.calling g mk a).vm := Vm.Alike.refl U.vm
  exact ⟨h1, h0, g1, va_X.moved (u := U) (U := U.calling g mk a) hv g2, ⟨adV, vk_S.moved (u := U) (U := U.calling g mk a) hv g3⟩, fun q hq => by
    obtain ⟨tx, gg⟩ := g4 q hq
    exact ⟨tx, vk_R.same (u := U) (U := U.calling g mk a) rfl gg⟩, va_AO.moved (u := U) (U := U.calling g mk a) hv g5, va_AO.moved (u := U) (U := U.calling g mk a) hv g6, va_Z.moved (u := U) (U := U.calling g mk a) hv g7, va_Zq.moved (u := U) (U := U.calling g mk a) hv g8⟩
theorem z_preJ {b : Nat} {sp : Nat → Nat} {S : ZS} {s : State} {H : Heap} {locs : List Loc} {as : List Value} (h : z_sp b sp S s s.heap) (hb : b ≤ s.heap.size) (hS : va_S (z_A b) s.heap H locs) : ∀ U : State, U.heap = H → s.WarmedH U.vm → z_PJ b sp S as as.toArray U := fun U hU hW => ⟨rfl, by rw [hU]; exact Nat.le_trans hb hS.1, h.to hb hS hW hU⟩
theorem z_callJ {p : Program} {l : Launch} {e : Env} {R : Room} {s : State} {m : MethodId} {args : Array Value} {below : List Frame} {meth : Method} {c : Code} {Q : State → Prop} {H : Heap} {locs : List Loc} {cells slots pc : Nat} {ls : Array Slot} {st0 rest : List Value} {r : Option Value} {a : Array Value} (hr : va_Run p l e R s m args below meth c H locs cells slots 0 0 (F0 m pc ls st0) rest (z_QJ r a) (fun _ => False)) (kk : W p l e R s m args below meth c H locs cells slots Q (F0 m (pc + 3) ls (r.toList ++ rest))) : W p l e R s m args below meth c H locs cells slots Q (F0 m pc ls st0) := by
  intro T hT X
  obtain ⟨v, st₀, t, T', L, g0, X', hL, e1, e2, ⟨hv, hh⟩, stp⟩ := hr T hT X
  have hv : v = r := by cases hv; rfl
  subst hv
  obtain ⟨t2, a1, b1⟩ := kk T' (by rw [e1, hh, g0]) (Stand.forget X' (fun q h => (hL q h).elim))
  exact ⟨t2, stp t2 a1, b1⟩
def z_wj (y : MethodName) (c : ByteArray) (n : Nat) (r : Option FieldType) : List Cond := Cond.code y c n r :: z_gw
theorem z_wj_in {y : MethodName} {c : ByteArray} {n : Nat} {r : Option FieldType} (h : Cond.code y c n r ∈ lw_tbl) : ∀ w ∈ z_wj y c n r, w ∈ z_gw := by
  intro w hw
  rcases List.mem_cons.mp hw with rfl | hw
  · exact List.mem_filter.mpr ⟨h, rfl⟩
  · exact hw
section ZJ
variable {b : Nat} {sp : Nat → Nat} {S : ZS}
theorem z_wd1 (w : Cond) (h : z_w w = true) : w ∈ z_gw := z_w_of h
set_option maxRecDepth 20000 in
/-- String.coder(): 0 -/
theorem z_j_coder (l : Launch) {i : Nat} (hi : i < 3) : Met l yJ0_coder_7d493 (z_wj yJ0_coder_7d493 cJ0_coder_7d493 1 (some .byte)) (z_rj 0) (z_PJ b sp S [.ref (sp (i + 1))]) (z_QJ (some (.int 0))) 0 0 (fun _ => False) := by
  refine Met.ofW (cc := cJ0_coder_7d493) (maxL := 1) (ret := (some .byte)) (by decide) rfl ?_
  intro p e s m args below meth c s₁ B hml hv
  obtain ⟨rfl, hbs, hsp⟩ := hv
  have hx := B.exec
  have hb := B.bytes
  have hr := B.returns
  have hts : ∀ w ∈ z_gw, w.before [Value.ref (sp (i + 1))].toArray s = true := fun w hw => atoms_spec (ws := z_wj yJ0_coder_7d493 cJ0_coder_7d493 1 (some .byte)) B.pre w (List.mem_cons_of_mem _ hw)
  have hown : s.vm.findClass RJ0 = some m.cls := findClass_of_methodNamed B.named
  have hlocks := B.notSynchronized
  have hS : va_S (z_A b) s.heap s.heap [] := va_S.rf
  obtain ⟨g1, g2, ⟨adV, g3⟩, g4, g5, g6, g7, g8⟩ := hsp
  obtain ⟨k1, k2, k3, k4⟩ := g3.1 i hi
  have hl := lv_entry ([.ref (sp (i + 1))]) (n := 1) (Nat.le_of_ble_eq_true rfl)
  rw [lg_entry_eq]
  generalize (lg_sl ([.ref (sp (i + 1))]) ++ List.replicate (1 - (lg_sl ([.ref (sp (i + 1))])).length) Slot.unset).toArray = ls at hl ⊢
  have hl : lv_has ls 1 [(0, .ref (sp (i + 1)))] := hl
  refine va_gets hx hb g7 hS hown (hts (.fieldLink RJ0 38 "java/lang/String" "COMPACT_STRINGS" "Z") (z_w_of (by decide +kernel))) (fun _ h => h) (by decide +kernel) ?_
  refine lv_if_eq hx hb (off := 10) (tgt := 13) (by decide +kernel) (by decide) (fun h => absurd h (by decide)) (fun _ => ?_)
  refine lv_aload_n hx hb (k := 0) (by decide +kernel) rfl (lv_at hl 0 rfl) ?_
  refine vk_getf hx hb k2 hS hown (hts (.fieldLink RJ0 15 "java/lang/String" "coder" "B") (z_w_of (by decide +kernel))) (fun _ h => h) (by decide +kernel) ?_
  refine lv_goto hx hb (off := 4) (tgt := 14) (by decide +kernel) (by decide) ?_
  exact W.zret hx hb hr rfl (fun t ht _ => ⟨rfl, ht⟩) (fun q h => by cases h) (by decide +kernel) hlocks
set_option maxRecDepth 20000 in
/-- String.isLatin1(): 1 -/
theorem z_j_lat (l : Launch) {i : Nat} (hi : i < 3) : Met l yJ0_isLatin1_aae02 (z_wj yJ0_isLatin1_aae02 cJ0_isLatin1_aae02 1 (some .boolean)) (z_rj 0) (z_PJ b sp S [.ref (sp (i + 1))]) (z_QJ (some (.int 1))) 0 0 (fun _ => False) := by
  refine Met.ofW (cc := cJ0_isLatin1_aae02) (maxL := 1) (ret := (some .boolean)) (by decide) rfl ?_
  intro p e s m args below meth c s₁ B hml hv
  obtain ⟨rfl, hbs, hsp⟩ := hv
  have hx := B.exec
  have hb := B.bytes
  have hr := B.returns
  have hts : ∀ w ∈ z_gw, w.before [Value.ref (sp (i + 1))].toArray s = true := fun w hw => atoms_spec (ws := z_wj yJ0_isLatin1_aae02 cJ0_isLatin1_aae02 1 (some .boolean)) B.pre w (List.mem_cons_of_mem _ hw)
  have hown : s.vm.findClass RJ0 = some m.cls := findClass_of_methodNamed B.named
  have hlocks := B.notSynchronized
  have hS : va_S (z_A b) s.heap s.heap [] := va_S.rf
  obtain ⟨g1, g2, ⟨adV, g3⟩, g4, g5, g6, g7, g8⟩ := hsp
  obtain ⟨k1, k2, k3, k4⟩ := g3.1 i hi
  have hl := lv_entry ([.ref (sp (i + 1))]) (n := 1) (Nat.le_of_ble_eq_true rfl)
  rw [lg_entry_eq]
  generalize (lg_sl ([.ref (sp (i + 1))]) ++ List.replicate (1 - (lg_sl ([.ref (sp (i + 1))])).length) Slot.unset).toArray = ls at hl ⊢
  have hl : lv_has ls 1 [(0, .ref (sp (i + 1)))] := hl
  refine va_gets hx hb g7 hS hown (hts (.fieldLink RJ0 38 "java/lang/String" "COMPACT_STRINGS" "Z") (z_w_of (by decide +kernel))) (fun _ h => h) (by decide +kernel) ?_
  refine lv_if_eq hx hb (off := 14) (tgt := 17) (by decide +kernel) (by decide) (fun h => absurd h (by decide)) (fun _ => ?_)
  refine lv_aload_n hx hb (k := 0) (by decide +kernel) rfl (lv_at hl 0 rfl) ?_
  refine vk_getf hx hb k2 hS hown (hts (.fieldLink RJ0 15 "java/lang/String" "coder" "B") (z_w_of (by decide +kernel))) (fun _ h => h) (by decide +kernel) ?_
  refine lv_if_ne hx hb (off := 7) (tgt := 17) (by decide +kernel) (by decide) (fun h => absurd rfl h) (fun _ => ?_)
  refine lv_iconst (n := 1) (v := 1) hx hb (by decide +kernel) (by decide) ?_
  refine lv_goto hx hb (off := 4) (tgt := 18) (by decide +kernel) (by decide) ?_
  exact W.zret hx hb hr rfl (fun t ht _ => ⟨rfl, ht⟩) (fun q h => by cases h) (by decide +kernel) hlocks
set_option maxRecDepth 20000 in
/-- Preconditions.checkIndex: an index that is in -/
theorem z_j_pre (l : Launch) (x n : Int32) (v : Value) (hv1 : v.category = 1) (h0 : ¬ x < 0) (hn : x < n) : Met l yJ3_checkIndex_8e157 (z_wj yJ3_checkIndex_8e157 cJ3_checkIndex_8e157 3 (some .int)) (z_rj 0) (z_PJ b sp S [.int x, .int n, v]) (z_QJ (some (.int x))) 0 0 (fun _ => False) := by
  refine Met.ofW (cc := cJ3_checkIndex_8e157) (maxL := 3) (ret := (some .int)) (by decide) rfl ?_
  intro p e s m args below meth c s₁ B hml hv
  obtain ⟨rfl, hbs, hsp⟩ := hv
  have hx := B.exec
  have hb := B.bytes
  have hr := B.returns
  have hlocks := B.notSynchronized
  have hsl : lg_sl [.int x, .int n, v] = [.val (.int x), .val (.int n), .val v] := by
    cases v <;> first
      | rfl
      | (simp [Value.category] at hv1)
  have hl := lv_entry ([.int x, .int n, v]) (n := 3) (by rw [hsl]; exact Nat.le_refl 3)
  rw [lg_entry_eq]
  generalize (lg_sl ([.int x, .int n, v]) ++ List.replicate (3 - (lg_sl ([.int x, .int n, v])).length) Slot.unset).toArray = ls at hl ⊢
  have e0 : ls[0]? = some (.val (.int x)) := hl.2.2 (0, .int x) (by simp [lv_args])
  have e1 : ls[1]? = some (.val (.int n)) := hl.2.2 (1, .int n) (by simp [lv_args, Value.category])
  refine lv_iload_n hx hb (k := 0) (by decide +kernel) rfl e0 ?_
  refine lv_if_lt hx hb (off := 8) (tgt := 9) (by decide +kernel) (by decide) (fun h => absurd h h0) (fun _ => ?_)
  refine lv_iload_n hx hb (k := 0) (by decide +kernel) rfl e0 ?_
  refine lv_iload_n hx hb (k := 1) (by decide +kernel) rfl e1 ?_
  refine lv_icmp_lt hx hb (off := 10) (tgt := 16) (by decide +kernel) (by decide) (fun _ => ?_) (fun h => absurd hn h)
  refine lv_iload_n hx hb (k := 0) (by decide +kernel) rfl e0 ?_
  exact W.iret hx hb hr (fun t ht _ => ⟨rfl, ht⟩) (fun q h => by cases h) (by decide +kernel) hlocks
set_option maxRecDepth 20000 in
/-- String.checkIndex -/
theorem z_j_chk (l : Launch) (x n : Int32) (h0 : ¬ x < 0) (hn : x < n) : Met l yJ0_checkIndex_df160 (z_wj yJ0_checkIndex_df160 cJ0_checkIndex_df160 2 none) (z_rj 1) (z_PJ b sp S [.int x, .int n]) (z_QJ none) 0 0 (fun _ => False) := by
  refine Met.ofW (cc := cJ0_checkIndex_df160) (maxL := 2) (ret := none) (by decide) rfl ?_
  intro p e s m args below meth c s₁ B hml hv
  obtain ⟨rfl, hbs, hsp⟩ := hv
  have hx := B.exec
  have hb := B.bytes
  have hr := B.returns
  have hts : ∀ w ∈ z_gw, w.before [Value.int x, .int n].toArray s = true := fun w hw => atoms_spec (ws := z_wj yJ0_checkIndex_df160 cJ0_checkIndex_df160 2 none) B.pre w (List.mem_cons_of_mem _ hw)
  have hown : s.vm.findClass RJ0 = some m.cls := findClass_of_methodNamed B.named
  have hlocks := B.notSynchronized
  have hS : va_S (z_A b) s.heap s.heap [] := va_S.rf
  have hsp2 := hsp
  obtain ⟨g1, g2, ⟨adV, g3⟩, g4, g5, g6, g7, g8⟩ := hsp
  have hl := lv_entry ([.int x, .int n]) (n := 2) (Nat.le_of_ble_eq_true rfl)
  rw [lg_entry_eq]
  generalize (lg_sl ([.int x, .int n]) ++ List.replicate (2 - (lg_sl ([.int x, .int n])).length) Slot.unset).toArray = ls at hl ⊢
  have hl : lv_has ls 2 [(0, .int x), (1, .int n)] := hl
  refine lv_iload_n hx hb (k := 0) (by decide +kernel) rfl (lv_at hl 0 rfl) ?_
  refine lv_iload_n hx hb (k := 1) (by decide +kernel) rfl (lv_at hl 1 rfl) ?_
  have hgo : ∀ v : Value, v.category = 1 → W p l e (headSpec (z_wj yJ0_checkIndex_df160 cJ0_checkIndex_df160 2 none) (z_rj 1)).room s m [Value.int x, .int n].toArray below meth c s.heap [] 0 0 (MQ below (z_QJ none) [Value.int x, .int n].toArray s 0 0 (fun _ => False)) (F0 m 5 ls [v, .int n, .int x]) := by
    intro v hv1
    refine z_callJ (va_runS (As := [.int x, .int n, v]) (rest := []) ⟨hx, hb, hml, hown, hts⟩ (z_j_pre (b := b) (sp := sp) (S := S) l x n v hv1 h0 hn) ⟨callB_of 3 hts (z_good (z_wj_in z_cw_J3_checkIndex_8e157)) rfl rfl rfl (hts (.initialized "jdk/internal/util/Preconditions") (z_w_of (by decide +kernel))) (hts (.methodLink RJ0 1059 yJ3_checkIndex_8e157) (z_w_of (by decide +kernel))) (by decide +kernel) ⟨by decide, by decide⟩, hts (.static yJ3_checkIndex_8e157) (z_w_of (by decide +kernel))⟩ ⟨z_blindJ, z_preJ hsp2 hbs hS⟩ rfl rfl hl.1 rfl (lv_room (Nat.le_of_ble_eq_true rfl)) (show decode cJ0_checkIndex_df160 5 = .ok (.invokestatic 1059, 3) by decide +kernel) ⟨Nat.le_refl _, Nat.le_refl _⟩) ?_
    refine lv_pop hx hb (by decide +kernel) rfl ?_
    exact W.vret hx hb hr (fun t ht _ => ⟨rfl, ht⟩) (fun q h => by cases h) (by decide +kernel) hlocks
  rcases g8 with hz | ⟨t, hz⟩
  · refine va_gets hx hb hz hS hown (hts (.fieldLink RJ0 1053 "jdk/internal/util/Preconditions" "SIOOBE_FORMATTER" "Ljava/util/function/BiFunction;") (z_w_of (by decide +kernel))) (fun _ h => h) (by decide +kernel) ?_
    exact hgo .null rfl
  · refine va_gets hx hb hz hS hown (hts (.fieldLink RJ0 1053 "jdk/internal/util/Preconditions" "SIOOBE_FORMATTER" "Ljava/util/function/BiFunction;") (z_w_of (by decide +kernel))) (fun _ h => h) (by decide +kernel) ?_
    exact hgo (.ref t) rfl
theorem z_chr {i : Nat} (hi : i < 3) {x : Int32} (hx : z_in x (z_wlen i) = true) : ((((z_byts.getD i []).getD x.toNatClampNeg 0) &&& (Int16.ofInt 255).toInt32).toUInt32 % 65536).toInt32 = (z_wch i).getD x.toNatClampNeg 0 := by
  have hlt : x.toNatClampNeg < z_wlen i := by
    unfold z_in at hx
    simp only [Bool.not_eq_true', Bool.or_eq_false_iff, decide_eq_false_iff_not, Nat.not_le] at hx
    exact hx.2
  have hall : ∀ i, i < 3 → ∀ j, j < z_wlen i → ((((z_byts.getD i []).getD j 0) &&& (Int16.ofInt 255).toInt32).toUInt32 % 65536).toInt32 = (z_wch i).getD j 0 := by decide +kernel
  exact hall i hi _ hlt
theorem z_chn {i : Nat} (hi : i < 3) {x : Int32} (hx : z_in x (z_wlen i) = true) : narrow .char (.int ((z_wch i).getD x.toNatClampNeg 0)) = .int ((z_wch i).getD x.toNatClampNeg 0) := by
  have hlt : x.toNatClampNeg < z_wlen i := by
    unfold z_in at hx
    simp only [Bool.not_eq_true', Bool.or_eq_false_iff, decide_eq_false_iff_not, Nat.not_le] at hx
    exact hx.2
  have hall : ∀ i, i < 3 → ∀ j, j < z_wlen i → narrow .char (.int ((z_wch i).getD j 0)) = .int ((z_wch i).getD j 0) := by decide +kernel
  exact hall i hi _ hlt
theorem z_cln {i : Nat} (hi : i < 3) : ([4, 5, 5] : List Nat).getD i 0 = z_wlen i := by
  have hall : ∀ i, i < 3 → ([4, 5, 5] : List Nat).getD i 0 = z_wlen i := by decide
  exact hall i hi
theorem z_cli {i : Nat} (hi : i < 3) {x : Int32} (hx : z_in x (z_wlen i) = true) : ¬ x < 0 ∧ x < Int32.ofNat (([4, 5, 5] : List Nat).getD i 0) := by
  rw [z_cln hi]
  obtain ⟨j, hj, rfl⟩ := vp_in_of (z_in_of hx) (by unfold z_wlen; split <;> decide)
  have h5 : z_wlen i ≤ 5 := by unfold z_wlen; split <;> decide
  exact ⟨nI_pos (by omega), nI_lt hj (by omega)⟩
set_option maxRecDepth 20000 in
/-- StringLatin1.charAt -/
theorem z_j_lch (l : Launch) {i q : Nat} (hi : i < 3) {x : Int32} (hxi : z_in x (z_wlen i) = true) (hq : ∀ U : State, z_sp b sp S U U.heap → va_OF "java/lang/String" "value" "[B" (.ref q) (sp (i + 1)) (z_A b) U U.heap → True) : Met l yJ1_charAt_3b067 (z_wj yJ1_charAt_3b067 cJ1_charAt_3b067 2 (some .char)) (z_rj 2) (fun v U => z_PJ b sp S [.ref q, .int x] v U ∧ va_T .byte q (([4, 5, 5] : List Nat).getD i 0) (fun j => .int ((z_byts.getD i []).getD j 0)) (z_A b) U U.heap) (z_QJ (some (.int ((z_wch i).getD x.toNatClampNeg 0)))) 0 0 (fun _ => False) := by
  refine Met.ofW (cc := cJ1_charAt_3b067) (maxL := 2) (ret := (some .char)) (by decide) rfl ?_
  intro p e s m args below meth c s₁ B hml hv
  obtain ⟨⟨rfl, hbs, hsp⟩, k4⟩ := hv
  have hx := B.exec
  have hb := B.bytes
  have hr := B.returns
  have hts : ∀ w ∈ z_gw, w.before [Value.ref q, .int x].toArray s = true := fun w hw => atoms_spec (ws := z_wj yJ1_charAt_3b067 cJ1_charAt_3b067 2 (some .char)) B.pre w (List.mem_cons_of_mem _ hw)
  have hown : s.vm.findClass RJ1 = some m.cls := findClass_of_methodNamed B.named
  have hlocks := B.notSynchronized
  have hS : va_S (z_A b) s.heap s.heap [] := va_S.rf
  have hsp2 := hsp
  obtain ⟨g1, g2, ⟨adV, g3⟩, g4, g5, g6, g7, g8⟩ := hsp
  have hl := lv_entry ([.ref q, .int x]) (n := 2) (Nat.le_of_ble_eq_true rfl)
  rw [lg_entry_eq]
  generalize (lg_sl ([.ref q, .int x]) ++ List.replicate (2 - (lg_sl ([.ref q, .int x])).length) Slot.unset).toArray = ls at hl ⊢
  have hl : lv_has ls 2 [(0, .ref q), (1, .int x)] := hl
  obtain ⟨hc1, hc2⟩ := z_cli hi hxi
  refine lv_iload_n hx hb (k := 1) (by decide +kernel) rfl (lv_at hl 1 rfl) ?_
  refine lv_aload_n hx hb (k := 0) (by decide +kernel) rfl (lv_at hl 0 rfl) ?_
  refine va_tlen hx hb k4 hS rfl (by decide +kernel) ?_
  refine z_callJ (va_runS (As := [.int x, .int (Int32.ofNat (([4, 5, 5] : List Nat).getD i 0))]) (rest := []) ⟨hx, hb, hml, hown, hts⟩ (z_j_chk (b := b) (sp := sp) (S := S) l x (Int32.ofNat (([4, 5, 5] : List Nat).getD i 0)) hc1 hc2) ⟨callB_of 2 hts (z_good (z_wj_in z_cw_J0_checkIndex_df160)) rfl rfl rfl (hts (.initialized yJ0_checkIndex_df160.cls) (z_w_of (by decide +kernel))) (hts (.methodLink RJ1 9 yJ0_checkIndex_df160) (z_w_of (by decide +kernel))) (by decide +kernel) ⟨by decide, by decide⟩, hts (.static yJ0_checkIndex_df160) (z_w_of (by decide +kernel))⟩ ⟨z_blindJ, z_preJ hsp2 hbs hS⟩ rfl rfl hl.1 rfl (lv_room (Nat.le_of_ble_eq_true rfl)) (show decode cJ1_charAt_3b067 3 = .ok (.invokestatic 9, 3) by decide +kernel) ⟨Nat.le_refl _, Nat.le_refl _⟩) ?_
  refine lv_aload_n hx hb (k := 0) (by decide +kernel) rfl (lv_at hl 0 rfl) ?_
  refine lv_iload_n hx hb (k := 1) (by decide +kernel) rfl (lv_at hl 1 rfl) ?_
  refine va_tb hx hb k4 hS (by rw [z_cln hi]; exact z_in_of hxi) rfl (by decide +kernel) ?_
  refine lv_sipush (n := 255) hx hb (by decide +kernel) rfl ?_
  refine lv_iand hx hb (by decide +kernel) ?_
  refine lv_i2c hx hb (by decide +kernel) (z_chr hi hxi) ?_
  exact W.zret hx hb hr (z_chn hi hxi) (fun t ht _ => ⟨rfl, ht⟩) (fun q h => by cases h) (by decide +kernel) hlocks
set_option maxRecDepth 20000 in
/-- String.length() -/
theorem z_j_len (l : Launch) {i : Nat} (hi : i < 3) : Met l yJ0_length_8abf5 (z_wj yJ0_length_8abf5 cJ0_length_8abf5 1 (some .int)) (z_rj 1) (z_PJ b sp S [.ref (sp (i + 1))]) (z_QJ (some (.int (Int32.ofNat (z_wlen i))))) 0 0 (fun _ => False) := by
  refine Met.ofW (cc := cJ0_length_8abf5) (maxL := 1) (ret := (some .int)) (by decide) rfl ?_
  intro p e s m args below meth c s₁ B hml hv
  obtain ⟨rfl, hbs, hsp⟩ := hv
  have hx := B.exec
  have hb := B.bytes
  have hr := B.returns
  have hts : ∀ w ∈ z_gw, w.before [Value.ref (sp (i + 1))].toArray s = true := fun w hw => atoms_spec (ws := z_wj yJ0_length_8abf5 cJ0_length_8abf5 1 (some .int)) B.pre w (List.mem_cons_of_mem _ hw)
  have hown : s.vm.findClass RJ0 = some m.cls := findClass_of_methodNamed B.named
  have hlocks := B.notSynchronized
  have hS : va_S (z_A b) s.heap s.heap [] := va_S.rf
  have hsp2 := hsp
  obtain ⟨g1, g2, ⟨adV, g3⟩, g4, g5, g6, g7, g8⟩ := hsp
  obtain ⟨k1, k2, k3, k4⟩ := g3.1 i hi
  have hl := lv_entry ([.ref (sp (i + 1))]) (n := 1) (Nat.le_of_ble_eq_true rfl)
  rw [lg_entry_eq]
  generalize (lg_sl ([.ref (sp (i + 1))]) ++ List.replicate (1 - (lg_sl ([.ref (sp (i + 1))])).length) Slot.unset).toArray = ls at hl ⊢
  have hl : lv_has ls 1 [(0, .ref (sp (i + 1)))] := hl
  refine lv_aload_n hx hb (k := 0) (by decide +kernel) rfl (lv_at hl 0 rfl) ?_
  refine vk_getf hx hb k3 hS hown (hts (.fieldLink RJ0 9 "java/lang/String" "value" "[B") (z_w_of (by decide +kernel))) (fun _ h => h) (by decide +kernel) ?_
  refine va_tlen hx hb k4 hS rfl (by decide +kernel) ?_
  refine lv_aload_n hx hb (k := 0) (by decide +kernel) rfl (lv_at hl 0 rfl) ?_
  refine z_callJ (va_runV (C := RJ0) (b := sp (i + 1)) (As := []) (rest := [.int (Int32.ofNat (([4, 5, 5] : List Nat).getD i 0))]) ⟨hx, hb, hml, hown, hts⟩ (z_j_coder (b := b) (sp := sp) (S := S) l hi) ⟨callB_of 0 hts (z_good (z_wj_in z_cw_J0_coder_7d493)) rfl rfl rfl (hts (.initialized yJ0_coder_7d493.cls) (z_w_of (by decide +kernel))) (hts (.methodLink RJ0 335 yJ0_coder_7d493) (z_w_of (by decide +kernel))) (by decide +kernel) ⟨by decide, by decide⟩, hts (.instanceMethod yJ0_coder_7d493) (z_w_of (by decide +kernel)), hts (.selects RJ0 yJ0_coder_7d493 yJ0_coder_7d493) (z_w_of (by decide +kernel))⟩ ⟨z_blindJ, vk_recv (i := i) g3 hi hS, z_preJ (as := .ref (sp (i + 1)) :: []) hsp2 hbs hS⟩ rfl rfl hl.1 rfl (lv_room (Nat.le_of_ble_eq_true rfl)) (show decode cJ0_length_8abf5 6 = .ok (.invokevirtual 335, 3) by decide +kernel) ⟨Nat.le_refl _, Nat.le_refl _⟩) ?_
  refine lv_ishr hx hb (by decide +kernel) ?_
  have e9 : Int32.ofNat (([4, 5, 5] : List Nat).getD i 0) >>> ((0 : Int32) &&& 31) = Int32.ofNat (z_wlen i) := by
    have hall : ∀ i, i < 3 → Int32.ofNat (([4, 5, 5] : List Nat).getD i 0) >>> ((0 : Int32) &&& 31) = Int32.ofNat (z_wlen i) := by decide +kernel
    exact hall i hi
  rw [e9]
  exact W.iret hx hb hr (fun t ht _ => ⟨rfl, ht⟩) (fun q h => by cases h) (by decide +kernel) hlocks
set_option maxRecDepth 20000 in
/-- String.charAt -/
theorem z_j_cha (l : Launch) {i : Nat} (hi : i < 3) {x : Int32} (hxi : z_in x (z_wlen i) = true) : Met l yJ0_charAt_5068e (z_wj yJ0_charAt_5068e cJ0_charAt_5068e 2 (some .char)) (z_rj 3) (z_PJ b sp S [.ref (sp (i + 1)), .int x]) (z_QJ (some (.int ((z_wch i).getD x.toNatClampNeg 0)))) 0 0 (fun _ => False) := by
  refine Met.ofW (cc := cJ0_charAt_5068e) (maxL := 2) (ret := (some .char)) (by decide) rfl ?_
  intro p e s m args below meth c s₁ B hml hv
  obtain ⟨rfl, hbs, hsp⟩ := hv
  have hx := B.exec
  have hb := B.bytes
  have hr := B.returns
  have hts : ∀ w ∈ z_gw, w.before [Value.ref (sp (i + 1)), .int x].toArray s = true := fun w hw => atoms_spec (ws := z_wj yJ0_charAt_5068e cJ0_charAt_5068e 2 (some .char)) B.pre w (List.mem_cons_of_mem _ hw)
  have hown : s.vm.findClass RJ0 = some m.cls := findClass_of_methodNamed B.named
  have hlocks := B.notSynchronized
  have hS : va_S (z_A b) s.heap s.heap [] := va_S.rf
  have hsp2 := hsp
  obtain ⟨g1, g2, ⟨adV, g3⟩, g4, g5, g6, g7, g8⟩ := hsp
  obtain ⟨k1, k2, k3, k4⟩ := g3.1 i hi
  have hl := lv_entry ([.ref (sp (i + 1)), .int x]) (n := 2) (Nat.le_of_ble_eq_true rfl)
  rw [lg_entry_eq]
  generalize (lg_sl ([.ref (sp (i + 1)), .int x]) ++ List.replicate (2 - (lg_sl ([.ref (sp (i + 1)), .int x])).length) Slot.unset).toArray = ls at hl ⊢
  have hl : lv_has ls 2 [(0, .ref (sp (i + 1))), (1, .int x)] := hl
  refine lv_aload_n hx hb (k := 0) (by decide +kernel) rfl (lv_at hl 0 rfl) ?_
  refine z_callJ (va_runV (C := RJ0) (b := sp (i + 1)) (As := []) (rest := []) ⟨hx, hb, hml, hown, hts⟩ (z_j_lat (b := b) (sp := sp) (S := S) l hi) ⟨callB_of 0 hts (z_good (z_wj_in z_cw_J0_isLatin1_aae02)) rfl rfl rfl (hts (.initialized yJ0_isLatin1_aae02.cls) (z_w_of (by decide +kernel))) (hts (.methodLink RJ0 492 yJ0_isLatin1_aae02) (z_w_of (by decide +kernel))) (by decide +kernel) ⟨by decide, by decide⟩, hts (.instanceMethod yJ0_isLatin1_aae02) (z_w_of (by decide +kernel)), hts (.selects RJ0 yJ0_isLatin1_aae02 yJ0_isLatin1_aae02) (z_w_of (by decide +kernel))⟩ ⟨z_blindJ, vk_recv (i := i) g3 hi hS, z_preJ (as := .ref (sp (i + 1)) :: []) hsp2 hbs hS⟩ rfl rfl hl.1 rfl (lv_room (Nat.le_of_ble_eq_true rfl)) (show decode cJ0_charAt_5068e 1 = .ok (.invokevirtual 492, 3) by decide +kernel) ⟨Nat.le_refl _, Nat.le_refl _⟩) ?_
  refine lv_if_eq hx hb (off := 12) (tgt := 16) (by decide +kernel) (by decide) (fun h => absurd h (by decide)) (fun _ => ?_)
  refine lv_aload_n hx hb (k := 0) (by decide +kernel) rfl (lv_at hl 0 rfl) ?_
  refine vk_getf hx hb k3 hS hown (hts (.fieldLink RJ0 9 "java/lang/String" "value" "[B") (z_w_of (by decide +kernel))) (fun _ h => h) (by decide +kernel) ?_
  refine lv_iload_n hx hb (k := 1) (by decide +kernel) rfl (lv_at hl 1 rfl) ?_
  refine z_callJ (va_runS (As := [.ref (adV i), .int x]) (rest := []) ⟨hx, hb, hml, hown, hts⟩ (z_j_lch (b := b) (sp := sp) (S := S) (q := adV i) l hi hxi (fun _ _ _ => trivial)) ⟨callB_of 2 hts (z_good (z_wj_in z_cw_J1_charAt_3b067)) rfl rfl rfl (hts (.initialized yJ1_charAt_3b067.cls) (z_w_of (by decide +kernel))) (hts (.methodLink RJ0 495 yJ1_charAt_3b067) (z_w_of (by decide +kernel))) (by decide +kernel) ⟨by decide, by decide⟩, hts (.static yJ1_charAt_3b067) (z_w_of (by decide +kernel))⟩ ⟨fun a U g mk h => ⟨z_blindJ a U g mk h.1, va_T.moved (u := U) (U := U.calling g mk a) (Vm.Alike.refl U.vm) h.2⟩, fun U hU hW => ⟨z_preJ hsp2 hbs hS U hU hW, (va_T.moved hW.alike k4).kept (fun a h1 h2 => by rw [hU])⟩⟩ rfl rfl hl.1 rfl (lv_room (Nat.le_of_ble_eq_true rfl)) (show decode cJ0_charAt_5068e 12 = .ok (.invokestatic 495, 3) by decide +kernel) ⟨Nat.le_refl _, Nat.le_refl _⟩) ?_
  exact W.zret hx hb hr (z_chn hi hxi) (fun t ht _ => ⟨rfl, ht⟩) (fun q h => by cases h) (by decide +kernel) hlocks
end ZJ
theorem z_ad_w {b : Nat} {sp : Nat → Nat} {a : Nat} (h1 : 1001 ≤ a) : z_ad b sp a = sp (a - 1001 + 1) := by
  unfold z_ad
  rw [if_neg (by omega), show a - 1000 = a - 1001 + 1 by omega]
set_option maxRecDepth 20000 in
theorem z_stl : z_STL := by
  intro b sp cA D S p l e R s m args below meth c Q y m0 z0 pc nx a ls st M C hc h1 h2 hr8 hrc hrs k
  intro H locs lsC hW hL hS
  obtain ⟨hx, hb, hml, hown, hts, hK, hsp, hbs, hini, hck, hfr, hlo⟩ := C
  have hr := z_rel_of hck hc
  have hk := k H locs lsC hW hL hS
  simp only [z_rel] at hr
  split at hr
  · rename_i q hq
    simp only [Bool.and_eq_true, decide_eq_true_eq] at hr
    obtain ⟨rfl, w1⟩ := hr
    have hsp2 := hsp
    obtain ⟨g1, g2, ⟨adV, g3⟩, g4, g5, g6, g7, g8⟩ := hsp
    show W p l e R s m args below meth c H locs (M.length - m0) (z_sz M - z0) Q (F0 m pc lsC (.ref (z_ad b sp a) :: st.map (z_v (z_ad b sp))))
    rw [z_ad_w h1]
    refine z_callJ (r := some (.int (Int32.ofNat (z_wlen (a - 1001))))) (va_runV (C := RJ0) (b := sp (a - 1001 + 1)) (As := []) (rest := st.map (z_v (z_ad b sp))) ⟨hx, hb, hml, hown, hts⟩ (z_j_len (b := b) (sp := sp) (S := S) (i := a - 1001) l (by omega)) ⟨callB_of 0 hts (z_good (z_wj_in z_cw_J0_length_8abf5)) rfl rfl rfl (hts (.initialized yJ0_length_8abf5.cls) (z_w_of (by decide +kernel))) (hts (.methodLink (z_mt y).1.cls q yJ0_length_8abf5) (z_w_of w1)) (by decide +kernel) ⟨by show 1 + 1 ≤ _; omega, by show 8 + (1 + 11) + 30 * 1 ≤ _; omega⟩, hts (.instanceMethod yJ0_length_8abf5) (z_w_of (by decide +kernel)), hts (.selects RJ0 yJ0_length_8abf5 yJ0_length_8abf5) (z_w_of (by decide +kernel))⟩ ⟨z_blindJ, vk_recv (i := a - 1001) g3 (by omega) hS, z_preJ (as := [.ref (sp (a - 1001 + 1))]) hsp2 (by omega) hS⟩ rfl rfl hL.1 rfl (lv_room (z_cat_of hr8)) hq ⟨hrc, hrs⟩) ?_
    exact hk
  · cases hr
set_option maxRecDepth 20000 in
theorem z_stc : z_STC := by
  intro b sp cA D S p l e R s m args below meth c Q y m0 z0 pc nx a x ls st M C hc h1 h2 hxi hr8 hrc hrs k
  intro H locs lsC hW hL hS
  obtain ⟨hx, hb, hml, hown, hts, hK, hsp, hbs, hini, hck, hfr, hlo⟩ := C
  have hr := z_rel_of hck hc
  have hk := k H locs lsC hW hL hS
  simp only [z_rel] at hr
  split at hr
  · rename_i q hq
    simp only [Bool.and_eq_true, decide_eq_true_eq] at hr
    obtain ⟨rfl, w1⟩ := hr
    have hsp2 := hsp
    obtain ⟨g1, g2, ⟨adV, g3⟩, g4, g5, g6, g7, g8⟩ := hsp
    show W p l e R s m args below meth c H locs (M.length - m0) (z_sz M - z0) Q (F0 m pc lsC (.int x :: .ref (z_ad b sp a) :: st.map (z_v (z_ad b sp))))
    rw [z_ad_w h1]
    refine z_callJ (r := some (.int ((z_wch (a - 1001)).getD x.toNatClampNeg 0))) (va_runV (C := RJ0) (b := sp (a - 1001 + 1)) (As := [.int x]) (rest := st.map (z_v (z_ad b sp))) ⟨hx, hb, hml, hown, hts⟩ (z_j_cha (b := b) (sp := sp) (S := S) (i := a - 1001) l (by omega) hxi) ⟨callB_of 1 hts (z_good (z_wj_in z_cw_J0_charAt_5068e)) rfl rfl rfl (hts (.initialized yJ0_charAt_5068e.cls) (z_w_of (by decide +kernel))) (hts (.methodLink (z_mt y).1.cls q yJ0_charAt_5068e) (z_w_of w1)) (by decide +kernel) ⟨by show 3 + 1 ≤ _; omega, by show 8 + (2 + 11) + 30 * 3 ≤ _; omega⟩, hts (.instanceMethod yJ0_charAt_5068e) (z_w_of (by decide +kernel)), hts (.selects RJ0 yJ0_charAt_5068e yJ0_charAt_5068e) (z_w_of (by decide +kernel))⟩ ⟨z_blindJ, vk_recv (i := a - 1001) g3 (by omega) hS, z_preJ (as := [.ref (sp (a - 1001 + 1)), .int x]) hsp2 (by omega) hS⟩ rfl rfl hL.1 rfl (lv_room (z_cat_of hr8)) hq ⟨hrc, hrs⟩) ?_
    exact hk
  · cases hr
