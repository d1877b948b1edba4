theorem z_cl {ci : Nat} (h : ci < 7) : vwCl[ci]? = some ((z_cls ci).1, (z_cls ci).2.1, (z_cls ci).2.2) := by
  match ci, h with
  | 0, _ => rfl
  | 1, _ => rfl
  | 2, _ => rfl
  | 3, _ => rfl
  | 4, _ => rfl
  | 5, _ => rfl
  | 6, _ => rfl
theorem z_inc0 : (u_ws RX0 TX0 5).all z_w = true := by decide +kernel
theorem z_inc1 : (u_ws RX1 TX1 9).all z_w = true := by decide +kernel
theorem z_inc2 : (u_ws RX2 TX2 7).all z_w = true := by decide +kernel
theorem z_inc3 : (u_ws RX3 TX3 9).all z_w = true := by decide +kernel
theorem z_inc4 : (u_ws RX4 TX4 10).all z_w = true := by decide +kernel
theorem z_inc5 : (u_ws RX5 TX5 8).all z_w = true := by decide +kernel
theorem z_inc6 : (u_ws RX6 TX6 25).all z_w = true := by decide +kernel
theorem z_inc {ci : Nat} (h : ci < 7) : ∀ w ∈ u_ws (z_cls ci).1 (z_cls ci).2.1 (z_cls ci).2.2, w ∈ z_gw := by
  intro w hw
  match ci, h with
  | 0, _ => exact z_w_of (List.all_eq_true.mp z_inc0 w hw)
  | 1, _ => exact z_w_of (List.all_eq_true.mp z_inc1 w hw)
  | 2, _ => exact z_w_of (List.all_eq_true.mp z_inc2 w hw)
  | 3, _ => exact z_w_of (List.all_eq_true.mp z_inc3 w hw)
  | 4, _ => exact z_w_of (List.all_eq_true.mp z_inc4 w hw)
  | 5, _ => exact z_w_of (List.all_eq_true.mp z_inc5 w hw)
  | 6, _ => exact z_w_of (List.all_eq_true.mp z_inc6 w hw)
theorem z_tyk {ci : Nat} (h : ci < 7) : ∀ k, k < (z_cls ci).2.2 → parseFieldDescriptor ((z_cls ci).2.1 k).2.2.1 = some (z_fty ci k) := by
  match ci, h with
  | 0, _ => exact tyX0_ok
  | 1, _ => exact tyX1_ok
  | 2, _ => exact tyX2_ok
  | 3, _ => exact tyX3_ok
  | 4, _ => exact tyX4_ok
  | 5, _ => exact tyX5_ok
  | 6, _ => exact tyX6_ok
theorem z_nmk {ci : Nat} (h : ci < 7) : ∀ a, a < (z_cls ci).2.2 → ∀ b, b < (z_cls ci).2.2 → a ≠ b → ((z_cls ci).2.1 a).2.1 ≠ ((z_cls ci).2.1 b).2.1 := by
  match ci, h with
  | 0, _ => exact nmX0
  | 1, _ => exact nmX1
  | 2, _ => exact nmX2
  | 3, _ => exact nmX3
  | 4, _ => exact nmX4
  | 5, _ => exact nmX5
  | 6, _ => exact nmX6
theorem z_fit_of {t : FieldType} {v : Value} {ad : Nat → Nat} (h : z_fit t v = true) : narrow t (z_v ad v) = z_v ad v ∧ fits t (z_v ad v) = true := by
  unfold z_fit at h
  split at h
  · exact ⟨rfl, rfl⟩
  · exact ⟨rfl, rfl⟩
  · exact ⟨rfl, rfl⟩
  · exact ⟨rfl, rfl⟩
  · cases h
theorem z_lt9 {M : ZM} {a : Nat} {x : ZE} (h : M[a]? = some x) (h9 : M.length ≤ 900) : a < 1000 := by
  have := (List.getElem?_eq_some_iff.mp h).1
  omega
theorem z_S_up {b m0 : Nat} {s : State} (hbs : s.heap.size = b + m0) : ∀ q, s.heap.size ≤ q → z_A b q := fun q h => Nat.le_trans (by omega) h
theorem z_wd.set {b : Nat} {sp : Nat → Nat} {cA : Nat → ClassId} {D : va_G} {M : ZM} {H H1 : Heap} {a : Nat} {x : ZE} (h : z_wd b sp cA D M H) (hP : va_P D vwCl ((z_ws b sp cA M).set a (b + a, z_e (z_ad b sp) cA x)) H1) : z_wd b sp cA D (M.set a x) H1 := ⟨by rw [List.length_set]; exact h.1, by rw [z_ws_set]; exact hP⟩
theorem z_size {b : Nat} {sp : Nat → Nat} {cA : Nat → ClassId} {D : va_G} {M : ZM} {H : Heap} (h : z_wd b sp cA D M H) (hb : b ≤ H.size) : b + M.length ≤ H.size := by
  by_cases h0 : M.length = 0
  · omega
  · cases hm : M[M.length - 1]? with
    | none =>
      have := List.getElem?_eq_none_iff.mp hm
      omega
    | some x =>
      have := (h.2 _ _ (z_ws_at hm)).lt
      have h2 : b + (M.length - 1) < H.size := this
      omega
theorem z_dfl_ok {ci j : Nat} {ad : Nat → Nat} (hci : ci < 7) (hj : j < (z_cls ci).2.2) : defaultValue (z_fty ci j) = z_v ad (z_dfl (z_fty ci j)) := by
  have h1 : (match z_fty ci j with
    | .int => true
    | .long => true
    | .object _ => true
    | .array _ => true
    | _ => false) = true := by
    match ci, hci with
    | 0, _ => exact (by decide +kernel : ∀ j, j < 5 → (match tyX0 j with | .int => true | .long => true | .object _ => true | .array _ => true | _ => false) = true) j hj
    | 1, _ => exact (by decide +kernel : ∀ j, j < 9 → (match tyX1 j with | .int => true | .long => true | .object _ => true | .array _ => true | _ => false) = true) j hj
    | 2, _ => exact (by decide +kernel : ∀ j, j < 7 → (match tyX2 j with | .int => true | .long => true | .object _ => true | .array _ => true | _ => false) = true) j hj
    | 3, _ => exact (by decide +kernel : ∀ j, j < 9 → (match tyX3 j with | .int => true | .long => true | .object _ => true | .array _ => true | _ => false) = true) j hj
    | 4, _ => exact (by decide +kernel : ∀ j, j < 10 → (match tyX4 j with | .int => true | .long => true | .object _ => true | .array _ => true | _ => false) = true) j hj
    | 5, _ => exact (by decide +kernel : ∀ j, j < 8 → (match tyX5 j with | .int => true | .long => true | .object _ => true | .array _ => true | _ => false) = true) j hj
    | 6, _ => exact (by decide +kernel : ∀ j, j < 25 → (match tyX6 j with | .int => true | .long => true | .object _ => true | .array _ => true | _ => false) = true) j hj
  cases hf : z_fty ci j <;> rw [hf] at h1 <;> first | rfl | cases h1
theorem z_fl_of {own : String} {q n : Nat} (h : z_fl own q n = true) : n / 32 < 7 ∧ n % 32 < (z_cls (n / 32)).2.2 ∧ Cond.fieldLink own q ((z_cls (n / 32)).2.1 (n % 32)).1 ((z_cls (n / 32)).2.1 (n % 32)).2.1 ((z_cls (n / 32)).2.1 (n % 32)).2.2.1 ∈ z_gw := by
  unfold z_fl at h
  simp only [Bool.and_eq_true, decide_eq_true_eq] at h
  exact ⟨h.1.1, h.1.2, z_w_of h.2⟩
section ZST
variable {b : Nat} {sp : Nat → Nat} {cA : Nat → ClassId} {D : va_G} {S : ZS} {p : Program} {l : Launch} {e : Env} {R : Room} {s : State} {m : MethodId} {args : Array Value} {below : List Frame} {meth : Method} {c : Code} {Q : State → Prop} {y m0 z0 : Nat}
variable {pc nx : Nat} {ls : ZL} {st : List Value} {M : ZM}

theorem z_s_getf (C : z_cx b sp cA D S p R s m args meth c y m0) {n a ci : Nat} {fs : List Value} {v : Value} (hM : M[a]? = some (.inl (ci, fs))) (hci : ci = n / 32) (hf : fs[n % 32]? = some v) (hc : z_code y pc = some (nx, .getfield n)) (k : z_K b sp cA D p l e R s m args below meth c Q y m0 z0 nx ls (v :: st) M) : z_K b sp cA D p l e R s m args below meth c Q y m0 z0 pc ls (.ref a :: st) M := by
  intro H locs lsC hW hL hS
  obtain ⟨hx, hb, hml, hown, hts, hK, hsp, hbs, hini, hck, hfr, hlo⟩ := C
  have hr := z_rel_of hck hc
  have hk := k H locs lsC hW hL hS
  simp only [z_rel] at hr
  split at hr
  · rename_i q hq
    simp only [Bool.and_eq_true, decide_eq_true_eq] at hr
    obtain ⟨rfl, hv⟩ := hr
    obtain ⟨h1, h2, h3⟩ := z_fl_of hv
    have ha : z_ad b sp a = b + a := z_ad_lo (z_lt9 hM hW.1)
    show W p l e R s m args below meth c H locs (M.length - m0) (z_sz M - z0) Q (F0 m pc lsC (.ref (z_ad b sp a) :: st.map (z_v (z_ad b sp))))
    rw [ha]
    have hfs : (fs.map (z_v (z_ad b sp)))[n % 32]? = some (z_v (z_ad b sp) v) := by rw [List.getElem?_map, hf]; rfl
    subst hci
    exact va_get hx hb hts (z_inc h1) hown hK hW.2 a (z_ws_at hM) (z_cl h1) (n % 32) h2 (hts _ h3) (fun _ h => h) hfs hq hk
  · cases hr
theorem z_s_putf (C : z_cx b sp cA D S p R s m args meth c y m0) {n a ci : Nat} {fs : List Value} {v : Value} (hM : M[a]? = some (.inl (ci, fs))) (hci : ci = n / 32) (hf : n % 32 < fs.length) (hfit : z_fit (z_fty ci (n % 32)) v = true) (hfi : z_fin ci (n % 32) = false ∨ z_ini y ci = true) (hc : z_code y pc = some (nx, .putfield n)) (k : z_K b sp cA D p l e R s m args below meth c Q y m0 z0 nx ls st (M.set a (.inl (ci, fs.set (n % 32) v)))) : z_K b sp cA D p l e R s m args below meth c Q y m0 z0 pc ls (v :: .ref a :: st) M := by
  intro H locs lsC hW hL hS
  obtain ⟨hx, hb, hml, hown, hts, hK, hsp, hbs, hini, hck, hfr, hlo⟩ := C
  have hr := z_rel_of hck hc
  simp only [z_rel] at hr
  split at hr
  · rename_i q hq
    simp only [Bool.and_eq_true, decide_eq_true_eq] at hr
    obtain ⟨⟨⟨rfl, hv⟩, hd⟩, hf2⟩ := hr
    obtain ⟨h1, h2, h3⟩ := z_fl_of hv
    have ha : z_ad b sp a = b + a := z_ad_lo (z_lt9 hM hW.1)
    show W p l e R s m args below meth c H locs (M.length - m0) (z_sz M - z0) Q (F0 m pc lsC (z_v (z_ad b sp) v :: .ref (z_ad b sp a) :: st.map (z_v (z_ad b sp))))
    rw [ha]
    subst hci
    obtain ⟨hn1, hn2⟩ := z_fit_of (ad := z_ad b sp) hfit
    have hz1 : (M.set a (.inl (n / 32, fs.set (n % 32) v))).length = M.length := List.length_set
    have hz2 : z_sz (M.set a (.inl (n / 32, fs.set (n % 32) v))) = z_sz M := z_sz_set M a _ _ hM rfl
    have hgo : ∀ (H1 : Heap) (locs1 : List Loc), va_P D vwCl ((z_ws b sp cA M).set a (b + a, .inr (n / 32, (fs.map (z_v (z_ad b sp))).set (n % 32) (z_v (z_ad b sp) v)))) H1 → va_D (z_A b) ((z_ws b sp cA M).set a (b + a, .inr (n / 32, (fs.map (z_v (z_ad b sp))).set (n % 32) (z_v (z_ad b sp) v)))) → va_S (z_A b) s.heap H1 locs1 → W p l e R s m args below meth c H1 locs1 (M.length - m0) (z_sz M - z0) Q (F0 m (pc + 3) lsC (st.map (z_v (z_ad b sp)))) := by
      intro H1 locs1 hP _ hS1
      have := k H1 locs1 lsC (hW.set (by show va_P D vwCl (List.set _ a (b + a, .inr (n / 32, (fs.set (n % 32) v).map (z_v (z_ad b sp))))) H1; rw [List.map_set]; exact hP)) hL hS1
      rw [hz1, hz2] at this
      exact this
    have hne : (fs.map (z_v (z_ad b sp))).length = fs.length := List.length_map _
    cases hfin : z_fin (n / 32) (n % 32) with
    | false => exact va_put hx hb hts (z_inc h1) (z_fty (n / 32)) (z_tyk h1) (z_nmk h1) hown hK hW.2 (z_D b sp cA M) hS a (z_ws_at hM) (z_cl h1) (n % 32) h2 (hts _ h3) (fun _ h => h) hfin hd hn1 hn2 (by rw [hne]; exact hf) hq hgo
    | true =>
      have hi : z_ini y (n / 32) = true := hfi.resolve_left (by rw [hfin]; exact fun h => by cases h)
      unfold z_ini at hi
      simp only [Bool.and_eq_true, decide_eq_true_eq] at hi
      rw [hfin] at hf2
      simp only [Bool.not_true, Bool.false_or, Bool.or_eq_true, decide_eq_true_eq] at hf2
      have hf3 : ((z_cls (n / 32)).2.1 (n % 32)).1 = (z_mt y).1.cls := by
        first
          | exact hf2
          | exact hf2.resolve_left (fun h => by cases h)
      exact va_putF hx hb hts (z_inc h1) (z_fty (n / 32)) (z_tyk h1) (z_nmk h1) hown hK hW.2 (z_D b sp cA M) hS a (z_ws_at hM) (z_cl h1) (n % 32) h2 (hts _ h3) (fun _ h => h) hfin (hini hi.1) hf3 hd hn1 hn2 (by rw [hne]; exact hf) hq hgo
  · cases hr
theorem z_s_iald (C : z_cx b sp cA D S p R s m args meth c y m0) {a n : Nat} {f : Nat → Int32} {i : Int32} (hM : M[a]? = some (.inr (0, n, .inl f))) (hi : z_in i n = true) (hc : z_code y pc = some (nx, .iaload)) (k : z_K b sp cA D p l e R s m args below meth c Q y m0 z0 nx ls (.int (f i.toNatClampNeg) :: st) M) : z_K b sp cA D p l e R s m args below meth c Q y m0 z0 pc ls (.int i :: .ref a :: st) M := by
  intro H locs lsC hW hL hS
  obtain ⟨hx, hb, hml, hown, hts, hK, hsp, hbs, hini, hck, hfr, hlo⟩ := C
  have hr := z_rel_of hck hc
  have hk := k H locs lsC hW hL hS
  obtain ⟨hd, rfl⟩ := z_dq_of hr
  have ha : z_ad b sp a = b + a := z_ad_lo (z_lt9 hM hW.1)
  show W p l e R s m args below meth c H locs (M.length - m0) (z_sz M - z0) Q (F0 m pc lsC (.int i :: .ref (z_ad b sp a) :: st.map (z_v (z_ad b sp))))
  rw [ha]
  exact va_iald hx hb hK hW.2 a 0 (z_ws_at hM) rfl (z_in_of hi) hd hk
theorem z_s_bald (C : z_cx b sp cA D S p R s m args meth c y m0) {a n : Nat} {f : Nat → Int32} {i : Int32} (hM : M[a]? = some (.inr (1, n, .inl f))) (hi : z_in i n = true) (hc : z_code y pc = some (nx, .baload)) (k : z_K b sp cA D p l e R s m args below meth c Q y m0 z0 nx ls (.int (f i.toNatClampNeg) :: st) M) : z_K b sp cA D p l e R s m args below meth c Q y m0 z0 pc ls (.int i :: .ref a :: st) M := by
  intro H locs lsC hW hL hS
  obtain ⟨hx, hb, hml, hown, hts, hK, hsp, hbs, hini, hck, hfr, hlo⟩ := C
  have hr := z_rel_of hck hc
  have hk := k H locs lsC hW hL hS
  obtain ⟨hd, rfl⟩ := z_dq_of hr
  have ha : z_ad b sp a = b + a := z_ad_lo (z_lt9 hM hW.1)
  show W p l e R s m args below meth c H locs (M.length - m0) (z_sz M - z0) Q (F0 m pc lsC (.int i :: .ref (z_ad b sp a) :: st.map (z_v (z_ad b sp))))
  rw [ha]
  exact va_bald hx hb hK hW.2 a 1 (z_ws_at hM) rfl (z_in_of hi) hd hk
theorem z_s_zald (C : z_cx b sp cA D S p R s m args meth c y m0) {a n : Nat} {f : Nat → Int32} {i : Int32} (hM : M[a]? = some (.inr (2, n, .inl f))) (hi : z_in i n = true) (hc : z_code y pc = some (nx, .baload)) (k : z_K b sp cA D p l e R s m args below meth c Q y m0 z0 nx ls (.int (f i.toNatClampNeg) :: st) M) : z_K b sp cA D p l e R s m args below meth c Q y m0 z0 pc ls (.int i :: .ref a :: st) M := by
  intro H locs lsC hW hL hS
  obtain ⟨hx, hb, hml, hown, hts, hK, hsp, hbs, hini, hck, hfr, hlo⟩ := C
  have hr := z_rel_of hck hc
  have hk := k H locs lsC hW hL hS
  obtain ⟨hd, rfl⟩ := z_dq_of hr
  have ha : z_ad b sp a = b + a := z_ad_lo (z_lt9 hM hW.1)
  show W p l e R s m args below meth c H locs (M.length - m0) (z_sz M - z0) Q (F0 m pc lsC (.int i :: .ref (z_ad b sp a) :: st.map (z_v (z_ad b sp))))
  rw [ha]
  exact va_zald hx hb hK hW.2 a 2 (z_ws_at hM) rfl (z_in_of hi) hd hk
theorem z_s_lald (C : z_cx b sp cA D S p R s m args meth c y m0) {a n : Nat} {f : Nat → Int64} {i : Int32} (hM : M[a]? = some (.inr (3, n, .inr (.inl f)))) (hi : z_in i n = true) (hc : z_code y pc = some (nx, .laload)) (k : z_K b sp cA D p l e R s m args below meth c Q y m0 z0 nx ls (.long (f i.toNatClampNeg) :: st) M) : z_K b sp cA D p l e R s m args below meth c Q y m0 z0 pc ls (.int i :: .ref a :: st) M := by
  intro H locs lsC hW hL hS
  obtain ⟨hx, hb, hml, hown, hts, hK, hsp, hbs, hini, hck, hfr, hlo⟩ := C
  have hr := z_rel_of hck hc
  have hk := k H locs lsC hW hL hS
  obtain ⟨hd, rfl⟩ := z_dq_of hr
  have ha : z_ad b sp a = b + a := z_ad_lo (z_lt9 hM hW.1)
  show W p l e R s m args below meth c H locs (M.length - m0) (z_sz M - z0) Q (F0 m pc lsC (.int i :: .ref (z_ad b sp a) :: st.map (z_v (z_ad b sp))))
  rw [ha]
  exact va_lald hx hb hK hW.2 a 3 (z_ws_at hM) rfl (z_in_of hi) hd hk
theorem z_s_ald4 (C : z_cx b sp cA D S p R s m args meth c y m0) {a n : Nat} {f : Nat → Option Nat} {i : Int32} (hM : M[a]? = some (.inr (4, n, .inr (.inr f)))) (hi : z_in i n = true) (hc : z_code y pc = some (nx, .aaload)) (k : z_K b sp cA D p l e R s m args below meth c Q y m0 z0 nx ls (va_rf (f i.toNatClampNeg) :: st) M) : z_K b sp cA D p l e R s m args below meth c Q y m0 z0 pc ls (.int i :: .ref a :: st) M := by
  intro H locs lsC hW hL hS
  obtain ⟨hx, hb, hml, hown, hts, hK, hsp, hbs, hini, hck, hfr, hlo⟩ := C
  have hr := z_rel_of hck hc
  have hk := k H locs lsC hW hL hS
  obtain ⟨hd, rfl⟩ := z_dq_of hr
  have ha : z_ad b sp a = b + a := z_ad_lo (z_lt9 hM hW.1)
  show W p l e R s m args below meth c H locs (M.length - m0) (z_sz M - z0) Q (F0 m pc lsC (.int i :: .ref (z_ad b sp a) :: st.map (z_v (z_ad b sp))))
  rw [ha]
  refine va_aldq hx hb hK hW.2 a 4 (z_ws_at hM) rfl (z_in_of hi) hd ?_
  have e : va_rf ((f i.toNatClampNeg).map (z_ad b sp)) = z_v (z_ad b sp) (va_rf (f i.toNatClampNeg)) := by cases f i.toNatClampNeg <;> rfl
  rw [e]
  exact hk
theorem z_s_ald5 (C : z_cx b sp cA D S p R s m args meth c y m0) {a n : Nat} {f : Nat → Option Nat} {i : Int32} (hM : M[a]? = some (.inr (5, n, .inr (.inr f)))) (hi : z_in i n = true) (hc : z_code y pc = some (nx, .aaload)) (k : z_K b sp cA D p l e R s m args below meth c Q y m0 z0 nx ls (va_rf (f i.toNatClampNeg) :: st) M) : z_K b sp cA D p l e R s m args below meth c Q y m0 z0 pc ls (.int i :: .ref a :: st) M := by
  intro H locs lsC hW hL hS
  obtain ⟨hx, hb, hml, hown, hts, hK, hsp, hbs, hini, hck, hfr, hlo⟩ := C
  have hr := z_rel_of hck hc
  have hk := k H locs lsC hW hL hS
  obtain ⟨hd, rfl⟩ := z_dq_of hr
  have ha : z_ad b sp a = b + a := z_ad_lo (z_lt9 hM hW.1)
  show W p l e R s m args below meth c H locs (M.length - m0) (z_sz M - z0) Q (F0 m pc lsC (.int i :: .ref (z_ad b sp a) :: st.map (z_v (z_ad b sp))))
  rw [ha]
  refine va_aldq hx hb hK hW.2 a 5 (z_ws_at hM) rfl (z_in_of hi) hd ?_
  have e : va_rf ((f i.toNatClampNeg).map (z_ad b sp)) = z_v (z_ad b sp) (va_rf (f i.toNatClampNeg)) := by cases f i.toNatClampNeg <;> rfl
  rw [e]
  exact hk
theorem z_s_iast (C : z_cx b sp cA D S p R s m args meth c y m0) {a n : Nat} {f : Nat → Int32} {i : Int32} {x : Int32} (hM : M[a]? = some (.inr (0, n, .inl f))) (hi : z_in i n = true) (hc : z_code y pc = some (nx, .iastore)) (k : z_K b sp cA D p l e R s m args below meth c Q y m0 z0 nx ls st (M.set a (.inr (0, n, .inl (upd f i.toNatClampNeg x))))) : z_K b sp cA D p l e R s m args below meth c Q y m0 z0 pc ls (.int x :: .int i :: .ref a :: st) M := by
  intro H locs lsC hW hL hS
  obtain ⟨hx, hb, hml, hown, hts, hK, hsp, hbs, hini, hck, hfr, hlo⟩ := C
  have hr := z_rel_of hck hc
  obtain ⟨hd, rfl⟩ := z_dq_of hr
  have ha : z_ad b sp a = b + a := z_ad_lo (z_lt9 hM hW.1)
  show W p l e R s m args below meth c H locs (M.length - m0) (z_sz M - z0) Q (F0 m pc lsC (.int x :: .int i :: .ref (z_ad b sp a) :: st.map (z_v (z_ad b sp))))
  rw [ha]
  refine va_iast hx hb hK hW.2 (z_D b sp cA M) hS a 0 (z_ws_at hM) rfl (z_in_of hi) hd (fun H1 locs1 hP _ hS1 => ?_)
  have := k H1 locs1 lsC (hW.set hP) hL hS1
  rw [List.length_set, z_sz_set M a (.inr (0, n, .inl (upd f i.toNatClampNeg x))) _ hM rfl] at this
  exact this
theorem z_s_bast (C : z_cx b sp cA D S p R s m args meth c y m0) {a n : Nat} {f : Nat → Int32} {i : Int32} {x : Int32} (hM : M[a]? = some (.inr (1, n, .inl f))) (hi : z_in i n = true) (hc : z_code y pc = some (nx, .bastore)) (k : z_K b sp cA D p l e R s m args below meth c Q y m0 z0 nx ls st (M.set a (.inr (1, n, .inl (upd f i.toNatClampNeg (vp_nar .byte x)))))) : z_K b sp cA D p l e R s m args below meth c Q y m0 z0 pc ls (.int x :: .int i :: .ref a :: st) M := by
  intro H locs lsC hW hL hS
  obtain ⟨hx, hb, hml, hown, hts, hK, hsp, hbs, hini, hck, hfr, hlo⟩ := C
  have hr := z_rel_of hck hc
  obtain ⟨hd, rfl⟩ := z_dq_of hr
  have ha : z_ad b sp a = b + a := z_ad_lo (z_lt9 hM hW.1)
  show W p l e R s m args below meth c H locs (M.length - m0) (z_sz M - z0) Q (F0 m pc lsC (.int x :: .int i :: .ref (z_ad b sp a) :: st.map (z_v (z_ad b sp))))
  rw [ha]
  refine va_bast hx hb hK hW.2 (z_D b sp cA M) hS a 1 (z_ws_at hM) rfl (z_in_of hi) hd (fun H1 locs1 hP _ hS1 => ?_)
  have := k H1 locs1 lsC (hW.set hP) hL hS1
  rw [List.length_set, z_sz_set M a (.inr (1, n, .inl (upd f i.toNatClampNeg (vp_nar .byte x)))) _ hM rfl] at this
  exact this
theorem z_s_zast (C : z_cx b sp cA D S p R s m args meth c y m0) {a n : Nat} {f : Nat → Int32} {i : Int32} {x : Int32} (hM : M[a]? = some (.inr (2, n, .inl f))) (hi : z_in i n = true) (hc : z_code y pc = some (nx, .bastore)) (k : z_K b sp cA D p l e R s m args below meth c Q y m0 z0 nx ls st (M.set a (.inr (2, n, .inl (upd f i.toNatClampNeg (vp_nar .boolean x)))))) : z_K b sp cA D p l e R s m args below meth c Q y m0 z0 pc ls (.int x :: .int i :: .ref a :: st) M := by
  intro H locs lsC hW hL hS
  obtain ⟨hx, hb, hml, hown, hts, hK, hsp, hbs, hini, hck, hfr, hlo⟩ := C
  have hr := z_rel_of hck hc
  obtain ⟨hd, rfl⟩ := z_dq_of hr
  have ha : z_ad b sp a = b + a := z_ad_lo (z_lt9 hM hW.1)
  show W p l e R s m args below meth c H locs (M.length - m0) (z_sz M - z0) Q (F0 m pc lsC (.int x :: .int i :: .ref (z_ad b sp a) :: st.map (z_v (z_ad b sp))))
  rw [ha]
  refine va_zast hx hb hK hW.2 (z_D b sp cA M) hS a 2 (z_ws_at hM) rfl (z_in_of hi) hd (fun H1 locs1 hP _ hS1 => ?_)
  have := k H1 locs1 lsC (hW.set hP) hL hS1
  rw [List.length_set, z_sz_set M a (.inr (2, n, .inl (upd f i.toNatClampNeg (vp_nar .boolean x)))) _ hM rfl] at this
  exact this
theorem z_s_last (C : z_cx b sp cA D S p R s m args meth c y m0) {a n : Nat} {f : Nat → Int64} {i : Int32} {x : Int64} (hM : M[a]? = some (.inr (3, n, .inr (.inl f)))) (hi : z_in i n = true) (hc : z_code y pc = some (nx, .lastore)) (k : z_K b sp cA D p l e R s m args below meth c Q y m0 z0 nx ls st (M.set a (.inr (3, n, .inr (.inl (vp_updL f i.toNatClampNeg x)))))) : z_K b sp cA D p l e R s m args below meth c Q y m0 z0 pc ls (.long x :: .int i :: .ref a :: st) M := by
  intro H locs lsC hW hL hS
  obtain ⟨hx, hb, hml, hown, hts, hK, hsp, hbs, hini, hck, hfr, hlo⟩ := C
  have hr := z_rel_of hck hc
  obtain ⟨hd, rfl⟩ := z_dq_of hr
  have ha : z_ad b sp a = b + a := z_ad_lo (z_lt9 hM hW.1)
  show W p l e R s m args below meth c H locs (M.length - m0) (z_sz M - z0) Q (F0 m pc lsC (.long x :: .int i :: .ref (z_ad b sp a) :: st.map (z_v (z_ad b sp))))
  rw [ha]
  refine va_last hx hb hK hW.2 (z_D b sp cA M) hS a 3 (z_ws_at hM) rfl (z_in_of hi) hd (fun H1 locs1 hP _ hS1 => ?_)
  have := k H1 locs1 lsC (hW.set hP) hL hS1
  rw [List.length_set, z_sz_set M a (.inr (3, n, .inr (.inl (vp_updL f i.toNatClampNeg x)))) _ hM rfl] at this
  exact this
theorem z_s_ast4 (C : z_cx b sp cA D S p R s m args meth c y m0) {a n x : Nat} {f : Nat → Option Nat} {i : Int32} {fs : List Value} (hM : M[a]? = some (.inr (4, n, .inr (.inr f)))) (hX : M[x]? = some (.inl (0, fs))) (hi : z_in i n = true) (hc : z_code y pc = some (nx, .aastore)) (k : z_K b sp cA D p l e R s m args below meth c Q y m0 z0 nx ls st (M.set a (.inr (4, n, .inr (.inr (va_up f i.toNatClampNeg (some x))))))) : z_K b sp cA D p l e R s m args below meth c Q y m0 z0 pc ls (.ref x :: .int i :: .ref a :: st) M := by
  intro H locs lsC hW hL hS
  obtain ⟨hx, hb, hml, hown, hts, hK, hsp, hbs, hini, hck, hfr, hlo⟩ := C
  have hr := z_rel_of hck hc
  obtain ⟨hd, rfl⟩ := z_dq_of hr
  have hx2 : z_ad b sp x = b + x := z_ad_lo (z_lt9 hX hW.1)
  have ha : z_ad b sp a = b + a := z_ad_lo (z_lt9 hM hW.1)
  show W p l e R s m args below meth c H locs (M.length - m0) (z_sz M - z0) Q (F0 m pc lsC (.ref (z_ad b sp x) :: .int i :: .ref (z_ad b sp a) :: st.map (z_v (z_ad b sp))))
  rw [ha]
  rw [hx2]
  refine va_astq hx hb hK hW.2 (z_D b sp cA M) hS a 4 x 0 (r := (z_cls 0)) (z_ws_at hM) rfl (z_ws_at hX) rfl (z_in_of hi) hd (fun H1 locs1 hP _ hS1 => ?_)
  have e : va_up (fun j => (f j).map (z_ad b sp)) i.toNatClampNeg (some (b + x)) = fun j => (va_up f i.toNatClampNeg (some x) j).map (z_ad b sp) := by
    funext j
    unfold va_up
    split
    · show some (b + x) = some (z_ad b sp x)
      rw [hx2]
    · rfl
  have hP : va_P D vwCl ((z_ws b sp cA M).set a (b + a, .inl (cA 4, n, .inr (.inr (.inr (.inr (va_up (fun j => (f j).map (z_ad b sp)) i.toNatClampNeg (some (b + x))))))))) H1 := hP
  rw [e] at hP
  have := k H1 locs1 lsC (hW.set hP) hL hS1
  rw [List.length_set, z_sz_set M a (.inr (4, n, .inr (.inr (va_up f i.toNatClampNeg (some x))))) _ hM rfl] at this
  exact this
theorem z_s_ast5 (C : z_cx b sp cA D S p R s m args meth c y m0) {a n x : Nat} {f : Nat → Option Nat} {i : Int32} {fs : List Value} (hM : M[a]? = some (.inr (5, n, .inr (.inr f)))) (hX : M[x]? = some (.inl (2, fs))) (hi : z_in i n = true) (hc : z_code y pc = some (nx, .aastore)) (k : z_K b sp cA D p l e R s m args below meth c Q y m0 z0 nx ls st (M.set a (.inr (5, n, .inr (.inr (va_up f i.toNatClampNeg (some x))))))) : z_K b sp cA D p l e R s m args below meth c Q y m0 z0 pc ls (.ref x :: .int i :: .ref a :: st) M := by
  intro H locs lsC hW hL hS
  obtain ⟨hx, hb, hml, hown, hts, hK, hsp, hbs, hini, hck, hfr, hlo⟩ := C
  have hr := z_rel_of hck hc
  obtain ⟨hd, rfl⟩ := z_dq_of hr
  have hx2 : z_ad b sp x = b + x := z_ad_lo (z_lt9 hX hW.1)
  have ha : z_ad b sp a = b + a := z_ad_lo (z_lt9 hM hW.1)
  show W p l e R s m args below meth c H locs (M.length - m0) (z_sz M - z0) Q (F0 m pc lsC (.ref (z_ad b sp x) :: .int i :: .ref (z_ad b sp a) :: st.map (z_v (z_ad b sp))))
  rw [ha]
  rw [hx2]
  refine va_astq hx hb hK hW.2 (z_D b sp cA M) hS a 5 x 2 (r := (z_cls 2)) (z_ws_at hM) rfl (z_ws_at hX) rfl (z_in_of hi) hd (fun H1 locs1 hP _ hS1 => ?_)
  have e : va_up (fun j => (f j).map (z_ad b sp)) i.toNatClampNeg (some (b + x)) = fun j => (va_up f i.toNatClampNeg (some x) j).map (z_ad b sp) := by
    funext j
    unfold va_up
    split
    · show some (b + x) = some (z_ad b sp x)
      rw [hx2]
    · rfl
  have hP : va_P D vwCl ((z_ws b sp cA M).set a (b + a, .inl (cA 5, n, .inr (.inr (.inr (.inr (va_up (fun j => (f j).map (z_ad b sp)) i.toNatClampNeg (some (b + x))))))))) H1 := hP
  rw [e] at hP
  have := k H1 locs1 lsC (hW.set hP) hL hS1
  rw [List.length_set, z_sz_set M a (.inr (5, n, .inr (.inr (va_up f i.toNatClampNeg (some x))))) _ hM rfl] at this
  exact this
theorem z_s_len0 (C : z_cx b sp cA D S p R s m args meth c y m0) {a n : Nat} {f : Nat → Int32} (hM : M[a]? = some (.inr (0, n, .inl f))) (hc : z_code y pc = some (nx, .arraylength)) (k : z_K b sp cA D p l e R s m args below meth c Q y m0 z0 nx ls (.int (Int32.ofNat n) :: st) M) : z_K b sp cA D p l e R s m args below meth c Q y m0 z0 pc ls (.ref a :: st) M := by
  intro H locs lsC hW hL hS
  obtain ⟨hx, hb, hml, hown, hts, hK, hsp, hbs, hini, hck, hfr, hlo⟩ := C
  have hr := z_rel_of hck hc
  have hk := k H locs lsC hW hL hS
  obtain ⟨hd, rfl⟩ := z_dq_of hr
  have ha : z_ad b sp a = b + a := z_ad_lo (z_lt9 hM hW.1)
  show W p l e R s m args below meth c H locs (M.length - m0) (z_sz M - z0) Q (F0 m pc lsC (.ref (z_ad b sp a) :: st.map (z_v (z_ad b sp))))
  rw [ha]
  exact va_alen hx hb hK hW.2 a 0 (z_ws_at hM) (ty := .int) rfl rfl hd hk
theorem z_s_len3 (C : z_cx b sp cA D S p R s m args meth c y m0) {a n : Nat} {f : Nat → Int64} (hM : M[a]? = some (.inr (3, n, .inr (.inl f)))) (hc : z_code y pc = some (nx, .arraylength)) (k : z_K b sp cA D p l e R s m args below meth c Q y m0 z0 nx ls (.int (Int32.ofNat n) :: st) M) : z_K b sp cA D p l e R s m args below meth c Q y m0 z0 pc ls (.ref a :: st) M := by
  intro H locs lsC hW hL hS
  obtain ⟨hx, hb, hml, hown, hts, hK, hsp, hbs, hini, hck, hfr, hlo⟩ := C
  have hr := z_rel_of hck hc
  have hk := k H locs lsC hW hL hS
  obtain ⟨hd, rfl⟩ := z_dq_of hr
  have ha : z_ad b sp a = b + a := z_ad_lo (z_lt9 hM hW.1)
  show W p l e R s m args below meth c H locs (M.length - m0) (z_sz M - z0) Q (F0 m pc lsC (.ref (z_ad b sp a) :: st.map (z_v (z_ad b sp))))
  rw [ha]
  exact va_alen hx hb hK hW.2 a 3 (z_ws_at hM) (ty := .long) rfl rfl hd hk
theorem z_s_sld (C : z_cx b sp cA D S p R s m args meth c y m0) {i : Int32} (hi : z_in i S.1 = true) (hc : z_code y pc = some (nx, .iaload)) (k : z_K b sp cA D p l e R s m args below meth c Q y m0 z0 nx ls (.int (S.2 i.toNatClampNeg) :: st) M) : z_K b sp cA D p l e R s m args below meth c Q y m0 z0 pc ls (.int i :: .ref 1000 :: st) M := by
  intro H locs lsC hW hL hS
  obtain ⟨hx, hb, hml, hown, hts, hK, hsp, hbs, hini, hck, hfr, hlo⟩ := C
  have hr := z_rel_of hck hc
  have hk := k H locs lsC hW hL hS
  obtain ⟨hd, rfl⟩ := z_dq_of hr
  have ha : z_ad b sp 1000 = sp 0 := if_neg (by omega)
  have h1 : sp 0 < b := hsp.1 0 (by omega)
  show W p l e R s m args below meth c H locs (M.length - m0) (z_sz M - z0) Q (F0 m pc lsC (.int i :: .ref (z_ad b sp 1000) :: st.map (z_v (z_ad b sp))))
  rw [ha]
  exact va_sld hx hb hsp.2.1 (by omega) (fun h => absurd h (by unfold z_A; omega)) hS (z_in_of hi) hd hk
theorem z_s_slen (C : z_cx b sp cA D S p R s m args meth c y m0) (hc : z_code y pc = some (nx, .arraylength)) (k : z_K b sp cA D p l e R s m args below meth c Q y m0 z0 nx ls (.int (Int32.ofNat S.1) :: st) M) : z_K b sp cA D p l e R s m args below meth c Q y m0 z0 pc ls (.ref 1000 :: st) M := by
  intro H locs lsC hW hL hS
  obtain ⟨hx, hb, hml, hown, hts, hK, hsp, hbs, hini, hck, hfr, hlo⟩ := C
  have hr := z_rel_of hck hc
  have hk := k H locs lsC hW hL hS
  obtain ⟨hd, rfl⟩ := z_dq_of hr
  have ha : z_ad b sp 1000 = sp 0 := if_neg (by omega)
  have h1 : sp 0 < b := hsp.1 0 (by omega)
  show W p l e R s m args below meth c H locs (M.length - m0) (z_sz M - z0) Q (F0 m pc lsC (.ref (z_ad b sp 1000) :: st.map (z_v (z_ad b sp))))
  rw [ha]
  exact va_slen hx hb hsp.2.1 (by omega) (fun h => absurd h (by unfold z_A; omega)) hS hd hk
theorem z_up {H : Heap} {cells slots : Nat} {g : JFrame} {locs : List Loc} (h0 : m0 ≤ M.length) (hbs : s.heap.size = b + m0) (hW : z_wd b sp cA D M H) (hS : va_S (z_A b) s.heap H locs) (hc : cells = M.length - m0) (kk : H.size = b + M.length → W p l e R s m args below meth c H locs cells slots Q g) : W p l e R s m args below meth c H locs cells slots Q g := by
  intro T hT X
  have h1 : T.heap.size ≤ s.heap.size + cells := X.same.2.2.1
  have h2 := z_size hW (Nat.le_trans (by omega) hS.1)
  exact kk (by rw [hT] at h1; omega) T hT X
theorem z_wd.app {H H1 : Heap} {x : ZE} (hW : z_wd b sp cA D M H) (h9 : M.length < 900) (hk : ∀ q, q < H.size → H1[q]? = H[q]?) (he : va_at D vwCl (b + M.length, z_e (z_ad b sp) cA x) H1) : z_wd b sp cA D (M ++ [x]) H1 := by
  refine ⟨by rw [List.length_append]; exact h9, ?_⟩
  rw [z_ws_app]
  refine (hW.2.kept (fun k q hq => hk q.1 (hW.2 k q hq).lt)).app (fun k q hq => ?_)
  have hz : k < 1 := (List.getElem?_eq_some_iff.mp hq).1
  rw [show k = 0 by omega] at hq
  cases hq
  exact he
theorem z_S_app {H H1 : Heap} {locs : List Loc} (hS : va_S (z_A b) s.heap H locs) (hz : H.size ≤ H1.size) (hk : ∀ q, q < H.size → H1[q]? = H[q]?) : va_S (z_A b) s.heap H1 locs := ⟨Nat.le_trans hS.1 hz, fun q h1 h2 => (hk q (Nat.lt_of_lt_of_le h1 hS.1)).trans (hS.2.1 q h1 h2), hS.2.2⟩
theorem z_hasapp {ad : Nat → Nat} {lsC : Array Slot} {n : Nat} {L : ZL} (h : z_has ad lsC n L) : z_has ad lsC n L := h
theorem z_s_new (C : z_cx b sp cA D S p R s m args meth c y m0) {ci : Nat} (hci : ci < 7) (h0 : m0 ≤ M.length) (hz0 : z0 ≤ z_sz M) (h9 : M.length < 900) (hrc : M.length + 1 - m0 ≤ R.cells) (hrs : z_sz M + (z_cls ci).2.2 - z0 ≤ R.slots) (hc : z_code y pc = some (nx, .new ci)) (k : z_K b sp cA D p l e R s m args below meth c Q y m0 z0 nx ls (.ref M.length :: st) (M ++ [(.inl (ci, (List.range (z_cls ci).2.2).map (fun k => z_dfl (z_fty ci k))))])) : z_K b sp cA D p l e R s m args below meth c Q y m0 z0 pc ls st M := by
  intro H locs lsC hW hL hS
  obtain ⟨hx, hb, hml, hown, hts, hK, hsp, hbs, hini, hck, hfr, hlo⟩ := C
  have hr := z_rel_of hck hc
  simp only [z_rel] at hr
  split at hr
  · rename_i q hq
    simp only [Bool.and_eq_true, decide_eq_true_eq] at hr
    obtain ⟨⟨⟨rfl, w1⟩, w2⟩, w3⟩ := hr
    refine z_up h0 hbs hW hS rfl (fun hsz => ?_)
    have hKn := hK.1 ci _ (z_cl hci)
    refine W.newcK (g := F0 m pc lsC (st.map (z_v (z_ad b sp)))) hx hb hown (hts _ (z_w_of w1)) (hts _ (z_w_of w2)) (hts _ (z_w_of w3)) rfl hq (by omega) (by omega) hKn.2.1 hsz fun H1 kC hkC e1 z1 o1 => ?_
    have o2 : ∀ q, q < H.size → H1[q]? = H[q]? := fun q h => o1 q (by omega)
    have hW1 := hW.app (x := (.inl (ci, (List.range (z_cls ci).2.2).map (fun k => z_dfl (z_fty ci k))))) h9 o2 ⟨_, z_cl hci, (u_born (z_fty ci) hts (z_inc hci) hKn hkC e1 (z_tyk hci)).to (fun j hj => ?_)⟩
    · have := k H1 locs lsC hW1 hL (z_S_app hS (by omega) o2)
      rw [List.length_append, z_sz_app] at this
      have e2 : z_ad b sp M.length = b + M.length := z_ad_lo (by omega)
      have this : W p l e R s m args below meth c H1 locs (M.length + 1 - m0) (z_sz M + (z_cls ci).2.2 - z0) Q (F0 m (pc + 3) lsC (.ref (z_ad b sp M.length) :: st.map (z_v (z_ad b sp)))) := this
      rw [e2] at this
      refine W.cs (by omega) (by omega) this
    · show defaultValue (z_fty ci j) = vp_V ((((List.range (z_cls ci).2.2).map (fun k => z_dfl (z_fty ci k)))).map (z_v (z_ad b sp))) j
      unfold vp_V
      rw [List.getD_eq_getElem?_getD, List.getElem?_map, List.getElem?_map, List.getElem?_range hj]
      exact z_dfl_ok hci hj
  · cases hr
end ZST
