/-! HEDGES: the class's side -/
theorem zx_T1 {x y : Int32} (h : ¬ x = y) : z_cc 1 x y = true := by
  show (!decide (x = y)) = true
  rw [decide_eq_false h]
  rfl
theorem zx_F1 {x y : Int32} (h : x = y) : z_cc 1 x y = false := by
  show (!decide (x = y)) = false
  rw [decide_eq_true h]
  rfl
def h_ms (L : Nat) (st : List (Nat × Nat)) (sf : Nat → Int32) : Prop := ∀ j x, st[j]? = some x → sf j = h_mk x.1 x.2 (L + 1)
theorem h_ms.add {L : Nat} {st : List (Nat × Nat)} {sf : Nat → Int32} (h : h_ms L st sf) (x : Nat × Nat) : h_ms L (st ++ [x]) (upd sf st.length (h_mk x.1 x.2 (L + 1))) := by
  intro j y hy
  rw [List.getElem?_append] at hy
  split at hy
  · rename_i hj
    rw [pk_un (by omega)]
    exact h j y hy
  · rename_i hj
    obtain ⟨e1, rfl⟩ := w_one hy
    obtain rfl : j = st.length := by omega
    exact pk_us
def x_H (M : ZM) (L W : Nat) (op i4 : Int32) (l st : List (Nat × Nat)) : Prop := x_K M L W op i4 (zI (st.length : Int)) l ∧ ∃ sf, M[37]? = some (zA 40 sf) ∧ h_ms L st sf
theorem x_H.ev {M M' : ZM} {P : Nat → Prop} {L W : Nat} {op i4 : Int32} {l st : List (Nat × Nat)} (e : z_ev M M' P) (h1 : ¬ P 33) (h2 : ¬ P 34) (h3 : ¬ P 35) (h4 : ¬ P 37) (h : x_H M L W op i4 l st) : x_H M' L W op i4 l st := by
  obtain ⟨g1, sf, g2, g3⟩ := h
  exact ⟨g1.ev e h1 h2 h3, sf, (e.2 _ h4).trans g2, g3⟩
section HX
variable {S : ZS} {d : Nat} {M : ZM} {T : Nat} {tx : Nat → Int32} {W H L n : Nat} {hs lot : Int32} {kc : Nat → ZK} {im : Nat → Option ZB} {tr : Int64} {op i4 : Int32}
theorem c_cellsOf_l {nn : Nat} {i9 : Int32} (h33 : M[33]? = some (k_wn nn i4 L W op i9)) (hL : L ≤ 3) {c a : Nat} : ∀ (m i : Nat), i + m = L + 1 → z_G S d 66 5 [some (.ref 33), some (.int (zI (c : Int))), some (.int (zI (a : Int))), some (.int (h_mk c a i)), some (.int (zI (i : Int)))] [] M (some (.int (h_mk c a (L + 1)))) M := by
  intro m
  induction m with
  | zero =>
    intro i hi
    refine g_il rfl rfl ?_
    refine g_al rfl rfl ?_
    refine g_gf rfl h33 rfl rfl ?_
    refine g_icT rfl (zcT4 ⟨by omega, by omega⟩ ⟨by omega, by omega⟩ (by omega)) ?_
    refine g_il rfl rfl ?_
    rw [show i = L + 1 by omega]
    exact g_reti rfl (rfl) rfl
  | succ m ih =>
    intro i hi
    refine g_il rfl rfl ?_
    refine g_al rfl rfl ?_
    refine g_gf rfl h33 rfl rfl ?_
    refine g_icF rfl (zcF4 ⟨by omega, by omega⟩ ⟨by omega, by omega⟩ (by omega)) ?_
    refine g_il rfl rfl ?_
    refine g_ic rfl ?_
    refine g_il rfl rfl ?_
    refine g_il rfl rfl ?_
    refine g_il rfl rfl ?_
    refine g_mulI rfl ?_
    refine g_addI rfl ?_
    refine g_ishl rfl ?_
    refine g_ior rfl ?_
    refine g_is3 rfl rfl ?_
    refine g_jj4 rfl rfl ?_
    refine g_goto rfl ?_
    rw [show (c : Int) + (i : Int) * (a : Int) = ((c + i * a : Nat) : Int) by rw [Int.natCast_add, Int.natCast_mul]]
    exact ih (i + 1) (by omega)
theorem c_cellsOf {nn : Nat} {i9 : Int32} (h33 : M[33]? = some (k_wn nn i4 L W op i9)) (hL : L ≤ 3) {c a : Nat} : z_C S d 66 [.ref 33, .int (zI (c : Int)), .int (zI (a : Int))] M (some (.int (h_mk c a (L + 1)))) M := by
  refine c_of rfl rfl (Nat.le_of_ble_eq_true rfl) ?_
  refine g_ic rfl ?_
  refine g_is3 rfl rfl ?_
  refine g_ic rfl ?_
  refine g_is4 rfl rfl ?_
  exact c_cellsOf_l h33 hL (L + 1) 0 (by omega)
set_option maxRecDepth 20000 in
theorem c_fS_i {l : List (Nat × Nat)} {nR : Nat} (hin : w_in l) (hL : L ≤ 3) (hlen : l.length ≤ 30) (hW5 : W ≤ 5) (hnR : nR ≤ 30) {j : Nat} (hj : j < l.length) {a : Nat} (ha : a ≤ 5) {R Tot : List (Nat × Nat)} (hTl : Tot.length ≤ 40) {Q : Option Value → ZM → Prop} (hx : ∀ (M1 : ZM) (st : List (Nat × Nat)) (x2 x3 : Option Value), (z_ev M M1 (fun k => k = 33 ∨ k = 37) ∧ x_H M1 L W op (zI (nR : Int)) l st) → st ++ R = Tot → z_R S (d + 1) 65 7 [some (.ref 33), some (.int (zI ((j + 1 : Nat) : Int))), x2, x3] [] M1 Q) : ∀ (k t : Nat) (st : List (Nat × Nat)) (M1 : ZM), t + k = w_len l j - L → (z_ev M M1 (fun k => k = 33 ∨ k = 37) ∧ x_H M1 L W op (zI (nR : Int)) l st) → (st ++ h_s1 (w_fst l j) a k t) ++ R = Tot → z_R S (d + 1) 65 34 [some (.ref 33), some (.int (zI (j : Int))), some (.int (zI (a : Int))), some (.int (zI (t : Int)))] [] M1 Q := by
  intro k
  induction k with
  | zero =>
    intro t st M1 ht hI hT
    obtain ⟨he, hK, sf, h37, hms⟩ := id hI
    obtain ⟨h33, fs, ln, h34, h35, hl⟩ := id hK
    have b1 := hin.at hj
    refine r_il rfl rfl ?_
    refine r_al rfl rfl ?_
    refine r_il rfl rfl ?_
    refine r_cv1 rfl rfl h33 rfl (by decide) rfl (c_harmOf hK hin hL hlen hj) ?_
    refine r_icT rfl (zcT3 ⟨by omega, by omega⟩ ⟨by omega, by omega⟩ (by omega)) ?_
    refine r_jj1 rfl rfl ?_
    refine r_goto rfl ?_
    exact hx M1 st _ _ hI (by rw [← hT, show h_s1 (w_fst l j) a 0 t = [] from rfl, List.append_nil])
  | succ k ih =>
    intro t st M1 ht hI hT
    obtain ⟨he, hK, sf, h37, hms⟩ := id hI
    obtain ⟨h33, fs, ln, h34, h35, hl⟩ := id hK
    have b1 := hin.at hj
    have hT2 : (st ++ [(w_fst l j + t * a, a)]) ++ h_s1 (w_fst l j) a k (t + 1) = st ++ h_s1 (w_fst l j) a (k + 1) t := by
      rw [List.append_assoc]
      rfl
    have hlt : st.length < 40 := by
      have u := congrArg List.length hT
      rw [← hT2, List.length_append, List.length_append, List.length_append] at u
      have u2 : [(w_fst l j + t * a, a)].length = 1 := rfl
      omega
    refine r_il rfl rfl ?_
    refine r_al rfl rfl ?_
    refine r_il rfl rfl ?_
    refine r_cv1 rfl rfl h33 rfl (by decide) rfl (c_harmOf hK hin hL hlen hj) ?_
    refine r_icF rfl (zcF3 ⟨by omega, by omega⟩ ⟨by omega, by omega⟩ (by omega)) ?_
    refine r_al rfl rfl ?_
    refine r_gf rfl h33 rfl rfl ?_
    refine r_ic rfl ?_
    refine r_icF rfl (zcF3 ⟨by omega, by omega⟩ ⟨by omega, by omega⟩ (by omega)) ?_
    refine r_al rfl rfl ?_
    refine r_gf rfl h33 rfl rfl ?_
    refine r_al rfl rfl ?_
    refine r_gf rfl h33 rfl rfl ?_
    refine r_al rfl rfl ?_
    refine r_al rfl rfl ?_
    refine r_gf rfl h33 rfl rfl ?_
    refine r_il rfl rfl ?_
    refine r_iaI rfl (by decide) h35 (by omega) (by omega) (by omega) ?_
    rw [Int.toNat_natCast, (hl.at hj).1]
    refine r_il rfl rfl ?_
    refine r_il rfl rfl ?_
    refine r_mulI rfl ?_
    refine r_addI rfl ?_
    refine r_il rfl rfl ?_
    rw [show (w_fst l j : Int) + (t : Int) * (a : Int) = ((w_fst l j + t * a : Nat) : Int) by rw [Int.natCast_add, Int.natCast_mul]]
    refine r_cv2 rfl rfl h33 rfl (by decide) rfl (c_cellsOf h33 hL) ?_
    refine r_iSI rfl h37 (by omega) (by omega) (by omega) ?_
    refine r_al rfl rfl ?_
    refine r_dupA rfl ?_
    refine r_gf rfl (z_gn (by decide) h33) rfl rfl ?_
    refine r_ic rfl ?_
    refine r_addI rfl ?_
    refine r_pf9 rfl (z_gn (by decide) h33) rfl rfl rfl (Or.inl rfl) ?_
    refine r_jj3 rfl rfl ?_
    refine r_goto rfl ?_
    refine ih (t + 1) (st ++ [(w_fst l j + t * a, a)]) _ (by omega) ⟨(he.tr (.set (by omega))).tr (.set (by omega)), ⟨?_, fs, ln, z_gn (by decide) (z_gn (by decide) h34), z_gn (by decide) (z_gn (by decide) h35), hl⟩, _, z_gn (by decide) (z_gs h37), ?_⟩ ?_
    · rw [List.length_append]
      exact z_gs (z_gn (by decide) h33)
    · rw [Int.toNat_natCast]
      exact hms.add (w_fst l j + t * a, a)
    · rw [hT2]
      exact hT
set_option maxRecDepth 20000 in
theorem c_fS_l {l : List (Nat × Nat)} {nR : Nat} (hin : w_in l) (hL : L ≤ 3) (hlen : l.length ≤ 30) (hW5 : W ≤ 5) (hnR : nR ≤ 30) (hTl : (h_sl L W nR l l.length 0).length ≤ 40) : ∀ (k j : Nat) (st : List (Nat × Nat)) (M1 : ZM) (x2 x3 : Option Value), j + k = l.length → (z_ev M M1 (fun k => k = 33 ∨ k = 37) ∧ x_H M1 L W op (zI (nR : Int)) l st) → st ++ h_sl L W nR l k j = h_sl L W nR l l.length 0 → z_R S (d + 1) 65 7 [some (.ref 33), some (.int (zI (j : Int))), x2, x3] [] M1 (fun r M2 => r = none ∧ z_ev M M2 (fun k => k = 33 ∨ k = 37) ∧ x_H M2 L W op (zI (nR : Int)) l (h_sl L W nR l l.length 0)) := by
  intro k
  induction k with
  | zero =>
    intro j st M1 x2 x3 hj hI hT
    obtain ⟨he, hK, sf, h37, hms⟩ := id hI
    obtain ⟨h33, fs, ln, h34, h35, hl⟩ := id hK
    rw [show st ++ h_sl L W nR l 0 j = st from List.append_nil st] at hT
    subst hT
    refine r_il rfl rfl ?_
    refine r_al rfl rfl ?_
    refine r_gf rfl h33 rfl rfl ?_
    refine r_icT rfl (zcT3 ⟨by omega, by omega⟩ ⟨by omega, by omega⟩ (by omega)) ?_
    refine r_retv rfl rfl ?_
    exact ⟨rfl, hI⟩
  | succ k ih =>
    intro j st M1 x2 x3 hj hI hT
    obtain ⟨he, hK, sf, h37, hms⟩ := id hI
    obtain ⟨h33, fs, ln, h34, h35, hl⟩ := id hK
    refine r_il rfl rfl ?_
    refine r_al rfl rfl ?_
    refine r_gf rfl h33 rfl rfl ?_
    refine r_icF rfl (zcF3 ⟨by omega, by omega⟩ ⟨by omega, by omega⟩ (by omega)) ?_
    refine r_il rfl rfl ?_
    refine r_al rfl rfl ?_
    refine r_gf rfl h33 rfl rfl ?_
    by_cases hr : j < nR
    · refine r_icF rfl (zcF3 ⟨by omega, by omega⟩ ⟨by omega, by omega⟩ (by omega)) ?_
      refine r_ic rfl ?_
      refine r_goto rfl ?_
      refine r_is2 rfl rfl ?_
      refine r_ic rfl ?_
      refine r_is3 rfl rfl ?_
      exact c_fS_i hin hL hlen hW5 hnR (j := j) (by omega) (a := 1) (by omega) (R := h_sl L W nR l k (j + 1)) (Tot := h_sl L W nR l l.length 0) hTl (fun M2 st2 y2 y3 hI2 hT2 => ih (j + 1) st2 M2 y2 y3 (by omega) hI2 hT2) (w_len l j - L) 0 st M1 (by omega) hI (by
        rw [← hT, List.append_assoc, show h_sl L W nR l (k + 1) j = h_s1 (w_fst l j) (if j < nR then 1 else W) (w_len l j - L) 0 ++ h_sl L W nR l k (j + 1) from rfl, if_pos hr])
    · refine r_icT rfl (zcT3 ⟨by omega, by omega⟩ ⟨by omega, by omega⟩ (by omega)) ?_
      refine r_al rfl rfl ?_
      refine r_gf rfl h33 rfl rfl ?_
      refine r_is2 rfl rfl ?_
      refine r_ic rfl ?_
      refine r_is3 rfl rfl ?_
      exact c_fS_i hin hL hlen hW5 hnR (j := j) (by omega) (a := W) (by omega) (R := h_sl L W nR l k (j + 1)) (Tot := h_sl L W nR l l.length 0) hTl (fun M2 st2 y2 y3 hI2 hT2 => ih (j + 1) st2 M2 y2 y3 (by omega) hI2 hT2) (w_len l j - L) 0 st M1 (by omega) hI (by
        rw [← hT, List.append_assoc, show h_sl L W nR l (k + 1) j = h_s1 (w_fst l j) (if j < nR then 1 else W) (w_len l j - L) 0 ++ h_sl L W nR l k (j + 1) from rfl, if_neg hr])
theorem c_findStretches {l : List (Nat × Nat)} {nR : Nat} (hin : w_in l) (hL : L ≤ 3) (hlen : l.length ≤ 30) (hW5 : W ≤ 5) (hnR : nR ≤ 30) (hTl : (h_sl L W nR l l.length 0).length ≤ 40) {i9 : Int32} (hK : x_K M L W op (zI (nR : Int)) i9 l) {f37 : Nat → Int32} (h37 : M[37]? = some (zA 40 f37)) : ∃ M', z_C S (d + 1) 65 [.ref 33] M none M' ∧ z_ev M M' (fun k => k = 33 ∨ k = 37) ∧ x_H M' L W op (zI (nR : Int)) l (h_sl L W nR l l.length 0) := by
  obtain ⟨h33, fs, ln, h34, h35, hl⟩ := id hK
  refine k_an ?_
  refine k_of rfl rfl (Nat.le_of_ble_eq_true rfl) ?_
  refine r_al rfl rfl ?_
  refine r_ic rfl ?_
  refine r_pf9 rfl h33 rfl rfl rfl (Or.inl rfl) ?_
  refine r_ic rfl ?_
  refine r_is1 rfl rfl ?_
  exact c_fS_l hin hL hlen hW5 hnR hTl l.length 0 [] _ _ _ (by omega) ⟨.set (Or.inl rfl), ⟨z_gs h33, fs, ln, z_gn (by decide) h34, z_gn (by decide) h35, hl⟩, f37, z_gn (by decide) h37, fun j x hx => by cases hx⟩ rfl
theorem c_breakAll_l {l st : List (Nat × Nat)} (hH : x_H M L W op i4 l st) (hst : st.length ≤ 40) {hg : Int32} {Pb : Bool} (hP : (∀ x, x ∈ st → ¬ (h_mk x.1 x.2 (L + 1) &&& hg = zI 0)) ↔ Pb = true) : ∀ (m j : Nat), j + m = st.length → (∀ i, i < j → ∀ x, st[i]? = some x → ¬ (h_mk x.1 x.2 (L + 1) &&& hg = zI 0)) → z_G S d 67 2 [some (.ref 33), some (.int hg), some (.int (zI (j : Int)))] [] M (some (.int (zI (if Pb = true then 1 else 0)))) M := by
  obtain ⟨hK, sf, h37, hms⟩ := id hH
  obtain ⟨h33, fs, ln, h34, h35, hl⟩ := id hK
  intro m
  induction m with
  | zero =>
    intro j hj hno
    have hPt : Pb = true := hP.mp (fun x hx => by obtain ⟨i, hi, rfl⟩ := List.mem_iff_getElem.mp hx; exact hno i (by omega) _ (List.getElem?_eq_getElem hi))
    rw [if_pos hPt]
    refine g_il rfl rfl ?_
    refine g_al rfl rfl ?_
    refine g_gf rfl h33 rfl rfl ?_
    refine g_icT rfl (zcT3 ⟨by omega, by omega⟩ ⟨by omega, by omega⟩ (by omega)) ?_
    refine g_ic rfl ?_
    exact g_reti rfl (rfl) rfl
  | succ m ih =>
    intro j hj hno
    have hgj := List.getElem?_eq_getElem (show j < st.length by omega)
    have hsj := hms j _ hgj
    refine g_il rfl rfl ?_
    refine g_al rfl rfl ?_
    refine g_gf rfl h33 rfl rfl ?_
    refine g_icF rfl (zcF3 ⟨by omega, by omega⟩ ⟨by omega, by omega⟩ (by omega)) ?_
    refine g_al rfl rfl ?_
    refine g_gf rfl h33 rfl rfl ?_
    refine g_il rfl rfl ?_
    refine g_iaI rfl (by decide) h37 (by omega) (by omega) (by omega) ?_
    rw [Int.toNat_natCast, hsj]
    refine g_il rfl rfl ?_
    refine g_iand rfl ?_
    by_cases h0 : h_mk (st[j]).1 (st[j]).2 (L + 1) &&& hg = zI 0
    · have hPf : ¬ Pb = true := fun g => hP.mpr g _ (List.getElem_mem _) h0
      rw [if_neg hPf]
      refine g_ifF rfl (zx_F1 h0) ?_
      refine g_ic rfl ?_
      exact g_reti rfl (rfl) rfl
    · refine g_ifT rfl (zx_T1 h0) ?_
      refine g_jj2 rfl rfl ?_
      refine g_goto rfl ?_
      refine ih (j + 1) (by omega) (fun i hi x hx => ?_)
      by_cases e : i = j
      · subst e
        rw [hgj] at hx
        cases hx
        exact h0
      · exact hno i (by omega) x hx
theorem c_breakAll {l st : List (Nat × Nat)} (hH : x_H M L W op i4 l st) (hst : st.length ≤ 40) {hg : Int32} {Pb : Bool} (hP : (∀ x, x ∈ st → ¬ (h_mk x.1 x.2 (L + 1) &&& hg = zI 0)) ↔ Pb = true) : z_C S d 67 [.ref 33, .int hg] M (some (.int (zI (if Pb = true then 1 else 0)))) M := by
  refine c_of rfl rfl (Nat.le_of_ble_eq_true rfl) ?_
  refine g_ic rfl ?_
  refine g_is2 rfl rfl ?_
  exact c_breakAll_l hH hst hP st.length 0 (by omega) (fun i hi => by omega)
set_option maxRecDepth 20000 in
theorem c_place_l {l st : List (Nat × Nat)} (hst : st.length ≤ 40) {P : Int32 → Bool} (hP : ∀ hg, (∀ x, x ∈ st → ¬ (h_mk x.1 x.2 (L + 1) &&& hg = zI 0)) ↔ P hg = true) {r : Nat} (hrec : (∀ (p s c0 : Nat) (hg : Int32) (hd : Nat → Int32) (M : ZM), p + r = s → s ≤ 3 → x_H M L W op i4 l st → M[36]? = some (zA 3 hd) → ((p = 0 ∧ c0 = 0) ∨ (0 < p ∧ hd (p - 1) = zI ((c0 : Int) - 1) ∧ c0 ≤ 25)) → ∃ M', z_C S (d + 1 + r) 68 [.ref 33, .int (zI (p : Int)), .int (zI (s : Int)), .int hg] M (some (.int (zI (if (h_find P op r (25 - c0) c0 hg).isSome = true then 1 else 0)))) M' ∧ z_ev M M' (fun k => k = 36) ∧ ∃ hd', M'[36]? = some (zA 3 hd') ∧ (∀ j, j < p → hd' j = hd j) ∧ ∀ ll, h_find P op r (25 - c0) c0 hg = some ll → ∀ j x : Nat, ll[j]? = some x → hd' (p + j) = zI (x : Int))) {p s : Nat} {hg : Int32} {hd : Nat → Int32} (hps : p + (r + 1) = s) (hs3 : s ≤ 3) (hH : x_H M L W op i4 l st) {oo : Option (List Nat)} {x4 : Option Value} (hx4 : z_nl x4 = true) : ∀ (k c : Nat) (M1 : ZM), c + k = 25 → h_lp op (h_find P op r) k c hg = oo → (z_ev M M1 (fun k => k = 36) ∧ ∃ hd1, M1[36]? = some (zA 3 hd1) ∧ ∀ j, j < p → hd1 j = hd j) → z_R S (d + 1 + (r + 1)) 68 40 [some (.ref 33), some (.int (zI (p : Int))), some (.int (zI (s : Int))), some (.int hg), x4, some (.int (zI (c : Int)))] [] M1 (fun rr M2 => rr = some (.int (zI (if (oo).isSome = true then 1 else 0))) ∧ z_ev M M2 (fun k => k = 36) ∧ ∃ hd', M2[36]? = some (zA 3 hd') ∧ (∀ j, j < p → hd' j = hd j) ∧ ∀ ll, oo = some ll → ∀ j x : Nat, ll[j]? = some x → hd' (p + j) = zI (x : Int)) := by
  intro k
  induction k with
  | zero =>
    intro c M1 hc ho hI
    obtain ⟨he, hd1, h36, hk1⟩ := hI
    have hH1 := hH.ev he (by decide) (by decide) (by decide) (by decide)
    obtain ⟨⟨h33, -⟩, -⟩ := id hH1
    have ho2 : oo = none := ho.symm
    refine r_il rfl rfl ?_
    refine r_ic rfl ?_
    refine r_icT rfl (zcT3 ⟨by omega, by omega⟩ ⟨by omega, by omega⟩ (by omega)) ?_
    refine r_ic rfl ?_
    refine r_reti rfl rfl ?_
    exact ⟨by rw [ho2]; rfl, he, hd1, h36, hk1, fun ll g => by rw [ho2] at g; cases g⟩
  | succ k ih =>
    intro c M1 hc ho hI
    obtain ⟨he, hd1, h36, hk1⟩ := hI
    have hH1 := hH.ev he (by decide) (by decide) (by decide) (by decide)
    obtain ⟨⟨h33, -⟩, -⟩ := id hH1
    have ho : (if bt op c = true then (match h_find P op r k (c + 1) (hg ||| h_bit c) with | some l => some (c :: l) | none => h_lp op (h_find P op r) k (c + 1) hg) else h_lp op (h_find P op r) k (c + 1) hg) = oo := ho
    refine r_il rfl rfl ?_
    refine r_ic rfl ?_
    refine r_icF rfl (zcF3 ⟨by omega, by omega⟩ ⟨by omega, by omega⟩ (by omega)) ?_
    refine r_al rfl rfl ?_
    refine r_gf rfl h33 rfl rfl ?_
    refine r_il rfl rfl ?_
    refine r_ishr rfl ?_
    refine r_ic rfl ?_
    refine r_iand rfl ?_
    refine r_ic rfl ?_
    rw [z_bit op (c := c) (by omega)]
    by_cases hb : bt op c = true
    · rw [if_pos hb] at ho
      rw [if_pos hb]
      refine r_icF rfl (zcF1 (rfl)) ?_
      refine r_al rfl rfl ?_
      refine r_gf rfl h33 rfl rfl ?_
      refine r_il rfl rfl ?_
      refine r_il rfl rfl ?_
      refine r_iSI rfl h36 (by omega) (by omega) (by omega) ?_
      rw [Int.toNat_natCast]
      have e4 : z_ev M1 (M1.set 36 (zA 3 (upd hd1 p (zI (c : Int))))) (fun k => k = 36) := .set rfl
      obtain ⟨M3, k3, e3, hd3, h363, hk3, hl3⟩ := hrec (p + 1) s (c + 1) (hg ||| h_bit c) (upd hd1 p (zI (c : Int))) (M1.set 36 (zA 3 (upd hd1 p (zI (c : Int))))) (by omega) hs3 (hH1.ev e4 (by decide) (by decide) (by decide) (by decide)) (z_gs h36) (Or.inr ⟨by omega, by rw [show p + 1 - 1 = p by omega, pk_us]; exact congrArg zI (by omega), by omega⟩)
      rw [show 25 - (c + 1) = k by omega] at k3 hl3
      have e5 := (he.tr e4).tr e3
      have hk5 : ∀ j, j < p → hd3 j = hd j := fun j hj => by
        rw [hk3 j (by omega), pk_un (by omega)]
        exact hk1 j hj
      refine r_al rfl rfl ?_
      refine r_il rfl rfl ?_
      refine r_ic rfl ?_
      refine r_addI rfl ?_
      refine r_il rfl rfl ?_
      refine r_il rfl rfl ?_
      refine r_ic rfl ?_
      refine r_il rfl rfl ?_
      refine r_ishl rfl ?_
      refine r_ior rfl ?_
      refine r_cs4 rfl rfl rfl rfl (k3) ?_
      rcases hfo : h_find P op r k (c + 1) (hg ||| h_bit c) with - | l2
      · rw [hfo] at ho
        rw [show (if (none : Option (List Nat)).isSome = true then (1 : Int) else 0) = 0 from rfl]
        refine r_ifT rfl (zcT0 (rfl)) ?_
        refine r_jj5 rfl hx4 ?_
        refine r_goto rfl ?_
        exact ih (c + 1) M3 (by omega) ho ⟨e5, hd3, h363, hk5⟩
      · rw [hfo] at ho
        have ho : some (c :: l2) = oo := ho
        rw [show (if (some l2).isSome = true then (1 : Int) else 0) = 1 from rfl]
        refine r_ifF rfl (zcF0 ⟨by omega, by omega⟩ ⟨by omega, by omega⟩ (by decide)) ?_
        refine r_ic rfl ?_
        refine r_reti rfl rfl ?_
        refine ⟨by rw [← ho]; rfl, e5, hd3, h363, hk5, fun ll g j x hx => ?_⟩
        rw [← ho] at g
        cases g
        cases j with
        | zero =>
          have hx : some c = some x := hx
          cases hx
          rw [Nat.add_zero, hk3 p (by omega), pk_us]
        | succ j =>
          have := hl3 l2 hfo j x hx
          rw [show p + (j + 1) = p + 1 + j by omega]
          exact this
    · rw [if_neg hb] at ho
      rw [if_neg hb]
      refine r_icT rfl (zcT1 ⟨by omega, by omega⟩ ⟨by omega, by omega⟩ (by decide)) ?_
      refine r_jj5 rfl hx4 ?_
      refine r_goto rfl ?_
      exact ih (c + 1) M1 (by omega) ho ⟨he, hd1, h36, hk1⟩
theorem c_placeHedges {l st : List (Nat × Nat)} (hst : st.length ≤ 40) {P : Int32 → Bool} (hP : ∀ hg, (∀ x, x ∈ st → ¬ (h_mk x.1 x.2 (L + 1) &&& hg = zI 0)) ↔ P hg = true) : ∀ r : Nat, (∀ (p s c0 : Nat) (hg : Int32) (hd : Nat → Int32) (M : ZM), p + r = s → s ≤ 3 → x_H M L W op i4 l st → M[36]? = some (zA 3 hd) → ((p = 0 ∧ c0 = 0) ∨ (0 < p ∧ hd (p - 1) = zI ((c0 : Int) - 1) ∧ c0 ≤ 25)) → ∃ M', z_C S (d + 1 + r) 68 [.ref 33, .int (zI (p : Int)), .int (zI (s : Int)), .int hg] M (some (.int (zI (if (h_find P op r (25 - c0) c0 hg).isSome = true then 1 else 0)))) M' ∧ z_ev M M' (fun k => k = 36) ∧ ∃ hd', M'[36]? = some (zA 3 hd') ∧ (∀ j, j < p → hd' j = hd j) ∧ ∀ ll, h_find P op r (25 - c0) c0 hg = some ll → ∀ j x : Nat, ll[j]? = some x → hd' (p + j) = zI (x : Int)) := by
  intro r
  induction r with
  | zero =>
    intro p s c0 hg hd M hps hs3 hH h36 hf
    obtain ⟨⟨h33, -⟩, -⟩ := id hH
    refine k_an ?_
    refine k_of rfl rfl (Nat.le_of_ble_eq_true rfl) ?_
    refine r_il rfl rfl ?_
    refine r_il rfl rfl ?_
    refine r_icT rfl (zcT3 ⟨by omega, by omega⟩ ⟨by omega, by omega⟩ (by omega)) ?_
    refine r_al rfl rfl ?_
    refine r_il rfl rfl ?_
    refine r_cv1 rfl rfl h33 rfl (by decide) rfl (c_breakAll hH hst (hP hg)) ?_
    refine ⟨_, _, g_reti rfl rfl (by cases P hg <;> rfl), ?_, .rf, hd, h36, fun j _ => rfl, fun ll g j x hx => ?_⟩
    · show _ = some (Value.int (zI (if (if P hg = true then some ([] : List Nat) else none).isSome = true then 1 else 0)))
      by_cases e : P hg = true
      · rw [if_pos e, if_pos e]
        rfl
      · rw [if_neg e, if_neg e]
        rfl
    · have g : (if P hg = true then some ([] : List Nat) else none) = some ll := g
      split at g
      · cases g
        cases hx
      · cases g
  | succ r ih =>
    intro p s c0 hg hd M hps hs3 hH h36 hf
    obtain ⟨⟨h33, -⟩, -⟩ := id hH
    refine k_an ?_
    refine k_of rfl rfl (Nat.le_of_ble_eq_true rfl) ?_
    refine r_il rfl rfl ?_
    refine r_il rfl rfl ?_
    refine r_icF rfl (zcF3 ⟨by omega, by omega⟩ ⟨by omega, by omega⟩ (by omega)) ?_
    refine r_il rfl rfl ?_
    refine r_ic rfl ?_
    refine r_icT rfl (zcT2 ⟨by omega, by omega⟩ ⟨by omega, by omega⟩ (by omega)) ?_
    refine r_il rfl rfl ?_
    rcases hf with hf | hf
    · obtain ⟨rfl, rfl⟩ := hf
      refine r_ifT rfl (zcT5 ⟨by omega, by omega⟩ ⟨by omega, by omega⟩ (by decide)) ?_
      refine r_ic rfl ?_
      refine r_is4 rfl rfl ?_
      refine r_il rfl rfl ?_
      refine r_is5 rfl rfl ?_
      exact c_place_l hst hP ih (by omega) hs3 hH rfl (25 - 0) 0 M (by omega) rfl ⟨.rf, hd, h36, fun j _ => rfl⟩
    · obtain ⟨hp0, hf1, hf2⟩ := hf
      refine r_ifF rfl (zcF5 ⟨by omega, by omega⟩ ⟨by omega, by omega⟩ (by omega)) ?_
      refine r_al rfl rfl ?_
      refine r_gf rfl h33 rfl rfl ?_
      refine r_il rfl rfl ?_
      refine r_ic rfl ?_
      refine r_subI rfl ?_
      refine r_iaI rfl (by decide) h36 (by omega) (by omega) (by omega) ?_
      rw [show ((p : Int) - 1).toNat = p - 1 by omega, hf1]
      refine r_ic rfl ?_
      refine r_addI rfl ?_
      refine r_goto rfl ?_
      refine r_is4 rfl rfl ?_
      refine r_il rfl rfl ?_
      refine r_is5 rfl rfl ?_
      rw [show (c0 : Int) - 1 + 1 = (c0 : Int) by omega]
      exact c_place_l hst hP ih (by omega) hs3 hH rfl (25 - c0) c0 M (by omega) rfl ⟨.rf, hd, h36, fun j _ => rfl⟩
set_option maxRecDepth 20000 in
theorem c_fewest_l {l st : List (Nat × Nat)} (hst : st.length ≤ 40) (hP : ∀ hg, (∀ x, x ∈ st → ¬ (h_mk x.1 x.2 (L + 1) &&& hg = zI 0)) ↔ h_P W H L op hg = true) (hH : x_H M L W op i4 l st) {oo : Option (Nat × List Nat)} : ∀ (k n : Nat) (M1 : ZM), n + k = 4 → h_sz (h_F W H L op) k n = oo → (z_ev M M1 (fun k => k = 36) ∧ ∃ hd1, M1[36]? = some (zA 3 hd1)) → z_R S (d + 5) 64 6 [some (.ref 33), some (.int (zI (n : Int)))] [] M1 (fun rr M2 => z_ev M M2 (fun k => k = 36) ∧ ∃ hd', M2[36]? = some (zA 3 hd') ∧ ((oo = none ∧ rr = some (.int (zI (-9)))) ∨ ∃ n ll, oo = some (n, ll) ∧ n ≤ 3 ∧ rr = some (.int (zI (n : Int))) ∧ ∀ j x : Nat, ll[j]? = some x → hd' j = zI (x : Int))) := by
  intro k
  induction k with
  | zero =>
    intro n M1 hn ho hI
    obtain ⟨he, hd1, h36⟩ := hI
    have hH1 := hH.ev he (by decide) (by decide) (by decide) (by decide)
    refine r_il rfl rfl ?_
    refine r_ic rfl ?_
    refine r_icT rfl (zcT4 ⟨by omega, by omega⟩ ⟨by omega, by omega⟩ (by omega)) ?_
    refine r_ic rfl ?_
    refine r_reti rfl rfl ?_
    exact ⟨he, hd1, h36, Or.inl ⟨ho.symm, rfl⟩⟩
  | succ k ih =>
    intro n M1 hn ho hI
    obtain ⟨he, hd1, h36⟩ := hI
    have hH1 := hH.ev he (by decide) (by decide) (by decide) (by decide)
    have ho : (match h_F W H L op n with | some l => some (n, l) | none => h_sz (h_F W H L op) k (n + 1)) = oo := ho
    have hn3 : n ≤ 3 := by omega
    obtain ⟨M2, k2, e2, hd2, h362, -, hl2⟩ := c_placeHedges (S := S) (d := d + 3 - n) (i4 := i4) (l := l) hst hP n 0 n 0 (zI 0) hd1 M1 (by omega) hn3 hH1 h36 (Or.inl ⟨rfl, rfl⟩)
    rw [show d + 3 - n + 1 + n = d + 4 by omega] at k2
    have eF : h_find (h_P W H L op) op n (25 - 0) 0 (zI 0) = h_F W H L op n := rfl
    rw [eF] at k2 hl2
    refine r_il rfl rfl ?_
    refine r_ic rfl ?_
    refine r_icF rfl (zcF4 ⟨by omega, by omega⟩ ⟨by omega, by omega⟩ (by omega)) ?_
    refine r_al rfl rfl ?_
    refine r_ic rfl ?_
    refine r_il rfl rfl ?_
    refine r_ic rfl ?_
    refine r_cs4 rfl rfl rfl rfl (k2) ?_
    rcases hfo : h_F W H L op n with - | ll
    · rw [hfo] at ho
      rw [show (if (none : Option (List Nat)).isSome = true then (1 : Int) else 0) = 0 from rfl]
      refine r_ifT rfl (zcT0 (rfl)) ?_
      refine r_jj1 rfl rfl ?_
      refine r_goto rfl ?_
      exact ih (n + 1) M2 (by omega) ho ⟨he.tr e2, hd2, h362⟩
    · rw [hfo] at ho
      rw [show (if (some ll).isSome = true then (1 : Int) else 0) = 1 from rfl]
      refine r_ifF rfl (zcF0 ⟨by omega, by omega⟩ ⟨by omega, by omega⟩ (by decide)) ?_
      refine r_il rfl rfl ?_
      refine r_reti rfl rfl ?_
      exact ⟨he.tr e2, hd2, h362, Or.inr ⟨n, ll, ho.symm, hn3, rfl, fun j x hx => by have := hl2 ll hfo j x hx; rw [Nat.zero_add] at this; exact this⟩⟩
theorem c_fewestHedges (hW2 : W ≤ 5) (hH2 : H ≤ 5) (hL1 : 1 ≤ L) (hL2 : L ≤ 3) {i9 : Int32} (hK : x_K M L W op (zI ((w_rows op W H 0).length : Int)) i9 (w_all op W H)) {f36 f37 : Nat → Int32} (h36 : M[36]? = some (zA 3 f36)) (h37 : M[37]? = some (zA 40 f37)) : ∃ rr M', z_C S (d + 5) 64 [.ref 33] M rr M' ∧ z_ev M M' (fun k => 33 ≤ k ∧ k < 38) ∧ x_H M' L W op (zI ((w_rows op W H 0).length : Int)) (w_all op W H) (h_all op W H L) ∧ ∃ hd', M'[36]? = some (zA 3 hd') ∧ ((h_sz (h_F W H L op) 4 0 = none ∧ rr = some (.int (zI (-9)))) ∨ ∃ n ll, h_sz (h_F W H L op) 4 0 = some (n, ll) ∧ n ≤ 3 ∧ rr = some (.int (zI (n : Int))) ∧ ∀ j x : Nat, ll[j]? = some x → hd' j = zI (x : Int)) := by
  refine k_of rfl rfl (Nat.le_of_ble_eq_true rfl) ?_
  obtain ⟨hin, hr15, hlen⟩ := w_all_in (op := op) hW2 hH2
  have hTl := h_all_len (op := op) hL1 hW2 hH2
  obtain ⟨M2, k2, e2, hH⟩ := c_findStretches (S := S) (d := d + 3) hin hL2 hlen hW2 (by omega) hTl hK h37
  refine r_al rfl rfl ?_
  refine r_cv0v rfl rfl hK.1 rfl (by decide) rfl (k2) ?_
  refine r_ic rfl ?_
  refine r_is1 rfl rfl ?_
  refine r_of (c_fewest_l hTl (fun hg => h_brk hW2 hH2) hH (oo := h_sz (h_F W H L op) 4 0) 4 0 M2 (by omega) rfl ⟨.rf, f36, (e2.2 36 (by decide)).trans h36⟩) (fun rr M3 hq => ?_)
  obtain ⟨e3, q2⟩ := hq
  have e4 : z_ev M M3 (fun k => 33 ≤ k ∧ k < 38) := (e2.wk (fun k g => by omega)).tr (e3.wk (fun k g => by omega))
  exact ⟨e4, hH.ev e3 (by decide) (by decide) (by decide) (by decide), q2⟩
theorem h_sz_len {W H L : Nat} {op : Int32} : ∀ (k n0 n : Nat) (l : List Nat), h_sz (h_F W H L op) k n0 = some (n, l) → l.length = n ∧ ∀ x, x ∈ l → x < 25 := by
  intro k
  induction k with
  | zero => intro n0 n l h; cases h
  | succ k ih =>
    intro n0 n l h
    have h : (match h_F W H L op n0 with | some l => some (n0, l) | none => h_sz (h_F W H L op) k (n0 + 1)) = some (n, l) := h
    cases e : h_F W H L op n0 with
    | none => rw [e] at h; exact ih (n0 + 1) n l h
    | some l2 =>
      rw [e] at h
      cases h
      obtain ⟨g1, g2⟩ := h_find_len _ 25 0 (zI 0) _ e
      exact ⟨g1, fun x hx => by have := g2 x hx; omega⟩
theorem x_hedges {q : Int} (hq : z_sm q) {op : Int32} (hop : p_open W H hs (v_trod W H n kc) = op) : z_Xc S 82 [.int (zI q)] ((T, tx), (W, H, L), (hs, lot, n, kc), im, tr) (.int (zI (v_hedges (h_F W H L op) q))) ((T, tx), (W, H, L), (hs, lot, n, kc), im, tr) := by
  intro d M hX
  obtain ⟨x1, x2, x3, x4, x5, x6, x7, x8⟩ := id hX
  have hA : k_A M 1 W H L hs lot n kc := x3
  obtain ⟨ha, hO, ch, hR, hk9⟩ := id hA
  obtain ⟨o1, ⟨hW1, hW2⟩, ⟨hH1, hH2⟩, ⟨hL1, hL2⟩, hn⟩ := id hO
  have hC := p_WH hW2 hH2
  unfold v_hedges
  refine k_an ?_
  refine k_of rfl rfl (Nat.le_of_ble_eq_true rfl) ?_
  refine r_il rfl rfl ?_
  refine r_ic rfl ?_
  by_cases h0 : q < -1
  · rw [if_neg (by omega)]
    refine r_icT rfl (zcT2 ⟨by omega, by omega⟩ ⟨by omega, by omega⟩ (h0)) ?_
    refine r_ic rfl ?_
    refine r_reti rfl rfl ?_
    exact ⟨rfl, hX, .rf⟩
  · refine r_icF rfl (zcF2 ⟨by omega, by omega⟩ ⟨by omega, by omega⟩ (h0)) ?_
    refine r_il rfl rfl ?_
    refine r_ic rfl ?_
    by_cases h1 : q < 3
    · rw [if_pos (by omega)]
      have hTR : p_trod (fun k => (ch k).2.2.2.1) n = v_trod W H n kc := p_trod_c (fun k hk => (hk9 k hk).2.2.2.2.1)
      obtain ⟨i9, M2, k2, e2, hK⟩ := c_look (S := S) (d := d + 17) hO hR (by decide) x6 (op := op) (by rw [hTR]; exact hop)
      obtain ⟨⟨u3, u4, u5, u6, u7, u9, v33⟩, -, -, ⟨f36, v36⟩, f37, v37⟩ := id x6
      obtain ⟨hin, hr15, hlen⟩ := w_all_in (op := op) hW2 hH2
      have hX2 : X_I M2 ((T, tx), (W, H, L), (hs, lot, n, kc), im, tr) := by
        obtain ⟨h33, fs, ln, h34, h35, hl⟩ := id hK
        exact hX.wind (e2.wk (fun k g => by omega)) ⟨⟨_, _, _, _, _, _, h33⟩, ⟨ln, h34⟩, ⟨fs, h35⟩, ⟨f36, (e2.2 36 (by decide)).trans v36⟩, f37, (e2.2 37 (by decide)).trans v37⟩
      have e9 : z_ev M M2 (fun k => k < 62) := e2.wk (fun k g => by omega)
      have z0 := (e2.2 0 (by decide)).trans x2
      refine r_icT rfl (zcT2 ⟨by omega, by omega⟩ ⟨by omega, by omega⟩ (h1)) ?_
      refine r_al rfl rfl ?_
      refine r_gf rfl x2 rfl rfl ?_
      refine r_al rfl rfl ?_
      refine r_gf rfl x2 rfl rfl ?_
      refine r_cv1v rfl rfl v33 rfl (by decide) rfl (k2) ?_
      obtain ⟨rr, M3, k3, e3, hH3, hd3, h363, hcs⟩ := c_fewestHedges (S := S) (d := d + 14) hW2 hH2 hL1 hL2 hK ((e2.2 36 (by decide)).trans v36) ((e2.2 37 (by decide)).trans v37)
      have hX3 : X_I M3 ((T, tx), (W, H, L), (hs, lot, n, kc), im, tr) := by
        obtain ⟨⟨h33, fs, ln, h34, h35, hl⟩, sf, h37, -⟩ := id hH3
        exact hX2.wind e3 ⟨⟨_, _, _, _, _, _, h33⟩, ⟨ln, h34⟩, ⟨fs, h35⟩, ⟨hd3, h363⟩, sf, h37⟩
      have e39 : z_ev M M3 (fun k => k < 62) := e9.tr (e3.wk (fun k g => by omega))
      have z03 := (e3.2 0 (by decide)).trans z0
      refine r_al rfl rfl ?_
      refine r_gf rfl z0 rfl rfl ?_
      rcases hcs with ⟨hoo, rfl⟩ | ⟨n2, ll, hoo, hn3, rfl, hll⟩
      · refine r_cv0 rfl rfl hK.1 rfl (by decide) rfl (k3) ?_
        rw [hoo]
        refine r_is2 rfl rfl ?_
        refine r_il rfl rfl ?_
        refine r_il rfl rfl ?_
        refine r_al rfl rfl ?_
        refine r_gf rfl z03 rfl rfl ?_
        refine r_gf rfl hH3.1.1 rfl rfl ?_
        refine r_il rfl rfl ?_
        refine r_cs4 rfl rfl rfl rfl (c_ofRow9 (l := -9) rfl) ?_
        refine r_reti rfl rfl ?_
        exact ⟨rfl, hX3, e39⟩
      · refine r_cv0 rfl rfl hK.1 rfl (by decide) rfl (k3) ?_
        rw [hoo]
        refine r_is2 rfl rfl ?_
        refine r_il rfl rfl ?_
        refine r_il rfl rfl ?_
        refine r_al rfl rfl ?_
        refine r_gf rfl z03 rfl rfl ?_
        refine r_gf rfl hH3.1.1 rfl rfl ?_
        refine r_il rfl rfl ?_
        refine r_cs4 rfl rfl rfl rfl (c_ofRow (by decide) h363 hn3 (by omega) (by omega) hq) ?_
        refine r_reti rfl rfl ?_
        refine ⟨?_, hX3, e39⟩
        obtain ⟨g1, g2⟩ := h_sz_len 4 0 n2 ll hoo
        show _ = some (Value.int (zI (if q = -1 then (n2 : Int) else if q < (n2 : Int) then (ll.getD q.toNat 0 : Int) else -5)))
        by_cases h6 : q = -1
        · rw [if_pos (Or.inr (by omega)), if_pos h6]
        · rw [if_neg (by omega), if_neg h6]
          by_cases h5 : q < (n2 : Int)
          · rw [if_pos h5, if_pos h5]
            have hj : q.toNat < ll.length := by omega
            rw [hll q.toNat _ (List.getElem?_eq_getElem hj), List.getD_eq_getElem?_getD, List.getElem?_eq_getElem hj]
            rfl
          · rw [if_neg h5, if_neg h5]
    · rw [if_neg (by omega)]
      refine r_icF rfl (zcF2 ⟨by omega, by omega⟩ ⟨by omega, by omega⟩ (h1)) ?_
      refine r_ic rfl ?_
      refine r_reti rfl rfl ?_
      exact ⟨rfl, hX, .rf⟩
end HX
