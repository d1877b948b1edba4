/-! the small machine's runs are the machine's -/
set_option maxRecDepth 20000 in
theorem z_roomL {x d L : Nat} (hx : x ≤ 30) (h : 100 * (d + 1) + 300 ≤ L) : 8 + (x + 11) + (100 * d + 300) ≤ L := by omega
section ZMA
variable {b : Nat} {sp : Nat → Nat} {cA : Nat → ClassId} {D : va_G} {S : ZS} {p : Program} {l : Launch} {e : Env} {R : Room} {s : State} {m : MethodId} {args : Array Value} {below : List Frame} {meth : Method} {c : Code} {Q : State → Prop} {y m0 z0 : Nat}
variable {pc nx : Nat} {ls : ZL} {st : List Value} {M M1 : ZM}
theorem z_ret (C : z_cx b sp cA D S p R s m args meth c y m0) (hret : meth.sig.returnType = (z_mt y).2.2.2.1) (hlocks : meth.locks = false) {i : Instr} {r : Option Value} (hc : z_code y pc = some (nx, i)) (h : z_stp S y i nx ls st M = some (.inr (.inl r))) : z_K b sp cA D p l e R s m args below meth c (MQ below (z_Qc b sp cA D r M) args s (M.length - m0) (z_sz M - z0) (z_A b)) y m0 z0 pc ls st M := by
  intro H locs lsC hW hL hS
  obtain ⟨hx, hb, hml, hown, hts, hK, hsp, hbs, hini, hck, hfr, hlo⟩ := C
  have hr := z_rel_of hck hc
  have hq : ∀ (v : Option Value), v = r → ∀ t : State, t.heap = H → s.WarmedH t.vm → z_Qc b sp cA D r M args s (.returned (v.map (z_v (z_ad b sp)))) t := by
    intro v hv t ht _
    subst hv
    exact ⟨rfl, by rw [ht]; exact hW, hS.F ht⟩
  cases i with
  | ireturn =>
    obtain ⟨hd, -⟩ := z_dq_of hr
    simp only [z_stp] at h
    split at h
    · rename_i v
      split at h
      · rename_i hok
        cases h
        unfold z_rok at hok
        split at hok
        · rename_i g _
          exact W.iret hx hb (hret.trans g) (hq (some (.int v)) rfl) hS.2.2 hd hlocks
        · rename_i g1 x g g2
          have hn : narrow .boolean (.int v) = .int v := by
            simp only [Bool.or_eq_true, decide_eq_true_eq] at hok
            rcases hok with hok | hok
            · cases g2; subst hok; rfl
            · cases g2; subst hok; rfl
          exact W.zret hx hb (hret.trans g) hn (hq (some (.int v)) rfl) hS.2.2 hd hlocks
        · rename_i g2; cases g2
        · rename_i g2; cases g2
        · rename_i g2; cases g2
        · cases hok
      · cases h
    · cases h
  | lreturn =>
    obtain ⟨hd, -⟩ := z_dq_of hr
    simp only [z_stp] at h
    split at h
    · rename_i v
      split at h
      · rename_i hok
        cases h
        unfold z_rok at hok
        split at hok
        · rename_i g2; cases g2
        · rename_i g2; cases g2
        · rename_i g _
          exact W.lret hx hb (hret.trans g) (hq (some (.long v)) rfl) hS.2.2 hd hlocks
        · rename_i g2; cases g2
        · rename_i g2; cases g2
        · cases hok
      · cases h
    · cases h
  | areturn =>
    obtain ⟨hd, -⟩ := z_dq_of hr
    simp only [z_stp] at h
    split at h
    · split at h
      · rename_i hok
        cases h
        unfold z_rok at hok
        split at hok
        · rename_i g2; cases g2
        · rename_i g2; cases g2
        · rename_i g2; cases g2
        · rename_i g _
          exact W.aret hx hb (hret.trans g) (Or.inl ⟨_, rfl⟩) (Or.inr ⟨_, rfl⟩) (hq (some (.ref _)) rfl) hS.2.2 hd hlocks
        · rename_i g2; cases g2
        · cases hok
      · cases h
    · split at h
      · rename_i hok
        cases h
        unfold z_rok at hok
        split at hok
        · rename_i g2; cases g2
        · rename_i g2; cases g2
        · rename_i g2; cases g2
        · rename_i g2; cases g2
        · rename_i g _
          exact W.aret hx hb (hret.trans g) (Or.inl ⟨_, rfl⟩) (Or.inl rfl) (hq (some .null) rfl) hS.2.2 hd hlocks
        · cases hok
      · cases h
    · cases h
  | return_ =>
    obtain ⟨hd, -⟩ := z_dq_of hr
    simp only [z_stp] at h
    split at h
    · rename_i g
      cases h
      exact W.vret hx hb (hret.trans g) (hq none rfl) hS.2.2 hd hlocks
    · cases h
  | _ => exact absurd h (by simp only [z_stp]; (repeat' split) <;> (intro g; cases g))
theorem z_callee {i : Instr} {y' nx' : Nat} {as rest : List Value} (hck : z_chk y = true) (hc : z_code y pc = some (nx, i)) (h : z_stp S y i nx ls st M = some (.inr (.inr (y', as, rest, nx')))) : z_mok y' = true := by
  have hr := z_rel_of hck hc
  cases i with
  | invokestatic q =>
    simp only [z_stp] at h
    split at h
    · cases h
      simp only [z_rel] at hr
      split at hr
      · simp only [Bool.and_eq_true, decide_eq_true_eq] at hr
        exact hr.1.1.2
      · cases hr
    · cases h
  | invokevirtual q =>
    simp only [z_stp] at h
    split at h
    · split at h
      · split at h
        · cases h
          simp only [z_rel] at hr
          split at hr
          · simp only [Bool.and_eq_true, decide_eq_true_eq] at hr
            exact hr.1.1.1.1.2
          · cases hr
        · cases h
      · cases h
    · cases h
  | invokespecial q =>
    simp only [z_stp] at h
    split at h
    · split at h
      · cases h
        simp only [z_rel] at hr
        split at hr
        · simp only [Bool.and_eq_true, decide_eq_true_eq] at hr
          exact hr.1.1.2
        · cases hr
      · cases h
    · cases h
  | _ => exact absurd h (by simp only [z_stp]; (repeat' split) <;> (intro g; cases g))
theorem z_cst (C : z_cx b sp cA D S p R s m args meth c y m0) {i : Instr} {d y' nx' : Nat} {as rest : List Value} {r : Option Value} (hc : z_code y pc = some (nx, i)) (h : z_stp S y i nx ls st M = some (.inr (.inr (y', as, rest, nx')))) (hM : z_Met l b sp cA D S d y' as M r M1) (hm : M.length ≤ M1.length ∧ z_sz M ≤ z_sz M1) (h0 : m0 ≤ M.length) (hz0 : z0 ≤ z_sz M) (hrc : M1.length - m0 ≤ R.cells) (hrs : z_sz M1 - z0 ≤ R.slots) (hfd : d + 7 ≤ R.frames) (hld : 100 * (d + 1) + 300 ≤ R.locals)
    (k : z_K b sp cA D p l e R s m args below meth c Q y m0 z0 nx' ls (r.toList ++ rest) M1) : z_K b sp cA D p l e R s m args below meth c Q y m0 z0 pc ls st M := by
  intro H locs lsC hW hL hS
  have hmk := z_callee (C.2.2.2.2.2.2.2.2.2.1) hc h
  obtain ⟨w168, wini, wnm, wpl, wmx⟩ := z_mok_of hmk
  have C2 := C
  obtain ⟨hx, hb, hml, hown, hts, hK, hsp, hbs, hini, hck, hfr, hlo⟩ := C
  have hr := z_rel_of hck hc
  refine z_up h0 hbs hW hS rfl (fun hsz => ?_)
  have hRm : (z_rm d (M1.length - M.length) (z_sz M1 - z_sz M)).frames + 1 ≤ R.frames ∧ 8 + ((z_mt y').2.2.1 + 11) + (z_rm d (M1.length - M.length) (z_sz M1 - z_sz M)).locals ≤ R.locals := ⟨by show d + 6 + 1 ≤ _; omega, z_roomL wmx hld⟩
  have hroom : M.length - m0 + (M1.length - M.length) ≤ R.cells ∧ z_sz M - z0 + (z_sz M1 - z_sz M) ≤ R.slots := ⟨by omega, by omega⟩
  have hgo : ∀ (H1 : Heap) (locs1 : List Loc), nx' = pc + 3 → z_wd b sp cA D M1 H1 → va_S (z_A b) s.heap H1 locs1 → W p l e R s m args below meth c H1 locs1 (M1.length - m0) (z_sz M1 - z0) Q (F0 m (pc + 3) lsC ((r.map (z_v (z_ad b sp))).toList ++ rest.map (z_v (z_ad b sp)))) := by
    intro H1 locs1 hnx hW1 hS1
    have := k H1 locs1 lsC hW1 hL hS1
    rw [List.map_append, hnx] at this
    have e1 : (r.toList).map (z_v (z_ad b sp)) = (r.map (z_v (z_ad b sp))).toList := by cases r <;> rfl
    rw [e1] at this
    exact this
  cases i with
  | invokestatic q =>
    simp only [z_stp] at h
    split at h
    · rename_i hif
      cases h
      simp only [z_rel] at hr
      split at hr
      · rename_i q2 hq
        simp only [Bool.and_eq_true, decide_eq_true_eq] at hr
        obtain ⟨⟨⟨hnx, -⟩, w1⟩, w2⟩ := hr
        refine z_call hm h0 hz0 (va_runS (As := ((st.take (z_mt y').2.2.2.2.1).reverse).map (z_v (z_ad b sp))) (rest := (st.drop (z_mt y').2.2.2.2.1).map (z_v (z_ad b sp))) ⟨hx, hb, hml, hown, hts⟩ hM ⟨callB_of (z_mt y').2.2.2.2.1 hts (z_good (z_wsy_in w168)) rfl rfl rfl (hts _ wini) (hts _ (z_w_of w1)) wnm hRm, hts _ (z_w_of w2)⟩ ⟨z_blind, z_pre C2 hW hS hsz⟩ rfl ?_ hL.1 ?_ (lv_room (z_cat_of hif.2.2)) hq hroom) hS (fun H1 locs1 => hgo H1 locs1 hnx)
        · rw [List.length_map, List.length_reverse, List.length_take]
          exact Nat.min_eq_left hif.1
        · show st.map _ = _
          rw [← List.map_reverse, List.reverse_reverse, ← List.map_append, List.take_append_drop]
      · cases hr
    · cases h
  | invokevirtual q =>
    simp only [z_stp] at h
    split at h
    · rename_i a r2 hdr
      split at h
      · rename_i ci fs hMa
        split at h
        · rename_i hif
          cases h
          simp only [z_rel] at hr
          split at hr
          · rename_i q2 hq
            simp only [Bool.and_eq_true, decide_eq_true_eq] at hr
            obtain ⟨⟨⟨⟨⟨hnx, -⟩, w1⟩, w2⟩, w3⟩, w4⟩ := hr
            have ha : z_ad b sp a = b + a := z_ad_lo (z_lt9 hMa hW.1)
            have hn : (z_mt y').2.2.2.2.1 < st.length := by
              have := congrArg List.length hdr
              rw [List.length_drop, List.length_cons] at this
              omega
            have hst : st = st.take (z_mt y').2.2.2.2.1 ++ .ref a :: rest := by rw [← hdr, List.take_append_drop]
            refine z_call hm h0 hz0 (va_runV (b := z_ad b sp a) (C := (z_mt y').1.cls) (As := ((st.take (z_mt y').2.2.2.2.1).reverse).map (z_v (z_ad b sp))) (rest := rest.map (z_v (z_ad b sp))) ⟨hx, hb, hml, hown, hts⟩ hM ⟨callB_of (z_mt y').2.2.2.2.1 hts (z_good (z_wsy_in w168)) rfl rfl rfl (hts _ wini) (hts _ (z_w_of w1)) wnm hRm, hts _ (z_w_of w2), hts _ (z_w_of w3)⟩ ⟨z_blind, ?_, z_pre (as := .ref a :: (st.take (z_mt y').2.2.2.2.1).reverse) C2 hW hS hsz⟩ rfl ?_ hL.1 ?_ (lv_room (z_cat_of hif.2.2)) hq hroom) hS (fun H1 locs1 => hgo H1 locs1 hnx)
            · rw [ha, ← w4, ← hif.1]
              exact va_recv hK hW.2 (z_cl hif.2.1) (z_ws_at hMa)
            · rw [List.length_map, List.length_reverse, List.length_take]
              exact Nat.min_eq_left (Nat.le_of_lt hn)
            · show st.map _ = _
              rw [← List.map_reverse, List.reverse_reverse]
              conv => lhs; rw [hst]
              rw [List.map_append]
              rfl
          · cases hr
        · cases h
      · cases h
    · cases h
  | invokespecial q =>
    simp only [z_stp] at h
    split at h
    · rename_i a r2 hdr
      split at h
      · rename_i hif
        cases h
        simp only [z_rel] at hr
        split at hr
        · rename_i q2 hq
          simp only [Bool.and_eq_true, decide_eq_true_eq] at hr
          obtain ⟨⟨⟨hnx, -⟩, w1⟩, w2⟩ := hr
          have hn : (z_mt y').2.2.2.2.1 < st.length := by
            have := congrArg List.length hdr
            rw [List.length_drop, List.length_cons] at this
            omega
          have hst : st = st.take (z_mt y').2.2.2.2.1 ++ .ref a :: rest := by rw [← hdr, List.take_append_drop]
          have hwy : z_wsy y' = Cond.code (z_mt y').1 (z_mt y').2.1 (z_mt y').2.2.1 none :: z_gw := by
            unfold z_wsy
            rw [hif.2.2]
          refine z_call hm h0 hz0 (va_runI (b := z_ad b sp a) (As := ((st.take (z_mt y').2.2.2.2.1).reverse).map (z_v (z_ad b sp))) (rest := rest.map (z_v (z_ad b sp))) ⟨hx, hb, hml, hown, hts⟩ hM ⟨callB_of (z_mt y').2.2.2.2.1 hts (z_good (z_wsy_in w168)) hwy rfl rfl (hts _ wini) (hts _ (z_w_of w1)) wnm hRm, hif.2.1, hts _ (z_w_of w2)⟩ ⟨z_blind, z_pre (as := .ref a :: (st.take (z_mt y').2.2.2.2.1).reverse) C2 hW hS hsz⟩ rfl ?_ hL.1 ?_ (lv_room (z_cat_of hif.1)) hq hroom) hS (fun H1 locs1 => hgo H1 locs1 hnx)
          · rw [List.length_map, List.length_reverse, List.length_take]
            exact Nat.min_eq_left (Nat.le_of_lt hn)
          · show st.map _ = _
            rw [← List.map_reverse, List.reverse_reverse]
            conv => lhs; rw [hst]
            rw [List.map_append]
            rfl
        · cases hr
      · cases h
    · cases h
  | _ => exact absurd h (by simp only [z_stp]; (repeat' split) <;> (intro g; cases g))
end ZMA
