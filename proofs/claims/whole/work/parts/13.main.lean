/-- what the small machine runs to, the machine runs to: of methods (a contract), and of what is left of a method (from a place in it) -/
def z_PA (S : ZS) (n : Nat) : Prop := ∀ (l : Launch) (b : Nat) (sp : Nat → Nat) (cA : Nat → ClassId) (D : va_G) (d y : Nat) (as : List Value) (M : ZM) (r : Option Value) (M' : ZM), z_mok y = true → (z_sl as).length ≤ (z_mt y).2.2.1 → z_xm S n d y 0 (z_ent as (z_mt y).2.2.1) [] M = some (r, M') → z_Met l b sp cA D S d y as M r M'
def z_PB (S : ZS) (n : Nat) : Prop := ∀ (b : Nat) (sp : Nat → Nat) (cA : Nat → ClassId) (D : va_G) (p : Program) (l : Launch) (e : Env) (R : Room) (s : State) (m : MethodId) (args : Array Value) (below : List Frame) (meth : Method) (c : Code) (Q : State → Prop) (y m0 z0 d pc : Nat) (ls : ZL) (st : List Value) (M : ZM) (r : Option Value) (M' : ZM), z_xm S n d y pc ls st M = some (r, M') → z_cx b sp cA D S p R s m args meth c y m0 → d + 6 ≤ R.frames → 100 * d + 300 ≤ R.locals → m0 ≤ M.length → z0 ≤ z_sz M → M'.length - m0 ≤ R.cells → z_sz M' - z0 ≤ R.slots →
  (∀ (pc' nx' : Nat) (i' : Instr) (ls' : ZL) (st' : List Value), z_code y pc' = some (nx', i') → z_stp S y i' nx' ls' st' M' = some (.inr (.inl r)) → z_K b sp cA D p l e R s m args below meth c Q y m0 z0 pc' ls' st' M') → z_K b sp cA D p l e R s m args below meth c Q y m0 z0 pc ls st M
set_option maxRecDepth 20000 in
theorem z_BA {S : ZS} {n : Nat} (hck : ∀ y, y < 168 → z_chk y = true) (hB : z_PB S n) : z_PA S n := by
  intro l b sp cA D d y as M r M' hmk hls h
  obtain ⟨w168, wini, wnm, wpl, wmx⟩ := z_mok_of hmk
  unfold z_Met
  refine Met.ofW (cc := (z_mt y).2.1) (maxL := (z_mt y).2.2.1) (ret := (z_mt y).2.2.2.1) wpl rfl ?_
  intro p e s m args below meth c s₁ B hml hv
  obtain ⟨rfl, hsz, hw, hK, hsp⟩ := hv
  have hts := atoms_spec (ws := z_wsy y) B.pre
  have hown : s.vm.findClass (z_mt y).1.cls = some m.cls := findClass_of_methodNamed B.named
  have hlocks := B.notSynchronized
  have C : z_cx b sp cA D S p (headSpec (z_wsy y) (z_rm d (M'.length - M.length) (z_sz M' - z_sz M))).room s m (as.map (z_v (z_ad b sp))).toArray meth c y M.length := ⟨B.exec, B.bytes, hml, hown, fun w hw => hts w (List.mem_cons_of_mem _ hw), hK, hsp, hsz, fun h => (name_of_methodNamed B.named B.method).1.trans h, hck y w168, by show 6 ≤ d + 6; omega, by show 300 ≤ 100 * d + 300; omega⟩
  have h1 := hB b sp cA D p l e (headSpec (z_wsy y) (z_rm d (M'.length - M.length) (z_sz M' - z_sz M))).room s m (as.map (z_v (z_ad b sp))).toArray below meth c (MQ below (z_Qc b sp cA D r M') (as.map (z_v (z_ad b sp))).toArray s (M'.length - M.length) (z_sz M' - z_sz M) (z_A b)) y M.length (z_sz M) d 0 _ _ _ _ _ h C (Nat.le_refl _) (Nat.le_refl _) (Nat.le_refl _) (Nat.le_refl _) (Nat.le_refl _) (Nat.le_refl _) (fun pc' nx' i' ls' st' g1 g2 => z_ret C B.returns hlocks g1 g2)
  rw [lg_entry_eq]
  have h2 := h1 s.heap [] _ hw (z_has_ent hls) va_S.rf
  rw [Nat.sub_self, Nat.sub_self] at h2
  exact h2
set_option maxRecDepth 20000 in
theorem z_AB {S : ZS} {n : Nat} (hL : z_STL) (hCh : z_STC) (hA : z_PA S n) (hB : z_PB S n) : z_PB S (n + 1) := by
  intro b sp cA D p l e R s m args below meth c Q y m0 z0 d pc ls st M r M' h C hfd hld h0 hz0 hrc hrs hend
  unfold z_xm at h
  split at h
  · cases h
  · rename_i nx i hc
    split at h
    · cases h
    · rename_i pc' ls' st' M1 hst
      have g1 := z_mono1 hst
      have g2 := z_mono _ _ _ _ _ _ _ _ _ h
      exact z_step hL hCh C hc hst h0 hz0 (by omega) (by omega) (hB b sp cA D p l e R s m args below meth c Q y m0 z0 d pc' ls' st' M1 r M' h C hfd hld (by omega) (by omega) hrc hrs hend)
    · rename_i r1 hst
      cases h
      exact hend _ _ _ _ _ hc hst
    · rename_i y' as rest nx' hst
      split at h
      · cases h
      · rename_i d'
        split at h
        · rename_i hls
          split at h
          · cases h
          · rename_i r1 M1 h2
            have g1 := z_mono _ _ _ _ _ _ _ _ _ h2
            have g2 := z_mono _ _ _ _ _ _ _ _ _ h
            have hmk := z_callee (C.2.2.2.2.2.2.2.2.2.1) hc hst
            exact z_cst C hc hst (hA l b sp cA D d' y' as M r1 M1 hmk hls h2) g1 h0 hz0 (by omega) (by omega) (by omega) (by omega) (hB b sp cA D p l e R s m args below meth c Q y m0 z0 (d' + 1) nx' ls (r1.toList ++ rest) M1 r M' h C hfd hld (by omega) (by omega) hrc hrs hend)
        · cases h
theorem z_sound (hL : z_STL) (hCh : z_STC) (hck : ∀ y, y < 168 → z_chk y = true) (S : ZS) : ∀ n, z_PB S n := by
  intro n
  induction n with
  | zero => intro b sp cA D p l e R s m args below meth c Q y m0 z0 d pc ls st M r M' h; cases h
  | succ n ih => exact z_AB hL hCh (z_BA hck ih) ih
