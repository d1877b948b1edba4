/-! CHAINS AND SITES AS VALUES -/
/-- a chain: its first cell, how many steps, the steps -/
abbrev ZK : Type := Nat × Nat × (Nat → Int)
/-- where it is behind its n-th step, houses or not -/
def q_pos (W H f : Nat) (s : Nat → Int) : Nat → Option Nat
  | 0 => some f
  | n + 1 => match q_pos W H f s n with
    | some c => p_off W H c (s n)
    | none => none
def q_msk (W H f : Nat) (s : Nat → Int) : Nat → Int32
  | 0 => zI 1 <<< (zI (f : Int) &&& 31)
  | n + 1 => q_msk W H f s n ||| (zI 1 <<< (zI (oI (q_pos W H f s (n + 1)) 0) &&& 31))
/-- a chain lies in the yard, on cells without houses -/
def p_ok (W H : Nat) (hs : Int32) (k : ZK) : Prop := k.1 < W * H ∧ (1 ≤ k.2.1 ∧ k.2.1 ≤ 12) ∧ (∀ j, j < k.2.1 → 0 ≤ k.2.2 j ∧ k.2.2 j ≤ 3) ∧ ∀ i, i ≤ k.2.1 → ∃ c, q_pos W H k.1 k.2.2 i = some c ∧ ¬ bt hs c = true
/-- its last cell -/
def k_last (W H : Nat) (k : ZK) : Nat := (q_pos W H k.1 k.2.2 k.2.1).getD 0
theorem q_of_p {W H f : Nat} {hs : Int32} {s : Nat → Int} : ∀ (n c : Nat), p_pos W H hs f s n = some c → q_pos W H f s n = some c ∧ p_msk W H hs f s n = q_msk W H f s n ∧ ∀ i, 1 ≤ i → i ≤ n → ∃ x, q_pos W H f s i = some x ∧ ¬ bt hs x = true := by
  intro n
  induction n with
  | zero => intro c h; exact ⟨h, rfl, fun i h1 h2 => by omega⟩
  | succ n ih =>
    intro c h
    have h0 := h
    unfold p_pos at h
    split at h
    · rename_i q hq
      obtain ⟨g1, g2, g3⟩ := ih q hq
      unfold p_to at h
      split at h
      · rename_i t ht
        split at h
        · cases h
        · rename_i hb
          cases h
          have e1 : q_pos W H f s (n + 1) = some c := by
            show (match q_pos W H f s n with | some c => p_off W H c (s n) | none => none) = _
            rw [g1]
            exact ht
          refine ⟨e1, ?_, fun i h1 h2 => ?_⟩
          · show p_msk W H hs f s n ||| (zI 1 <<< (zI (oI (p_pos W H hs f s (n + 1)) 0) &&& 31)) = q_msk W H f s n ||| (zI 1 <<< (zI (oI (q_pos W H f s (n + 1)) 0) &&& 31))
            rw [g2, h0, e1]
          · by_cases hi : i = n + 1
            · subst hi
              exact ⟨c, e1, hb⟩
            · exact g3 i h1 (by omega)
      · cases h
    · cases h
theorem p_of_q {W H f : Nat} {hs : Int32} {s : Nat → Int} : ∀ (n : Nat), (∀ i, i ≤ n → ∃ c, q_pos W H f s i = some c ∧ ¬ bt hs c = true) → p_pos W H hs f s n = q_pos W H f s n := by
  intro n
  induction n with
  | zero => intro _; rfl
  | succ n ih =>
    intro h
    have e1 := ih (fun i hi => h i (by omega))
    obtain ⟨c, hc, hb⟩ := h n (by omega)
    obtain ⟨c2, hc2, hb2⟩ := h (n + 1) (by omega)
    show (match p_pos W H hs f s n with | some c => p_to W H hs c (s n) | none => none) = _
    rw [e1, hc, hc2]
    have e2 : p_off W H c (s n) = some c2 := by
      have : (match q_pos W H f s n with | some c => p_off W H c (s n) | none => none) = some c2 := hc2
      rw [hc] at this
      exact this
    show p_to W H hs c (s n) = some c2
    unfold p_to
    rw [e2]
    exact if_neg hb2
theorem q_lt {W H f : Nat} {s : Nat → Int} (hf : f < W * H) : ∀ (n c : Nat), q_pos W H f s n = some c → c < W * H := by
  intro n
  induction n with
  | zero => intro c h; cases h; exact hf
  | succ n ih =>
    intro c h
    unfold q_pos at h
    split at h
    · rename_i q hq
      exact p_off_lt (ih q hq) h
    · cases h
/-- a Chain's ints say this chain -/
def z_rep (W H : Nat) (r : ZCh) (k : ZK) : Prop := r.1 = zI (k.1 : Int) ∧ r.2.1 = zI (k_last W H k : Int) ∧ r.2.2.1 = zI (k.2.1 : Int) ∧ r.2.2.2.1 = q_msk W H k.1 k.2.2 k.2.1 ∧ ∀ j, j < k.2.1 → r.2.2.2.2 j = zI (k.2.2 j)
/-- a Site, as a value: n chains kc -/
def k_A (M : ZM) (a W H L : Nat) (hs lot : Int32) (n : Nat) (kc : Nat → ZK) : Prop := a ≤ 60 ∧ k_O M a W H L hs n lot ∧ ∃ ch, k_R M a ch ∧ ∀ k, k < n → p_ok W H hs (kc k) ∧ z_rep W H (ch k) (kc k)
theorem k_A.chain {M : ZM} {a W H L : Nat} {hs lot : Int32} {n : Nat} {kc : Nat → ZK} (h : k_A M a W H L hs lot n kc) {k : Nat} (hk : k < n) : ∃ (cs : Int32) (g : Nat → Int32), k_C M (a + 2 + 2 * k) (a + 2 + 2 * k + 1) ((kc k).1 : Int) (k_last W H (kc k) : Int) (kc k).2.1 cs g (kc k).2.2 := by
  obtain ⟨ha, hO, ch, ⟨hcf, hR⟩, hk2⟩ := h
  have h4 : k < 4 := by have := hO.2.2.2.2; omega
  obtain ⟨r1, r2⟩ := hR k h4
  obtain ⟨p1, e1, e2, e3, e4, e5⟩ := hk2 k hk
  rw [e1, e2, e3] at r1
  exact ⟨_, _, r1, r2, p1.2.1.2, by omega, fun j hj => ⟨e5 j hj, p1.2.2.1 j hj⟩⟩
/-- two Chains' ints say the same -/
def z_alk (r r2 : ZCh) : Prop := r.1 = r2.1 ∧ r.2.1 = r2.2.1 ∧ r.2.2.1 = r2.2.2.1 ∧ r.2.2.2.1 = r2.2.2.2.1 ∧ ∀ j, j < 12 → r.2.2.2.2 j = r2.2.2.2.2 j
theorem z_rep.alk {W H : Nat} {r r2 : ZCh} {k : ZK} (h : z_alk r r2) (hk : k.2.1 ≤ 12) (h2 : z_rep W H r2 k) : z_rep W H r k := ⟨h.1.trans h2.1, h.2.1.trans h2.2.1, h.2.2.1.trans h2.2.2.1, h.2.2.2.1.trans h2.2.2.2.1, fun j hj => (h.2.2.2.2 j (by omega)).trans (h2.2.2.2.2 j hj)⟩
/-- what is written of one chain's two cells -/
def w_c (M : ZM) (c : Nat) (r : ZCh) : ZM := (M.set c (.inl (0, [.int r.1, .int r.2.1, .int r.2.2.1, .int r.2.2.2.1, .ref (c + 1)]))).set (c + 1) (.inr (0, 12, .inl r.2.2.2.2))
theorem w_c_at {M : ZM} {c : Nat} {r r0 : ZCh} (h : k_c M c r0) : k_c (w_c M c r) c r := ⟨z_gn (by omega) (z_gs h.1), z_gs (z_gn (by omega) h.2)⟩
theorem w_c_ne {M : ZM} {c k : Nat} {r : ZCh} {x : Option ZE} (h1 : k ≠ c) (h2 : k ≠ c + 1) (h : M[k]? = x) : (w_c M c r)[k]? = x := z_gn (fun g => h2 g.symm) (z_gn (fun g => h1 g.symm) h)
theorem w_c_len {M : ZM} {c : Nat} {r : ZCh} : (w_c M c r).length = M.length := by
  unfold w_c
  rw [List.length_set, List.length_set]
theorem w_c_kc {M : ZM} {c k : Nat} {r r0 : ZCh} (h1 : k + 2 ≤ c ∨ c + 2 ≤ k) (h : k_c M k r0) : k_c (w_c M c r) k r0 := ⟨w_c_ne (by omega) (by omega) h.1, w_c_ne (by omega) (by omega) h.2⟩
/-- only places that P names are changed -/
def z_ev (M M' : ZM) (P : Nat → Prop) : Prop := M'.length = M.length ∧ ∀ k, ¬ P k → M'[k]? = M[k]?
theorem z_ev.rf {M : ZM} {P : Nat → Prop} : z_ev M M P := ⟨rfl, fun _ _ => rfl⟩
theorem z_ev.tr {M M1 M2 : ZM} {P : Nat → Prop} (h : z_ev M M1 P) (h2 : z_ev M1 M2 P) : z_ev M M2 P := ⟨h2.1.trans h.1, fun k hk => (h2.2 k hk).trans (h.2 k hk)⟩
theorem z_ev.wk {M M1 : ZM} {P Q : Nat → Prop} (h : z_ev M M1 P) (hPQ : ∀ k, P k → Q k) : z_ev M M1 Q := ⟨h.1, fun k hk => h.2 k (fun g => hk (hPQ k g))⟩
theorem z_ev.set {M : ZM} {P : Nat → Prop} {a : Nat} {e : ZE} (h : P a) : z_ev M (M.set a e) P := ⟨List.length_set, fun k hk => z_gn (fun g => hk (g ▸ h)) rfl⟩
theorem z_ev.wc {M : ZM} {P : Nat → Prop} {c : Nat} {r : ZCh} (h : P c) (h2 : P (c + 1)) : z_ev M (w_c M c r) P := ⟨w_c_len, fun k hk => w_c_ne (fun g => hk (g ▸ h)) (fun g => hk (g ▸ h2)) rfl⟩
section CW
variable {S : ZS} {d : Nat} {M : ZM} {c c2 : Nat} {r r2 : ZCh}
theorem c_copyC (h : k_c M c r) (k : k_c M c2 r2) (hne : c + 2 ≤ c2 ∨ c2 + 2 ≤ c) : z_C S d 1 [.ref c, .ref c2] M none (w_c M c (r2.1, r2.2.1, r2.2.2.1, r2.2.2.2.1, va_cpy r2.2.2.2.2 r.2.2.2.2 0 0 12)) := by
  refine c_of rfl rfl (Nat.le_of_ble_eq_true rfl) ?_
  refine g_al rfl rfl ?_
  refine g_al rfl rfl ?_
  refine g_gf rfl k.1 rfl rfl ?_
  refine g_pf0 rfl h.1 rfl rfl rfl (Or.inl rfl) ?_
  refine g_al rfl rfl ?_
  refine g_al rfl rfl ?_
  refine g_gf rfl (z_gn (by omega) k.1) rfl rfl ?_
  refine g_pf1 rfl (z_gs h.1) rfl rfl rfl (Or.inl rfl) ?_
  rw [List.set_set]
  refine g_al rfl rfl ?_
  refine g_al rfl rfl ?_
  refine g_gf rfl (z_gn (by omega) k.1) rfl rfl ?_
  refine g_pf2 rfl (z_gs h.1) rfl rfl rfl (Or.inl rfl) ?_
  rw [List.set_set]
  refine g_al rfl rfl ?_
  refine g_al rfl rfl ?_
  refine g_gf rfl (z_gn (by omega) k.1) rfl rfl ?_
  refine g_pf3 rfl (z_gs h.1) rfl rfl rfl (Or.inl rfl) ?_
  rw [List.set_set]
  refine g_al rfl rfl ?_
  refine g_gf rfl (z_gn (by omega) k.1) rfl rfl ?_
  refine g_ic rfl ?_
  refine g_al rfl rfl ?_
  refine g_gf rfl (z_gs h.1) rfl rfl ?_
  refine g_ic rfl ?_
  refine g_ic rfl ?_
  refine g_cpy rfl (z_gn (by omega) k.2) (z_gn (by omega) h.2) (by rw [zI_cl ⟨by omega, by omega⟩, zI_cl ⟨by omega, by omega⟩]; decide) ?_
  rw [zI_cl ⟨by omega, by omega⟩, zI_cl ⟨by omega, by omega⟩]
  exact g_retv rfl (rfl) rfl
theorem z_alk_cpy : z_alk (r2.1, r2.2.1, r2.2.2.1, r2.2.2.2.1, va_cpy r2.2.2.2.2 r.2.2.2.2 0 0 12) r2 := ⟨rfl, rfl, rfl, rfl, fun j hj => by
  show va_cpy r2.2.2.2.2 r.2.2.2.2 0 0 12 j = _
  rw [pk_cpy_in (by omega) (by omega)]
  rw [show 0 + (j - 0) = j by omega]⟩
end CW
section SW
variable {S : ZS} {d : Nat} {a b W H L W2 H2 L2 n n2 : Nat} {hs lot hs2 lot2 : Int32} {ch ch2 : Nat → ZCh}
/-- a Site's own cell, whatever its ints are -/
def k_o (M : ZM) (a : Nat) (v : Nat → Int32) : Prop := M[a]? = some (.inl (2, [.int (v 0), .int (v 1), .int (v 2), .int (v 3), .int (v 4), .int (v 5), .ref (a + 1)]))
def z_sI (a : Nat) : Nat → Prop := fun k => a ≤ k ∧ k < a + 10
theorem k_c.eqv {M M' : ZM} {P : Nat → Prop} {c : Nat} {r : ZCh} (e : z_ev M M' P) (h1 : ¬ P c) (h2 : ¬ P (c + 1)) (h : k_c M c r) : k_c M' c r := ⟨(e.2 _ h1).trans h.1, (e.2 _ h2).trans h.2⟩
theorem k_R.eqv {M M' : ZM} {P : Nat → Prop} {a : Nat} {ch : Nat → ZCh} (e : z_ev M M' P) (h0 : ∀ k, a ≤ k → k < a + 10 → ¬ P k) (h : k_R M a ch) : k_R M' a ch := by
  obtain ⟨⟨cf, g1, g2⟩, g3⟩ := h
  exact ⟨⟨cf, (e.2 _ (h0 _ (by omega) (by omega))).trans g1, g2⟩, fun k hk => (g3 k hk).eqv e (h0 _ (by omega) (by omega)) (h0 _ (by omega) (by omega))⟩
theorem c_copyS_l (hab : a + 10 ≤ b ∨ b + 10 ≤ a) {M : ZM} (hb : k_R M b ch2) : ∀ (m i : Nat) (M1 : ZM), i + m = 4 → (z_ev M M1 (z_sI a) ∧ ∃ v v2 ch, k_o M1 a v ∧ k_o M1 b v2 ∧ k_R M1 a ch ∧ ∀ k, k < i → z_alk (ch k) (ch2 k)) → ∃ M', z_G S (d + 1) 32 50 [some (.ref a), some (.ref b), some (.int (zI (i : Int)))] [] M1 none M' ∧ z_ev M M' (z_sI a) ∧ (∃ ch, k_R M' a ch ∧ ∀ k, k < 4 → z_alk (ch k) (ch2 k)) ∧ M'[a]? = M1[a]? := by
  intro m
  induction m with
  | zero =>
    intro i M1 hi hI
    obtain ⟨hE, v, v2, ch, h1, h2, hR, hA⟩ := hI
    obtain ⟨⟨cf, c1, c2⟩, c5⟩ := id hR
    refine ⟨M1, ?_, hE, ⟨ch, hR, fun k hk => hA k (by omega)⟩, rfl⟩
    refine g_il rfl rfl ?_
    refine g_ic rfl ?_
    refine g_icT rfl (zcT3 ⟨by omega, by omega⟩ ⟨by omega, by omega⟩ (by omega)) ?_
    exact g_retv rfl (rfl) rfl
  | succ m ih =>
    intro i M1 hi hI
    obtain ⟨hE, v, v2, ch, h1, h2, hR, hA⟩ := hI
    have hRb := hb.eqv hE (fun k g1 g2 g3 => by unfold z_sI at g3; omega)
    obtain ⟨⟨cf, c1, c2⟩, c5⟩ := id hR
    obtain ⟨⟨cf2, c3, c4⟩, c6⟩ := id hRb
    have r1 := c5 i (by omega)
    have r2 := c6 i (by omega)
    have hP1 : z_sI a (a + 2 + 2 * i) := by unfold z_sI; omega
    have hP2 : z_sI a (a + 2 + 2 * i + 1) := by unfold z_sI; omega
    obtain ⟨M', hG, g2, g3, g4⟩ := ih (i + 1) (w_c M1 (a + 2 + 2 * i) ((ch2 i).1, (ch2 i).2.1, (ch2 i).2.2.1, (ch2 i).2.2.2.1, va_cpy (ch2 i).2.2.2.2 (ch i).2.2.2.2 0 0 12)) (by omega) ⟨hE.tr (.wc hP1 hP2), v, v2, (fun k => if k = i then ((ch2 i).1, (ch2 i).2.1, (ch2 i).2.2.1, (ch2 i).2.2.2.1, va_cpy (ch2 i).2.2.2.2 (ch i).2.2.2.2 0 0 12) else ch k), w_c_ne (by omega) (by omega) h1, w_c_ne (by omega) (by omega) h2, ⟨⟨cf, w_c_ne (by omega) (by omega) c1, c2⟩, fun k hk => by
      by_cases e : k = i
      · subst e
        dsimp only
        rw [if_pos rfl]
        exact w_c_at r1
      · dsimp only
        rw [if_neg e]
        exact w_c_kc (by omega) (c5 k hk)⟩, fun k hk => by
      by_cases e : k = i
      · subst e
        dsimp only
        rw [if_pos rfl]
        exact z_alk_cpy
      · dsimp only
        rw [if_neg e]
        exact hA k (by omega)⟩
    refine ⟨M', ?_, g2, g3, g4.trans (w_c_ne (by omega) (by omega) rfl)⟩
    refine g_il rfl rfl ?_
    refine g_ic rfl ?_
    refine g_icF rfl (zcF3 ⟨by omega, by omega⟩ ⟨by omega, by omega⟩ (by omega)) ?_
    refine g_al rfl rfl ?_
    refine g_gf rfl h1 rfl rfl ?_
    refine g_il rfl rfl ?_
    refine g_aaI4 rfl c1 (by omega) (by omega) (by omega) (by rw [Int.toNat_natCast, c2 i (by omega)]) ?_
    refine g_al rfl rfl ?_
    refine g_gf rfl h2 rfl rfl ?_
    refine g_il rfl rfl ?_
    refine g_aaI4 rfl c3 (by omega) (by omega) (by omega) (by rw [Int.toNat_natCast, c4 i (by omega)]) ?_
    refine g_cv1v rfl rfl r1.1 rfl (by decide) rfl (c_copyC r1 r2 (by omega)) ?_
    refine g_jj2 rfl rfl ?_
    refine g_goto rfl ?_
    exact hG
theorem c_copyS {M : ZM} {v v2 : Nat → Int32} (hab : a + 10 ≤ b ∨ b + 10 ≤ a) (h1 : k_o M a v) (hR : k_R M a ch) (h2 : k_o M b v2) (hb : k_R M b ch2) : ∃ M', z_C S (d + 1) 32 [.ref a, .ref b] M none M' ∧ z_ev M M' (z_sI a) ∧ k_o M' a v2 ∧ ∃ ch, k_R M' a ch ∧ ∀ k, k < 4 → z_alk (ch k) (ch2 k) := by
  have hP : z_sI a a := by unfold z_sI; omega
  obtain ⟨M', hG, g2, g3, g4⟩ := c_copyS_l (S := S) (d := d) hab (M := M.set a (.inl (2, [.int (v2 0), .int (v2 1), .int (v2 2), .int (v2 3), .int (v2 4), .int (v2 5), .ref (a + 1)]))) (ch2 := ch2) (hb.eqv (.set hP) (fun k g1 g2 g3 => by unfold z_sI at g3; omega)) 4 0 (M.set a (.inl (2, [.int (v2 0), .int (v2 1), .int (v2 2), .int (v2 3), .int (v2 4), .int (v2 5), .ref (a + 1)]))) (by omega) ⟨.rf, v2, v2, ch, z_gs h1, z_gn (by omega) h2, by
    obtain ⟨⟨cf, c1, c2⟩, c5⟩ := id hR
    exact ⟨⟨cf, z_gn (by omega) c1, c2⟩, fun k hk => ⟨z_gn (by omega) (c5 k hk).1, z_gn (by omega) (c5 k hk).2⟩⟩, fun k hk => by omega⟩
  refine ⟨M', ?_, (z_ev.set hP).tr g2, g4.trans (z_gs h1), g3⟩
  refine c_of rfl rfl (Nat.le_of_ble_eq_true rfl) ?_
  refine g_al rfl rfl ?_
  refine g_al rfl rfl ?_
  refine g_gf rfl h2 rfl rfl ?_
  refine g_pf0 rfl h1 rfl rfl rfl (Or.inl rfl) ?_
  refine g_al rfl rfl ?_
  refine g_al rfl rfl ?_
  refine g_gf rfl (z_gn (by omega) h2) rfl rfl ?_
  refine g_pf1 rfl (z_gs h1) rfl rfl rfl (Or.inl rfl) ?_
  rw [List.set_set]
  refine g_al rfl rfl ?_
  refine g_al rfl rfl ?_
  refine g_gf rfl (z_gn (by omega) h2) rfl rfl ?_
  refine g_pf2 rfl (z_gs h1) rfl rfl rfl (Or.inl rfl) ?_
  rw [List.set_set]
  refine g_al rfl rfl ?_
  refine g_al rfl rfl ?_
  refine g_gf rfl (z_gn (by omega) h2) rfl rfl ?_
  refine g_pf3 rfl (z_gs h1) rfl rfl rfl (Or.inl rfl) ?_
  rw [List.set_set]
  refine g_al rfl rfl ?_
  refine g_al rfl rfl ?_
  refine g_gf rfl (z_gn (by omega) h2) rfl rfl ?_
  refine g_pf4 rfl (z_gs h1) rfl rfl rfl (Or.inl rfl) ?_
  rw [List.set_set]
  refine g_al rfl rfl ?_
  refine g_al rfl rfl ?_
  refine g_gf rfl (z_gn (by omega) h2) rfl rfl ?_
  refine g_pf5 rfl (z_gs h1) rfl rfl rfl (Or.inl rfl) ?_
  rw [List.set_set]
  refine g_ic rfl ?_
  refine g_is2 rfl rfl ?_
  exact hG
end SW
