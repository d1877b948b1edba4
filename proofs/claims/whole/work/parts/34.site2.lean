/-! joints; a Site's chains -/
/-- a joint: the second begins where the first ends, and the runs that meet are too long together -/
def p_join (la : Int) (s : Nat → Int) (N : Nat) (f2 : Int) (s2 : Nat → Int) (N2 lim : Nat) : Bool := decide (la = f2) && (decide (s (N - 1) = s2 0) && decide (lim < p_run s (N - 1) + p_first s2 N2))
def p_trod (cs : Nat → Int32) : Nat → Int32
  | 0 => zI 0
  | k + 1 => p_trod cs k ||| cs k
/-- where a chain is behind its n-th step -/
def p_pos (W H : Nat) (hs : Int32) (f : Nat) (s : Nat → Int) : Nat → Option Nat
  | 0 => some f
  | n + 1 => match p_pos W H hs f s n with
    | some c => p_to W H hs c (s n)
    | none => none
/-- the cells that it has come to -/
def p_msk (W H : Nat) (hs : Int32) (f : Nat) (s : Nat → Int) : Nat → Int32
  | 0 => zI 1 <<< (zI (f : Int) &&& 31)
  | n + 1 => p_msk W H hs f s n ||| (zI 1 <<< (zI (oI (p_pos W H hs f s (n + 1)) 0) &&& 31))
theorem p_to_lt {W H c t : Nat} {hs : Int32} {st : Int} (hc : c < W * H) (h : p_to W H hs c st = some t) : t < W * H := by
  unfold p_to at h
  split at h
  · rename_i q hq
    split at h
    · cases h
    · cases h
      exact p_off_lt hc hq
  · cases h
theorem p_pos_lt {W H f : Nat} {hs : Int32} {s : Nat → Int} (hf : f < W * H) : ∀ (n c : Nat), p_pos W H hs f s n = some c → c < W * H := by
  intro n
  induction n with
  | zero => intro c h; cases h; exact hf
  | succ n ih =>
    intro c h
    unfold p_pos at h
    split at h
    · rename_i q hq
      exact p_to_lt (ih q hq) h
    · cases h
theorem p_pos_none {W H f : Nat} {hs : Int32} {s : Nat → Int} {n : Nat} (h : p_pos W H hs f s n = none) : ∀ k, p_pos W H hs f s (n + k) = none := by
  intro k
  induction k with
  | zero => exact h
  | succ k ih =>
    show (match p_pos W H hs f s (n + k) with | some c => p_to W H hs c (s (n + k)) | none => none) = none
    rw [ih]
section JN
variable {S : ZS} {d : Nat} {M : ZM} {c sa c2 sa2 : Nat} {f la f2 la2 : Int} {N N2 : Nat} {cs cs2 : Int32} {g g2 : Nat → Int32} {s s2 : Nat → Int}
theorem c_joins (h : k_C M c sa f la N cs g s) (k : k_C M c2 sa2 f2 la2 N2 cs2 g2 s2) (hN : 1 ≤ N) (hN2 : 1 ≤ N2) (hla : z_sm la) (hf2 : z_sm f2) {lim : Nat} (hlim : lim ≤ 1000) : z_C S (d + 2) 9 [.ref c, .ref c2, .int (zI (lim : Int))] M (some (.int (zI (if p_join la s N f2 s2 N2 lim = true then 1 else 0)))) M := by
  obtain ⟨h1, h2, h3, h4, h5⟩ := id h
  obtain ⟨k1, k2, k3, k4, k5⟩ := id k
  refine c_of rfl rfl (Nat.le_of_ble_eq_true rfl) ?_
  refine g_al rfl rfl ?_
  refine g_gf rfl h1 rfl rfl ?_
  refine g_al rfl rfl ?_
  refine g_gf rfl k1 rfl rfl ?_
  by_cases hl : la = f2
  · refine g_icF rfl (zcF1 (hl)) ?_
    refine g_al rfl rfl ?_
    refine g_al rfl rfl ?_
    refine g_gf rfl h1 rfl rfl ?_
    refine g_ic rfl ?_
    refine g_subI rfl ?_
    refine g_cv1 rfl rfl h1 rfl (by decide) rfl (c_stepAt h (by omega) (by omega)) ?_
    refine g_al rfl rfl ?_
    refine g_ic rfl ?_
    refine g_cv1 rfl rfl k1 rfl (by decide) rfl (c_stepAt k (i := 0) (by omega) (by omega)) ?_
    rw [show ((N : Int) - 1).toNat = N - 1 by omega, show (0 : Int).toNat = 0 from rfl]
    have e1 := (h5 (N - 1) (by omega)).2
    have e2 := (k5 0 (by omega)).2
    by_cases hs : s (N - 1) = s2 0
    · refine g_icF rfl (zcF1 (hs)) ?_
      refine g_al rfl rfl ?_
      refine g_al rfl rfl ?_
      refine g_gf rfl h1 rfl rfl ?_
      refine g_ic rfl ?_
      refine g_subI rfl ?_
      rw [show (N : Int) - 1 = ((N - 1 : Nat) : Int) by omega]
      refine g_cv1 rfl rfl h1 rfl (by decide) rfl (c_runUpTo h (i := N - 1) (by omega)) ?_
      refine g_al rfl rfl ?_
      refine g_cv0 rfl rfl k1 rfl (by decide) rfl (c_firstRun k hN2) ?_
      refine g_addI rfl ?_
      refine g_il rfl rfl ?_
      have e3 := p_run_le s (N - 1)
      have e4 := p_fr_le s2 N2 N2 1
      have e5 : p_first s2 N2 ≤ 12 := by unfold p_first; omega
      by_cases hr : lim < p_run s (N - 1) + p_first s2 N2
      · refine g_icF rfl (zcF5 ⟨by omega, by omega⟩ ⟨by omega, by omega⟩ (by omega)) ?_
        refine g_ic rfl ?_
        refine g_goto rfl ?_
        exact g_reti rfl (by unfold p_join; rw [decide_eq_true hl, decide_eq_true hs, decide_eq_true hr]; rfl) rfl
      · refine g_icT rfl (zcT5 ⟨by omega, by omega⟩ ⟨by omega, by omega⟩ (by omega)) ?_
        refine g_ic rfl ?_
        exact g_reti rfl (by unfold p_join; rw [decide_eq_true hl, decide_eq_true hs, decide_eq_false hr]; rfl) rfl
    · refine g_icT rfl (zcT1 ⟨by omega, by omega⟩ ⟨by omega, by omega⟩ (hs)) ?_
      refine g_ic rfl ?_
      exact g_reti rfl (by unfold p_join; rw [decide_eq_true hl, decide_eq_false hs]; rfl) rfl
  · refine g_icT rfl (zcT1 ⟨by omega, by omega⟩ ⟨by omega, by omega⟩ (hl)) ?_
    refine g_ic rfl ?_
    exact g_reti rfl (by unfold p_join; rw [decide_eq_false hl]; rfl) rfl
end JN
section SC
variable {S : ZS} {d : Nat} {M : ZM} {a W H L n : Nat} {hs lot : Int32} {ch : Nat → ZCh}
theorem c_trodden_l (h : k_O M a W H L hs n lot) (hR : k_R M a ch) : ∀ (m i : Nat), i + m = n → z_G S d 38 4 [some (.ref a), some (.int (p_trod (fun k => (ch k).2.2.2.1) i)), some (.int (zI (i : Int)))] [] M (some (.int (p_trod (fun k => (ch k).2.2.2.1) n))) M := by
  obtain ⟨h1, ⟨hW1, hW2⟩, ⟨hH1, hH2⟩, ⟨hL1, hL2⟩, hn⟩ := id h
  have hC := h.wh
  have eC : (W : Int) * (H : Int) = ((W * H : Nat) : Int) := (Int.natCast_mul W H).symm
  obtain ⟨⟨cf, r1, r2⟩, r3⟩ := id hR
  intro m
  induction m with
  | zero =>
    intro i hi
    refine g_il rfl rfl ?_
    refine g_al rfl rfl ?_
    refine g_gf rfl h1 rfl rfl ?_
    refine g_icT rfl (zcT3 ⟨by omega, by omega⟩ ⟨by omega, by omega⟩ (by omega)) ?_
    refine g_il rfl rfl ?_
    exact g_reti rfl (by rw [show i = n by omega]) rfl
  | succ m ih =>
    intro i hi
    refine g_il rfl rfl ?_
    refine g_al rfl rfl ?_
    refine g_gf rfl h1 rfl rfl ?_
    refine g_icF rfl (zcF3 ⟨by omega, by omega⟩ ⟨by omega, by omega⟩ (by omega)) ?_
    refine g_il rfl rfl ?_
    refine g_ic rfl ?_
    refine g_icF rfl (zcF3 ⟨by omega, by omega⟩ ⟨by omega, by omega⟩ (by omega)) ?_
    refine g_il rfl rfl ?_
    refine g_al rfl rfl ?_
    refine g_gf rfl h1 rfl rfl ?_
    refine g_il rfl rfl ?_
    refine g_aaI4 rfl r1 (by omega) (by omega) (by omega) (by rw [Int.toNat_natCast, r2 i (by omega)]) ?_
    refine g_gf rfl (r3 i (by omega)).1 rfl rfl ?_
    refine g_ior rfl ?_
    refine g_is1 rfl rfl ?_
    refine g_jj2 rfl rfl ?_
    refine g_goto rfl ?_
    exact ih (i + 1) (by omega)
theorem c_trodden (h : k_O M a W H L hs n lot) (hR : k_R M a ch) : z_C S d 38 [.ref a] M (some (.int (p_trod (fun k => (ch k).2.2.2.1) n))) M := by
  obtain ⟨h1, ⟨hW1, hW2⟩, ⟨hH1, hH2⟩, ⟨hL1, hL2⟩, hn⟩ := id h
  have hC := h.wh
  have eC : (W : Int) * (H : Int) = ((W * H : Nat) : Int) := (Int.natCast_mul W H).symm
  obtain ⟨⟨cf, r1, r2⟩, r3⟩ := id hR
  refine c_of rfl rfl (Nat.le_of_ble_eq_true rfl) ?_
  refine g_ic rfl ?_
  refine g_is1 rfl rfl ?_
  refine g_ic rfl ?_
  refine g_is2 rfl rfl ?_
  exact c_trodden_l h hR n 0 (by omega)
theorem c_isTrodden (h : k_O M a W H L hs n lot) (hR : k_R M a ch) {c : Int} (hc : z_sm c) : z_C S (d + 1) 36 [.ref a, .int (zI c)] M (some (.int (zI (if 0 ≤ c ∧ c < ((W * H : Nat) : Int) ∧ bt (p_trod (fun k => (ch k).2.2.2.1) n) c.toNat = true then 1 else 0)))) M := by
  obtain ⟨h1, ⟨hW1, hW2⟩, ⟨hH1, hH2⟩, ⟨hL1, hL2⟩, hn⟩ := id h
  have hC := h.wh
  have eC : (W : Int) * (H : Int) = ((W * H : Nat) : Int) := (Int.natCast_mul W H).symm
  obtain ⟨⟨cf, r1, r2⟩, r3⟩ := id hR
  refine c_of rfl rfl (Nat.le_of_ble_eq_true rfl) ?_
  refine g_al rfl rfl ?_
  refine g_il rfl rfl ?_
  refine g_cv1 rfl rfl h1 rfl (by decide) rfl (c_has h hc) ?_
  by_cases h0 : 0 ≤ c ∧ c < ((W * H : Nat) : Int)
  · rw [if_pos h0]
    refine g_ifF rfl (zcF0 ⟨by omega, by omega⟩ ⟨by omega, by omega⟩ (by decide)) ?_
    refine g_al rfl rfl ?_
    refine g_cv0 rfl rfl h1 rfl (by decide) rfl (c_trodden h hR) ?_
    refine g_il rfl rfl ?_
    refine g_ishr rfl ?_
    refine g_ic rfl ?_
    refine g_iand rfl ?_
    refine g_ic rfl ?_
    rw [show c = ((c.toNat : Nat) : Int) by omega, z_bit _ (c := c.toNat) (by omega)]
    by_cases hb : bt (p_trod (fun k => (ch k).2.2.2.1) n) c.toNat = true
    · rw [if_pos hb]
      refine g_icF rfl (zcF1 (rfl)) ?_
      refine g_ic rfl ?_
      refine g_goto rfl ?_
      exact g_reti rfl (by rw [if_pos ⟨by omega, by omega, hb⟩]) rfl
    · rw [if_neg hb]
      refine g_icT rfl (zcT1 ⟨by omega, by omega⟩ ⟨by omega, by omega⟩ (by decide)) ?_
      refine g_ic rfl ?_
      exact g_reti rfl (by rw [if_neg (fun g => hb g.2.2)]) rfl
  · rw [if_neg h0]
    refine g_ifT rfl (zcT0 (rfl)) ?_
    refine g_ic rfl ?_
    exact g_reti rfl (by rw [if_neg (fun g => h0 ⟨g.1, g.2.1⟩)]) rfl
theorem c_isOpen (h : k_O M a W H L hs n lot) (hR : k_R M a ch) {c : Int} (hc : z_sm c) : z_C S (d + 2) 37 [.ref a, .int (zI c)] M (some (.int (zI (if 0 ≤ c ∧ c < ((W * H : Nat) : Int) ∧ ¬ bt hs c.toNat = true ∧ ¬ bt (p_trod (fun k => (ch k).2.2.2.1) n) c.toNat = true then 1 else 0)))) M := by
  obtain ⟨h1, ⟨hW1, hW2⟩, ⟨hH1, hH2⟩, ⟨hL1, hL2⟩, hn⟩ := id h
  have hC := h.wh
  have eC : (W : Int) * (H : Int) = ((W * H : Nat) : Int) := (Int.natCast_mul W H).symm
  obtain ⟨⟨cf, r1, r2⟩, r3⟩ := id hR
  refine c_of rfl rfl (Nat.le_of_ble_eq_true rfl) ?_
  refine g_al rfl rfl ?_
  refine g_il rfl rfl ?_
  refine g_cv1 rfl rfl h1 rfl (by decide) rfl (c_isFree h hc) ?_
  by_cases h0 : 0 ≤ c ∧ c < ((W * H : Nat) : Int) ∧ ¬ bt hs c.toNat = true
  · rw [if_pos h0]
    refine g_ifF rfl (zcF0 ⟨by omega, by omega⟩ ⟨by omega, by omega⟩ (by decide)) ?_
    refine g_al rfl rfl ?_
    refine g_il rfl rfl ?_
    refine g_cv1 rfl rfl h1 rfl (by decide) rfl (c_isTrodden h hR hc) ?_
    by_cases h2 : 0 ≤ c ∧ c < ((W * H : Nat) : Int) ∧ bt (p_trod (fun k => (ch k).2.2.2.1) n) c.toNat = true
    · rw [if_pos h2]
      refine g_ifT rfl (zcT1 ⟨by omega, by omega⟩ ⟨by omega, by omega⟩ (by decide)) ?_
      refine g_ic rfl ?_
      exact g_reti rfl (by rw [if_neg (fun g => g.2.2.2 h2.2.2)]) rfl
    · rw [if_neg h2]
      refine g_ifF rfl (zcF1 (rfl)) ?_
      refine g_ic rfl ?_
      refine g_goto rfl ?_
      exact g_reti rfl (by rw [if_pos ⟨h0.1, h0.2.1, h0.2.2, fun g => h2 ⟨h0.1, h0.2.1, g⟩⟩]) rfl
  · rw [if_neg h0]
    refine g_ifT rfl (zcT0 (rfl)) ?_
    refine g_ic rfl ?_
    exact g_reti rfl (by rw [if_neg (fun g => h0 ⟨g.1, g.2.1, g.2.2.1⟩)]) rfl
/-- the open cells -/
def p_open (W H : Nat) (hs t : Int32) : Int32 := ((zI 1 <<< (zI ((W * H : Nat) : Int) &&& 31)) - zI 1) &&& (hs ^^^ zI (-1)) &&& (t ^^^ zI (-1))
theorem c_openCells (h : k_O M a W H L hs n lot) (hR : k_R M a ch) : z_C S (d + 1) 39 [.ref a] M (some (.int (p_open W H hs (p_trod (fun k => (ch k).2.2.2.1) n)))) M := by
  obtain ⟨h1, ⟨hW1, hW2⟩, ⟨hH1, hH2⟩, ⟨hL1, hL2⟩, hn⟩ := id h
  have hC := h.wh
  have eC : (W : Int) * (H : Int) = ((W * H : Nat) : Int) := (Int.natCast_mul W H).symm
  obtain ⟨⟨cf, r1, r2⟩, r3⟩ := id hR
  refine c_of rfl rfl (Nat.le_of_ble_eq_true rfl) ?_
  refine g_ic rfl ?_
  refine g_al rfl rfl ?_
  refine g_gf rfl h1 rfl rfl ?_
  refine g_al rfl rfl ?_
  refine g_gf rfl h1 rfl rfl ?_
  refine g_mulI rfl ?_
  refine g_ishl rfl ?_
  refine g_ic rfl ?_
  refine g_isub rfl ?_
  refine g_al rfl rfl ?_
  refine g_gf rfl h1 rfl rfl ?_
  refine g_ic rfl ?_
  refine g_ixor rfl ?_
  refine g_iand rfl ?_
  refine g_al rfl rfl ?_
  refine g_cv0 rfl rfl h1 rfl (by decide) rfl (c_trodden h hR) ?_
  refine g_ic rfl ?_
  refine g_ixor rfl ?_
  refine g_iand rfl ?_
  rw [eC]
  exact g_reti rfl (rfl) rfl
theorem c_chainAt (h : k_O M a W H L hs n lot) (hR : k_R M a ch) {k : Int} (h0 : 0 ≤ k) (hk : k < n) : z_C S d 41 [.ref a, .int (zI k)] M (some (.ref (a + 2 + 2 * k.toNat))) M := by
  obtain ⟨h1, ⟨hW1, hW2⟩, ⟨hH1, hH2⟩, ⟨hL1, hL2⟩, hn⟩ := id h
  have hC := h.wh
  have eC : (W : Int) * (H : Int) = ((W * H : Nat) : Int) := (Int.natCast_mul W H).symm
  obtain ⟨⟨cf, r1, r2⟩, r3⟩ := id hR
  refine c_of rfl rfl (Nat.le_of_ble_eq_true rfl) ?_
  refine g_il rfl rfl ?_
  refine g_ifF rfl (zcF2 ⟨by omega, by omega⟩ ⟨by omega, by omega⟩ (by omega)) ?_
  refine g_il rfl rfl ?_
  refine g_al rfl rfl ?_
  refine g_gf rfl h1 rfl rfl ?_
  refine g_icF rfl (zcF3 ⟨by omega, by omega⟩ ⟨by omega, by omega⟩ (by omega)) ?_
  refine g_il rfl rfl ?_
  refine g_ic rfl ?_
  refine g_icF rfl (zcF3 ⟨by omega, by omega⟩ ⟨by omega, by omega⟩ (by omega)) ?_
  refine g_al rfl rfl ?_
  refine g_gf rfl h1 rfl rfl ?_
  refine g_il rfl rfl ?_
  refine g_aaI4 rfl r1 (by omega) (by omega) (by omega) (by rw [r2 k.toNat (by omega)]) ?_
  refine g_goto rfl ?_
  exact g_reta rfl (rfl) rfl
theorem c_chainAtN (h : k_O M a W H L hs n lot) (hR : k_R M a ch) {k : Int} (hk : z_sm k) (h9 : k < 0 ∨ (n : Int) ≤ k) : z_C S d 41 [.ref a, .int (zI k)] M (some .null) M := by
  obtain ⟨h1, ⟨hW1, hW2⟩, ⟨hH1, hH2⟩, ⟨hL1, hL2⟩, hn⟩ := id h
  have hC := h.wh
  have eC : (W : Int) * (H : Int) = ((W * H : Nat) : Int) := (Int.natCast_mul W H).symm
  obtain ⟨⟨cf, r1, r2⟩, r3⟩ := id hR
  refine c_of rfl rfl (Nat.le_of_ble_eq_true rfl) ?_
  refine g_il rfl rfl ?_
  by_cases h0 : k < 0
  · refine g_ifT rfl (zcT2 ⟨by omega, by omega⟩ ⟨by omega, by omega⟩ (h0)) ?_
    refine g_null rfl ?_
    exact g_retn rfl (rfl) rfl
  · refine g_ifF rfl (zcF2 ⟨by omega, by omega⟩ ⟨by omega, by omega⟩ (h0)) ?_
    refine g_il rfl rfl ?_
    refine g_al rfl rfl ?_
    refine g_gf rfl h1 rfl rfl ?_
    refine g_icT rfl (zcT3 ⟨by omega, by omega⟩ ⟨by omega, by omega⟩ (by omega)) ?_
    refine g_null rfl ?_
    exact g_retn rfl (rfl) rfl
end SC
section WO
variable {S : ZS} {d : Nat} {M : ZM} {a W H L n : Nat} {hs lot : Int32} {c sa : Nat} {la : Int} {N : Nat} {cs : Int32} {g : Nat → Int32} {s : Nat → Int}
/-- what walkOver leaves: the chain's last cell and its cells, if it can be gone -/
def w_walk (M : ZM) (W H : Nat) (hs : Int32) (c sa f N : Nat) (s : Nat → Int) : ZM := match p_pos W H hs f s N with
  | some q => M.set c (.inl (0, [.int (zI (f : Int)), .int (zI (q : Int)), .int (zI (N : Int)), .int (p_msk W H hs f s N), .ref sa]))
  | none => M
theorem c_walkOver_l (h : k_O M a W H L hs n lot) {f : Nat} (k : k_C M c sa (f : Int) la N cs g s) : ∀ (m i q : Nat), i + m = N → p_pos W H hs f s i = some q → q < W * H → z_G S (d + 3) 43 25 [some (.ref a), some (.ref c), some (.int (zI (q : Int))), some (.int (p_msk W H hs f s i)), some (.int (zI (i : Int)))] [] M (some (.int (zI (if (p_pos W H hs f s N).isSome = true then 1 else 0)))) (w_walk M W H hs c sa f N s) := by
  obtain ⟨h1, ⟨hW1, hW2⟩, ⟨hH1, hH2⟩, ⟨hL1, hL2⟩, hn⟩ := id h
  have hC := h.wh
  have eC : (W : Int) * (H : Int) = ((W * H : Nat) : Int) := (Int.natCast_mul W H).symm
  obtain ⟨k1, k2, k3, k4, k5⟩ := id k
  intro m
  induction m with
  | zero =>
    intro i q hi hq hqc
    refine g_il rfl rfl ?_
    refine g_al rfl rfl ?_
    refine g_gf rfl k1 rfl rfl ?_
    refine g_icT rfl (zcT3 ⟨by omega, by omega⟩ ⟨by omega, by omega⟩ (by omega)) ?_
    refine g_al rfl rfl ?_
    refine g_il rfl rfl ?_
    refine g_pf1 rfl k1 rfl rfl rfl (Or.inl rfl) ?_
    refine g_al rfl rfl ?_
    refine g_il rfl rfl ?_
    refine g_pf3 rfl (z_gs k1) rfl rfl rfl (Or.inl rfl) ?_
    refine g_ic rfl ?_
    rw [List.set_set]
    have hi : i = N := by omega
    subst hi
    unfold w_walk
    rw [hq]
    exact g_reti rfl (rfl) rfl
  | succ m ih =>
    intro i q hi hq hqc
    refine g_il rfl rfl ?_
    refine g_al rfl rfl ?_
    refine g_gf rfl k1 rfl rfl ?_
    refine g_icF rfl (zcF3 ⟨by omega, by omega⟩ ⟨by omega, by omega⟩ (by omega)) ?_
    refine g_al rfl rfl ?_
    refine g_il rfl rfl ?_
    refine g_al rfl rfl ?_
    refine g_il rfl rfl ?_
    refine g_cv1 rfl rfl k1 rfl (by decide) rfl (c_stepAt k (i := (i : Int)) (by omega) (by omega)) ?_
    rw [Int.toNat_natCast]
    refine g_cv2 rfl rfl h1 rfl (by decide) rfl (c_beside h hqc ⟨(k5 i (by omega)).2.1, (k5 i (by omega)).2.2⟩) ?_
    refine g_is2 rfl rfl ?_
    refine g_il rfl rfl ?_
    refine g_ic rfl ?_
    have ep : p_pos W H hs f s (i + 1) = p_to W H hs q (s i) := by
      show (match p_pos W H hs f s i with | some c => p_to W H hs c (s i) | none => none) = _
      rw [hq]
    cases hp : p_to W H hs q (s i) with
    | none =>
      have e7 : p_pos W H hs f s N = none := by
        have := p_pos_none (ep.trans hp) (N - (i + 1))
        rw [show i + 1 + (N - (i + 1)) = N by omega] at this
        exact this
      show z_G S (d + 3) 43 48 _ [.int (zI (-1)), .int (zI (-1))] _ _ _
      refine g_icF rfl (zcF1 (rfl)) ?_
      refine g_ic rfl ?_
      unfold w_walk
      rw [e7]
      exact g_reti rfl (by rfl) rfl
    | some t =>
      have hql := p_to_lt hqc hp
      show z_G S (d + 3) 43 48 _ [.int (zI (-1)), .int (zI (t : Int))] _ _ _
      refine g_icT rfl (zcT1 ⟨by omega, by omega⟩ ⟨by omega, by omega⟩ (by omega)) ?_
      refine g_il rfl rfl ?_
      refine g_ic rfl ?_
      refine g_il rfl rfl ?_
      refine g_ishl rfl ?_
      refine g_ior rfl ?_
      refine g_is3 rfl rfl ?_
      refine g_jj4 rfl rfl ?_
      refine g_goto rfl ?_
      have e8 := ih (i + 1) t (by omega) (ep.trans hp) hql
      rw [show p_msk W H hs f s (i + 1) = p_msk W H hs f s i ||| (zI 1 <<< (zI (t : Int) &&& 31)) by show p_msk W H hs f s i ||| (zI 1 <<< (zI (oI (p_pos W H hs f s (i + 1)) 0) &&& 31)) = _; rw [ep, hp]; rfl] at e8
      exact e8
theorem c_walkOver (h : k_O M a W H L hs n lot) {f : Nat} (hf : f < W * H) (hb : ¬ bt hs f = true) (k : k_C M c sa (f : Int) la N cs g s) : z_C S (d + 3) 43 [.ref a, .ref c] M (some (.int (zI (if (p_pos W H hs f s N).isSome = true then 1 else 0)))) (w_walk M W H hs c sa f N s) := by
  obtain ⟨h1, ⟨hW1, hW2⟩, ⟨hH1, hH2⟩, ⟨hL1, hL2⟩, hn⟩ := id h
  have hC := h.wh
  have eC : (W : Int) * (H : Int) = ((W * H : Nat) : Int) := (Int.natCast_mul W H).symm
  obtain ⟨k1, k2, k3, k4, k5⟩ := id k
  refine c_of rfl rfl (Nat.le_of_ble_eq_true rfl) ?_
  refine g_al rfl rfl ?_
  refine g_al rfl rfl ?_
  refine g_gf rfl k1 rfl rfl ?_
  refine g_cv1 rfl rfl h1 rfl (by decide) rfl (c_isFree h (c := (f : Int)) ⟨by omega, by omega⟩) ?_
  rw [if_pos ⟨by omega, by omega, by rw [Int.toNat_natCast]; exact hb⟩]
  refine g_ifT rfl (zcT1 ⟨by omega, by omega⟩ ⟨by omega, by omega⟩ (by decide)) ?_
  refine g_al rfl rfl ?_
  refine g_gf rfl k1 rfl rfl ?_
  refine g_is2 rfl rfl ?_
  refine g_ic rfl ?_
  refine g_il rfl rfl ?_
  refine g_ishl rfl ?_
  refine g_is3 rfl rfl ?_
  refine g_ic rfl ?_
  refine g_is4 rfl rfl ?_
  exact c_walkOver_l h k N 0 f (by omega) rfl hf
end WO
