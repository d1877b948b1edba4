/-! Site's methods that read -/
/-- a Site's own cell -/
def k_O (M : ZM) (a W H L : Nat) (hs : Int32) (n : Nat) (lot : Int32) : Prop :=
  M[a]? = some (.inl (2, [.int (zI (W : Int)), .int (zI (H : Int)), .int (zI (L : Int)), .int hs, .int (zI (n : Int)), .int lot, .ref (a + 1)])) ∧ (1 ≤ W ∧ W ≤ 5) ∧ (1 ≤ H ∧ H ≤ 5) ∧ (1 ≤ L ∧ L ≤ 3) ∧ n ≤ 4
abbrev ZCh : Type := Int32 × Int32 × Int32 × Int32 × (Nat → Int32)
/-- a Chain as it lies, at its place in a Site -/
def k_c (M : ZM) (c : Nat) (r : ZCh) : Prop := M[c]? = some (.inl (0, [.int r.1, .int r.2.1, .int r.2.2.1, .int r.2.2.2.1, .ref (c + 1)])) ∧ M[c + 1]? = some (.inr (0, 12, .inl r.2.2.2.2))
/-- a Site's row of chains and the chains -/
def k_R (M : ZM) (a : Nat) (ch : Nat → ZCh) : Prop := (∃ cf : Nat → Option Nat, M[a + 1]? = some (.inr (4, 4, .inr (.inr cf))) ∧ ∀ k, k < 4 → cf k = some (a + 2 + 2 * k)) ∧ ∀ k, k < 4 → k_c M (a + 2 + 2 * k) (ch k)
section SI
variable {S : ZS} {d : Nat} {M : ZM} {a W H L n : Nat} {hs lot : Int32}
theorem k_O.wh (h : k_O M a W H L hs n lot) : W * H ≤ 25 := p_WH h.2.1.2 h.2.2.1.2
theorem c_has (h : k_O M a W H L hs n lot) {c : Int} (hc : z_sm c) : z_C S d 33 [.ref a, .int (zI c)] M (some (.int (zI (if 0 ≤ c ∧ c < ((W * H : Nat) : Int) then 1 else 0)))) M := by
  obtain ⟨h1, ⟨hW1, hW2⟩, ⟨hH1, hH2⟩, ⟨hL1, hL2⟩, hn⟩ := id h
  have hC := h.wh
  have eC : (W : Int) * (H : Int) = ((W * H : Nat) : Int) := (Int.natCast_mul W H).symm
  refine c_of rfl rfl (Nat.le_of_ble_eq_true rfl) ?_
  refine g_il rfl rfl ?_
  by_cases h0 : c < 0
  · refine g_ifT rfl (zcT2 ⟨by omega, by omega⟩ ⟨by omega, by omega⟩ (h0)) ?_
    refine g_ic rfl ?_
    exact g_reti rfl (by rw [if_neg (by omega)]) rfl
  · refine g_ifF rfl (zcF2 ⟨by omega, by omega⟩ ⟨by omega, by omega⟩ (h0)) ?_
    refine g_il rfl rfl ?_
    refine g_al rfl rfl ?_
    refine g_gf rfl h1 rfl rfl ?_
    refine g_al rfl rfl ?_
    refine g_gf rfl h1 rfl rfl ?_
    refine g_mulI rfl ?_
    rw [eC]
    by_cases h9 : c < ((W * H : Nat) : Int)
    · refine g_icF rfl (zcF3 ⟨by omega, by omega⟩ ⟨by omega, by omega⟩ (h9)) ?_
      refine g_ic rfl ?_
      refine g_goto rfl ?_
      exact g_reti rfl (by rw [if_pos (by omega)]) rfl
    · refine g_icT rfl (zcT3 ⟨by omega, by omega⟩ ⟨by omega, by omega⟩ (h9)) ?_
      refine g_ic rfl ?_
      exact g_reti rfl (by rw [if_neg (by omega)]) rfl
theorem c_isFree (h : k_O M a W H L hs n lot) {c : Int} (hc : z_sm c) : z_C S d 35 [.ref a, .int (zI c)] M (some (.int (zI (if 0 ≤ c ∧ c < ((W * H : Nat) : Int) ∧ ¬ bt hs c.toNat = true then 1 else 0)))) M := by
  obtain ⟨h1, ⟨hW1, hW2⟩, ⟨hH1, hH2⟩, ⟨hL1, hL2⟩, hn⟩ := id h
  have hC := h.wh
  have eC : (W : Int) * (H : Int) = ((W * H : Nat) : Int) := (Int.natCast_mul W H).symm
  refine c_of rfl rfl (Nat.le_of_ble_eq_true rfl) ?_
  refine g_il rfl rfl ?_
  by_cases h0 : c < 0
  · refine g_ifT rfl (zcT2 ⟨by omega, by omega⟩ ⟨by omega, by omega⟩ (h0)) ?_
    refine g_ic rfl ?_
    exact g_reti rfl (by rw [if_neg (by omega)]) rfl
  · refine g_ifF rfl (zcF2 ⟨by omega, by omega⟩ ⟨by omega, by omega⟩ (h0)) ?_
    refine g_il rfl rfl ?_
    refine g_al rfl rfl ?_
    refine g_gf rfl h1 rfl rfl ?_
    refine g_al rfl rfl ?_
    refine g_gf rfl h1 rfl rfl ?_
    refine g_mulI rfl ?_
    rw [eC]
    by_cases h9 : c < ((W * H : Nat) : Int)
    · refine g_icF rfl (zcF3 ⟨by omega, by omega⟩ ⟨by omega, by omega⟩ (h9)) ?_
      refine g_al rfl rfl ?_
      refine g_gf rfl h1 rfl rfl ?_
      refine g_il rfl rfl ?_
      refine g_ishr rfl ?_
      refine g_ic rfl ?_
      refine g_iand rfl ?_
      rw [show c = ((c.toNat : Nat) : Int) by omega, z_bit hs (c := c.toNat) (by omega)]
      by_cases hb : bt hs c.toNat = true
      · rw [if_pos hb]
        refine g_ifT rfl (zcT1 ⟨by omega, by omega⟩ ⟨by omega, by omega⟩ (by decide)) ?_
        refine g_ic rfl ?_
        exact g_reti rfl (by rw [if_neg (fun g => g.2.2 hb)]) rfl
      · rw [if_neg hb]
        refine g_ifF rfl (zcF1 (rfl)) ?_
        refine g_ic rfl ?_
        refine g_goto rfl ?_
        exact g_reti rfl (by rw [if_pos ⟨by omega, by omega, hb⟩]) rfl
    · refine g_icT rfl (zcT3 ⟨by omega, by omega⟩ ⟨by omega, by omega⟩ (h9)) ?_
      refine g_ic rfl ?_
      exact g_reti rfl (by rw [if_neg (by omega)]) rfl
theorem c_isHouse (h : k_O M a W H L hs n lot) {c : Int} (hc : z_sm c) : z_C S (d + 1) 34 [.ref a, .int (zI c)] M (some (.int (zI (if 0 ≤ c ∧ c < ((W * H : Nat) : Int) ∧ bt hs c.toNat = true then 1 else 0)))) M := by
  obtain ⟨h1, ⟨hW1, hW2⟩, ⟨hH1, hH2⟩, ⟨hL1, hL2⟩, hn⟩ := id h
  have hC := h.wh
  have eC : (W : Int) * (H : Int) = ((W * H : Nat) : Int) := (Int.natCast_mul W H).symm
  refine c_of rfl rfl (Nat.le_of_ble_eq_true rfl) ?_
  refine g_al rfl rfl ?_
  refine g_il rfl rfl ?_
  refine g_cv1 rfl rfl h1 rfl (by decide) rfl (c_has h hc) ?_
  by_cases h0 : 0 ≤ c ∧ c < ((W * H : Nat) : Int)
  · rw [if_pos h0]
    refine g_ifF rfl (zcF0 ⟨by omega, by omega⟩ ⟨by omega, by omega⟩ (by decide)) ?_
    refine g_al rfl rfl ?_
    refine g_gf rfl h1 rfl rfl ?_
    refine g_il rfl rfl ?_
    refine g_ishr rfl ?_
    refine g_ic rfl ?_
    refine g_iand rfl ?_
    refine g_ic rfl ?_
    rw [show c = ((c.toNat : Nat) : Int) by omega, z_bit hs (c := c.toNat) (by omega)]
    by_cases hb : bt hs c.toNat = true
    · rw [if_pos hb]
      refine g_icF rfl (zcF1 (rfl)) ?_
      refine g_ic rfl ?_
      refine g_goto rfl ?_
      exact g_reti rfl (by rw [if_pos ⟨by omega, by omega, hb⟩]) rfl
    · rw [if_neg hb]
      refine g_icT rfl (zcT1 ⟨by omega, by omega⟩ ⟨by omega, by omega⟩ (by decide)) ?_
      refine g_ic rfl ?_
      exact g_reti rfl (by rw [if_neg (fun g => hb g.2.2)]) rfl
  · rw [if_neg h0]
    refine g_ifT rfl (zcT0 (rfl)) ?_
    refine g_ic rfl ?_
    exact g_reti rfl (by rw [if_neg (fun g => h0 ⟨g.1, g.2.1⟩)]) rfl
theorem c_beside (h : k_O M a W H L hs n lot) {c : Nat} (hc : c < W * H) {st : Int} (hst : 0 ≤ st ∧ st ≤ 3) : z_C S (d + 2) 42 [.ref a, .int (zI (c : Int)), .int (zI st)] M (some (.int (zI (oI (p_to W H hs c st) (-1))))) M := by
  obtain ⟨h1, ⟨hW1, hW2⟩, ⟨hH1, hH2⟩, ⟨hL1, hL2⟩, hn⟩ := id h
  have hC := h.wh
  have eC : (W : Int) * (H : Int) = ((W * H : Nat) : Int) := (Int.natCast_mul W H).symm
  have tail : ∀ (x3 : Int32) (t : Int), z_sm t → z_G S (d + 2) 42 120 [some (.ref a), some (.int (zI (c : Int))), some (.int (zI st)), some (.int x3), some (.int (zI t))] [] M (some (.int (zI (if 0 ≤ t ∧ t < ((W * H : Nat) : Int) ∧ ¬ bt hs t.toNat = true then t else -1)))) M := by
    intro x3 t ht
    refine g_al rfl rfl ?_
    refine g_il rfl rfl ?_
    refine g_cv1 rfl rfl h1 rfl (by decide) rfl (c_isFree h ht) ?_
    by_cases hf : 0 ≤ t ∧ t < ((W * H : Nat) : Int) ∧ ¬ bt hs t.toNat = true
    · rw [if_pos hf]
      refine g_ifF rfl (zcF0 ⟨by omega, by omega⟩ ⟨by omega, by omega⟩ (by decide)) ?_
      refine g_il rfl rfl ?_
      refine g_goto rfl ?_
      exact g_reti rfl (by rw [if_pos hf]) rfl
    · rw [if_neg hf]
      refine g_ifT rfl (zcT0 (rfl)) ?_
      refine g_ic rfl ?_
      exact g_reti rfl (by rw [if_neg hf]) rfl
  have fin : ∀ (o : Option Nat), p_off W H c st = o → ∀ t : Int, (∀ q, o = some q → t = (q : Int) ∧ q < W * H) → (o = none → t < 0 ∨ ((W * H : Nat) : Int) ≤ t) → (if 0 ≤ t ∧ t < ((W * H : Nat) : Int) ∧ ¬ bt hs t.toNat = true then t else -1) = oI (p_to W H hs c st) (-1) := by
    intro o ho t h2 h3
    unfold p_to
    rw [ho]
    cases o with
    | none =>
      rw [if_neg (fun g => by have := h3 rfl; omega)]
      rfl
    | some q =>
      obtain ⟨g1, g2⟩ := h2 q rfl
      subst g1
      dsimp only
      rw [Int.toNat_natCast]
      by_cases hb : bt hs q = true
      · rw [if_neg (fun g => g.2.2 hb), if_pos hb]
        rfl
      · rw [if_pos ⟨by omega, by omega, hb⟩, if_neg hb]
        rfl
  refine c_of rfl rfl (Nat.le_of_ble_eq_true rfl) ?_
  refine g_al rfl rfl ?_
  refine g_il rfl rfl ?_
  refine g_cv1 rfl rfl h1 rfl (by decide) rfl (c_has h (c := (c : Int)) ⟨by omega, by omega⟩) ?_
  rw [if_pos ⟨by omega, by omega⟩]
  refine g_ifF rfl (zcF0 ⟨by omega, by omega⟩ ⟨by omega, by omega⟩ (by decide)) ?_
  refine g_al rfl rfl ?_
  refine g_gf rfl h1 rfl rfl ?_
  refine g_ic rfl ?_
  refine g_icT rfl (zcT3 ⟨by omega, by omega⟩ ⟨by omega, by omega⟩ (by omega)) ?_
  refine g_il rfl rfl ?_
  refine g_al rfl rfl ?_
  refine g_gf rfl h1 rfl rfl ?_
  refine g_remI rfl (⟨by omega, by omega⟩) (⟨by omega, by omega⟩) ?_
  refine g_is3 rfl rfl ?_
  refine g_ic rfl ?_
  refine g_is4 rfl rfl ?_
  refine g_il rfl rfl ?_
  have e1 := Nat.div_add_mod c W
  have e2 := Nat.mod_lt c (show 0 < W by omega)
  have e3 : (c : Int) % (W : Int) = ((c % W : Nat) : Int) := (Int.natCast_emod c W).symm
  rw [e3]
  rcases (show st = 0 ∨ st = 1 ∨ st = 2 ∨ st = 3 by omega) with hk | hk | hk | hk
  · subst hk
    refine g_tsI rfl (by rw [zI_toInt ⟨by omega, by omega⟩]; omega) (v := 60) (by rw [zI_toInt ⟨by omega, by omega⟩]; rfl) ?_
    refine g_il rfl rfl ?_
    refine g_al rfl rfl ?_
    refine g_gf rfl h1 rfl rfl ?_
    refine g_subI rfl ?_
    refine g_is4 rfl rfl ?_
    refine g_goto rfl ?_
    have e9 := tail (zI ((c % W : Nat) : Int)) ((c : Int) - (W : Int)) ⟨by omega, by omega⟩
    rw [fin (p_off W H c 0) rfl ((c : Int) - (W : Int)) (fun q g => by unfold p_off at g; rw [if_pos rfl] at g; split at g <;> cases g; omega) (fun g => by unfold p_off at g; rw [if_pos rfl] at g; split at g <;> first | (cases g; done) | omega)] at e9
    exact e9
  · subst hk
    refine g_tsI rfl (by rw [zI_toInt ⟨by omega, by omega⟩]; omega) (v := 71) (by rw [zI_toInt ⟨by omega, by omega⟩]; rfl) ?_
    refine g_il rfl rfl ?_
    refine g_ic rfl ?_
    refine g_addI rfl ?_
    refine g_al rfl rfl ?_
    refine g_gf rfl h1 rfl rfl ?_
    by_cases hm : c % W + 1 < W
    · refine g_icF rfl (zcF3 ⟨by omega, by omega⟩ ⟨by omega, by omega⟩ (by omega)) ?_
      refine g_il rfl rfl ?_
      refine g_ic rfl ?_
      refine g_addI rfl ?_
      refine g_goto rfl ?_
      refine g_is4 rfl rfl ?_
      refine g_goto rfl ?_
      have e9 := tail (zI ((c % W : Nat) : Int)) ((c : Int) + 1) ⟨by omega, by omega⟩
      rw [fin (p_off W H c 1) rfl ((c : Int) + 1) (fun q g => by have gl := p_off_lt hc g; unfold p_off at g; rw [if_neg (by decide), if_pos rfl, if_pos hm] at g; cases g; omega) (fun g => by unfold p_off at g; rw [if_neg (by decide), if_pos rfl, if_pos hm] at g; cases g)] at e9
      exact e9
    · refine g_icT rfl (zcT3 ⟨by omega, by omega⟩ ⟨by omega, by omega⟩ (by omega)) ?_
      refine g_ic rfl ?_
      refine g_is4 rfl rfl ?_
      refine g_goto rfl ?_
      have e9 := tail (zI ((c % W : Nat) : Int)) (-1) ⟨by omega, by omega⟩
      rw [fin (p_off W H c 1) rfl (-1) (fun q g => by unfold p_off at g; rw [if_neg (by decide), if_pos rfl, if_neg hm] at g; cases g) (fun g => by omega)] at e9
      exact e9
  · subst hk
    refine g_tsI rfl (by rw [zI_toInt ⟨by omega, by omega⟩]; omega) (v := 93) (by rw [zI_toInt ⟨by omega, by omega⟩]; rfl) ?_
    refine g_il rfl rfl ?_
    refine g_al rfl rfl ?_
    refine g_gf rfl h1 rfl rfl ?_
    refine g_addI rfl ?_
    refine g_is4 rfl rfl ?_
    refine g_goto rfl ?_
    have e9 := tail (zI ((c % W : Nat) : Int)) ((c : Int) + (W : Int)) ⟨by omega, by omega⟩
    rw [fin (p_off W H c 2) rfl ((c : Int) + (W : Int)) (fun q g => by unfold p_off at g; rw [if_neg (by decide), if_neg (by decide), if_pos rfl] at g; split at g <;> cases g; omega) (fun g => by unfold p_off at g; rw [if_neg (by decide), if_neg (by decide), if_pos rfl] at g; split at g <;> first | (cases g; done) | omega)] at e9
    exact e9
  · subst hk
    refine g_tsI rfl (by rw [zI_toInt ⟨by omega, by omega⟩]; omega) (v := 104) (by rw [zI_toInt ⟨by omega, by omega⟩]; rfl) ?_
    refine g_il rfl rfl ?_
    by_cases hm : 0 < c % W
    · refine g_ifF rfl (zcF5 ⟨by omega, by omega⟩ ⟨by omega, by omega⟩ (by omega)) ?_
      refine g_il rfl rfl ?_
      refine g_ic rfl ?_
      refine g_subI rfl ?_
      refine g_goto rfl ?_
      refine g_is4 rfl rfl ?_
      refine g_goto rfl ?_
      have e9 := tail (zI ((c % W : Nat) : Int)) ((c : Int) - 1) ⟨by omega, by omega⟩
      rw [fin (p_off W H c 3) rfl ((c : Int) - 1) (fun q g => by unfold p_off at g; rw [if_neg (by decide), if_neg (by decide), if_neg (by decide), if_pos rfl, if_pos hm] at g; cases g; omega) (fun g => by unfold p_off at g; rw [if_neg (by decide), if_neg (by decide), if_neg (by decide), if_pos rfl, if_pos hm] at g; cases g)] at e9
      exact e9
    · refine g_ifT rfl (zcT5 ⟨by omega, by omega⟩ ⟨by omega, by omega⟩ (by omega)) ?_
      refine g_ic rfl ?_
      refine g_is4 rfl rfl ?_
      refine g_goto rfl ?_
      have e9 := tail (zI ((c % W : Nat) : Int)) (-1) ⟨by omega, by omega⟩
      rw [fin (p_off W H c 3) rfl (-1) (fun q g => by unfold p_off at g; rw [if_neg (by decide), if_neg (by decide), if_neg (by decide), if_pos rfl, if_neg hm] at g; cases g) (fun g => by omega)] at e9
      exact e9
end SI
