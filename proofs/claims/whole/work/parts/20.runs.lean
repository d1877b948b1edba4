/-! RUNS of the small machine. z_G: from a place in a method it comes to an answer and cells; z_C: a call of a method does. -/
def z_G (S : ZS) (d y pc : Nat) (ls : ZL) (st : List Value) (M : ZM) (r : Option Value) (M' : ZM) : Prop := ∃ n, z_xm S n d y pc ls st M = some (r, M')
def z_C (S : ZS) (d y : Nat) (as : List Value) (M : ZM) (r : Option Value) (M' : ZM) : Prop := (z_sl as).length ≤ (z_mt y).2.2.1 ∧ z_G S d y 0 (z_ent as (z_mt y).2.2.1) [] M r M'
theorem z_more {S : ZS} : ∀ (n k d y pc : Nat) (ls : ZL) (st : List Value) (M : ZM) (x : Option Value × ZM), z_xm S n d y pc ls st M = some x → z_xm S (n + k) d y pc ls st M = some x := by
  intro n
  induction n with
  | zero => intro k d y pc ls st M x h; cases h
  | succ n ih =>
    intro k d y pc ls st M x h
    rw [Nat.add_right_comm]
    unfold z_xm at h ⊢
    split at h
    · cases h
    · rename_i nx i hc
      try rw [hc]
      try dsimp only at h ⊢
      split at h
      · cases h
      · rename_i hs
        try rw [hs]
        exact ih _ _ _ _ _ _ _ _ h
      · rename_i hs
        try rw [hs]
        exact h
      · rename_i hs
        try rw [hs]
        try dsimp only
        split at h
        · cases h
        · split at h
          · rename_i hle
            rw [if_pos hle]
            split at h
            · cases h
            · rename_i hx
              rw [ih k _ _ _ _ _ _ _ hx]
              exact ih _ _ _ _ _ _ _ _ h
          · cases h
/-- a whole number as an int -/
def zI (z : Int) : Int32 := Int32.ofInt z
section ZG
variable {S : ZS} {d y pc nx : Nat} {ls : ZL} {st : List Value} {M M' : ZM} {r : Option Value}
theorem g_step {i : Instr} {pc' : Nat} {ls' : ZL} {st' : List Value} {M1 : ZM} (hc : z_code y pc = some (nx, i)) (h : z_stp S y i nx ls st M = some (.inl (pc', ls', st', M1))) (k : z_G S d y pc' ls' st' M1 r M') : z_G S d y pc ls st M r M' := by
  obtain ⟨n, hn⟩ := k
  refine ⟨n + 1, ?_⟩
  unfold z_xm
  rw [hc]
  dsimp only
  rw [h]
  exact hn
theorem g_ret {i : Instr} (hc : z_code y pc = some (nx, i)) (h : z_stp S y i nx ls st M = some (.inr (.inl r))) : z_G S d y pc ls st M r M := by
  refine ⟨1, ?_⟩
  unfold z_xm
  rw [hc]
  dsimp only
  rw [h]
theorem g_call {i : Instr} {y' nx' : Nat} {as rest : List Value} {r1 : Option Value} {M1 : ZM} (hc : z_code y pc = some (nx, i)) (h : z_stp S y i nx ls st M = some (.inr (.inr (y', as, rest, nx')))) (hcal : z_C S d y' as M r1 M1) (k : z_G S (d + 1) y nx' ls (r1.toList ++ rest) M1 r M') : z_G S (d + 1) y pc ls st M r M' := by
  obtain ⟨hle, n1, h1⟩ := hcal
  obtain ⟨n2, h2⟩ := k
  refine ⟨n1 + n2 + 1, ?_⟩
  unfold z_xm
  rw [hc]
  dsimp only
  rw [h]
  dsimp only
  rw [if_pos hle, z_more n1 n2 _ _ _ _ _ _ _ h1]
  dsimp only
  rw [Nat.add_comm n1 n2]
  exact z_more n2 n1 _ _ _ _ _ _ _ h2
/-- entry: the locals laid out -/
theorem c_of {as : List Value} {n : Nat} {L : ZL} (hn : (z_mt y).2.2.1 = n) (hl : z_ent as n = L) (h0 : (z_sl as).length ≤ n) (k : z_G S d y 0 L [] M r M') : z_C S d y as M r M' := by
  subst hn
  subst hl
  exact ⟨h0, k⟩
theorem g_ic {n : Int} (hc : z_code y pc = some (nx, .iconst n)) (k : z_G S d y nx ls (.int (zI n) :: st) M r M') : z_G S d y pc ls st M r M' := g_step hc rfl k
theorem g_lc {n : Int} (hc : z_code y pc = some (nx, .goto_w n)) (k : z_G S d y nx ls (.long (Int64.ofInt n) :: st) M r M') : z_G S d y pc ls st M r M' := g_step hc rfl k
theorem g_null (hc : z_code y pc = some (nx, .aconst_null)) (k : z_G S d y nx ls (.null :: st) M r M') : z_G S d y pc ls st M r M' := g_step hc rfl k
theorem g_ldc {n : Nat} (hc : z_code y pc = some (nx, .ldc n)) (hn : n < 3) (k : z_G S d y nx ls (.ref (1001 + n) :: st) M r M') : z_G S d y pc ls st M r M' := g_step hc (by simp only [z_stp]; rw [if_pos hn]) k
theorem g_il {n : Nat} {x : Int32} (hc : z_code y pc = some (nx, .iload n)) (hl : ls[n]? = some (some (.int x))) (k : z_G S d y nx ls (.int x :: st) M r M') : z_G S d y pc ls st M r M' := g_step hc (by simp only [z_stp]; rw [hl]) k
theorem g_ll {n : Nat} {x : Int64} (hc : z_code y pc = some (nx, .lload n)) (hl : ls[n]? = some (some (.long x))) (k : z_G S d y nx ls (.long x :: st) M r M') : z_G S d y pc ls st M r M' := g_step hc (by simp only [z_stp]; rw [hl]) k
theorem g_al {n : Nat} {x : Nat} (hc : z_code y pc = some (nx, .aload n)) (hl : ls[n]? = some (some (.ref x))) (k : z_G S d y nx ls (.ref x :: st) M r M') : z_G S d y pc ls st M r M' := g_step hc (by simp only [z_stp]; rw [hl]) k
theorem g_aln {n : Nat} (hc : z_code y pc = some (nx, .aload n)) (hl : ls[n]? = some (some .null)) (k : z_G S d y nx ls (.null :: st) M r M') : z_G S d y pc ls st M r M' := g_step hc (by simp only [z_stp]; rw [hl]) k
def z_nl (v : Option Value) : Bool := match v with
  | some v => decide (v.category = 1)
  | none => true
theorem z_sto0 {v0 : Option Value} {t : ZL} {x : Value} : z_st1 (v0 :: t) 0 x = (some x :: t) := by
  unfold z_st1 z_cut
  rfl
theorem z_sto1 {v0 v1 : Option Value} {t : ZL} {x : Value} (hv : z_nl v0 = true) : z_st1 (v0 :: v1 :: t) 1 x = (v0 :: some x :: t) := by
  unfold z_st1 z_cut
  have h : (v0 :: v1 :: t)[0]? = some v0 := rfl
  dsimp only
  rw [h]
  cases v0 with
  | none => rfl
  | some w =>
    have hw : w.category = 1 := of_decide_eq_true hv
    dsimp only
    rw [if_neg (by rw [hw]; decide)]
    rfl
theorem z_sto2 {v0 v1 v2 : Option Value} {t : ZL} {x : Value} (hv : z_nl v1 = true) : z_st1 (v0 :: v1 :: v2 :: t) 2 x = (v0 :: v1 :: some x :: t) := by
  unfold z_st1 z_cut
  have h : (v0 :: v1 :: v2 :: t)[1]? = some v1 := rfl
  dsimp only
  rw [h]
  cases v1 with
  | none => rfl
  | some w =>
    have hw : w.category = 1 := of_decide_eq_true hv
    dsimp only
    rw [if_neg (by rw [hw]; decide)]
    rfl
theorem z_sto3 {v0 v1 v2 v3 : Option Value} {t : ZL} {x : Value} (hv : z_nl v2 = true) : z_st1 (v0 :: v1 :: v2 :: v3 :: t) 3 x = (v0 :: v1 :: v2 :: some x :: t) := by
  unfold z_st1 z_cut
  have h : (v0 :: v1 :: v2 :: v3 :: t)[2]? = some v2 := rfl
  dsimp only
  rw [h]
  cases v2 with
  | none => rfl
  | some w =>
    have hw : w.category = 1 := of_decide_eq_true hv
    dsimp only
    rw [if_neg (by rw [hw]; decide)]
    rfl
theorem z_sto4 {v0 v1 v2 v3 v4 : Option Value} {t : ZL} {x : Value} (hv : z_nl v3 = true) : z_st1 (v0 :: v1 :: v2 :: v3 :: v4 :: t) 4 x = (v0 :: v1 :: v2 :: v3 :: some x :: t) := by
  unfold z_st1 z_cut
  have h : (v0 :: v1 :: v2 :: v3 :: v4 :: t)[3]? = some v3 := rfl
  dsimp only
  rw [h]
  cases v3 with
  | none => rfl
  | some w =>
    have hw : w.category = 1 := of_decide_eq_true hv
    dsimp only
    rw [if_neg (by rw [hw]; decide)]
    rfl
theorem z_sto5 {v0 v1 v2 v3 v4 v5 : Option Value} {t : ZL} {x : Value} (hv : z_nl v4 = true) : z_st1 (v0 :: v1 :: v2 :: v3 :: v4 :: v5 :: t) 5 x = (v0 :: v1 :: v2 :: v3 :: v4 :: some x :: t) := by
  unfold z_st1 z_cut
  have h : (v0 :: v1 :: v2 :: v3 :: v4 :: v5 :: t)[4]? = some v4 := rfl
  dsimp only
  rw [h]
  cases v4 with
  | none => rfl
  | some w =>
    have hw : w.category = 1 := of_decide_eq_true hv
    dsimp only
    rw [if_neg (by rw [hw]; decide)]
    rfl
theorem z_sto6 {v0 v1 v2 v3 v4 v5 v6 : Option Value} {t : ZL} {x : Value} (hv : z_nl v5 = true) : z_st1 (v0 :: v1 :: v2 :: v3 :: v4 :: v5 :: v6 :: t) 6 x = (v0 :: v1 :: v2 :: v3 :: v4 :: v5 :: some x :: t) := by
  unfold z_st1 z_cut
  have h : (v0 :: v1 :: v2 :: v3 :: v4 :: v5 :: v6 :: t)[5]? = some v5 := rfl
  dsimp only
  rw [h]
  cases v5 with
  | none => rfl
  | some w =>
    have hw : w.category = 1 := of_decide_eq_true hv
    dsimp only
    rw [if_neg (by rw [hw]; decide)]
    rfl
theorem z_sto7 {v0 v1 v2 v3 v4 v5 v6 v7 : Option Value} {t : ZL} {x : Value} (hv : z_nl v6 = true) : z_st1 (v0 :: v1 :: v2 :: v3 :: v4 :: v5 :: v6 :: v7 :: t) 7 x = (v0 :: v1 :: v2 :: v3 :: v4 :: v5 :: v6 :: some x :: t) := by
  unfold z_st1 z_cut
  have h : (v0 :: v1 :: v2 :: v3 :: v4 :: v5 :: v6 :: v7 :: t)[6]? = some v6 := rfl
  dsimp only
  rw [h]
  cases v6 with
  | none => rfl
  | some w =>
    have hw : w.category = 1 := of_decide_eq_true hv
    dsimp only
    rw [if_neg (by rw [hw]; decide)]
    rfl
theorem z_sto8 {v0 v1 v2 v3 v4 v5 v6 v7 v8 : Option Value} {t : ZL} {x : Value} (hv : z_nl v7 = true) : z_st1 (v0 :: v1 :: v2 :: v3 :: v4 :: v5 :: v6 :: v7 :: v8 :: t) 8 x = (v0 :: v1 :: v2 :: v3 :: v4 :: v5 :: v6 :: v7 :: some x :: t) := by
  unfold z_st1 z_cut
  have h : (v0 :: v1 :: v2 :: v3 :: v4 :: v5 :: v6 :: v7 :: v8 :: t)[7]? = some v7 := rfl
  dsimp only
  rw [h]
  cases v7 with
  | none => rfl
  | some w =>
    have hw : w.category = 1 := of_decide_eq_true hv
    dsimp only
    rw [if_neg (by rw [hw]; decide)]
    rfl
theorem z_sto9 {v0 v1 v2 v3 v4 v5 v6 v7 v8 v9 : Option Value} {t : ZL} {x : Value} (hv : z_nl v8 = true) : z_st1 (v0 :: v1 :: v2 :: v3 :: v4 :: v5 :: v6 :: v7 :: v8 :: v9 :: t) 9 x = (v0 :: v1 :: v2 :: v3 :: v4 :: v5 :: v6 :: v7 :: v8 :: some x :: t) := by
  unfold z_st1 z_cut
  have h : (v0 :: v1 :: v2 :: v3 :: v4 :: v5 :: v6 :: v7 :: v8 :: v9 :: t)[8]? = some v8 := rfl
  dsimp only
  rw [h]
  cases v8 with
  | none => rfl
  | some w =>
    have hw : w.category = 1 := of_decide_eq_true hv
    dsimp only
    rw [if_neg (by rw [hw]; decide)]
    rfl
theorem z_sto10 {v0 v1 v2 v3 v4 v5 v6 v7 v8 v9 v10 : Option Value} {t : ZL} {x : Value} (hv : z_nl v9 = true) : z_st1 (v0 :: v1 :: v2 :: v3 :: v4 :: v5 :: v6 :: v7 :: v8 :: v9 :: v10 :: t) 10 x = (v0 :: v1 :: v2 :: v3 :: v4 :: v5 :: v6 :: v7 :: v8 :: v9 :: some x :: t) := by
  unfold z_st1 z_cut
  have h : (v0 :: v1 :: v2 :: v3 :: v4 :: v5 :: v6 :: v7 :: v8 :: v9 :: v10 :: t)[9]? = some v9 := rfl
  dsimp only
  rw [h]
  cases v9 with
  | none => rfl
  | some w =>
    have hw : w.category = 1 := of_decide_eq_true hv
    dsimp only
    rw [if_neg (by rw [hw]; decide)]
    rfl
theorem z_sto11 {v0 v1 v2 v3 v4 v5 v6 v7 v8 v9 v10 v11 : Option Value} {t : ZL} {x : Value} (hv : z_nl v10 = true) : z_st1 (v0 :: v1 :: v2 :: v3 :: v4 :: v5 :: v6 :: v7 :: v8 :: v9 :: v10 :: v11 :: t) 11 x = (v0 :: v1 :: v2 :: v3 :: v4 :: v5 :: v6 :: v7 :: v8 :: v9 :: v10 :: some x :: t) := by
  unfold z_st1 z_cut
  have h : (v0 :: v1 :: v2 :: v3 :: v4 :: v5 :: v6 :: v7 :: v8 :: v9 :: v10 :: v11 :: t)[10]? = some v10 := rfl
  dsimp only
  rw [h]
  cases v10 with
  | none => rfl
  | some w =>
    have hw : w.category = 1 := of_decide_eq_true hv
    dsimp only
    rw [if_neg (by rw [hw]; decide)]
    rfl
theorem z_sto12 {v0 v1 v2 v3 v4 v5 v6 v7 v8 v9 v10 v11 v12 : Option Value} {t : ZL} {x : Value} (hv : z_nl v11 = true) : z_st1 (v0 :: v1 :: v2 :: v3 :: v4 :: v5 :: v6 :: v7 :: v8 :: v9 :: v10 :: v11 :: v12 :: t) 12 x = (v0 :: v1 :: v2 :: v3 :: v4 :: v5 :: v6 :: v7 :: v8 :: v9 :: v10 :: v11 :: some x :: t) := by
  unfold z_st1 z_cut
  have h : (v0 :: v1 :: v2 :: v3 :: v4 :: v5 :: v6 :: v7 :: v8 :: v9 :: v10 :: v11 :: v12 :: t)[11]? = some v11 := rfl
  dsimp only
  rw [h]
  cases v11 with
  | none => rfl
  | some w =>
    have hw : w.category = 1 := of_decide_eq_true hv
    dsimp only
    rw [if_neg (by rw [hw]; decide)]
    rfl
theorem g_is0 {v0 : Option Value} {t : ZL} {x : Int32} (hc : z_code y pc = some (nx, .istore 0)) (k : z_G S d y nx (some (.int x) :: t) st M r M') : z_G S d y pc (v0 :: t) (.int x :: st) M r M' := g_step hc (by simp only [z_stp]; rw [if_pos (by simp)]; exact congrArg (fun q => some (Sum.inl (nx, q, st, M))) (z_sto0)) k
theorem g_as0 {v0 : Option Value} {t : ZL} {x : Nat} (hc : z_code y pc = some (nx, .astore 0)) (k : z_G S d y nx (some (.ref x) :: t) st M r M') : z_G S d y pc (v0 :: t) (.ref x :: st) M r M' := g_step hc (by simp only [z_stp]; rw [if_pos (by simp)]; exact congrArg (fun q => some (Sum.inl (nx, q, st, M))) (z_sto0)) k
theorem g_an0 {v0 : Option Value} {t : ZL} (hc : z_code y pc = some (nx, .astore 0)) (k : z_G S d y nx (some (.null) :: t) st M r M') : z_G S d y pc (v0 :: t) (.null :: st) M r M' := g_step hc (by simp only [z_stp]; rw [if_pos (by simp)]; exact congrArg (fun q => some (Sum.inl (nx, q, st, M))) (z_sto0)) k
theorem g_is1 {v0 v1 : Option Value} {t : ZL} {x : Int32} (hc : z_code y pc = some (nx, .istore 1)) (hv : z_nl v0 = true) (k : z_G S d y nx (v0 :: some (.int x) :: t) st M r M') : z_G S d y pc (v0 :: v1 :: t) (.int x :: st) M r M' := g_step hc (by simp only [z_stp]; rw [if_pos (by simp)]; exact congrArg (fun q => some (Sum.inl (nx, q, st, M))) (z_sto1 hv)) k
theorem g_as1 {v0 v1 : Option Value} {t : ZL} {x : Nat} (hc : z_code y pc = some (nx, .astore 1)) (hv : z_nl v0 = true) (k : z_G S d y nx (v0 :: some (.ref x) :: t) st M r M') : z_G S d y pc (v0 :: v1 :: t) (.ref x :: st) M r M' := g_step hc (by simp only [z_stp]; rw [if_pos (by simp)]; exact congrArg (fun q => some (Sum.inl (nx, q, st, M))) (z_sto1 hv)) k
theorem g_an1 {v0 v1 : Option Value} {t : ZL} (hc : z_code y pc = some (nx, .astore 1)) (hv : z_nl v0 = true) (k : z_G S d y nx (v0 :: some (.null) :: t) st M r M') : z_G S d y pc (v0 :: v1 :: t) (.null :: st) M r M' := g_step hc (by simp only [z_stp]; rw [if_pos (by simp)]; exact congrArg (fun q => some (Sum.inl (nx, q, st, M))) (z_sto1 hv)) k
theorem g_is2 {v0 v1 v2 : Option Value} {t : ZL} {x : Int32} (hc : z_code y pc = some (nx, .istore 2)) (hv : z_nl v1 = true) (k : z_G S d y nx (v0 :: v1 :: some (.int x) :: t) st M r M') : z_G S d y pc (v0 :: v1 :: v2 :: t) (.int x :: st) M r M' := g_step hc (by simp only [z_stp]; rw [if_pos (by simp)]; exact congrArg (fun q => some (Sum.inl (nx, q, st, M))) (z_sto2 hv)) k
theorem g_as2 {v0 v1 v2 : Option Value} {t : ZL} {x : Nat} (hc : z_code y pc = some (nx, .astore 2)) (hv : z_nl v1 = true) (k : z_G S d y nx (v0 :: v1 :: some (.ref x) :: t) st M r M') : z_G S d y pc (v0 :: v1 :: v2 :: t) (.ref x :: st) M r M' := g_step hc (by simp only [z_stp]; rw [if_pos (by simp)]; exact congrArg (fun q => some (Sum.inl (nx, q, st, M))) (z_sto2 hv)) k
theorem g_an2 {v0 v1 v2 : Option Value} {t : ZL} (hc : z_code y pc = some (nx, .astore 2)) (hv : z_nl v1 = true) (k : z_G S d y nx (v0 :: v1 :: some (.null) :: t) st M r M') : z_G S d y pc (v0 :: v1 :: v2 :: t) (.null :: st) M r M' := g_step hc (by simp only [z_stp]; rw [if_pos (by simp)]; exact congrArg (fun q => some (Sum.inl (nx, q, st, M))) (z_sto2 hv)) k
theorem g_is3 {v0 v1 v2 v3 : Option Value} {t : ZL} {x : Int32} (hc : z_code y pc = some (nx, .istore 3)) (hv : z_nl v2 = true) (k : z_G S d y nx (v0 :: v1 :: v2 :: some (.int x) :: t) st M r M') : z_G S d y pc (v0 :: v1 :: v2 :: v3 :: t) (.int x :: st) M r M' := g_step hc (by simp only [z_stp]; rw [if_pos (by simp)]; exact congrArg (fun q => some (Sum.inl (nx, q, st, M))) (z_sto3 hv)) k
theorem g_as3 {v0 v1 v2 v3 : Option Value} {t : ZL} {x : Nat} (hc : z_code y pc = some (nx, .astore 3)) (hv : z_nl v2 = true) (k : z_G S d y nx (v0 :: v1 :: v2 :: some (.ref x) :: t) st M r M') : z_G S d y pc (v0 :: v1 :: v2 :: v3 :: t) (.ref x :: st) M r M' := g_step hc (by simp only [z_stp]; rw [if_pos (by simp)]; exact congrArg (fun q => some (Sum.inl (nx, q, st, M))) (z_sto3 hv)) k
theorem g_an3 {v0 v1 v2 v3 : Option Value} {t : ZL} (hc : z_code y pc = some (nx, .astore 3)) (hv : z_nl v2 = true) (k : z_G S d y nx (v0 :: v1 :: v2 :: some (.null) :: t) st M r M') : z_G S d y pc (v0 :: v1 :: v2 :: v3 :: t) (.null :: st) M r M' := g_step hc (by simp only [z_stp]; rw [if_pos (by simp)]; exact congrArg (fun q => some (Sum.inl (nx, q, st, M))) (z_sto3 hv)) k
theorem g_is4 {v0 v1 v2 v3 v4 : Option Value} {t : ZL} {x : Int32} (hc : z_code y pc = some (nx, .istore 4)) (hv : z_nl v3 = true) (k : z_G S d y nx (v0 :: v1 :: v2 :: v3 :: some (.int x) :: t) st M r M') : z_G S d y pc (v0 :: v1 :: v2 :: v3 :: v4 :: t) (.int x :: st) M r M' := g_step hc (by simp only [z_stp]; rw [if_pos (by simp)]; exact congrArg (fun q => some (Sum.inl (nx, q, st, M))) (z_sto4 hv)) k
theorem g_as4 {v0 v1 v2 v3 v4 : Option Value} {t : ZL} {x : Nat} (hc : z_code y pc = some (nx, .astore 4)) (hv : z_nl v3 = true) (k : z_G S d y nx (v0 :: v1 :: v2 :: v3 :: some (.ref x) :: t) st M r M') : z_G S d y pc (v0 :: v1 :: v2 :: v3 :: v4 :: t) (.ref x :: st) M r M' := g_step hc (by simp only [z_stp]; rw [if_pos (by simp)]; exact congrArg (fun q => some (Sum.inl (nx, q, st, M))) (z_sto4 hv)) k
theorem g_an4 {v0 v1 v2 v3 v4 : Option Value} {t : ZL} (hc : z_code y pc = some (nx, .astore 4)) (hv : z_nl v3 = true) (k : z_G S d y nx (v0 :: v1 :: v2 :: v3 :: some (.null) :: t) st M r M') : z_G S d y pc (v0 :: v1 :: v2 :: v3 :: v4 :: t) (.null :: st) M r M' := g_step hc (by simp only [z_stp]; rw [if_pos (by simp)]; exact congrArg (fun q => some (Sum.inl (nx, q, st, M))) (z_sto4 hv)) k
theorem g_is5 {v0 v1 v2 v3 v4 v5 : Option Value} {t : ZL} {x : Int32} (hc : z_code y pc = some (nx, .istore 5)) (hv : z_nl v4 = true) (k : z_G S d y nx (v0 :: v1 :: v2 :: v3 :: v4 :: some (.int x) :: t) st M r M') : z_G S d y pc (v0 :: v1 :: v2 :: v3 :: v4 :: v5 :: t) (.int x :: st) M r M' := g_step hc (by simp only [z_stp]; rw [if_pos (by simp)]; exact congrArg (fun q => some (Sum.inl (nx, q, st, M))) (z_sto5 hv)) k
theorem g_as5 {v0 v1 v2 v3 v4 v5 : Option Value} {t : ZL} {x : Nat} (hc : z_code y pc = some (nx, .astore 5)) (hv : z_nl v4 = true) (k : z_G S d y nx (v0 :: v1 :: v2 :: v3 :: v4 :: some (.ref x) :: t) st M r M') : z_G S d y pc (v0 :: v1 :: v2 :: v3 :: v4 :: v5 :: t) (.ref x :: st) M r M' := g_step hc (by simp only [z_stp]; rw [if_pos (by simp)]; exact congrArg (fun q => some (Sum.inl (nx, q, st, M))) (z_sto5 hv)) k
theorem g_an5 {v0 v1 v2 v3 v4 v5 : Option Value} {t : ZL} (hc : z_code y pc = some (nx, .astore 5)) (hv : z_nl v4 = true) (k : z_G S d y nx (v0 :: v1 :: v2 :: v3 :: v4 :: some (.null) :: t) st M r M') : z_G S d y pc (v0 :: v1 :: v2 :: v3 :: v4 :: v5 :: t) (.null :: st) M r M' := g_step hc (by simp only [z_stp]; rw [if_pos (by simp)]; exact congrArg (fun q => some (Sum.inl (nx, q, st, M))) (z_sto5 hv)) k
theorem g_is6 {v0 v1 v2 v3 v4 v5 v6 : Option Value} {t : ZL} {x : Int32} (hc : z_code y pc = some (nx, .istore 6)) (hv : z_nl v5 = true) (k : z_G S d y nx (v0 :: v1 :: v2 :: v3 :: v4 :: v5 :: some (.int x) :: t) st M r M') : z_G S d y pc (v0 :: v1 :: v2 :: v3 :: v4 :: v5 :: v6 :: t) (.int x :: st) M r M' := g_step hc (by simp only [z_stp]; rw [if_pos (by simp)]; exact congrArg (fun q => some (Sum.inl (nx, q, st, M))) (z_sto6 hv)) k
theorem g_as6 {v0 v1 v2 v3 v4 v5 v6 : Option Value} {t : ZL} {x : Nat} (hc : z_code y pc = some (nx, .astore 6)) (hv : z_nl v5 = true) (k : z_G S d y nx (v0 :: v1 :: v2 :: v3 :: v4 :: v5 :: some (.ref x) :: t) st M r M') : z_G S d y pc (v0 :: v1 :: v2 :: v3 :: v4 :: v5 :: v6 :: t) (.ref x :: st) M r M' := g_step hc (by simp only [z_stp]; rw [if_pos (by simp)]; exact congrArg (fun q => some (Sum.inl (nx, q, st, M))) (z_sto6 hv)) k
theorem g_an6 {v0 v1 v2 v3 v4 v5 v6 : Option Value} {t : ZL} (hc : z_code y pc = some (nx, .astore 6)) (hv : z_nl v5 = true) (k : z_G S d y nx (v0 :: v1 :: v2 :: v3 :: v4 :: v5 :: some (.null) :: t) st M r M') : z_G S d y pc (v0 :: v1 :: v2 :: v3 :: v4 :: v5 :: v6 :: t) (.null :: st) M r M' := g_step hc (by simp only [z_stp]; rw [if_pos (by simp)]; exact congrArg (fun q => some (Sum.inl (nx, q, st, M))) (z_sto6 hv)) k
theorem g_is7 {v0 v1 v2 v3 v4 v5 v6 v7 : Option Value} {t : ZL} {x : Int32} (hc : z_code y pc = some (nx, .istore 7)) (hv : z_nl v6 = true) (k : z_G S d y nx (v0 :: v1 :: v2 :: v3 :: v4 :: v5 :: v6 :: some (.int x) :: t) st M r M') : z_G S d y pc (v0 :: v1 :: v2 :: v3 :: v4 :: v5 :: v6 :: v7 :: t) (.int x :: st) M r M' := g_step hc (by simp only [z_stp]; rw [if_pos (by simp)]; exact congrArg (fun q => some (Sum.inl (nx, q, st, M))) (z_sto7 hv)) k
theorem g_as7 {v0 v1 v2 v3 v4 v5 v6 v7 : Option Value} {t : ZL} {x : Nat} (hc : z_code y pc = some (nx, .astore 7)) (hv : z_nl v6 = true) (k : z_G S d y nx (v0 :: v1 :: v2 :: v3 :: v4 :: v5 :: v6 :: some (.ref x) :: t) st M r M') : z_G S d y pc (v0 :: v1 :: v2 :: v3 :: v4 :: v5 :: v6 :: v7 :: t) (.ref x :: st) M r M' := g_step hc (by simp only [z_stp]; rw [if_pos (by simp)]; exact congrArg (fun q => some (Sum.inl (nx, q, st, M))) (z_sto7 hv)) k
theorem g_an7 {v0 v1 v2 v3 v4 v5 v6 v7 : Option Value} {t : ZL} (hc : z_code y pc = some (nx, .astore 7)) (hv : z_nl v6 = true) (k : z_G S d y nx (v0 :: v1 :: v2 :: v3 :: v4 :: v5 :: v6 :: some (.null) :: t) st M r M') : z_G S d y pc (v0 :: v1 :: v2 :: v3 :: v4 :: v5 :: v6 :: v7 :: t) (.null :: st) M r M' := g_step hc (by simp only [z_stp]; rw [if_pos (by simp)]; exact congrArg (fun q => some (Sum.inl (nx, q, st, M))) (z_sto7 hv)) k
theorem g_is8 {v0 v1 v2 v3 v4 v5 v6 v7 v8 : Option Value} {t : ZL} {x : Int32} (hc : z_code y pc = some (nx, .istore 8)) (hv : z_nl v7 = true) (k : z_G S d y nx (v0 :: v1 :: v2 :: v3 :: v4 :: v5 :: v6 :: v7 :: some (.int x) :: t) st M r M') : z_G S d y pc (v0 :: v1 :: v2 :: v3 :: v4 :: v5 :: v6 :: v7 :: v8 :: t) (.int x :: st) M r M' := g_step hc (by simp only [z_stp]; rw [if_pos (by simp)]; exact congrArg (fun q => some (Sum.inl (nx, q, st, M))) (z_sto8 hv)) k
theorem g_as8 {v0 v1 v2 v3 v4 v5 v6 v7 v8 : Option Value} {t : ZL} {x : Nat} (hc : z_code y pc = some (nx, .astore 8)) (hv : z_nl v7 = true) (k : z_G S d y nx (v0 :: v1 :: v2 :: v3 :: v4 :: v5 :: v6 :: v7 :: some (.ref x) :: t) st M r M') : z_G S d y pc (v0 :: v1 :: v2 :: v3 :: v4 :: v5 :: v6 :: v7 :: v8 :: t) (.ref x :: st) M r M' := g_step hc (by simp only [z_stp]; rw [if_pos (by simp)]; exact congrArg (fun q => some (Sum.inl (nx, q, st, M))) (z_sto8 hv)) k
theorem g_an8 {v0 v1 v2 v3 v4 v5 v6 v7 v8 : Option Value} {t : ZL} (hc : z_code y pc = some (nx, .astore 8)) (hv : z_nl v7 = true) (k : z_G S d y nx (v0 :: v1 :: v2 :: v3 :: v4 :: v5 :: v6 :: v7 :: some (.null) :: t) st M r M') : z_G S d y pc (v0 :: v1 :: v2 :: v3 :: v4 :: v5 :: v6 :: v7 :: v8 :: t) (.null :: st) M r M' := g_step hc (by simp only [z_stp]; rw [if_pos (by simp)]; exact congrArg (fun q => some (Sum.inl (nx, q, st, M))) (z_sto8 hv)) k
theorem g_is9 {v0 v1 v2 v3 v4 v5 v6 v7 v8 v9 : Option Value} {t : ZL} {x : Int32} (hc : z_code y pc = some (nx, .istore 9)) (hv : z_nl v8 = true) (k : z_G S d y nx (v0 :: v1 :: v2 :: v3 :: v4 :: v5 :: v6 :: v7 :: v8 :: some (.int x) :: t) st M r M') : z_G S d y pc (v0 :: v1 :: v2 :: v3 :: v4 :: v5 :: v6 :: v7 :: v8 :: v9 :: t) (.int x :: st) M r M' := g_step hc (by simp only [z_stp]; rw [if_pos (by simp)]; exact congrArg (fun q => some (Sum.inl (nx, q, st, M))) (z_sto9 hv)) k
theorem g_as9 {v0 v1 v2 v3 v4 v5 v6 v7 v8 v9 : Option Value} {t : ZL} {x : Nat} (hc : z_code y pc = some (nx, .astore 9)) (hv : z_nl v8 = true) (k : z_G S d y nx (v0 :: v1 :: v2 :: v3 :: v4 :: v5 :: v6 :: v7 :: v8 :: some (.ref x) :: t) st M r M') : z_G S d y pc (v0 :: v1 :: v2 :: v3 :: v4 :: v5 :: v6 :: v7 :: v8 :: v9 :: t) (.ref x :: st) M r M' := g_step hc (by simp only [z_stp]; rw [if_pos (by simp)]; exact congrArg (fun q => some (Sum.inl (nx, q, st, M))) (z_sto9 hv)) k
theorem g_an9 {v0 v1 v2 v3 v4 v5 v6 v7 v8 v9 : Option Value} {t : ZL} (hc : z_code y pc = some (nx, .astore 9)) (hv : z_nl v8 = true) (k : z_G S d y nx (v0 :: v1 :: v2 :: v3 :: v4 :: v5 :: v6 :: v7 :: v8 :: some (.null) :: t) st M r M') : z_G S d y pc (v0 :: v1 :: v2 :: v3 :: v4 :: v5 :: v6 :: v7 :: v8 :: v9 :: t) (.null :: st) M r M' := g_step hc (by simp only [z_stp]; rw [if_pos (by simp)]; exact congrArg (fun q => some (Sum.inl (nx, q, st, M))) (z_sto9 hv)) k
theorem g_is10 {v0 v1 v2 v3 v4 v5 v6 v7 v8 v9 v10 : Option Value} {t : ZL} {x : Int32} (hc : z_code y pc = some (nx, .istore 10)) (hv : z_nl v9 = true) (k : z_G S d y nx (v0 :: v1 :: v2 :: v3 :: v4 :: v5 :: v6 :: v7 :: v8 :: v9 :: some (.int x) :: t) st M r M') : z_G S d y pc (v0 :: v1 :: v2 :: v3 :: v4 :: v5 :: v6 :: v7 :: v8 :: v9 :: v10 :: t) (.int x :: st) M r M' := g_step hc (by simp only [z_stp]; rw [if_pos (by simp)]; exact congrArg (fun q => some (Sum.inl (nx, q, st, M))) (z_sto10 hv)) k
theorem g_as10 {v0 v1 v2 v3 v4 v5 v6 v7 v8 v9 v10 : Option Value} {t : ZL} {x : Nat} (hc : z_code y pc = some (nx, .astore 10)) (hv : z_nl v9 = true) (k : z_G S d y nx (v0 :: v1 :: v2 :: v3 :: v4 :: v5 :: v6 :: v7 :: v8 :: v9 :: some (.ref x) :: t) st M r M') : z_G S d y pc (v0 :: v1 :: v2 :: v3 :: v4 :: v5 :: v6 :: v7 :: v8 :: v9 :: v10 :: t) (.ref x :: st) M r M' := g_step hc (by simp only [z_stp]; rw [if_pos (by simp)]; exact congrArg (fun q => some (Sum.inl (nx, q, st, M))) (z_sto10 hv)) k
theorem g_an10 {v0 v1 v2 v3 v4 v5 v6 v7 v8 v9 v10 : Option Value} {t : ZL} (hc : z_code y pc = some (nx, .astore 10)) (hv : z_nl v9 = true) (k : z_G S d y nx (v0 :: v1 :: v2 :: v3 :: v4 :: v5 :: v6 :: v7 :: v8 :: v9 :: some (.null) :: t) st M r M') : z_G S d y pc (v0 :: v1 :: v2 :: v3 :: v4 :: v5 :: v6 :: v7 :: v8 :: v9 :: v10 :: t) (.null :: st) M r M' := g_step hc (by simp only [z_stp]; rw [if_pos (by simp)]; exact congrArg (fun q => some (Sum.inl (nx, q, st, M))) (z_sto10 hv)) k
theorem g_is11 {v0 v1 v2 v3 v4 v5 v6 v7 v8 v9 v10 v11 : Option Value} {t : ZL} {x : Int32} (hc : z_code y pc = some (nx, .istore 11)) (hv : z_nl v10 = true) (k : z_G S d y nx (v0 :: v1 :: v2 :: v3 :: v4 :: v5 :: v6 :: v7 :: v8 :: v9 :: v10 :: some (.int x) :: t) st M r M') : z_G S d y pc (v0 :: v1 :: v2 :: v3 :: v4 :: v5 :: v6 :: v7 :: v8 :: v9 :: v10 :: v11 :: t) (.int x :: st) M r M' := g_step hc (by simp only [z_stp]; rw [if_pos (by simp)]; exact congrArg (fun q => some (Sum.inl (nx, q, st, M))) (z_sto11 hv)) k
theorem g_as11 {v0 v1 v2 v3 v4 v5 v6 v7 v8 v9 v10 v11 : Option Value} {t : ZL} {x : Nat} (hc : z_code y pc = some (nx, .astore 11)) (hv : z_nl v10 = true) (k : z_G S d y nx (v0 :: v1 :: v2 :: v3 :: v4 :: v5 :: v6 :: v7 :: v8 :: v9 :: v10 :: some (.ref x) :: t) st M r M') : z_G S d y pc (v0 :: v1 :: v2 :: v3 :: v4 :: v5 :: v6 :: v7 :: v8 :: v9 :: v10 :: v11 :: t) (.ref x :: st) M r M' := g_step hc (by simp only [z_stp]; rw [if_pos (by simp)]; exact congrArg (fun q => some (Sum.inl (nx, q, st, M))) (z_sto11 hv)) k
theorem g_an11 {v0 v1 v2 v3 v4 v5 v6 v7 v8 v9 v10 v11 : Option Value} {t : ZL} (hc : z_code y pc = some (nx, .astore 11)) (hv : z_nl v10 = true) (k : z_G S d y nx (v0 :: v1 :: v2 :: v3 :: v4 :: v5 :: v6 :: v7 :: v8 :: v9 :: v10 :: some (.null) :: t) st M r M') : z_G S d y pc (v0 :: v1 :: v2 :: v3 :: v4 :: v5 :: v6 :: v7 :: v8 :: v9 :: v10 :: v11 :: t) (.null :: st) M r M' := g_step hc (by simp only [z_stp]; rw [if_pos (by simp)]; exact congrArg (fun q => some (Sum.inl (nx, q, st, M))) (z_sto11 hv)) k
theorem g_is12 {v0 v1 v2 v3 v4 v5 v6 v7 v8 v9 v10 v11 v12 : Option Value} {t : ZL} {x : Int32} (hc : z_code y pc = some (nx, .istore 12)) (hv : z_nl v11 = true) (k : z_G S d y nx (v0 :: v1 :: v2 :: v3 :: v4 :: v5 :: v6 :: v7 :: v8 :: v9 :: v10 :: v11 :: some (.int x) :: t) st M r M') : z_G S d y pc (v0 :: v1 :: v2 :: v3 :: v4 :: v5 :: v6 :: v7 :: v8 :: v9 :: v10 :: v11 :: v12 :: t) (.int x :: st) M r M' := g_step hc (by simp only [z_stp]; rw [if_pos (by simp)]; exact congrArg (fun q => some (Sum.inl (nx, q, st, M))) (z_sto12 hv)) k
theorem g_as12 {v0 v1 v2 v3 v4 v5 v6 v7 v8 v9 v10 v11 v12 : Option Value} {t : ZL} {x : Nat} (hc : z_code y pc = some (nx, .astore 12)) (hv : z_nl v11 = true) (k : z_G S d y nx (v0 :: v1 :: v2 :: v3 :: v4 :: v5 :: v6 :: v7 :: v8 :: v9 :: v10 :: v11 :: some (.ref x) :: t) st M r M') : z_G S d y pc (v0 :: v1 :: v2 :: v3 :: v4 :: v5 :: v6 :: v7 :: v8 :: v9 :: v10 :: v11 :: v12 :: t) (.ref x :: st) M r M' := g_step hc (by simp only [z_stp]; rw [if_pos (by simp)]; exact congrArg (fun q => some (Sum.inl (nx, q, st, M))) (z_sto12 hv)) k
theorem g_an12 {v0 v1 v2 v3 v4 v5 v6 v7 v8 v9 v10 v11 v12 : Option Value} {t : ZL} (hc : z_code y pc = some (nx, .astore 12)) (hv : z_nl v11 = true) (k : z_G S d y nx (v0 :: v1 :: v2 :: v3 :: v4 :: v5 :: v6 :: v7 :: v8 :: v9 :: v10 :: v11 :: some (.null) :: t) st M r M') : z_G S d y pc (v0 :: v1 :: v2 :: v3 :: v4 :: v5 :: v6 :: v7 :: v8 :: v9 :: v10 :: v11 :: v12 :: t) (.null :: st) M r M' := g_step hc (by simp only [z_stp]; rw [if_pos (by simp)]; exact congrArg (fun q => some (Sum.inl (nx, q, st, M))) (z_sto12 hv)) k
theorem g_ii0 {t : ZL} {x : Int32} {n : Int} (hc : z_code y pc = some (nx, .iinc 0 n)) (k : z_G S d y nx (some (.int (x + zI n)) :: t) st M r M') : z_G S d y pc (some (.int x) :: t) st M r M' := g_step hc (by simp only [z_stp]; exact congrArg (fun q => some (Sum.inl (nx, q, st, M))) (z_sto0)) k
theorem g_ii1 {v0 : Option Value} {t : ZL} {x : Int32} {n : Int} (hc : z_code y pc = some (nx, .iinc 1 n)) (hv : z_nl v0 = true) (k : z_G S d y nx (v0 :: some (.int (x + zI n)) :: t) st M r M') : z_G S d y pc (v0 :: some (.int x) :: t) st M r M' := g_step hc (by simp only [z_stp]; exact congrArg (fun q => some (Sum.inl (nx, q, st, M))) (z_sto1 hv)) k
theorem g_ii2 {v0 v1 : Option Value} {t : ZL} {x : Int32} {n : Int} (hc : z_code y pc = some (nx, .iinc 2 n)) (hv : z_nl v1 = true) (k : z_G S d y nx (v0 :: v1 :: some (.int (x + zI n)) :: t) st M r M') : z_G S d y pc (v0 :: v1 :: some (.int x) :: t) st M r M' := g_step hc (by simp only [z_stp]; exact congrArg (fun q => some (Sum.inl (nx, q, st, M))) (z_sto2 hv)) k
theorem g_ii3 {v0 v1 v2 : Option Value} {t : ZL} {x : Int32} {n : Int} (hc : z_code y pc = some (nx, .iinc 3 n)) (hv : z_nl v2 = true) (k : z_G S d y nx (v0 :: v1 :: v2 :: some (.int (x + zI n)) :: t) st M r M') : z_G S d y pc (v0 :: v1 :: v2 :: some (.int x) :: t) st M r M' := g_step hc (by simp only [z_stp]; exact congrArg (fun q => some (Sum.inl (nx, q, st, M))) (z_sto3 hv)) k
theorem g_ii4 {v0 v1 v2 v3 : Option Value} {t : ZL} {x : Int32} {n : Int} (hc : z_code y pc = some (nx, .iinc 4 n)) (hv : z_nl v3 = true) (k : z_G S d y nx (v0 :: v1 :: v2 :: v3 :: some (.int (x + zI n)) :: t) st M r M') : z_G S d y pc (v0 :: v1 :: v2 :: v3 :: some (.int x) :: t) st M r M' := g_step hc (by simp only [z_stp]; exact congrArg (fun q => some (Sum.inl (nx, q, st, M))) (z_sto4 hv)) k
theorem g_ii5 {v0 v1 v2 v3 v4 : Option Value} {t : ZL} {x : Int32} {n : Int} (hc : z_code y pc = some (nx, .iinc 5 n)) (hv : z_nl v4 = true) (k : z_G S d y nx (v0 :: v1 :: v2 :: v3 :: v4 :: some (.int (x + zI n)) :: t) st M r M') : z_G S d y pc (v0 :: v1 :: v2 :: v3 :: v4 :: some (.int x) :: t) st M r M' := g_step hc (by simp only [z_stp]; exact congrArg (fun q => some (Sum.inl (nx, q, st, M))) (z_sto5 hv)) k
theorem g_ii6 {v0 v1 v2 v3 v4 v5 : Option Value} {t : ZL} {x : Int32} {n : Int} (hc : z_code y pc = some (nx, .iinc 6 n)) (hv : z_nl v5 = true) (k : z_G S d y nx (v0 :: v1 :: v2 :: v3 :: v4 :: v5 :: some (.int (x + zI n)) :: t) st M r M') : z_G S d y pc (v0 :: v1 :: v2 :: v3 :: v4 :: v5 :: some (.int x) :: t) st M r M' := g_step hc (by simp only [z_stp]; exact congrArg (fun q => some (Sum.inl (nx, q, st, M))) (z_sto6 hv)) k
theorem g_ii7 {v0 v1 v2 v3 v4 v5 v6 : Option Value} {t : ZL} {x : Int32} {n : Int} (hc : z_code y pc = some (nx, .iinc 7 n)) (hv : z_nl v6 = true) (k : z_G S d y nx (v0 :: v1 :: v2 :: v3 :: v4 :: v5 :: v6 :: some (.int (x + zI n)) :: t) st M r M') : z_G S d y pc (v0 :: v1 :: v2 :: v3 :: v4 :: v5 :: v6 :: some (.int x) :: t) st M r M' := g_step hc (by simp only [z_stp]; exact congrArg (fun q => some (Sum.inl (nx, q, st, M))) (z_sto7 hv)) k
theorem g_ii8 {v0 v1 v2 v3 v4 v5 v6 v7 : Option Value} {t : ZL} {x : Int32} {n : Int} (hc : z_code y pc = some (nx, .iinc 8 n)) (hv : z_nl v7 = true) (k : z_G S d y nx (v0 :: v1 :: v2 :: v3 :: v4 :: v5 :: v6 :: v7 :: some (.int (x + zI n)) :: t) st M r M') : z_G S d y pc (v0 :: v1 :: v2 :: v3 :: v4 :: v5 :: v6 :: v7 :: some (.int x) :: t) st M r M' := g_step hc (by simp only [z_stp]; exact congrArg (fun q => some (Sum.inl (nx, q, st, M))) (z_sto8 hv)) k
theorem g_ii9 {v0 v1 v2 v3 v4 v5 v6 v7 v8 : Option Value} {t : ZL} {x : Int32} {n : Int} (hc : z_code y pc = some (nx, .iinc 9 n)) (hv : z_nl v8 = true) (k : z_G S d y nx (v0 :: v1 :: v2 :: v3 :: v4 :: v5 :: v6 :: v7 :: v8 :: some (.int (x + zI n)) :: t) st M r M') : z_G S d y pc (v0 :: v1 :: v2 :: v3 :: v4 :: v5 :: v6 :: v7 :: v8 :: some (.int x) :: t) st M r M' := g_step hc (by simp only [z_stp]; exact congrArg (fun q => some (Sum.inl (nx, q, st, M))) (z_sto9 hv)) k
theorem g_ii10 {v0 v1 v2 v3 v4 v5 v6 v7 v8 v9 : Option Value} {t : ZL} {x : Int32} {n : Int} (hc : z_code y pc = some (nx, .iinc 10 n)) (hv : z_nl v9 = true) (k : z_G S d y nx (v0 :: v1 :: v2 :: v3 :: v4 :: v5 :: v6 :: v7 :: v8 :: v9 :: some (.int (x + zI n)) :: t) st M r M') : z_G S d y pc (v0 :: v1 :: v2 :: v3 :: v4 :: v5 :: v6 :: v7 :: v8 :: v9 :: some (.int x) :: t) st M r M' := g_step hc (by simp only [z_stp]; exact congrArg (fun q => some (Sum.inl (nx, q, st, M))) (z_sto10 hv)) k
theorem g_ii11 {v0 v1 v2 v3 v4 v5 v6 v7 v8 v9 v10 : Option Value} {t : ZL} {x : Int32} {n : Int} (hc : z_code y pc = some (nx, .iinc 11 n)) (hv : z_nl v10 = true) (k : z_G S d y nx (v0 :: v1 :: v2 :: v3 :: v4 :: v5 :: v6 :: v7 :: v8 :: v9 :: v10 :: some (.int (x + zI n)) :: t) st M r M') : z_G S d y pc (v0 :: v1 :: v2 :: v3 :: v4 :: v5 :: v6 :: v7 :: v8 :: v9 :: v10 :: some (.int x) :: t) st M r M' := g_step hc (by simp only [z_stp]; exact congrArg (fun q => some (Sum.inl (nx, q, st, M))) (z_sto11 hv)) k
theorem g_ii12 {v0 v1 v2 v3 v4 v5 v6 v7 v8 v9 v10 v11 : Option Value} {t : ZL} {x : Int32} {n : Int} (hc : z_code y pc = some (nx, .iinc 12 n)) (hv : z_nl v11 = true) (k : z_G S d y nx (v0 :: v1 :: v2 :: v3 :: v4 :: v5 :: v6 :: v7 :: v8 :: v9 :: v10 :: v11 :: some (.int (x + zI n)) :: t) st M r M') : z_G S d y pc (v0 :: v1 :: v2 :: v3 :: v4 :: v5 :: v6 :: v7 :: v8 :: v9 :: v10 :: v11 :: some (.int x) :: t) st M r M' := g_step hc (by simp only [z_stp]; exact congrArg (fun q => some (Sum.inl (nx, q, st, M))) (z_sto12 hv)) k
theorem g_iadd {a b : Int32} (hc : z_code y pc = some (nx, .iadd)) (k : z_G S d y nx ls (.int (a + b) :: st) M r M') : z_G S d y pc ls (.int b :: .int a :: st) M r M' := g_step hc rfl k
theorem g_isub {a b : Int32} (hc : z_code y pc = some (nx, .isub)) (k : z_G S d y nx ls (.int (a - b) :: st) M r M') : z_G S d y pc ls (.int b :: .int a :: st) M r M' := g_step hc rfl k
theorem g_imul {a b : Int32} (hc : z_code y pc = some (nx, .imul)) (k : z_G S d y nx ls (.int (a * b) :: st) M r M') : z_G S d y pc ls (.int b :: .int a :: st) M r M' := g_step hc rfl k
theorem g_iand {a b : Int32} (hc : z_code y pc = some (nx, .iand)) (k : z_G S d y nx ls (.int (a &&& b) :: st) M r M') : z_G S d y pc ls (.int b :: .int a :: st) M r M' := g_step hc rfl k
theorem g_ior {a b : Int32} (hc : z_code y pc = some (nx, .ior)) (k : z_G S d y nx ls (.int (a ||| b) :: st) M r M') : z_G S d y pc ls (.int b :: .int a :: st) M r M' := g_step hc rfl k
theorem g_ixor {a b : Int32} (hc : z_code y pc = some (nx, .ixor)) (k : z_G S d y nx ls (.int (a ^^^ b) :: st) M r M') : z_G S d y pc ls (.int b :: .int a :: st) M r M' := g_step hc rfl k
theorem g_ishl {a b : Int32} (hc : z_code y pc = some (nx, .ishl)) (k : z_G S d y nx ls (.int (a <<< (b &&& 31)) :: st) M r M') : z_G S d y pc ls (.int b :: .int a :: st) M r M' := g_step hc rfl k
theorem g_ishr {a b : Int32} (hc : z_code y pc = some (nx, .ishr)) (k : z_G S d y nx ls (.int (a >>> (b &&& 31)) :: st) M r M') : z_G S d y pc ls (.int b :: .int a :: st) M r M' := g_step hc rfl k
theorem g_iushr {a b : Int32} (hc : z_code y pc = some (nx, .iushr)) (k : z_G S d y nx ls (.int ((a.toUInt32 >>> (b.toUInt32 &&& Int32.toUInt32 31)).toInt32) :: st) M r M') : z_G S d y pc ls (.int b :: .int a :: st) M r M' := g_step hc rfl k
theorem g_idiv {a b : Int32} (hc : z_code y pc = some (nx, .idiv)) (hb : ¬ b = 0) (k : z_G S d y nx ls (.int (a / b) :: st) M r M') : z_G S d y pc ls (.int b :: .int a :: st) M r M' := g_step hc (by simp only [z_stp]; rw [if_neg hb]) k
theorem g_irem {a b : Int32} (hc : z_code y pc = some (nx, .irem)) (hb : ¬ b = 0) (k : z_G S d y nx ls (.int (a - a / b * b) :: st) M r M') : z_G S d y pc ls (.int b :: .int a :: st) M r M' := g_step hc (by simp only [z_stp]; rw [if_neg hb]) k
theorem g_ladd {a b : Int64} (hc : z_code y pc = some (nx, .ladd)) (k : z_G S d y nx ls (.long (a + b) :: st) M r M') : z_G S d y pc ls (.long b :: .long a :: st) M r M' := g_step hc rfl k
theorem g_land {a b : Int64} (hc : z_code y pc = some (nx, .land)) (k : z_G S d y nx ls (.long (a &&& b) :: st) M r M') : z_G S d y pc ls (.long b :: .long a :: st) M r M' := g_step hc rfl k
theorem g_lor {a b : Int64} (hc : z_code y pc = some (nx, .lor)) (k : z_G S d y nx ls (.long (a ||| b) :: st) M r M') : z_G S d y pc ls (.long b :: .long a :: st) M r M' := g_step hc rfl k
theorem g_lshl {b : Int32} {a : Int64} (hc : z_code y pc = some (nx, .lshl)) (k : z_G S d y nx ls (.long (a <<< (b.toInt64 &&& 63)) :: st) M r M') : z_G S d y pc ls (.int b :: .long a :: st) M r M' := g_step hc rfl k
theorem g_lshr {b : Int32} {a : Int64} (hc : z_code y pc = some (nx, .lshr)) (k : z_G S d y nx ls (.long (a >>> (b.toInt64 &&& 63)) :: st) M r M') : z_G S d y pc ls (.int b :: .long a :: st) M r M' := g_step hc rfl k
theorem g_lushr {b : Int32} {a : Int64} (hc : z_code y pc = some (nx, .lushr)) (k : z_G S d y nx ls (.long ((a.toUInt64 >>> (b.toInt64.toUInt64 &&& Int64.toUInt64 63)).toInt64) :: st) M r M') : z_G S d y pc ls (.int b :: .long a :: st) M r M' := g_step hc rfl k
theorem g_lcmp {a b : Int64} (hc : z_code y pc = some (nx, .lcmp)) (k : z_G S d y nx ls (.int (lg_cmp a b) :: st) M r M') : z_G S d y pc ls (.long b :: .long a :: st) M r M' := g_step hc rfl k
theorem g_i2l {a : Int32} (hc : z_code y pc = some (nx, .i2l)) (k : z_G S d y nx ls (.long a.toInt64 :: st) M r M') : z_G S d y pc ls (.int a :: st) M r M' := g_step hc rfl k
theorem g_l2i {a : Int64} (hc : z_code y pc = some (nx, .l2i)) (k : z_G S d y nx ls (.int a.toInt32 :: st) M r M') : z_G S d y pc ls (.long a :: st) M r M' := g_step hc rfl k
theorem g_i2b {a : Int32} (hc : z_code y pc = some (nx, .i2b)) (k : z_G S d y nx ls (.int a.toInt8.toInt32 :: st) M r M') : z_G S d y pc ls (.int a :: st) M r M' := g_step hc rfl k
theorem g_dupI {a : Int32} (hc : z_code y pc = some (nx, .dup)) (k : z_G S d y nx ls (.int a :: .int a :: st) M r M') : z_G S d y pc ls (.int a :: st) M r M' := g_step hc rfl k
theorem g_dupA {a : Nat} (hc : z_code y pc = some (nx, .dup)) (k : z_G S d y nx ls (.ref a :: .ref a :: st) M r M') : z_G S d y pc ls (.ref a :: st) M r M' := g_step hc rfl k
theorem g_dup2 {i : Int32} {a : Nat} (hc : z_code y pc = some (nx, .dup2)) (k : z_G S d y nx ls (.int i :: .ref a :: .int i :: .ref a :: st) M r M') : z_G S d y pc ls (.int i :: .ref a :: st) M r M' := g_step hc rfl k
theorem g_popI {a : Int32} (hc : z_code y pc = some (nx, .pop)) (k : z_G S d y nx ls st M r M') : z_G S d y pc ls (.int a :: st) M r M' := g_step hc rfl k
theorem g_goto {t : Nat} (hc : z_code y pc = some (nx, .ret t)) (k : z_G S d y t ls st M r M') : z_G S d y pc ls st M r M' := g_step hc rfl k
theorem g_icT {q t : Nat} {a b : Int32} (hc : z_code y pc = some (nx, .invokeinterface q t)) (h : z_cc q a b = true) (k : z_G S d y t ls st M r M') : z_G S d y pc ls (.int b :: .int a :: st) M r M' := g_step hc (by simp only [z_stp]; rw [if_pos h]) k
theorem g_icF {q t : Nat} {a b : Int32} (hc : z_code y pc = some (nx, .invokeinterface q t)) (h : z_cc q a b = false) (k : z_G S d y nx ls st M r M') : z_G S d y pc ls (.int b :: .int a :: st) M r M' := g_step hc (by simp only [z_stp]; rw [if_neg (by rw [h]; decide)]) k
theorem g_ifT {q t : Nat} {a : Int32} (hc : z_code y pc = some (nx, .multianewarray q t)) (h : z_cc q a (zI 0) = true) (k : z_G S d y t ls st M r M') : z_G S d y pc ls (.int a :: st) M r M' := g_step hc (by simp only [z_stp]; have h : z_cc q a 0 = true := h; rw [if_pos h]) k
theorem g_ifF {q t : Nat} {a : Int32} (hc : z_code y pc = some (nx, .multianewarray q t)) (h : z_cc q a (zI 0) = false) (k : z_G S d y nx ls st M r M') : z_G S d y pc ls (.int a :: st) M r M' := g_step hc (by simp only [z_stp]; have h : z_cc q a 0 = false := h; rw [if_neg (by rw [h]; decide)]) k
theorem g_nuF {t x : Nat} (hc : z_code y pc = some (nx, .dload t)) (k : z_G S d y nx ls st M r M') : z_G S d y pc ls (.ref x :: st) M r M' := g_step hc rfl k
theorem g_nuT {t : Nat} (hc : z_code y pc = some (nx, .dload t)) (k : z_G S d y t ls st M r M') : z_G S d y pc ls (.null :: st) M r M' := g_step hc rfl k
theorem g_nnT {t x : Nat} (hc : z_code y pc = some (nx, .dstore t)) (k : z_G S d y t ls st M r M') : z_G S d y pc ls (.ref x :: st) M r M' := g_step hc rfl k
theorem g_nnF {t : Nat} (hc : z_code y pc = some (nx, .dstore t)) (k : z_G S d y nx ls st M r M') : z_G S d y pc ls (.null :: st) M r M' := g_step hc rfl k
theorem g_tsO {e lo hi : Int} {offs : Array Int} {x : Int32} (hc : z_code y pc = some (nx, .tableswitch e lo hi offs)) (h : x.toInt < lo ∨ hi < x.toInt) (k : z_G S d y e.toNat ls st M r M') : z_G S d y pc ls (.int x :: st) M r M' := g_step hc (by simp only [z_stp]; rw [if_pos h]) k
theorem g_tsI {e lo hi : Int} {offs : Array Int} {x : Int32} {v : Int} (hc : z_code y pc = some (nx, .tableswitch e lo hi offs)) (h : ¬ (x.toInt < lo ∨ hi < x.toInt)) (ho : offs[(x.toInt - lo).toNat]? = some v) (k : z_G S d y v.toNat ls st M r M') : z_G S d y pc ls (.int x :: st) M r M' := g_step hc (by simp only [z_stp]; rw [if_neg h, ho]) k
theorem g_lk {e : Int} {ps : Array (Int × Int)} {x : Int32} (hc : z_code y pc = some (nx, .lookupswitch e ps)) (k : z_G S d y (Op.lookupswitch.offset ps.toList e x.toInt).toNat ls st M r M') : z_G S d y pc ls (.int x :: st) M r M' := g_step hc rfl k
theorem g_gf {n a ci : Nat} {fs : List Value} {v : Value} (hc : z_code y pc = some (nx, .getfield n)) (hM : M[a]? = some (.inl (ci, fs))) (hci : ci = n / 32) (hf : fs[n % 32]? = some v) (k : z_G S d y nx ls (v :: st) M r M') : z_G S d y pc ls (.ref a :: st) M r M' := g_step hc (by simp only [z_stp]; rw [hM]; (try dsimp only); rw [if_pos hci, hf]) k
theorem g_pf {n a ci : Nat} {fs fs2 : List Value} {v : Value} (hc : z_code y pc = some (nx, .putfield n)) (hM : M[a]? = some (.inl (ci, fs))) (hci : ci = n / 32) (hlen : n % 32 < fs.length) (hft : z_fit (z_fty ci (n % 32)) v = true) (hfi : z_fin ci (n % 32) = false ∨ z_ini y ci = true) (hset : fs.set (n % 32) v = fs2) (k : z_G S d y nx ls st (M.set a (.inl (ci, fs2))) r M') : z_G S d y pc ls (v :: .ref a :: st) M r M' := g_step hc (by simp only [z_stp]; rw [hM]; (try dsimp only); rw [if_pos ⟨hci, hlen, hft, hfi⟩, hset]) k
theorem g_ia {a n : Nat} {f : Nat → Int32} {i : Int32} (hc : z_code y pc = some (nx, .iaload)) (h9 : ¬ a = 1000) (hM : M[a]? = some (.inr (0, n, .inl f))) (hi : z_in i n = true) (k : z_G S d y nx ls (.int (f i.toNatClampNeg) :: st) M r M') : z_G S d y pc ls (.int i :: .ref a :: st) M r M' := g_step hc (by simp only [z_stp]; rw [if_neg h9]; rw [hM]; exact if_pos hi) k
theorem g_ba {a n : Nat} {f : Nat → Int32} {i : Int32} (hc : z_code y pc = some (nx, .baload)) (hM : M[a]? = some (.inr (1, n, .inl f))) (hi : z_in i n = true) (k : z_G S d y nx ls (.int (f i.toNatClampNeg) :: st) M r M') : z_G S d y pc ls (.int i :: .ref a :: st) M r M' := g_step hc (by simp only [z_stp]; rw [hM]; exact if_pos hi) k
theorem g_za {a n : Nat} {f : Nat → Int32} {i : Int32} (hc : z_code y pc = some (nx, .baload)) (hM : M[a]? = some (.inr (2, n, .inl f))) (hi : z_in i n = true) (k : z_G S d y nx ls (.int (f i.toNatClampNeg) :: st) M r M') : z_G S d y pc ls (.int i :: .ref a :: st) M r M' := g_step hc (by simp only [z_stp]; rw [hM]; exact if_pos hi) k
theorem g_ja {a n : Nat} {f : Nat → Int64} {i : Int32} (hc : z_code y pc = some (nx, .laload)) (hM : M[a]? = some (.inr (3, n, .inr (.inl f)))) (hi : z_in i n = true) (k : z_G S d y nx ls (.long (f i.toNatClampNeg) :: st) M r M') : z_G S d y pc ls (.int i :: .ref a :: st) M r M' := g_step hc (by simp only [z_stp]; rw [hM]; exact if_pos hi) k
theorem g_aa4 {a n : Nat} {f : Nat → Option Nat} {i : Int32} (hc : z_code y pc = some (nx, .aaload)) (hM : M[a]? = some (.inr (4, n, .inr (.inr f)))) (hi : z_in i n = true) (k : z_G S d y nx ls (va_rf (f i.toNatClampNeg) :: st) M r M') : z_G S d y pc ls (.int i :: .ref a :: st) M r M' := g_step hc (by simp only [z_stp]; rw [hM]; exact if_pos hi) k
theorem g_aa5 {a n : Nat} {f : Nat → Option Nat} {i : Int32} (hc : z_code y pc = some (nx, .aaload)) (hM : M[a]? = some (.inr (5, n, .inr (.inr f)))) (hi : z_in i n = true) (k : z_G S d y nx ls (va_rf (f i.toNatClampNeg) :: st) M r M') : z_G S d y pc ls (.int i :: .ref a :: st) M r M' := g_step hc (by simp only [z_stp]; rw [hM]; exact if_pos hi) k
theorem g_sa {i : Int32} (hc : z_code y pc = some (nx, .iaload)) (hi : z_in i S.1 = true) (k : z_G S d y nx ls (.int (S.2 i.toNatClampNeg) :: st) M r M') : z_G S d y pc ls (.int i :: .ref 1000 :: st) M r M' := g_step hc (by simp only [z_stp]; rw [if_pos trivial, if_pos hi]) k
theorem g_iS {a n : Nat} {f : Nat → Int32} {i : Int32} {x : Int32} (hc : z_code y pc = some (nx, .iastore)) (hM : M[a]? = some (.inr (0, n, .inl f))) (hi : z_in i n = true) (k : z_G S d y nx ls st (M.set a (.inr (0, n, .inl (upd f i.toNatClampNeg x)))) r M') : z_G S d y pc ls (.int x :: .int i :: .ref a :: st) M r M' := g_step hc (by simp only [z_stp]; rw [hM]; exact if_pos hi) k
theorem g_bS {a n : Nat} {f : Nat → Int32} {i : Int32} {x : Int32} (hc : z_code y pc = some (nx, .bastore)) (hM : M[a]? = some (.inr (1, n, .inl f))) (hi : z_in i n = true) (k : z_G S d y nx ls st (M.set a (.inr (1, n, .inl (upd f i.toNatClampNeg (vp_nar .byte x))))) r M') : z_G S d y pc ls (.int x :: .int i :: .ref a :: st) M r M' := g_step hc (by simp only [z_stp]; rw [hM]; exact if_pos hi) k
theorem g_zS {a n : Nat} {f : Nat → Int32} {i : Int32} {x : Int32} (hc : z_code y pc = some (nx, .bastore)) (hM : M[a]? = some (.inr (2, n, .inl f))) (hi : z_in i n = true) (k : z_G S d y nx ls st (M.set a (.inr (2, n, .inl (upd f i.toNatClampNeg (vp_nar .boolean x))))) r M') : z_G S d y pc ls (.int x :: .int i :: .ref a :: st) M r M' := g_step hc (by simp only [z_stp]; rw [hM]; exact if_pos hi) k
theorem g_jS {a n : Nat} {f : Nat → Int64} {i : Int32} {x : Int64} (hc : z_code y pc = some (nx, .lastore)) (hM : M[a]? = some (.inr (3, n, .inr (.inl f)))) (hi : z_in i n = true) (k : z_G S d y nx ls st (M.set a (.inr (3, n, .inr (.inl (vp_updL f i.toNatClampNeg x))))) r M') : z_G S d y pc ls (.long x :: .int i :: .ref a :: st) M r M' := g_step hc (by simp only [z_stp]; rw [hM]; exact if_pos hi) k
theorem g_aS4 {a n x : Nat} {f : Nat → Option Nat} {i : Int32} {fs : List Value} (hc : z_code y pc = some (nx, .aastore)) (hM : M[a]? = some (.inr (4, n, .inr (.inr f)))) (hX : M[x]? = some (.inl (0, fs))) (hi : z_in i n = true) (k : z_G S d y nx ls st (M.set a (.inr (4, n, .inr (.inr (va_up f i.toNatClampNeg (some x)))))) r M') : z_G S d y pc ls (.ref x :: .int i :: .ref a :: st) M r M' := g_step hc (by simp only [z_stp]; rw [hM, hX]; exact if_pos hi) k
theorem g_aS5 {a n x : Nat} {f : Nat → Option Nat} {i : Int32} {fs : List Value} (hc : z_code y pc = some (nx, .aastore)) (hM : M[a]? = some (.inr (5, n, .inr (.inr f)))) (hX : M[x]? = some (.inl (2, fs))) (hi : z_in i n = true) (k : z_G S d y nx ls st (M.set a (.inr (5, n, .inr (.inr (va_up f i.toNatClampNeg (some x)))))) r M') : z_G S d y pc ls (.ref x :: .int i :: .ref a :: st) M r M' := g_step hc (by simp only [z_stp]; rw [hM, hX]; exact if_pos hi) k
theorem g_len0 {a n : Nat} {f : Nat → Int32} (hc : z_code y pc = some (nx, .arraylength)) (h9 : ¬ a = 1000) (hM : M[a]? = some (.inr (0, n, .inl f))) (k : z_G S d y nx ls (.int (zI (n : Int)) :: st) M r M') : z_G S d y pc ls (.ref a :: st) M r M' := g_step hc (by simp only [z_stp]; rw [if_neg h9, hM]; rfl) k
theorem g_len3 {a n : Nat} {f : Nat → Int64} (hc : z_code y pc = some (nx, .arraylength)) (h9 : ¬ a = 1000) (hM : M[a]? = some (.inr (3, n, .inr (.inl f)))) (k : z_G S d y nx ls (.int (zI (n : Int)) :: st) M r M') : z_G S d y pc ls (.ref a :: st) M r M' := g_step hc (by simp only [z_stp]; rw [if_neg h9, hM]; rfl) k
theorem g_slen (hc : z_code y pc = some (nx, .arraylength)) (k : z_G S d y nx ls (.int (zI (S.1 : Int)) :: st) M r M') : z_G S d y pc ls (.ref 1000 :: st) M r M' := g_step hc (by simp only [z_stp]; rw [if_pos trivial]; rfl) k
theorem g_obj {a : Nat} (hc : z_code y pc = some (nx, .monitorenter)) (h8 : z_cat st = true) (k : z_G S d y nx ls st M r M') : z_G S d y pc ls (.ref a :: st) M r M' := g_step hc (by simp only [z_stp]; rw [if_pos h8]) k
theorem g_cpy {a a2 n0 n1 : Nat} {f g : Nat → Int32} {n dp sq : Int32} (hc : z_code y pc = some (nx, .athrow)) (hM : M[a]? = some (.inr (0, n0, .inl f))) (hM2 : M[a2]? = some (.inr (0, n1, .inl g))) (h : ¬ (sq < 0 ∨ dp < 0 ∨ n < 0 ∨ n0 < sq.toNatClampNeg + n.toNatClampNeg ∨ n1 < dp.toNatClampNeg + n.toNatClampNeg ∨ z_cat st = false)) (k : z_G S d y nx ls st (M.set a2 (.inr (0, n1, .inl (va_cpy f g sq.toNatClampNeg dp.toNatClampNeg n.toNatClampNeg)))) r M') : z_G S d y pc ls (.int n :: .int dp :: .ref a2 :: .int sq :: .ref a :: st) M r M' := g_step hc (by simp only [z_stp]; rw [hM, hM2]; exact if_neg h) k
theorem g_max {a b : Int32} (hc : z_code y pc = some (nx, .dadd)) (h8 : z_cat st = true) (k : z_G S d y nx ls (.int (if a < b then b else a) :: st) M r M') : z_G S d y pc ls (.int b :: .int a :: st) M r M' := g_step hc (by simp only [z_stp]; rw [if_pos h8]) k
theorem g_min {a b : Int32} (hc : z_code y pc = some (nx, .dsub)) (h8 : z_cat st = true) (k : z_G S d y nx ls (.int (if b < a then b else a) :: st) M r M') : z_G S d y pc ls (.int b :: .int a :: st) M r M' := g_step hc (by simp only [z_stp]; rw [if_pos h8]) k
theorem g_sl {a : Nat} (hc : z_code y pc = some (nx, .saload)) (h : 1001 ≤ a ∧ a < 1004 ∧ z_cat st = true) (k : z_G S d y nx ls (.int (zI (z_wlen (a - 1001) : Int)) :: st) M r M') : z_G S d y pc ls (.ref a :: st) M r M' := g_step hc (by simp only [z_stp]; rw [if_pos h]; rfl) k
theorem g_sc {a : Nat} {i : Int32} (hc : z_code y pc = some (nx, .sastore)) (h : 1001 ≤ a ∧ a < 1004 ∧ z_in i (z_wlen (a - 1001)) = true ∧ z_cat st = true) (k : z_G S d y nx ls (.int ((z_wch (a - 1001)).getD i.toNatClampNeg 0) :: st) M r M') : z_G S d y pc ls (.int i :: .ref a :: st) M r M' := g_step hc (by simp only [z_stp]; rw [if_pos h]) k
theorem g_reti {v : Int32} (hc : z_code y pc = some (nx, .ireturn)) (hr : r = some (.int v)) (hok : z_rok y (.int v) = true) : z_G S d y pc ls [.int v] M r M := by
  subst hr
  exact g_ret hc (by simp only [z_stp]; rw [if_pos hok])
theorem g_retl {v : Int64} (hc : z_code y pc = some (nx, .lreturn)) (hr : r = some (.long v)) (hok : z_rok y (.long v) = true) : z_G S d y pc ls [.long v] M r M := by
  subst hr
  exact g_ret hc (by simp only [z_stp]; rw [if_pos hok])
theorem g_reta {v : Nat} (hc : z_code y pc = some (nx, .areturn)) (hr : r = some (.ref v)) (hok : z_rok y (.ref v) = true) : z_G S d y pc ls [.ref v] M r M := by
  subst hr
  exact g_ret hc (by simp only [z_stp]; rw [if_pos hok])
theorem g_retn (hc : z_code y pc = some (nx, .areturn)) (hr : r = some .null) (hok : z_rok y .null = true) : z_G S d y pc ls [.null] M r M := by
  subst hr
  exact g_ret hc (by simp only [z_stp]; rw [if_pos hok])
theorem g_retv (hc : z_code y pc = some (nx, .return_)) (hr : r = none) (hok : (z_mt y).2.2.2.1 = none) : z_G S d y pc ls [] M r M := by
  subst hr
  exact g_ret hc (by simp only [z_stp]; rw [hok])
/-- calls: the arguments as they lie on the stack -/
theorem g_cs {q n : Nat} {as rest : List Value} {r1 : Option Value} {M1 : ZM} (hc : z_code y pc = some (nx, .invokestatic q)) (hn : (z_mt q).2.2.2.2.1 = n) (h99 : (z_mt q).2.2.2.2.2 = 99) (hle : n ≤ st.length) (has : (st.take n).reverse = as) (hrs : st.drop n = rest) (h8 : z_cat rest = true) (hcal : z_C S d q as M r1 M1) (k : z_G S (d + 1) y nx ls (r1.toList ++ rest) M1 r M') : z_G S (d + 1) y pc ls st M r M' := by
  subst hn has hrs
  exact g_call hc (by simp only [z_stp]; rw [if_pos ⟨hle, h99, h8⟩]) hcal k
theorem g_cv {q n a ci : Nat} {fs : List Value} {as rest : List Value} {r1 : Option Value} {M1 : ZM} (hc : z_code y pc = some (nx, .invokevirtual q)) (hn : (z_mt q).2.2.2.2.1 = n) (hrs : st.drop n = .ref a :: rest) (has : (st.take n).reverse = as) (hM : M[a]? = some (.inl (ci, fs))) (hci : ci = (z_mt q).2.2.2.2.2) (h7 : ci < 7) (h8 : z_cat rest = true) (hcal : z_C S d q (.ref a :: as) M r1 M1) (k : z_G S (d + 1) y nx ls (r1.toList ++ rest) M1 r M') : z_G S (d + 1) y pc ls st M r M' := by
  subst hn has
  exact g_call hc (by simp only [z_stp]; rw [hrs]; (try dsimp only); rw [hM]; (try dsimp only); rw [if_pos ⟨hci, h7, h8⟩]) hcal k
theorem g_cx {q n a : Nat} {as rest : List Value} {r1 : Option Value} {M1 : ZM} (hc : z_code y pc = some (nx, .invokespecial q)) (hn : (z_mt q).2.2.2.2.1 = n) (hrs : st.drop n = .ref a :: rest) (has : (st.take n).reverse = as) (h8 : z_cat rest = true) (hi : (z_mt q).1.name = "<init>") (hv : (z_mt q).2.2.2.1 = none) (hcal : z_C S d q (.ref a :: as) M r1 M1) (k : z_G S (d + 1) y nx ls (r1.toList ++ rest) M1 r M') : z_G S (d + 1) y pc ls st M r M' := by
  subst hn has
  exact g_call hc (by simp only [z_stp]; rw [hrs]; (try dsimp only); rw [if_pos ⟨h8, hi, hv⟩]) hcal k
end ZG
