/-! a long into the 7th local -/
theorem r_ls7 {S : ZS} {d y pc nx : Nat} {v0 v1 v2 v3 v4 v5 v6 v7 v8 : Option Value} {t : ZL} {st : List Value} {M : ZM} {Q : Option Value → ZM → Prop} {x : Int64} (hc : z_code y pc = some (nx, .lstore 7)) (hv : z_nl v6 = true) (k : z_R S d y nx (v0 :: v1 :: v2 :: v3 :: v4 :: v5 :: v6 :: some (.long x) :: none :: t) st M Q) : z_R S d y pc (v0 :: v1 :: v2 :: v3 :: v4 :: v5 :: v6 :: v7 :: v8 :: t) (.long x :: st) M Q := by
  obtain ⟨r, M', k, hq⟩ := k
  refine ⟨r, M', g_step hc ?_ k, hq⟩
  simp only [z_stp]
  rw [if_pos (by simp)]
  refine congrArg (fun q => some (Sum.inl (nx, q, st, M))) ?_
  unfold z_st2 z_cut
  have h : (v0 :: v1 :: v2 :: v3 :: v4 :: v5 :: v6 :: v7 :: v8 :: t)[6]? = some v6 := rfl
  dsimp only
  rw [h]
  cases v6 with
  | none => rfl
  | some w =>
    have hw : w.category = 1 := of_decide_eq_true hv
    dsimp only
    rw [if_neg (by rw [hw]; decide)]
    rfl
