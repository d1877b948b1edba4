/-! RUNS that come to something: Q says what of the answer and the cells -/
def z_R (S : ZS) (d y pc : Nat) (ls : ZL) (st : List Value) (M : ZM) (Q : Option Value → ZM → Prop) : Prop := ∃ r M', z_G S d y pc ls st M r M' ∧ Q r M'
theorem r_of {S : ZS} {d y pc : Nat} {ls : ZL} {st : List Value} {M : ZM} {Q Q' : Option Value → ZM → Prop} (h : z_R S d y pc ls st M Q) (hq : ∀ r M', Q r M' → Q' r M') : z_R S d y pc ls st M Q' := by
  obtain ⟨r, M', h1, h2⟩ := h
  exact ⟨r, M', h1, hq r M' h2⟩
theorem k_of {S : ZS} {d y : Nat} {as : List Value} {n : Nat} {L : ZL} {M : ZM} {Q : Option Value → ZM → Prop} (hn : (z_mt y).2.2.1 = n) (hl : z_ent as n = L) (h0 : (z_sl as).length ≤ n) (k : z_R S d y 0 L [] M Q) : ∃ r M', z_C S d y as M r M' ∧ Q r M' := by
  obtain ⟨r, M', h1, h2⟩ := k
  exact ⟨r, M', c_of hn hl h0 h1, h2⟩
/-- the answer is known -/
theorem k_an {S : ZS} {d y : Nat} {as : List Value} {M : ZM} {a : Option Value} {Q : ZM → Prop} (h : ∃ r M', z_C S d y as M r M' ∧ (r = a ∧ Q M')) : ∃ M', z_C S d y as M a M' ∧ Q M' := by
  obtain ⟨r, M', h1, rfl, h2⟩ := h
  exact ⟨M', h1, h2⟩
section ZR
variable {S : ZS} {d y pc nx : Nat} {ls : ZL} {st : List Value} {M : ZM} {Q : Option Value → ZM → Prop}
theorem r_ic {n : Int} (hc : z_code y pc = some (nx, .iconst n)) (k : z_R S d y nx ls (.int (zI n) :: st) M Q) : z_R S d y pc ls st M Q := by
  obtain ⟨r, M', k, hq⟩ := k
  exact ⟨r, M', g_ic hc k, hq⟩
theorem r_lc {n : Int} (hc : z_code y pc = some (nx, .goto_w n)) (k : z_R S d y nx ls (.long (Int64.ofInt n) :: st) M Q) : z_R S d y pc ls st M Q := by
  obtain ⟨r, M', k, hq⟩ := k
  exact ⟨r, M', g_lc hc k, hq⟩
theorem r_null (hc : z_code y pc = some (nx, .aconst_null)) (k : z_R S d y nx ls (.null :: st) M Q) : z_R S d y pc ls st M Q := by
  obtain ⟨r, M', k, hq⟩ := k
  exact ⟨r, M', g_null hc k, hq⟩
theorem r_ldc {n : Nat} (hc : z_code y pc = some (nx, .ldc n)) (hn : n < 3) (k : z_R S d y nx ls (.ref (1001 + n) :: st) M Q) : z_R S d y pc ls st M Q := by
  obtain ⟨r, M', k, hq⟩ := k
  exact ⟨r, M', g_ldc hc hn k, hq⟩
theorem r_il {n : Nat} {x : Int32} (hc : z_code y pc = some (nx, .iload n)) (hl : ls[n]? = some (some (.int x))) (k : z_R S d y nx ls (.int x :: st) M Q) : z_R S d y pc ls st M Q := by
  obtain ⟨r, M', k, hq⟩ := k
  exact ⟨r, M', g_il hc hl k, hq⟩
theorem r_ll {n : Nat} {x : Int64} (hc : z_code y pc = some (nx, .lload n)) (hl : ls[n]? = some (some (.long x))) (k : z_R S d y nx ls (.long x :: st) M Q) : z_R S d y pc ls st M Q := by
  obtain ⟨r, M', k, hq⟩ := k
  exact ⟨r, M', g_ll hc hl k, hq⟩
theorem r_al {n : Nat} {x : Nat} (hc : z_code y pc = some (nx, .aload n)) (hl : ls[n]? = some (some (.ref x))) (k : z_R S d y nx ls (.ref x :: st) M Q) : z_R S d y pc ls st M Q := by
  obtain ⟨r, M', k, hq⟩ := k
  exact ⟨r, M', g_al hc hl k, hq⟩
theorem r_aln {n : Nat} (hc : z_code y pc = some (nx, .aload n)) (hl : ls[n]? = some (some .null)) (k : z_R S d y nx ls (.null :: st) M Q) : z_R S d y pc ls st M Q := by
  obtain ⟨r, M', k, hq⟩ := k
  exact ⟨r, M', g_aln hc hl k, hq⟩
theorem r_is0 {v0 : Option Value} {t : ZL} {x : Int32} (hc : z_code y pc = some (nx, .istore 0)) (k : z_R S d y nx (some (.int x) :: t) st M Q) : z_R S d y pc (v0 :: t) (.int x :: st) M Q := by
  obtain ⟨r, M', k, hq⟩ := k
  exact ⟨r, M', g_is0 hc k, hq⟩
theorem r_as0 {v0 : Option Value} {t : ZL} {x : Nat} (hc : z_code y pc = some (nx, .astore 0)) (k : z_R S d y nx (some (.ref x) :: t) st M Q) : z_R S d y pc (v0 :: t) (.ref x :: st) M Q := by
  obtain ⟨r, M', k, hq⟩ := k
  exact ⟨r, M', g_as0 hc k, hq⟩
theorem r_an0 {v0 : Option Value} {t : ZL} (hc : z_code y pc = some (nx, .astore 0)) (k : z_R S d y nx (some (.null) :: t) st M Q) : z_R S d y pc (v0 :: t) (.null :: st) M Q := by
  obtain ⟨r, M', k, hq⟩ := k
  exact ⟨r, M', g_an0 hc k, hq⟩
theorem r_is1 {v0 v1 : Option Value} {t : ZL} {x : Int32} (hc : z_code y pc = some (nx, .istore 1)) (hv : z_nl v0 = true) (k : z_R S d y nx (v0 :: some (.int x) :: t) st M Q) : z_R S d y pc (v0 :: v1 :: t) (.int x :: st) M Q := by
  obtain ⟨r, M', k, hq⟩ := k
  exact ⟨r, M', g_is1 hc hv k, hq⟩
theorem r_as1 {v0 v1 : Option Value} {t : ZL} {x : Nat} (hc : z_code y pc = some (nx, .astore 1)) (hv : z_nl v0 = true) (k : z_R S d y nx (v0 :: some (.ref x) :: t) st M Q) : z_R S d y pc (v0 :: v1 :: t) (.ref x :: st) M Q := by
  obtain ⟨r, M', k, hq⟩ := k
  exact ⟨r, M', g_as1 hc hv k, hq⟩
theorem r_an1 {v0 v1 : Option Value} {t : ZL} (hc : z_code y pc = some (nx, .astore 1)) (hv : z_nl v0 = true) (k : z_R S d y nx (v0 :: some (.null) :: t) st M Q) : z_R S d y pc (v0 :: v1 :: t) (.null :: st) M Q := by
  obtain ⟨r, M', k, hq⟩ := k
  exact ⟨r, M', g_an1 hc hv k, hq⟩
theorem r_is2 {v0 v1 v2 : Option Value} {t : ZL} {x : Int32} (hc : z_code y pc = some (nx, .istore 2)) (hv : z_nl v1 = true) (k : z_R S d y nx (v0 :: v1 :: some (.int x) :: t) st M Q) : z_R S d y pc (v0 :: v1 :: v2 :: t) (.int x :: st) M Q := by
  obtain ⟨r, M', k, hq⟩ := k
  exact ⟨r, M', g_is2 hc hv k, hq⟩
theorem r_as2 {v0 v1 v2 : Option Value} {t : ZL} {x : Nat} (hc : z_code y pc = some (nx, .astore 2)) (hv : z_nl v1 = true) (k : z_R S d y nx (v0 :: v1 :: some (.ref x) :: t) st M Q) : z_R S d y pc (v0 :: v1 :: v2 :: t) (.ref x :: st) M Q := by
  obtain ⟨r, M', k, hq⟩ := k
  exact ⟨r, M', g_as2 hc hv k, hq⟩
theorem r_an2 {v0 v1 v2 : Option Value} {t : ZL} (hc : z_code y pc = some (nx, .astore 2)) (hv : z_nl v1 = true) (k : z_R S d y nx (v0 :: v1 :: some (.null) :: t) st M Q) : z_R S d y pc (v0 :: v1 :: v2 :: t) (.null :: st) M Q := by
  obtain ⟨r, M', k, hq⟩ := k
  exact ⟨r, M', g_an2 hc hv k, hq⟩
theorem r_is3 {v0 v1 v2 v3 : Option Value} {t : ZL} {x : Int32} (hc : z_code y pc = some (nx, .istore 3)) (hv : z_nl v2 = true) (k : z_R S d y nx (v0 :: v1 :: v2 :: some (.int x) :: t) st M Q) : z_R S d y pc (v0 :: v1 :: v2 :: v3 :: t) (.int x :: st) M Q := by
  obtain ⟨r, M', k, hq⟩ := k
  exact ⟨r, M', g_is3 hc hv k, hq⟩
theorem r_as3 {v0 v1 v2 v3 : Option Value} {t : ZL} {x : Nat} (hc : z_code y pc = some (nx, .astore 3)) (hv : z_nl v2 = true) (k : z_R S d y nx (v0 :: v1 :: v2 :: some (.ref x) :: t) st M Q) : z_R S d y pc (v0 :: v1 :: v2 :: v3 :: t) (.ref x :: st) M Q := by
  obtain ⟨r, M', k, hq⟩ := k
  exact ⟨r, M', g_as3 hc hv k, hq⟩
theorem r_an3 {v0 v1 v2 v3 : Option Value} {t : ZL} (hc : z_code y pc = some (nx, .astore 3)) (hv : z_nl v2 = true) (k : z_R S d y nx (v0 :: v1 :: v2 :: some (.null) :: t) st M Q) : z_R S d y pc (v0 :: v1 :: v2 :: v3 :: t) (.null :: st) M Q := by
  obtain ⟨r, M', k, hq⟩ := k
  exact ⟨r, M', g_an3 hc hv k, hq⟩
theorem r_is4 {v0 v1 v2 v3 v4 : Option Value} {t : ZL} {x : Int32} (hc : z_code y pc = some (nx, .istore 4)) (hv : z_nl v3 = true) (k : z_R S d y nx (v0 :: v1 :: v2 :: v3 :: some (.int x) :: t) st M Q) : z_R S d y pc (v0 :: v1 :: v2 :: v3 :: v4 :: t) (.int x :: st) M Q := by
  obtain ⟨r, M', k, hq⟩ := k
  exact ⟨r, M', g_is4 hc hv k, hq⟩
theorem r_as4 {v0 v1 v2 v3 v4 : Option Value} {t : ZL} {x : Nat} (hc : z_code y pc = some (nx, .astore 4)) (hv : z_nl v3 = true) (k : z_R S d y nx (v0 :: v1 :: v2 :: v3 :: some (.ref x) :: t) st M Q) : z_R S d y pc (v0 :: v1 :: v2 :: v3 :: v4 :: t) (.ref x :: st) M Q := by
  obtain ⟨r, M', k, hq⟩ := k
  exact ⟨r, M', g_as4 hc hv k, hq⟩
theorem r_an4 {v0 v1 v2 v3 v4 : Option Value} {t : ZL} (hc : z_code y pc = some (nx, .astore 4)) (hv : z_nl v3 = true) (k : z_R S d y nx (v0 :: v1 :: v2 :: v3 :: some (.null) :: t) st M Q) : z_R S d y pc (v0 :: v1 :: v2 :: v3 :: v4 :: t) (.null :: st) M Q := by
  obtain ⟨r, M', k, hq⟩ := k
  exact ⟨r, M', g_an4 hc hv k, hq⟩
theorem r_is5 {v0 v1 v2 v3 v4 v5 : Option Value} {t : ZL} {x : Int32} (hc : z_code y pc = some (nx, .istore 5)) (hv : z_nl v4 = true) (k : z_R S d y nx (v0 :: v1 :: v2 :: v3 :: v4 :: some (.int x) :: t) st M Q) : z_R S d y pc (v0 :: v1 :: v2 :: v3 :: v4 :: v5 :: t) (.int x :: st) M Q := by
  obtain ⟨r, M', k, hq⟩ := k
  exact ⟨r, M', g_is5 hc hv k, hq⟩
theorem r_as5 {v0 v1 v2 v3 v4 v5 : Option Value} {t : ZL} {x : Nat} (hc : z_code y pc = some (nx, .astore 5)) (hv : z_nl v4 = true) (k : z_R S d y nx (v0 :: v1 :: v2 :: v3 :: v4 :: some (.ref x) :: t) st M Q) : z_R S d y pc (v0 :: v1 :: v2 :: v3 :: v4 :: v5 :: t) (.ref x :: st) M Q := by
  obtain ⟨r, M', k, hq⟩ := k
  exact ⟨r, M', g_as5 hc hv k, hq⟩
theorem r_an5 {v0 v1 v2 v3 v4 v5 : Option Value} {t : ZL} (hc : z_code y pc = some (nx, .astore 5)) (hv : z_nl v4 = true) (k : z_R S d y nx (v0 :: v1 :: v2 :: v3 :: v4 :: some (.null) :: t) st M Q) : z_R S d y pc (v0 :: v1 :: v2 :: v3 :: v4 :: v5 :: t) (.null :: st) M Q := by
  obtain ⟨r, M', k, hq⟩ := k
  exact ⟨r, M', g_an5 hc hv k, hq⟩
theorem r_is6 {v0 v1 v2 v3 v4 v5 v6 : Option Value} {t : ZL} {x : Int32} (hc : z_code y pc = some (nx, .istore 6)) (hv : z_nl v5 = true) (k : z_R S d y nx (v0 :: v1 :: v2 :: v3 :: v4 :: v5 :: some (.int x) :: t) st M Q) : z_R S d y pc (v0 :: v1 :: v2 :: v3 :: v4 :: v5 :: v6 :: t) (.int x :: st) M Q := by
  obtain ⟨r, M', k, hq⟩ := k
  exact ⟨r, M', g_is6 hc hv k, hq⟩
theorem r_as6 {v0 v1 v2 v3 v4 v5 v6 : Option Value} {t : ZL} {x : Nat} (hc : z_code y pc = some (nx, .astore 6)) (hv : z_nl v5 = true) (k : z_R S d y nx (v0 :: v1 :: v2 :: v3 :: v4 :: v5 :: some (.ref x) :: t) st M Q) : z_R S d y pc (v0 :: v1 :: v2 :: v3 :: v4 :: v5 :: v6 :: t) (.ref x :: st) M Q := by
  obtain ⟨r, M', k, hq⟩ := k
  exact ⟨r, M', g_as6 hc hv k, hq⟩
theorem r_an6 {v0 v1 v2 v3 v4 v5 v6 : Option Value} {t : ZL} (hc : z_code y pc = some (nx, .astore 6)) (hv : z_nl v5 = true) (k : z_R S d y nx (v0 :: v1 :: v2 :: v3 :: v4 :: v5 :: some (.null) :: t) st M Q) : z_R S d y pc (v0 :: v1 :: v2 :: v3 :: v4 :: v5 :: v6 :: t) (.null :: st) M Q := by
  obtain ⟨r, M', k, hq⟩ := k
  exact ⟨r, M', g_an6 hc hv k, hq⟩
theorem r_is7 {v0 v1 v2 v3 v4 v5 v6 v7 : Option Value} {t : ZL} {x : Int32} (hc : z_code y pc = some (nx, .istore 7)) (hv : z_nl v6 = true) (k : z_R S d y nx (v0 :: v1 :: v2 :: v3 :: v4 :: v5 :: v6 :: some (.int x) :: t) st M Q) : z_R S d y pc (v0 :: v1 :: v2 :: v3 :: v4 :: v5 :: v6 :: v7 :: t) (.int x :: st) M Q := by
  obtain ⟨r, M', k, hq⟩ := k
  exact ⟨r, M', g_is7 hc hv k, hq⟩
theorem r_as7 {v0 v1 v2 v3 v4 v5 v6 v7 : Option Value} {t : ZL} {x : Nat} (hc : z_code y pc = some (nx, .astore 7)) (hv : z_nl v6 = true) (k : z_R S d y nx (v0 :: v1 :: v2 :: v3 :: v4 :: v5 :: v6 :: some (.ref x) :: t) st M Q) : z_R S d y pc (v0 :: v1 :: v2 :: v3 :: v4 :: v5 :: v6 :: v7 :: t) (.ref x :: st) M Q := by
  obtain ⟨r, M', k, hq⟩ := k
  exact ⟨r, M', g_as7 hc hv k, hq⟩
theorem r_an7 {v0 v1 v2 v3 v4 v5 v6 v7 : Option Value} {t : ZL} (hc : z_code y pc = some (nx, .astore 7)) (hv : z_nl v6 = true) (k : z_R S d y nx (v0 :: v1 :: v2 :: v3 :: v4 :: v5 :: v6 :: some (.null) :: t) st M Q) : z_R S d y pc (v0 :: v1 :: v2 :: v3 :: v4 :: v5 :: v6 :: v7 :: t) (.null :: st) M Q := by
  obtain ⟨r, M', k, hq⟩ := k
  exact ⟨r, M', g_an7 hc hv k, hq⟩
theorem r_is8 {v0 v1 v2 v3 v4 v5 v6 v7 v8 : Option Value} {t : ZL} {x : Int32} (hc : z_code y pc = some (nx, .istore 8)) (hv : z_nl v7 = true) (k : z_R S d y nx (v0 :: v1 :: v2 :: v3 :: v4 :: v5 :: v6 :: v7 :: some (.int x) :: t) st M Q) : z_R S d y pc (v0 :: v1 :: v2 :: v3 :: v4 :: v5 :: v6 :: v7 :: v8 :: t) (.int x :: st) M Q := by
  obtain ⟨r, M', k, hq⟩ := k
  exact ⟨r, M', g_is8 hc hv k, hq⟩
theorem r_as8 {v0 v1 v2 v3 v4 v5 v6 v7 v8 : Option Value} {t : ZL} {x : Nat} (hc : z_code y pc = some (nx, .astore 8)) (hv : z_nl v7 = true) (k : z_R S d y nx (v0 :: v1 :: v2 :: v3 :: v4 :: v5 :: v6 :: v7 :: some (.ref x) :: t) st M Q) : z_R S d y pc (v0 :: v1 :: v2 :: v3 :: v4 :: v5 :: v6 :: v7 :: v8 :: t) (.ref x :: st) M Q := by
  obtain ⟨r, M', k, hq⟩ := k
  exact ⟨r, M', g_as8 hc hv k, hq⟩
theorem r_an8 {v0 v1 v2 v3 v4 v5 v6 v7 v8 : Option Value} {t : ZL} (hc : z_code y pc = some (nx, .astore 8)) (hv : z_nl v7 = true) (k : z_R S d y nx (v0 :: v1 :: v2 :: v3 :: v4 :: v5 :: v6 :: v7 :: some (.null) :: t) st M Q) : z_R S d y pc (v0 :: v1 :: v2 :: v3 :: v4 :: v5 :: v6 :: v7 :: v8 :: t) (.null :: st) M Q := by
  obtain ⟨r, M', k, hq⟩ := k
  exact ⟨r, M', g_an8 hc hv k, hq⟩
theorem r_is9 {v0 v1 v2 v3 v4 v5 v6 v7 v8 v9 : Option Value} {t : ZL} {x : Int32} (hc : z_code y pc = some (nx, .istore 9)) (hv : z_nl v8 = true) (k : z_R S d y nx (v0 :: v1 :: v2 :: v3 :: v4 :: v5 :: v6 :: v7 :: v8 :: some (.int x) :: t) st M Q) : z_R S d y pc (v0 :: v1 :: v2 :: v3 :: v4 :: v5 :: v6 :: v7 :: v8 :: v9 :: t) (.int x :: st) M Q := by
  obtain ⟨r, M', k, hq⟩ := k
  exact ⟨r, M', g_is9 hc hv k, hq⟩
theorem r_as9 {v0 v1 v2 v3 v4 v5 v6 v7 v8 v9 : Option Value} {t : ZL} {x : Nat} (hc : z_code y pc = some (nx, .astore 9)) (hv : z_nl v8 = true) (k : z_R S d y nx (v0 :: v1 :: v2 :: v3 :: v4 :: v5 :: v6 :: v7 :: v8 :: some (.ref x) :: t) st M Q) : z_R S d y pc (v0 :: v1 :: v2 :: v3 :: v4 :: v5 :: v6 :: v7 :: v8 :: v9 :: t) (.ref x :: st) M Q := by
  obtain ⟨r, M', k, hq⟩ := k
  exact ⟨r, M', g_as9 hc hv k, hq⟩
theorem r_an9 {v0 v1 v2 v3 v4 v5 v6 v7 v8 v9 : Option Value} {t : ZL} (hc : z_code y pc = some (nx, .astore 9)) (hv : z_nl v8 = true) (k : z_R S d y nx (v0 :: v1 :: v2 :: v3 :: v4 :: v5 :: v6 :: v7 :: v8 :: some (.null) :: t) st M Q) : z_R S d y pc (v0 :: v1 :: v2 :: v3 :: v4 :: v5 :: v6 :: v7 :: v8 :: v9 :: t) (.null :: st) M Q := by
  obtain ⟨r, M', k, hq⟩ := k
  exact ⟨r, M', g_an9 hc hv k, hq⟩
theorem r_is10 {v0 v1 v2 v3 v4 v5 v6 v7 v8 v9 v10 : Option Value} {t : ZL} {x : Int32} (hc : z_code y pc = some (nx, .istore 10)) (hv : z_nl v9 = true) (k : z_R S d y nx (v0 :: v1 :: v2 :: v3 :: v4 :: v5 :: v6 :: v7 :: v8 :: v9 :: some (.int x) :: t) st M Q) : z_R S d y pc (v0 :: v1 :: v2 :: v3 :: v4 :: v5 :: v6 :: v7 :: v8 :: v9 :: v10 :: t) (.int x :: st) M Q := by
  obtain ⟨r, M', k, hq⟩ := k
  exact ⟨r, M', g_is10 hc hv k, hq⟩
theorem r_as10 {v0 v1 v2 v3 v4 v5 v6 v7 v8 v9 v10 : Option Value} {t : ZL} {x : Nat} (hc : z_code y pc = some (nx, .astore 10)) (hv : z_nl v9 = true) (k : z_R S d y nx (v0 :: v1 :: v2 :: v3 :: v4 :: v5 :: v6 :: v7 :: v8 :: v9 :: some (.ref x) :: t) st M Q) : z_R S d y pc (v0 :: v1 :: v2 :: v3 :: v4 :: v5 :: v6 :: v7 :: v8 :: v9 :: v10 :: t) (.ref x :: st) M Q := by
  obtain ⟨r, M', k, hq⟩ := k
  exact ⟨r, M', g_as10 hc hv k, hq⟩
theorem r_an10 {v0 v1 v2 v3 v4 v5 v6 v7 v8 v9 v10 : Option Value} {t : ZL} (hc : z_code y pc = some (nx, .astore 10)) (hv : z_nl v9 = true) (k : z_R S d y nx (v0 :: v1 :: v2 :: v3 :: v4 :: v5 :: v6 :: v7 :: v8 :: v9 :: some (.null) :: t) st M Q) : z_R S d y pc (v0 :: v1 :: v2 :: v3 :: v4 :: v5 :: v6 :: v7 :: v8 :: v9 :: v10 :: t) (.null :: st) M Q := by
  obtain ⟨r, M', k, hq⟩ := k
  exact ⟨r, M', g_an10 hc hv k, hq⟩
theorem r_is11 {v0 v1 v2 v3 v4 v5 v6 v7 v8 v9 v10 v11 : Option Value} {t : ZL} {x : Int32} (hc : z_code y pc = some (nx, .istore 11)) (hv : z_nl v10 = true) (k : z_R S d y nx (v0 :: v1 :: v2 :: v3 :: v4 :: v5 :: v6 :: v7 :: v8 :: v9 :: v10 :: some (.int x) :: t) st M Q) : z_R S d y pc (v0 :: v1 :: v2 :: v3 :: v4 :: v5 :: v6 :: v7 :: v8 :: v9 :: v10 :: v11 :: t) (.int x :: st) M Q := by
  obtain ⟨r, M', k, hq⟩ := k
  exact ⟨r, M', g_is11 hc hv k, hq⟩
theorem r_as11 {v0 v1 v2 v3 v4 v5 v6 v7 v8 v9 v10 v11 : Option Value} {t : ZL} {x : Nat} (hc : z_code y pc = some (nx, .astore 11)) (hv : z_nl v10 = true) (k : z_R S d y nx (v0 :: v1 :: v2 :: v3 :: v4 :: v5 :: v6 :: v7 :: v8 :: v9 :: v10 :: some (.ref x) :: t) st M Q) : z_R S d y pc (v0 :: v1 :: v2 :: v3 :: v4 :: v5 :: v6 :: v7 :: v8 :: v9 :: v10 :: v11 :: t) (.ref x :: st) M Q := by
  obtain ⟨r, M', k, hq⟩ := k
  exact ⟨r, M', g_as11 hc hv k, hq⟩
theorem r_an11 {v0 v1 v2 v3 v4 v5 v6 v7 v8 v9 v10 v11 : Option Value} {t : ZL} (hc : z_code y pc = some (nx, .astore 11)) (hv : z_nl v10 = true) (k : z_R S d y nx (v0 :: v1 :: v2 :: v3 :: v4 :: v5 :: v6 :: v7 :: v8 :: v9 :: v10 :: some (.null) :: t) st M Q) : z_R S d y pc (v0 :: v1 :: v2 :: v3 :: v4 :: v5 :: v6 :: v7 :: v8 :: v9 :: v10 :: v11 :: t) (.null :: st) M Q := by
  obtain ⟨r, M', k, hq⟩ := k
  exact ⟨r, M', g_an11 hc hv k, hq⟩
theorem r_is12 {v0 v1 v2 v3 v4 v5 v6 v7 v8 v9 v10 v11 v12 : Option Value} {t : ZL} {x : Int32} (hc : z_code y pc = some (nx, .istore 12)) (hv : z_nl v11 = true) (k : z_R S d y nx (v0 :: v1 :: v2 :: v3 :: v4 :: v5 :: v6 :: v7 :: v8 :: v9 :: v10 :: v11 :: some (.int x) :: t) st M Q) : z_R S d y pc (v0 :: v1 :: v2 :: v3 :: v4 :: v5 :: v6 :: v7 :: v8 :: v9 :: v10 :: v11 :: v12 :: t) (.int x :: st) M Q := by
  obtain ⟨r, M', k, hq⟩ := k
  exact ⟨r, M', g_is12 hc hv k, hq⟩
theorem r_as12 {v0 v1 v2 v3 v4 v5 v6 v7 v8 v9 v10 v11 v12 : Option Value} {t : ZL} {x : Nat} (hc : z_code y pc = some (nx, .astore 12)) (hv : z_nl v11 = true) (k : z_R S d y nx (v0 :: v1 :: v2 :: v3 :: v4 :: v5 :: v6 :: v7 :: v8 :: v9 :: v10 :: v11 :: some (.ref x) :: t) st M Q) : z_R S d y pc (v0 :: v1 :: v2 :: v3 :: v4 :: v5 :: v6 :: v7 :: v8 :: v9 :: v10 :: v11 :: v12 :: t) (.ref x :: st) M Q := by
  obtain ⟨r, M', k, hq⟩ := k
  exact ⟨r, M', g_as12 hc hv k, hq⟩
theorem r_an12 {v0 v1 v2 v3 v4 v5 v6 v7 v8 v9 v10 v11 v12 : Option Value} {t : ZL} (hc : z_code y pc = some (nx, .astore 12)) (hv : z_nl v11 = true) (k : z_R S d y nx (v0 :: v1 :: v2 :: v3 :: v4 :: v5 :: v6 :: v7 :: v8 :: v9 :: v10 :: v11 :: some (.null) :: t) st M Q) : z_R S d y pc (v0 :: v1 :: v2 :: v3 :: v4 :: v5 :: v6 :: v7 :: v8 :: v9 :: v10 :: v11 :: v12 :: t) (.null :: st) M Q := by
  obtain ⟨r, M', k, hq⟩ := k
  exact ⟨r, M', g_an12 hc hv k, hq⟩
theorem r_ii0 {t : ZL} {x : Int32} {n : Int} (hc : z_code y pc = some (nx, .iinc 0 n)) (k : z_R S d y nx (some (.int (x + zI n)) :: t) st M Q) : z_R S d y pc (some (.int x) :: t) st M Q := by
  obtain ⟨r, M', k, hq⟩ := k
  exact ⟨r, M', g_ii0 hc k, hq⟩
theorem r_ii1 {v0 : Option Value} {t : ZL} {x : Int32} {n : Int} (hc : z_code y pc = some (nx, .iinc 1 n)) (hv : z_nl v0 = true) (k : z_R S d y nx (v0 :: some (.int (x + zI n)) :: t) st M Q) : z_R S d y pc (v0 :: some (.int x) :: t) st M Q := by
  obtain ⟨r, M', k, hq⟩ := k
  exact ⟨r, M', g_ii1 hc hv k, hq⟩
theorem r_ii2 {v0 v1 : Option Value} {t : ZL} {x : Int32} {n : Int} (hc : z_code y pc = some (nx, .iinc 2 n)) (hv : z_nl v1 = true) (k : z_R S d y nx (v0 :: v1 :: some (.int (x + zI n)) :: t) st M Q) : z_R S d y pc (v0 :: v1 :: some (.int x) :: t) st M Q := by
  obtain ⟨r, M', k, hq⟩ := k
  exact ⟨r, M', g_ii2 hc hv k, hq⟩
theorem r_ii3 {v0 v1 v2 : Option Value} {t : ZL} {x : Int32} {n : Int} (hc : z_code y pc = some (nx, .iinc 3 n)) (hv : z_nl v2 = true) (k : z_R S d y nx (v0 :: v1 :: v2 :: some (.int (x + zI n)) :: t) st M Q) : z_R S d y pc (v0 :: v1 :: v2 :: some (.int x) :: t) st M Q := by
  obtain ⟨r, M', k, hq⟩ := k
  exact ⟨r, M', g_ii3 hc hv k, hq⟩
theorem r_ii4 {v0 v1 v2 v3 : Option Value} {t : ZL} {x : Int32} {n : Int} (hc : z_code y pc = some (nx, .iinc 4 n)) (hv : z_nl v3 = true) (k : z_R S d y nx (v0 :: v1 :: v2 :: v3 :: some (.int (x + zI n)) :: t) st M Q) : z_R S d y pc (v0 :: v1 :: v2 :: v3 :: some (.int x) :: t) st M Q := by
  obtain ⟨r, M', k, hq⟩ := k
  exact ⟨r, M', g_ii4 hc hv k, hq⟩
theorem r_ii5 {v0 v1 v2 v3 v4 : Option Value} {t : ZL} {x : Int32} {n : Int} (hc : z_code y pc = some (nx, .iinc 5 n)) (hv : z_nl v4 = true) (k : z_R S d y nx (v0 :: v1 :: v2 :: v3 :: v4 :: some (.int (x + zI n)) :: t) st M Q) : z_R S d y pc (v0 :: v1 :: v2 :: v3 :: v4 :: some (.int x) :: t) st M Q := by
  obtain ⟨r, M', k, hq⟩ := k
  exact ⟨r, M', g_ii5 hc hv k, hq⟩
theorem r_ii6 {v0 v1 v2 v3 v4 v5 : Option Value} {t : ZL} {x : Int32} {n : Int} (hc : z_code y pc = some (nx, .iinc 6 n)) (hv : z_nl v5 = true) (k : z_R S d y nx (v0 :: v1 :: v2 :: v3 :: v4 :: v5 :: some (.int (x + zI n)) :: t) st M Q) : z_R S d y pc (v0 :: v1 :: v2 :: v3 :: v4 :: v5 :: some (.int x) :: t) st M Q := by
  obtain ⟨r, M', k, hq⟩ := k
  exact ⟨r, M', g_ii6 hc hv k, hq⟩
theorem r_ii7 {v0 v1 v2 v3 v4 v5 v6 : Option Value} {t : ZL} {x : Int32} {n : Int} (hc : z_code y pc = some (nx, .iinc 7 n)) (hv : z_nl v6 = true) (k : z_R S d y nx (v0 :: v1 :: v2 :: v3 :: v4 :: v5 :: v6 :: some (.int (x + zI n)) :: t) st M Q) : z_R S d y pc (v0 :: v1 :: v2 :: v3 :: v4 :: v5 :: v6 :: some (.int x) :: t) st M Q := by
  obtain ⟨r, M', k, hq⟩ := k
  exact ⟨r, M', g_ii7 hc hv k, hq⟩
theorem r_ii8 {v0 v1 v2 v3 v4 v5 v6 v7 : Option Value} {t : ZL} {x : Int32} {n : Int} (hc : z_code y pc = some (nx, .iinc 8 n)) (hv : z_nl v7 = true) (k : z_R S d y nx (v0 :: v1 :: v2 :: v3 :: v4 :: v5 :: v6 :: v7 :: some (.int (x + zI n)) :: t) st M Q) : z_R S d y pc (v0 :: v1 :: v2 :: v3 :: v4 :: v5 :: v6 :: v7 :: some (.int x) :: t) st M Q := by
  obtain ⟨r, M', k, hq⟩ := k
  exact ⟨r, M', g_ii8 hc hv k, hq⟩
theorem r_ii9 {v0 v1 v2 v3 v4 v5 v6 v7 v8 : Option Value} {t : ZL} {x : Int32} {n : Int} (hc : z_code y pc = some (nx, .iinc 9 n)) (hv : z_nl v8 = true) (k : z_R S d y nx (v0 :: v1 :: v2 :: v3 :: v4 :: v5 :: v6 :: v7 :: v8 :: some (.int (x + zI n)) :: t) st M Q) : z_R S d y pc (v0 :: v1 :: v2 :: v3 :: v4 :: v5 :: v6 :: v7 :: v8 :: some (.int x) :: t) st M Q := by
  obtain ⟨r, M', k, hq⟩ := k
  exact ⟨r, M', g_ii9 hc hv k, hq⟩
theorem r_ii10 {v0 v1 v2 v3 v4 v5 v6 v7 v8 v9 : Option Value} {t : ZL} {x : Int32} {n : Int} (hc : z_code y pc = some (nx, .iinc 10 n)) (hv : z_nl v9 = true) (k : z_R S d y nx (v0 :: v1 :: v2 :: v3 :: v4 :: v5 :: v6 :: v7 :: v8 :: v9 :: some (.int (x + zI n)) :: t) st M Q) : z_R S d y pc (v0 :: v1 :: v2 :: v3 :: v4 :: v5 :: v6 :: v7 :: v8 :: v9 :: some (.int x) :: t) st M Q := by
  obtain ⟨r, M', k, hq⟩ := k
  exact ⟨r, M', g_ii10 hc hv k, hq⟩
theorem r_ii11 {v0 v1 v2 v3 v4 v5 v6 v7 v8 v9 v10 : Option Value} {t : ZL} {x : Int32} {n : Int} (hc : z_code y pc = some (nx, .iinc 11 n)) (hv : z_nl v10 = true) (k : z_R S d y nx (v0 :: v1 :: v2 :: v3 :: v4 :: v5 :: v6 :: v7 :: v8 :: v9 :: v10 :: some (.int (x + zI n)) :: t) st M Q) : z_R S d y pc (v0 :: v1 :: v2 :: v3 :: v4 :: v5 :: v6 :: v7 :: v8 :: v9 :: v10 :: some (.int x) :: t) st M Q := by
  obtain ⟨r, M', k, hq⟩ := k
  exact ⟨r, M', g_ii11 hc hv k, hq⟩
theorem r_ii12 {v0 v1 v2 v3 v4 v5 v6 v7 v8 v9 v10 v11 : Option Value} {t : ZL} {x : Int32} {n : Int} (hc : z_code y pc = some (nx, .iinc 12 n)) (hv : z_nl v11 = true) (k : z_R S d y nx (v0 :: v1 :: v2 :: v3 :: v4 :: v5 :: v6 :: v7 :: v8 :: v9 :: v10 :: v11 :: some (.int (x + zI n)) :: t) st M Q) : z_R S d y pc (v0 :: v1 :: v2 :: v3 :: v4 :: v5 :: v6 :: v7 :: v8 :: v9 :: v10 :: v11 :: some (.int x) :: t) st M Q := by
  obtain ⟨r, M', k, hq⟩ := k
  exact ⟨r, M', g_ii12 hc hv k, hq⟩
theorem r_iadd {a b : Int32} (hc : z_code y pc = some (nx, .iadd)) (k : z_R S d y nx ls (.int (a + b) :: st) M Q) : z_R S d y pc ls (.int b :: .int a :: st) M Q := by
  obtain ⟨r, M', k, hq⟩ := k
  exact ⟨r, M', g_iadd hc k, hq⟩
theorem r_isub {a b : Int32} (hc : z_code y pc = some (nx, .isub)) (k : z_R S d y nx ls (.int (a - b) :: st) M Q) : z_R S d y pc ls (.int b :: .int a :: st) M Q := by
  obtain ⟨r, M', k, hq⟩ := k
  exact ⟨r, M', g_isub hc k, hq⟩
theorem r_imul {a b : Int32} (hc : z_code y pc = some (nx, .imul)) (k : z_R S d y nx ls (.int (a * b) :: st) M Q) : z_R S d y pc ls (.int b :: .int a :: st) M Q := by
  obtain ⟨r, M', k, hq⟩ := k
  exact ⟨r, M', g_imul hc k, hq⟩
theorem r_iand {a b : Int32} (hc : z_code y pc = some (nx, .iand)) (k : z_R S d y nx ls (.int (a &&& b) :: st) M Q) : z_R S d y pc ls (.int b :: .int a :: st) M Q := by
  obtain ⟨r, M', k, hq⟩ := k
  exact ⟨r, M', g_iand hc k, hq⟩
theorem r_ior {a b : Int32} (hc : z_code y pc = some (nx, .ior)) (k : z_R S d y nx ls (.int (a ||| b) :: st) M Q) : z_R S d y pc ls (.int b :: .int a :: st) M Q := by
  obtain ⟨r, M', k, hq⟩ := k
  exact ⟨r, M', g_ior hc k, hq⟩
theorem r_ixor {a b : Int32} (hc : z_code y pc = some (nx, .ixor)) (k : z_R S d y nx ls (.int (a ^^^ b) :: st) M Q) : z_R S d y pc ls (.int b :: .int a :: st) M Q := by
  obtain ⟨r, M', k, hq⟩ := k
  exact ⟨r, M', g_ixor hc k, hq⟩
theorem r_ishl {a b : Int32} (hc : z_code y pc = some (nx, .ishl)) (k : z_R S d y nx ls (.int (a <<< (b &&& 31)) :: st) M Q) : z_R S d y pc ls (.int b :: .int a :: st) M Q := by
  obtain ⟨r, M', k, hq⟩ := k
  exact ⟨r, M', g_ishl hc k, hq⟩
theorem r_ishr {a b : Int32} (hc : z_code y pc = some (nx, .ishr)) (k : z_R S d y nx ls (.int (a >>> (b &&& 31)) :: st) M Q) : z_R S d y pc ls (.int b :: .int a :: st) M Q := by
  obtain ⟨r, M', k, hq⟩ := k
  exact ⟨r, M', g_ishr hc k, hq⟩
theorem r_iushr {a b : Int32} (hc : z_code y pc = some (nx, .iushr)) (k : z_R S d y nx ls (.int ((a.toUInt32 >>> (b.toUInt32 &&& Int32.toUInt32 31)).toInt32) :: st) M Q) : z_R S d y pc ls (.int b :: .int a :: st) M Q := by
  obtain ⟨r, M', k, hq⟩ := k
  exact ⟨r, M', g_iushr hc k, hq⟩
theorem r_idiv {a b : Int32} (hc : z_code y pc = some (nx, .idiv)) (hb : ¬ b = 0) (k : z_R S d y nx ls (.int (a / b) :: st) M Q) : z_R S d y pc ls (.int b :: .int a :: st) M Q := by
  obtain ⟨r, M', k, hq⟩ := k
  exact ⟨r, M', g_idiv hc hb k, hq⟩
theorem r_irem {a b : Int32} (hc : z_code y pc = some (nx, .irem)) (hb : ¬ b = 0) (k : z_R S d y nx ls (.int (a - a / b * b) :: st) M Q) : z_R S d y pc ls (.int b :: .int a :: st) M Q := by
  obtain ⟨r, M', k, hq⟩ := k
  exact ⟨r, M', g_irem hc hb k, hq⟩
theorem r_ladd {a b : Int64} (hc : z_code y pc = some (nx, .ladd)) (k : z_R S d y nx ls (.long (a + b) :: st) M Q) : z_R S d y pc ls (.long b :: .long a :: st) M Q := by
  obtain ⟨r, M', k, hq⟩ := k
  exact ⟨r, M', g_ladd hc k, hq⟩
theorem r_land {a b : Int64} (hc : z_code y pc = some (nx, .land)) (k : z_R S d y nx ls (.long (a &&& b) :: st) M Q) : z_R S d y pc ls (.long b :: .long a :: st) M Q := by
  obtain ⟨r, M', k, hq⟩ := k
  exact ⟨r, M', g_land hc k, hq⟩
theorem r_lor {a b : Int64} (hc : z_code y pc = some (nx, .lor)) (k : z_R S d y nx ls (.long (a ||| b) :: st) M Q) : z_R S d y pc ls (.long b :: .long a :: st) M Q := by
  obtain ⟨r, M', k, hq⟩ := k
  exact ⟨r, M', g_lor hc k, hq⟩
theorem r_lshl {b : Int32} {a : Int64} (hc : z_code y pc = some (nx, .lshl)) (k : z_R S d y nx ls (.long (a <<< (b.toInt64 &&& 63)) :: st) M Q) : z_R S d y pc ls (.int b :: .long a :: st) M Q := by
  obtain ⟨r, M', k, hq⟩ := k
  exact ⟨r, M', g_lshl hc k, hq⟩
theorem r_lshr {b : Int32} {a : Int64} (hc : z_code y pc = some (nx, .lshr)) (k : z_R S d y nx ls (.long (a >>> (b.toInt64 &&& 63)) :: st) M Q) : z_R S d y pc ls (.int b :: .long a :: st) M Q := by
  obtain ⟨r, M', k, hq⟩ := k
  exact ⟨r, M', g_lshr hc k, hq⟩
theorem r_lushr {b : Int32} {a : Int64} (hc : z_code y pc = some (nx, .lushr)) (k : z_R S d y nx ls (.long ((a.toUInt64 >>> (b.toInt64.toUInt64 &&& Int64.toUInt64 63)).toInt64) :: st) M Q) : z_R S d y pc ls (.int b :: .long a :: st) M Q := by
  obtain ⟨r, M', k, hq⟩ := k
  exact ⟨r, M', g_lushr hc k, hq⟩
theorem r_lcmp {a b : Int64} (hc : z_code y pc = some (nx, .lcmp)) (k : z_R S d y nx ls (.int (lg_cmp a b) :: st) M Q) : z_R S d y pc ls (.long b :: .long a :: st) M Q := by
  obtain ⟨r, M', k, hq⟩ := k
  exact ⟨r, M', g_lcmp hc k, hq⟩
theorem r_i2l {a : Int32} (hc : z_code y pc = some (nx, .i2l)) (k : z_R S d y nx ls (.long a.toInt64 :: st) M Q) : z_R S d y pc ls (.int a :: st) M Q := by
  obtain ⟨r, M', k, hq⟩ := k
  exact ⟨r, M', g_i2l hc k, hq⟩
theorem r_l2i {a : Int64} (hc : z_code y pc = some (nx, .l2i)) (k : z_R S d y nx ls (.int a.toInt32 :: st) M Q) : z_R S d y pc ls (.long a :: st) M Q := by
  obtain ⟨r, M', k, hq⟩ := k
  exact ⟨r, M', g_l2i hc k, hq⟩
theorem r_i2b {a : Int32} (hc : z_code y pc = some (nx, .i2b)) (k : z_R S d y nx ls (.int a.toInt8.toInt32 :: st) M Q) : z_R S d y pc ls (.int a :: st) M Q := by
  obtain ⟨r, M', k, hq⟩ := k
  exact ⟨r, M', g_i2b hc k, hq⟩
theorem r_dupI {a : Int32} (hc : z_code y pc = some (nx, .dup)) (k : z_R S d y nx ls (.int a :: .int a :: st) M Q) : z_R S d y pc ls (.int a :: st) M Q := by
  obtain ⟨r, M', k, hq⟩ := k
  exact ⟨r, M', g_dupI hc k, hq⟩
theorem r_dupA {a : Nat} (hc : z_code y pc = some (nx, .dup)) (k : z_R S d y nx ls (.ref a :: .ref a :: st) M Q) : z_R S d y pc ls (.ref a :: st) M Q := by
  obtain ⟨r, M', k, hq⟩ := k
  exact ⟨r, M', g_dupA hc k, hq⟩
theorem r_dup2 {i : Int32} {a : Nat} (hc : z_code y pc = some (nx, .dup2)) (k : z_R S d y nx ls (.int i :: .ref a :: .int i :: .ref a :: st) M Q) : z_R S d y pc ls (.int i :: .ref a :: st) M Q := by
  obtain ⟨r, M', k, hq⟩ := k
  exact ⟨r, M', g_dup2 hc k, hq⟩
theorem r_popI {a : Int32} (hc : z_code y pc = some (nx, .pop)) (k : z_R S d y nx ls st M Q) : z_R S d y pc ls (.int a :: st) M Q := by
  obtain ⟨r, M', k, hq⟩ := k
  exact ⟨r, M', g_popI hc k, hq⟩
theorem r_goto {t : Nat} (hc : z_code y pc = some (nx, .ret t)) (k : z_R S d y t ls st M Q) : z_R S d y pc ls st M Q := by
  obtain ⟨r, M', k, hq⟩ := k
  exact ⟨r, M', g_goto hc k, hq⟩
theorem r_icT {q t : Nat} {a b : Int32} (hc : z_code y pc = some (nx, .invokeinterface q t)) (h : z_cc q a b = true) (k : z_R S d y t ls st M Q) : z_R S d y pc ls (.int b :: .int a :: st) M Q := by
  obtain ⟨r, M', k, hq⟩ := k
  exact ⟨r, M', g_icT hc h k, hq⟩
theorem r_icF {q t : Nat} {a b : Int32} (hc : z_code y pc = some (nx, .invokeinterface q t)) (h : z_cc q a b = false) (k : z_R S d y nx ls st M Q) : z_R S d y pc ls (.int b :: .int a :: st) M Q := by
  obtain ⟨r, M', k, hq⟩ := k
  exact ⟨r, M', g_icF hc h k, hq⟩
theorem r_ifT {q t : Nat} {a : Int32} (hc : z_code y pc = some (nx, .multianewarray q t)) (h : z_cc q a (zI 0) = true) (k : z_R S d y t ls st M Q) : z_R S d y pc ls (.int a :: st) M Q := by
  obtain ⟨r, M', k, hq⟩ := k
  exact ⟨r, M', g_ifT hc h k, hq⟩
theorem r_ifF {q t : Nat} {a : Int32} (hc : z_code y pc = some (nx, .multianewarray q t)) (h : z_cc q a (zI 0) = false) (k : z_R S d y nx ls st M Q) : z_R S d y pc ls (.int a :: st) M Q := by
  obtain ⟨r, M', k, hq⟩ := k
  exact ⟨r, M', g_ifF hc h k, hq⟩
theorem r_nuF {t x : Nat} (hc : z_code y pc = some (nx, .dload t)) (k : z_R S d y nx ls st M Q) : z_R S d y pc ls (.ref x :: st) M Q := by
  obtain ⟨r, M', k, hq⟩ := k
  exact ⟨r, M', g_nuF hc k, hq⟩
theorem r_nuT {t : Nat} (hc : z_code y pc = some (nx, .dload t)) (k : z_R S d y t ls st M Q) : z_R S d y pc ls (.null :: st) M Q := by
  obtain ⟨r, M', k, hq⟩ := k
  exact ⟨r, M', g_nuT hc k, hq⟩
theorem r_nnT {t x : Nat} (hc : z_code y pc = some (nx, .dstore t)) (k : z_R S d y t ls st M Q) : z_R S d y pc ls (.ref x :: st) M Q := by
  obtain ⟨r, M', k, hq⟩ := k
  exact ⟨r, M', g_nnT hc k, hq⟩
theorem r_nnF {t : Nat} (hc : z_code y pc = some (nx, .dstore t)) (k : z_R S d y nx ls st M Q) : z_R S d y pc ls (.null :: st) M Q := by
  obtain ⟨r, M', k, hq⟩ := k
  exact ⟨r, M', g_nnF hc k, hq⟩
theorem r_tsO {e lo hi : Int} {offs : Array Int} {x : Int32} (hc : z_code y pc = some (nx, .tableswitch e lo hi offs)) (h : x.toInt < lo ∨ hi < x.toInt) (k : z_R S d y e.toNat ls st M Q) : z_R S d y pc ls (.int x :: st) M Q := by
  obtain ⟨r, M', k, hq⟩ := k
  exact ⟨r, M', g_tsO hc h k, hq⟩
theorem r_tsI {e lo hi : Int} {offs : Array Int} {x : Int32} {v : Int} (hc : z_code y pc = some (nx, .tableswitch e lo hi offs)) (h : ¬ (x.toInt < lo ∨ hi < x.toInt)) (ho : offs[(x.toInt - lo).toNat]? = some v) (k : z_R S d y v.toNat ls st M Q) : z_R S d y pc ls (.int x :: st) M Q := by
  obtain ⟨r, M', k, hq⟩ := k
  exact ⟨r, M', g_tsI hc h ho k, hq⟩
theorem r_lk {e : Int} {ps : Array (Int × Int)} {x : Int32} (hc : z_code y pc = some (nx, .lookupswitch e ps)) (k : z_R S d y (Op.lookupswitch.offset ps.toList e x.toInt).toNat ls st M Q) : z_R S d y pc ls (.int x :: st) M Q := by
  obtain ⟨r, M', k, hq⟩ := k
  exact ⟨r, M', g_lk hc k, hq⟩
theorem r_gf {n a ci : Nat} {fs : List Value} {v : Value} (hc : z_code y pc = some (nx, .getfield n)) (hM : M[a]? = some (.inl (ci, fs))) (hci : ci = n / 32) (hf : fs[n % 32]? = some v) (k : z_R S d y nx ls (v :: st) M Q) : z_R S d y pc ls (.ref a :: st) M Q := by
  obtain ⟨r, M', k, hq⟩ := k
  exact ⟨r, M', g_gf hc hM hci hf k, hq⟩
theorem r_pf {n a ci : Nat} {fs fs2 : List Value} {v : Value} (hc : z_code y pc = some (nx, .putfield n)) (hM : M[a]? = some (.inl (ci, fs))) (hci : ci = n / 32) (hlen : n % 32 < fs.length) (hft : z_fit (z_fty ci (n % 32)) v = true) (hfi : z_fin ci (n % 32) = false ∨ z_ini y ci = true) (hset : fs.set (n % 32) v = fs2) (k : z_R S d y nx ls st (M.set a (.inl (ci, fs2))) Q) : z_R S d y pc ls (v :: .ref a :: st) M Q := by
  obtain ⟨r, M', k, hq⟩ := k
  exact ⟨r, M', g_pf hc hM hci hlen hft hfi hset k, hq⟩
theorem r_ia {a n : Nat} {f : Nat → Int32} {i : Int32} (hc : z_code y pc = some (nx, .iaload)) (h9 : ¬ a = 1000) (hM : M[a]? = some (.inr (0, n, .inl f))) (hi : z_in i n = true) (k : z_R S d y nx ls (.int (f i.toNatClampNeg) :: st) M Q) : z_R S d y pc ls (.int i :: .ref a :: st) M Q := by
  obtain ⟨r, M', k, hq⟩ := k
  exact ⟨r, M', g_ia hc h9 hM hi k, hq⟩
theorem r_ba {a n : Nat} {f : Nat → Int32} {i : Int32} (hc : z_code y pc = some (nx, .baload)) (hM : M[a]? = some (.inr (1, n, .inl f))) (hi : z_in i n = true) (k : z_R S d y nx ls (.int (f i.toNatClampNeg) :: st) M Q) : z_R S d y pc ls (.int i :: .ref a :: st) M Q := by
  obtain ⟨r, M', k, hq⟩ := k
  exact ⟨r, M', g_ba hc hM hi k, hq⟩
theorem r_za {a n : Nat} {f : Nat → Int32} {i : Int32} (hc : z_code y pc = some (nx, .baload)) (hM : M[a]? = some (.inr (2, n, .inl f))) (hi : z_in i n = true) (k : z_R S d y nx ls (.int (f i.toNatClampNeg) :: st) M Q) : z_R S d y pc ls (.int i :: .ref a :: st) M Q := by
  obtain ⟨r, M', k, hq⟩ := k
  exact ⟨r, M', g_za hc hM hi k, hq⟩
theorem r_ja {a n : Nat} {f : Nat → Int64} {i : Int32} (hc : z_code y pc = some (nx, .laload)) (hM : M[a]? = some (.inr (3, n, .inr (.inl f)))) (hi : z_in i n = true) (k : z_R S d y nx ls (.long (f i.toNatClampNeg) :: st) M Q) : z_R S d y pc ls (.int i :: .ref a :: st) M Q := by
  obtain ⟨r, M', k, hq⟩ := k
  exact ⟨r, M', g_ja hc hM hi k, hq⟩
theorem r_aa4 {a n : Nat} {f : Nat → Option Nat} {i : Int32} (hc : z_code y pc = some (nx, .aaload)) (hM : M[a]? = some (.inr (4, n, .inr (.inr f)))) (hi : z_in i n = true) (k : z_R S d y nx ls (va_rf (f i.toNatClampNeg) :: st) M Q) : z_R S d y pc ls (.int i :: .ref a :: st) M Q := by
  obtain ⟨r, M', k, hq⟩ := k
  exact ⟨r, M', g_aa4 hc hM hi k, hq⟩
theorem r_aa5 {a n : Nat} {f : Nat → Option Nat} {i : Int32} (hc : z_code y pc = some (nx, .aaload)) (hM : M[a]? = some (.inr (5, n, .inr (.inr f)))) (hi : z_in i n = true) (k : z_R S d y nx ls (va_rf (f i.toNatClampNeg) :: st) M Q) : z_R S d y pc ls (.int i :: .ref a :: st) M Q := by
  obtain ⟨r, M', k, hq⟩ := k
  exact ⟨r, M', g_aa5 hc hM hi k, hq⟩
theorem r_sa {i : Int32} (hc : z_code y pc = some (nx, .iaload)) (hi : z_in i S.1 = true) (k : z_R S d y nx ls (.int (S.2 i.toNatClampNeg) :: st) M Q) : z_R S d y pc ls (.int i :: .ref 1000 :: st) M Q := by
  obtain ⟨r, M', k, hq⟩ := k
  exact ⟨r, M', g_sa hc hi k, hq⟩
theorem r_iS {a n : Nat} {f : Nat → Int32} {i : Int32} {x : Int32} (hc : z_code y pc = some (nx, .iastore)) (hM : M[a]? = some (.inr (0, n, .inl f))) (hi : z_in i n = true) (k : z_R S d y nx ls st (M.set a (.inr (0, n, .inl (upd f i.toNatClampNeg x)))) Q) : z_R S d y pc ls (.int x :: .int i :: .ref a :: st) M Q := by
  obtain ⟨r, M', k, hq⟩ := k
  exact ⟨r, M', g_iS hc hM hi k, hq⟩
theorem r_bS {a n : Nat} {f : Nat → Int32} {i : Int32} {x : Int32} (hc : z_code y pc = some (nx, .bastore)) (hM : M[a]? = some (.inr (1, n, .inl f))) (hi : z_in i n = true) (k : z_R S d y nx ls st (M.set a (.inr (1, n, .inl (upd f i.toNatClampNeg (vp_nar .byte x))))) Q) : z_R S d y pc ls (.int x :: .int i :: .ref a :: st) M Q := by
  obtain ⟨r, M', k, hq⟩ := k
  exact ⟨r, M', g_bS hc hM hi k, hq⟩
theorem r_zS {a n : Nat} {f : Nat → Int32} {i : Int32} {x : Int32} (hc : z_code y pc = some (nx, .bastore)) (hM : M[a]? = some (.inr (2, n, .inl f))) (hi : z_in i n = true) (k : z_R S d y nx ls st (M.set a (.inr (2, n, .inl (upd f i.toNatClampNeg (vp_nar .boolean x))))) Q) : z_R S d y pc ls (.int x :: .int i :: .ref a :: st) M Q := by
  obtain ⟨r, M', k, hq⟩ := k
  exact ⟨r, M', g_zS hc hM hi k, hq⟩
theorem r_jS {a n : Nat} {f : Nat → Int64} {i : Int32} {x : Int64} (hc : z_code y pc = some (nx, .lastore)) (hM : M[a]? = some (.inr (3, n, .inr (.inl f)))) (hi : z_in i n = true) (k : z_R S d y nx ls st (M.set a (.inr (3, n, .inr (.inl (vp_updL f i.toNatClampNeg x))))) Q) : z_R S d y pc ls (.long x :: .int i :: .ref a :: st) M Q := by
  obtain ⟨r, M', k, hq⟩ := k
  exact ⟨r, M', g_jS hc hM hi k, hq⟩
theorem r_aS4 {a n x : Nat} {f : Nat → Option Nat} {i : Int32} {fs : List Value} (hc : z_code y pc = some (nx, .aastore)) (hM : M[a]? = some (.inr (4, n, .inr (.inr f)))) (hX : M[x]? = some (.inl (0, fs))) (hi : z_in i n = true) (k : z_R S d y nx ls st (M.set a (.inr (4, n, .inr (.inr (va_up f i.toNatClampNeg (some x)))))) Q) : z_R S d y pc ls (.ref x :: .int i :: .ref a :: st) M Q := by
  obtain ⟨r, M', k, hq⟩ := k
  exact ⟨r, M', g_aS4 hc hM hX hi k, hq⟩
theorem r_aS5 {a n x : Nat} {f : Nat → Option Nat} {i : Int32} {fs : List Value} (hc : z_code y pc = some (nx, .aastore)) (hM : M[a]? = some (.inr (5, n, .inr (.inr f)))) (hX : M[x]? = some (.inl (2, fs))) (hi : z_in i n = true) (k : z_R S d y nx ls st (M.set a (.inr (5, n, .inr (.inr (va_up f i.toNatClampNeg (some x)))))) Q) : z_R S d y pc ls (.ref x :: .int i :: .ref a :: st) M Q := by
  obtain ⟨r, M', k, hq⟩ := k
  exact ⟨r, M', g_aS5 hc hM hX hi k, hq⟩
theorem r_len0 {a n : Nat} {f : Nat → Int32} (hc : z_code y pc = some (nx, .arraylength)) (h9 : ¬ a = 1000) (hM : M[a]? = some (.inr (0, n, .inl f))) (k : z_R S d y nx ls (.int (zI (n : Int)) :: st) M Q) : z_R S d y pc ls (.ref a :: st) M Q := by
  obtain ⟨r, M', k, hq⟩ := k
  exact ⟨r, M', g_len0 hc h9 hM k, hq⟩
theorem r_len3 {a n : Nat} {f : Nat → Int64} (hc : z_code y pc = some (nx, .arraylength)) (h9 : ¬ a = 1000) (hM : M[a]? = some (.inr (3, n, .inr (.inl f)))) (k : z_R S d y nx ls (.int (zI (n : Int)) :: st) M Q) : z_R S d y pc ls (.ref a :: st) M Q := by
  obtain ⟨r, M', k, hq⟩ := k
  exact ⟨r, M', g_len3 hc h9 hM k, hq⟩
theorem r_slen (hc : z_code y pc = some (nx, .arraylength)) (k : z_R S d y nx ls (.int (zI (S.1 : Int)) :: st) M Q) : z_R S d y pc ls (.ref 1000 :: st) M Q := by
  obtain ⟨r, M', k, hq⟩ := k
  exact ⟨r, M', g_slen hc k, hq⟩
theorem r_obj {a : Nat} (hc : z_code y pc = some (nx, .monitorenter)) (h8 : z_cat st = true) (k : z_R S d y nx ls st M Q) : z_R S d y pc ls (.ref a :: st) M Q := by
  obtain ⟨r, M', k, hq⟩ := k
  exact ⟨r, M', g_obj hc h8 k, hq⟩
theorem r_cpy {a a2 n0 n1 : Nat} {f g : Nat → Int32} {n dp sq : Int32} (hc : z_code y pc = some (nx, .athrow)) (hM : M[a]? = some (.inr (0, n0, .inl f))) (hM2 : M[a2]? = some (.inr (0, n1, .inl g))) (h : ¬ (sq < 0 ∨ dp < 0 ∨ n < 0 ∨ n0 < sq.toNatClampNeg + n.toNatClampNeg ∨ n1 < dp.toNatClampNeg + n.toNatClampNeg ∨ z_cat st = false)) (k : z_R S d y nx ls st (M.set a2 (.inr (0, n1, .inl (va_cpy f g sq.toNatClampNeg dp.toNatClampNeg n.toNatClampNeg)))) Q) : z_R S d y pc ls (.int n :: .int dp :: .ref a2 :: .int sq :: .ref a :: st) M Q := by
  obtain ⟨r, M', k, hq⟩ := k
  exact ⟨r, M', g_cpy hc hM hM2 h k, hq⟩
theorem r_max {a b : Int32} (hc : z_code y pc = some (nx, .dadd)) (h8 : z_cat st = true) (k : z_R S d y nx ls (.int (if a < b then b else a) :: st) M Q) : z_R S d y pc ls (.int b :: .int a :: st) M Q := by
  obtain ⟨r, M', k, hq⟩ := k
  exact ⟨r, M', g_max hc h8 k, hq⟩
theorem r_min {a b : Int32} (hc : z_code y pc = some (nx, .dsub)) (h8 : z_cat st = true) (k : z_R S d y nx ls (.int (if b < a then b else a) :: st) M Q) : z_R S d y pc ls (.int b :: .int a :: st) M Q := by
  obtain ⟨r, M', k, hq⟩ := k
  exact ⟨r, M', g_min hc h8 k, hq⟩
theorem r_sl {a : Nat} (hc : z_code y pc = some (nx, .saload)) (h : 1001 ≤ a ∧ a < 1004 ∧ z_cat st = true) (k : z_R S d y nx ls (.int (zI (z_wlen (a - 1001) : Int)) :: st) M Q) : z_R S d y pc ls (.ref a :: st) M Q := by
  obtain ⟨r, M', k, hq⟩ := k
  exact ⟨r, M', g_sl hc h k, hq⟩
theorem r_sc {a : Nat} {i : Int32} (hc : z_code y pc = some (nx, .sastore)) (h : 1001 ≤ a ∧ a < 1004 ∧ z_in i (z_wlen (a - 1001)) = true ∧ z_cat st = true) (k : z_R S d y nx ls (.int ((z_wch (a - 1001)).getD i.toNatClampNeg 0) :: st) M Q) : z_R S d y pc ls (.int i :: .ref a :: st) M Q := by
  obtain ⟨r, M', k, hq⟩ := k
  exact ⟨r, M', g_sc hc h k, hq⟩
theorem r_cs {q n : Nat} {as rest : List Value} {r1 : Option Value} {M1 : ZM} (hc : z_code y pc = some (nx, .invokestatic q)) (hn : (z_mt q).2.2.2.2.1 = n) (h99 : (z_mt q).2.2.2.2.2 = 99) (hle : n ≤ st.length) (has : (st.take n).reverse = as) (hrs : st.drop n = rest) (h8 : z_cat rest = true) (hcal : z_C S d q as M r1 M1) (k : z_R S (d + 1) y nx ls (r1.toList ++ rest) M1 Q) : z_R S (d + 1) y pc ls st M Q := by
  obtain ⟨r, M', k, hq⟩ := k
  exact ⟨r, M', g_cs hc hn h99 hle has hrs h8 hcal k, hq⟩
theorem r_cv {q n a ci : Nat} {fs : List Value} {as rest : List Value} {r1 : Option Value} {M1 : ZM} (hc : z_code y pc = some (nx, .invokevirtual q)) (hn : (z_mt q).2.2.2.2.1 = n) (hrs : st.drop n = .ref a :: rest) (has : (st.take n).reverse = as) (hM : M[a]? = some (.inl (ci, fs))) (hci : ci = (z_mt q).2.2.2.2.2) (h7 : ci < 7) (h8 : z_cat rest = true) (hcal : z_C S d q (.ref a :: as) M r1 M1) (k : z_R S (d + 1) y nx ls (r1.toList ++ rest) M1 Q) : z_R S (d + 1) y pc ls st M Q := by
  obtain ⟨r, M', k, hq⟩ := k
  exact ⟨r, M', g_cv hc hn hrs has hM hci h7 h8 hcal k, hq⟩
theorem r_cx {q n a : Nat} {as rest : List Value} {r1 : Option Value} {M1 : ZM} (hc : z_code y pc = some (nx, .invokespecial q)) (hn : (z_mt q).2.2.2.2.1 = n) (hrs : st.drop n = .ref a :: rest) (has : (st.take n).reverse = as) (h8 : z_cat rest = true) (hi : (z_mt q).1.name = "<init>") (hv : (z_mt q).2.2.2.1 = none) (hcal : z_C S d q (.ref a :: as) M r1 M1) (k : z_R S (d + 1) y nx ls (r1.toList ++ rest) M1 Q) : z_R S (d + 1) y pc ls st M Q := by
  obtain ⟨r, M', k, hq⟩ := k
  exact ⟨r, M', g_cx hc hn hrs has h8 hi hv hcal k, hq⟩
theorem r_addI {a b : Int} (hc : z_code y pc = some (nx, .iadd)) (k : z_R S d y nx ls (.int (zI (a + b)) :: st) M Q) : z_R S d y pc ls (.int (zI b) :: .int (zI a) :: st) M Q := by
  obtain ⟨r, M', k, hq⟩ := k
  exact ⟨r, M', g_addI hc k, hq⟩
theorem r_subI {a b : Int} (hc : z_code y pc = some (nx, .isub)) (k : z_R S d y nx ls (.int (zI (a - b)) :: st) M Q) : z_R S d y pc ls (.int (zI b) :: .int (zI a) :: st) M Q := by
  obtain ⟨r, M', k, hq⟩ := k
  exact ⟨r, M', g_subI hc k, hq⟩
theorem r_mulI {a b : Int} (hc : z_code y pc = some (nx, .imul)) (k : z_R S d y nx ls (.int (zI (a * b)) :: st) M Q) : z_R S d y pc ls (.int (zI b) :: .int (zI a) :: st) M Q := by
  obtain ⟨r, M', k, hq⟩ := k
  exact ⟨r, M', g_mulI hc k, hq⟩
theorem r_divI {a b : Int} (hc : z_code y pc = some (nx, .idiv)) (ha : 0 ≤ a ∧ a ≤ 1000000000) (hb : 0 < b ∧ b ≤ 1000000000) (k : z_R S d y nx ls (.int (zI (a / b)) :: st) M Q) : z_R S d y pc ls (.int (zI b) :: .int (zI a) :: st) M Q := by
  obtain ⟨r, M', k, hq⟩ := k
  exact ⟨r, M', g_divI hc ha hb k, hq⟩
theorem r_remI {a b : Int} (hc : z_code y pc = some (nx, .irem)) (ha : 0 ≤ a ∧ a ≤ 1000000000) (hb : 0 < b ∧ b ≤ 1000000000) (k : z_R S d y nx ls (.int (zI (a % b)) :: st) M Q) : z_R S d y pc ls (.int (zI b) :: .int (zI a) :: st) M Q := by
  obtain ⟨r, M', k, hq⟩ := k
  exact ⟨r, M', g_remI hc ha hb k, hq⟩
theorem r_jj0 {t : ZL} {a n : Int} (hc : z_code y pc = some (nx, .iinc 0 n)) (k : z_R S d y nx (some (.int (zI (a + n))) :: t) st M Q) : z_R S d y pc (some (.int (zI a)) :: t) st M Q := by
  obtain ⟨r, M', k, hq⟩ := k
  exact ⟨r, M', g_jj0 hc k, hq⟩
theorem r_jj1 {v0 : Option Value} {t : ZL} {a n : Int} (hc : z_code y pc = some (nx, .iinc 1 n)) (hv : z_nl v0 = true) (k : z_R S d y nx (v0 :: some (.int (zI (a + n))) :: t) st M Q) : z_R S d y pc (v0 :: some (.int (zI a)) :: t) st M Q := by
  obtain ⟨r, M', k, hq⟩ := k
  exact ⟨r, M', g_jj1 hc hv k, hq⟩
theorem r_jj2 {v0 v1 : Option Value} {t : ZL} {a n : Int} (hc : z_code y pc = some (nx, .iinc 2 n)) (hv : z_nl v1 = true) (k : z_R S d y nx (v0 :: v1 :: some (.int (zI (a + n))) :: t) st M Q) : z_R S d y pc (v0 :: v1 :: some (.int (zI a)) :: t) st M Q := by
  obtain ⟨r, M', k, hq⟩ := k
  exact ⟨r, M', g_jj2 hc hv k, hq⟩
theorem r_jj3 {v0 v1 v2 : Option Value} {t : ZL} {a n : Int} (hc : z_code y pc = some (nx, .iinc 3 n)) (hv : z_nl v2 = true) (k : z_R S d y nx (v0 :: v1 :: v2 :: some (.int (zI (a + n))) :: t) st M Q) : z_R S d y pc (v0 :: v1 :: v2 :: some (.int (zI a)) :: t) st M Q := by
  obtain ⟨r, M', k, hq⟩ := k
  exact ⟨r, M', g_jj3 hc hv k, hq⟩
theorem r_jj4 {v0 v1 v2 v3 : Option Value} {t : ZL} {a n : Int} (hc : z_code y pc = some (nx, .iinc 4 n)) (hv : z_nl v3 = true) (k : z_R S d y nx (v0 :: v1 :: v2 :: v3 :: some (.int (zI (a + n))) :: t) st M Q) : z_R S d y pc (v0 :: v1 :: v2 :: v3 :: some (.int (zI a)) :: t) st M Q := by
  obtain ⟨r, M', k, hq⟩ := k
  exact ⟨r, M', g_jj4 hc hv k, hq⟩
theorem r_jj5 {v0 v1 v2 v3 v4 : Option Value} {t : ZL} {a n : Int} (hc : z_code y pc = some (nx, .iinc 5 n)) (hv : z_nl v4 = true) (k : z_R S d y nx (v0 :: v1 :: v2 :: v3 :: v4 :: some (.int (zI (a + n))) :: t) st M Q) : z_R S d y pc (v0 :: v1 :: v2 :: v3 :: v4 :: some (.int (zI a)) :: t) st M Q := by
  obtain ⟨r, M', k, hq⟩ := k
  exact ⟨r, M', g_jj5 hc hv k, hq⟩
theorem r_jj6 {v0 v1 v2 v3 v4 v5 : Option Value} {t : ZL} {a n : Int} (hc : z_code y pc = some (nx, .iinc 6 n)) (hv : z_nl v5 = true) (k : z_R S d y nx (v0 :: v1 :: v2 :: v3 :: v4 :: v5 :: some (.int (zI (a + n))) :: t) st M Q) : z_R S d y pc (v0 :: v1 :: v2 :: v3 :: v4 :: v5 :: some (.int (zI a)) :: t) st M Q := by
  obtain ⟨r, M', k, hq⟩ := k
  exact ⟨r, M', g_jj6 hc hv k, hq⟩
theorem r_jj7 {v0 v1 v2 v3 v4 v5 v6 : Option Value} {t : ZL} {a n : Int} (hc : z_code y pc = some (nx, .iinc 7 n)) (hv : z_nl v6 = true) (k : z_R S d y nx (v0 :: v1 :: v2 :: v3 :: v4 :: v5 :: v6 :: some (.int (zI (a + n))) :: t) st M Q) : z_R S d y pc (v0 :: v1 :: v2 :: v3 :: v4 :: v5 :: v6 :: some (.int (zI a)) :: t) st M Q := by
  obtain ⟨r, M', k, hq⟩ := k
  exact ⟨r, M', g_jj7 hc hv k, hq⟩
theorem r_jj8 {v0 v1 v2 v3 v4 v5 v6 v7 : Option Value} {t : ZL} {a n : Int} (hc : z_code y pc = some (nx, .iinc 8 n)) (hv : z_nl v7 = true) (k : z_R S d y nx (v0 :: v1 :: v2 :: v3 :: v4 :: v5 :: v6 :: v7 :: some (.int (zI (a + n))) :: t) st M Q) : z_R S d y pc (v0 :: v1 :: v2 :: v3 :: v4 :: v5 :: v6 :: v7 :: some (.int (zI a)) :: t) st M Q := by
  obtain ⟨r, M', k, hq⟩ := k
  exact ⟨r, M', g_jj8 hc hv k, hq⟩
theorem r_jj9 {v0 v1 v2 v3 v4 v5 v6 v7 v8 : Option Value} {t : ZL} {a n : Int} (hc : z_code y pc = some (nx, .iinc 9 n)) (hv : z_nl v8 = true) (k : z_R S d y nx (v0 :: v1 :: v2 :: v3 :: v4 :: v5 :: v6 :: v7 :: v8 :: some (.int (zI (a + n))) :: t) st M Q) : z_R S d y pc (v0 :: v1 :: v2 :: v3 :: v4 :: v5 :: v6 :: v7 :: v8 :: some (.int (zI a)) :: t) st M Q := by
  obtain ⟨r, M', k, hq⟩ := k
  exact ⟨r, M', g_jj9 hc hv k, hq⟩
theorem r_jj10 {v0 v1 v2 v3 v4 v5 v6 v7 v8 v9 : Option Value} {t : ZL} {a n : Int} (hc : z_code y pc = some (nx, .iinc 10 n)) (hv : z_nl v9 = true) (k : z_R S d y nx (v0 :: v1 :: v2 :: v3 :: v4 :: v5 :: v6 :: v7 :: v8 :: v9 :: some (.int (zI (a + n))) :: t) st M Q) : z_R S d y pc (v0 :: v1 :: v2 :: v3 :: v4 :: v5 :: v6 :: v7 :: v8 :: v9 :: some (.int (zI a)) :: t) st M Q := by
  obtain ⟨r, M', k, hq⟩ := k
  exact ⟨r, M', g_jj10 hc hv k, hq⟩
theorem r_jj11 {v0 v1 v2 v3 v4 v5 v6 v7 v8 v9 v10 : Option Value} {t : ZL} {a n : Int} (hc : z_code y pc = some (nx, .iinc 11 n)) (hv : z_nl v10 = true) (k : z_R S d y nx (v0 :: v1 :: v2 :: v3 :: v4 :: v5 :: v6 :: v7 :: v8 :: v9 :: v10 :: some (.int (zI (a + n))) :: t) st M Q) : z_R S d y pc (v0 :: v1 :: v2 :: v3 :: v4 :: v5 :: v6 :: v7 :: v8 :: v9 :: v10 :: some (.int (zI a)) :: t) st M Q := by
  obtain ⟨r, M', k, hq⟩ := k
  exact ⟨r, M', g_jj11 hc hv k, hq⟩
theorem r_jj12 {v0 v1 v2 v3 v4 v5 v6 v7 v8 v9 v10 v11 : Option Value} {t : ZL} {a n : Int} (hc : z_code y pc = some (nx, .iinc 12 n)) (hv : z_nl v11 = true) (k : z_R S d y nx (v0 :: v1 :: v2 :: v3 :: v4 :: v5 :: v6 :: v7 :: v8 :: v9 :: v10 :: v11 :: some (.int (zI (a + n))) :: t) st M Q) : z_R S d y pc (v0 :: v1 :: v2 :: v3 :: v4 :: v5 :: v6 :: v7 :: v8 :: v9 :: v10 :: v11 :: some (.int (zI a)) :: t) st M Q := by
  obtain ⟨r, M', k, hq⟩ := k
  exact ⟨r, M', g_jj12 hc hv k, hq⟩
theorem r_iaI {a n : Nat} {f : Nat → Int32} {i : Int} (hc : z_code y pc = some (nx, .iaload)) (h9 : ¬ a = 1000) (hM : M[a]? = some (.inr (0, n, .inl f))) (h0 : 0 ≤ i) (hn : i < n) (hs : i ≤ 1000000000) (k : z_R S d y nx ls (.int (f i.toNat) :: st) M Q) : z_R S d y pc ls (.int (zI i) :: .ref a :: st) M Q := by
  obtain ⟨r, M', k, hq⟩ := k
  exact ⟨r, M', g_iaI hc h9 hM h0 hn hs k, hq⟩
theorem r_baI {a n : Nat} {f : Nat → Int32} {i : Int} (hc : z_code y pc = some (nx, .baload)) (hM : M[a]? = some (.inr (1, n, .inl f))) (h0 : 0 ≤ i) (hn : i < n) (hs : i ≤ 1000000000) (k : z_R S d y nx ls (.int (f i.toNat) :: st) M Q) : z_R S d y pc ls (.int (zI i) :: .ref a :: st) M Q := by
  obtain ⟨r, M', k, hq⟩ := k
  exact ⟨r, M', g_baI hc hM h0 hn hs k, hq⟩
theorem r_zaI {a n : Nat} {f : Nat → Int32} {i : Int} (hc : z_code y pc = some (nx, .baload)) (hM : M[a]? = some (.inr (2, n, .inl f))) (h0 : 0 ≤ i) (hn : i < n) (hs : i ≤ 1000000000) (k : z_R S d y nx ls (.int (f i.toNat) :: st) M Q) : z_R S d y pc ls (.int (zI i) :: .ref a :: st) M Q := by
  obtain ⟨r, M', k, hq⟩ := k
  exact ⟨r, M', g_zaI hc hM h0 hn hs k, hq⟩
theorem r_jaI {a n : Nat} {f : Nat → Int64} {i : Int} (hc : z_code y pc = some (nx, .laload)) (hM : M[a]? = some (.inr (3, n, .inr (.inl f)))) (h0 : 0 ≤ i) (hn : i < n) (hs : i ≤ 1000000000) (k : z_R S d y nx ls (.long (f i.toNat) :: st) M Q) : z_R S d y pc ls (.int (zI i) :: .ref a :: st) M Q := by
  obtain ⟨r, M', k, hq⟩ := k
  exact ⟨r, M', g_jaI hc hM h0 hn hs k, hq⟩
theorem r_aaI4 {a n : Nat} {f : Nat → Option Nat} {i : Int} {v : Value} (hc : z_code y pc = some (nx, .aaload)) (hM : M[a]? = some (.inr (4, n, .inr (.inr f)))) (h0 : 0 ≤ i) (hn : i < n) (hs : i ≤ 1000000000) (hv : va_rf (f i.toNat) = v) (k : z_R S d y nx ls (v :: st) M Q) : z_R S d y pc ls (.int (zI i) :: .ref a :: st) M Q := by
  obtain ⟨r, M', k, hq⟩ := k
  exact ⟨r, M', g_aaI4 hc hM h0 hn hs hv k, hq⟩
theorem r_aaI5 {a n : Nat} {f : Nat → Option Nat} {i : Int} {v : Value} (hc : z_code y pc = some (nx, .aaload)) (hM : M[a]? = some (.inr (5, n, .inr (.inr f)))) (h0 : 0 ≤ i) (hn : i < n) (hs : i ≤ 1000000000) (hv : va_rf (f i.toNat) = v) (k : z_R S d y nx ls (v :: st) M Q) : z_R S d y pc ls (.int (zI i) :: .ref a :: st) M Q := by
  obtain ⟨r, M', k, hq⟩ := k
  exact ⟨r, M', g_aaI5 hc hM h0 hn hs hv k, hq⟩
theorem r_iSI {a n : Nat} {f : Nat → Int32} {i : Int} {x : Int32} (hc : z_code y pc = some (nx, .iastore)) (hM : M[a]? = some (.inr (0, n, .inl f))) (h0 : 0 ≤ i) (hn : i < n) (hs : i ≤ 1000000000) (k : z_R S d y nx ls st (M.set a (.inr (0, n, .inl (upd f i.toNat x)))) Q) : z_R S d y pc ls (.int x :: .int (zI i) :: .ref a :: st) M Q := by
  obtain ⟨r, M', k, hq⟩ := k
  exact ⟨r, M', g_iSI hc hM h0 hn hs k, hq⟩
theorem r_bSI {a n : Nat} {f : Nat → Int32} {i : Int} {x : Int32} (hc : z_code y pc = some (nx, .bastore)) (hM : M[a]? = some (.inr (1, n, .inl f))) (h0 : 0 ≤ i) (hn : i < n) (hs : i ≤ 1000000000) (k : z_R S d y nx ls st (M.set a (.inr (1, n, .inl (upd f i.toNat (vp_nar .byte x))))) Q) : z_R S d y pc ls (.int x :: .int (zI i) :: .ref a :: st) M Q := by
  obtain ⟨r, M', k, hq⟩ := k
  exact ⟨r, M', g_bSI hc hM h0 hn hs k, hq⟩
theorem r_zSI {a n : Nat} {f : Nat → Int32} {i : Int} {x : Int32} (hc : z_code y pc = some (nx, .bastore)) (hM : M[a]? = some (.inr (2, n, .inl f))) (h0 : 0 ≤ i) (hn : i < n) (hs : i ≤ 1000000000) (k : z_R S d y nx ls st (M.set a (.inr (2, n, .inl (upd f i.toNat (vp_nar .boolean x))))) Q) : z_R S d y pc ls (.int x :: .int (zI i) :: .ref a :: st) M Q := by
  obtain ⟨r, M', k, hq⟩ := k
  exact ⟨r, M', g_zSI hc hM h0 hn hs k, hq⟩
theorem r_jSI {a n : Nat} {f : Nat → Int64} {i : Int} {x : Int64} (hc : z_code y pc = some (nx, .lastore)) (hM : M[a]? = some (.inr (3, n, .inr (.inl f)))) (h0 : 0 ≤ i) (hn : i < n) (hs : i ≤ 1000000000) (k : z_R S d y nx ls st (M.set a (.inr (3, n, .inr (.inl (vp_updL f i.toNat x))))) Q) : z_R S d y pc ls (.long x :: .int (zI i) :: .ref a :: st) M Q := by
  obtain ⟨r, M', k, hq⟩ := k
  exact ⟨r, M', g_jSI hc hM h0 hn hs k, hq⟩
theorem r_pf0 {n a ci : Nat} {v0 v : Value} {t : List Value} (hc : z_code y pc = some (nx, .putfield n)) (hM : M[a]? = some (.inl (ci, (v0 :: t)))) (hci : ci = n / 32) (hk : n % 32 = 0) (hft : z_fit (z_fty ci 0) v = true) (hfi : z_fin ci 0 = false ∨ z_ini y ci = true) (k : z_R S d y nx ls st (M.set a (.inl (ci, (v :: t)))) Q) : z_R S d y pc ls (v :: .ref a :: st) M Q := by
  obtain ⟨r, M', k, hq⟩ := k
  exact ⟨r, M', g_pf0 hc hM hci hk hft hfi k, hq⟩
theorem r_pf1 {n a ci : Nat} {v0 v1 v : Value} {t : List Value} (hc : z_code y pc = some (nx, .putfield n)) (hM : M[a]? = some (.inl (ci, (v0 :: v1 :: t)))) (hci : ci = n / 32) (hk : n % 32 = 1) (hft : z_fit (z_fty ci 1) v = true) (hfi : z_fin ci 1 = false ∨ z_ini y ci = true) (k : z_R S d y nx ls st (M.set a (.inl (ci, (v0 :: v :: t)))) Q) : z_R S d y pc ls (v :: .ref a :: st) M Q := by
  obtain ⟨r, M', k, hq⟩ := k
  exact ⟨r, M', g_pf1 hc hM hci hk hft hfi k, hq⟩
theorem r_pf2 {n a ci : Nat} {v0 v1 v2 v : Value} {t : List Value} (hc : z_code y pc = some (nx, .putfield n)) (hM : M[a]? = some (.inl (ci, (v0 :: v1 :: v2 :: t)))) (hci : ci = n / 32) (hk : n % 32 = 2) (hft : z_fit (z_fty ci 2) v = true) (hfi : z_fin ci 2 = false ∨ z_ini y ci = true) (k : z_R S d y nx ls st (M.set a (.inl (ci, (v0 :: v1 :: v :: t)))) Q) : z_R S d y pc ls (v :: .ref a :: st) M Q := by
  obtain ⟨r, M', k, hq⟩ := k
  exact ⟨r, M', g_pf2 hc hM hci hk hft hfi k, hq⟩
theorem r_pf3 {n a ci : Nat} {v0 v1 v2 v3 v : Value} {t : List Value} (hc : z_code y pc = some (nx, .putfield n)) (hM : M[a]? = some (.inl (ci, (v0 :: v1 :: v2 :: v3 :: t)))) (hci : ci = n / 32) (hk : n % 32 = 3) (hft : z_fit (z_fty ci 3) v = true) (hfi : z_fin ci 3 = false ∨ z_ini y ci = true) (k : z_R S d y nx ls st (M.set a (.inl (ci, (v0 :: v1 :: v2 :: v :: t)))) Q) : z_R S d y pc ls (v :: .ref a :: st) M Q := by
  obtain ⟨r, M', k, hq⟩ := k
  exact ⟨r, M', g_pf3 hc hM hci hk hft hfi k, hq⟩
theorem r_pf4 {n a ci : Nat} {v0 v1 v2 v3 v4 v : Value} {t : List Value} (hc : z_code y pc = some (nx, .putfield n)) (hM : M[a]? = some (.inl (ci, (v0 :: v1 :: v2 :: v3 :: v4 :: t)))) (hci : ci = n / 32) (hk : n % 32 = 4) (hft : z_fit (z_fty ci 4) v = true) (hfi : z_fin ci 4 = false ∨ z_ini y ci = true) (k : z_R S d y nx ls st (M.set a (.inl (ci, (v0 :: v1 :: v2 :: v3 :: v :: t)))) Q) : z_R S d y pc ls (v :: .ref a :: st) M Q := by
  obtain ⟨r, M', k, hq⟩ := k
  exact ⟨r, M', g_pf4 hc hM hci hk hft hfi k, hq⟩
theorem r_pf5 {n a ci : Nat} {v0 v1 v2 v3 v4 v5 v : Value} {t : List Value} (hc : z_code y pc = some (nx, .putfield n)) (hM : M[a]? = some (.inl (ci, (v0 :: v1 :: v2 :: v3 :: v4 :: v5 :: t)))) (hci : ci = n / 32) (hk : n % 32 = 5) (hft : z_fit (z_fty ci 5) v = true) (hfi : z_fin ci 5 = false ∨ z_ini y ci = true) (k : z_R S d y nx ls st (M.set a (.inl (ci, (v0 :: v1 :: v2 :: v3 :: v4 :: v :: t)))) Q) : z_R S d y pc ls (v :: .ref a :: st) M Q := by
  obtain ⟨r, M', k, hq⟩ := k
  exact ⟨r, M', g_pf5 hc hM hci hk hft hfi k, hq⟩
theorem r_pf6 {n a ci : Nat} {v0 v1 v2 v3 v4 v5 v6 v : Value} {t : List Value} (hc : z_code y pc = some (nx, .putfield n)) (hM : M[a]? = some (.inl (ci, (v0 :: v1 :: v2 :: v3 :: v4 :: v5 :: v6 :: t)))) (hci : ci = n / 32) (hk : n % 32 = 6) (hft : z_fit (z_fty ci 6) v = true) (hfi : z_fin ci 6 = false ∨ z_ini y ci = true) (k : z_R S d y nx ls st (M.set a (.inl (ci, (v0 :: v1 :: v2 :: v3 :: v4 :: v5 :: v :: t)))) Q) : z_R S d y pc ls (v :: .ref a :: st) M Q := by
  obtain ⟨r, M', k, hq⟩ := k
  exact ⟨r, M', g_pf6 hc hM hci hk hft hfi k, hq⟩
theorem r_pf7 {n a ci : Nat} {v0 v1 v2 v3 v4 v5 v6 v7 v : Value} {t : List Value} (hc : z_code y pc = some (nx, .putfield n)) (hM : M[a]? = some (.inl (ci, (v0 :: v1 :: v2 :: v3 :: v4 :: v5 :: v6 :: v7 :: t)))) (hci : ci = n / 32) (hk : n % 32 = 7) (hft : z_fit (z_fty ci 7) v = true) (hfi : z_fin ci 7 = false ∨ z_ini y ci = true) (k : z_R S d y nx ls st (M.set a (.inl (ci, (v0 :: v1 :: v2 :: v3 :: v4 :: v5 :: v6 :: v :: t)))) Q) : z_R S d y pc ls (v :: .ref a :: st) M Q := by
  obtain ⟨r, M', k, hq⟩ := k
  exact ⟨r, M', g_pf7 hc hM hci hk hft hfi k, hq⟩
theorem r_pf8 {n a ci : Nat} {v0 v1 v2 v3 v4 v5 v6 v7 v8 v : Value} {t : List Value} (hc : z_code y pc = some (nx, .putfield n)) (hM : M[a]? = some (.inl (ci, (v0 :: v1 :: v2 :: v3 :: v4 :: v5 :: v6 :: v7 :: v8 :: t)))) (hci : ci = n / 32) (hk : n % 32 = 8) (hft : z_fit (z_fty ci 8) v = true) (hfi : z_fin ci 8 = false ∨ z_ini y ci = true) (k : z_R S d y nx ls st (M.set a (.inl (ci, (v0 :: v1 :: v2 :: v3 :: v4 :: v5 :: v6 :: v7 :: v :: t)))) Q) : z_R S d y pc ls (v :: .ref a :: st) M Q := by
  obtain ⟨r, M', k, hq⟩ := k
  exact ⟨r, M', g_pf8 hc hM hci hk hft hfi k, hq⟩
theorem r_pf9 {n a ci : Nat} {v0 v1 v2 v3 v4 v5 v6 v7 v8 v9 v : Value} {t : List Value} (hc : z_code y pc = some (nx, .putfield n)) (hM : M[a]? = some (.inl (ci, (v0 :: v1 :: v2 :: v3 :: v4 :: v5 :: v6 :: v7 :: v8 :: v9 :: t)))) (hci : ci = n / 32) (hk : n % 32 = 9) (hft : z_fit (z_fty ci 9) v = true) (hfi : z_fin ci 9 = false ∨ z_ini y ci = true) (k : z_R S d y nx ls st (M.set a (.inl (ci, (v0 :: v1 :: v2 :: v3 :: v4 :: v5 :: v6 :: v7 :: v8 :: v :: t)))) Q) : z_R S d y pc ls (v :: .ref a :: st) M Q := by
  obtain ⟨r, M', k, hq⟩ := k
  exact ⟨r, M', g_pf9 hc hM hci hk hft hfi k, hq⟩
theorem r_pf10 {n a ci : Nat} {v0 v1 v2 v3 v4 v5 v6 v7 v8 v9 v10 v : Value} {t : List Value} (hc : z_code y pc = some (nx, .putfield n)) (hM : M[a]? = some (.inl (ci, (v0 :: v1 :: v2 :: v3 :: v4 :: v5 :: v6 :: v7 :: v8 :: v9 :: v10 :: t)))) (hci : ci = n / 32) (hk : n % 32 = 10) (hft : z_fit (z_fty ci 10) v = true) (hfi : z_fin ci 10 = false ∨ z_ini y ci = true) (k : z_R S d y nx ls st (M.set a (.inl (ci, (v0 :: v1 :: v2 :: v3 :: v4 :: v5 :: v6 :: v7 :: v8 :: v9 :: v :: t)))) Q) : z_R S d y pc ls (v :: .ref a :: st) M Q := by
  obtain ⟨r, M', k, hq⟩ := k
  exact ⟨r, M', g_pf10 hc hM hci hk hft hfi k, hq⟩
theorem r_pf11 {n a ci : Nat} {v0 v1 v2 v3 v4 v5 v6 v7 v8 v9 v10 v11 v : Value} {t : List Value} (hc : z_code y pc = some (nx, .putfield n)) (hM : M[a]? = some (.inl (ci, (v0 :: v1 :: v2 :: v3 :: v4 :: v5 :: v6 :: v7 :: v8 :: v9 :: v10 :: v11 :: t)))) (hci : ci = n / 32) (hk : n % 32 = 11) (hft : z_fit (z_fty ci 11) v = true) (hfi : z_fin ci 11 = false ∨ z_ini y ci = true) (k : z_R S d y nx ls st (M.set a (.inl (ci, (v0 :: v1 :: v2 :: v3 :: v4 :: v5 :: v6 :: v7 :: v8 :: v9 :: v10 :: v :: t)))) Q) : z_R S d y pc ls (v :: .ref a :: st) M Q := by
  obtain ⟨r, M', k, hq⟩ := k
  exact ⟨r, M', g_pf11 hc hM hci hk hft hfi k, hq⟩
theorem r_pf12 {n a ci : Nat} {v0 v1 v2 v3 v4 v5 v6 v7 v8 v9 v10 v11 v12 v : Value} {t : List Value} (hc : z_code y pc = some (nx, .putfield n)) (hM : M[a]? = some (.inl (ci, (v0 :: v1 :: v2 :: v3 :: v4 :: v5 :: v6 :: v7 :: v8 :: v9 :: v10 :: v11 :: v12 :: t)))) (hci : ci = n / 32) (hk : n % 32 = 12) (hft : z_fit (z_fty ci 12) v = true) (hfi : z_fin ci 12 = false ∨ z_ini y ci = true) (k : z_R S d y nx ls st (M.set a (.inl (ci, (v0 :: v1 :: v2 :: v3 :: v4 :: v5 :: v6 :: v7 :: v8 :: v9 :: v10 :: v11 :: v :: t)))) Q) : z_R S d y pc ls (v :: .ref a :: st) M Q := by
  obtain ⟨r, M', k, hq⟩ := k
  exact ⟨r, M', g_pf12 hc hM hci hk hft hfi k, hq⟩
theorem r_pf13 {n a ci : Nat} {v0 v1 v2 v3 v4 v5 v6 v7 v8 v9 v10 v11 v12 v13 v : Value} {t : List Value} (hc : z_code y pc = some (nx, .putfield n)) (hM : M[a]? = some (.inl (ci, (v0 :: v1 :: v2 :: v3 :: v4 :: v5 :: v6 :: v7 :: v8 :: v9 :: v10 :: v11 :: v12 :: v13 :: t)))) (hci : ci = n / 32) (hk : n % 32 = 13) (hft : z_fit (z_fty ci 13) v = true) (hfi : z_fin ci 13 = false ∨ z_ini y ci = true) (k : z_R S d y nx ls st (M.set a (.inl (ci, (v0 :: v1 :: v2 :: v3 :: v4 :: v5 :: v6 :: v7 :: v8 :: v9 :: v10 :: v11 :: v12 :: v :: t)))) Q) : z_R S d y pc ls (v :: .ref a :: st) M Q := by
  obtain ⟨r, M', k, hq⟩ := k
  exact ⟨r, M', g_pf13 hc hM hci hk hft hfi k, hq⟩
theorem r_pf14 {n a ci : Nat} {v0 v1 v2 v3 v4 v5 v6 v7 v8 v9 v10 v11 v12 v13 v14 v : Value} {t : List Value} (hc : z_code y pc = some (nx, .putfield n)) (hM : M[a]? = some (.inl (ci, (v0 :: v1 :: v2 :: v3 :: v4 :: v5 :: v6 :: v7 :: v8 :: v9 :: v10 :: v11 :: v12 :: v13 :: v14 :: t)))) (hci : ci = n / 32) (hk : n % 32 = 14) (hft : z_fit (z_fty ci 14) v = true) (hfi : z_fin ci 14 = false ∨ z_ini y ci = true) (k : z_R S d y nx ls st (M.set a (.inl (ci, (v0 :: v1 :: v2 :: v3 :: v4 :: v5 :: v6 :: v7 :: v8 :: v9 :: v10 :: v11 :: v12 :: v13 :: v :: t)))) Q) : z_R S d y pc ls (v :: .ref a :: st) M Q := by
  obtain ⟨r, M', k, hq⟩ := k
  exact ⟨r, M', g_pf14 hc hM hci hk hft hfi k, hq⟩
theorem r_pf15 {n a ci : Nat} {v0 v1 v2 v3 v4 v5 v6 v7 v8 v9 v10 v11 v12 v13 v14 v15 v : Value} {t : List Value} (hc : z_code y pc = some (nx, .putfield n)) (hM : M[a]? = some (.inl (ci, (v0 :: v1 :: v2 :: v3 :: v4 :: v5 :: v6 :: v7 :: v8 :: v9 :: v10 :: v11 :: v12 :: v13 :: v14 :: v15 :: t)))) (hci : ci = n / 32) (hk : n % 32 = 15) (hft : z_fit (z_fty ci 15) v = true) (hfi : z_fin ci 15 = false ∨ z_ini y ci = true) (k : z_R S d y nx ls st (M.set a (.inl (ci, (v0 :: v1 :: v2 :: v3 :: v4 :: v5 :: v6 :: v7 :: v8 :: v9 :: v10 :: v11 :: v12 :: v13 :: v14 :: v :: t)))) Q) : z_R S d y pc ls (v :: .ref a :: st) M Q := by
  obtain ⟨r, M', k, hq⟩ := k
  exact ⟨r, M', g_pf15 hc hM hci hk hft hfi k, hq⟩
theorem r_pf16 {n a ci : Nat} {v0 v1 v2 v3 v4 v5 v6 v7 v8 v9 v10 v11 v12 v13 v14 v15 v16 v : Value} {t : List Value} (hc : z_code y pc = some (nx, .putfield n)) (hM : M[a]? = some (.inl (ci, (v0 :: v1 :: v2 :: v3 :: v4 :: v5 :: v6 :: v7 :: v8 :: v9 :: v10 :: v11 :: v12 :: v13 :: v14 :: v15 :: v16 :: t)))) (hci : ci = n / 32) (hk : n % 32 = 16) (hft : z_fit (z_fty ci 16) v = true) (hfi : z_fin ci 16 = false ∨ z_ini y ci = true) (k : z_R S d y nx ls st (M.set a (.inl (ci, (v0 :: v1 :: v2 :: v3 :: v4 :: v5 :: v6 :: v7 :: v8 :: v9 :: v10 :: v11 :: v12 :: v13 :: v14 :: v15 :: v :: t)))) Q) : z_R S d y pc ls (v :: .ref a :: st) M Q := by
  obtain ⟨r, M', k, hq⟩ := k
  exact ⟨r, M', g_pf16 hc hM hci hk hft hfi k, hq⟩
theorem r_pf17 {n a ci : Nat} {v0 v1 v2 v3 v4 v5 v6 v7 v8 v9 v10 v11 v12 v13 v14 v15 v16 v17 v : Value} {t : List Value} (hc : z_code y pc = some (nx, .putfield n)) (hM : M[a]? = some (.inl (ci, (v0 :: v1 :: v2 :: v3 :: v4 :: v5 :: v6 :: v7 :: v8 :: v9 :: v10 :: v11 :: v12 :: v13 :: v14 :: v15 :: v16 :: v17 :: t)))) (hci : ci = n / 32) (hk : n % 32 = 17) (hft : z_fit (z_fty ci 17) v = true) (hfi : z_fin ci 17 = false ∨ z_ini y ci = true) (k : z_R S d y nx ls st (M.set a (.inl (ci, (v0 :: v1 :: v2 :: v3 :: v4 :: v5 :: v6 :: v7 :: v8 :: v9 :: v10 :: v11 :: v12 :: v13 :: v14 :: v15 :: v16 :: v :: t)))) Q) : z_R S d y pc ls (v :: .ref a :: st) M Q := by
  obtain ⟨r, M', k, hq⟩ := k
  exact ⟨r, M', g_pf17 hc hM hci hk hft hfi k, hq⟩
theorem r_pf18 {n a ci : Nat} {v0 v1 v2 v3 v4 v5 v6 v7 v8 v9 v10 v11 v12 v13 v14 v15 v16 v17 v18 v : Value} {t : List Value} (hc : z_code y pc = some (nx, .putfield n)) (hM : M[a]? = some (.inl (ci, (v0 :: v1 :: v2 :: v3 :: v4 :: v5 :: v6 :: v7 :: v8 :: v9 :: v10 :: v11 :: v12 :: v13 :: v14 :: v15 :: v16 :: v17 :: v18 :: t)))) (hci : ci = n / 32) (hk : n % 32 = 18) (hft : z_fit (z_fty ci 18) v = true) (hfi : z_fin ci 18 = false ∨ z_ini y ci = true) (k : z_R S d y nx ls st (M.set a (.inl (ci, (v0 :: v1 :: v2 :: v3 :: v4 :: v5 :: v6 :: v7 :: v8 :: v9 :: v10 :: v11 :: v12 :: v13 :: v14 :: v15 :: v16 :: v17 :: v :: t)))) Q) : z_R S d y pc ls (v :: .ref a :: st) M Q := by
  obtain ⟨r, M', k, hq⟩ := k
  exact ⟨r, M', g_pf18 hc hM hci hk hft hfi k, hq⟩
theorem r_pf19 {n a ci : Nat} {v0 v1 v2 v3 v4 v5 v6 v7 v8 v9 v10 v11 v12 v13 v14 v15 v16 v17 v18 v19 v : Value} {t : List Value} (hc : z_code y pc = some (nx, .putfield n)) (hM : M[a]? = some (.inl (ci, (v0 :: v1 :: v2 :: v3 :: v4 :: v5 :: v6 :: v7 :: v8 :: v9 :: v10 :: v11 :: v12 :: v13 :: v14 :: v15 :: v16 :: v17 :: v18 :: v19 :: t)))) (hci : ci = n / 32) (hk : n % 32 = 19) (hft : z_fit (z_fty ci 19) v = true) (hfi : z_fin ci 19 = false ∨ z_ini y ci = true) (k : z_R S d y nx ls st (M.set a (.inl (ci, (v0 :: v1 :: v2 :: v3 :: v4 :: v5 :: v6 :: v7 :: v8 :: v9 :: v10 :: v11 :: v12 :: v13 :: v14 :: v15 :: v16 :: v17 :: v18 :: v :: t)))) Q) : z_R S d y pc ls (v :: .ref a :: st) M Q := by
  obtain ⟨r, M', k, hq⟩ := k
  exact ⟨r, M', g_pf19 hc hM hci hk hft hfi k, hq⟩
theorem r_pf20 {n a ci : Nat} {v0 v1 v2 v3 v4 v5 v6 v7 v8 v9 v10 v11 v12 v13 v14 v15 v16 v17 v18 v19 v20 v : Value} {t : List Value} (hc : z_code y pc = some (nx, .putfield n)) (hM : M[a]? = some (.inl (ci, (v0 :: v1 :: v2 :: v3 :: v4 :: v5 :: v6 :: v7 :: v8 :: v9 :: v10 :: v11 :: v12 :: v13 :: v14 :: v15 :: v16 :: v17 :: v18 :: v19 :: v20 :: t)))) (hci : ci = n / 32) (hk : n % 32 = 20) (hft : z_fit (z_fty ci 20) v = true) (hfi : z_fin ci 20 = false ∨ z_ini y ci = true) (k : z_R S d y nx ls st (M.set a (.inl (ci, (v0 :: v1 :: v2 :: v3 :: v4 :: v5 :: v6 :: v7 :: v8 :: v9 :: v10 :: v11 :: v12 :: v13 :: v14 :: v15 :: v16 :: v17 :: v18 :: v19 :: v :: t)))) Q) : z_R S d y pc ls (v :: .ref a :: st) M Q := by
  obtain ⟨r, M', k, hq⟩ := k
  exact ⟨r, M', g_pf20 hc hM hci hk hft hfi k, hq⟩
theorem r_pf21 {n a ci : Nat} {v0 v1 v2 v3 v4 v5 v6 v7 v8 v9 v10 v11 v12 v13 v14 v15 v16 v17 v18 v19 v20 v21 v : Value} {t : List Value} (hc : z_code y pc = some (nx, .putfield n)) (hM : M[a]? = some (.inl (ci, (v0 :: v1 :: v2 :: v3 :: v4 :: v5 :: v6 :: v7 :: v8 :: v9 :: v10 :: v11 :: v12 :: v13 :: v14 :: v15 :: v16 :: v17 :: v18 :: v19 :: v20 :: v21 :: t)))) (hci : ci = n / 32) (hk : n % 32 = 21) (hft : z_fit (z_fty ci 21) v = true) (hfi : z_fin ci 21 = false ∨ z_ini y ci = true) (k : z_R S d y nx ls st (M.set a (.inl (ci, (v0 :: v1 :: v2 :: v3 :: v4 :: v5 :: v6 :: v7 :: v8 :: v9 :: v10 :: v11 :: v12 :: v13 :: v14 :: v15 :: v16 :: v17 :: v18 :: v19 :: v20 :: v :: t)))) Q) : z_R S d y pc ls (v :: .ref a :: st) M Q := by
  obtain ⟨r, M', k, hq⟩ := k
  exact ⟨r, M', g_pf21 hc hM hci hk hft hfi k, hq⟩
theorem r_pf22 {n a ci : Nat} {v0 v1 v2 v3 v4 v5 v6 v7 v8 v9 v10 v11 v12 v13 v14 v15 v16 v17 v18 v19 v20 v21 v22 v : Value} {t : List Value} (hc : z_code y pc = some (nx, .putfield n)) (hM : M[a]? = some (.inl (ci, (v0 :: v1 :: v2 :: v3 :: v4 :: v5 :: v6 :: v7 :: v8 :: v9 :: v10 :: v11 :: v12 :: v13 :: v14 :: v15 :: v16 :: v17 :: v18 :: v19 :: v20 :: v21 :: v22 :: t)))) (hci : ci = n / 32) (hk : n % 32 = 22) (hft : z_fit (z_fty ci 22) v = true) (hfi : z_fin ci 22 = false ∨ z_ini y ci = true) (k : z_R S d y nx ls st (M.set a (.inl (ci, (v0 :: v1 :: v2 :: v3 :: v4 :: v5 :: v6 :: v7 :: v8 :: v9 :: v10 :: v11 :: v12 :: v13 :: v14 :: v15 :: v16 :: v17 :: v18 :: v19 :: v20 :: v21 :: v :: t)))) Q) : z_R S d y pc ls (v :: .ref a :: st) M Q := by
  obtain ⟨r, M', k, hq⟩ := k
  exact ⟨r, M', g_pf22 hc hM hci hk hft hfi k, hq⟩
theorem r_pf23 {n a ci : Nat} {v0 v1 v2 v3 v4 v5 v6 v7 v8 v9 v10 v11 v12 v13 v14 v15 v16 v17 v18 v19 v20 v21 v22 v23 v : Value} {t : List Value} (hc : z_code y pc = some (nx, .putfield n)) (hM : M[a]? = some (.inl (ci, (v0 :: v1 :: v2 :: v3 :: v4 :: v5 :: v6 :: v7 :: v8 :: v9 :: v10 :: v11 :: v12 :: v13 :: v14 :: v15 :: v16 :: v17 :: v18 :: v19 :: v20 :: v21 :: v22 :: v23 :: t)))) (hci : ci = n / 32) (hk : n % 32 = 23) (hft : z_fit (z_fty ci 23) v = true) (hfi : z_fin ci 23 = false ∨ z_ini y ci = true) (k : z_R S d y nx ls st (M.set a (.inl (ci, (v0 :: v1 :: v2 :: v3 :: v4 :: v5 :: v6 :: v7 :: v8 :: v9 :: v10 :: v11 :: v12 :: v13 :: v14 :: v15 :: v16 :: v17 :: v18 :: v19 :: v20 :: v21 :: v22 :: v :: t)))) Q) : z_R S d y pc ls (v :: .ref a :: st) M Q := by
  obtain ⟨r, M', k, hq⟩ := k
  exact ⟨r, M', g_pf23 hc hM hci hk hft hfi k, hq⟩
theorem r_pf24 {n a ci : Nat} {v0 v1 v2 v3 v4 v5 v6 v7 v8 v9 v10 v11 v12 v13 v14 v15 v16 v17 v18 v19 v20 v21 v22 v23 v24 v : Value} {t : List Value} (hc : z_code y pc = some (nx, .putfield n)) (hM : M[a]? = some (.inl (ci, (v0 :: v1 :: v2 :: v3 :: v4 :: v5 :: v6 :: v7 :: v8 :: v9 :: v10 :: v11 :: v12 :: v13 :: v14 :: v15 :: v16 :: v17 :: v18 :: v19 :: v20 :: v21 :: v22 :: v23 :: v24 :: t)))) (hci : ci = n / 32) (hk : n % 32 = 24) (hft : z_fit (z_fty ci 24) v = true) (hfi : z_fin ci 24 = false ∨ z_ini y ci = true) (k : z_R S d y nx ls st (M.set a (.inl (ci, (v0 :: v1 :: v2 :: v3 :: v4 :: v5 :: v6 :: v7 :: v8 :: v9 :: v10 :: v11 :: v12 :: v13 :: v14 :: v15 :: v16 :: v17 :: v18 :: v19 :: v20 :: v21 :: v22 :: v23 :: v :: t)))) Q) : z_R S d y pc ls (v :: .ref a :: st) M Q := by
  obtain ⟨r, M', k, hq⟩ := k
  exact ⟨r, M', g_pf24 hc hM hci hk hft hfi k, hq⟩
end ZR
section ZR3
variable {S : ZS} {d y pc nx : Nat} {ls : ZL} {rest : List Value} {M M1 : ZM} {Q : Option Value → ZM → Prop} {a1 a2 a3 a4 w : Value} {q : Nat}
theorem r_cs0 (hc : z_code y pc = some (nx, .invokestatic q)) (hn : (z_mt q).2.2.2.2.1 = 0) (h99 : (z_mt q).2.2.2.2.2 = 99) (h8 : z_cat rest = true) (hcal : z_C S d q [] M (some w) M1) (k : z_R S (d + 1) y nx ls (w :: rest) M1 Q) : z_R S (d + 1) y pc ls (rest) M Q := by
  obtain ⟨r, M', k, hq⟩ := k
  exact ⟨r, M', g_cs0 hc hn h99 h8 hcal k, hq⟩
theorem r_cv0 {a ci : Nat} {fs : List Value} (hc : z_code y pc = some (nx, .invokevirtual q)) (hn : (z_mt q).2.2.2.2.1 = 0) (hM : M[a]? = some (.inl (ci, fs))) (hci : ci = (z_mt q).2.2.2.2.2) (h7 : ci < 7) (h8 : z_cat rest = true) (hcal : z_C S d q (.ref a :: []) M (some w) M1) (k : z_R S (d + 1) y nx ls (w :: rest) M1 Q) : z_R S (d + 1) y pc ls (.ref a :: rest) M Q := by
  obtain ⟨r, M', k, hq⟩ := k
  exact ⟨r, M', g_cv0 hc hn hM hci h7 h8 hcal k, hq⟩
theorem r_cs0v (hc : z_code y pc = some (nx, .invokestatic q)) (hn : (z_mt q).2.2.2.2.1 = 0) (h99 : (z_mt q).2.2.2.2.2 = 99) (h8 : z_cat rest = true) (hcal : z_C S d q [] M none M1) (k : z_R S (d + 1) y nx ls rest M1 Q) : z_R S (d + 1) y pc ls (rest) M Q := by
  obtain ⟨r, M', k, hq⟩ := k
  exact ⟨r, M', g_cs0v hc hn h99 h8 hcal k, hq⟩
theorem r_cv0v {a ci : Nat} {fs : List Value} (hc : z_code y pc = some (nx, .invokevirtual q)) (hn : (z_mt q).2.2.2.2.1 = 0) (hM : M[a]? = some (.inl (ci, fs))) (hci : ci = (z_mt q).2.2.2.2.2) (h7 : ci < 7) (h8 : z_cat rest = true) (hcal : z_C S d q (.ref a :: []) M none M1) (k : z_R S (d + 1) y nx ls rest M1 Q) : z_R S (d + 1) y pc ls (.ref a :: rest) M Q := by
  obtain ⟨r, M', k, hq⟩ := k
  exact ⟨r, M', g_cv0v hc hn hM hci h7 h8 hcal k, hq⟩
theorem r_cx0v {a : Nat} (hc : z_code y pc = some (nx, .invokespecial q)) (hn : (z_mt q).2.2.2.2.1 = 0) (h8 : z_cat rest = true) (hi : (z_mt q).1.name = "<init>") (hv : (z_mt q).2.2.2.1 = none) (hcal : z_C S d q [.ref a] M none M1) (k : z_R S (d + 1) y nx ls rest M1 Q) : z_R S (d + 1) y pc ls (.ref a :: rest) M Q := by
  obtain ⟨r, M', k, hq⟩ := k
  exact ⟨r, M', g_cx0v hc hn h8 hi hv hcal k, hq⟩
theorem r_cs1 (hc : z_code y pc = some (nx, .invokestatic q)) (hn : (z_mt q).2.2.2.2.1 = 1) (h99 : (z_mt q).2.2.2.2.2 = 99) (h8 : z_cat rest = true) (hcal : z_C S d q [a1] M (some w) M1) (k : z_R S (d + 1) y nx ls (w :: rest) M1 Q) : z_R S (d + 1) y pc ls (a1 :: rest) M Q := by
  obtain ⟨r, M', k, hq⟩ := k
  exact ⟨r, M', g_cs1 hc hn h99 h8 hcal k, hq⟩
theorem r_cv1 {a ci : Nat} {fs : List Value} (hc : z_code y pc = some (nx, .invokevirtual q)) (hn : (z_mt q).2.2.2.2.1 = 1) (hM : M[a]? = some (.inl (ci, fs))) (hci : ci = (z_mt q).2.2.2.2.2) (h7 : ci < 7) (h8 : z_cat rest = true) (hcal : z_C S d q (.ref a :: [a1]) M (some w) M1) (k : z_R S (d + 1) y nx ls (w :: rest) M1 Q) : z_R S (d + 1) y pc ls (a1 :: .ref a :: rest) M Q := by
  obtain ⟨r, M', k, hq⟩ := k
  exact ⟨r, M', g_cv1 hc hn hM hci h7 h8 hcal k, hq⟩
theorem r_cs1v (hc : z_code y pc = some (nx, .invokestatic q)) (hn : (z_mt q).2.2.2.2.1 = 1) (h99 : (z_mt q).2.2.2.2.2 = 99) (h8 : z_cat rest = true) (hcal : z_C S d q [a1] M none M1) (k : z_R S (d + 1) y nx ls rest M1 Q) : z_R S (d + 1) y pc ls (a1 :: rest) M Q := by
  obtain ⟨r, M', k, hq⟩ := k
  exact ⟨r, M', g_cs1v hc hn h99 h8 hcal k, hq⟩
theorem r_cv1v {a ci : Nat} {fs : List Value} (hc : z_code y pc = some (nx, .invokevirtual q)) (hn : (z_mt q).2.2.2.2.1 = 1) (hM : M[a]? = some (.inl (ci, fs))) (hci : ci = (z_mt q).2.2.2.2.2) (h7 : ci < 7) (h8 : z_cat rest = true) (hcal : z_C S d q (.ref a :: [a1]) M none M1) (k : z_R S (d + 1) y nx ls rest M1 Q) : z_R S (d + 1) y pc ls (a1 :: .ref a :: rest) M Q := by
  obtain ⟨r, M', k, hq⟩ := k
  exact ⟨r, M', g_cv1v hc hn hM hci h7 h8 hcal k, hq⟩
theorem r_cs2 (hc : z_code y pc = some (nx, .invokestatic q)) (hn : (z_mt q).2.2.2.2.1 = 2) (h99 : (z_mt q).2.2.2.2.2 = 99) (h8 : z_cat rest = true) (hcal : z_C S d q [a1, a2] M (some w) M1) (k : z_R S (d + 1) y nx ls (w :: rest) M1 Q) : z_R S (d + 1) y pc ls (a2 :: a1 :: rest) M Q := by
  obtain ⟨r, M', k, hq⟩ := k
  exact ⟨r, M', g_cs2 hc hn h99 h8 hcal k, hq⟩
theorem r_cv2 {a ci : Nat} {fs : List Value} (hc : z_code y pc = some (nx, .invokevirtual q)) (hn : (z_mt q).2.2.2.2.1 = 2) (hM : M[a]? = some (.inl (ci, fs))) (hci : ci = (z_mt q).2.2.2.2.2) (h7 : ci < 7) (h8 : z_cat rest = true) (hcal : z_C S d q (.ref a :: [a1, a2]) M (some w) M1) (k : z_R S (d + 1) y nx ls (w :: rest) M1 Q) : z_R S (d + 1) y pc ls (a2 :: a1 :: .ref a :: rest) M Q := by
  obtain ⟨r, M', k, hq⟩ := k
  exact ⟨r, M', g_cv2 hc hn hM hci h7 h8 hcal k, hq⟩
theorem r_cs2v (hc : z_code y pc = some (nx, .invokestatic q)) (hn : (z_mt q).2.2.2.2.1 = 2) (h99 : (z_mt q).2.2.2.2.2 = 99) (h8 : z_cat rest = true) (hcal : z_C S d q [a1, a2] M none M1) (k : z_R S (d + 1) y nx ls rest M1 Q) : z_R S (d + 1) y pc ls (a2 :: a1 :: rest) M Q := by
  obtain ⟨r, M', k, hq⟩ := k
  exact ⟨r, M', g_cs2v hc hn h99 h8 hcal k, hq⟩
theorem r_cv2v {a ci : Nat} {fs : List Value} (hc : z_code y pc = some (nx, .invokevirtual q)) (hn : (z_mt q).2.2.2.2.1 = 2) (hM : M[a]? = some (.inl (ci, fs))) (hci : ci = (z_mt q).2.2.2.2.2) (h7 : ci < 7) (h8 : z_cat rest = true) (hcal : z_C S d q (.ref a :: [a1, a2]) M none M1) (k : z_R S (d + 1) y nx ls rest M1 Q) : z_R S (d + 1) y pc ls (a2 :: a1 :: .ref a :: rest) M Q := by
  obtain ⟨r, M', k, hq⟩ := k
  exact ⟨r, M', g_cv2v hc hn hM hci h7 h8 hcal k, hq⟩
theorem r_cs3 (hc : z_code y pc = some (nx, .invokestatic q)) (hn : (z_mt q).2.2.2.2.1 = 3) (h99 : (z_mt q).2.2.2.2.2 = 99) (h8 : z_cat rest = true) (hcal : z_C S d q [a1, a2, a3] M (some w) M1) (k : z_R S (d + 1) y nx ls (w :: rest) M1 Q) : z_R S (d + 1) y pc ls (a3 :: a2 :: a1 :: rest) M Q := by
  obtain ⟨r, M', k, hq⟩ := k
  exact ⟨r, M', g_cs3 hc hn h99 h8 hcal k, hq⟩
theorem r_cv3 {a ci : Nat} {fs : List Value} (hc : z_code y pc = some (nx, .invokevirtual q)) (hn : (z_mt q).2.2.2.2.1 = 3) (hM : M[a]? = some (.inl (ci, fs))) (hci : ci = (z_mt q).2.2.2.2.2) (h7 : ci < 7) (h8 : z_cat rest = true) (hcal : z_C S d q (.ref a :: [a1, a2, a3]) M (some w) M1) (k : z_R S (d + 1) y nx ls (w :: rest) M1 Q) : z_R S (d + 1) y pc ls (a3 :: a2 :: a1 :: .ref a :: rest) M Q := by
  obtain ⟨r, M', k, hq⟩ := k
  exact ⟨r, M', g_cv3 hc hn hM hci h7 h8 hcal k, hq⟩
theorem r_cs3v (hc : z_code y pc = some (nx, .invokestatic q)) (hn : (z_mt q).2.2.2.2.1 = 3) (h99 : (z_mt q).2.2.2.2.2 = 99) (h8 : z_cat rest = true) (hcal : z_C S d q [a1, a2, a3] M none M1) (k : z_R S (d + 1) y nx ls rest M1 Q) : z_R S (d + 1) y pc ls (a3 :: a2 :: a1 :: rest) M Q := by
  obtain ⟨r, M', k, hq⟩ := k
  exact ⟨r, M', g_cs3v hc hn h99 h8 hcal k, hq⟩
theorem r_cv3v {a ci : Nat} {fs : List Value} (hc : z_code y pc = some (nx, .invokevirtual q)) (hn : (z_mt q).2.2.2.2.1 = 3) (hM : M[a]? = some (.inl (ci, fs))) (hci : ci = (z_mt q).2.2.2.2.2) (h7 : ci < 7) (h8 : z_cat rest = true) (hcal : z_C S d q (.ref a :: [a1, a2, a3]) M none M1) (k : z_R S (d + 1) y nx ls rest M1 Q) : z_R S (d + 1) y pc ls (a3 :: a2 :: a1 :: .ref a :: rest) M Q := by
  obtain ⟨r, M', k, hq⟩ := k
  exact ⟨r, M', g_cv3v hc hn hM hci h7 h8 hcal k, hq⟩
theorem r_cs4 (hc : z_code y pc = some (nx, .invokestatic q)) (hn : (z_mt q).2.2.2.2.1 = 4) (h99 : (z_mt q).2.2.2.2.2 = 99) (h8 : z_cat rest = true) (hcal : z_C S d q [a1, a2, a3, a4] M (some w) M1) (k : z_R S (d + 1) y nx ls (w :: rest) M1 Q) : z_R S (d + 1) y pc ls (a4 :: a3 :: a2 :: a1 :: rest) M Q := by
  obtain ⟨r, M', k, hq⟩ := k
  exact ⟨r, M', g_cs4 hc hn h99 h8 hcal k, hq⟩
theorem r_cv4 {a ci : Nat} {fs : List Value} (hc : z_code y pc = some (nx, .invokevirtual q)) (hn : (z_mt q).2.2.2.2.1 = 4) (hM : M[a]? = some (.inl (ci, fs))) (hci : ci = (z_mt q).2.2.2.2.2) (h7 : ci < 7) (h8 : z_cat rest = true) (hcal : z_C S d q (.ref a :: [a1, a2, a3, a4]) M (some w) M1) (k : z_R S (d + 1) y nx ls (w :: rest) M1 Q) : z_R S (d + 1) y pc ls (a4 :: a3 :: a2 :: a1 :: .ref a :: rest) M Q := by
  obtain ⟨r, M', k, hq⟩ := k
  exact ⟨r, M', g_cv4 hc hn hM hci h7 h8 hcal k, hq⟩
theorem r_cs4v (hc : z_code y pc = some (nx, .invokestatic q)) (hn : (z_mt q).2.2.2.2.1 = 4) (h99 : (z_mt q).2.2.2.2.2 = 99) (h8 : z_cat rest = true) (hcal : z_C S d q [a1, a2, a3, a4] M none M1) (k : z_R S (d + 1) y nx ls rest M1 Q) : z_R S (d + 1) y pc ls (a4 :: a3 :: a2 :: a1 :: rest) M Q := by
  obtain ⟨r, M', k, hq⟩ := k
  exact ⟨r, M', g_cs4v hc hn h99 h8 hcal k, hq⟩
theorem r_cv4v {a ci : Nat} {fs : List Value} (hc : z_code y pc = some (nx, .invokevirtual q)) (hn : (z_mt q).2.2.2.2.1 = 4) (hM : M[a]? = some (.inl (ci, fs))) (hci : ci = (z_mt q).2.2.2.2.2) (h7 : ci < 7) (h8 : z_cat rest = true) (hcal : z_C S d q (.ref a :: [a1, a2, a3, a4]) M none M1) (k : z_R S (d + 1) y nx ls rest M1 Q) : z_R S (d + 1) y pc ls (a4 :: a3 :: a2 :: a1 :: .ref a :: rest) M Q := by
  obtain ⟨r, M', k, hq⟩ := k
  exact ⟨r, M', g_cv4v hc hn hM hci h7 h8 hcal k, hq⟩
end ZR3
section ZRr
variable {S : ZS} {d y pc nx : Nat} {ls : ZL} {M : ZM} {Q : Option Value → ZM → Prop}
theorem r_reti {v : Int32} (hc : z_code y pc = some (nx, .ireturn)) (hok : z_rok y (.int v) = true) (hq : Q (some (.int v)) M) : z_R S d y pc ls [.int v] M Q := ⟨_, _, g_reti hc rfl hok, hq⟩
theorem r_retl {v : Int64} (hc : z_code y pc = some (nx, .lreturn)) (hok : z_rok y (.long v) = true) (hq : Q (some (.long v)) M) : z_R S d y pc ls [.long v] M Q := ⟨_, _, g_retl hc rfl hok, hq⟩
theorem r_reta {v : Nat} (hc : z_code y pc = some (nx, .areturn)) (hok : z_rok y (.ref v) = true) (hq : Q (some (.ref v)) M) : z_R S d y pc ls [.ref v] M Q := ⟨_, _, g_reta hc rfl hok, hq⟩
theorem r_retn (hc : z_code y pc = some (nx, .areturn)) (hok : z_rok y .null = true) (hq : Q (some .null) M) : z_R S d y pc ls [.null] M Q := ⟨_, _, g_retn hc rfl hok, hq⟩
theorem r_retv (hc : z_code y pc = some (nx, .return_)) (hok : (z_mt y).2.2.2.1 = none) (hq : Q none M) : z_R S d y pc ls [] M Q := ⟨_, _, g_retv hc rfl hok, hq⟩
end ZRr
