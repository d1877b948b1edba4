/-- the two calls of String that the text's words are read by -/
def z_STL : Prop := ∀ {b : Nat} {sp : Nat → Nat} {cA : Nat → ClassId} {D : va_G} {S : ZS} {p : Program} {l : Launch} {e : Env} {R : Room} {s : State} {m : MethodId} {args : Array Value} {below : List Frame} {meth : Method} {c : Code} {Q : State → Prop} {y m0 z0 pc nx a : Nat} {ls : ZL} {st : List Value} {M : ZM}, z_cx b sp cA D S p R s m args meth c y m0 → z_code y pc = some (nx, .saload) → 1001 ≤ a → a < 1004 → z_cat st = true → M.length - m0 ≤ R.cells → z_sz M - z0 ≤ R.slots → z_K b sp cA D p l e R s m args below meth c Q y m0 z0 nx ls (.int (Int32.ofNat (z_wlen (a - 1001))) :: st) M → z_K b sp cA D p l e R s m args below meth c Q y m0 z0 pc ls (.ref a :: st) M
def z_STC : Prop := ∀ {b : Nat} {sp : Nat → Nat} {cA : Nat → ClassId} {D : va_G} {S : ZS} {p : Program} {l : Launch} {e : Env} {R : Room} {s : State} {m : MethodId} {args : Array Value} {below : List Frame} {meth : Method} {c : Code} {Q : State → Prop} {y m0 z0 pc nx a : Nat} {i : Int32} {ls : ZL} {st : List Value} {M : ZM}, z_cx b sp cA D S p R s m args meth c y m0 → z_code y pc = some (nx, .sastore) → 1001 ≤ a → a < 1004 → z_in i (z_wlen (a - 1001)) = true → z_cat st = true → M.length - m0 ≤ R.cells → z_sz M - z0 ≤ R.slots → z_K b sp cA D p l e R s m args below meth c Q y m0 z0 nx ls (.int ((z_wch (a - 1001)).getD i.toNatClampNeg 0) :: st) M → z_K b sp cA D p l e R s m args below meth c Q y m0 z0 pc ls (.int i :: .ref a :: st) M
section ZST
variable {b : Nat} {sp : Nat → Nat} {cA : Nat → ClassId} {D : va_G} {S : ZS} {p : Program} {l : Launch} {e : Env} {R : Room} {s : State} {m : MethodId} {args : Array Value} {below : List Frame} {meth : Method} {c : Code} {Q : State → Prop} {y m0 z0 : Nat}
variable {pc nx : Nat} {ls : ZL} {st : List Value} {M : ZM}

set_option maxHeartbeats 4000000 in
theorem z_step (hL : z_STL) (hCh : z_STC) (C : z_cx b sp cA D S p R s m args meth c y m0) {i : Instr} {pc' : Nat} {ls' : ZL} {st' : List Value} {M' : ZM} (hc : z_code y pc = some (nx, i)) (h : z_stp S y i nx ls st M = some (.inl (pc', ls', st', M'))) (h0 : m0 ≤ M.length) (hz0 : z0 ≤ z_sz M) (hrc : M'.length - m0 ≤ R.cells) (hrs : z_sz M' - z0 ≤ R.slots) (k : z_K b sp cA D p l e R s m args below meth c Q y m0 z0 pc' ls' st' M') : z_K b sp cA D p l e R s m args below meth c Q y m0 z0 pc ls st M := by
  cases i with
  | iconst n =>
    simp only [z_stp] at h
    simp only [Option.some.injEq, Sum.inl.injEq, Prod.mk.injEq] at h
    obtain ⟨rfl, rfl, rfl, rfl⟩ := h
    exact z_s_iconst C hc k
  | goto_w n =>
    simp only [z_stp] at h
    simp only [Option.some.injEq, Sum.inl.injEq, Prod.mk.injEq] at h
    obtain ⟨rfl, rfl, rfl, rfl⟩ := h
    exact z_s_lcon C hc k
  | aconst_null =>
    simp only [z_stp] at h
    simp only [Option.some.injEq, Sum.inl.injEq, Prod.mk.injEq] at h
    obtain ⟨rfl, rfl, rfl, rfl⟩ := h
    exact z_s_null C hc k
  | ret t =>
    simp only [z_stp] at h
    simp only [Option.some.injEq, Sum.inl.injEq, Prod.mk.injEq] at h
    obtain ⟨rfl, rfl, rfl, rfl⟩ := h
    exact z_s_goto C hc k
  | ldc n =>
    simp only [z_stp] at h
    split at h
    · rename_i hn
      simp only [Option.some.injEq, Sum.inl.injEq, Prod.mk.injEq] at h
      obtain ⟨rfl, rfl, rfl, rfl⟩ := h
      exact z_s_ldc C hn hc k
    · cases h
  | iload n =>
    simp only [z_stp] at h
    split at h
    · rename_i hv
      simp only [Option.some.injEq, Sum.inl.injEq, Prod.mk.injEq] at h
      obtain ⟨rfl, rfl, rfl, rfl⟩ := h
      exact z_s_iload C hv hc k
    · cases h
  | lload n =>
    simp only [z_stp] at h
    split at h
    · rename_i hv
      simp only [Option.some.injEq, Sum.inl.injEq, Prod.mk.injEq] at h
      obtain ⟨rfl, rfl, rfl, rfl⟩ := h
      exact z_s_lload C hv hc k
    · cases h
  | aload n =>
    simp only [z_stp] at h
    split at h
    · rename_i hv
      simp only [Option.some.injEq, Sum.inl.injEq, Prod.mk.injEq] at h
      obtain ⟨rfl, rfl, rfl, rfl⟩ := h
      exact z_s_aload C hv hc k
    · rename_i hv
      simp only [Option.some.injEq, Sum.inl.injEq, Prod.mk.injEq] at h
      obtain ⟨rfl, rfl, rfl, rfl⟩ := h
      exact z_s_aloadN C hv hc k
    · cases h
  | istore n =>
    simp only [z_stp] at h
    split at h
    · split at h
      · rename_i hif
        simp only [Option.some.injEq, Sum.inl.injEq, Prod.mk.injEq] at h
        obtain ⟨rfl, rfl, rfl, rfl⟩ := h
        exact z_s_istore C hif hc k
      · cases h
    · cases h
  | lstore n =>
    simp only [z_stp] at h
    split at h
    · split at h
      · rename_i hif
        simp only [Option.some.injEq, Sum.inl.injEq, Prod.mk.injEq] at h
        obtain ⟨rfl, rfl, rfl, rfl⟩ := h
        exact z_s_lstore C hif hc k
      · cases h
    · cases h
  | astore n =>
    simp only [z_stp] at h
    split at h
    · split at h
      · rename_i hif
        simp only [Option.some.injEq, Sum.inl.injEq, Prod.mk.injEq] at h
        obtain ⟨rfl, rfl, rfl, rfl⟩ := h
        exact z_s_astore C hif hc k
      · cases h
    · split at h
      · rename_i hif
        simp only [Option.some.injEq, Sum.inl.injEq, Prod.mk.injEq] at h
        obtain ⟨rfl, rfl, rfl, rfl⟩ := h
        exact z_s_astoreN C hif hc k
      · cases h
    · cases h
  | iinc n v =>
    simp only [z_stp] at h
    split at h
    · rename_i hv
      simp only [Option.some.injEq, Sum.inl.injEq, Prod.mk.injEq] at h
      obtain ⟨rfl, rfl, rfl, rfl⟩ := h
      exact z_s_iinc C hv hc k
    · cases h
  | iadd =>
    simp only [z_stp] at h
    split at h
    · simp only [Option.some.injEq, Sum.inl.injEq, Prod.mk.injEq] at h
      obtain ⟨rfl, rfl, rfl, rfl⟩ := h
      exact z_s_iadd C hc k
    · cases h
  | isub =>
    simp only [z_stp] at h
    split at h
    · simp only [Option.some.injEq, Sum.inl.injEq, Prod.mk.injEq] at h
      obtain ⟨rfl, rfl, rfl, rfl⟩ := h
      exact z_s_isub C hc k
    · cases h
  | imul =>
    simp only [z_stp] at h
    split at h
    · simp only [Option.some.injEq, Sum.inl.injEq, Prod.mk.injEq] at h
      obtain ⟨rfl, rfl, rfl, rfl⟩ := h
      exact z_s_imul C hc k
    · cases h
  | iand =>
    simp only [z_stp] at h
    split at h
    · simp only [Option.some.injEq, Sum.inl.injEq, Prod.mk.injEq] at h
      obtain ⟨rfl, rfl, rfl, rfl⟩ := h
      exact z_s_iand C hc k
    · cases h
  | ior =>
    simp only [z_stp] at h
    split at h
    · simp only [Option.some.injEq, Sum.inl.injEq, Prod.mk.injEq] at h
      obtain ⟨rfl, rfl, rfl, rfl⟩ := h
      exact z_s_ior C hc k
    · cases h
  | ixor =>
    simp only [z_stp] at h
    split at h
    · simp only [Option.some.injEq, Sum.inl.injEq, Prod.mk.injEq] at h
      obtain ⟨rfl, rfl, rfl, rfl⟩ := h
      exact z_s_ixor C hc k
    · cases h
  | ishl =>
    simp only [z_stp] at h
    split at h
    · simp only [Option.some.injEq, Sum.inl.injEq, Prod.mk.injEq] at h
      obtain ⟨rfl, rfl, rfl, rfl⟩ := h
      exact z_s_ishl C hc k
    · cases h
  | ishr =>
    simp only [z_stp] at h
    split at h
    · simp only [Option.some.injEq, Sum.inl.injEq, Prod.mk.injEq] at h
      obtain ⟨rfl, rfl, rfl, rfl⟩ := h
      exact z_s_ishr C hc k
    · cases h
  | iushr =>
    simp only [z_stp] at h
    split at h
    · simp only [Option.some.injEq, Sum.inl.injEq, Prod.mk.injEq] at h
      obtain ⟨rfl, rfl, rfl, rfl⟩ := h
      exact z_s_iushr C hc k
    · cases h
  | ladd =>
    simp only [z_stp] at h
    split at h
    · simp only [Option.some.injEq, Sum.inl.injEq, Prod.mk.injEq] at h
      obtain ⟨rfl, rfl, rfl, rfl⟩ := h
      exact z_s_ladd C hc k
    · cases h
  | land =>
    simp only [z_stp] at h
    split at h
    · simp only [Option.some.injEq, Sum.inl.injEq, Prod.mk.injEq] at h
      obtain ⟨rfl, rfl, rfl, rfl⟩ := h
      exact z_s_land C hc k
    · cases h
  | lor =>
    simp only [z_stp] at h
    split at h
    · simp only [Option.some.injEq, Sum.inl.injEq, Prod.mk.injEq] at h
      obtain ⟨rfl, rfl, rfl, rfl⟩ := h
      exact z_s_lor C hc k
    · cases h
  | lshl =>
    simp only [z_stp] at h
    split at h
    · simp only [Option.some.injEq, Sum.inl.injEq, Prod.mk.injEq] at h
      obtain ⟨rfl, rfl, rfl, rfl⟩ := h
      exact z_s_lshl C hc k
    · cases h
  | lshr =>
    simp only [z_stp] at h
    split at h
    · simp only [Option.some.injEq, Sum.inl.injEq, Prod.mk.injEq] at h
      obtain ⟨rfl, rfl, rfl, rfl⟩ := h
      exact z_s_lshr C hc k
    · cases h
  | lushr =>
    simp only [z_stp] at h
    split at h
    · simp only [Option.some.injEq, Sum.inl.injEq, Prod.mk.injEq] at h
      obtain ⟨rfl, rfl, rfl, rfl⟩ := h
      exact z_s_lushr C hc k
    · cases h
  | lcmp =>
    simp only [z_stp] at h
    split at h
    · simp only [Option.some.injEq, Sum.inl.injEq, Prod.mk.injEq] at h
      obtain ⟨rfl, rfl, rfl, rfl⟩ := h
      exact z_s_lcmp C hc k
    · cases h
  | i2l =>
    simp only [z_stp] at h
    split at h
    · simp only [Option.some.injEq, Sum.inl.injEq, Prod.mk.injEq] at h
      obtain ⟨rfl, rfl, rfl, rfl⟩ := h
      exact z_s_i2l C hc k
    · cases h
  | l2i =>
    simp only [z_stp] at h
    split at h
    · simp only [Option.some.injEq, Sum.inl.injEq, Prod.mk.injEq] at h
      obtain ⟨rfl, rfl, rfl, rfl⟩ := h
      exact z_s_l2i C hc k
    · cases h
  | i2b =>
    simp only [z_stp] at h
    split at h
    · simp only [Option.some.injEq, Sum.inl.injEq, Prod.mk.injEq] at h
      obtain ⟨rfl, rfl, rfl, rfl⟩ := h
      exact z_s_i2b C hc k
    · cases h
  | idiv =>
    simp only [z_stp] at h
    split at h
    · split at h
      · cases h
      · rename_i hif
        simp only [Option.some.injEq, Sum.inl.injEq, Prod.mk.injEq] at h
        obtain ⟨rfl, rfl, rfl, rfl⟩ := h
        exact z_s_idiv C hif hc k
    · cases h
  | irem =>
    simp only [z_stp] at h
    split at h
    · split at h
      · cases h
      · rename_i hif
        simp only [Option.some.injEq, Sum.inl.injEq, Prod.mk.injEq] at h
        obtain ⟨rfl, rfl, rfl, rfl⟩ := h
        exact z_s_irem C hif hc k
    · cases h
  | dup =>
    simp only [z_stp] at h
    split at h
    · split at h
      · rename_i hif
        simp only [Option.some.injEq, Sum.inl.injEq, Prod.mk.injEq] at h
        obtain ⟨rfl, rfl, rfl, rfl⟩ := h
        exact z_s_dup C hif hc k
      · cases h
    · cases h
  | dup2 =>
    simp only [z_stp] at h
    split at h
    · split at h
      · rename_i hif
        simp only [Option.some.injEq, Sum.inl.injEq, Prod.mk.injEq] at h
        obtain ⟨rfl, rfl, rfl, rfl⟩ := h
        exact z_s_dup2 C hif.1 hif.2 hc k
      · cases h
    · cases h
  | pop =>
    simp only [z_stp] at h
    split at h
    · split at h
      · rename_i hif
        simp only [Option.some.injEq, Sum.inl.injEq, Prod.mk.injEq] at h
        obtain ⟨rfl, rfl, rfl, rfl⟩ := h
        exact z_s_pop C hif hc k
      · cases h
    · cases h
  | invokeinterface q t =>
    simp only [z_stp] at h
    split at h
    · simp only [Option.some.injEq, Sum.inl.injEq, Prod.mk.injEq] at h
      obtain ⟨rfl, rfl, rfl, rfl⟩ := h
      exact z_s_icmp C hc k
    · cases h
  | multianewarray q t =>
    simp only [z_stp] at h
    split at h
    · simp only [Option.some.injEq, Sum.inl.injEq, Prod.mk.injEq] at h
      obtain ⟨rfl, rfl, rfl, rfl⟩ := h
      exact z_s_if C hc k
    · cases h
  | dload t =>
    simp only [z_stp] at h
    split at h
    · simp only [Option.some.injEq, Sum.inl.injEq, Prod.mk.injEq] at h
      obtain ⟨rfl, rfl, rfl, rfl⟩ := h
      exact z_s_ifnull C hc k
    · simp only [Option.some.injEq, Sum.inl.injEq, Prod.mk.injEq] at h
      obtain ⟨rfl, rfl, rfl, rfl⟩ := h
      exact z_s_ifnullN C hc k
    · cases h
  | dstore t =>
    simp only [z_stp] at h
    split at h
    · simp only [Option.some.injEq, Sum.inl.injEq, Prod.mk.injEq] at h
      obtain ⟨rfl, rfl, rfl, rfl⟩ := h
      exact z_s_ifnonnull C hc k
    · simp only [Option.some.injEq, Sum.inl.injEq, Prod.mk.injEq] at h
      obtain ⟨rfl, rfl, rfl, rfl⟩ := h
      exact z_s_ifnonnullN C hc k
    · cases h
  | tableswitch d lo hi offs =>
    simp only [z_stp] at h
    split at h
    · split at h
      · rename_i hif
        simp only [Option.some.injEq, Sum.inl.injEq, Prod.mk.injEq] at h
        obtain ⟨rfl, rfl, rfl, rfl⟩ := h
        exact z_s_tabOut C hif hc k
      · rename_i hif
        split at h
        · rename_i hv
          simp only [Option.some.injEq, Sum.inl.injEq, Prod.mk.injEq] at h
          obtain ⟨rfl, rfl, rfl, rfl⟩ := h
          exact z_s_tabIn C hif hv hc k
        · cases h
    · cases h
  | lookupswitch d ps =>
    simp only [z_stp] at h
    split at h
    · simp only [Option.some.injEq, Sum.inl.injEq, Prod.mk.injEq] at h
      obtain ⟨rfl, rfl, rfl, rfl⟩ := h
      exact z_s_lookup C hc k
    · cases h
  | getfield n =>
    simp only [z_stp] at h
    split at h
    · split at h
      · rename_i hM
        split at h
        · rename_i hci
          split at h
          · rename_i hv
            simp only [Option.some.injEq, Sum.inl.injEq, Prod.mk.injEq] at h
            obtain ⟨rfl, rfl, rfl, rfl⟩ := h
            exact z_s_getf C hM hci hv hc k
          · cases h
        · cases h
      · cases h
    · cases h
  | putfield n =>
    simp only [z_stp] at h
    split at h
    · split at h
      · rename_i hM
        split at h
        · rename_i hif
          simp only [Option.some.injEq, Sum.inl.injEq, Prod.mk.injEq] at h
          obtain ⟨rfl, rfl, rfl, rfl⟩ := h
          exact z_s_putf C hM hif.1 hif.2.1 hif.2.2.1 hif.2.2.2 hc k
        · cases h
      · cases h
    · cases h
  | iaload =>
    simp only [z_stp] at h
    split at h
    · split at h
      · rename_i ha
        subst ha
        split at h
        · rename_i hif
          simp only [Option.some.injEq, Sum.inl.injEq, Prod.mk.injEq] at h
          obtain ⟨rfl, rfl, rfl, rfl⟩ := h
          exact z_s_sld C hif hc k
        · cases h
      · split at h
        · rename_i hM
          split at h
          · rename_i hif
            simp only [Option.some.injEq, Sum.inl.injEq, Prod.mk.injEq] at h
            obtain ⟨rfl, rfl, rfl, rfl⟩ := h
            exact z_s_iald C hM hif hc k
          · cases h
        · cases h
    · cases h
  | baload =>
    simp only [z_stp] at h
    split at h
    · split at h
      · rename_i hM
        split at h
        · rename_i hif
          simp only [Option.some.injEq, Sum.inl.injEq, Prod.mk.injEq] at h
          obtain ⟨rfl, rfl, rfl, rfl⟩ := h
          exact z_s_bald C hM hif hc k
        · cases h
      · rename_i hM
        split at h
        · rename_i hif
          simp only [Option.some.injEq, Sum.inl.injEq, Prod.mk.injEq] at h
          obtain ⟨rfl, rfl, rfl, rfl⟩ := h
          exact z_s_zald C hM hif hc k
        · cases h
      · cases h
    · cases h
  | laload =>
    simp only [z_stp] at h
    split at h
    · split at h
      · rename_i hM
        split at h
        · rename_i hif
          simp only [Option.some.injEq, Sum.inl.injEq, Prod.mk.injEq] at h
          obtain ⟨rfl, rfl, rfl, rfl⟩ := h
          exact z_s_lald C hM hif hc k
        · cases h
      · cases h
    · cases h
  | aaload =>
    simp only [z_stp] at h
    split at h
    · split at h
      · rename_i hM
        split at h
        · rename_i hif
          simp only [Option.some.injEq, Sum.inl.injEq, Prod.mk.injEq] at h
          obtain ⟨rfl, rfl, rfl, rfl⟩ := h
          exact z_s_ald4 C hM hif hc k
        · cases h
      · rename_i hM
        split at h
        · rename_i hif
          simp only [Option.some.injEq, Sum.inl.injEq, Prod.mk.injEq] at h
          obtain ⟨rfl, rfl, rfl, rfl⟩ := h
          exact z_s_ald5 C hM hif hc k
        · cases h
      · cases h
    · cases h
  | iastore =>
    simp only [z_stp] at h
    split at h
    · split at h
      · rename_i hM
        split at h
        · rename_i hif
          simp only [Option.some.injEq, Sum.inl.injEq, Prod.mk.injEq] at h
          obtain ⟨rfl, rfl, rfl, rfl⟩ := h
          exact z_s_iast C hM hif hc k
        · cases h
      · cases h
    · cases h
  | bastore =>
    simp only [z_stp] at h
    split at h
    · split at h
      · rename_i hM
        split at h
        · rename_i hif
          simp only [Option.some.injEq, Sum.inl.injEq, Prod.mk.injEq] at h
          obtain ⟨rfl, rfl, rfl, rfl⟩ := h
          exact z_s_bast C hM hif hc k
        · cases h
      · rename_i hM
        split at h
        · rename_i hif
          simp only [Option.some.injEq, Sum.inl.injEq, Prod.mk.injEq] at h
          obtain ⟨rfl, rfl, rfl, rfl⟩ := h
          exact z_s_zast C hM hif hc k
        · cases h
      · cases h
    · cases h
  | lastore =>
    simp only [z_stp] at h
    split at h
    · split at h
      · rename_i hM
        split at h
        · rename_i hif
          simp only [Option.some.injEq, Sum.inl.injEq, Prod.mk.injEq] at h
          obtain ⟨rfl, rfl, rfl, rfl⟩ := h
          exact z_s_last C hM hif hc k
        · cases h
      · cases h
    · cases h
  | aastore =>
    simp only [z_stp] at h
    split at h
    · split at h
      · rename_i hM hX
        split at h
        · rename_i hif
          simp only [Option.some.injEq, Sum.inl.injEq, Prod.mk.injEq] at h
          obtain ⟨rfl, rfl, rfl, rfl⟩ := h
          exact z_s_ast4 C hM hX hif hc k
        · cases h
      · rename_i hM hX
        split at h
        · rename_i hif
          simp only [Option.some.injEq, Sum.inl.injEq, Prod.mk.injEq] at h
          obtain ⟨rfl, rfl, rfl, rfl⟩ := h
          exact z_s_ast5 C hM hX hif hc k
        · cases h
      · cases h
    · cases h
  | arraylength =>
    simp only [z_stp] at h
    split at h
    · split at h
      · rename_i ha
        subst ha
        simp only [Option.some.injEq, Sum.inl.injEq, Prod.mk.injEq] at h
        obtain ⟨rfl, rfl, rfl, rfl⟩ := h
        exact z_s_slen C hc k
      · split at h
        · rename_i hM
          simp only [Option.some.injEq, Sum.inl.injEq, Prod.mk.injEq] at h
          obtain ⟨rfl, rfl, rfl, rfl⟩ := h
          exact z_s_len0 C hM hc k
        · rename_i hM
          simp only [Option.some.injEq, Sum.inl.injEq, Prod.mk.injEq] at h
          obtain ⟨rfl, rfl, rfl, rfl⟩ := h
          exact z_s_len3 C hM hc k
        · cases h
    · cases h
  | newarray t =>
    simp only [z_stp] at h
    split at h
    · split at h
      · cases h
      · rename_i hif
        simp only [Bool.or_eq_true, decide_eq_true_eq, not_or, Nat.not_lt, Nat.not_le] at hif
        obtain ⟨⟨hn0, hn5⟩, h9⟩ := hif
        split at h
        · simp only [Option.some.injEq, Sum.inl.injEq, Prod.mk.injEq] at h
          obtain ⟨rfl, rfl, rfl, rfl⟩ := h
          rw [List.length_append] at hrc
          rw [z_sz_app] at hrs
          exact z_s_newI C hn0 hn5 h0 hz0 h9 hrc hrs hc k
        · simp only [Option.some.injEq, Sum.inl.injEq, Prod.mk.injEq] at h
          obtain ⟨rfl, rfl, rfl, rfl⟩ := h
          rw [List.length_append] at hrc
          rw [z_sz_app] at hrs
          exact z_s_newB C hn0 hn5 h0 hz0 h9 hrc hrs hc k
        · simp only [Option.some.injEq, Sum.inl.injEq, Prod.mk.injEq] at h
          obtain ⟨rfl, rfl, rfl, rfl⟩ := h
          rw [List.length_append] at hrc
          rw [z_sz_app] at hrs
          exact z_s_newZ C hn0 hn5 h0 hz0 h9 hrc hrs hc k
        · simp only [Option.some.injEq, Sum.inl.injEq, Prod.mk.injEq] at h
          obtain ⟨rfl, rfl, rfl, rfl⟩ := h
          rw [List.length_append] at hrc
          rw [z_sz_app] at hrs
          exact z_s_newJ C hn0 hn5 h0 hz0 h9 hrc hrs hc k
        · cases h
    · cases h
  | anewarray t =>
    simp only [z_stp] at h
    split at h
    · split at h
      · cases h
      · rename_i hif
        simp only [Bool.or_eq_true, decide_eq_true_eq, not_or, Nat.not_lt, Nat.not_le] at hif
        obtain ⟨⟨hn0, hn5⟩, h9⟩ := hif
        split at h
        · simp only [Option.some.injEq, Sum.inl.injEq, Prod.mk.injEq] at h
          obtain ⟨rfl, rfl, rfl, rfl⟩ := h
          rw [List.length_append] at hrc
          rw [z_sz_app] at hrs
          exact z_s_new4 C hn0 hn5 h0 hz0 h9 hrc hrs hc k
        · simp only [Option.some.injEq, Sum.inl.injEq, Prod.mk.injEq] at h
          obtain ⟨rfl, rfl, rfl, rfl⟩ := h
          rw [List.length_append] at hrc
          rw [z_sz_app] at hrs
          exact z_s_new5 C hn0 hn5 h0 hz0 h9 hrc hrs hc k
        · cases h
    · cases h
  | new ci =>
    simp only [z_stp] at h
    split at h
    · rename_i hif
      simp only [Option.some.injEq, Sum.inl.injEq, Prod.mk.injEq] at h
      obtain ⟨rfl, rfl, rfl, rfl⟩ := h
      rw [List.length_append] at hrc
      rw [z_sz_app] at hrs
      exact z_s_new C hif.1 h0 hz0 hif.2 hrc hrs hc k
    · cases h
  | monitorenter =>
    simp only [z_stp] at h
    split at h
    · split at h
      · rename_i hif
        simp only [Option.some.injEq, Sum.inl.injEq, Prod.mk.injEq] at h
        obtain ⟨rfl, rfl, rfl, rfl⟩ := h
        exact z_s_obj C hif hc k
      · cases h
    · cases h
  | athrow =>
    simp only [z_stp] at h
    split at h
    · split at h
      · rename_i hM hM2
        split at h
        · cases h
        · rename_i hif
          simp only [not_or, Nat.not_lt, Bool.not_eq_false] at hif
          simp only [Option.some.injEq, Sum.inl.injEq, Prod.mk.injEq] at h
          obtain ⟨rfl, rfl, rfl, rfl⟩ := h
          exact z_s_copy C hM hM2 hif.1 hif.2.1 hif.2.2.1 hif.2.2.2.1 hif.2.2.2.2.1 hif.2.2.2.2.2 hc k
      · cases h
    · cases h
  | dadd =>
    simp only [z_stp] at h
    split at h
    · split at h
      · rename_i hif
        simp only [Option.some.injEq, Sum.inl.injEq, Prod.mk.injEq] at h
        obtain ⟨rfl, rfl, rfl, rfl⟩ := h
        exact z_s_max C hif hrc hrs hc k
      · cases h
    · cases h
  | dsub =>
    simp only [z_stp] at h
    split at h
    · split at h
      · rename_i hif
        simp only [Option.some.injEq, Sum.inl.injEq, Prod.mk.injEq] at h
        obtain ⟨rfl, rfl, rfl, rfl⟩ := h
        exact z_s_min C hif hrc hrs hc k
      · cases h
    · cases h
  | saload =>
    simp only [z_stp] at h
    split at h
    · split at h
      · rename_i hif
        simp only [Option.some.injEq, Sum.inl.injEq, Prod.mk.injEq] at h
        obtain ⟨rfl, rfl, rfl, rfl⟩ := h
        exact hL C hc hif.1 hif.2.1 hif.2.2 hrc hrs k
      · cases h
    · cases h
  | sastore =>
    simp only [z_stp] at h
    split at h
    · split at h
      · rename_i hif
        simp only [Option.some.injEq, Sum.inl.injEq, Prod.mk.injEq] at h
        obtain ⟨rfl, rfl, rfl, rfl⟩ := h
        exact hCh C hc hif.1 hif.2.1 hif.2.2.1 hif.2.2.2 hrc hrs k
      · cases h
    · cases h
  | ireturn =>
    simp only [z_stp] at h
    split at h
    · split at h
      · cases h
      · cases h
    · cases h
  | lreturn =>
    simp only [z_stp] at h
    split at h
    · split at h
      · cases h
      · cases h
    · cases h
  | areturn =>
    simp only [z_stp] at h
    split at h
    · split at h
      · cases h
      · cases h
    · split at h
      · cases h
      · cases h
    · cases h
  | return_ =>
    simp only [z_stp] at h
    split at h
    · cases h
    · cases h
  | invokestatic q =>
    simp only [z_stp] at h
    split at h
    · cases h
    · cases h
  | invokevirtual q =>
    simp only [z_stp] at h
    split at h
    · split at h
      · split at h
        · cases h
        · cases h
      · cases h
    · cases h
  | invokespecial q =>
    simp only [z_stp] at h
    split at h
    · split at h
      · cases h
      · cases h
    · cases h
  | _ => simp [z_stp] at h
end ZST
