/-! the resolved code says what the bytes and the tables say -/
def z_w (w : Cond) : Bool := lw_tbl.contains w && goodWord w
def z_strs : List (Nat × Nat) := [(48, 0), (80, 1), (85, 2)]
def z_cnd (c : Nat) : ClassFile.Cond := match c with
  | 0 => .eq
  | 1 => .ne
  | 2 => .lt
  | 3 => .ge
  | 4 => .gt
  | _ => .le
def z_dq (bs : ByteArray) (pc nx : Nat) (i : Instr) (len : Nat) : Bool := decide (decode bs pc = .ok (i, len)) && decide (nx = pc + len)
def z_fl (own : String) (idx k : Nat) : Bool := decide (k / 32 < 7) && decide (k % 32 < (z_cls (k / 32)).2.2) && z_w (.fieldLink own idx ((z_cls (k / 32)).2.1 (k % 32)).1 ((z_cls (k / 32)).2.1 (k % 32)).2.1 ((z_cls (k / 32)).2.1 (k % 32)).2.2.1)
def z_par (y : MethodName) (n : Nat) : Bool := decide ((parseMethodDescriptor y.desc).map (fun d => d.parameters.length) = some n)
/-- what every method's row of the table says -/
def z_mok (k : Nat) : Bool := decide (k < 168) && z_w (.initialized (z_mt k).1.cls) && decide ((z_mt k).1.cls ≠ "java/lang/invoke/MethodHandle") && decide ((z_mt k).1.cls ≠ "java/lang/invoke/VarHandle") && z_par (z_mt k).1 (z_mt k).2.2.2.2.1 && plainName (z_mt k).1.cls && decide ((z_mt k).2.2.1 ≤ 30)
def z_rel (bs : ByteArray) (own : String) (pc nx : Nat) (j : Instr) : Bool :=
  match j with
  | .iconst n => z_dq bs pc nx (.iconst n) 1 || (match decode bs pc with
    | .ok (.bipush k, 2) => decide (nx = pc + 2) && decide ((Int8.ofInt k).toInt32 = Int32.ofInt n)
    | .ok (.sipush k, 3) => decide (nx = pc + 3) && decide ((Int16.ofInt k).toInt32 = Int32.ofInt n)
    | .ok (.ldc k, 2) => decide (nx = pc + 2) && z_w (.constant own k (Int32.ofInt n))
    | .ok (.ldc_w k, 3) => decide (nx = pc + 3) && z_w (.constant own k (Int32.ofInt n))
    | _ => false)
  | .goto_w n => (match decode bs pc with
    | .ok (.lconst k, 1) => decide (nx = pc + 1) && decide (Int64.ofNat (k : Nat) = Int64.ofInt n)
    | .ok (.ldc2_w k, 3) => decide (nx = pc + 3) && z_w (.constantLong own k (Int64.ofInt n))
    | _ => false)
  | .ldc k => (match decode bs pc with
    | .ok (.ldc q, 2) => decide (nx = pc + 2) && decide (own = RX1) && decide ((q, k) ∈ z_strs)
    | _ => false)
  | .iload k => z_dq bs pc nx (.iload k) 2 || (decide (k < 4) && z_dq bs pc nx (.iload_n (Fin.ofNat 4 k)) 1)
  | .lload k => z_dq bs pc nx (.lload k) 2 || (decide (k < 4) && z_dq bs pc nx (.lload_n (Fin.ofNat 4 k)) 1)
  | .aload k => z_dq bs pc nx (.aload k) 2 || (decide (k < 4) && z_dq bs pc nx (.aload_n (Fin.ofNat 4 k)) 1)
  | .istore k => z_dq bs pc nx (.istore k) 2 || (decide (k < 4) && z_dq bs pc nx (.istore_n (Fin.ofNat 4 k)) 1)
  | .lstore k => z_dq bs pc nx (.lstore k) 2 || (decide (k < 4) && z_dq bs pc nx (.lstore_n (Fin.ofNat 4 k)) 1)
  | .astore k => z_dq bs pc nx (.astore k) 2 || (decide (k < 4) && z_dq bs pc nx (.astore_n (Fin.ofNat 4 k)) 1)
  | .iinc k n => z_dq bs pc nx (.iinc k n) 3
  | .ret t => z_dq bs pc nx (.goto ((t : Int) - (pc : Int))) 3
  | .invokeinterface c t => decide (c < 6) && z_dq bs pc nx (.if_icmp (z_cnd c) ((t : Int) - (pc : Int))) 3
  | .multianewarray c t => decide (c < 6) && z_dq bs pc nx (.ifCond (z_cnd c) ((t : Int) - (pc : Int))) 3
  | .dload t => z_dq bs pc nx (.ifnull ((t : Int) - (pc : Int))) 3
  | .dstore t => z_dq bs pc nx (.ifnonnull ((t : Int) - (pc : Int))) 3
  | .tableswitch d lo hi offs => decide (0 ≤ d) && offs.all (fun o => decide (0 ≤ o)) && (match decode bs pc with
    | .ok (.tableswitch d' lo' hi' offs', _) => decide (lo = lo') && decide (hi = hi') && decide (d' + (pc : Int) = d) && decide (offs'.map (fun o => o + (pc : Int)) = offs)
    | _ => false)
  | .lookupswitch d ps => decide (0 ≤ d) && ps.all (fun o => decide (0 ≤ o.2)) && (match decode bs pc with
    | .ok (.lookupswitch d' ps', _) => (ps'.toList.zip (ps'.toList.drop 1)).all (fun (a, next) => a.1 < next.1) && decide (d' + (pc : Int) = d) && decide (ps'.toList.map (fun o => (o.1, o.2 + (pc : Int))) = ps.toList)
    | _ => false)
  | .getfield k => (match decode bs pc with
    | .ok (.getfield q, 3) => decide (nx = pc + 3) && z_fl own q k
    | _ => false)
  | .putfield k => (match decode bs pc with
    | .ok (.putfield q, 3) => decide (nx = pc + 3) && z_fl own q k && decide (parseFieldDescriptor ((z_cls (k / 32)).2.1 (k % 32)).2.2.1 = some (z_fty (k / 32) (k % 32))) && (!z_fin (k / 32) (k % 32) || decide (((z_cls (k / 32)).2.1 (k % 32)).1 = own))
    | _ => false)
  | .new ci => (match decode bs pc with
    | .ok (.new q, 3) => decide (nx = pc + 3) && z_w (.classLink own q (z_cls ci).1) && z_w (.instantiable (z_cls ci).1 (z_cls ci).2.2) && z_w (.initialized (z_cls ci).1)
    | _ => false)
  | .anewarray t => (match decode bs pc with
    | .ok (.anewarray q, 3) => decide (nx = pc + 3) && ((decide (t = 4) && z_w (.classLink own q RX0)) || (decide (t = 5) && z_w (.classLink own q RX2)))
    | _ => false)
  | .newarray t => z_dq bs pc nx (.newarray t) 2 && (decide (t = .int) || decide (t = .byte) || decide (t = .boolean) || decide (t = .long)) && z_w (.arrayClass (newarray.typeOf t))
  | .monitorenter => (match decode bs pc with
    | .ok (.invokespecial q, 3) => decide (nx = pc + 3) && z_w (.methodLink own q objectInit) && z_w (.instanceMethod objectInit) && z_w (.code objectInit ⟨#[0xb1]⟩ 1 none)
    | _ => false)
  | .athrow => (match decode bs pc with
    | .ok (.invokestatic q, 3) => decide (nx = pc + 3) && z_w (.methodLink own q arraycopyName) && z_w (.native arraycopyName) && z_w (.static arraycopyName) && z_w (.initialized "java/lang/System")
    | _ => false)
  | .dadd => (match decode bs pc with
    | .ok (.invokestatic q, 3) => decide (nx = pc + 3) && z_w (.methodLink own q Lib.Math.max.name) && z_w (.static Lib.Math.max.name) && z_w (.initialized "java/lang/Math")
    | _ => false)
  | .dsub => (match decode bs pc with
    | .ok (.invokestatic q, 3) => decide (nx = pc + 3) && z_w (.methodLink own q Lib.Math.min.name) && z_w (.static Lib.Math.min.name) && z_w (.initialized "java/lang/Math")
    | _ => false)
  | .saload => (match decode bs pc with
    | .ok (.invokevirtual q, 3) => decide (nx = pc + 3) && z_w (.methodLink own q ⟨"java/lang/String", "length", "()I"⟩)
    | _ => false)
  | .sastore => (match decode bs pc with
    | .ok (.invokevirtual q, 3) => decide (nx = pc + 3) && z_w (.methodLink own q ⟨"java/lang/String", "charAt", "(I)C"⟩)
    | _ => false)
  | .invokestatic k => (match decode bs pc with
    | .ok (.invokestatic q, 3) => decide (nx = pc + 3) && z_mok k && z_w (.methodLink own q (z_mt k).1) && z_w (.static (z_mt k).1)
    | _ => false)
  | .invokevirtual k => (match decode bs pc with
    | .ok (.invokevirtual q, 3) => decide (nx = pc + 3) && z_mok k && z_w (.methodLink own q (z_mt k).1) && z_w (.instanceMethod (z_mt k).1) && z_w (.selects (z_mt k).1.cls (z_mt k).1 (z_mt k).1) && decide ((z_cls (z_mt k).2.2.2.2.2).1 = (z_mt k).1.cls)
    | _ => false)
  | .invokespecial k => (match decode bs pc with
    | .ok (.invokespecial q, 3) => decide (nx = pc + 3) && z_mok k && z_w (.methodLink own q (z_mt k).1) && z_w (.instanceMethod (z_mt k).1)
    | _ => false)
  | .ireturn | .lreturn | .areturn | .return_ | .iadd | .isub | .imul | .iand | .ior | .ixor | .idiv | .irem | .ishl | .ishr | .iushr | .ladd | .land | .lor | .lshl | .lshr | .lushr | .lcmp | .i2l | .l2i | .i2b | .dup | .dup2 | .pop | .aconst_null | .iaload | .baload | .laload | .aaload | .iastore | .bastore | .lastore | .aastore | .arraylength => z_dq bs pc nx j 1
  | _ => false
def z_tab (y : Nat) : List (Nat × Nat × Instr) := (z_prog.getD (y / 16) []).getD (y % 16) []
def z_chl (y : Nat) (l : List (Nat × Nat × Instr)) : Bool := l.all (fun q => z_rel (z_mt y).2.1 (z_mt y).1.cls q.1 q.2.1 q.2.2)
def z_chk (y : Nat) : Bool := z_chl y (z_tab y)
def z_gw : List Cond := lw_tbl.filter goodWord
theorem z_w_of {w : Cond} (h : z_w w = true) : w ∈ z_gw := by
  unfold z_w at h
  simp only [Bool.and_eq_true] at h
  exact List.mem_filter.mpr ⟨List.contains_iff_mem.mp h.1, h.2⟩
theorem z_look_mem {l : List (Nat × Nat × Instr)} {pc : Nat} {q : Nat × Instr} (h : z_look l pc = some q) : (pc, q) ∈ l := by
  induction l with
  | nil => cases h
  | cons x t ih =>
    unfold z_look at h
    split at h
    · rename_i hx
      cases h
      exact List.mem_cons.mpr (Or.inl (by rw [← hx]))
    · exact List.mem_cons.mpr (Or.inr (ih h))
theorem z_rel_of {y pc nx : Nat} {i : Instr} (hk : z_chk y = true) (hc : z_code y pc = some (nx, i)) : z_rel (z_mt y).2.1 (z_mt y).1.cls pc nx i = true := List.all_eq_true.mp hk (pc, nx, i) (z_look_mem hc)
theorem z_dq_of {bs : ByteArray} {pc nx len : Nat} {i : Instr} (h : z_dq bs pc nx i len = true) : decode bs pc = .ok (i, len) ∧ nx = pc + len := by
  unfold z_dq at h
  simp only [Bool.and_eq_true, decide_eq_true_eq] at h
  exact h

theorem z_m1 {w : Cond} (h : w ∈ tables_1_1) : w ∈ lw_tbl := List.mem_append_right _ (List.mem_append_left _ h)
theorem z_m2 {w : Cond} (h : w ∈ tables_1_2) : w ∈ lw_tbl := List.mem_append_right _ (List.mem_append_right _ (List.mem_append_left _ h))
theorem z_m3 {w : Cond} (h : w ∈ tables_1_3) : w ∈ lw_tbl := List.mem_append_right _ (List.mem_append_right _ (List.mem_append_right _ (List.mem_append_left _ h)))
theorem z_m4 {w : Cond} (h : w ∈ tables_1_4) : w ∈ lw_tbl := List.mem_append_right _ (List.mem_append_right _ (List.mem_append_right _ (List.mem_append_right _ (List.mem_append_left _ h))))
theorem z_m5 {w : Cond} (h : w ∈ tables_1_5) : w ∈ lw_tbl := List.mem_append_right _ (List.mem_append_right _ (List.mem_append_right _ (List.mem_append_right _ (List.mem_append_right _ (h)))))
set_option maxRecDepth 100000 in
theorem z_cw_X1_readYard : Cond.code yX1_readYard cX1_readYard 1 (some (.boolean)) ∈ lw_tbl := z_m2 (List.mem_of_getElem? (i := 118) rfl)
set_option maxRecDepth 100000 in
theorem z_cw_X1_readItem : Cond.code yX1_readItem cX1_readItem 2 (some (.boolean)) ∈ lw_tbl := z_m2 (List.mem_of_getElem? (i := 61) rfl)
set_option maxRecDepth 100000 in
theorem z_cw_X1_isAtEnd : Cond.code yX1_isAtEnd cX1_isAtEnd 1 (some (.boolean)) ∈ lw_tbl := z_m2 (List.mem_of_getElem? (i := 57) rfl)
set_option maxRecDepth 100000 in
theorem z_cw_X1_begin : Cond.code yX1_begin cX1_begin 1 none ∈ lw_tbl := z_m2 (List.mem_of_getElem? (i := 38) rfl)
set_option maxRecDepth 100000 in
theorem z_cw_X1_append : Cond.code yX1_append cX1_append 2 none ∈ lw_tbl := z_m2 (List.mem_of_getElem? (i := 26) rfl)
set_option maxRecDepth 100000 in
theorem z_cw_X1_init : Cond.code yX1_init cX1_init 1 none ∈ lw_tbl := z_m1 (List.mem_of_getElem? (i := 113) rfl)
set_option maxRecDepth 100000 in
theorem z_cw_X0_joins : Cond.code yX0_joins cX0_joins 3 (some (.boolean)) ∈ lw_tbl := z_m3 (List.mem_of_getElem? (i := 16) rfl)
set_option maxRecDepth 100000 in
theorem z_cw_X0_straightAt : Cond.code yX0_straightAt cX0_straightAt 3 (some (.int)) ∈ lw_tbl := z_m3 (List.mem_of_getElem? (i := 8) rfl)
set_option maxRecDepth 100000 in
theorem z_cw_X0_longestRun : Cond.code yX0_longestRun cX0_longestRun 3 (some (.int)) ∈ lw_tbl := z_m2 (List.mem_of_getElem? (i := 227) rfl)
set_option maxRecDepth 100000 in
theorem z_cw_X0_firstRun : Cond.code yX0_firstRun cX0_firstRun 2 (some (.int)) ∈ lw_tbl := z_m3 (List.mem_of_getElem? (i := 20) rfl)
set_option maxRecDepth 100000 in
theorem z_cw_X0_runUpTo : Cond.code yX0_runUpTo cX0_runUpTo 4 (some (.int)) ∈ lw_tbl := z_m2 (List.mem_of_getElem? (i := 231) rfl)
set_option maxRecDepth 100000 in
theorem z_cw_X0_takeFigures : Cond.code yX0_takeFigures cX0_takeFigures 4 (some (.boolean)) ∈ lw_tbl := z_m3 (List.mem_of_getElem? (i := 182) rfl)
set_option maxRecDepth 100000 in
theorem z_cw_X0_stepAt : Cond.code yX0_stepAt cX0_stepAt 2 (some (.int)) ∈ lw_tbl := z_m2 (List.mem_of_getElem? (i := 175) rfl)
set_option maxRecDepth 100000 in
theorem z_cw_X0_addStep : Cond.code yX0_addStep cX0_addStep 2 (some (.boolean)) ∈ lw_tbl := z_m2 (List.mem_of_getElem? (i := 166) rfl)
set_option maxRecDepth 100000 in
theorem z_cw_X0_copyFrom : Cond.code yX0_copyFrom cX0_copyFrom 2 none ∈ lw_tbl := z_m2 (List.mem_of_getElem? (i := 191) rfl)
set_option maxRecDepth 100000 in
theorem z_cw_X0_init : Cond.code yX0_init cX0_init 1 none ∈ lw_tbl := z_m1 (List.mem_of_getElem? (i := 35) rfl)
theorem z_cwc0 : ∀ q ∈ z_mt0, Cond.code q.1 q.2.1 q.2.2.1 q.2.2.2.1 ∈ lw_tbl := List.forall_mem_cons.mpr ⟨z_cw_X0_init, List.forall_mem_cons.mpr ⟨z_cw_X0_copyFrom, List.forall_mem_cons.mpr ⟨z_cw_X0_addStep, List.forall_mem_cons.mpr ⟨z_cw_X0_stepAt, List.forall_mem_cons.mpr ⟨z_cw_X0_takeFigures, List.forall_mem_cons.mpr ⟨z_cw_X0_runUpTo, List.forall_mem_cons.mpr ⟨z_cw_X0_firstRun, List.forall_mem_cons.mpr ⟨z_cw_X0_longestRun, List.forall_mem_cons.mpr ⟨z_cw_X0_straightAt, List.forall_mem_cons.mpr ⟨z_cw_X0_joins, List.forall_mem_cons.mpr ⟨z_cw_X1_init, List.forall_mem_cons.mpr ⟨z_cw_X1_append, List.forall_mem_cons.mpr ⟨z_cw_X1_begin, List.forall_mem_cons.mpr ⟨z_cw_X1_isAtEnd, List.forall_mem_cons.mpr ⟨z_cw_X1_readItem, List.forall_mem_cons.mpr ⟨z_cw_X1_readYard, fun _ h => absurd h List.not_mem_nil⟩⟩⟩⟩⟩⟩⟩⟩⟩⟩⟩⟩⟩⟩⟩⟩
set_option maxRecDepth 100000 in
theorem z_cw_X2_beginAnew : Cond.code yX2_beginAnew cX2_beginAnew 1 none ∈ lw_tbl := z_m1 (List.mem_of_getElem? (i := 69) rfl)
set_option maxRecDepth 100000 in
theorem z_cw_X2_init : Cond.code yX2_init cX2_init 2 none ∈ lw_tbl := z_m1 (List.mem_of_getElem? (i := 28) rfl)
set_option maxRecDepth 100000 in
theorem z_cw_X1_isFigure : Cond.code yX1_isFigure cX1_isFigure 1 (some (.boolean)) ∈ lw_tbl := z_m2 (List.mem_of_getElem? (i := 53) rfl)
set_option maxRecDepth 100000 in
theorem z_cw_X1_isLetter : Cond.code yX1_isLetter cX1_isLetter 1 (some (.boolean)) ∈ lw_tbl := z_m2 (List.mem_of_getElem? (i := 50) rfl)
set_option maxRecDepth 100000 in
theorem z_cw_X1_byteAt : Cond.code yX1_byteAt cX1_byteAt 2 (some (.int)) ∈ lw_tbl := z_m2 (List.mem_of_getElem? (i := 47) rfl)
set_option maxRecDepth 100000 in
theorem z_cw_X1_takeNumber : Cond.code yX1_takeNumber cX1_takeNumber 2 (some (.boolean)) ∈ lw_tbl := z_m2 (List.mem_of_getElem? (i := 126) rfl)
set_option maxRecDepth 100000 in
theorem z_cw_X1_nextToken : Cond.code yX1_nextToken cX1_nextToken 2 none ∈ lw_tbl := z_m2 (List.mem_of_getElem? (i := 43) rfl)
set_option maxRecDepth 100000 in
theorem z_cw_X1_isWord : Cond.code yX1_isWord cX1_isWord 3 (some (.boolean)) ∈ lw_tbl := z_m2 (List.mem_of_getElem? (i := 66) rfl)
set_option maxRecDepth 100000 in
theorem z_cw_X1_nextSemicolon : Cond.code yX1_nextSemicolon cX1_nextSemicolon 1 (some (.boolean)) ∈ lw_tbl := z_m2 (List.mem_of_getElem? (i := 133) rfl)
set_option maxRecDepth 100000 in
theorem z_cw_X1_nextNumber : Cond.code yX1_nextNumber cX1_nextNumber 3 (some (.boolean)) ∈ lw_tbl := z_m2 (List.mem_of_getElem? (i := 122) rfl)
set_option maxRecDepth 100000 in
theorem z_cw_X1_nextCell : Cond.code yX1_nextCell cX1_nextCell 2 (some (.int)) ∈ lw_tbl := z_m2 (List.mem_of_getElem? (i := 143) rfl)
set_option maxRecDepth 100000 in
theorem z_cw_X1_directionOf : Cond.code yX1_directionOf cX1_directionOf 1 (some (.int)) ∈ lw_tbl := z_m2 (List.mem_of_getElem? (i := 162) rfl)
set_option maxRecDepth 100000 in
theorem z_cw_X1_takeSteps : Cond.code yX1_takeSteps cX1_takeSteps 2 (some (.boolean)) ∈ lw_tbl := z_m2 (List.mem_of_getElem? (i := 159) rfl)
set_option maxRecDepth 100000 in
theorem z_cw_X1_endChain : Cond.code yX1_endChain cX1_endChain 2 (some (.boolean)) ∈ lw_tbl := z_m2 (List.mem_of_getElem? (i := 151) rfl)
set_option maxRecDepth 100000 in
theorem z_cw_X1_endHouse : Cond.code yX1_endHouse cX1_endHouse 2 (some (.boolean)) ∈ lw_tbl := z_m2 (List.mem_of_getElem? (i := 147) rfl)
set_option maxRecDepth 100000 in
theorem z_cw_X1_readOnCell : Cond.code yX1_readOnCell cX1_readOnCell 4 (some (.boolean)) ∈ lw_tbl := z_m2 (List.mem_of_getElem? (i := 137) rfl)
theorem z_cwc1 : ∀ q ∈ z_mt1, Cond.code q.1 q.2.1 q.2.2.1 q.2.2.2.1 ∈ lw_tbl := List.forall_mem_cons.mpr ⟨z_cw_X1_readOnCell, List.forall_mem_cons.mpr ⟨z_cw_X1_endHouse, List.forall_mem_cons.mpr ⟨z_cw_X1_endChain, List.forall_mem_cons.mpr ⟨z_cw_X1_takeSteps, List.forall_mem_cons.mpr ⟨z_cw_X1_directionOf, List.forall_mem_cons.mpr ⟨z_cw_X1_nextCell, List.forall_mem_cons.mpr ⟨z_cw_X1_nextNumber, List.forall_mem_cons.mpr ⟨z_cw_X1_nextSemicolon, List.forall_mem_cons.mpr ⟨z_cw_X1_isWord, List.forall_mem_cons.mpr ⟨z_cw_X1_nextToken, List.forall_mem_cons.mpr ⟨z_cw_X1_takeNumber, List.forall_mem_cons.mpr ⟨z_cw_X1_byteAt, List.forall_mem_cons.mpr ⟨z_cw_X1_isLetter, List.forall_mem_cons.mpr ⟨z_cw_X1_isFigure, List.forall_mem_cons.mpr ⟨z_cw_X2_init, List.forall_mem_cons.mpr ⟨z_cw_X2_beginAnew, fun _ h => absurd h List.not_mem_nil⟩⟩⟩⟩⟩⟩⟩⟩⟩⟩⟩⟩⟩⟩⟩⟩
set_option maxRecDepth 100000 in
theorem z_cw_X3_shortest : Cond.code yX3_shortest cX3_shortest 11 (some (.int)) ∈ lw_tbl := z_m3 (List.mem_of_getElem? (i := 29) rfl)
set_option maxRecDepth 100000 in
theorem z_cw_X3_init : Cond.code yX3_init cX3_init 1 none ∈ lw_tbl := z_m1 (List.mem_of_getElem? (i := 156) rfl)
set_option maxRecDepth 100000 in
theorem z_cw_X2_addChain : Cond.code yX2_addChain cX2_addChain 2 (some (.boolean)) ∈ lw_tbl := z_m2 (List.mem_of_getElem? (i := 187) rfl)
set_option maxRecDepth 100000 in
theorem z_cw_X2_joinsAny : Cond.code yX2_joinsAny cX2_joinsAny 3 (some (.boolean)) ∈ lw_tbl := z_m3 (List.mem_of_getElem? (i := 190) rfl)
set_option maxRecDepth 100000 in
theorem z_cw_X2_walkOver : Cond.code yX2_walkOver cX2_walkOver 5 (some (.boolean)) ∈ lw_tbl := z_m2 (List.mem_of_getElem? (i := 170) rfl)
set_option maxRecDepth 100000 in
theorem z_cw_X2_beside : Cond.code yX2_beside cX2_beside 5 (some (.int)) ∈ lw_tbl := z_m2 (List.mem_of_getElem? (i := 179) rfl)
set_option maxRecDepth 100000 in
theorem z_cw_X2_chainAt : Cond.code yX2_chainAt cX2_chainAt 2 (some (.object "BentYards$Chain")) ∈ lw_tbl := z_m2 (List.mem_of_getElem? (i := 223) rfl)
set_option maxRecDepth 100000 in
theorem z_cw_X2_houseCount : Cond.code yX2_houseCount cX2_houseCount 1 (some (.int)) ∈ lw_tbl := z_m3 (List.mem_of_getElem? (i := 164) rfl)
set_option maxRecDepth 100000 in
theorem z_cw_X2_openCells : Cond.code yX2_openCells cX2_openCells 1 (some (.int)) ∈ lw_tbl := z_m3 (List.mem_of_getElem? (i := 101) rfl)
set_option maxRecDepth 100000 in
theorem z_cw_X2_trodden : Cond.code yX2_trodden cX2_trodden 3 (some (.int)) ∈ lw_tbl := z_m2 (List.mem_of_getElem? (i := 215) rfl)
set_option maxRecDepth 100000 in
theorem z_cw_X2_isOpen : Cond.code yX2_isOpen cX2_isOpen 2 (some (.boolean)) ∈ lw_tbl := z_m3 (List.mem_of_getElem? (i := 159) rfl)
set_option maxRecDepth 100000 in
theorem z_cw_X2_isTrodden : Cond.code yX2_isTrodden cX2_isTrodden 2 (some (.boolean)) ∈ lw_tbl := z_m2 (List.mem_of_getElem? (i := 211) rfl)
set_option maxRecDepth 100000 in
theorem z_cw_X2_isFree : Cond.code yX2_isFree cX2_isFree 2 (some (.boolean)) ∈ lw_tbl := z_m2 (List.mem_of_getElem? (i := 155) rfl)
set_option maxRecDepth 100000 in
theorem z_cw_X2_isHouse : Cond.code yX2_isHouse cX2_isHouse 2 (some (.boolean)) ∈ lw_tbl := z_m2 (List.mem_of_getElem? (i := 207) rfl)
set_option maxRecDepth 100000 in
theorem z_cw_X2_has : Cond.code yX2_has cX2_has 2 (some (.boolean)) ∈ lw_tbl := z_m2 (List.mem_of_getElem? (i := 183) rfl)
set_option maxRecDepth 100000 in
theorem z_cw_X2_copyFrom : Cond.code yX2_copyFrom cX2_copyFrom 3 none ∈ lw_tbl := z_m2 (List.mem_of_getElem? (i := 198) rfl)
theorem z_cwc2 : ∀ q ∈ z_mt2, Cond.code q.1 q.2.1 q.2.2.1 q.2.2.2.1 ∈ lw_tbl := List.forall_mem_cons.mpr ⟨z_cw_X2_copyFrom, List.forall_mem_cons.mpr ⟨z_cw_X2_has, List.forall_mem_cons.mpr ⟨z_cw_X2_isHouse, List.forall_mem_cons.mpr ⟨z_cw_X2_isFree, List.forall_mem_cons.mpr ⟨z_cw_X2_isTrodden, List.forall_mem_cons.mpr ⟨z_cw_X2_isOpen, List.forall_mem_cons.mpr ⟨z_cw_X2_trodden, List.forall_mem_cons.mpr ⟨z_cw_X2_openCells, List.forall_mem_cons.mpr ⟨z_cw_X2_houseCount, List.forall_mem_cons.mpr ⟨z_cw_X2_chainAt, List.forall_mem_cons.mpr ⟨z_cw_X2_beside, List.forall_mem_cons.mpr ⟨z_cw_X2_walkOver, List.forall_mem_cons.mpr ⟨z_cw_X2_joinsAny, List.forall_mem_cons.mpr ⟨z_cw_X2_addChain, List.forall_mem_cons.mpr ⟨z_cw_X3_init, List.forall_mem_cons.mpr ⟨z_cw_X3_shortest, fun _ h => absurd h List.not_mem_nil⟩⟩⟩⟩⟩⟩⟩⟩⟩⟩⟩⟩⟩⟩⟩⟩
set_option maxRecDepth 100000 in
theorem z_cw_X4_longest : Cond.code yX4_longest cX4_longest 3 (some (.int)) ∈ lw_tbl := z_m3 (List.mem_of_getElem? (i := 118) rfl)
set_option maxRecDepth 100000 in
theorem z_cw_X4_harmOfAll : Cond.code yX4_harmOfAll cX4_harmOfAll 3 (some (.int)) ∈ lw_tbl := z_m3 (List.mem_of_getElem? (i := 109) rfl)
set_option maxRecDepth 100000 in
theorem z_cw_X4_harmOf : Cond.code yX4_harmOf cX4_harmOf 2 (some (.int)) ∈ lw_tbl := z_m3 (List.mem_of_getElem? (i := 113) rfl)
set_option maxRecDepth 100000 in
theorem z_cw_X4_lookAlong : Cond.code yX4_lookAlong cX4_lookAlong 8 none ∈ lw_tbl := z_m3 (List.mem_of_getElem? (i := 105) rfl)
set_option maxRecDepth 100000 in
theorem z_cw_X4_look : Cond.code yX4_look cX4_look 3 none ∈ lw_tbl := z_m3 (List.mem_of_getElem? (i := 97) rfl)
set_option maxRecDepth 100000 in
theorem z_cw_X4_init : Cond.code yX4_init cX4_init 1 none ∈ lw_tbl := z_m1 (List.mem_of_getElem? (i := 192) rfl)
set_option maxRecDepth 100000 in
theorem z_cw_X3_after : Cond.code yX3_after cX3_after 7 (some (.int)) ∈ lw_tbl := z_m3 (List.mem_of_getElem? (i := 45) rfl)
set_option maxRecDepth 100000 in
theorem z_cw_X3_startOn : Cond.code yX3_startOn cX3_startOn 1 (some (.int)) ∈ lw_tbl := z_m3 (List.mem_of_getElem? (i := 41) rfl)
set_option maxRecDepth 100000 in
theorem z_cw_X3_lookAt : Cond.code yX3_lookAt cX3_lookAt 5 none ∈ lw_tbl := z_m3 (List.mem_of_getElem? (i := 33) rfl)
set_option maxRecDepth 100000 in
theorem z_cw_X3_differsBy : Cond.code yX3_differsBy cX3_differsBy 6 (some (.int)) ∈ lw_tbl := z_m3 (List.mem_of_getElem? (i := 84) rfl)
set_option maxRecDepth 100000 in
theorem z_cw_X3_fillMended : Cond.code yX3_fillMended cX3_fillMended 6 none ∈ lw_tbl := z_m3 (List.mem_of_getElem? (i := 89) rfl)
set_option maxRecDepth 100000 in
theorem z_cw_X3_fewestFrom : Cond.code yX3_fewestFrom cX3_fewestFrom 6 (some (.int)) ∈ lw_tbl := z_m3 (List.mem_of_getElem? (i := 80) rfl)
set_option maxRecDepth 100000 in
theorem z_cw_X3_mended : Cond.code yX3_mended cX3_mended 6 (some (.int)) ∈ lw_tbl := z_m3 (List.mem_of_getElem? (i := 76) rfl)
set_option maxRecDepth 100000 in
theorem z_cw_X3_goOneStep : Cond.code yX3_goOneStep cX3_goOneStep 6 none ∈ lw_tbl := z_m3 (List.mem_of_getElem? (i := 68) rfl)
set_option maxRecDepth 100000 in
theorem z_cw_X3_howMany : Cond.code yX3_howMany cX3_howMany 10 (some (.long)) ∈ lw_tbl := z_m3 (List.mem_of_getElem? (i := 61) rfl)
set_option maxRecDepth 100000 in
theorem z_cw_X3_fillRow : Cond.code yX3_fillRow cX3_fillRow 5 none ∈ lw_tbl := z_m3 (List.mem_of_getElem? (i := 49) rfl)
theorem z_cwc3 : ∀ q ∈ z_mt3, Cond.code q.1 q.2.1 q.2.2.1 q.2.2.2.1 ∈ lw_tbl := List.forall_mem_cons.mpr ⟨z_cw_X3_fillRow, List.forall_mem_cons.mpr ⟨z_cw_X3_howMany, List.forall_mem_cons.mpr ⟨z_cw_X3_goOneStep, List.forall_mem_cons.mpr ⟨z_cw_X3_mended, List.forall_mem_cons.mpr ⟨z_cw_X3_fewestFrom, List.forall_mem_cons.mpr ⟨z_cw_X3_fillMended, List.forall_mem_cons.mpr ⟨z_cw_X3_differsBy, List.forall_mem_cons.mpr ⟨z_cw_X3_lookAt, List.forall_mem_cons.mpr ⟨z_cw_X3_startOn, List.forall_mem_cons.mpr ⟨z_cw_X3_after, List.forall_mem_cons.mpr ⟨z_cw_X4_init, List.forall_mem_cons.mpr ⟨z_cw_X4_look, List.forall_mem_cons.mpr ⟨z_cw_X4_lookAlong, List.forall_mem_cons.mpr ⟨z_cw_X4_harmOf, List.forall_mem_cons.mpr ⟨z_cw_X4_harmOfAll, List.forall_mem_cons.mpr ⟨z_cw_X4_longest, fun _ h => absurd h List.not_mem_nil⟩⟩⟩⟩⟩⟩⟩⟩⟩⟩⟩⟩⟩⟩⟩⟩
set_option maxRecDepth 100000 in
theorem z_cw_X5_ways : Cond.code yX5_ways cX5_ways 4 (some (.long)) ∈ lw_tbl := z_m3 (List.mem_of_getElem? (i := 56) rfl)
set_option maxRecDepth 100000 in
theorem z_cw_X5_way : Cond.code yX5_way cX5_way 5 (some (.int)) ∈ lw_tbl := z_m3 (List.mem_of_getElem? (i := 24) rfl)
set_option maxRecDepth 100000 in
theorem z_cw_X5_joint : Cond.code yX5_joint cX5_joint 5 (some (.int)) ∈ lw_tbl := z_m3 (List.mem_of_getElem? (i := 12) rfl)
set_option maxRecDepth 100000 in
theorem z_cw_X5_straight : Cond.code yX5_straight cX5_straight 3 (some (.int)) ∈ lw_tbl := z_m3 (List.mem_of_getElem? (i := 4) rfl)
set_option maxRecDepth 100000 in
theorem z_cw_X5_step : Cond.code yX5_step cX5_step 4 (some (.int)) ∈ lw_tbl := z_m2 (List.mem_of_getElem? (i := 239) rfl)
set_option maxRecDepth 100000 in
theorem z_cw_X5_chain : Cond.code yX5_chain cX5_chain 4 (some (.int)) ∈ lw_tbl := z_m2 (List.mem_of_getElem? (i := 219) rfl)
set_option maxRecDepth 100000 in
theorem z_cw_X5_cell : Cond.code yX5_cell cX5_cell 2 (some (.int)) ∈ lw_tbl := z_m2 (List.mem_of_getElem? (i := 202) rfl)
set_option maxRecDepth 100000 in
theorem z_cw_X5_yard : Cond.code yX5_yard cX5_yard 3 (some (.int)) ∈ lw_tbl := z_m2 (List.mem_of_getElem? (i := 34) rfl)
set_option maxRecDepth 100000 in
theorem z_cw_X5_clear : Cond.code yX5_clear cX5_clear 2 (some (.int)) ∈ lw_tbl := z_m2 (List.mem_of_getElem? (i := 30) rfl)
set_option maxRecDepth 100000 in
theorem z_cw_X5_type : Cond.code yX5_type cX5_type 5 (some (.int)) ∈ lw_tbl := z_m2 (List.mem_of_getElem? (i := 22) rfl)
set_option maxRecDepth 100000 in
theorem z_cw_X5_init : Cond.code yX5_init cX5_init 2 none ∈ lw_tbl := z_m1 (List.mem_of_getElem? (i := 20) rfl)
set_option maxRecDepth 100000 in
theorem z_cw_X4_placeHedges : Cond.code yX4_placeHedges cX4_placeHedges 6 (some (.boolean)) ∈ lw_tbl := z_m3 (List.mem_of_getElem? (i := 137) rfl)
set_option maxRecDepth 100000 in
theorem z_cw_X4_breakAll : Cond.code yX4_breakAll cX4_breakAll 3 (some (.boolean)) ∈ lw_tbl := z_m3 (List.mem_of_getElem? (i := 141) rfl)
set_option maxRecDepth 100000 in
theorem z_cw_X4_cellsOf : Cond.code yX4_cellsOf cX4_cellsOf 5 (some (.int)) ∈ lw_tbl := z_m3 (List.mem_of_getElem? (i := 134) rfl)
set_option maxRecDepth 100000 in
theorem z_cw_X4_findStretches : Cond.code yX4_findStretches cX4_findStretches 4 none ∈ lw_tbl := z_m3 (List.mem_of_getElem? (i := 130) rfl)
set_option maxRecDepth 100000 in
theorem z_cw_X4_fewestHedges : Cond.code yX4_fewestHedges cX4_fewestHedges 2 (some (.int)) ∈ lw_tbl := z_m3 (List.mem_of_getElem? (i := 126) rfl)
theorem z_cwc4 : ∀ q ∈ z_mt4, Cond.code q.1 q.2.1 q.2.2.1 q.2.2.2.1 ∈ lw_tbl := List.forall_mem_cons.mpr ⟨z_cw_X4_fewestHedges, List.forall_mem_cons.mpr ⟨z_cw_X4_findStretches, List.forall_mem_cons.mpr ⟨z_cw_X4_cellsOf, List.forall_mem_cons.mpr ⟨z_cw_X4_breakAll, List.forall_mem_cons.mpr ⟨z_cw_X4_placeHedges, List.forall_mem_cons.mpr ⟨z_cw_X5_init, List.forall_mem_cons.mpr ⟨z_cw_X5_type, List.forall_mem_cons.mpr ⟨z_cw_X5_clear, List.forall_mem_cons.mpr ⟨z_cw_X5_yard, List.forall_mem_cons.mpr ⟨z_cw_X5_cell, List.forall_mem_cons.mpr ⟨z_cw_X5_chain, List.forall_mem_cons.mpr ⟨z_cw_X5_step, List.forall_mem_cons.mpr ⟨z_cw_X5_straight, List.forall_mem_cons.mpr ⟨z_cw_X5_joint, List.forall_mem_cons.mpr ⟨z_cw_X5_way, List.forall_mem_cons.mpr ⟨z_cw_X5_ways, fun _ h => absurd h List.not_mem_nil⟩⟩⟩⟩⟩⟩⟩⟩⟩⟩⟩⟩⟩⟩⟩⟩
set_option maxRecDepth 100000 in
theorem z_cw_X5_markAsWall : Cond.code yX5_markAsWall cX5_markAsWall 2 (some (.int)) ∈ lw_tbl := z_m3 (List.mem_of_getElem? (i := 209) rfl)
set_option maxRecDepth 100000 in
theorem z_cw_X5_markAsChain : Cond.code yX5_markAsChain cX5_markAsChain 2 (some (.int)) ∈ lw_tbl := z_m3 (List.mem_of_getElem? (i := 205) rfl)
set_option maxRecDepth 100000 in
theorem z_cw_X5_trace : Cond.code yX5_trace cX5_trace 1 (some (.long)) ∈ lw_tbl := z_m4 (List.mem_of_getElem? (i := 6) rfl)
set_option maxRecDepth 100000 in
theorem z_cw_X5_count : Cond.code yX5_count cX5_count 2 (some (.int)) ∈ lw_tbl := z_m4 (List.mem_of_getElem? (i := 2) rfl)
set_option maxRecDepth 100000 in
theorem z_cw_X5_back : Cond.code yX5_back cX5_back 2 (some (.int)) ∈ lw_tbl := z_m3 (List.mem_of_getElem? (i := 238) rfl)
set_option maxRecDepth 100000 in
theorem z_cw_X5_keep : Cond.code yX5_keep cX5_keep 2 (some (.int)) ∈ lw_tbl := z_m3 (List.mem_of_getElem? (i := 234) rfl)
set_option maxRecDepth 100000 in
theorem z_cw_X5_mark : Cond.code yX5_mark cX5_mark 4 (some (.int)) ∈ lw_tbl := z_m3 (List.mem_of_getElem? (i := 200) rfl)
set_option maxRecDepth 100000 in
theorem z_cw_X5_close : Cond.code yX5_close cX5_close 1 (some (.int)) ∈ lw_tbl := z_m3 (List.mem_of_getElem? (i := 196) rfl)
set_option maxRecDepth 100000 in
theorem z_cw_X5_street : Cond.code yX5_street cX5_street 3 (some (.int)) ∈ lw_tbl := z_m3 (List.mem_of_getElem? (i := 178) rfl)
set_option maxRecDepth 100000 in
theorem z_cw_X5_raze : Cond.code yX5_raze cX5_raze 2 (some (.int)) ∈ lw_tbl := z_m3 (List.mem_of_getElem? (i := 174) rfl)
set_option maxRecDepth 100000 in
theorem z_cw_X5_build : Cond.code yX5_build cX5_build 2 (some (.int)) ∈ lw_tbl := z_m3 (List.mem_of_getElem? (i := 155) rfl)
set_option maxRecDepth 100000 in
theorem z_cw_X5_lot : Cond.code yX5_lot cX5_lot 3 (some (.int)) ∈ lw_tbl := z_m3 (List.mem_of_getElem? (i := 151) rfl)
set_option maxRecDepth 100000 in
theorem z_cw_X5_gusts : Cond.code yX5_gusts cX5_gusts 4 (some (.int)) ∈ lw_tbl := z_m3 (List.mem_of_getElem? (i := 145) rfl)
set_option maxRecDepth 100000 in
theorem z_cw_X5_hedges : Cond.code yX5_hedges cX5_hedges 3 (some (.int)) ∈ lw_tbl := z_m3 (List.mem_of_getElem? (i := 122) rfl)
set_option maxRecDepth 100000 in
theorem z_cw_X5_lines : Cond.code yX5_lines cX5_lines 3 (some (.int)) ∈ lw_tbl := z_m3 (List.mem_of_getElem? (i := 93) rfl)
set_option maxRecDepth 100000 in
theorem z_cw_X5_mend : Cond.code yX5_mend cX5_mend 4 (some (.int)) ∈ lw_tbl := z_m3 (List.mem_of_getElem? (i := 72) rfl)
theorem z_cwc5 : ∀ q ∈ z_mt5, Cond.code q.1 q.2.1 q.2.2.1 q.2.2.2.1 ∈ lw_tbl := List.forall_mem_cons.mpr ⟨z_cw_X5_mend, List.forall_mem_cons.mpr ⟨z_cw_X5_lines, List.forall_mem_cons.mpr ⟨z_cw_X5_hedges, List.forall_mem_cons.mpr ⟨z_cw_X5_gusts, List.forall_mem_cons.mpr ⟨z_cw_X5_lot, List.forall_mem_cons.mpr ⟨z_cw_X5_build, List.forall_mem_cons.mpr ⟨z_cw_X5_raze, List.forall_mem_cons.mpr ⟨z_cw_X5_street, List.forall_mem_cons.mpr ⟨z_cw_X5_close, List.forall_mem_cons.mpr ⟨z_cw_X5_mark, List.forall_mem_cons.mpr ⟨z_cw_X5_keep, List.forall_mem_cons.mpr ⟨z_cw_X5_back, List.forall_mem_cons.mpr ⟨z_cw_X5_count, List.forall_mem_cons.mpr ⟨z_cw_X5_trace, List.forall_mem_cons.mpr ⟨z_cw_X5_markAsChain, List.forall_mem_cons.mpr ⟨z_cw_X5_markAsWall, fun _ h => absurd h List.not_mem_nil⟩⟩⟩⟩⟩⟩⟩⟩⟩⟩⟩⟩⟩⟩⟩⟩
set_option maxRecDepth 100000 in
theorem z_cw_X6_goesOn : Cond.code yX6_goesOn cX6_goesOn 5 (some (.boolean)) ∈ lw_tbl := z_m4 (List.mem_of_getElem? (i := 135) rfl)
set_option maxRecDepth 100000 in
theorem z_cw_X6_stepOf : Cond.code yX6_stepOf cX6_stepOf 1 (some (.int)) ∈ lw_tbl := z_m4 (List.mem_of_getElem? (i := 138) rfl)
set_option maxRecDepth 100000 in
theorem z_cw_X6_off : Cond.code yX6_off cX6_off 6 (some (.int)) ∈ lw_tbl := z_m4 (List.mem_of_getElem? (i := 142) rfl)
set_option maxRecDepth 100000 in
theorem z_cw_X6_number : Cond.code yX6_number cX6_number 3 (some (.int)) ∈ lw_tbl := z_m4 (List.mem_of_getElem? (i := 127) rfl)
set_option maxRecDepth 100000 in
theorem z_cw_X6_due : Cond.code yX6_due cX6_due 3 (some (.int)) ∈ lw_tbl := z_m4 (List.mem_of_getElem? (i := 123) rfl)
set_option maxRecDepth 100000 in
theorem z_cw_X6_next : Cond.code yX6_next cX6_next 3 none ∈ lw_tbl := z_m4 (List.mem_of_getElem? (i := 108) rfl)
set_option maxRecDepth 100000 in
theorem z_cw_X6_here : Cond.code yX6_here cX6_here 1 (some (.int)) ∈ lw_tbl := z_m4 (List.mem_of_getElem? (i := 112) rfl)
set_option maxRecDepth 100000 in
theorem z_cw_X6_clear : Cond.code yX6_clear cX6_clear 2 (some (.int)) ∈ lw_tbl := z_m4 (List.mem_of_getElem? (i := 100) rfl)
set_option maxRecDepth 100000 in
theorem z_cw_X6_type : Cond.code yX6_type cX6_type 5 (some (.int)) ∈ lw_tbl := z_m4 (List.mem_of_getElem? (i := 92) rfl)
set_option maxRecDepth 100000 in
theorem z_cw_X6_in : Cond.code yX6_in cX6_in 3 (some (.boolean)) ∈ lw_tbl := z_m4 (List.mem_of_getElem? (i := 95) rfl)
set_option maxRecDepth 100000 in
theorem z_cw_X6_init : Cond.code yX6_init cX6_init 1 none ∈ lw_tbl := z_m4 (List.mem_of_getElem? (i := 11) rfl)
set_option maxRecDepth 100000 in
theorem z_cw_X5_ofRow : Cond.code yX5_ofRow cX5_ofRow 4 (some (.int)) ∈ lw_tbl := z_m3 (List.mem_of_getElem? (i := 52) rfl)
set_option maxRecDepth 100000 in
theorem z_cw_X5_markAsRope : Cond.code yX5_markAsRope cX5_markAsRope 2 (some (.int)) ∈ lw_tbl := z_m3 (List.mem_of_getElem? (i := 229) rfl)
set_option maxRecDepth 100000 in
theorem z_cw_X5_markAsGlance : Cond.code yX5_markAsGlance cX5_markAsGlance 3 (some (.int)) ∈ lw_tbl := z_m3 (List.mem_of_getElem? (i := 224) rfl)
set_option maxRecDepth 100000 in
theorem z_cw_X5_markAsDoor : Cond.code yX5_markAsDoor cX5_markAsDoor 3 (some (.int)) ∈ lw_tbl := z_m3 (List.mem_of_getElem? (i := 219) rfl)
set_option maxRecDepth 100000 in
theorem z_cw_X5_markAsWay : Cond.code yX5_markAsWay cX5_markAsWay 2 (some (.int)) ∈ lw_tbl := z_m3 (List.mem_of_getElem? (i := 214) rfl)
theorem z_cwc6 : ∀ q ∈ z_mt6, Cond.code q.1 q.2.1 q.2.2.1 q.2.2.2.1 ∈ lw_tbl := List.forall_mem_cons.mpr ⟨z_cw_X5_markAsWay, List.forall_mem_cons.mpr ⟨z_cw_X5_markAsDoor, List.forall_mem_cons.mpr ⟨z_cw_X5_markAsGlance, List.forall_mem_cons.mpr ⟨z_cw_X5_markAsRope, List.forall_mem_cons.mpr ⟨z_cw_X5_ofRow, List.forall_mem_cons.mpr ⟨z_cw_X6_init, List.forall_mem_cons.mpr ⟨z_cw_X6_in, List.forall_mem_cons.mpr ⟨z_cw_X6_type, List.forall_mem_cons.mpr ⟨z_cw_X6_clear, List.forall_mem_cons.mpr ⟨z_cw_X6_here, List.forall_mem_cons.mpr ⟨z_cw_X6_next, List.forall_mem_cons.mpr ⟨z_cw_X6_due, List.forall_mem_cons.mpr ⟨z_cw_X6_number, List.forall_mem_cons.mpr ⟨z_cw_X6_off, List.forall_mem_cons.mpr ⟨z_cw_X6_stepOf, List.forall_mem_cons.mpr ⟨z_cw_X6_goesOn, fun _ h => absurd h List.not_mem_nil⟩⟩⟩⟩⟩⟩⟩⟩⟩⟩⟩⟩⟩⟩⟩⟩
set_option maxRecDepth 100000 in
theorem z_cw_X6_longest : Cond.code yX6_longest cX6_longest 4 (some (.int)) ∈ lw_tbl := z_m4 (List.mem_of_getElem? (i := 190) rfl)
set_option maxRecDepth 100000 in
theorem z_cw_X6_runAt : Cond.code yX6_runAt cX6_runAt 4 (some (.int)) ∈ lw_tbl := z_m4 (List.mem_of_getElem? (i := 194) rfl)
set_option maxRecDepth 100000 in
theorem z_cw_X6_cell : Cond.code yX6_cell cX6_cell 2 (some (.int)) ∈ lw_tbl := z_m4 (List.mem_of_getElem? (i := 150) rfl)
set_option maxRecDepth 100000 in
theorem z_cw_X6_onChains : Cond.code yX6_onChains cX6_onChains 5 (some (.int)) ∈ lw_tbl := z_m4 (List.mem_of_getElem? (i := 166) rfl)
set_option maxRecDepth 100000 in
theorem z_cw_X6_lastCell : Cond.code yX6_lastCell cX6_lastCell 4 (some (.int)) ∈ lw_tbl := z_m4 (List.mem_of_getElem? (i := 186) rfl)
set_option maxRecDepth 100000 in
theorem z_cw_X6_steps : Cond.code yX6_steps cX6_steps 2 (some (.int)) ∈ lw_tbl := z_m4 (List.mem_of_getElem? (i := 170) rfl)
set_option maxRecDepth 100000 in
theorem z_cw_X6_stepIn : Cond.code yX6_stepIn cX6_stepIn 3 (some (.int)) ∈ lw_tbl := z_m4 (List.mem_of_getElem? (i := 174) rfl)
set_option maxRecDepth 100000 in
theorem z_cw_X6_isChain : Cond.code yX6_isChain cX6_isChain 2 (some (.boolean)) ∈ lw_tbl := z_m4 (List.mem_of_getElem? (i := 182) rfl)
set_option maxRecDepth 100000 in
theorem z_cw_X6_isFree : Cond.code yX6_isFree cX6_isFree 2 (some (.boolean)) ∈ lw_tbl := z_m4 (List.mem_of_getElem? (i := 226) rfl)
set_option maxRecDepth 100000 in
theorem z_cw_X6_isHouse : Cond.code yX6_isHouse cX6_isHouse 2 (some (.boolean)) ∈ lw_tbl := z_m4 (List.mem_of_getElem? (i := 162) rfl)
set_option maxRecDepth 100000 in
theorem z_cw_X6_isCell : Cond.code yX6_isCell cX6_isCell 2 (some (.boolean)) ∈ lw_tbl := z_m4 (List.mem_of_getElem? (i := 154) rfl)
set_option maxRecDepth 100000 in
theorem z_cw_X6_cells : Cond.code yX6_cells cX6_cells 1 (some (.int)) ∈ lw_tbl := z_m4 (List.mem_of_getElem? (i := 158) rfl)
set_option maxRecDepth 100000 in
theorem z_cw_X6_copy : Cond.code yX6_copy cX6_copy 4 none ∈ lw_tbl := z_m4 (List.mem_of_getElem? (i := 146) rfl)
set_option maxRecDepth 100000 in
theorem z_cw_X6_yard : Cond.code yX6_yard cX6_yard 2 (some (.int)) ∈ lw_tbl := z_m4 (List.mem_of_getElem? (i := 104) rfl)
set_option maxRecDepth 100000 in
theorem z_cw_X6_readItem : Cond.code yX6_readItem cX6_readItem 5 none ∈ lw_tbl := z_m4 (List.mem_of_getElem? (i := 119) rfl)
set_option maxRecDepth 100000 in
theorem z_cw_X6_readChain : Cond.code yX6_readChain cX6_readChain 5 none ∈ lw_tbl := z_m4 (List.mem_of_getElem? (i := 131) rfl)
theorem z_cwc7 : ∀ q ∈ z_mt7, Cond.code q.1 q.2.1 q.2.2.1 q.2.2.2.1 ∈ lw_tbl := List.forall_mem_cons.mpr ⟨z_cw_X6_readChain, List.forall_mem_cons.mpr ⟨z_cw_X6_readItem, List.forall_mem_cons.mpr ⟨z_cw_X6_yard, List.forall_mem_cons.mpr ⟨z_cw_X6_copy, List.forall_mem_cons.mpr ⟨z_cw_X6_cells, List.forall_mem_cons.mpr ⟨z_cw_X6_isCell, List.forall_mem_cons.mpr ⟨z_cw_X6_isHouse, List.forall_mem_cons.mpr ⟨z_cw_X6_isFree, List.forall_mem_cons.mpr ⟨z_cw_X6_isChain, List.forall_mem_cons.mpr ⟨z_cw_X6_stepIn, List.forall_mem_cons.mpr ⟨z_cw_X6_steps, List.forall_mem_cons.mpr ⟨z_cw_X6_lastCell, List.forall_mem_cons.mpr ⟨z_cw_X6_onChains, List.forall_mem_cons.mpr ⟨z_cw_X6_cell, List.forall_mem_cons.mpr ⟨z_cw_X6_runAt, List.forall_mem_cons.mpr ⟨z_cw_X6_longest, fun _ h => absurd h List.not_mem_nil⟩⟩⟩⟩⟩⟩⟩⟩⟩⟩⟩⟩⟩⟩⟩⟩
set_option maxRecDepth 100000 in
theorem z_cw_X6_findLine : Cond.code yX6_findLine cX6_findLine 8 none ∈ lw_tbl := z_m5 (List.mem_of_getElem? (i := 31) rfl)
set_option maxRecDepth 100000 in
theorem z_cw_X6_openNow : Cond.code yX6_openNow cX6_openNow 1 (some (.int)) ∈ lw_tbl := z_m5 (List.mem_of_getElem? (i := 19) rfl)
set_option maxRecDepth 100000 in
theorem z_cw_X6_mend : Cond.code yX6_mend cX6_mend 7 (some (.int)) ∈ lw_tbl := z_m5 (List.mem_of_getElem? (i := 7) rfl)
set_option maxRecDepth 100000 in
theorem z_cw_X6_findMend : Cond.code yX6_findMend cX6_findMend 9 none ∈ lw_tbl := z_m5 (List.mem_of_getElem? (i := 11) rfl)
set_option maxRecDepth 100000 in
theorem z_cw_X6_ways : Cond.code yX6_ways cX6_ways 7 (some (.long)) ∈ lw_tbl := z_m5 (List.mem_of_getElem? (i := 2) rfl)
set_option maxRecDepth 100000 in
theorem z_cw_X6_way : Cond.code yX6_way cX6_way 8 (some (.int)) ∈ lw_tbl := z_m4 (List.mem_of_getElem? (i := 222) rfl)
set_option maxRecDepth 100000 in
theorem z_cw_X6_stepsOf : Cond.code yX6_stepsOf cX6_stepsOf 3 (some (.int)) ∈ lw_tbl := z_m4 (List.mem_of_getElem? (i := 230) rfl)
set_option maxRecDepth 100000 in
theorem z_cw_X6_findSteps : Cond.code yX6_findSteps cX6_findSteps 6 none ∈ lw_tbl := z_m4 (List.mem_of_getElem? (i := 234) rfl)
set_option maxRecDepth 100000 in
theorem z_cw_X6_after : Cond.code yX6_after cX6_after 6 (some (.int)) ∈ lw_tbl := z_m4 (List.mem_of_getElem? (i := 238) rfl)
set_option maxRecDepth 100000 in
theorem z_cw_X6_joint : Cond.code yX6_joint cX6_joint 3 (some (.int)) ∈ lw_tbl := z_m4 (List.mem_of_getElem? (i := 210) rfl)
set_option maxRecDepth 100000 in
theorem z_cw_X6_isJoint : Cond.code yX6_isJoint cX6_isJoint 4 (some (.boolean)) ∈ lw_tbl := z_m4 (List.mem_of_getElem? (i := 214) rfl)
set_option maxRecDepth 100000 in
theorem z_cw_X6_firstRun : Cond.code yX6_firstRun cX6_firstRun 3 (some (.int)) ∈ lw_tbl := z_m4 (List.mem_of_getElem? (i := 218) rfl)
set_option maxRecDepth 100000 in
theorem z_cw_X6_straight : Cond.code yX6_straight cX6_straight 2 (some (.int)) ∈ lw_tbl := z_m4 (List.mem_of_getElem? (i := 202) rfl)
set_option maxRecDepth 100000 in
theorem z_cw_X6_straightOf : Cond.code yX6_straightOf cX6_straightOf 3 (some (.int)) ∈ lw_tbl := z_m4 (List.mem_of_getElem? (i := 206) rfl)
set_option maxRecDepth 100000 in
theorem z_cw_X6_step : Cond.code yX6_step cX6_step 3 (some (.int)) ∈ lw_tbl := z_m4 (List.mem_of_getElem? (i := 198) rfl)
set_option maxRecDepth 100000 in
theorem z_cw_X6_chain : Cond.code yX6_chain cX6_chain 3 (some (.int)) ∈ lw_tbl := z_m4 (List.mem_of_getElem? (i := 178) rfl)
theorem z_cwc8 : ∀ q ∈ z_mt8, Cond.code q.1 q.2.1 q.2.2.1 q.2.2.2.1 ∈ lw_tbl := List.forall_mem_cons.mpr ⟨z_cw_X6_chain, List.forall_mem_cons.mpr ⟨z_cw_X6_step, List.forall_mem_cons.mpr ⟨z_cw_X6_straightOf, List.forall_mem_cons.mpr ⟨z_cw_X6_straight, List.forall_mem_cons.mpr ⟨z_cw_X6_firstRun, List.forall_mem_cons.mpr ⟨z_cw_X6_isJoint, List.forall_mem_cons.mpr ⟨z_cw_X6_joint, List.forall_mem_cons.mpr ⟨z_cw_X6_after, List.forall_mem_cons.mpr ⟨z_cw_X6_findSteps, List.forall_mem_cons.mpr ⟨z_cw_X6_stepsOf, List.forall_mem_cons.mpr ⟨z_cw_X6_way, List.forall_mem_cons.mpr ⟨z_cw_X6_ways, List.forall_mem_cons.mpr ⟨z_cw_X6_findMend, List.forall_mem_cons.mpr ⟨z_cw_X6_mend, List.forall_mem_cons.mpr ⟨z_cw_X6_openNow, List.forall_mem_cons.mpr ⟨z_cw_X6_findLine, fun _ h => absurd h List.not_mem_nil⟩⟩⟩⟩⟩⟩⟩⟩⟩⟩⟩⟩⟩⟩⟩⟩
set_option maxRecDepth 100000 in
theorem z_cw_X6_close : Cond.code yX6_close cX6_close 1 (some (.int)) ∈ lw_tbl := z_m5 (List.mem_of_getElem? (i := 85) rfl)
set_option maxRecDepth 100000 in
theorem z_cw_X6_street : Cond.code yX6_street cX6_street 5 (some (.int)) ∈ lw_tbl := z_m5 (List.mem_of_getElem? (i := 69) rfl)
set_option maxRecDepth 100000 in
theorem z_cw_X6_isBent : Cond.code yX6_isBent cX6_isBent 7 (some (.boolean)) ∈ lw_tbl := z_m5 (List.mem_of_getElem? (i := 77) rfl)
set_option maxRecDepth 100000 in
theorem z_cw_X6_toldRun : Cond.code yX6_toldRun cX6_toldRun 4 (some (.int)) ∈ lw_tbl := z_m5 (List.mem_of_getElem? (i := 81) rfl)
set_option maxRecDepth 100000 in
theorem z_cw_X6_isStreet : Cond.code yX6_isStreet cX6_isStreet 6 (some (.boolean)) ∈ lw_tbl := z_m5 (List.mem_of_getElem? (i := 73) rfl)
set_option maxRecDepth 100000 in
theorem z_cw_X6_raze : Cond.code yX6_raze cX6_raze 2 (some (.int)) ∈ lw_tbl := z_m5 (List.mem_of_getElem? (i := 65) rfl)
set_option maxRecDepth 100000 in
theorem z_cw_X6_build : Cond.code yX6_build cX6_build 2 (some (.int)) ∈ lw_tbl := z_m5 (List.mem_of_getElem? (i := 56) rfl)
set_option maxRecDepth 100000 in
theorem z_cw_X6_houses : Cond.code yX6_houses cX6_houses 3 (some (.int)) ∈ lw_tbl := z_m5 (List.mem_of_getElem? (i := 61) rfl)
set_option maxRecDepth 100000 in
theorem z_cw_X6_lot : Cond.code yX6_lot cX6_lot 3 (some (.int)) ∈ lw_tbl := z_m5 (List.mem_of_getElem? (i := 52) rfl)
set_option maxRecDepth 100000 in
theorem z_cw_X6_gusts : Cond.code yX6_gusts cX6_gusts 4 (some (.int)) ∈ lw_tbl := z_m5 (List.mem_of_getElem? (i := 47) rfl)
set_option maxRecDepth 100000 in
theorem z_cw_X6_hedges : Cond.code yX6_hedges cX6_hedges 3 (some (.int)) ∈ lw_tbl := z_m5 (List.mem_of_getElem? (i := 39) rfl)
set_option maxRecDepth 100000 in
theorem z_cw_X6_findHedges : Cond.code yX6_findHedges cX6_findHedges 7 (some (.boolean)) ∈ lw_tbl := z_m5 (List.mem_of_getElem? (i := 43) rfl)
set_option maxRecDepth 100000 in
theorem z_cw_X6_lines : Cond.code yX6_lines cX6_lines 5 (some (.int)) ∈ lw_tbl := z_m5 (List.mem_of_getElem? (i := 15) rfl)
set_option maxRecDepth 100000 in
theorem z_cw_X6_harmBy : Cond.code yX6_harmBy cX6_harmBy 4 (some (.int)) ∈ lw_tbl := z_m5 (List.mem_of_getElem? (i := 23) rfl)
set_option maxRecDepth 100000 in
theorem z_cw_X6_harmOf : Cond.code yX6_harmOf cX6_harmOf 2 (some (.int)) ∈ lw_tbl := z_m5 (List.mem_of_getElem? (i := 35) rfl)
set_option maxRecDepth 100000 in
theorem z_cw_X6_findLines : Cond.code yX6_findLines cX6_findLines 4 none ∈ lw_tbl := z_m5 (List.mem_of_getElem? (i := 27) rfl)
theorem z_cwc9 : ∀ q ∈ z_mt9, Cond.code q.1 q.2.1 q.2.2.1 q.2.2.2.1 ∈ lw_tbl := List.forall_mem_cons.mpr ⟨z_cw_X6_findLines, List.forall_mem_cons.mpr ⟨z_cw_X6_harmOf, List.forall_mem_cons.mpr ⟨z_cw_X6_harmBy, List.forall_mem_cons.mpr ⟨z_cw_X6_lines, List.forall_mem_cons.mpr ⟨z_cw_X6_findHedges, List.forall_mem_cons.mpr ⟨z_cw_X6_hedges, List.forall_mem_cons.mpr ⟨z_cw_X6_gusts, List.forall_mem_cons.mpr ⟨z_cw_X6_lot, List.forall_mem_cons.mpr ⟨z_cw_X6_houses, List.forall_mem_cons.mpr ⟨z_cw_X6_build, List.forall_mem_cons.mpr ⟨z_cw_X6_raze, List.forall_mem_cons.mpr ⟨z_cw_X6_isStreet, List.forall_mem_cons.mpr ⟨z_cw_X6_toldRun, List.forall_mem_cons.mpr ⟨z_cw_X6_isBent, List.forall_mem_cons.mpr ⟨z_cw_X6_street, List.forall_mem_cons.mpr ⟨z_cw_X6_close, fun _ h => absurd h List.not_mem_nil⟩⟩⟩⟩⟩⟩⟩⟩⟩⟩⟩⟩⟩⟩⟩⟩
set_option maxRecDepth 100000 in
theorem z_cw_J7_fill_53178 : Cond.code yJ7_fill_53178 cJ7_fill_53178 4 none ∈ lw_tbl := z_m3 (List.mem_of_getElem? (i := 38) rfl)
set_option maxRecDepth 100000 in
theorem z_cw_J7_fill_d0a16 : Cond.code yJ7_fill_d0a16 cJ7_fill_d0a16 5 none ∈ lw_tbl := z_m3 (List.mem_of_getElem? (i := 64) rfl)
set_option maxRecDepth 100000 in
theorem z_cw_J6_bitCount_0f7a4 : Cond.code yJ6_bitCount_0f7a4 cJ6_bitCount_0f7a4 1 (some (.int)) ∈ lw_tbl := z_m3 (List.mem_of_getElem? (i := 167) rfl)
set_option maxRecDepth 100000 in
theorem z_cw_X6_trace : Cond.code yX6_trace cX6_trace 1 (some (.long)) ∈ lw_tbl := z_m5 (List.mem_of_getElem? (i := 111) rfl)
set_option maxRecDepth 100000 in
theorem z_cw_X6_count : Cond.code yX6_count cX6_count 2 (some (.int)) ∈ lw_tbl := z_m5 (List.mem_of_getElem? (i := 107) rfl)
set_option maxRecDepth 100000 in
theorem z_cw_X6_back : Cond.code yX6_back cX6_back 2 (some (.int)) ∈ lw_tbl := z_m5 (List.mem_of_getElem? (i := 103) rfl)
set_option maxRecDepth 100000 in
theorem z_cw_X6_keep : Cond.code yX6_keep cX6_keep 2 (some (.int)) ∈ lw_tbl := z_m5 (List.mem_of_getElem? (i := 99) rfl)
set_option maxRecDepth 100000 in
theorem z_cw_X6_mark : Cond.code yX6_mark cX6_mark 5 (some (.int)) ∈ lw_tbl := z_m5 (List.mem_of_getElem? (i := 89) rfl)
theorem z_cwc10 : ∀ q ∈ z_mt10.take 8, Cond.code q.1 q.2.1 q.2.2.1 q.2.2.2.1 ∈ lw_tbl := List.forall_mem_cons.mpr ⟨z_cw_X6_mark, List.forall_mem_cons.mpr ⟨z_cw_X6_keep, List.forall_mem_cons.mpr ⟨z_cw_X6_back, List.forall_mem_cons.mpr ⟨z_cw_X6_count, List.forall_mem_cons.mpr ⟨z_cw_X6_trace, List.forall_mem_cons.mpr ⟨z_cw_J6_bitCount_0f7a4, List.forall_mem_cons.mpr ⟨z_cw_J7_fill_d0a16, List.forall_mem_cons.mpr ⟨z_cw_J7_fill_53178, fun _ h => absurd h List.not_mem_nil⟩⟩⟩⟩⟩⟩⟩⟩
theorem z_cwk : ∀ k, k < 168 → Cond.code (z_mt k).1 (z_mt k).2.1 (z_mt k).2.2.1 (z_mt k).2.2.2.1 ∈ lw_tbl := fun k hk => match k, hk with
  | 0, _ => z_cw_X0_init
  | 1, _ => z_cw_X0_copyFrom
  | 2, _ => z_cw_X0_addStep
  | 3, _ => z_cw_X0_stepAt
  | 4, _ => z_cw_X0_takeFigures
  | 5, _ => z_cw_X0_runUpTo
  | 6, _ => z_cw_X0_firstRun
  | 7, _ => z_cw_X0_longestRun
  | 8, _ => z_cw_X0_straightAt
  | 9, _ => z_cw_X0_joins
  | 10, _ => z_cw_X1_init
  | 11, _ => z_cw_X1_append
  | 12, _ => z_cw_X1_begin
  | 13, _ => z_cw_X1_isAtEnd
  | 14, _ => z_cw_X1_readItem
  | 15, _ => z_cw_X1_readYard
  | 16, _ => z_cw_X1_readOnCell
  | 17, _ => z_cw_X1_endHouse
  | 18, _ => z_cw_X1_endChain
  | 19, _ => z_cw_X1_takeSteps
  | 20, _ => z_cw_X1_directionOf
  | 21, _ => z_cw_X1_nextCell
  | 22, _ => z_cw_X1_nextNumber
  | 23, _ => z_cw_X1_nextSemicolon
  | 24, _ => z_cw_X1_isWord
  | 25, _ => z_cw_X1_nextToken
  | 26, _ => z_cw_X1_takeNumber
  | 27, _ => z_cw_X1_byteAt
  | 28, _ => z_cw_X1_isLetter
  | 29, _ => z_cw_X1_isFigure
  | 30, _ => z_cw_X2_init
  | 31, _ => z_cw_X2_beginAnew
  | 32, _ => z_cw_X2_copyFrom
  | 33, _ => z_cw_X2_has
  | 34, _ => z_cw_X2_isHouse
  | 35, _ => z_cw_X2_isFree
  | 36, _ => z_cw_X2_isTrodden
  | 37, _ => z_cw_X2_isOpen
  | 38, _ => z_cw_X2_trodden
  | 39, _ => z_cw_X2_openCells
  | 40, _ => z_cw_X2_houseCount
  | 41, _ => z_cw_X2_chainAt
  | 42, _ => z_cw_X2_beside
  | 43, _ => z_cw_X2_walkOver
  | 44, _ => z_cw_X2_joinsAny
  | 45, _ => z_cw_X2_addChain
  | 46, _ => z_cw_X3_init
  | 47, _ => z_cw_X3_shortest
  | 48, _ => z_cw_X3_fillRow
  | 49, _ => z_cw_X3_howMany
  | 50, _ => z_cw_X3_goOneStep
  | 51, _ => z_cw_X3_mended
  | 52, _ => z_cw_X3_fewestFrom
  | 53, _ => z_cw_X3_fillMended
  | 54, _ => z_cw_X3_differsBy
  | 55, _ => z_cw_X3_lookAt
  | 56, _ => z_cw_X3_startOn
  | 57, _ => z_cw_X3_after
  | 58, _ => z_cw_X4_init
  | 59, _ => z_cw_X4_look
  | 60, _ => z_cw_X4_lookAlong
  | 61, _ => z_cw_X4_harmOf
  | 62, _ => z_cw_X4_harmOfAll
  | 63, _ => z_cw_X4_longest
  | 64, _ => z_cw_X4_fewestHedges
  | 65, _ => z_cw_X4_findStretches
  | 66, _ => z_cw_X4_cellsOf
  | 67, _ => z_cw_X4_breakAll
  | 68, _ => z_cw_X4_placeHedges
  | 69, _ => z_cw_X5_init
  | 70, _ => z_cw_X5_type
  | 71, _ => z_cw_X5_clear
  | 72, _ => z_cw_X5_yard
  | 73, _ => z_cw_X5_cell
  | 74, _ => z_cw_X5_chain
  | 75, _ => z_cw_X5_step
  | 76, _ => z_cw_X5_straight
  | 77, _ => z_cw_X5_joint
  | 78, _ => z_cw_X5_way
  | 79, _ => z_cw_X5_ways
  | 80, _ => z_cw_X5_mend
  | 81, _ => z_cw_X5_lines
  | 82, _ => z_cw_X5_hedges
  | 83, _ => z_cw_X5_gusts
  | 84, _ => z_cw_X5_lot
  | 85, _ => z_cw_X5_build
  | 86, _ => z_cw_X5_raze
  | 87, _ => z_cw_X5_street
  | 88, _ => z_cw_X5_close
  | 89, _ => z_cw_X5_mark
  | 90, _ => z_cw_X5_keep
  | 91, _ => z_cw_X5_back
  | 92, _ => z_cw_X5_count
  | 93, _ => z_cw_X5_trace
  | 94, _ => z_cw_X5_markAsChain
  | 95, _ => z_cw_X5_markAsWall
  | 96, _ => z_cw_X5_markAsWay
  | 97, _ => z_cw_X5_markAsDoor
  | 98, _ => z_cw_X5_markAsGlance
  | 99, _ => z_cw_X5_markAsRope
  | 100, _ => z_cw_X5_ofRow
  | 101, _ => z_cw_X6_init
  | 102, _ => z_cw_X6_in
  | 103, _ => z_cw_X6_type
  | 104, _ => z_cw_X6_clear
  | 105, _ => z_cw_X6_here
  | 106, _ => z_cw_X6_next
  | 107, _ => z_cw_X6_due
  | 108, _ => z_cw_X6_number
  | 109, _ => z_cw_X6_off
  | 110, _ => z_cw_X6_stepOf
  | 111, _ => z_cw_X6_goesOn
  | 112, _ => z_cw_X6_readChain
  | 113, _ => z_cw_X6_readItem
  | 114, _ => z_cw_X6_yard
  | 115, _ => z_cw_X6_copy
  | 116, _ => z_cw_X6_cells
  | 117, _ => z_cw_X6_isCell
  | 118, _ => z_cw_X6_isHouse
  | 119, _ => z_cw_X6_isFree
  | 120, _ => z_cw_X6_isChain
  | 121, _ => z_cw_X6_stepIn
  | 122, _ => z_cw_X6_steps
  | 123, _ => z_cw_X6_lastCell
  | 124, _ => z_cw_X6_onChains
  | 125, _ => z_cw_X6_cell
  | 126, _ => z_cw_X6_runAt
  | 127, _ => z_cw_X6_longest
  | 128, _ => z_cw_X6_chain
  | 129, _ => z_cw_X6_step
  | 130, _ => z_cw_X6_straightOf
  | 131, _ => z_cw_X6_straight
  | 132, _ => z_cw_X6_firstRun
  | 133, _ => z_cw_X6_isJoint
  | 134, _ => z_cw_X6_joint
  | 135, _ => z_cw_X6_after
  | 136, _ => z_cw_X6_findSteps
  | 137, _ => z_cw_X6_stepsOf
  | 138, _ => z_cw_X6_way
  | 139, _ => z_cw_X6_ways
  | 140, _ => z_cw_X6_findMend
  | 141, _ => z_cw_X6_mend
  | 142, _ => z_cw_X6_openNow
  | 143, _ => z_cw_X6_findLine
  | 144, _ => z_cw_X6_findLines
  | 145, _ => z_cw_X6_harmOf
  | 146, _ => z_cw_X6_harmBy
  | 147, _ => z_cw_X6_lines
  | 148, _ => z_cw_X6_findHedges
  | 149, _ => z_cw_X6_hedges
  | 150, _ => z_cw_X6_gusts
  | 151, _ => z_cw_X6_lot
  | 152, _ => z_cw_X6_houses
  | 153, _ => z_cw_X6_build
  | 154, _ => z_cw_X6_raze
  | 155, _ => z_cw_X6_isStreet
  | 156, _ => z_cw_X6_toldRun
  | 157, _ => z_cw_X6_isBent
  | 158, _ => z_cw_X6_street
  | 159, _ => z_cw_X6_close
  | 160, _ => z_cw_X6_mark
  | 161, _ => z_cw_X6_keep
  | 162, _ => z_cw_X6_back
  | 163, _ => z_cw_X6_count
  | 164, _ => z_cw_X6_trace
  | 165, _ => z_cw_J6_bitCount_0f7a4
  | 166, _ => z_cw_J7_fill_d0a16
  | 167, _ => z_cw_J7_fill_53178
  | n + 168, h => absurd h (by omega)
set_option maxRecDepth 100000 in
theorem z_cw_J0_length_8abf5 : Cond.code yJ0_length_8abf5 cJ0_length_8abf5 1 (some (.int)) ∈ lw_tbl := z_m2 (List.mem_of_getElem? (i := 70) rfl)
set_option maxRecDepth 100000 in
theorem z_cw_J0_charAt_5068e : Cond.code yJ0_charAt_5068e cJ0_charAt_5068e 2 (some (.char)) ∈ lw_tbl := z_m2 (List.mem_of_getElem? (i := 80) rfl)
set_option maxRecDepth 100000 in
theorem z_cw_J0_coder_7d493 : Cond.code yJ0_coder_7d493 cJ0_coder_7d493 1 (some (.byte)) ∈ lw_tbl := z_m2 (List.mem_of_getElem? (i := 74) rfl)
set_option maxRecDepth 100000 in
theorem z_cw_J0_isLatin1_aae02 : Cond.code yJ0_isLatin1_aae02 cJ0_isLatin1_aae02 1 (some (.boolean)) ∈ lw_tbl := z_m2 (List.mem_of_getElem? (i := 84) rfl)
set_option maxRecDepth 100000 in
theorem z_cw_J0_checkIndex_df160 : Cond.code yJ0_checkIndex_df160 cJ0_checkIndex_df160 2 none ∈ lw_tbl := z_m2 (List.mem_of_getElem? (i := 90) rfl)
set_option maxRecDepth 100000 in
theorem z_cw_J1_charAt_3b067 : Cond.code yJ1_charAt_3b067 cJ1_charAt_3b067 2 (some (.char)) ∈ lw_tbl := z_m2 (List.mem_of_getElem? (i := 87) rfl)
set_option maxRecDepth 100000 in
theorem z_cw_J3_checkIndex_8e157 : Cond.code yJ3_checkIndex_8e157 cJ3_checkIndex_8e157 3 (some (.int)) ∈ lw_tbl := z_m2 (List.mem_of_getElem? (i := 95) rfl)
set_option maxRecDepth 100000 in
theorem z_cw_max : Cond.code Lib.Math.max.name Lib.Math.max.code 2 (some .int) ∈ lw_tbl := z_m2 (List.mem_of_getElem? (i := 235) rfl)
set_option maxRecDepth 100000 in
theorem z_cw_min : Cond.code Lib.Math.min.name Lib.Math.min.code 2 (some .int) ∈ lw_tbl := z_m2 (List.mem_of_getElem? (i := 129) rfl)
