/-! THE SMALL MACHINE: the resolved code over a list of cells. A reference is a cell's place in the list; from 1000 on: the script (1000), the words 'yard', 'house', 'chain' (1001 ..). -/
abbrev ZA : Type := (Nat → Int32) ⊕ ((Nat → Int64) ⊕ (Nat → Option Nat))
/-- a cell: an object (class, fields), or a row (sort, length, contents); sorts: 0 int, 1 byte, 2 boolean, 3 long, 4 Chain, 5 Site -/
abbrev ZE : Type := (Nat × List Value) ⊕ (Nat × Nat × ZA)
abbrev ZM : Type := List ZE
abbrev ZL : Type := List (Option Value)
abbrev ZS : Type := Nat × (Nat → Int32)
/-- what a step comes to: the next place, an answer, or a call (method, arguments, rest of the stack, where it goes on) -/
abbrev ZR : Type := (Nat × ZL × List Value × ZM) ⊕ (Option Value ⊕ (Nat × List Value × List Value × Nat))
def z_cc (c : Nat) (x y : Int32) : Bool := match c with
  | 0 => decide (x = y)
  | 1 => !decide (x = y)
  | 2 => decide (x < y)
  | 3 => decide (y ≤ x)
  | 4 => decide (y < x)
  | _ => decide (x ≤ y)
def z_in (i : Int32) (n : Nat) : Bool := !(decide (i < 0) || decide (n ≤ i.toNatClampNeg))
def z_fty (ci k : Nat) : FieldType := match ci with
  | 0 => tyX0 k
  | 1 => tyX1 k
  | 2 => tyX2 k
  | 3 => tyX3 k
  | 4 => tyX4 k
  | 5 => tyX5 k
  | _ => tyX6 k
def z_cls (ci : Nat) : vw_C := vwCl.getD ci (RX6, TX6, 25)
/-- may a value stand in a field of this type: as it is, no narrowing -/
def z_fit (t : FieldType) (v : Value) : Bool := match t, v with
  | .int, .int _ => true
  | .long, .long _ => true
  | .object _, .ref _ => true
  | .array _, .ref _ => true
  | _, _ => false
def z_dfl (t : FieldType) : Value := match t with
  | .int => .int 0
  | .long => .long 0
  | _ => .null
/-- a store cuts a long in two that lies over its place -/
def z_cut (ls : ZL) (i : Nat) : ZL := match i with
  | 0 => ls
  | j + 1 => match ls[j]? with
    | some (some v) => if v.category = 2 then ls.set j none else ls
    | _ => ls
def z_st1 (ls : ZL) (i : Nat) (v : Value) : ZL := (z_cut ls i).set i (some v)
def z_st2 (ls : ZL) (i : Nat) (v : Value) : ZL := ((z_cut ls i).set (i + 1) none).set i (some v)
def z_wlen (k : Nat) : Nat := match k with
  | 0 => 4
  | _ => 5
def z_wch (k : Nat) : List Int32 := match k with
  | 0 => [121, 97, 114, 100]
  | 1 => [104, 111, 117, 115, 101]
  | _ => [99, 104, 97, 105, 110]
def z_cat (st : List Value) : Bool := decide ((st.map fun v => v.category).sum ≤ 8)
def z_fin (ci k : Nat) : Bool := ((z_cls ci).2.1 k).2.2.2
def z_ini (y ci : Nat) : Bool := decide ((z_mt y).1.name = "<init>") && decide ((z_mt y).2.2.2.2.2 = ci)
/-- may the answer be given as it is -/
def z_rok (y : Nat) (v : Value) : Bool := match (z_mt y).2.2.2.1, v with
  | some .int, .int _ => true
  | some .boolean, .int x => decide (x = 0) || decide (x = 1)
  | some .long, .long _ => true
  | some (.object _), .ref _ => true
  | some (.object _), .null => true
  | _, _ => false
def z_stp (S : ZS) (y : Nat) (i : Instr) (nx : Nat) (ls : ZL) (st : List Value) (M : ZM) : Option ZR :=
  match i with
  | .iconst n => some (.inl (nx, ls, .int (Int32.ofInt n) :: st, M))
  | .goto_w n => some (.inl (nx, ls, .long (Int64.ofInt n) :: st, M))
  | .aconst_null => some (.inl (nx, ls, .null :: st, M))
  | .ldc k => if k < 3 then some (.inl (nx, ls, .ref (1001 + k) :: st, M)) else none
  | .iload k => match ls[k]? with
    | some (some (.int x)) => some (.inl (nx, ls, .int x :: st, M))
    | _ => none
  | .lload k => match ls[k]? with
    | some (some (.long x)) => some (.inl (nx, ls, .long x :: st, M))
    | _ => none
  | .aload k => match ls[k]? with
    | some (some (.ref x)) => some (.inl (nx, ls, .ref x :: st, M))
    | some (some .null) => some (.inl (nx, ls, .null :: st, M))
    | _ => none
  | .istore k => match st with
    | .int x :: r => if k < ls.length then some (.inl (nx, z_st1 ls k (.int x), r, M)) else none
    | _ => none
  | .lstore k => match st with
    | .long x :: r => if k + 1 < ls.length then some (.inl (nx, z_st2 ls k (.long x), r, M)) else none
    | _ => none
  | .astore k => match st with
    | .ref x :: r => if k < ls.length then some (.inl (nx, z_st1 ls k (.ref x), r, M)) else none
    | .null :: r => if k < ls.length then some (.inl (nx, z_st1 ls k .null, r, M)) else none
    | _ => none
  | .iinc k n => match ls[k]? with
    | some (some (.int x)) => some (.inl (nx, z_st1 ls k (.int (x + Int32.ofInt n)), st, M))
    | _ => none
  | .iadd => match st with
    | .int b :: .int a :: r => some (.inl (nx, ls, .int (a + b) :: r, M))
    | _ => none
  | .isub => match st with
    | .int b :: .int a :: r => some (.inl (nx, ls, .int (a - b) :: r, M))
    | _ => none
  | .imul => match st with
    | .int b :: .int a :: r => some (.inl (nx, ls, .int (a * b) :: r, M))
    | _ => none
  | .iand => match st with
    | .int b :: .int a :: r => some (.inl (nx, ls, .int (a &&& b) :: r, M))
    | _ => none
  | .ior => match st with
    | .int b :: .int a :: r => some (.inl (nx, ls, .int (a ||| b) :: r, M))
    | _ => none
  | .ixor => match st with
    | .int b :: .int a :: r => some (.inl (nx, ls, .int (a ^^^ b) :: r, M))
    | _ => none
  | .idiv => match st with
    | .int b :: .int a :: r => if b = 0 then none else some (.inl (nx, ls, .int (a / b) :: r, M))
    | _ => none
  | .irem => match st with
    | .int b :: .int a :: r => if b = 0 then none else some (.inl (nx, ls, .int (a - a / b * b) :: r, M))
    | _ => none
  | .ishl => match st with
    | .int b :: .int a :: r => some (.inl (nx, ls, .int (a <<< (b &&& 31)) :: r, M))
    | _ => none
  | .ishr => match st with
    | .int b :: .int a :: r => some (.inl (nx, ls, .int (a >>> (b &&& 31)) :: r, M))
    | _ => none
  | .iushr => match st with
    | .int b :: .int a :: r => some (.inl (nx, ls, .int ((a.toUInt32 >>> (b.toUInt32 &&& Int32.toUInt32 31)).toInt32) :: r, M))
    | _ => none
  | .ladd => match st with
    | .long b :: .long a :: r => some (.inl (nx, ls, .long (a + b) :: r, M))
    | _ => none
  | .land => match st with
    | .long b :: .long a :: r => some (.inl (nx, ls, .long (a &&& b) :: r, M))
    | _ => none
  | .lor => match st with
    | .long b :: .long a :: r => some (.inl (nx, ls, .long (a ||| b) :: r, M))
    | _ => none
  | .lshl => match st with
    | .int b :: .long a :: r => some (.inl (nx, ls, .long (a <<< (b.toInt64 &&& 63)) :: r, M))
    | _ => none
  | .lshr => match st with
    | .int b :: .long a :: r => some (.inl (nx, ls, .long (a >>> (b.toInt64 &&& 63)) :: r, M))
    | _ => none
  | .lushr => match st with
    | .int b :: .long a :: r => some (.inl (nx, ls, .long ((a.toUInt64 >>> (b.toInt64.toUInt64 &&& Int64.toUInt64 63)).toInt64) :: r, M))
    | _ => none
  | .lcmp => match st with
    | .long b :: .long a :: r => some (.inl (nx, ls, .int (lg_cmp a b) :: r, M))
    | _ => none
  | .i2l => match st with
    | .int a :: r => some (.inl (nx, ls, .long a.toInt64 :: r, M))
    | _ => none
  | .l2i => match st with
    | .long a :: r => some (.inl (nx, ls, .int a.toInt32 :: r, M))
    | _ => none
  | .i2b => match st with
    | .int a :: r => some (.inl (nx, ls, .int a.toInt8.toInt32 :: r, M))
    | _ => none
  | .dup => match st with
    | v :: r => if v.category = 1 then some (.inl (nx, ls, v :: v :: r, M)) else none
    | _ => none
  | .dup2 => match st with
    | v :: w :: r => if v.category = 1 ∧ w.category = 1 then some (.inl (nx, ls, v :: w :: v :: w :: r, M)) else none
    | _ => none
  | .pop => match st with
    | v :: r => if v.category = 1 then some (.inl (nx, ls, r, M)) else none
    | _ => none
  | .ret t => some (.inl (t, ls, st, M))
  | .invokeinterface c t => match st with
    | .int b :: .int a :: r => some (.inl (if z_cc c a b = true then t else nx, ls, r, M))
    | _ => none
  | .multianewarray c t => match st with
    | .int a :: r => some (.inl (if z_cc c a 0 = true then t else nx, ls, r, M))
    | _ => none
  | .dload t => match st with
    | .ref _ :: r => some (.inl (nx, ls, r, M))
    | .null :: r => some (.inl (t, ls, r, M))
    | _ => none
  | .dstore t => match st with
    | .ref _ :: r => some (.inl (t, ls, r, M))
    | .null :: r => some (.inl (nx, ls, r, M))
    | _ => none
  | .tableswitch d lo hi offs => match st with
    | .int x :: r => if x.toInt < lo ∨ hi < x.toInt then some (.inl (d.toNat, ls, r, M)) else match offs[(x.toInt - lo).toNat]? with
      | some o => some (.inl (o.toNat, ls, r, M))
      | none => none
    | _ => none
  | .lookupswitch d ps => match st with
    | .int x :: r => some (.inl ((Op.lookupswitch.offset ps.toList d x.toInt).toNat, ls, r, M))
    | _ => none
  | .getfield k => match st with
    | .ref a :: r => match M[a]? with
      | some (.inl (ci, fs)) => if ci = k / 32 then match fs[k % 32]? with
          | some v => some (.inl (nx, ls, v :: r, M))
          | none => none
        else none
      | _ => none
    | _ => none
  | .putfield k => match st with
    | v :: .ref a :: r => match M[a]? with
      | some (.inl (ci, fs)) => if ci = k / 32 ∧ k % 32 < fs.length ∧ z_fit (z_fty ci (k % 32)) v = true ∧ (z_fin ci (k % 32) = false ∨ z_ini y ci = true) then some (.inl (nx, ls, r, M.set a (.inl (ci, fs.set (k % 32) v)))) else none
      | _ => none
    | _ => none
  | .iaload => match st with
    | .int i :: .ref a :: r => if a = 1000 then (if z_in i S.1 = true then some (.inl (nx, ls, .int (S.2 i.toNatClampNeg) :: r, M)) else none) else match M[a]? with
      | some (.inr (0, n, .inl f)) => if z_in i n = true then some (.inl (nx, ls, .int (f i.toNatClampNeg) :: r, M)) else none
      | _ => none
    | _ => none
  | .baload => match st with
    | .int i :: .ref a :: r => match M[a]? with
      | some (.inr (1, n, .inl f)) => if z_in i n = true then some (.inl (nx, ls, .int (f i.toNatClampNeg) :: r, M)) else none
      | some (.inr (2, n, .inl f)) => if z_in i n = true then some (.inl (nx, ls, .int (f i.toNatClampNeg) :: r, M)) else none
      | _ => none
    | _ => none
  | .laload => match st with
    | .int i :: .ref a :: r => match M[a]? with
      | some (.inr (3, n, .inr (.inl f))) => if z_in i n = true then some (.inl (nx, ls, .long (f i.toNatClampNeg) :: r, M)) else none
      | _ => none
    | _ => none
  | .aaload => match st with
    | .int i :: .ref a :: r => match M[a]? with
      | some (.inr (4, n, .inr (.inr f))) => if z_in i n = true then some (.inl (nx, ls, va_rf (f i.toNatClampNeg) :: r, M)) else none
      | some (.inr (5, n, .inr (.inr f))) => if z_in i n = true then some (.inl (nx, ls, va_rf (f i.toNatClampNeg) :: r, M)) else none
      | _ => none
    | _ => none
  | .iastore => match st with
    | .int x :: .int i :: .ref a :: r => match M[a]? with
      | some (.inr (0, n, .inl f)) => if z_in i n = true then some (.inl (nx, ls, r, M.set a (.inr (0, n, .inl (upd f i.toNatClampNeg x))))) else none
      | _ => none
    | _ => none
  | .bastore => match st with
    | .int x :: .int i :: .ref a :: r => match M[a]? with
      | some (.inr (1, n, .inl f)) => if z_in i n = true then some (.inl (nx, ls, r, M.set a (.inr (1, n, .inl (upd f i.toNatClampNeg (vp_nar .byte x)))))) else none
      | some (.inr (2, n, .inl f)) => if z_in i n = true then some (.inl (nx, ls, r, M.set a (.inr (2, n, .inl (upd f i.toNatClampNeg (vp_nar .boolean x)))))) else none
      | _ => none
    | _ => none
  | .lastore => match st with
    | .long x :: .int i :: .ref a :: r => match M[a]? with
      | some (.inr (3, n, .inr (.inl f))) => if z_in i n = true then some (.inl (nx, ls, r, M.set a (.inr (3, n, .inr (.inl (vp_updL f i.toNatClampNeg x)))))) else none
      | _ => none
    | _ => none
  | .aastore => match st with
    | .ref x :: .int i :: .ref a :: r => match M[a]?, M[x]? with
      | some (.inr (4, n, .inr (.inr f))), some (.inl (0, _)) => if z_in i n = true then some (.inl (nx, ls, r, M.set a (.inr (4, n, .inr (.inr (va_up f i.toNatClampNeg (some x))))))) else none
      | some (.inr (5, n, .inr (.inr f))), some (.inl (2, _)) => if z_in i n = true then some (.inl (nx, ls, r, M.set a (.inr (5, n, .inr (.inr (va_up f i.toNatClampNeg (some x))))))) else none
      | _, _ => none
    | _ => none
  | .arraylength => match st with
    | .ref a :: r => if a = 1000 then some (.inl (nx, ls, .int (Int32.ofNat S.1) :: r, M)) else match M[a]? with
      | some (.inr (0, n, .inl _)) => some (.inl (nx, ls, .int (Int32.ofNat n) :: r, M))
      | some (.inr (3, n, .inr (.inl _))) => some (.inl (nx, ls, .int (Int32.ofNat n) :: r, M))
      | _ => none
    | _ => none
  | .newarray t => match st with
    | .int n :: r => if decide (n < 0) || decide (5000 < n.toNatClampNeg) || decide (900 ≤ M.length) then none else match t with
      | .int => some (.inl (nx, ls, .ref M.length :: r, M ++ [.inr (0, n.toNatClampNeg, .inl (fun _ => 0))]))
      | .byte => some (.inl (nx, ls, .ref M.length :: r, M ++ [.inr (1, n.toNatClampNeg, .inl (fun _ => 0))]))
      | .boolean => some (.inl (nx, ls, .ref M.length :: r, M ++ [.inr (2, n.toNatClampNeg, .inl (fun _ => 0))]))
      | .long => some (.inl (nx, ls, .ref M.length :: r, M ++ [.inr (3, n.toNatClampNeg, .inr (.inl (fun _ => 0)))]))
      | _ => none
    | _ => none
  | .anewarray t => match st with
    | .int n :: r => if decide (n < 0) || decide (5000 < n.toNatClampNeg) || decide (900 ≤ M.length) then none else match t with
      | 4 => some (.inl (nx, ls, .ref M.length :: r, M ++ [.inr (4, n.toNatClampNeg, .inr (.inr (fun _ => none)))]))
      | 5 => some (.inl (nx, ls, .ref M.length :: r, M ++ [.inr (5, n.toNatClampNeg, .inr (.inr (fun _ => none)))]))
      | _ => none
    | _ => none
  | .new ci => if ci < 7 ∧ M.length < 900 then some (.inl (nx, ls, .ref M.length :: st, M ++ [.inl (ci, (List.range (z_cls ci).2.2).map (fun k => z_dfl (z_fty ci k)))])) else none
  | .monitorenter => match st with
    | .ref _ :: r => if z_cat r = true then some (.inl (nx, ls, r, M)) else none
    | _ => none
  | .athrow => match st with
    | .int n :: .int dp :: .ref b :: .int sp :: .ref a :: r => match M[a]?, M[b]? with
      | some (.inr (0, n0, .inl f)), some (.inr (0, n1, .inl g)) => if sp < 0 ∨ dp < 0 ∨ n < 0 ∨ n0 < sp.toNatClampNeg + n.toNatClampNeg ∨ n1 < dp.toNatClampNeg + n.toNatClampNeg ∨ z_cat r = false then none
        else some (.inl (nx, ls, r, M.set b (.inr (0, n1, .inl (va_cpy f g sp.toNatClampNeg dp.toNatClampNeg n.toNatClampNeg)))))
      | _, _ => none
    | _ => none
  | .dadd => match st with
    | .int b :: .int a :: r => if z_cat r = true then some (.inl (nx, ls, .int (if a < b then b else a) :: r, M)) else none
    | _ => none
  | .dsub => match st with
    | .int b :: .int a :: r => if z_cat r = true then some (.inl (nx, ls, .int (if b < a then b else a) :: r, M)) else none
    | _ => none
  | .saload => match st with
    | .ref a :: r => if 1001 ≤ a ∧ a < 1004 ∧ z_cat r = true then some (.inl (nx, ls, .int (Int32.ofNat (z_wlen (a - 1001))) :: r, M)) else none
    | _ => none
  | .sastore => match st with
    | .int i :: .ref a :: r => if 1001 ≤ a ∧ a < 1004 ∧ z_in i (z_wlen (a - 1001)) = true ∧ z_cat r = true then some (.inl (nx, ls, .int ((z_wch (a - 1001)).getD i.toNatClampNeg 0) :: r, M)) else none
    | _ => none
  | .ireturn => match st with
    | [.int v] => if z_rok y (.int v) = true then some (.inr (.inl (some (.int v)))) else none
    | _ => none
  | .lreturn => match st with
    | [.long v] => if z_rok y (.long v) = true then some (.inr (.inl (some (.long v)))) else none
    | _ => none
  | .areturn => match st with
    | [.ref a] => if z_rok y (.ref a) = true then some (.inr (.inl (some (.ref a)))) else none
    | [.null] => if z_rok y .null = true then some (.inr (.inl (some .null))) else none
    | _ => none
  | .return_ => match st, (z_mt y).2.2.2.1 with
    | [], none => some (.inr (.inl none))
    | _, _ => none
  | .invokestatic k => if (z_mt k).2.2.2.2.1 ≤ st.length ∧ (z_mt k).2.2.2.2.2 = 99 ∧ z_cat (st.drop (z_mt k).2.2.2.2.1) = true then some (.inr (.inr (k, (st.take (z_mt k).2.2.2.2.1).reverse, st.drop (z_mt k).2.2.2.2.1, nx))) else none
  | .invokevirtual k => match st.drop (z_mt k).2.2.2.2.1 with
    | .ref a :: r => match M[a]? with
      | some (.inl (ci, _)) => if ci = (z_mt k).2.2.2.2.2 ∧ ci < 7 ∧ z_cat r = true then some (.inr (.inr (k, .ref a :: (st.take (z_mt k).2.2.2.2.1).reverse, r, nx))) else none
      | _ => none
    | _ => none
  | .invokespecial k => match st.drop (z_mt k).2.2.2.2.1 with
    | .ref a :: r => if z_cat r = true ∧ (z_mt k).1.name = "<init>" ∧ (z_mt k).2.2.2.1 = none then some (.inr (.inr (k, .ref a :: (st.take (z_mt k).2.2.2.2.1).reverse, r, nx))) else none
    | _ => none
  | _ => none
def z_sl : List Value → ZL
  | [] => []
  | v :: t => if v.category = 2 then some v :: none :: z_sl t else some v :: z_sl t
def z_ent (as : List Value) (n : Nat) : ZL := z_sl as ++ List.replicate (n - (z_sl as).length) none
/-- at most n steps, calls at most d deep: the answer and the cells behind it -/
def z_xm (S : ZS) : Nat → Nat → Nat → Nat → ZL → List Value → ZM → Option (Option Value × ZM)
  | 0, _, _, _, _, _, _ => none
  | n + 1, d, y, pc, ls, st, M => match z_code y pc with
    | none => none
    | some (nx, i) => match z_stp S y i nx ls st M with
      | none => none
      | some (.inl (pc', ls', st', M')) => z_xm S n d y pc' ls' st' M'
      | some (.inr (.inl r)) => some (r, M)
      | some (.inr (.inr (y', as, rest, nx'))) => match d with
        | 0 => none
        | d' + 1 => if (z_sl as).length ≤ (z_mt y').2.2.1 then match z_xm S n d' y' 0 (z_ent as (z_mt y').2.2.1) [] M with
          | none => none
          | some (r, M') => z_xm S n (d' + 1) y nx' ls (r.toList ++ rest) M'
          else none
