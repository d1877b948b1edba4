/-! THE YARD: pure words. W by H cells, hs: the houses' bits -/
/-- the cell that a step leads to, houses or not -/
def p_off (W H c : Nat) (st : Int) : Option Nat :=
  if st = 0 then (if W ≤ c then some (c - W) else none)
  else if st = 1 then (if c % W + 1 < W then some (c + 1) else none)
  else if st = 2 then (if c + W < W * H then some (c + W) else none)
  else if st = 3 then (if 0 < c % W then some (c - 1) else none)
  else none
def p_free (W H : Nat) (hs : Int32) (c : Nat) : Bool := decide (c < W * H) && !bt hs c
/-- the cell that a step leads to, if it has no house -/
def p_to (W H : Nat) (hs : Int32) (c : Nat) (st : Int) : Option Nat := match p_off W H c st with
  | some t => if bt hs t = true then none else some t
  | none => none
def oI (o : Option Nat) (e : Int) : Int := match o with
  | some t => (t : Int)
  | none => e
theorem p_off_lt {W H c t : Nat} {st : Int} (hc : c < W * H) (h : p_off W H c st = some t) : t < W * H := by
  unfold p_off at h
  split at h
  · split at h
    · cases h; omega
    · cases h
  · split at h
    · split at h
      · rename_i g
        cases h
        have hW : 0 < W := by omega
        have e1 := Nat.div_add_mod c W
        have e2 : c / W < H := Nat.div_lt_of_lt_mul hc
        have e3 : W * (c / W) + W ≤ W * H := by
          rw [← Nat.mul_succ]
          exact Nat.mul_le_mul_left W e2
        omega
      · cases h
    · split at h
      · split at h
        · cases h; assumption
        · cases h
      · split at h
        · split at h
          · cases h; omega
          · cases h
        · cases h
theorem z_ifeq {p q : Prop} [Decidable p] [Decidable q] {a b : Int} (h : p ↔ q) : (if p then a else b) = (if q then a else b) := by
  by_cases g : p
  · rw [if_pos g, if_pos (h.mp g)]
  · rw [if_neg g, if_neg (fun x => g (h.mpr x))]
theorem p_WH {W H : Nat} (hW : W ≤ 5) (hH : H ≤ 5) : W * H ≤ 25 := Nat.mul_le_mul hW hH
