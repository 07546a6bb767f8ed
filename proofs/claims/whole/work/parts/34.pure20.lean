def fzC (v : UInt32) : Int32 := Op.cmpValue (FP.fcmp v 1065353216) .g
def fzL : Nat → UInt32 → Int32 → UInt32 × Int32
  | 0, v, p => (v, p)
  | f + 1, v, p => if 0 ≤ fzC v then (v, p) else fzL f (FP.fmul v 1073741824) (p + Int32.ofInt (-1))
def fzE : Nat → UInt32 → Bool
  | 0, v => decide (0 ≤ fzC v)
  | f + 1, v => decide (0 ≤ fzC v) || (decide (FP.fmul v 1073741824 &&& 0x7fffffff ≤ 0x7f800000) && fzE f (FP.fmul v 1073741824))
def bzT (v : UInt32) : UInt32 × Int32 := fzL 6 v 127
def bzR (v : UInt32) : Int32 := if Op.cmpValue (FP.fcmp v 0) .l = 0 then 0 else ((bzT v).2 <<< ((23 : Int32) &&& 31)) + FP.f2i (FP.fmul (bzT v).1 1258291200) - 8388608
def bzE (v : UInt32) : Bool := decide (Op.cmpValue (FP.fcmp v 0) .l = 0) || (fzE 6 v && decide (FP.fmul (bzT v).1 1258291200 &&& 0x7fffffff ≤ 0x7f800000))
def shV (a b : Nat) : UInt32 := FP.fdiv (FP.i2f (nI a)) (FP.i2f (nI b))
def shE (a b : Nat) : Bool := decide (shV a b &&& 0x7fffffff ≤ 0x7f800000) && bzE (shV a b)
theorem sh_all : ∀ b, b < 25 → b = 0 ∨ ∀ a, a < 25 → a ≤ b → shE a b = true ∧ bzR (shV a b) = fbR a b := by decide +kernel
