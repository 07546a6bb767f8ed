theorem mkz (p : Nat → Bool) (n : Nat) : mk p n ||| (if p n = true then (1 : Int32) <<< (nI n &&& 31) else 0) = mk p (n + 1) := by
  rw [mk]
  split
  · rfl
  · exact zero_or _
def low (x : Nat → Int32) (n : Nat) (t : Int32) (P : Nat → Nat → Int32) : Nat → Nat → Int32
  | 0, _ => -6
  | f + 1, a => if P a 3 = t ∧ x a = 0 then nI a else low x n t P f (a + 1)
def dyR (Z : Nat → Int32) (i : Nat) : Int32 := if rp Z i 3 = -6 ∨ pLp (rp Z) (Z 2) (Z 0) i = true then -6 else Z 0 - (Z 2 - rp Z i 5)
def isV (s v : Int32) : Bool := if s = 0 then inv v 1 60 else inv v 1 99
def isF (p c : Int32) : Bool := inv p 1 9 && inv c 0 1023
def wnC (n : Nat) (s p c : Int32) : Int32 := if inv s 0 1 = true ∧ isF p c = true then (if n = 24 then -4 else 0) else -2
def wnA (Z : Nat → Int32) (n i : Nat) (p c : Int32) : Int32 := if isF p c = true then (if n = 24 then -4 else if wd1 Z i = true then -5 else 0) else -2
def wnW (Z : Nat → Int32) (i : Nat) : Int32 := if wd1 Z i = true then -5 else 0
def wnR (Z : Nat → Int32) (i : Nat) : Int32 := if pCl (rp Z) i = true ∨ wd1 Z i = true then -5 else 0
def wnP (Z : Nat → Int32) (d : Int32) : Int32 := if inv d 1 99 = true then (if Z 2 + d ≤ 999 then 0 else -5) else -2
def flM (M : Mm) (n : Nat) (s t p c : Int32) : Mm := mset (mset (mset (mset (mset (mset (mset (mset M 271 (5 + 7 * n + 0) s) 271 (5 + 7 * n + 1) p) 271 (5 + 7 * n + 2) (M.1 271 2)) 271 (5 + 7 * n + 3) (M.1 271 2)) 271 (5 + 7 * n + 4) t) 271 (5 + 7 * n + 5) c) 271 (5 + 7 * n + 6) 0) 271 3 (nI (n + 1))
def ovM (M : Mm) (w : Int32) : Mm := mset M 271 4 (M.1 271 4 ^^^ ((1 : Int32) <<< (w &&& 31)))
def ovR (M : Mm) (w : Int32) : Int32 := ((M.1 271 4 ^^^ ((1 : Int32) <<< (w &&& 31))) >>> (w &&& 31)) &&& 1
theorem mset_271 {M : Mm} {j j2 : Nat} {v : Int32} (h : j ≠ j2) : (mset M 271 j2 v).1 271 j = M.1 271 j := by rw [mset_s, upd_n h]
theorem mset_271s {M : Mm} {j : Nat} {v : Int32} : (mset M 271 j v).1 271 j = v := by rw [mset_s, upd_s]
