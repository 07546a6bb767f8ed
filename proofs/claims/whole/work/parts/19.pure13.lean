theorem lcF_0 {P : Nat → Nat → Int32} {t : Int32} {fl : Nat → Int32} {i a : Nat} (h : a ≤ i + 1) : lcF P t fl i a = 0 := by
  induction a with
  | zero => rfl
  | succ a ih => rw [lcF, if_neg (fun g => by omega), ih (by omega)]
theorem lcL_0 {P : Nat → Nat → Int32} {t x0 : Int32} {st : Nat → Int32} {i a : Nat} (h : a ≤ i + 1) : lcL P t st i x0 a = x0 := by
  induction a with
  | zero => rfl
  | succ a ih => rw [lcL, if_neg (fun g => by omega), ih (by omega)]
theorem tk_lk {M : Mm} {n : Nat} : tkR (lkM M n) n = tkR M n := by
  funext j
  unfold tkR
  rw [lk_z, lk_t]
  unfold tkR
  by_cases h0 : j = 0
  · rw [if_pos h0, if_pos h0]
  · rw [if_neg h0, if_neg h0]
    by_cases h1 : j = 1
    · rw [if_pos h1, if_pos h1]
    · rw [if_neg h1, if_neg h1]
theorem wy_lk {M : Mm} {n : Nat} : wyR (lkM M n) n = wyR M n := by
  funext j
  unfold wyR
  rw [lk_z, lk_w]
  by_cases h : j < n
  · rw [if_pos h, if_pos h]
  · rw [if_neg h, if_neg h]
    unfold lkW laR
    rw [if_neg (by omega)]
    unfold wyR
    rw [if_neg h]
def chW (M : Mm) (n : Nat) (p : Nat) : Nat → Int32 := laR (wyR M n) (nI p) (rp (M.1 271)) n 0
def chM (M : Mm) (n p : Nat) : Mm := wt M (chW M n p) (tkR M n)
def chP (M : Mm) (n p : Nat) : Nat → Bool := fun i => (stW M n i && pCl (rp (M.1 271)) i) ^^ ((chW M n p i == 0) && pCl (rp (M.1 271)) i)
theorem ch_z {M : Mm} {n p : Nat} : (chM M n p).1 271 = M.1 271 := wt_z
def rbS (M : Mm) (n : Nat) : Nat → Mm × Int32 × Int32
  | 0 => (M, -6, -6)
  | k + 1 => if inv (lkW (rbS M n k).1 n k) 1 4 = false ∧ mk (pTo (rp (M.1 271)) (nI k)) n = 0 then
      (chM (lkM (rbS M n k).1 n) n k, if nI (cnt (chP (lkM (rbS M n k).1 n) n k) n) ≤ (rbS M n k).2.2 then (rbS M n k).2.1 else nI k, if nI (cnt (chP (lkM (rbS M n k).1 n) n k) n) ≤ (rbS M n k).2.2 then (rbS M n k).2.2 else nI (cnt (chP (lkM (rbS M n k).1 n) n k) n))
    else (lkM (rbS M n k).1 n, (rbS M n k).2)
theorem rbS_z {M : Mm} {n k : Nat} : (rbS M n k).1.1 271 = M.1 271 := by
  induction k with
  | zero => rfl
  | succ k ih =>
    rw [rbS]
    split
    · show (chM (lkM (rbS M n k).1 n) n k).1 271 = _
      rw [ch_z, lk_z, ih]
    · show (lkM (rbS M n k).1 n).1 271 = _
      rw [lk_z, ih]
def rci (n : Nat) (now : Int32) : Nat → Nat → Mm → Int32 × Mm
  | 0, _, B => (-6, B)
  | f + 1, d, B => if mk (stW (mset B 271 2 (B.1 271 2 + 1)) n) n = now then rci n now f (d + 1) (lkM (mset B 271 2 (B.1 271 2 + 1)) n) else (nI d, lkM (mset B 271 2 (B.1 271 2 + 1)) n)
