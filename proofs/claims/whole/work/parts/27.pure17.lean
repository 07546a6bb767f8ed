def inX (n : Nat) (x v : Int32) : Int32 := if ¬ x < 0 ∧ ¬ nI n ≤ x then v else -1
theorem inX_0 {n : Nat} {x v : Int32} (h : 0 ≤ inX n x v) : (¬ x < 0 ∧ ¬ nI n ≤ x) ∧ 0 ≤ v := by
  unfold inX at h
  split at h
  · rename_i q; exact ⟨q, h⟩
  · exact absurd h (by decide)
def whY (Z : Nat → Int32) (n : Nat) (c x p q : Int32) : Int32 := if c = 99 then wnC n x p q else if c = 97 then inX n x (wnA Z n x.toNatClampNeg p q) else if c = 119 then inX n x (wnW Z x.toNatClampNeg) else if c = 114 then inX n x (wnR Z x.toNatClampNeg) else if c = 116 then wnP Z x else 0
def doW (M : Mm) (n k : Nat) : Int32 := whY (M.1 271) n (M.1 280 (4 * k)) (M.1 280 (4 * k + 1)) (M.1 280 (4 * k + 2)) (M.1 280 (4 * k + 3))
def doB (M : Mm) (n k : Nat) : Bool := decide (0 ≤ doW M n k)
def doM (M : Mm) (n k : Nat) : Mm := if M.1 280 (4 * k) = 99 then flM M n (M.1 280 (4 * k + 1)) (-6) (M.1 280 (4 * k + 2)) (M.1 280 (4 * k + 3)) else if M.1 280 (4 * k) = 97 then flM M n (1 - M.1 271 (5 + 7 * (M.1 280 (4 * k + 1)).toNatClampNeg + 0)) (M.1 280 (4 * k + 1)) (M.1 280 (4 * k + 2)) (M.1 280 (4 * k + 3)) else if M.1 280 (4 * k) = 119 then mset M 271 (5 + 7 * (M.1 280 (4 * k + 1)).toNatClampNeg + 6) 1 else if M.1 280 (4 * k) = 114 then mset M 271 (5 + 7 * (M.1 280 (4 * k + 1)).toNatClampNeg + 3) (M.1 271 2) else if M.1 280 (4 * k) = 116 then mset M 271 2 (M.1 271 2 + M.1 280 (4 * k + 1)) else ovM M (M.1 280 (4 * k + 1))
theorem wnC_0 {n : Nat} {s p c : Int32} (h : 0 ≤ wnC n s p c) : ¬ n = 24 := by
  intro e
  unfold wnC at h
  split at h
  · first | (rw [if_pos e] at h; exact absurd h (by decide)) | exact absurd h (by decide)
  · exact absurd h (by decide)
theorem wnA_0 {Z : Nat → Int32} {n i : Nat} {p c : Int32} (h : 0 ≤ wnA Z n i p c) : ¬ n = 24 := by
  intro e
  unfold wnA at h
  split at h
  · first | (rw [if_pos e] at h; exact absurd h (by decide)) | exact absurd h (by decide)
  · exact absurd h (by decide)
theorem wY_99 {Z : Nat → Int32} {n : Nat} {c x p q : Int32} (hc : c = 99) (h : 0 ≤ whY Z n c x p q) : ¬ n = 24 := by
  unfold whY at h
  rw [if_pos hc] at h
  exact wnC_0 h
theorem wY_97 {Z : Nat → Int32} {n : Nat} {c x p q : Int32} (hn : n ≤ 24) (hc : c = 97) (h : 0 ≤ whY Z n c x p q) : ¬ n = 24 ∧ ∃ j, j < n ∧ x = nI j ∧ x.toNatClampNeg = j := by
  unfold whY at h
  rw [if_neg (by rw [hc]; decide), if_pos hc] at h
  have g := inX_0 h
  exact ⟨wnA_0 g.2, ix_of hn g.1⟩
theorem wY_119 {Z : Nat → Int32} {n : Nat} {c x p q : Int32} (hn : n ≤ 24) (hc : c = 119) (h : 0 ≤ whY Z n c x p q) : ∃ j, j < n ∧ x = nI j ∧ x.toNatClampNeg = j := by
  unfold whY at h
  rw [if_neg (by rw [hc]; decide), if_neg (by rw [hc]; decide), if_pos hc] at h
  exact ix_of hn (inX_0 h).1
theorem wY_114 {Z : Nat → Int32} {n : Nat} {c x p q : Int32} (hn : n ≤ 24) (hc : c = 114) (h : 0 ≤ whY Z n c x p q) : ∃ j, j < n ∧ x = nI j ∧ x.toNatClampNeg = j := by
  unfold whY at h
  rw [if_neg (by rw [hc]; decide), if_neg (by rw [hc]; decide), if_neg (by rw [hc]; decide), if_pos hc] at h
  exact ix_of hn (inX_0 h).1
theorem inX_n {n : Nat} {x v : Int32} (h : x < 0 ∨ nI n ≤ x) : inX n x v = -1 := by
  unfold inX
  rw [if_neg (fun g => h.elim g.1 g.2)]
