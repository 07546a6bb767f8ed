def sh8 (r : Int64) : Int64 := (r.toUInt64 >>> ((8 : Int32).toInt64.toUInt64 &&& Int64.toUInt64 63)).toInt64
def pfL : Nat → Int64 → Nat → Bool → Nat × Bool
  | 0, _, i, b => (i, b)
  | f + 1, r, i, b => if lg_cmp r 0 = 0 then (i, b) else if b = false then (i, b) else pfL f (sh8 r) (i + 1) (inv (r &&& 255).toInt32 33 126)
theorem sh8_nat (r : Int64) : (sh8 r).toUInt64.toNat = r.toUInt64.toNat / 256 := by
  unfold sh8
  rw [UInt64.toUInt64_toInt64, show ((8 : Int32).toInt64.toUInt64 &&& Int64.toUInt64 63) = 8 by decide, UInt64.toNat_shiftRight]
  show r.toUInt64.toNat >>> 8 = _
  rw [Nat.shiftRight_eq_div_pow]
theorem i64_0 {r : Int64} (h : r.toUInt64.toNat < 1) : r = 0 := by
  have h1 : r.toUInt64 = 0 := UInt64.toNat_inj.mp (by show r.toUInt64.toNat = 0; omega)
  have h2 := congrArg UInt64.toInt64 h1
  rw [Int64.toInt64_toUInt64] at h2
  exact h2
theorem pfL_0 {f : Nat} {r : Int64} {i : Nat} {b : Bool} (h : lg_cmp r 0 = 0) : pfL f r i b = (i, b) := by
  cases f with
  | zero => rfl
  | succ f => rw [pfL, if_pos h]
theorem pf_f {f : Nat} {r : Int64} (h : r.toUInt64.toNat < 256 ^ f) (hc : ¬ lg_cmp r 0 = 0) : ∃ f2, f = f2 + 1 := by
  cases f with
  | zero =>
    rw [i64_0 (r := r) (by simpa using h)] at hc
    exact absurd (by decide) hc
  | succ f => exact ⟨f, rfl⟩
theorem pf_s {f : Nat} {r : Int64} (h : r.toUInt64.toNat < 256 ^ (f + 1)) : (sh8 r).toUInt64.toNat < 256 ^ f := by
  rw [sh8_nat]
  rw [Nat.pow_succ] at h
  exact Nat.div_lt_of_lt_mul (by rw [Nat.mul_comm]; exact h)
def apQ (M : Mm) (x : Int64) (l g t : Nat) : Nat → Int32 := fun j => if l ≤ j ∧ j < l + t then sgn x (nI (g - 1 - (j - l))) else M.1 275 j
def apQM (M : Mm) (x : Int64) (l g t : Nat) : Mm := mset (mrow M 275 (apQ M x l g t)) 270 6 (nI (l + t))
theorem apQ_6 {M : Mm} {x : Int64} {l g t : Nat} : (apQM M x l g t).1 270 6 = nI (l + t) := by unfold apQM; rw [mset_s, upd_s]
theorem apQ_0 {M : Mm} {x : Int64} {l g : Nat} (h : M.1 270 6 = nI l) : apQM M x l g 0 = M := by
  refine Prod.ext (funext fun k => ?_) rfl
  unfold apQM
  by_cases e : k = 270
  · subst e
    rw [mset_s, mrow_n (by decide)]
    funext j
    unfold upd
    by_cases q : j = 6
    · subst q; rw [if_pos rfl, h]
      rfl
    · rw [if_neg q]
  · rw [mset_n e]
    by_cases e2 : k = 275
    · subst e2
      rw [mrow_s]
      funext j
      unfold apQ
      rw [if_neg (by omega)]
    · rw [mrow_n e2]
theorem apQ_s {M : Mm} {x : Int64} {l g t : Nat} (ht : t < g) : mset (mset (apQM M x l g t) 275 (l + t) (sgn x (nI (g - 1 - t)))) 270 6 (nI (l + t + 1)) = apQM M x l g (t + 1) := by
  refine Prod.ext (funext fun k => ?_) rfl
  unfold apQM
  by_cases e : k = 270
  · subst e
    rw [mset_s, mset_n (by decide), mset_s, mset_s, mrow_n (by decide), mrow_n (by decide)]
    funext j
    unfold upd
    by_cases q : j = 6
    · subst q; rfl
    · simp [q]
  · rw [mset_n e, mset_n e]
    by_cases e2 : k = 275
    · subst e2
      rw [mset_s, mset_n (by decide), mrow_s, mrow_s]
      funext j
      unfold upd apQ
      by_cases q : j = l + t
      · subst q
        rw [if_pos rfl, if_pos (by omega)]
        rw [show l + t - l = t by omega]
      · rw [if_neg q]
        by_cases q2 : l ≤ j ∧ j < l + t
        · rw [if_pos q2, if_pos (by omega)]
        · rw [if_neg q2, if_neg (by omega)]
    · rw [mset_n e2, mset_n e, mrow_n e2, mrow_n e2]
