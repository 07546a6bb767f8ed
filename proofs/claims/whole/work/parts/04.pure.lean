theorem upTo {P : Nat → Prop} (N : Nat) (step : ∀ n, n ≤ N → (n < N → P (n + 1)) → P n) : ∀ n, n ≤ N → P n := by
  have h : ∀ d n, n + d = N → P n := by
    intro d
    induction d with
    | zero => intro n hn; exact step n (by omega) (fun h => absurd h (by omega))
    | succ d ih => intro n hn; exact step n (by omega) (fun _ => ih (n + 1) (by omega))
  exact fun n hn => h (N - n) n (by omega)
theorem downTo {P : Nat → Prop} (step : ∀ n, (∀ m, m < n → P m) → P n) : ∀ n, P n := fun n => Nat.strongRecOn n step
theorem nI_inc (n : Nat) : nI n + Int32.ofInt 1 = nI (n + 1) := nI_1 n
theorem nI_dec (n : Nat) : nI (n + 1) + Int32.ofInt (-1) = nI n := by
  rw [nI_succ]
  have e : Int32.ofInt (-1) = -1 := by decide
  rw [e, Int32.add_assoc]
  have e2 : (1 : Int32) + -1 = 0 := by decide
  rw [e2, Int32.add_zero]
def mk (p : Nat → Bool) : Nat → Int32
  | 0 => 0
  | n + 1 => if p n = true then mk p n ||| ((1 : Int32) <<< (nI n &&& 31)) else mk p n
theorem mk_t {p : Nat → Bool} {n : Nat} (h : p n = true) : mk p n ||| ((1 : Int32) <<< (nI n &&& 31)) = mk p (n + 1) := by rw [mk, if_pos h]
theorem mk_f {p : Nat → Bool} {n : Nat} (h : p n = false) : mk p n = mk p (n + 1) := by rw [mk, if_neg (by rw [h]; decide)]
theorem of_le {a k : Nat} (h : nI a ≤ nI k) (ha : a < 2 ^ 31) (hk : k < 2 ^ 31) : a ≤ k := (nI_leI ha hk).mp h
theorem of_nle {a k : Nat} (h : ¬ nI a ≤ nI k) (ha : a < 2 ^ 31) (hk : k < 2 ^ 31) : k < a := Nat.lt_of_not_le (fun q => h ((nI_leI ha hk).mpr q))
theorem of_lt {a k : Nat} (h : nI a < nI k) (ha : a < 2 ^ 31) (hk : k < 2 ^ 31) : a < k := (nI_ltI ha hk).mp h
theorem of_nlt {a k : Nat} (h : ¬ nI a < nI k) (ha : a < 2 ^ 31) (hk : k < 2 ^ 31) : k ≤ a := Nat.le_of_not_lt (fun q => h ((nI_ltI ha hk).mpr q))
