def rk (x : Int64) (k : Nat) : Int64 := (x.toUInt64 >>> ((8 * nI k).toInt64.toUInt64 &&& Int64.toUInt64 63)).toInt64
theorem i64_inj {a b : Int64} (h : a.toUInt64.toNat = b.toUInt64.toNat) : a = b := by
  have h1 : a.toUInt64 = b.toUInt64 := UInt64.toNat_inj.mp h
  have h2 := congrArg UInt64.toInt64 h1
  rw [Int64.toInt64_toUInt64, Int64.toInt64_toUInt64] at h2
  exact h2
theorem rk_nat (x : Int64) {k : Nat} (hk : k < 8) : (rk x k).toUInt64.toNat = x.toUInt64.toNat / 256 ^ k := by
  have hs : ∀ k, k < 8 → ((8 * nI k).toInt64.toUInt64 &&& Int64.toUInt64 63) = UInt64.ofNat (8 * k) := by decide +kernel
  unfold rk
  rw [UInt64.toUInt64_toInt64, hs k hk, UInt64.toNat_shiftRight]
  have : (UInt64.ofNat (8 * k)).toNat % 64 = 8 * k := by
    have hs2 : ∀ k, k < 8 → (UInt64.ofNat (8 * k)).toNat % 64 = 8 * k := by decide +kernel
    exact hs2 k hk
  rw [this, Nat.shiftRight_eq_div_pow, Nat.pow_mul]
theorem rk_s {x : Int64} {k : Nat} (hk : k + 1 < 8) : sh8 (rk x k) = rk x (k + 1) := by
  refine i64_inj ?_
  rw [sh8_nat, rk_nat x (by omega), rk_nat x hk, Nat.pow_succ, Nat.div_div_eq_div_mul]
theorem rk_0 (x : Int64) : rk x 0 = x := by
  refine i64_inj ?_
  rw [rk_nat x (by decide), Nat.pow_zero, Nat.div_one]
theorem ch_nat (r : Int64) : ((r &&& 255).toInt32.toUInt32).toNat = r.toUInt64.toNat % 256 := by
  show ((r.toBitVec &&& 255#64).signExtend 32).toNat = r.toBitVec.toNat % 256
  rw [BitVec.signExtend_eq_setWidth_of_le _ (by decide), BitVec.toNat_setWidth, BitVec.toNat_and]
  show (r.toBitVec.toNat &&& (2 ^ 8 - 1)) % 2 ^ 32 = _
  rw [Nat.and_two_pow_sub_one_eq_mod]
  omega
theorem sgn_rk (x : Int64) (k : Nat) : sgn x (nI k) = (rk x k &&& 255).toInt32 := by
  show ((rk x k &&& 255).toInt32.toUInt32 % 65536).toInt32 = _
  have h := ch_nat (rk x k)
  have e : (rk x k &&& 255).toInt32.toUInt32 % 65536 = (rk x k &&& 255).toInt32.toUInt32 := by
    refine UInt32.toNat_inj.mp ?_
    rw [UInt32.toNat_mod]
    show _ % 65536 = _
    rw [h]
    omega
  rw [e]
  rfl
theorem pfL_f (f : Nat) (r : Int64) (i : Nat) : pfL f r i false = (i, false) := by
  cases f with
  | zero => rfl
  | succ f =>
    rw [pfL]
    split
    · rfl
    · rw [if_pos rfl]
theorem lg_eq {r : Int64} (h : lg_cmp r 0 = 0) : r = 0 := by
  unfold lg_cmp at h
  split at h
  · exact absurd h (by decide)
  · split at h
    · first | assumption | exact absurd h (by decide)
    · first | (refine Int64.toInt_inj.mp ?_; rename_i a b; rw [Int64.lt_iff_toInt_lt] at a b; omega) | exact absurd h (by decide)
theorem e_pf {x : Int64} : ∀ f k, k + f = 8 → ∀ r, (k < 8 → r = rk x k) → (∃ g, k ≤ g ∧ g ≤ 8 ∧ snL x f k = nI g ∧ pfL f r k true = (g, true)) ∨ (snL x f k = 0 ∧ (pfL f r k true).2 = false) := by
  intro f
  induction f with
  | zero =>
    intro k hk r _
    refine Or.inl ⟨k, Nat.le_refl k, by omega, ?_, rfl⟩
    rw [snL, snE, if_neg (fun g => by omega)]
  | succ f ih =>
    intro k hk r hr
    have hr := hr (by omega)
    have hb : ∀ b, b = inv (r &&& 255).toInt32 33 126 → b = false → (pfL f (sh8 r) (k + 1) b).2 = false := fun b _ h2 => by rw [h2, pfL_f]
    rw [snL, pfL, sgn_rk, ← hr]
    by_cases h0 : lg_cmp r 0 = 0
    · rw [if_pos h0]
      refine Or.inl ⟨k, Nat.le_refl k, by omega, ?_, rfl⟩
      have hsn : snE x k = nI k := by
        unfold snE
        rw [if_neg (fun g => g.2 (by show lg_cmp (rk x k) 0 = 0; rw [← hr]; exact h0))]
      by_cases hc : (r &&& 255).toInt32 = 0
      · rw [if_pos hc]; exact hsn
      · exfalso
        have hz : r = 0 := lg_eq h0
        rw [hz] at hc
        exact hc (by decide)
    · rw [if_neg h0, if_neg (show ¬ (true = false) by decide)]
      by_cases hc : (r &&& 255).toInt32 = 0
      · rw [if_pos hc]
        refine Or.inr ⟨?_, hb _ rfl (by rw [hc]; decide)⟩
        unfold snE
        rw [if_pos ⟨by omega, by show ¬ lg_cmp (rk x k) 0 = 0; rw [← hr]; exact h0⟩]
      · rw [if_neg hc]
        by_cases hx : (r &&& 255).toInt32 < 33 ∨ ¬ (r &&& 255).toInt32 ≤ 126
        · rw [if_pos hx]
          refine Or.inr ⟨rfl, hb _ rfl ?_⟩
          unfold inv
          rcases hx with g | g
          · rw [decide_eq_true g]; rfl
          · rw [decide_eq_true (show (126 : Int32) < (r &&& 255).toInt32 by rw [Int32.lt_iff_toInt_lt]; rw [Int32.le_iff_toInt_le] at g; omega)]; simp
        · rw [if_neg hx]
          have hi : inv (r &&& 255).toInt32 33 126 = true := by
            unfold inv
            rw [decide_eq_false (fun g => hx (Or.inl g)), decide_eq_false (fun g => hx (Or.inr (by rw [Int32.le_iff_toInt_le]; rw [Int32.lt_iff_toInt_lt] at g; omega)))]
            rfl
          rw [hi]
          rcases ih (k + 1) (by omega) (sh8 r) (fun h => by rw [hr]; exact rk_s h) with ⟨g, h1, h2, h3, h4⟩ | ⟨h1, h2⟩
          · exact Or.inl ⟨g, by omega, h2, h3, h4⟩
          · exact Or.inr ⟨h1, h2⟩
theorem e_put (x : Int64) : (∃ g, g ≤ 8 ∧ snL x 8 0 = nI g ∧ pfL 8 x 0 true = (g, true)) ∨ (snL x 8 0 = 0 ∧ (pfL 8 x 0 true).2 = false) := by
  rcases e_pf (x := x) 8 0 rfl x (fun _ => (rk_0 x).symm) with ⟨g, _, h2, h3, h4⟩ | h
  · exact Or.inl ⟨g, h2, h3, h4⟩
  · exact Or.inr h
