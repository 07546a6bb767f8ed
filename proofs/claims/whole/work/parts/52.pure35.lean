theorem sim_p {M M2 : Mm} (h2 : M2.2 = M.2) (e : ∀ k, k ≠ 28 → k ≠ 29 → k ≠ 30 → k ≠ 31 → k ≠ 32 → k ≠ 270 → k < 275 → M2.1 k = M.1 k) (h4 : M2.1 270 4 = M.1 270 4) (hp : ∃ l, Pad M2 l) (h : Sim M) : Sim M2 := by
  obtain ⟨⟨n, hv, hb⟩, ⟨k, h1, k2, h3, k4, h5, h6⟩, hsl, _⟩ := h
  have z1 : M2.1 271 = M.1 271 := e 271 (by decide) (by decide) (by decide) (by decide) (by decide) (by decide) (by decide)
  have z2 : M2.1 272 = M.1 272 := e 272 (by decide) (by decide) (by decide) (by decide) (by decide) (by decide) (by decide)
  have z3 : M2.1 273 = M.1 273 := e 273 (by decide) (by decide) (by decide) (by decide) (by decide) (by decide) (by decide)
  have z4 : M2.1 274 = M.1 274 := e 274 (by decide) (by decide) (by decide) (by decide) (by decide) (by decide) (by decide)
  have z0 : M2.1 0 = M.1 0 := e 0 (by decide) (by decide) (by decide) (by decide) (by decide) (by decide) (by decide)
  have y3 : M2.1 33 = M.1 33 := e 33 (by decide) (by decide) (by decide) (by decide) (by decide) (by decide) (by decide)
  have vb : ∀ {b n : Nat} {Z : Nat → Int32}, isB b → Vb M b Z n → Vb M2 b Z n := fun hb hv => Vb_q (fun j hj => by
    rcases isB_cases hb with g | g | g | g | g | g | g | g | g | g <;> exact e _ (by omega) (by omega) (by omega) (by omega) (by omega) (by omega) (by omega)) hv
  refine ⟨⟨n, by rw [z1]; exact vb (Or.inl rfl) hv, by rw [z1]; exact hb⟩, ⟨k, h1, by rw [y3]; exact k2, by rw [h4]; exact h3, by rw [h2]; exact k4, by rw [h2]; exact h5, fun j hj => ?_⟩, fun s hs2 => ?_, hp⟩
  · obtain ⟨n2, a, b⟩ := h6 j hj
    rw [h2, z2]
    exact ⟨n2, vb (isH_B (k4 j (by omega))) a, b⟩
  · obtain ⟨a, b⟩ := hsl s hs2
    rw [z0, z4, z3]
    refine ⟨a, fun g => ?_⟩
    obtain ⟨n2, c, d⟩ := b g
    refine ⟨n2, vb ?_ c, d⟩
    rcases Nat.lt_or_ge s 1 with q | q
    · have : s = 0 := by omega
      subst this
      exact Or.inr (Or.inr (Or.inl rfl))
    · have : s = 1 := by omega
      subst this
      exact Or.inr (Or.inr (Or.inr rfl))
theorem sn_in {x : Int64} {g : Nat} (hg : g ≤ 8) : ∀ f k, k + f = 8 → snL x f k = nI g → ∀ j, k ≤ j → j < g → ¬ (sgn x (nI j) < 33 ∨ ¬ sgn x (nI j) ≤ 126) := by
  have hE : ∀ k, k ≤ 8 → snE x k = nI g → ∀ j, k ≤ j → j < g → False := by
    intro k hk h j h1 h2
    unfold snE at h
    split at h
    · have := (nI_eq (a := 0) (b := g) (by decide) (by omega)).mp h
      omega
    · have := (nI_eq (a := k) (b := g) (by omega) (by omega)).mp h
      omega
  intro f
  induction f with
  | zero => intro k hk h j h1 h2; exact (hE k (by omega) h j h1 h2).elim
  | succ f ih =>
    intro k hk h j h1 h2
    rw [snL] at h
    by_cases c : sgn x (nI k) = 0
    · rw [if_pos c] at h
      exact (hE k (by omega) h j h1 h2).elim
    · rw [if_neg c] at h
      by_cases d : sgn x (nI k) < 33 ∨ ¬ sgn x (nI k) ≤ 126
      · rw [if_pos d] at h
        have := (nI_eq (a := 0) (b := g) (by decide) (by omega)).mp h
        omega
      · rw [if_neg d] at h
        by_cases e : j = k
        · rw [e]; exact d
        · exact ih (k + 1) (by omega) h j (by omega) h2
theorem in_nI {z : Int32} (h : ¬ (z < 33 ∨ ¬ z ≤ 126)) : ∃ c, 33 ≤ c ∧ c ≤ 126 ∧ z = nI c := by
  have h1 : ¬ z < 33 := fun g => h (Or.inl g)
  have h2 : z ≤ 126 := Classical.byContradiction (fun g => h (Or.inr g))
  rcases pk_ix z (n := 127) (by decide) with g | g | ⟨c, hc, ec⟩
  · exfalso
    rw [Int32.lt_iff_toInt_lt] at g h1
    have a : (0 : Int32).toInt = 0 := by decide
    have b : (33 : Int32).toInt = 33 := by decide
    omega
  · exfalso
    rw [Int32.le_iff_toInt_le] at g h2
    have a : (nI 127).toInt = 127 := by decide
    have b : (126 : Int32).toInt = 126 := by decide
    omega
  · refine ⟨c, ?_, by omega, ec⟩
    rcases Nat.lt_or_ge c 33 with q | q
    · exact absurd (by rw [ec]; exact nI_lt (b := 33) q (by decide)) h1
    · exact q
