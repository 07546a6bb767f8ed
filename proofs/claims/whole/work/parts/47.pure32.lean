def isH (b : Nat) : Prop := ∃ i, i < 7 ∧ b = 35 + 26 * i
def Pad (M : Mm) (l : Nat) : Prop := l ≤ 80 ∧ M.1 30 1 = nI l ∧ M.1 270 6 = nI l ∧ ∀ i, i < l → M.1 31 i = M.1 275 i ∧ ∃ c, 33 ≤ c ∧ c ≤ 126 ∧ M.1 275 i = nI c
def His (M : Mm) (k : Nat) : Prop := k ≤ 6 ∧ M.1 33 1 = nI k ∧ M.1 270 4 = nI k ∧ (∀ i, i < 7 → isH (M.2 i)) ∧ (∀ i j, i < 7 → j < 7 → M.2 i = M.2 j → i = j) ∧ ∀ j, j < k → ∃ n, Vb M (M.2 j) (fun t => M.1 272 (173 * j + t)) n ∧ Bd (fun t => M.1 272 (173 * j + t)) n
def Slo (M : Mm) : Prop := ∀ s, s < 2 → ((bt (M.1 0 6) s = true ∧ ¬ M.1 274 s = 0) ∨ (bt (M.1 0 6) s = false ∧ M.1 274 s = 0)) ∧ (bt (M.1 0 6) s = true → ∃ n, Vb M (218 + 26 * s) (fun t => M.1 273 (173 * s + t)) n ∧ Bd (fun t => M.1 273 (173 * s + t)) n)
def Sim (M : Mm) : Prop := (∃ n, Vb M 1 (M.1 271) n ∧ Bd (M.1 271) n) ∧ (∃ k, His M k) ∧ Slo M ∧ (∃ l, Pad M l)
def Sq (M M2 : Mm) : Prop := M2.2 = M.2 ∧ (∀ k, k ≠ 28 → k ≠ 29 → k ≠ 32 → k ≠ 270 → k < 276 → M2.1 k = M.1 k) ∧ M2.1 270 4 = M.1 270 4 ∧ M2.1 270 6 = M.1 270 6
theorem Sq.refl (M : Mm) : Sq M M := ⟨rfl, fun _ _ _ _ _ _ => rfl, rfl, rfl⟩
theorem Sq.trans {A B C : Mm} (h : Sq A B) (g : Sq B C) : Sq A C := ⟨g.1.trans h.1, fun k a b c d e => (g.2.1 k a b c d e).trans (h.2.1 k a b c d e), g.2.2.1.trans h.2.2.1, g.2.2.2.trans h.2.2.2⟩
theorem isH_B {b : Nat} (h : isH b) : isB b := Or.inr (Or.inl h)
theorem isB_row {b j : Nat} (h : isB b) (hj : j < 26) : b + j ≠ 28 ∧ b + j ≠ 29 ∧ b + j ≠ 32 ∧ b + j ≠ 270 ∧ b + j < 276 := by
  rcases isB_cases h with g | g | g | g | g | g | g | g | g | g <;> omega
theorem Vb_q {M M2 : Mm} {b n : Nat} {Z : Nat → Int32} (hs : ∀ j, j < 26 → M2.1 (b + j) = M.1 (b + j)) (h : Vb M b Z n) : Vb M2 b Z n := by
  obtain ⟨h1, h2, h3, h4, h5, h6, h7, h8, h9⟩ := h
  have hb : M2.1 b = M.1 b := hs 0 (by decide)
  have hc : ∀ i, i < n → cp M2 b i = cp M b i := fun i hi => by
    unfold cp
    have := hs (2 + i) (by omega)
    rw [Nat.add_assoc, this]
  refine ⟨by rw [hb]; exact h1, h2, h3, fun i hi j hj => by rw [hc i hi]; exact h4 i hi j hj, by rw [hb]; exact h5, by rw [hb]; exact h6, by rw [hb]; exact h7, by rw [hb]; exact h8, ?_⟩
  exact WF_ext (fun i hi => by rw [hc i hi]; exact ⟨rfl, rfl, rfl⟩) h9
theorem Sq.vb {M M2 : Mm} {b n : Nat} {Z : Nat → Int32} (hs : Sq M M2) (hb : isB b) (h : Vb M b Z n) : Vb M2 b Z n :=
  Vb_q (fun j hj => by have := isB_row hb hj; exact hs.2.1 _ this.1 this.2.1 this.2.2.1 this.2.2.2.1 this.2.2.2.2) h
theorem sim_q {M M2 : Mm} (hs : Sq M M2) (h : Sim M) : Sim M2 := by
  obtain ⟨⟨n, hv, hb⟩, ⟨k, h1, h2, h3, h4, h5, h6⟩, hsl, ⟨l, p1, p2, p3, p4⟩⟩ := h
  have e : ∀ k, k ≠ 28 → k ≠ 29 → k ≠ 32 → k ≠ 270 → k < 276 → M2.1 k = M.1 k := hs.2.1
  have z1 : M2.1 271 = M.1 271 := e 271 (by decide) (by decide) (by decide) (by decide) (by decide)
  have z2 : M2.1 272 = M.1 272 := e 272 (by decide) (by decide) (by decide) (by decide) (by decide)
  have z3 : M2.1 273 = M.1 273 := e 273 (by decide) (by decide) (by decide) (by decide) (by decide)
  have z4 : M2.1 274 = M.1 274 := e 274 (by decide) (by decide) (by decide) (by decide) (by decide)
  have z5 : M2.1 275 = M.1 275 := e 275 (by decide) (by decide) (by decide) (by decide) (by decide)
  have z0 : M2.1 0 = M.1 0 := e 0 (by decide) (by decide) (by decide) (by decide) (by decide)
  have y0 : M2.1 30 = M.1 30 := e 30 (by decide) (by decide) (by decide) (by decide) (by decide)
  have y1 : M2.1 31 = M.1 31 := e 31 (by decide) (by decide) (by decide) (by decide) (by decide)
  have y3 : M2.1 33 = M.1 33 := e 33 (by decide) (by decide) (by decide) (by decide) (by decide)
  refine ⟨⟨n, by rw [z1]; exact hs.vb (Or.inl rfl) hv, by rw [z1]; exact hb⟩, ⟨k, h1, by rw [y3]; exact h2, by rw [hs.2.2.1]; exact h3, by rw [hs.1]; exact h4, by rw [hs.1]; exact h5, fun j hj => ?_⟩, fun s hs2 => ?_, ⟨l, p1, by rw [y0]; exact p2, by rw [hs.2.2.2]; exact p3, by rw [y1, z5]; exact p4⟩⟩
  · obtain ⟨n2, a, b⟩ := h6 j hj
    rw [hs.1, z2]
    exact ⟨n2, hs.vb (isH_B (h4 j (by omega))) a, b⟩
  · obtain ⟨a, b⟩ := hsl s hs2
    rw [z0, z4, z3]
    refine ⟨a, fun g => ?_⟩
    obtain ⟨n2, c, d⟩ := b g
    refine ⟨n2, hs.vb ?_ c, d⟩
    rcases Nat.lt_or_ge s 1 with q | q
    · have : s = 0 := by omega
      subst this
      exact Or.inr (Or.inr (Or.inl rfl))
    · have : s = 1 := by omega
      subst this
      exact Or.inr (Or.inr (Or.inr rfl))
theorem sq_lk {M : Mm} {n : Nat} : Sq M (lkM M n) := ⟨rfl, fun k _ _ _ _ h => by unfold lkM wt; rw [mrow_n (by omega), mrow_n (by omega)], by unfold lkM wt; rw [mrow_n (by decide), mrow_n (by decide)], by unfold lkM wt; rw [mrow_n (by decide), mrow_n (by decide)]⟩
theorem sq_ch {M : Mm} {n p : Nat} : Sq M (chM M n p) := ⟨rfl, fun k _ _ _ _ h => by unfold chM wt; rw [mrow_n (by omega), mrow_n (by omega)], by unfold chM wt; rw [mrow_n (by decide), mrow_n (by decide)], by unfold chM wt; rw [mrow_n (by decide), mrow_n (by decide)]⟩
theorem sq_cst {M : Mm} {q : (Nat → Int32) × (Nat → Int32)} : Sq M (cst M q) := ⟨rfl, fun k _ _ _ _ h => by unfold cst; rw [mrow_n (by omega), mrow_n (by omega)], by unfold cst; rw [mrow_n (by decide), mrow_n (by decide)], by unfold cst; rw [mrow_n (by decide), mrow_n (by decide)]⟩
theorem sq_wM {M : Mm} {q : (Nat → Int32) × (Nat → Int32)} : Sq M (wM M q) := ⟨rfl, fun k h1 h2 _ _ _ => by unfold wM; rw [mrow_n h2, mrow_n h1], by unfold wM; rw [mrow_n (by decide), mrow_n (by decide)], by unfold wM; rw [mrow_n (by decide), mrow_n (by decide)]⟩
theorem sq_rb {M : Mm} {n : Nat} : ∀ k, Sq M (rbS M n k).1 := by
  intro k
  induction k with
  | zero => exact Sq.refl M
  | succ k ih =>
    rw [rbS]
    split
    · exact (ih.trans sq_lk).trans sq_ch
    · exact ih.trans sq_lk
