theorem rp_Z {Z W : Nat → Int32} (h : ∀ t, t < 173 → Z t = W t) {i j : Nat} (hi : i < 24) (hj : j < 7) : rp Z i j = rp W i j := by
  unfold rp
  have : rf j < 7 := by
    have hr : ∀ j, j < 7 → rf j < 7 := by decide
    exact hr j hj
  exact h _ (by omega)
theorem Vb_Z {M : Mm} {b n : Nat} {Z W : Nat → Int32} (h : ∀ t, t < 173 → Z t = W t) (hv : Vb M b Z n) : Vb M b W n := by
  obtain ⟨h1, h2, h3, h4, h5, h6, h7, h8, h9⟩ := hv
  exact ⟨h1, by rw [← h 3 (by decide)]; exact h2, h3, fun i hi j hj => by rw [← rp_Z h (by omega) hj]; exact h4 i hi j hj, by rw [← h 2 (by decide)]; exact h5, by rw [← h 4 (by decide)]; exact h6, by rw [← h 0 (by decide)]; exact h7, by rw [← h 1 (by decide)]; exact h8, h9⟩
theorem Bd_Z {n : Nat} {Z W : Nat → Int32} (hn : n ≤ 24) (h : ∀ t, t < 173 → Z t = W t) (hb : Bd Z n) : Bd W n := by
  obtain ⟨d, la, pg, h2, hd, h0, hla, h1, hpg, hp⟩ := hb
  exact ⟨d, la, pg, by rw [← h 2 (by decide)]; exact h2, hd, by rw [← h 0 (by decide)]; exact h0, hla, by rw [← h 1 (by decide)]; exact h1, hpg, fun i hi => by rw [← rp_Z h (by omega) (by decide), ← rp_Z h (by omega) (by decide)]; exact hp i hi⟩
theorem Vb_to {M : Mm} {b c n : Nat} {Z : Nat → Int32} (hv : Vb M c Z n) : Vb (cpB M b c n) b Z n := by
  obtain ⟨h1, h2, h3, h4, h5, h6, h7, h8, h9⟩ := hv
  have hr : ∀ j, 1 ≤ j → j ≤ 5 → (cpB M b c n).1 b j = M.1 c j := fun j g1 g2 => by rw [cpB_b]; exact if_pos ⟨g1, g2⟩
  have hc : ∀ i j, i < n → j < 7 → cp (cpB M b c n) b i j = cp M c i j := fun i j hi hj => by unfold cp; rw [cpB_in hi]; exact if_pos hj
  refine ⟨by rw [hr 1 (by decide) (by decide)]; exact h1, h2, h3, fun i hi j hj => by rw [hc i j hi hj]; exact h4 i hi j hj, by rw [hr 2 (by decide) (by decide)]; exact h5, by rw [hr 3 (by decide) (by decide)]; exact h6, by rw [hr 4 (by decide) (by decide)]; exact h7, by rw [hr 5 (by decide) (by decide)]; exact h8, ?_⟩
  exact WF_ext (fun i hi => ⟨(hc i 0 hi (by decide)).symm, (hc i 3 hi (by decide)).symm, (hc i 6 hi (by decide)).symm⟩) h9
theorem Vb_by {M : Mm} {b c d m n : Nat} {Z : Nat → Int32} (hb : isB b) (hd : isB d) (hne : b ≠ d) (hm : m ≤ 24) (hv : Vb M d Z n) : Vb (cpB M b c m) d Z n :=
  Vb_q (fun j hj => by
    have := isB_apart hb hd hne
    exact cpB_out (by omega) (by omega)) hv
theorem isH_1 {b : Nat} (h : isH b) : b ≠ 1 := by
  obtain ⟨i, hi, e⟩ := h
  omega
theorem isH_s {b s : Nat} (h : isH b) (hs : s < 2) : b ≠ 218 + 26 * s := by
  obtain ⟨i, hi, e⟩ := h
  omega
theorem isB_s {s : Nat} (hs : s < 2) : isB (218 + 26 * s) := by
  rcases Nat.lt_or_ge s 1 with q | q
  · have : s = 0 := by omega
    subst this
    exact Or.inr (Or.inr (Or.inl rfl))
  · have : s = 1 := by omega
    subst this
    exact Or.inr (Or.inr (Or.inr rfl))
theorem isB_33 {b j : Nat} (h : isB b) (hj : j < 26) : b + j ≠ 33 ∧ b + j ≠ 30 ∧ b + j ≠ 31 ∧ b + j < 270 ∧ b + j ≠ 0 := by
  rcases isB_cases h with g | g | g | g | g | g | g | g | g | g <;> omega
