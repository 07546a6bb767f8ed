theorem rot_i {f : Nat → Nat} {i : Nat} (hi : i < 6) : rot f i = f (i + 1) := if_pos hi
theorem rot_6 {f : Nat → Nat} : rot f 6 = f 0 := rfl
theorem rot_p {f : Nat → Nat} {i : Nat} (hi : i < 7) : ∃ j, j < 7 ∧ rot f i = f j ∧ (i = 6 ∧ j = 0 ∨ i < 6 ∧ j = i + 1) := by
  rcases Nat.lt_or_ge i 6 with g | g
  · exact ⟨i + 1, by omega, rot_i g, Or.inr ⟨g, rfl⟩⟩
  · have : i = 6 := by omega
    subst this
    exact ⟨0, by decide, rot_6, Or.inl ⟨rfl, rfl⟩⟩
theorem sim_new {M M2 : Mm} {n n2 k : Nat} (h : Sim M) (hz : M.1 1 1 = nI n) (hn : n ≤ 24) (hk : k ≤ 6) (hkk : M.1 33 1 = nI k)
    (h2 : M2.2 = if k < 6 then M.2 else rot M.2) (h33 : M2.1 33 1 = nI (if k = 6 then 6 else k + 1)) (h4 : M2.1 270 4 = nI (if k = 6 then 6 else k + 1)) (h6 : M2.1 270 6 = M.1 270 6)
    (h272 : M2.1 272 = (rcM M k).1 272) (hs : ∀ q, q = 0 ∨ q = 30 ∨ q = 31 ∨ q = 273 ∨ q = 274 ∨ q = 275 → M2.1 q = M.1 q)
    (hbn : ∀ b, isB b → b ≠ 1 → ∀ j, j < 26 → M2.1 (b + j) = (cpB M (M.2 k) 1 n).1 (b + j)) (hv2 : Vb M2 1 (M2.1 271) n2) (hb2 : Bd (M2.1 271) n2) : Sim M2 := by
  obtain ⟨⟨n0, hv, hb⟩, ⟨k0, hk1, hk2, hk3, hk4, hk5, hk6⟩, hsl, ⟨l, hl1, hl2, hl3, hl4⟩⟩ := h
  have en : n0 = n := (nI_eq (by have := hv.2.2.1; omega) (by omega)).mp (hv.1.symm.trans hz)
  have ek : k0 = k := (nI_eq (by omega) (by omega)).mp (hk2.symm.trans hkk)
  subst en ek
  have hH := hk4 k0 (by omega)
  have hB := isH_B hH
  have old : ∀ j, j < 7 → j ≠ k0 → ∀ m Z, Vb M (M.2 j) Z m → Vb M2 (M.2 j) Z m := fun j hj hne m Z v =>
    Vb_q (hbn _ (isH_B (hk4 j hj)) (isH_1 (hk4 j hj))) (Vb_by hB (isH_B (hk4 j hj)) (fun e => hne (hk5 k0 j (by omega) hj e).symm) hn v)
  have new : Vb M2 (M.2 k0) (M.1 271) n0 := Vb_q (hbn _ hB (isH_1 hH)) (Vb_to hv)
  refine ⟨⟨n2, hv2, hb2⟩, ⟨_, ?_, h33, h4, ?_, ?_, ?_⟩, fun s hs2 => ?_, ⟨l, hl1, by rw [hs 30 (by decide)]; exact hl2, by rw [h6]; exact hl3, by rw [hs 31 (by decide), hs 275 (by decide)]; exact hl4⟩⟩
  · split <;> omega
  · intro i hi
    rw [h2]
    split
    · exact hk4 i hi
    · obtain ⟨j, hj, e, _⟩ := rot_p (f := M.2) hi
      rw [e]
      exact hk4 j hj
  · intro i j hi hj
    rw [h2]
    split
    · exact hk5 i j hi hj
    · obtain ⟨a, ha, e1, g1⟩ := rot_p (f := M.2) hi
      obtain ⟨b, hb, e2, g2⟩ := rot_p (f := M.2) hj
      rw [e1, e2]
      intro e
      have := hk5 a b ha hb e
      omega
  · intro j hj
    rw [h2, h272]
    by_cases c : k0 = 6
    · rw [if_pos c] at hj
      rw [if_neg (by omega), rot_i (by omega)]
      by_cases d : j = 5
      · subst d
        have z : ∀ t, t < 173 → M.1 271 t = (rcM M k0).1 272 (173 * 5 + t) := fun t ht => by
          have := past_n (M := M) hk ht
          rw [if_pos c] at this
          exact this.symm
        rw [show (5 : Nat) + 1 = k0 by omega]
        exact ⟨n0, Vb_Z z new, Bd_Z hn z hb⟩
      · obtain ⟨m, v, b⟩ := hk6 (j + 1) (by omega)
        have z : ∀ t, t < 173 → M.1 272 (173 * (j + 1) + t) = (rcM M k0).1 272 (173 * j + t) := fun t ht => by
          have := past_j (M := M) (j := j) hk (by rw [if_pos c]; omega) ht
          rw [if_pos c] at this
          exact this.symm
        exact ⟨m, Vb_Z z (old (j + 1) (by omega) (by omega) m _ v), Bd_Z v.2.2.1 z b⟩
    · rw [if_neg c] at hj
      rw [if_pos (by omega)]
      by_cases d : j = k0
      · subst d
        have z : ∀ t, t < 173 → M.1 271 t = (rcM M j).1 272 (173 * j + t) := fun t ht => by
          have := past_n (M := M) hk ht
          rw [if_neg c] at this
          exact this.symm
        exact ⟨n0, Vb_Z z new, Bd_Z hn z hb⟩
      · obtain ⟨m, v, b⟩ := hk6 j (by omega)
        have z : ∀ t, t < 173 → M.1 272 (173 * j + t) = (rcM M k0).1 272 (173 * j + t) := fun t ht => by
          have := past_j (M := M) (j := j) hk (by rw [if_neg c]; omega) ht
          rw [if_neg c] at this
          exact this.symm
        exact ⟨m, Vb_Z z (old j (by omega) (by omega) m _ v), Bd_Z v.2.2.1 z b⟩
  · rw [hs 0 (by decide), hs 274 (by decide), hs 273 (by decide)]
    refine ⟨(hsl s hs2).1, fun g => ?_⟩
    obtain ⟨n3, v3, b3⟩ := (hsl s hs2).2 g
    exact ⟨n3, Vb_q (hbn _ (isB_s hs2) (by omega)) (Vb_by hB (isB_s hs2) (isH_s hH hs2) hn v3), b3⟩
