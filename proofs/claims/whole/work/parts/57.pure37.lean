theorem sim_c1 {M : Mm} {n k : Nat} (h : Sim M) (hz : M.1 1 1 = nI n) (hn : n ≤ 24) (hk : k ≤ 6) (hkk : M.1 33 1 = nI k) : Sim (cpB M (M.2 k) 1 n) := by
  obtain ⟨⟨n0, hv, hb⟩, ⟨k0, hk1, hk2, hk3, hk4, hk5, hk6⟩, hsl, ⟨l, hl1, hl2, hl3, hl4⟩⟩ := h
  have en : n0 = n := (nI_eq (by have := hv.2.2.1; omega) (by omega)).mp (hv.1.symm.trans hz)
  have ek : k0 = k := (nI_eq (by omega) (by omega)).mp (hk2.symm.trans hkk)
  subst en ek
  have hH := hk4 k0 (by omega)
  have hB := isH_B hH
  have o1 : ∀ q, q = 0 ∨ (27 ≤ q ∧ q < 35) ∨ q = 217 ∨ 270 ≤ q → (cpB M (M.2 k0) 1 n0).1 q = M.1 q := fun q hq => pro hB hn hq
  have z1 := o1 271 (by decide)
  refine ⟨⟨n0, by rw [z1]; exact Vb_by hB (Or.inl rfl) (isH_1 hH) hn hv, by rw [z1]; exact hb⟩, ⟨k0, hk1, by rw [o1 33 (by decide)]; exact hk2, by rw [o1 270 (by decide)]; exact hk3, hk4, hk5, fun j hj => ?_⟩, fun s hs2 => ?_, ⟨l, hl1, by rw [o1 30 (by decide)]; exact hl2, by rw [o1 270 (by decide)]; exact hl3, by rw [o1 31 (by decide), o1 275 (by decide)]; exact hl4⟩⟩
  · obtain ⟨n3, v3, b3⟩ := hk6 j hj
    rw [o1 272 (by decide)]
    exact ⟨n3, Vb_by hB (isH_B (hk4 j (by omega))) (fun e => by have := hk5 k0 j (by omega) (by omega) e; omega) hn v3, b3⟩
  · rw [o1 0 (by decide), o1 274 (by decide), o1 273 (by decide)]
    refine ⟨(hsl s hs2).1, fun g => ?_⟩
    obtain ⟨n3, v3, b3⟩ := (hsl s hs2).2 g
    exact ⟨n3, Vb_by hB (isB_s hs2) (isH_s hH hs2) hn v3, b3⟩
theorem past_j {M : Mm} {k j t : Nat} (hk : k ≤ 6) (hj : j < (if k = 6 then 5 else k)) (ht : t < 173) : (rcM M k).1 272 (173 * j + t) = M.1 272 (173 * (if k = 6 then j + 1 else j) + t) := by
  unfold rcM
  by_cases c : k = 6
  · rw [if_pos c] at hj ⊢
    rw [if_pos c, mset_n (by decide), mrow_s]
    unfold cpy shf
    rw [if_neg (fun q => by omega)]
    first | (rw [if_pos (by omega)]; congr 1; omega) | (rw [if_pos (by omega), show 173 * j + t + 173 = 173 * (j + 1) + t by omega])
  · rw [if_neg c] at hj ⊢
    rw [if_neg c, mset_n (by decide), mrow_s]
    unfold cpy
    rw [if_neg (fun q => by omega)]
theorem past_n {M : Mm} {k t : Nat} (hk : k ≤ 6) (ht : t < 173) : (rcM M k).1 272 (173 * (if k = 6 then 5 else k) + t) = M.1 271 t := by
  unfold rcM
  by_cases c : k = 6
  · rw [if_pos c, if_pos c, mset_n (by decide), mrow_s]
    unfold cpy
    rw [if_pos ⟨by omega, by omega⟩]
    rw [show 0 + (173 * 5 + t - 865) = t by omega]
  · rw [if_neg c, if_neg c, mset_n (by decide), mrow_s]
    unfold cpy
    rw [if_pos ⟨by omega, by omega⟩]
    rw [show 0 + (173 * k + t - 173 * k) = t by omega]
