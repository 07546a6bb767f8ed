theorem p_undo {Y : Yt} {M : Mm} (h : Sim M) : Pr Y yX6_undo wsX6_undo { frames := 3, cells := 0, slots := 0, locals := 67 } yX7_undo wsX7_undo { frames := 0, cells := 0, slots := 0, locals := 0 } [] M := by
  have h0 := h
  obtain ⟨⟨n, hv, hb⟩, ⟨k, hk1, hk2, hk3, hk4⟩, hsl, ⟨l, hl1, hl2, hl3, hl4⟩⟩ := h0
  have hz := hv.1
  have hz2 := hv.2.1
  have hn := hv.2.2.1
  have hw := hv.2.2.2.2.2.2.2.2
  have hw2 := hv.wf
  cases k with
  | zero => exact ⟨_, _, _, f_undo_no hk2, r_undo_no hk3, h⟩
  | succ k =>
    obtain ⟨hk4, hk5, hk6⟩ := hk4
    obtain ⟨n2, v2, b2⟩ := hk6 k (by omega)
    have hB := isH_B (hk4 k (by omega))
    have n2l := v2.2.2.1
    have o1 : ∀ q, q = 0 ∨ (27 ≤ q ∧ q < 35) ∨ 218 ≤ q → (cpB M 1 (M.2 k) n2).1 q = M.1 q := fun q hq => cpB_out (by omega) (by omega)
    have hk7 : (mset (cpB M 1 (M.2 k) n2) 33 1 (nI k)).1 270 4 = nI (k + 1) := by rw [mset_n (by decide), o1 270 (by decide)]; exact hk3
    have zz : (mset (cpB M 1 (M.2 k) n2) 33 1 (nI k)).1 272 = M.1 272 := by rw [mset_n (by decide), o1 272 (by decide)]
    have lo : ∀ q, q < 270 → (mrow (mset (mset (cpB M 1 (M.2 k) n2) 33 1 (nI k)) 270 4 (nI k)) 271 (cpy ((mset (cpB M 1 (M.2 k) n2) 33 1 (nI k)).1 271) ((mset (cpB M 1 (M.2 k) n2) 33 1 (nI k)).1 272) 0 (173 * k) 173)).1 q = (mset (cpB M 1 (M.2 k) n2) 33 1 (nI k)).1 q := fun q hq => by rw [mrow_n (by omega), mset_n (by omega)]
    have hs : ∀ b, isB b → ∀ j, j < 26 → (mrow (mset (mset (cpB M 1 (M.2 k) n2) 33 1 (nI k)) 270 4 (nI k)) 271 (cpy ((mset (cpB M 1 (M.2 k) n2) 33 1 (nI k)).1 271) ((mset (cpB M 1 (M.2 k) n2) 33 1 (nI k)).1 272) 0 (173 * k) 173)).1 (b + j) = (cpB M 1 (M.2 k) n2).1 (b + j) := fun b hb j hj => by
      have := isB_33 hb hj
      rw [lo _ this.2.2.2.1, mset_n this.1]
    have z1 : ∀ t, t < 173 → M.1 272 (173 * k + t) = (mrow (mset (mset (cpB M 1 (M.2 k) n2) 33 1 (nI k)) 270 4 (nI k)) 271 (cpy ((mset (cpB M 1 (M.2 k) n2) 33 1 (nI k)).1 271) ((mset (cpB M 1 (M.2 k) n2) 33 1 (nI k)).1 272) 0 (173 * k) 173)).1 271 t := fun t ht => by
      rw [mrow_s, zz]
      unfold cpy
      rw [if_pos ⟨Nat.zero_le _, by omega⟩, Nat.sub_zero]
    refine ⟨_, (mset (cpB M 1 (M.2 k) n2) 33 1 (nI k)), (mrow (mset (mset (cpB M 1 (M.2 k) n2) 33 1 (nI k)) 270 4 (nI k)) 271 (cpy ((mset (cpB M 1 (M.2 k) n2) 33 1 (nI k)).1 271) ((mset (cpB M 1 (M.2 k) n2) 33 1 (nI k)).1 272) 0 (173 * k) 173)), f_undo (by omega) hk2 (fun i hi => ⟨isH_B (hk4 i hi), isH_1 (hk4 i hi)⟩) v2.1 n2l v2.2.2.2.2.2.2.2.2, r_undo (by omega) hk7, ⟨n2, Vb_Z z1 (Vb_q (hs 1 (Or.inl rfl)) (Vb_to v2)), Bd_Z n2l z1 b2⟩, ⟨k, by omega, ?_, ?_, hk4, hk5, fun j hj => ?_⟩, fun s hs2 => ?_, ⟨l, hl1, ?_, ?_, fun i hi => ?_⟩⟩
    · rw [lo 33 (by decide), mset_s, upd_s]
    · rw [mrow_n (by decide), mset_s, upd_s]
    · obtain ⟨n3, v3, b3⟩ := hk6 j (by omega)
      have e : (mrow (mset (mset (cpB M 1 (M.2 k) n2) 33 1 (nI k)) 270 4 (nI k)) 271 (cpy ((mset (cpB M 1 (M.2 k) n2) 33 1 (nI k)).1 271) ((mset (cpB M 1 (M.2 k) n2) 33 1 (nI k)).1 272) 0 (173 * k) 173)).1 272 = M.1 272 := by rw [mrow_n (by decide), mset_n (by decide)]; exact zz
      rw [e]
      have hd := isH_B (hk4 j (by omega))
      exact ⟨n3, Vb_q (hs _ hd) (Vb_by (Or.inl rfl) hd (isH_1 (hk4 j (by omega))).symm n2l v3), b3⟩
    · have e0 : (mrow (mset (mset (cpB M 1 (M.2 k) n2) 33 1 (nI k)) 270 4 (nI k)) 271 (cpy ((mset (cpB M 1 (M.2 k) n2) 33 1 (nI k)).1 271) ((mset (cpB M 1 (M.2 k) n2) 33 1 (nI k)).1 272) 0 (173 * k) 173)).1 0 = M.1 0 := by rw [lo 0 (by decide), mset_n (by decide), o1 0 (by decide)]
      have e4 : (mrow (mset (mset (cpB M 1 (M.2 k) n2) 33 1 (nI k)) 270 4 (nI k)) 271 (cpy ((mset (cpB M 1 (M.2 k) n2) 33 1 (nI k)).1 271) ((mset (cpB M 1 (M.2 k) n2) 33 1 (nI k)).1 272) 0 (173 * k) 173)).1 274 = M.1 274 := by rw [mrow_n (by decide), mset_n (by decide), mset_n (by decide), o1 274 (by decide)]
      have e3 : (mrow (mset (mset (cpB M 1 (M.2 k) n2) 33 1 (nI k)) 270 4 (nI k)) 271 (cpy ((mset (cpB M 1 (M.2 k) n2) 33 1 (nI k)).1 271) ((mset (cpB M 1 (M.2 k) n2) 33 1 (nI k)).1 272) 0 (173 * k) 173)).1 273 = M.1 273 := by rw [mrow_n (by decide), mset_n (by decide), mset_n (by decide), o1 273 (by decide)]
      rw [e0, e4, e3]
      refine ⟨(hsl s hs2).1, fun g => ?_⟩
      obtain ⟨n3, v3, b3⟩ := (hsl s hs2).2 g
      exact ⟨n3, Vb_q (hs _ (isB_s hs2)) (Vb_by (Or.inl rfl) (isB_s hs2) (by omega) n2l v3), b3⟩
    · rw [lo 30 (by decide), mset_n (by decide), o1 30 (by decide)]; exact hl2
    · rw [mrow_n (by decide), mset_s, upd_n (by decide), mset_n (by decide), o1 270 (by decide)]; exact hl3
    · rw [lo 31 (by decide), mset_n (by decide), o1 31 (by decide), mrow_n (by decide), mset_n (by decide), mset_n (by decide), o1 275 (by decide)]; exact hl4 i hi
