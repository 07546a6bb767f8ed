theorem ix01 {x : Int32} (h : x < 0 ∨ nI 2 ≤ x) : inv x 0 1 = false := by
  rw [← Bool.not_eq_true]
  intro g
  rcases inv01 g with e | e <;> subst e <;> rcases h with h | h <;> exact absurd h (by decide)
theorem p_save {Y : Yt} {M : Mm} (h : Sim M) (y : Int32) : Pr Y yX6_save wsX6_save { frames := 2, cells := 0, slots := 0, locals := 45 } yX7_save wsX7_save { frames := 1, cells := 0, slots := 0, locals := 22 } [.int y] M := by
  have h0 := h
  obtain ⟨⟨n, hv, hb⟩, ⟨k, hk1, hk2, hk3, hk4⟩, hsl, ⟨l, hl1, hl2, hl3, hl4⟩⟩ := h0
  have hz := hv.1
  have hz2 := hv.2.1
  have hn := hv.2.2.1
  have hw := hv.2.2.2.2.2.2.2.2
  have hw2 := hv.wf
  rcases pk_ix y (n := 2) (by decide) with g | g | ⟨x, hx, ex⟩
  · exact ⟨_, _, _, f_save_no (Or.inl g), r_save_no (ix01 (Or.inl g)), h⟩
  · exact ⟨_, _, _, f_save_no (Or.inr g), r_save_no (ix01 (Or.inr g)), h⟩
  · subst ex
    have hB := isB_s hx
    have o1 : ∀ q, q < 218 ∨ 270 ≤ q → (cpB M (218 + 26 * x) 1 n).1 q = M.1 q := fun q hq => cpB_out (by omega) (by omega)
    have zz : (mset (cpB M (218 + 26 * x) 1 n) 0 6 (M.1 0 6 ||| ((1 : Int32) <<< (nI x &&& 31)))).1 271 = M.1 271 := by rw [mset_n (by decide), o1 271 (by decide)]
    have lo : ∀ q, q < 270 → (mrow (mset (mset (cpB M (218 + 26 * x) 1 n) 0 6 (M.1 0 6 ||| ((1 : Int32) <<< (nI x &&& 31)))) 274 x 1) 273 (cpy ((mset (cpB M (218 + 26 * x) 1 n) 0 6 (M.1 0 6 ||| ((1 : Int32) <<< (nI x &&& 31)))).1 273) ((mset (cpB M (218 + 26 * x) 1 n) 0 6 (M.1 0 6 ||| ((1 : Int32) <<< (nI x &&& 31)))).1 271) (173 * x) 0 173)).1 q = (mset (cpB M (218 + 26 * x) 1 n) 0 6 (M.1 0 6 ||| ((1 : Int32) <<< (nI x &&& 31)))).1 q := fun q hq => by rw [mrow_n (by omega), mset_n (by omega)]
    have hs : ∀ b, isB b → ∀ j, j < 26 → (mrow (mset (mset (cpB M (218 + 26 * x) 1 n) 0 6 (M.1 0 6 ||| ((1 : Int32) <<< (nI x &&& 31)))) 274 x 1) 273 (cpy ((mset (cpB M (218 + 26 * x) 1 n) 0 6 (M.1 0 6 ||| ((1 : Int32) <<< (nI x &&& 31)))).1 273) ((mset (cpB M (218 + 26 * x) 1 n) 0 6 (M.1 0 6 ||| ((1 : Int32) <<< (nI x &&& 31)))).1 271) (173 * x) 0 173)).1 (b + j) = (cpB M (218 + 26 * x) 1 n).1 (b + j) := fun b hb j hj => by
      have := isB_33 hb hj
      rw [lo _ this.2.2.2.1, mset_n this.2.2.2.2]
    have hz9 : (mset (cpB M (218 + 26 * x) 1 n) 0 6 (M.1 0 6 ||| ((1 : Int32) <<< (nI x &&& 31)))).1 271 3 = nI n := by rw [zz]; exact hz2
    have e1 : (mrow (mset (mset (cpB M (218 + 26 * x) 1 n) 0 6 (M.1 0 6 ||| ((1 : Int32) <<< (nI x &&& 31)))) 274 x 1) 273 (cpy ((mset (cpB M (218 + 26 * x) 1 n) 0 6 (M.1 0 6 ||| ((1 : Int32) <<< (nI x &&& 31)))).1 273) ((mset (cpB M (218 + 26 * x) 1 n) 0 6 (M.1 0 6 ||| ((1 : Int32) <<< (nI x &&& 31)))).1 271) (173 * x) 0 173)).1 271 = M.1 271 := by rw [mrow_n (by decide), mset_n (by decide)]; exact zz
    have e2 : (mrow (mset (mset (cpB M (218 + 26 * x) 1 n) 0 6 (M.1 0 6 ||| ((1 : Int32) <<< (nI x &&& 31)))) 274 x 1) 273 (cpy ((mset (cpB M (218 + 26 * x) 1 n) 0 6 (M.1 0 6 ||| ((1 : Int32) <<< (nI x &&& 31)))).1 273) ((mset (cpB M (218 + 26 * x) 1 n) 0 6 (M.1 0 6 ||| ((1 : Int32) <<< (nI x &&& 31)))).1 271) (173 * x) 0 173)).1 272 = M.1 272 := by rw [mrow_n (by decide), mset_n (by decide), mset_n (by decide), o1 272 (by decide)]
    have e0 : (mrow (mset (mset (cpB M (218 + 26 * x) 1 n) 0 6 (M.1 0 6 ||| ((1 : Int32) <<< (nI x &&& 31)))) 274 x 1) 273 (cpy ((mset (cpB M (218 + 26 * x) 1 n) 0 6 (M.1 0 6 ||| ((1 : Int32) <<< (nI x &&& 31)))).1 273) ((mset (cpB M (218 + 26 * x) 1 n) 0 6 (M.1 0 6 ||| ((1 : Int32) <<< (nI x &&& 31)))).1 271) (173 * x) 0 173)).1 0 6 = M.1 0 6 ||| ((1 : Int32) <<< (nI x &&& 31)) := by rw [lo 0 (by decide), mset_s, upd_s]
    have e4 : (mrow (mset (mset (cpB M (218 + 26 * x) 1 n) 0 6 (M.1 0 6 ||| ((1 : Int32) <<< (nI x &&& 31)))) 274 x 1) 273 (cpy ((mset (cpB M (218 + 26 * x) 1 n) 0 6 (M.1 0 6 ||| ((1 : Int32) <<< (nI x &&& 31)))).1 273) ((mset (cpB M (218 + 26 * x) 1 n) 0 6 (M.1 0 6 ||| ((1 : Int32) <<< (nI x &&& 31)))).1 271) (173 * x) 0 173)).1 274 = upd (M.1 274) x 1 := by rw [mrow_n (by decide), mset_s, mset_n (by decide), o1 274 (by decide)]
    have e3 : (mrow (mset (mset (cpB M (218 + 26 * x) 1 n) 0 6 (M.1 0 6 ||| ((1 : Int32) <<< (nI x &&& 31)))) 274 x 1) 273 (cpy ((mset (cpB M (218 + 26 * x) 1 n) 0 6 (M.1 0 6 ||| ((1 : Int32) <<< (nI x &&& 31)))).1 273) ((mset (cpB M (218 + 26 * x) 1 n) 0 6 (M.1 0 6 ||| ((1 : Int32) <<< (nI x &&& 31)))).1 271) (173 * x) 0 173)).1 273 = cpy (M.1 273) (M.1 271) (173 * x) 0 173 := by rw [mrow_s, zz, mset_n (by decide), o1 273 (by decide)]
    refine ⟨_, (mset (cpB M (218 + 26 * x) 1 n) 0 6 (M.1 0 6 ||| ((1 : Int32) <<< (nI x &&& 31)))), (mrow (mset (mset (cpB M (218 + 26 * x) 1 n) 0 6 (M.1 0 6 ||| ((1 : Int32) <<< (nI x &&& 31)))) 274 x 1) 273 (cpy ((mset (cpB M (218 + 26 * x) 1 n) 0 6 (M.1 0 6 ||| ((1 : Int32) <<< (nI x &&& 31)))).1 273) ((mset (cpB M (218 + 26 * x) 1 n) 0 6 (M.1 0 6 ||| ((1 : Int32) <<< (nI x &&& 31)))).1 271) (173 * x) 0 173)), f_save hx hz hn hw, r_save hx hz9, ⟨n, by rw [e1]; exact Vb_q (hs 1 (Or.inl rfl)) (Vb_by hB (Or.inl rfl) (by omega) hn hv), by rw [e1]; exact hb⟩, ⟨k, hk1, ?_, ?_, hk4.1, hk4.2.1, fun j hj => ?_⟩, fun s hs2 => ?_, ⟨l, hl1, ?_, ?_, fun i hi => ?_⟩⟩
    · rw [lo 33 (by decide), mset_n (by decide), o1 33 (by decide)]; exact hk2
    · rw [mrow_n (by decide), mset_n (by decide), mset_n (by decide), o1 270 (by decide)]; exact hk3
    · obtain ⟨n3, v3, b3⟩ := hk4.2.2 j hj
      rw [e2]
      have hH := hk4.1 j (by omega)
      exact ⟨n3, Vb_q (hs _ (isH_B hH)) (Vb_by hB (isH_B hH) (isH_s hH hx).symm hn v3), b3⟩
    · rw [e0, e4, e3, b_or, bt_one (by omega) (by omega)]
      by_cases c : s = x
      · subst c
        have z1 : ∀ t, t < 173 → M.1 271 t = cpy (M.1 273) (M.1 271) (173 * s) 0 173 (173 * s + t) := fun t ht => by
          unfold cpy
          rw [if_pos ⟨by omega, by omega⟩, Nat.zero_add, Nat.add_sub_cancel_left]
        refine ⟨Or.inl ⟨by simp, by rw [upd_s]; decide⟩, fun _ => ⟨n, Vb_Z z1 (Vb_q (hs _ hB) (Vb_to hv)), Bd_Z hn z1 hb⟩⟩
      · rw [decide_eq_false c, Bool.or_false, upd_n c]
        refine ⟨(hsl s hs2).1, fun g => ?_⟩
        obtain ⟨n3, v3, b3⟩ := (hsl s hs2).2 g
        have z1 : ∀ t, t < 173 → M.1 273 (173 * s + t) = cpy (M.1 273) (M.1 271) (173 * x) 0 173 (173 * s + t) := fun t ht => by
          unfold cpy
          rw [if_neg (fun q => by omega)]
        exact ⟨n3, Vb_Z z1 (Vb_q (hs _ (isB_s hs2)) (Vb_by hB (isB_s hs2) (by omega) hn v3)), Bd_Z v3.2.2.1 z1 b3⟩
    · rw [lo 30 (by decide), mset_n (by decide), o1 30 (by decide)]; exact hl2
    · rw [mrow_n (by decide), mset_n (by decide), mset_n (by decide), o1 270 (by decide)]; exact hl3
    · rw [lo 31 (by decide), mset_n (by decide), o1 31 (by decide), mrow_n (by decide), mset_n (by decide), mset_n (by decide), o1 275 (by decide)]; exact hl4 i hi
