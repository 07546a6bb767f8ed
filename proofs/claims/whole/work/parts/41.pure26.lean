theorem nI_sub {a b : Nat} (h : b ≤ a) : nI a - nI b = nI (a - b) := by
  have : nI (a - b) + nI b = nI a := by rw [nI_add, Nat.sub_add_cancel h]
  rw [← this, Int32.add_sub_cancel]
theorem lp_all {M : Mm} {n d i : Nat} (h : Vb M 1 (M.1 271) n) (hb : Bd (M.1 271) n) (hd : 61 ≤ d) (hd2 : d ≤ 200) (hi : i < n) : pLp (cp M 1) (M.1 1 2 + nI d) (M.1 1 4) i = (cp M 1 i 3 != -6) := by
  obtain ⟨d0, la, pg, h2, hd0, h0, hla, _, _, hp⟩ := hb
  obtain ⟨⟨s, hs, h5⟩, _⟩ := hp i hi
  unfold pLp
  rw [h.2.2.2.1 i hi 5 (by decide), h5, h.2.2.2.2.1, h.2.2.2.2.2.2.1, h2, h0, nI_add, nI_sub (by omega), decide_eq_false (nI_ge (by omega) (by omega))]
  simp
theorem ciS_ge {M : Mm} {n d : Nat} (h : Vb M 1 (M.1 271) n) (hb : Bd (M.1 271) n) (hd : 61 ≤ d) (hd2 : d ≤ 200) : ciS M n d = ciS M n 61 := by
  unfold ciS
  rw [mk_congr (p := pLp (cp M 1) (M.1 1 2 + nI d) (M.1 1 4)) (q := pLp (cp M 1) (M.1 1 2 + nI 61) (M.1 1 4)) (fun i hi => by rw [lp_all h hb hd hd2 hi, lp_all h hb (by decide) (by decide) hi])]
theorem ciF_z {M : Mm} {n : Nat} : ∀ g d, (∀ e, d ≤ e → e < d + g → ciS M n e = mk (bSd M 1 n) n) → ciF M n g d = -6 := by
  intro g
  induction g with
  | zero => intro d _; rfl
  | succ g ih =>
    intro d hall
    rw [ciF, if_pos (hall d (Nat.le_refl d) (by omega))]
    exact ih (d + 1) (fun e h1 h2 => hall e (by omega) (by omega))
theorem ciF_x {M : Mm} {n : Nat} : ∀ f g d, (∀ e, d + f ≤ e → e < d + f + 1 + g → ciS M n e = ciS M n (d + f)) → ciF M n (f + 1 + g) d = ciF M n (f + 1) d := by
  intro f
  induction f with
  | zero =>
    intro g d hall
    rw [show 0 + 1 + g = g + 1 by omega, ciF, ciF]
    by_cases c : ciS M n d = mk (bSd M 1 n) n
    · rw [if_pos c, if_pos c]
      exact ciF_z g (d + 1) (fun e h1 h2 => (hall e (by omega) (by omega)).trans c)
    · rw [if_neg c, if_neg c]
  | succ f ih =>
    intro g d hall
    rw [show f + 1 + 1 + g = (f + 1 + g) + 1 by omega, ciF, ciF]
    by_cases c : ciS M n d = mk (bSd M 1 n) n
    · rw [if_pos c, if_pos c]
      exact ih g (d + 1) (fun e h1 h2 => by rw [show d + 1 + f = d + (f + 1) by omega]; exact hall e (by omega) (by omega))
    · rw [if_neg c, if_neg c]
theorem ciF_100 {M : Mm} {n : Nat} (h : Vb M 1 (M.1 271) n) (hb : Bd (M.1 271) n) : ciF M n 100 1 = ciF M n 61 1 :=
  ciF_x 60 39 1 (fun e h1 h2 => ciS_ge h hb (by omega) (by omega))
theorem upd_same {f : Nat → Int32} {k : Nat} {v : Int32} (h : f k = v) : upd f k v = f := by
  funext j
  unfold upd
  split
  · rename_i e; rw [e, h]
  · rfl
theorem e_cF {M : Mm} {n : Nat} (h : Vb M 1 (M.1 271) n) (hb : Bd (M.1 271) n) : ciF M n 61 1 = (rci n (mk (stW M n) n) 100 1 (lkM M n)).1 ∧ (mset (rci n (mk (stW M n) n) 100 1 (lkM M n)).2 271 2 (M.1 271 2)).1 271 = M.1 271 := by
  have := e_ci h (e_sd h).symm 100 0 (lkM M n) (by rw [lk_z]; exact (upd_same (by show _ = M.1 271 2 + nI 0; rw [show nI 0 = (0 : Int32) from rfl, Int32.add_zero])).symm)
  rw [← ciF_100 h hb]
  exact this
theorem rci_n {n : Nat} {now : Int32} {k : Nat} (hk : k ≠ 271 ∧ k ≠ 276 ∧ k ≠ 277) : ∀ f d B, (rci n now f d B).2.1 k = B.1 k := by
  have hl : ∀ B : Mm, (lkM (mset B 271 2 (B.1 271 2 + 1)) n).1 k = B.1 k := fun B => by
    unfold lkM wt
    rw [mrow_n hk.2.2, mrow_n hk.2.1, mset_n hk.1]
  intro f
  induction f with
  | zero => intro d B; rfl
  | succ f ih =>
    intro d B
    rw [rci]
    split
    · rw [ih, hl]
    · exact hl B
