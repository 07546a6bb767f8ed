theorem e_smR {M : Mm} {n : Nat} {s : Int32} (h : Vb M 1 (M.1 271) n) : sm (cp M 1) s (mk (pWd (cp M 1)) n) n = smR (rp (M.1 271)) s (M.1 271) n := by
  have hn := h.2.2.1
  have key : ∀ k, k ≤ n → sm (cp M 1) s (mk (pWd (cp M 1)) n) k = smR (rp (M.1 271)) s (M.1 271) k := by
    intro k
    induction k with
    | zero => intro _; rfl
    | succ k ih =>
      intro hk
      have e : bt (mk (pWd (cp M 1)) n) k = wd1 (M.1 271) k := by
        rw [bt_mk _ (by omega) (by omega), decide_eq_true (show k < n by omega), Bool.true_and, wd1_pWd h.wf (show k < n by omega), h.2.2.2.1.wd (show k < n by omega)]
      rw [sm, smR, ih (by omega), e, h.2.2.2.1 k (by omega) 0 (by decide), h.2.2.2.1 k (by omega) 1 (by decide)]
      by_cases c : rp (M.1 271) k 0 = s ∧ wd1 (M.1 271) k = false
      · rw [if_pos c, if_pos c]
      · rw [if_neg c, if_neg c, Int32.add_zero]
  exact key n (Nat.le_refl n)
theorem imax3 (a b : Int32) : imax 1 (imax a b) = if b ≤ (if a ≤ 1 then 1 else a) then (if a ≤ 1 then 1 else a) else b := by
  unfold imax
  have t1 : (1 : Int32).toInt = 1 := by decide
  by_cases c1 : a < b <;> by_cases c2 : a ≤ 1
  · rw [if_pos c1, if_pos c2]
    by_cases c3 : b ≤ 1
    · rw [if_pos c3, if_neg (by rw [Int32.lt_iff_toInt_lt]; rw [Int32.le_iff_toInt_le] at c3; omega)]
    · rw [if_neg c3, if_pos (by rw [Int32.lt_iff_toInt_lt]; rw [Int32.le_iff_toInt_le] at c3; omega)]
  · rw [if_pos c1, if_neg c2]
    rw [Int32.lt_iff_toInt_lt] at c1
    rw [Int32.le_iff_toInt_le] at c2
    rw [if_pos (by rw [Int32.lt_iff_toInt_lt]; omega), if_neg (by rw [Int32.le_iff_toInt_le]; omega)]
  · rw [if_neg c1, if_pos c2]
    rw [Int32.lt_iff_toInt_lt] at c1
    rw [Int32.le_iff_toInt_le] at c2
    rw [if_neg (by rw [Int32.lt_iff_toInt_lt]; omega), if_pos (by rw [Int32.le_iff_toInt_le]; omega)]
  · rw [if_neg c1, if_neg c2]
    rw [Int32.lt_iff_toInt_lt] at c1
    rw [Int32.le_iff_toInt_le] at c2
    rw [if_pos (by rw [Int32.lt_iff_toInt_lt]; omega), if_pos (by rw [Int32.le_iff_toInt_le]; omega)]
theorem e_lp {M : Mm} {n : Nat} (h : Vb M 1 (M.1 271) n) : lpR M n = if 99 < rlN (M.1 271) n 2 then -6 else rlN (M.1 271) n 2 := by
  have e : lpN M n = rlN (M.1 271) n 2 := by
    unfold lpN
    rw [e_smR h, e_smR h, imax3]
    rfl
  unfold lpR
  rw [e]
  by_cases c : rlN (M.1 271) n 2 ≤ 99
  · rw [if_pos c, if_neg (by rw [Int32.lt_iff_toInt_lt]; rw [Int32.le_iff_toInt_le] at c; omega)]
  · rw [if_neg c, if_pos (by rw [Int32.lt_iff_toInt_lt]; rw [Int32.le_iff_toInt_le] at c; omega)]
theorem Vb.day {M : Mm} {n : Nat} {v : Int32} (h : Vb M 1 (M.1 271) n) : Vb (mset (mset M 271 2 v) 1 2 v) 1 ((mset (mset M 271 2 v) 1 2 v).1 271) n := by
  obtain ⟨h1, h2, h3, h4, h5, h6, h7, h8, h9⟩ := h
  have hz : (mset (mset M 271 2 v) 1 2 v).1 271 = upd (M.1 271) 2 v := by rw [mset_n (by decide), mset_s]
  have hr : ∀ i j, rp (upd (M.1 271) 2 v) i j = rp (M.1 271) i j := fun i j => by unfold rp; exact upd_n (by omega)
  have hc : ∀ i j, cp (mset (mset M 271 2 v) 1 2 v) 1 i j = (mset M 271 2 v).1 (1 + 2 + i) j := fun i j => by unfold cp; rw [mset_n (by omega)]
  rw [hz]
  have ho : ∀ j, j ≠ 2 → (mset (mset M 271 2 v) 1 2 v).1 1 j = M.1 1 j := fun j hj => by rw [mset_s, upd_n hj, mset_n (by decide)]
  refine ⟨by rw [ho 1 (by decide)]; exact h1, by rw [upd_n (by decide)]; exact h2, h3, fun i hi j hj => ?_, by rw [mset_s, upd_s, upd_s], by rw [ho 3 (by decide), upd_n (by decide)]; exact h6, by rw [ho 4 (by decide), upd_n (by decide)]; exact h7, by rw [ho 5 (by decide), upd_n (by decide)]; exact h8, ?_⟩
  · rw [hr, hc, mset_n (by omega)]
    exact h4 i hi j hj
  · refine WF_ext (fun i hi => ?_) h9
    rw [hc, hc, hc, mset_n (by omega)]
    exact ⟨rfl, rfl, rfl⟩
theorem lkW_z {M M2 : Mm} {n i : Nat} (h : M.1 271 = M2.1 271) (hi : i < n) : lkW M n i = lkW M2 n i := by
  have e : ∀ a, a < n → wyR M n a = wyR M2 n a := fun a ha => by rw [wy_i ha, wy_i ha, h]
  have hs : laS (wyR M n) (-6) (rp (M.1 271)) n i = laS (wyR M2 n) (-6) (rp (M2.1 271)) n i := by
    unfold laS
    rw [h]
    exact Ag.sds (P := rp (M2.1 271)) (Q := rp (M2.1 271)) (fun _ _ _ _ => rfl) (fun a ha => by rw [e a ha]) (fun _ _ => rfl) i hi
  unfold lkW laR
  rw [hs, e i hi]
theorem e_ciS {M B : Mm} {n d : Nat} (h : Vb M 1 (M.1 271) n) (hB : B.1 271 = upd (M.1 271) 2 (M.1 271 2 + nI d)) : ciS M n d = mk (stW B n) n := by
  have hn := h.2.2.1
  have h2 := h.day (v := M.1 271 2 + nI d)
  unfold ciS ciX
  refine mk_congr (fun i hi => ?_)
  have hz : (mset (mset M 271 2 (M.1 271 2 + nI d)) 1 2 (M.1 271 2 + nI d)).1 271 = B.1 271 := by rw [hB, mset_n (by decide), mset_s]
  have e1 : stW B n i = bSd (mset (mset M 271 2 (M.1 271 2 + nI d)) 1 2 (M.1 271 2 + nI d)) 1 n i := by
    rw [← lk_0 h2 hi, lkW_z hz hi]
    rfl
  rw [e1]
  unfold bSd
  refine Ag.sds (fun a ha j hj => ?_) (fun a ha => ?_) (fun a ha => ?_) i hi
  · unfold cp
    rw [mset_n (by omega), mset_n (by omega)]
  · rw [mk_or _ _ (by omega), mk_or _ _ (by omega), mk_or _ _ (by omega), bt_mk _ (by omega) (by omega), decide_eq_true ha, Bool.true_and]
    have hc : ∀ j, j < 7 → cp (mset (mset M 271 2 (M.1 271 2 + nI d)) 1 2 (M.1 271 2 + nI d)) 1 a j = cp M 1 a j := fun j hj => by unfold cp; rw [mset_n (by omega), mset_n (by omega)]
    have hA : Ag (cp (mset (mset M 271 2 (M.1 271 2 + nI d)) 1 2 (M.1 271 2 + nI d)) 1) (cp M 1) n := fun i hi j hj => by unfold cp; rw [mset_n (by omega), mset_n (by omega)]
    unfold bOut pOut
    have ho : ∀ j, j ≠ 2 → (mset (mset M 271 2 (M.1 271 2 + nI d)) 1 2 (M.1 271 2 + nI d)).1 1 j = M.1 1 j := fun j hj => by rw [mset_s, upd_n hj, mset_n (by decide)]
    have h2v : (mset (mset M 271 2 (M.1 271 2 + nI d)) 1 2 (M.1 271 2 + nI d)).1 1 2 = M.1 1 2 + nI d := by rw [mset_s, upd_s, h.2.2.2.2.1]
    rw [ho 3 (by decide), ho 4 (by decide), ho 5 (by decide), h2v, hA.wd ha, hA.sk ha, hA.lp ha, hA.bl ha]
    cases pWd (cp M 1) a <;> cases pSk (cp M 1) (M.1 1 5) a <;> cases pLp (cp M 1) (M.1 1 2 + nI d) (M.1 1 4) a <;> cases pBl (cp M 1) (M.1 1 3) a <;> rfl
  · exact b_0 a
theorem e_ci {M : Mm} {n : Nat} {now : Int32} (h : Vb M 1 (M.1 271) n) (hnow : now = mk (bSd M 1 n) n) : ∀ f d B, B.1 271 = upd (M.1 271) 2 (M.1 271 2 + nI d) → ciF M n f (d + 1) = (rci n now f (d + 1) B).1 ∧ (mset (rci n now f (d + 1) B).2 271 2 (M.1 271 2)).1 271 = M.1 271 := by
  have hu : ∀ (B : Mm) (v : Int32), B.1 271 = upd (M.1 271) 2 v → (mset B 271 2 (M.1 271 2)).1 271 = M.1 271 := by
    intro B v hB
    rw [mset_s, hB, upd_u]
    funext j
    unfold upd
    split
    · rename_i e; rw [e]
    · rfl
  intro f
  induction f with
  | zero => intro d B hB; exact ⟨rfl, hu B _ hB⟩
  | succ f ih =>
    intro d B hB
    have hB2 : (mset B 271 2 (B.1 271 2 + 1)).1 271 = upd (M.1 271) 2 (M.1 271 2 + nI (d + 1)) := by
      rw [mset_s, hB, upd_u, upd_s, Int32.add_assoc, nI_1]
    have hL : (lkM (mset B 271 2 (B.1 271 2 + 1)) n).1 271 = upd (M.1 271) 2 (M.1 271 2 + nI (d + 1)) := by rw [lk_z, hB2]
    rw [ciF, rci, e_ciS h hB2, hnow]
    by_cases c : mk (stW (mset B 271 2 (B.1 271 2 + 1)) n) n = mk (bSd M 1 n) n
    · rw [if_pos c, if_pos c]
      have := ih (d + 1) (lkM (mset B 271 2 (B.1 271 2 + 1)) n) hL
      rw [hnow] at this
      exact this
    · rw [if_neg c, if_neg c]
      exact ⟨rfl, hu _ _ hL⟩
