theorem ch_0 {M B : Mm} {n k i : Nat} (h : Vb M 1 (M.1 271) n) (hB : B.1 271 = M.1 271) (hk : k < n) (hi : i < n) : (chW B n k i == 0) = sd (bt (mk (bOut M 1) n)) (bt ((1 : Int32) <<< (nI k &&& 31))) (cp M 1) n i := by
  have hn := h.2.2.1
  have e3 := laR_0 (w := wyR B n) (more := nI k) (P := rp (B.1 271)) (n := n) (m := 0) (a := i) (Nat.zero_le _) hi
  have e4 : laS (wyR B n) (nI k) (rp (B.1 271)) n i = sd (bt (mk (bOut M 1) n)) (bt ((1 : Int32) <<< (nI k &&& 31))) (cp M 1) n i := by
    unfold laS
    rw [hB]
    refine (h.2.2.2.1.sds (fun a ha => ?_) (fun a ha => ?_) i hi).symm
    · rw [bt_mk _ (by omega) (by omega), decide_eq_true ha, Bool.true_and, h.out ha, wy_i ha, hB, ry_0 h.wf ha]
    · rw [bt_one (by omega) (by omega)]
      by_cases c : a = k
      · rw [c]; simp
      · rw [decide_eq_false c]
        symm
        rw [beq_eq_false_iff_ne]
        exact fun z => c ((nI_eq (by omega) (by omega)).mp z)
  rw [← e4, Bool.eq_iff_iff, beq_iff_eq]
  exact e3
theorem e_ba2 {M B : Mm} {n k : Nat} (h : Vb M 1 (M.1 271) n) (hB : B.1 271 = M.1 271) (hk : k < n) : ba2 M n k (bOut M 1) (naP (cp M 1) n) (cp M 1) = nI (cnt (chP B n k) n) := by
  have hn := h.2.2.1
  unfold ba2
  rw [mk_xor _ _ (by omega), mk_and _ _ (by omega), bc_mk hn]
  refine congrArg nI (cnt_congr (fun i hi => ?_))
  have e0 : sd (bt (mk (bOut M 1) n)) (bt 0) (cp M 1) n i = bSd M 1 n i := by
    unfold bSd
    exact Ag.sds (P := cp M 1) (Q := cp M 1) (fun _ _ _ _ => rfl) (fun a ha => by rw [bt_mk _ (by omega) (by omega), decide_eq_true ha, Bool.true_and]) (fun a ha => b_0 a) i hi
  have e1 := ch_0 h hB hk hi
  have e2 : stW B n i = bSd M 1 n i := by
    show (lkW B n i == 0) = _
    rw [lkW_z hB hi, lk_0 h hi]
  show ((sd _ _ _ n i ^^ sd _ _ _ n i) && pTo (cp M 1) (-6) i) = ((stW B n i && pCl (rp (B.1 271)) i) ^^ ((chW B n k i == 0) && pCl (rp (B.1 271)) i))
  rw [e0, e1, e2, hB, h.2.2.2.1.to hi]
  show ((_ ^^ _) && pCl (rp (M.1 271)) i) = _
  cases sd (bt (mk (bOut M 1) n)) (bt ((1 : Int32) <<< (nI k &&& 31))) (cp M 1) n i <;> cases bSd M 1 n i <;> cases pCl (rp (M.1 271)) i <;> rfl
theorem na_ag {P Q : Nat → Nat → Int32} {n : Nat} (hA : Ag P Q n) (a : Nat) : naP P n a = naP Q n a := by
  unfold naP
  congr 1
  rw [Bool.eq_iff_iff, List.any_eq_true, List.any_eq_true]
  constructor
  · rintro ⟨b, hb, hc⟩
    exact ⟨b, hb, by rw [← hA b (List.mem_range.mp hb) 3 (by decide)]; exact hc⟩
  · rintro ⟨b, hb, hc⟩
    exact ⟨b, hb, by rw [hA b (List.mem_range.mp hb) 3 (by decide)]; exact hc⟩
theorem e_ba {M : Mm} {n : Nat} (h : Vb M 1 (M.1 271) n) : ∀ k, k ≤ n → baS M n k = (rbS M n k).2 := by
  have hn := h.2.2.1
  intro k
  induction k with
  | zero => intro _; rfl
  | succ k ih =>
    intro hk
    have hz : (rbS M n k).1.1 271 = M.1 271 := rbS_z
    have hzL : (lkM (rbS M n k).1 n).1 271 = M.1 271 := by rw [lk_z, hz]
    rw [baS, rbS, ih (by omega), e_ba2 h hzL (by omega), lkW_z hz (show k < n by omega), lk_o h (show k < n by omega)]
    have hc : bt (mk (naP (cp M 1) n) n &&& (mk (bOut M 1) n ^^^ (-1))) k = (naP (rp (M.1 271)) n k && !bOut M 1 k) := by
      rw [mk_not _ _ (by omega), bt_mk _ (by omega) (by omega), decide_eq_true (show k < n by omega), Bool.true_and, na_ag h.2.2.2.1]
    rw [hc]
    by_cases c : bOut M 1 k = false ∧ mk (pTo (rp (M.1 271)) (nI k)) n = 0
    · rw [if_pos c, if_pos (by rw [(na_mk hn).mp c.2, c.1]; rfl)]
      by_cases g : nI (cnt (chP (lkM (rbS M n k).1 n) n k) n) ≤ (rbS M n k).2.2
      · rw [if_pos g, if_pos g, if_pos g]
      · rw [if_neg g, if_neg g, if_neg g]
    · rw [if_neg c, if_neg (fun z => c (by rw [Bool.and_eq_true, Bool.not_eq_true'] at z; exact ⟨z.2, (na_mk hn).mpr z.1⟩))]
theorem ba_top {M : Mm} {n : Nat} (hn : n ≤ 24) : ∀ d, n + d ≤ 24 → baS M n (n + d) = baS M n n := by
  intro d
  induction d with
  | zero => intro _; rfl
  | succ d ih =>
    intro hd
    show baS M n ((n + d) + 1) = _
    rw [baS, if_neg, ih (by omega)]
    rw [mk_not _ _ (by omega), bt_mk _ (by omega) (by omega), decide_eq_false (by omega)]
    simp
theorem e_best {M : Mm} {n : Nat} (h : Vb M 1 (M.1 271) n) : baS M n 24 = (rbS M n n).2 := by
  have hn := h.2.2.1
  have e := ba_top (M := M) hn (24 - n) (by omega)
  rw [show n + (24 - n) = 24 by omega] at e
  rw [e, e_ba h n (Nat.le_refl n)]
