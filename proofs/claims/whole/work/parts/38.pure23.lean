theorem sm_tk {P : Nat → Nat → Int32} {pg s x : Int32} {n : Nat} (h : ∀ i, i < n → bt x i = (pWd P i || pSk P pg i)) : ∀ k, k ≤ n → sm P s x k = tk P pg s k := by
  intro k
  induction k with
  | zero => intro _; rfl
  | succ k ih =>
    intro hk
    rw [sm, tk, ih (by omega), h k (by omega)]
    unfold pWd pSk stK
    by_cases h0 : P k 0 = s
    · by_cases h6 : P k 6 = 0
      · by_cases hp : tk P pg s k + P k 1 ≤ pg
        · rw [if_pos ⟨h0, by rw [h6, h0]; simp [hp]⟩, if_pos ⟨h0, h6⟩, if_pos hp]
        · rw [if_neg (fun g => by have := g.2; rw [h6, h0] at this; simp [hp] at this), if_pos ⟨h0, h6⟩, if_neg hp]
      · rw [if_neg (fun g => by have := g.2; simp [h6] at this), if_neg (fun g => h6 g.2)]
    · rw [if_neg (fun g => h0 g.1), if_neg (fun g => h0 g.1)]
theorem e_cl {M : Mm} {n : Nat} (h : Vb M 1 (M.1 271) n) : bc (mk (pTo (cp M 1) (-6)) n) = nI (cnt (pCl (rp (M.1 271))) n) := by
  rw [bc_mk h.2.2.1]
  exact congrArg nI (cnt_congr (fun i hi => h.2.2.2.1.cl hi))
theorem e_sd {M : Mm} {n : Nat} (h : Vb M 1 (M.1 271) n) : mk (bSd M 1 n) n = mk (stW M n) n := mk_congr (fun i hi => (lk_0 h hi).symm)
theorem e_cs {M : Mm} {n : Nat} (h : Vb M 1 (M.1 271) n) : mk (pTo (cp M 1) (-6)) n &&& mk (bSd M 1 n) n = mk (fun i => stW M n i && pCl (rp (M.1 271)) i) n := by
  rw [mk_and _ _ (by have := h.2.2.1; omega)]
  refine mk_congr (fun i hi => ?_)
  show (pCl (cp M 1) i && bSd M 1 n i) = ((lkW M n i == 0) && pCl (rp (M.1 271)) i)
  rw [lk_0 h hi, h.2.2.2.1.cl hi, Bool.and_comm]
theorem e_ou {M : Mm} {n : Nat} (h : Vb M 1 (M.1 271) n) : mk (bOut M 1) n = mk (fun i => inv (lkW M n i) 1 4) n := mk_congr (fun i hi => (lk_o h hi).symm)
theorem e_an {M : Mm} {n : Nat} (h : Vb M 1 (M.1 271) n) : (mk (fun _ => true) n &&& (mk (bOut M 1) n ^^^ (-1))) &&& (mk (bSd M 1 n) n ^^^ (-1)) = mk (fun i => lkW M n i == 5) n := by
  have hn := h.2.2.1
  rw [mk_not _ _ (by omega), mk_not _ _ (by omega)]
  exact mk_congr (fun i hi => by rw [lk_5 h hi, Bool.true_and])
theorem e_tk {M : Mm} {n : Nat} {s : Int32} (h : Vb M 1 (M.1 271) n) : sm (cp M 1) s (mk (pWd (cp M 1)) n ||| mk (pSk (cp M 1) (M.1 1 5)) n) n = tk (rp (M.1 271)) (M.1 271 1) s n := by
  have hn := h.2.2.1
  rw [sm_tk (pg := M.1 1 5) (n := n) (fun i hi => ?_) n (Nat.le_refl n), h.2.2.2.2.2.2.2.1]
  · exact h.2.2.2.1.tks n (Nat.le_refl n)
  · rw [mk_or _ _ (by omega), bt_mk _ (by omega) (by omega), decide_eq_true hi, Bool.true_and]
theorem e_co {M : Mm} {n : Nat} {w : Int32} (h : Vb M 1 (M.1 271) n) (hp : M.1 30 1 = M.1 270 6) (hk : M.1 33 1 = M.1 270 4) : coR M n 0 w = rcR M n w := by
  have hn := h.2.2.1
  have e3 : bc (mk (bSd M 1 n) n) = nI (cnt (stW M n) n) := by rw [e_sd h, bc_mk hn]
  have e4 : bc (mk (pTo (cp M 1) (-6)) n &&& mk (bSd M 1 n) n) = nI (cnt (fun i => stW M n i && pCl (rp (M.1 271)) i) n) := by rw [e_cs h, bc_mk hn]
  have e5 : bc (mk (bOut M 1) n) = nI (cnt (fun i => inv (lkW M n i) 1 4) n) := by rw [e_ou h, bc_mk hn]
  have e6 : bc ((mk (fun _ => true) n &&& (mk (bOut M 1) n ^^^ (-1))) &&& (mk (bSd M 1 n) n ^^^ (-1))) = nI (cnt (fun i => lkW M n i == 5) n) := by rw [e_an h, bc_mk hn]
  have t0 : tkR M n 0 = tk (rp (M.1 271)) (M.1 271 1) 0 n := rfl
  have t1 : tkR M n 1 = tk (rp (M.1 271)) (M.1 271 1) 1 n := rfl
  unfold coR rcR
  rw [e3, e4, e5, e6, e_cl h, e_tk h, e_tk h, t0, t1, hp, hk, h.2.2.2.2.1, h.2.2.2.2.2.1, h.2.2.2.2.2.2.1, h.2.2.2.2.2.2.2.1, h.1, h.2.1]
theorem e_po {M : Mm} {n : Nat} {w : Int32} (h : Vb M 1 (M.1 271) n) : poR M n w = rpR M n w := by
  have s0 : ∀ t : Int32, mk (pSd (cp M 1) t) n = mk (pSd (rp (M.1 271)) t) n := fun t => mk_congr (fun i hi => h.2.2.2.1.sd0 hi)
  unfold poR rpR
  rw [e_an h, e_cs h, e_sd h, e_ou h, s0, s0]
theorem e_sh {M : Mm} {n : Nat} {t : Int32} (h : Vb M 1 (M.1 271) n) : shF M n t = shG M n t := by
  have hn := h.2.2.1
  have a1 : cnt (clP (cp M 1) t) n = cnt (clQ (M.1 271) t) n := cnt_congr (fun i hi => by unfold clP clQ; rw [h.2.2.2.1.to hi, h.2.2.2.1.sd0 hi]; rfl)
  have a2 : cnt (fun i => clP (cp M 1) t i && bSd M 1 n i) n = cnt (fun i => clQ (M.1 271) t i && (lkW M n i == 0)) n := cnt_congr (fun i hi => by show ((pTo (cp M 1) (-6) i && pSd (cp M 1) t i) && bSd M 1 n i) = ((pCl (rp (M.1 271)) i && pSd (rp (M.1 271)) t i) && (lkW M n i == 0)); rw [lk_0 h hi, h.2.2.2.1.to hi, h.2.2.2.1.sd0 hi]; rfl)
  unfold shF shG
  rw [a1, a2]
  by_cases h0 : cnt (clQ (M.1 271) t) n = 0
  · rw [if_pos h0, if_pos h0]
  · rw [if_neg h0, if_neg h0]
    have hb := cnt_le (clQ (M.1 271) t) n
    have hc : cnt (fun i => clQ (M.1 271) t i && (lkW M n i == 0)) n ≤ cnt (clQ (M.1 271) t) n := cnt_mono (fun i g => by simp only [Bool.and_eq_true] at g; exact g.1)
    exact (((sh_all _ (show cnt (clQ (M.1 271) t) n < 25 by omega)).resolve_left h0 _ (by omega) hc).2).symm
