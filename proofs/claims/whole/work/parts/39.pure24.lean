def Bd (Z : Nat → Int32) (n : Nat) : Prop := ∃ d la pg, Z 2 = nI d ∧ d ≤ 999 ∧ Z 0 = nI la ∧ la ≤ 60 ∧ Z 1 = nI pg ∧ pg ≤ 99 ∧ ∀ i, i < n → (∃ s, s ≤ d ∧ rp Z i 5 = nI s) ∧ (∃ p, p ≤ 9 ∧ rp Z i 1 = nI p)
theorem e_rs {M : Mm} {n i : Nat} (h : Vb M 1 (M.1 271) n) (hi : i < n) : rsR M 1 n i = lkW M n i := by
  have e1 := h.out hi
  rw [lk_v h hi, ry_v h.wf hi]
  unfold rsR
  rw [h.2.2.2.2.1, h.2.2.2.2.2.1, h.2.2.2.2.2.2.1, h.2.2.2.2.2.2.2.1, h.2.2.2.1.wd hi, h.2.2.2.1.sk hi, h.2.2.2.1.lp hi, h.2.2.2.1.bl hi]
  cases hs : bSd M 1 n i
  · rw [e1]
    unfold pOut
    cases pWd (rp (M.1 271)) i <;> cases pSk (rp (M.1 271)) (M.1 271 1) i <;> cases pLp (rp (M.1 271)) (M.1 271 2) (M.1 271 0) i <;> cases pBl (rp (M.1 271)) (M.1 271 4) i <;> rfl
  · have ho := sd_out hi hs
    rw [e1] at ho
    unfold pOut at ho
    revert ho
    cases pWd (rp (M.1 271)) i <;> cases pSk (rp (M.1 271)) (M.1 271 1) i <;> cases pLp (rp (M.1 271)) (M.1 271 2) (M.1 271 0) i <;> cases pBl (rp (M.1 271)) (M.1 271 4) i <;> intro ho <;> first | rfl | (cases ho)
theorem lo_low {W : Nat → Int32} {P : Nat → Nat → Int32} {x : Int32} {n : Nat} {t : Int32} (hn : n ≤ 24) (hx : ∀ a, a < 32 → bt x a = (decide (a < n) && (P a 3 == t && W a == 0))) : ∀ f a, a + f = 24 → lo x f a = low W n t P (n - a) a := by
  have hend : ∀ f a, n ≤ a → a + f = 24 → lo x f a = -6 := by
    intro f
    induction f with
    | zero => intro a _ _; rfl
    | succ f ih =>
      intro a ha haf
      rw [lo, hx a (by omega), decide_eq_false (by omega), Bool.false_and, if_neg (by decide)]
      exact ih (a + 1) (by omega) (by omega)
  intro f
  induction f with
  | zero =>
    intro a ha
    rw [show n - a = 0 by omega]
    rfl
  | succ f ih =>
    intro a ha
    rcases Nat.lt_or_ge a n with g | g
    · obtain ⟨m, hm⟩ : ∃ m, n - a = m + 1 := ⟨n - a - 1, by omega⟩
      rw [hm, lo, low, hx a (by omega), decide_eq_true g, Bool.true_and]
      by_cases e : P a 3 = t ∧ W a = 0
      · rw [if_pos e, if_pos (by rw [e.1, e.2]; simp)]
      · rw [if_neg e, if_neg (fun q => e (by simpa using q)), ih (a + 1) (by omega), show n - (a + 1) = m by omega]
    · rw [hend (f + 1) a g ha, show n - a = 0 by omega]
      rfl
theorem low_skip {W : Nat → Int32} {P : Nat → Nat → Int32} {n : Nat} {t : Int32} {m : Nat} (hm : m ≤ n) (h : ∀ a, a < m → ¬ P a 3 = t) : low W n t P n 0 = low W n t P (n - m) m := by
  induction m with
  | zero => rfl
  | succ m ih =>
    rw [ih (by omega) (fun a ha => h a (by omega))]
    obtain ⟨f, hf⟩ : ∃ f, n - m = f + 1 := ⟨n - m - 1, by omega⟩
    rw [hf, low, if_neg (fun g => h m (by omega) g.1), show n - (m + 1) = f by omega]
theorem e_lw {M : Mm} {n i : Nat} (h : Vb M 1 (M.1 271) n) (hi : i < n) : lo (mk (pTo (cp M 1) (nI i)) n &&& mk (bSd M 1 n) n) 24 0 = low (lkW M n) n (nI i) (rp (M.1 271)) (n - (i + 1)) (i + 1) := by
  have hn := h.2.2.1
  have hw := h.wf
  rw [lo_low (W := lkW M n) (P := rp (M.1 271)) (t := nI i) hn (fun a ha => ?_) 24 0 rfl]
  · refine low_skip (by omega) (fun a ha e => ?_)
    rcases (hw a (by omega)).2.1 with g | ⟨t, ht, g⟩
    · rw [g] at e
      exact nI_ne6 (by omega) e.symm
    · rw [g] at e
      have := (nI_eq (by omega) (by omega)).mp e
      omega
  · rw [mk_and _ _ (by omega), bt_mk _ (by omega) ha]
    by_cases g : a < n
    · rw [decide_eq_true g, Bool.true_and, Bool.true_and, lk_0 h g, h.2.2.2.1.to g]
      rfl
    · rw [decide_eq_false g, Bool.false_and, Bool.false_and]
theorem e_dp {P Q : Nat → Nat → Int32} {n : Nat} (h : Ag P Q n) (hw : WF P n) (hn : n ≤ 24) : ∀ f i, i < n → dpN P f i = dpN Q f i := by
  intro f
  induction f with
  | zero => intro i _; rfl
  | succ f ih =>
    intro i hi
    rw [dpN, dpN, ← h i hi 3 (by decide)]
    rcases (hw i hi).2.1 with g | ⟨t, ht, g⟩
    · rw [if_pos g, if_pos g]
    · by_cases e : P i 3 = -6
      · rw [if_pos e, if_pos e]
      · rw [if_neg e, if_neg e, g, nI_clamp (by omega), ih t (by omega)]
theorem e_dl {M : Mm} {n i : Nat} (h : Vb M 1 (M.1 271) n) (hb : Bd (M.1 271) n) (hi : i < n) : dlR M 1 i = dyR (M.1 271) i := by
  obtain ⟨d, la, pg, h2, hd, h0, hla, h1, hpg, hp⟩ := hb
  obtain ⟨⟨s, hs, h5⟩, _⟩ := hp i hi
  have e3 : M.1 (1 + 2 + i) 3 = rp (M.1 271) i 3 := h.2.2.2.1 i hi 3 (by decide)
  have e5 : M.1 (1 + 2 + i) 5 = nI s := (h.2.2.2.1 i hi 5 (by decide)).trans h5
  have ev : nI s + nI la - nI d = nI la - (nI d - nI s) := by
    rw [Int32.sub_eq_add_neg, Int32.sub_eq_add_neg, Int32.sub_eq_add_neg, Int32.neg_add, Int32.sub_eq_add_neg, Int32.neg_neg, Int32.add_comm (nI s) (nI la), Int32.add_assoc, Int32.add_comm (nI s) (-nI d)]
  unfold dlR dyR
  rw [e3, e5, h.2.2.2.2.1, h.2.2.2.2.2.2.1, h2, h0, h5]
  have hr : ∀ s, s ≤ 999 → True := fun _ _ => trivial
  have key : (0 ≤ nI s + nI la - nI d) ↔ (nI d - nI s ≤ nI la) := by
    rw [nI_add, show nI d - nI s = nI (d - s) from by
      have : nI (d - s) + nI s = nI d := by rw [nI_add, Nat.sub_add_cancel hs]
      rw [← this, Int32.add_sub_cancel]]
    by_cases g : d ≤ s + la
    · have e : nI (s + la) - nI d = nI (s + la - d) := by
        have : nI (s + la - d) + nI d = nI (s + la) := by rw [nI_add, Nat.sub_add_cancel g]
        rw [← this, Int32.add_sub_cancel]
      rw [e]
      exact ⟨fun _ => nI_le (by omega) (by omega), fun _ => nI_pos' (by omega)⟩
    · constructor
      · intro q
        exfalso
        have e : nI (s + la) - nI d = - nI (d - (s + la)) := by
          have : nI (d - (s + la)) + nI (s + la) = nI d := by rw [nI_add, Nat.sub_add_cancel (by omega)]
          rw [← this, Int32.sub_eq_add_neg, Int32.neg_add, Int32.sub_eq_add_neg, Int32.add_comm (-nI (d - (s + la))), ← Int32.add_assoc, Int32.add_right_neg, Int32.zero_add]
        rw [e] at q
        have hall : ∀ t, t < 1100 → t = 0 ∨ ¬ (0 : Int32) ≤ - nI t := by decide +kernel
        exact (hall (d - (s + la)) (by omega)).elim (by omega) (fun z => z q)
      · intro q
        exfalso
        have := of_le q (by omega) (by omega)
        omega
  by_cases c : rp (M.1 271) i 3 = -6
  · rw [if_pos (Or.inl c), if_pos (Or.inl c)]
  · have hl : pLp (rp (M.1 271)) (nI d) (nI la) i = true ↔ ¬ (nI d - nI s ≤ nI la) := by
      unfold pLp
      rw [h5]
      simp [c]
    by_cases g : nI d - nI s ≤ nI la
    · rw [if_neg (fun q => q.elim c (fun q => q (key.mpr g))), if_neg (fun q => q.elim c (fun q => hl.mp q g)), ev]
    · rw [if_pos (Or.inr (fun q => g (key.mp q))), if_pos (Or.inr (hl.mpr g))]
theorem e_of {M : Mm} {n i : Nat} {w : Int32} (h : Vb M 1 (M.1 271) n) (hb : Bd (M.1 271) n) (hi : i < n) : ofR M n i w = roR M n i w := by
  have hn := h.2.2.1
  have g : ∀ j, j < 7 → M.1 (1 + 2 + i) j = rp (M.1 271) i j := fun j hj => h.2.2.2.1 i hi j hj
  have e8 : mk (pTo (cp M 1) (nI i)) n = mk (pTo (rp (M.1 271)) (nI i)) n := mk_congr (fun a ha => h.2.2.2.1.to ha)
  have e9 : dpN (cp M 1) (i + 1) i = dpN (rp (M.1 271)) (i + 1) i := e_dp h.2.2.2.1 h.2.2.2.2.2.2.2.2 hn _ _ hi
  have e5 : (if bSd M 1 n i = true then (1 : Int32) else 0) = if lkW M n i = 0 then 1 else 0 := by
    have := lk_0 h hi
    by_cases q : lkW M n i = 0
    · rw [if_pos q, if_pos (by rw [← this, q]; rfl)]
    · rw [if_neg q, if_neg (fun z => q (by rw [← this] at z; simpa using z))]
  unfold ofR roR
  rw [g 0 (by decide), g 1 (by decide), g 4 (by decide), g 3 (by decide), g 2 (by decide), e5, e_rs h hi, e_lw h hi, e8, e9, e_dl h hb hi]
  rfl
