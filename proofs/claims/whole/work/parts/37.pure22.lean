def Ag (P Q : Nat → Nat → Int32) (n : Nat) : Prop := ∀ i, i < n → ∀ j, j < 7 → P i j = Q i j
theorem Ag.wd {P Q : Nat → Nat → Int32} {n i : Nat} (h : Ag P Q n) (hi : i < n) : pWd P i = pWd Q i := by unfold pWd; rw [h i hi 6 (by decide)]
theorem Ag.cl {P Q : Nat → Nat → Int32} {n i : Nat} (h : Ag P Q n) (hi : i < n) : pCl P i = pCl Q i := by unfold pCl; rw [h i hi 3 (by decide)]
theorem Ag.to {P Q : Nat → Nat → Int32} {n i : Nat} {t : Int32} (h : Ag P Q n) (hi : i < n) : pTo P t i = pTo Q t i := by unfold pTo; rw [h i hi 3 (by decide)]
theorem Ag.sd0 {P Q : Nat → Nat → Int32} {n i : Nat} {t : Int32} (h : Ag P Q n) (hi : i < n) : pSd P t i = pSd Q t i := by unfold pSd; rw [h i hi 0 (by decide)]
theorem Ag.lp {P Q : Nat → Nat → Int32} {n i : Nat} {d la : Int32} (h : Ag P Q n) (hi : i < n) : pLp P d la i = pLp Q d la i := by unfold pLp; rw [h i hi 3 (by decide), h i hi 5 (by decide)]
theorem Ag.bl {P Q : Nat → Nat → Int32} {n i : Nat} {ov : Int32} (h : Ag P Q n) (hi : i < n) : pBl P ov i = pBl Q ov i := by unfold pBl; rw [h i hi 2 (by decide)]
theorem Ag.tks {P Q : Nat → Nat → Int32} {n : Nat} {pg s : Int32} (h : Ag P Q n) : ∀ k, k ≤ n → tk P pg s k = tk Q pg s k := by
  intro k
  induction k with
  | zero => intro _; rfl
  | succ k ih =>
    intro hk
    rw [tk, tk, ih (by omega), h k (by omega) 0 (by decide), h k (by omega) 6 (by decide), h k (by omega) 1 (by decide)]
theorem Ag.st {P Q : Nat → Nat → Int32} {n i : Nat} {pg s : Int32} (h : Ag P Q n) (hi : i < n) : stK P pg s i = stK Q pg s i := by
  unfold stK
  rw [h.tks i (by omega), h i hi 0 (by decide), h i hi 6 (by decide), h i hi 1 (by decide)]
theorem Ag.sk {P Q : Nat → Nat → Int32} {n i : Nat} {pg : Int32} (h : Ag P Q n) (hi : i < n) : pSk P pg i = pSk Q pg i := by
  unfold pSk
  rw [h.st hi, h i hi 0 (by decide)]
theorem Ag.out {P Q : Nat → Nat → Int32} {n i : Nat} {d la pg ov : Int32} (h : Ag P Q n) (hi : i < n) : pOut P d la pg ov i = pOut Q d la pg ov i := by
  unfold pOut
  rw [h.wd hi, h.sk hi, h.lp hi, h.bl hi]
theorem Ag.an {P Q : Nat → Nat → Int32} {S : Nat → Bool} {n m i : Nat} (h : Ag P Q n) : anS S P n m i = anS S Q n m i := by
  unfold anS
  rw [Bool.eq_iff_iff, List.any_eq_true, List.any_eq_true]
  constructor
  · rintro ⟨a, ha, hb⟩
    exact ⟨a, ha, by rw [← h a (List.mem_range.mp ha) 3 (by decide)]; exact hb⟩
  · rintro ⟨a, ha, hb⟩
    exact ⟨a, ha, by rw [h a (List.mem_range.mp ha) 3 (by decide)]; exact hb⟩
theorem Ag.sds {P Q : Nat → Nat → Int32} {o q o2 q2 : Nat → Bool} {n : Nat} (h : Ag P Q n) (ho : ∀ i, i < n → o i = o2 i) (hq : ∀ i, i < n → q i = q2 i) : ∀ i, i < n → sd o q P n i = sd o2 q2 Q n i :=
  sd_uniq (fun i hi => by rw [sd_eq hi, h.an, ho i hi, hq i hi])
def Vb (M : Mm) (b : Nat) (Z : Nat → Int32) (n : Nat) : Prop := M.1 b 1 = nI n ∧ Z 3 = nI n ∧ n ≤ 24 ∧ Ag (cp M b) (rp Z) n ∧ M.1 b 2 = Z 2 ∧ M.1 b 3 = Z 4 ∧ M.1 b 4 = Z 0 ∧ M.1 b 5 = Z 1 ∧ WF (cp M b) n
theorem Vb.pb {M : Mm} {Z : Nat → Int32} {n : Nat} (h : Vb M 1 Z n) : PB M n := ⟨h.1, h.2.2.1, h.2.2.2.2.2.2.2.2⟩
theorem Vb.wf {M : Mm} {b : Nat} {Z : Nat → Int32} {n : Nat} (h : Vb M b Z n) : WF (rp Z) n := WF_ext (fun i hi => ⟨h.2.2.2.1 i hi 0 (by decide), h.2.2.2.1 i hi 3 (by decide), h.2.2.2.1 i hi 6 (by decide)⟩) h.2.2.2.2.2.2.2.2
theorem Vb.out {M : Mm} {b : Nat} {Z : Nat → Int32} {n i : Nat} (h : Vb M b Z n) (hi : i < n) : bOut M b i = pOut (rp Z) (Z 2) (Z 0) (Z 1) (Z 4) i := by
  obtain ⟨h1, h2, h3, h4, h5, h6, h7, h8, h9⟩ := h
  unfold bOut
  rw [h5, h6, h7, h8, h4.out hi]
theorem wd1_pWd {Z : Nat → Int32} {n i : Nat} (hw : WF (rp Z) n) (hi : i < n) : wd1 Z i = pWd (rp Z) i := by
  unfold wd1 pWd
  rcases (hw i hi).2.2 with g | g <;> rw [g] <;> rfl
theorem ry_v {Z : Nat → Int32} {n i : Nat} (hw : WF (rp Z) n) (hi : i < n) : ry Z i = if pWd (rp Z) i = true then 1 else if pSk (rp Z) (Z 1) i = true then 2 else if pLp (rp Z) (Z 2) (Z 0) i = true then 3 else if pBl (rp Z) (Z 4) i = true then 4 else 0 := by
  unfold ry
  rw [wd1_pWd hw hi]
theorem ry_0 {Z : Nat → Int32} {n i : Nat} (hw : WF (rp Z) n) (hi : i < n) : (ry Z i != 0) = pOut (rp Z) (Z 2) (Z 0) (Z 1) (Z 4) i := by
  rw [ry_v hw hi]
  unfold pOut
  cases pWd (rp Z) i <;> cases pSk (rp Z) (Z 1) i <;> cases pLp (rp Z) (Z 2) (Z 0) i <;> cases pBl (rp Z) (Z 4) i <;> rfl
theorem wy_i {M : Mm} {n i : Nat} (hi : i < n) : wyR M n i = ry (M.1 271) i := if_pos hi
theorem lk_st {M : Mm} {n i : Nat} (h : Vb M 1 (M.1 271) n) (hi : i < n) : laS (wyR M n) (-6) (rp (M.1 271)) n i = bSd M 1 n i := by
  have hn := h.2.2.1
  unfold laS bSd
  refine (h.2.2.2.1.sds (fun a ha => ?_) (fun a ha => ?_) i hi).symm
  · rw [h.out ha, wy_i ha, ry_0 h.wf ha]
  · symm
    rw [beq_eq_false_iff_ne]
    exact nI_ne6 (by omega)
theorem lk_v {M : Mm} {n i : Nat} (h : Vb M 1 (M.1 271) n) (hi : i < n) : lkW M n i = if bSd M 1 n i = true then 0 else if bOut M 1 i = true then ry (M.1 271) i else 5 := by
  have e0 := lk_st h hi
  have e1 := h.out hi
  have e2 := ry_0 h.wf hi
  have e3 := laR_0 (w := wyR M n) (more := -6) (P := rp (M.1 271)) (n := n) (m := 0) (a := i) (Nat.zero_le _) hi
  by_cases hs : bSd M 1 n i = true
  · rw [if_pos hs]
    exact e3.mpr (e0.trans hs)
  · rw [if_neg hs]
    have hs2 : laS (wyR M n) (-6) (rp (M.1 271)) n i = false := by rw [e0]; simpa using hs
    unfold lkW laR
    rw [wy_i hi]
    by_cases ho : bOut M 1 i = true
    · rw [if_pos ho, if_neg]
      intro g
      rw [e1, ← e2] at ho
      rw [g.2.2.1] at ho
      exact absurd ho (by decide)
    · rw [if_neg ho, if_pos]
      refine ⟨Nat.zero_le _, hi, ?_, hs2⟩
      have : (ry (M.1 271) i != 0) = false := by rw [e2, ← e1]; simpa using ho
      simpa using this
theorem sd_out {M : Mm} {n i : Nat} (hi : i < n) (h : bSd M 1 n i = true) : bOut M 1 i = false := by
  unfold bSd at h
  rw [sd_eq hi] at h
  cases hb : bOut M 1 i
  · rfl
  · rw [hb] at h; simp at h
theorem ry_r {Z : Nat → Int32} {n i : Nat} (hw : WF (rp Z) n) (hi : i < n) (h : pOut (rp Z) (Z 2) (Z 0) (Z 1) (Z 4) i = true) : inv (ry Z i) 1 4 = true ∧ (ry Z i == 5) = false ∧ (ry Z i == 0) = false := by
  rw [ry_v hw hi]
  unfold pOut at h
  revert h
  cases pWd (rp Z) i <;> cases pSk (rp Z) (Z 1) i <;> cases pLp (rp Z) (Z 2) (Z 0) i <;> cases pBl (rp Z) (Z 4) i <;> decide
theorem lk_0 {M : Mm} {n i : Nat} (h : Vb M 1 (M.1 271) n) (hi : i < n) : (lkW M n i == 0) = bSd M 1 n i := by
  rw [lk_v h hi]
  cases hs : bSd M 1 n i
  · rw [if_neg (by decide)]
    cases ho : bOut M 1 i
    · rfl
    · rw [if_pos rfl]
      exact (ry_r h.wf hi (by rw [← h.out hi]; exact ho)).2.2
  · rfl
theorem lk_o {M : Mm} {n i : Nat} (h : Vb M 1 (M.1 271) n) (hi : i < n) : inv (lkW M n i) 1 4 = bOut M 1 i := by
  rw [lk_v h hi]
  cases hs : bSd M 1 n i
  · rw [if_neg (by decide)]
    cases ho : bOut M 1 i
    · rfl
    · rw [if_pos rfl]
      exact (ry_r h.wf hi (by rw [← h.out hi]; exact ho)).1
  · rw [sd_out hi hs]; rfl
theorem lk_5 {M : Mm} {n i : Nat} (h : Vb M 1 (M.1 271) n) (hi : i < n) : (lkW M n i == 5) = (!bOut M 1 i && !bSd M 1 n i) := by
  rw [lk_v h hi]
  cases hs : bSd M 1 n i
  · rw [if_neg (by decide)]
    cases ho : bOut M 1 i
    · rfl
    · rw [if_pos rfl]
      exact (ry_r h.wf hi (by rw [← h.out hi]; exact ho)).2.1
  · rw [sd_out hi hs]; rfl
