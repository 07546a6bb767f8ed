theorem snE_le {x : Int64} {k : Nat} (hk : k ≤ 8) : ∃ g, g ≤ 8 ∧ snE x k = nI g := by
  unfold snE
  split
  · exact ⟨0, by omega, rfl⟩
  · exact ⟨k, hk, rfl⟩
theorem snL_le {x : Int64} : ∀ f k, k + f ≤ 8 → ∃ g, g ≤ 8 ∧ snL x f k = nI g := by
  intro f
  induction f with
  | zero => intro k hk; exact snE_le (by omega)
  | succ f ih =>
    intro k hk
    rw [snL]
    split
    · exact snE_le (by omega)
    split
    · exact ⟨0, by omega, rfl⟩
    · exact ih (k + 1) (by omega)
theorem sgn_nar (x : Int64) (p : Int32) : vp_nar .char (sgn x p) = sgn x p := pk_vc _
def apR (M : Mm) (x : Int64) (l g t : Nat) : Nat → Int32 := fun j => if l ≤ j ∧ j < l + t then sgn x (nI (g - 1 - (j - l))) else M.1 31 j
def apM (M : Mm) (x : Int64) (l g t : Nat) : Mm := mset (mrow M 31 (apR M x l g t)) 30 1 (nI (l + t))
theorem apM_0 {M : Mm} {x : Int64} {l g : Nat} (h : M.1 30 1 = nI l) : apM M x l g 0 = M := by
  refine Prod.ext (funext fun k => ?_) rfl
  unfold apM
  by_cases e : k = 30
  · subst e
    rw [mset_s, mrow_n (by decide)]
    funext j
    unfold upd
    by_cases q : j = 1
    · subst q; rw [if_pos rfl, h]
      rfl
    · rw [if_neg q]
  · rw [mset_n e]
    by_cases e2 : k = 31
    · subst e2
      rw [mrow_s]
      funext j
      unfold apR
      rw [if_neg (by omega)]
    · rw [mrow_n e2]
theorem apM_s {M : Mm} {x : Int64} {l g t : Nat} (ht : t < g) : mset (mset (apM M x l g t) 31 (l + t) (sgn x (nI (g - 1 - t)))) 30 1 (nI (l + t + 1)) = apM M x l g (t + 1) := by
  refine Prod.ext (funext fun k => ?_) rfl
  unfold apM
  by_cases e : k = 30
  · subst e
    rw [mset_s, mset_n (by decide), mset_s, mset_s, mrow_n (by decide), mrow_n (by decide)]
    funext j
    unfold upd
    by_cases q : j = 1
    · subst q; rfl
    · simp [q]
  · rw [mset_n e, mset_n e]
    by_cases e2 : k = 31
    · subst e2
      rw [mset_s, mset_n (by decide), mrow_s, mrow_s]
      funext j
      unfold upd apR
      by_cases q : j = l + t
      · subst q
        rw [if_pos rfl, if_pos (by omega)]
        congr 2
        omega
      · rw [if_neg q]
        by_cases q2 : l ≤ j ∧ j < l + t
        · rw [if_pos q2, if_pos (by omega)]
        · rw [if_neg q2, if_neg (by omega)]
    · rw [mset_n e2, mset_n e, mrow_n e2, mrow_n e2]
theorem apM_30 {M : Mm} {x : Int64} {l g t : Nat} : (apM M x l g t).1 30 1 = nI (l + t) := by unfold apM; rw [mset_s, upd_s]
def foR (M : Mm) (n : Nat) : Int32 :=
  if M.1 32 2 = 99 then fcR n (M.1 32 3) (M.1 32 4) (M.1 32 5)
  else if M.1 32 2 = 97 then (if ¬ M.1 32 3 < 0 ∧ ¬ nI n ≤ M.1 32 3 then faR M 1 n (M.1 32 3).toNatClampNeg (M.1 32 4) (M.1 32 5) else -1)
  else if M.1 32 2 = 119 then (if ¬ M.1 32 3 < 0 ∧ ¬ nI n ≤ M.1 32 3 then tbR M 1 n (M.1 32 3).toNatClampNeg else -1)
  else if M.1 32 2 = 114 then (if ¬ M.1 32 3 < 0 ∧ ¬ nI n ≤ M.1 32 3 then prR M 1 (M.1 32 3).toNatClampNeg else -1)
  else if M.1 32 2 = 116 then moR M 1 n (M.1 32 3)
  else if M.1 32 2 = 111 then tcR M 1 (M.1 32 3)
  else -3
def foM (M : Mm) (n : Nat) : Mm :=
  if M.1 32 2 = 99 then fcM M 1 n (M.1 32 3) (M.1 32 4) (M.1 32 5)
  else if M.1 32 2 = 97 then (if ¬ M.1 32 3 < 0 ∧ ¬ nI n ≤ M.1 32 3 then faM M 1 n (M.1 32 3).toNatClampNeg (M.1 32 4) (M.1 32 5) else M)
  else if M.1 32 2 = 119 then (if ¬ M.1 32 3 < 0 ∧ ¬ nI n ≤ M.1 32 3 then tbM M 1 (M.1 32 3).toNatClampNeg else M)
  else if M.1 32 2 = 114 then (if ¬ M.1 32 3 < 0 ∧ ¬ nI n ≤ M.1 32 3 then prM M 1 (M.1 32 3).toNatClampNeg else M)
  else if M.1 32 2 = 116 then moM M 1 (M.1 32 3)
  else if M.1 32 2 = 111 then tcM M 1 (M.1 32 3)
  else M
theorem ix_in {n j : Nat} (hj : j < n) (hn : n ≤ 24) : ¬ nI j < 0 ∧ ¬ nI n ≤ nI j := ⟨nI_nlt (Nat.zero_le _) (by omega), nI_ge hj (by omega)⟩

def PB (M : Mm) (n : Nat) : Prop := M.1 1 1 = nI n ∧ n ≤ 24 ∧ WF (cp M 1) n
theorem WF_ext {P P' : Nat → Nat → Int32} {n : Nat} (h : ∀ i, i < n → P i 0 = P' i 0 ∧ P i 3 = P' i 3 ∧ P i 6 = P' i 6) (hw : WF P n) : WF P' n := by
  intro i hi
  obtain ⟨h0, h3, h6⟩ := h i hi
  rw [← h0, ← h3, ← h6]
  exact hw i hi
theorem PB.row {M : Mm} {n k j : Nat} {v : Int32} (hk : k = 1) (hj : j ≠ 1) (h : PB M n) : PB (mset M k j v) n := by
  subst hk
  exact ⟨by rw [mset_s, upd_n hj.symm]; exact h.1, h.2.1, by rw [cp_mset_b]; exact h.2.2⟩
theorem PB.pt {M : Mm} {n i j : Nat} {v : Int32} (hj : j ≠ 0 ∧ j ≠ 3) (hv : j = 6 → v = 0 ∨ v = 1) (h : PB M n) : PB (mset M (1 + 2 + i) j v) n := by
  refine ⟨by rw [mset_n (by omega)]; exact h.1, h.2.1, ?_⟩
  rw [cp_mset_p]
  intro k hk
  obtain ⟨h1, h2, h3⟩ := h.2.2 k hk
  dsimp only
  refine ⟨by rw [if_neg (by omega)]; exact h1, by rw [if_neg (by omega)]; exact h2, ?_⟩
  by_cases g : k = i ∧ 6 = j
  · rw [if_pos g]; exact hv g.2.symm
  · rw [if_neg g]; exact h3
theorem PB.out {M : Mm} {n k : Nat} {f : Nat → Int32} (hk : 27 ≤ k) (h : PB M n) : PB (mrow M k f) n := by
  refine ⟨by rw [mrow_n (by omega)]; exact h.1, h.2.1, WF_ext (fun i hi => ?_) h.2.2⟩
  have e : cp (mrow M k f) 1 i = cp M 1 i := by funext j; unfold cp; rw [mrow_n (by have := h.2.1; omega)]
  rw [e]
  exact ⟨rfl, rfl, rfl⟩
theorem fileM_cp {M : Mm} {n i : Nat} {s p c t : Int32} (hi : i < n) : cp (fileM M 1 n s p c t) 1 i = cp M 1 i := by
  funext j
  unfold cp fileM
  rw [mset_n (by omega), mset_n (by omega), mset_n (by omega), mset_n (by omega), mset_n (by omega), mset_n (by omega), mset_n (by omega), mset_n (by omega)]
theorem fileM_new {M : Mm} {n : Nat} {s p c t : Int32} : cp (fileM M 1 n s p c t) 1 n 0 = s ∧ cp (fileM M 1 n s p c t) 1 n 1 = p ∧ cp (fileM M 1 n s p c t) 1 n 2 = c ∧ cp (fileM M 1 n s p c t) 1 n 3 = t ∧ cp (fileM M 1 n s p c t) 1 n 4 = M.1 1 2 ∧ cp (fileM M 1 n s p c t) 1 n 5 = M.1 1 2 ∧ cp (fileM M 1 n s p c t) 1 n 6 = 0 := by
  unfold cp fileM
  simp only [mset_n (show 1 + 2 + n ≠ 1 by omega), mset_s]
  refine ⟨?_, ?_, ?_, ?_, ?_, ?_, ?_⟩ <;> simp [upd]
theorem fileM_1 {M : Mm} {n : Nat} {s p c t : Int32} : (fileM M 1 n s p c t).1 1 = upd (M.1 1) 1 (nI (n + 1)) := by
  unfold fileM
  simp only [mset_s, mset_n (show 1 ≠ 1 + 2 + n by omega)]
theorem fileM_PB {M : Mm} {n : Nat} {s p c t : Int32} (h : PB M n) (hn : n < 24) (hs : s = 0 ∨ s = 1) (ht : t = -6 ∨ ∃ i, i < n ∧ t = nI i) : PB (fileM M 1 n s p c t) (n + 1) := by
  refine ⟨by rw [fileM_1, upd_s], by omega, ?_⟩
  intro i hi
  by_cases e : i = n
  · subst e
    have q := fileM_new (M := M) (n := i) (s := s) (p := p) (c := c) (t := t)
    rw [q.1, q.2.2.2.1, q.2.2.2.2.2.2]
    exact ⟨hs, ht, Or.inl rfl⟩
  · rw [fileM_cp (by omega)]
    exact h.2.2 i (by omega)
theorem side_01 {s : Int32} (h0 : ¬ s < 0) (h1 : ¬ 1 < s) : s = 0 ∨ s = 1 := by
  rcases sw_cases s 2 (by decide) with ⟨j, hj, e⟩ | h
  · have : j = 0 ∨ j = 1 := by omega
    rcases this with rfl | rfl
    · exact Or.inl e
    · exact Or.inr e
  · exfalso
    rw [Int32.lt_iff_toInt_lt] at h0 h1
    have e0 : (0 : Int32).toInt = 0 := rfl
    have e1 : (1 : Int32).toInt = 1 := rfl
    rw [e0] at h0
    rw [e1] at h1
    omega
theorem sub_01 {s : Int32} (h : s = 0 ∨ s = 1) : 1 - s = 0 ∨ 1 - s = 1 := by rcases h with rfl | rfl; exact Or.inr rfl; exact Or.inl rfl
theorem fcM_PB {M : Mm} {n : Nat} {s p c : Int32} (h : PB M n) : ∃ n', PB (fcM M 1 n s p c) n' := by
  unfold fcM
  split
  · exact ⟨n, h⟩
  split
  · rename_i g g2
    exact ⟨n + 1, fileM_PB h g2 (side_01 (fun q => g (Or.inl q)) (fun q => g (Or.inr (Or.inl q)))) (Or.inl rfl)⟩
  · exact ⟨n, h⟩
theorem faM_PB {M : Mm} {n i : Nat} {p c : Int32} (h : PB M n) (hi : i < n) : ∃ n', PB (faM M 1 n i p c) n' := by
  unfold faM
  split
  · exact ⟨n, h⟩
  split
  · rename_i g g2
    split
    · exact ⟨n + 1, fileM_PB h g2 (sub_01 (h.2.2 i hi).1) (Or.inr ⟨i, hi, rfl⟩)⟩
    · exact ⟨n, h⟩
  · exact ⟨n, h⟩
theorem tbM_PB {M : Mm} {n i : Nat} (h : PB M n) : PB (tbM M 1 i) n := by
  unfold tbM
  split
  · exact h.pt (by decide) (fun _ => Or.inr rfl)
  · exact h
theorem prM_PB {M : Mm} {n i : Nat} (h : PB M n) : PB (prM M 1 i) n := by
  unfold prM
  split
  · exact h
  · exact h.pt (by decide) (fun q => absurd q (by decide))
theorem tcM_PB {M : Mm} {n : Nat} {w : Int32} (h : PB M n) : PB (tcM M 1 w) n := by
  unfold tcM
  split
  · exact h
  · exact h.row rfl (by decide)
theorem moM_PB {M : Mm} {n : Nat} {d : Int32} (h : PB M n) : PB (moM M 1 d) n := by
  unfold moM
  split
  · exact h
  split
  · exact h.row rfl (by decide)
  · exact h
theorem ix_of {x : Int32} {n : Nat} (hn : n ≤ 24) (h : ¬ x < 0 ∧ ¬ nI n ≤ x) : ∃ j, j < n ∧ x = nI j ∧ x.toNatClampNeg = j := by
  rcases pk_ix x (show n < 2 ^ 31 by omega) with g | g | ⟨j, h1, h2⟩
  · exact absurd g h.1
  · exact absurd g h.2
  · exact ⟨j, h1, h2, by rw [h2, nI_clamp (by omega)]⟩
theorem foM_PB {M : Mm} {n : Nat} (h : PB M n) : ∃ n', PB (foM M n) n' := by
  unfold foM
  split
  · exact fcM_PB h
  split
  · split
    · rename_i g
      obtain ⟨j, h1, h2, h3⟩ := ix_of h.2.1 g
      rw [h3]
      exact faM_PB h h1
    · exact ⟨n, h⟩
  split
  · split
    · exact ⟨n, tbM_PB h⟩
    · exact ⟨n, h⟩
  split
  · split
    · exact ⟨n, prM_PB h⟩
    · exact ⟨n, h⟩
  split
  · exact ⟨n, moM_PB h⟩
  split
  · exact ⟨n, tcM_PB h⟩
  · exact ⟨n, h⟩
theorem foM_fr {M : Mm} {n : Nat} (hn : n ≤ 24) : Fr M (foM M n) := by
  unfold foM
  split
  · exact fcM_fr
  split
  · split
    · exact faM_fr
    · exact Fr.rf
  split
  · split
    · rename_i g
      obtain ⟨j, h1, h2, h3⟩ := ix_of hn g
      rw [h3]
      exact tbM_fr (by omega)
    · exact Fr.rf
  split
  · split
    · rename_i g
      obtain ⟨j, h1, h2, h3⟩ := ix_of hn g
      rw [h3]
      exact prM_fr (by omega)
    · exact Fr.rf
  split
  · exact moM_fr
  split
  · exact tcM_fr
  · exact Fr.rf
def nOf (M : Mm) : Nat := (M.1 1 1).toNatClampNeg
theorem nOf_eq {M : Mm} {n : Nat} (h : PB M n) : nOf M = n := by unfold nOf; rw [h.1, nI_clamp (by have := h.2.1; omega)]
def coL (s : Nat → Int32) (l : Nat) : Nat → Nat → Nat → Mm → Nat × Mm
  | 0, d, _, M => (d, M)
  | f + 1, d, a, M => if (ror s l a (M.1 32)).1 = 0 then (d, mrow M 32 (ror s l a (M.1 32)).2.2) else if foR (mrow M 32 (ror s l a (M.1 32)).2.2) (nOf M) < 0 then (d, foM (mrow M 32 (ror s l a (M.1 32)).2.2) (nOf M)) else coL s l f (d + 1) (tkc s l 59 (ror s l a (M.1 32)).2.1 (ror s l a (M.1 32)).2.2).2.1 (mrow (foM (mrow M 32 (ror s l a (M.1 32)).2.2) (nOf M)) 32 (tkc s l 59 (ror s l a (M.1 32)).2.1 (ror s l a (M.1 32)).2.2).2.2)
theorem RdOK.fr {M M' : Mm} {s : Nat → Int32} {l : Nat} (h : RdOK M s l) (g : Fr M M') : RdOK M' s l := by
  obtain ⟨h1, h2, h3, h4⟩ := h
  exact ⟨by rw [g.2 31 (by decide)]; exact h1, by rw [g.2 30 (by decide)]; exact h2, h3, fun j hj => by rw [g.2 31 (by decide)]; exact h4 j hj⟩
theorem cpB_row {M : Mm} {c n : Nat} {f : Nat → Int32} (hc : isB c) (h : c ≠ 1) (hn : n ≤ 24) : cpB (mrow M 32 f) c 1 n = mrow (cpB M c 1 n) 32 f := by
  have h0 := isB_no hc (show 0 < 26 by decide)
  have h1 := isB_lt hc
  have h2 := isB_cases hc
  refine Prod.ext (funext fun k => ?_) rfl
  by_cases e : k = 32
  · subst e
    rw [mrow_s, cpB_out (by omega) (by omega), mrow_s]
  · rw [mrow_n e]
    unfold cpB
    show (if k = c then _ else if c + 2 ≤ k ∧ k < c + 2 + n then _ else _) = (if k = c then _ else if c + 2 ≤ k ∧ k < c + 2 + n then _ else _)
    split
    · rename_i g
      rw [mrow_n (show 1 ≠ 32 by decide), mrow_n (show c ≠ 32 by omega)]
    split
    · rename_i g g2
      rw [mrow_n (show 1 + (k - c) ≠ 32 by omega), mrow_n e]
    · rw [mrow_n e]
