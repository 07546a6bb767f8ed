theorem ffl_s {s : Nat → Int32} {l f a p : Nat} {q q' : Nat → Int32} (hr : ror s l a q = (1, p, q')) : ffl s l (f + 1) a q = if ¬ nI p < nI l then (-6, q') else if (tkc s l 59 p q').1 = 0 then (nI (tkc s l 59 p q').2.1, (tkc s l 59 p q').2.2) else ffl s l f (tkc s l 59 p q').2.1 (tkc s l 59 p q').2.2 := by
  rw [ffl, hr]
  exact if_neg one_ne
theorem ffl_z {s : Nat → Int32} {l f a : Nat} {q : Nat → Int32} (hr : (ror s l a q).1 = 0) : ffl s l (f + 1) a q = (nI (ror s l a q).2.1, (ror s l a q).2.2) := by
  rw [ffl]
  exact if_pos hr
theorem rdF_s {s : Nat → Int32} {l f m a : Nat} {o : Nat → Int32} (h : (ordT s l a (-6)).2 = -6) (d : (ordT s l a (-6)).1 < l) : rdF s l (f + 1) m a o = if chB s l (ordT s l a (-6)).1 = 59 then rdF s l f (m + 1) ((ordT s l a (-6)).1 + 1) (ordO s l a (-6) o m) else (nI (ordT s l a (-6)).1, (ordT s l a (-6)).1 + 1, ordO s l a (-6) o m, m + 1) := by
  have hb : rdB s l a = true := by unfold rdB; rw [decide_eq_true h, decide_eq_true d]; rfl
  rw [rdF]
  exact if_pos hb
theorem rdF_e {s : Nat → Int32} {l f m a : Nat} {o : Nat → Int32} (h : ¬ ((ordT s l a (-6)).2 = -6 ∧ (ordT s l a (-6)).1 < l)) : rdF s l (f + 1) m a o = ((ordT s l a (-6)).2, (ordT s l a (-6)).1, ordO s l a (-6) o m, m + 1) := by
  have hb : ¬ rdB s l a = true := by
    unfold rdB
    rw [Bool.and_eq_true, decide_eq_true_eq, decide_eq_true_eq]
    exact h
  rw [rdF]
  exact if_neg hb
theorem c_ffl {s s2 : Nat → Int32} {l : Nat} (h : Sg s s2 l) : ∀ (f g m a : Nat) (q o : Nat → Int32), a ≤ l → l < a + 3 * f → l < a + 3 * g → (ffl s l f a q).1 = (rdF s2 l g m a o).1 := by
  have hl := h.1
  intro f
  induction f with
  | zero => intro g m a q o ha h1; omega
  | succ f ih =>
    intro g m a q o ha h1 h2
    cases g with
    | zero => omega
    | succ g =>
      rcases c_ror (q := q) h ha with ⟨k1, k2, k3⟩ | ⟨k1, q', k2, kO⟩
      · rw [ffl_z k2, rdF_e (fun g => k1 g.1)]
        exact k3.symm
      · rw [ffl_s k2]
        have hp := (ordT_ok (s := s2) (l := l) (a := a) (by omega) k1).2
        by_cases d : (ordT s2 l a (-6)).1 < l
        · rw [rdF_s k1 d, if_neg (fun g => g (nI_lt d (by omega)))]
          rcases c_tk (a := (ordT s2 l a (-6)).1) (c := 59) (q := q') (by decide) h with ⟨e1, e2, e3⟩ | ⟨e1, e3⟩
          · rw [e3, if_pos e1, if_neg one_ne]
            exact ih g (m + 1) ((ordT s2 l a (-6)).1 + 1) _ _ (by omega) (by omega) (by omega)
          · rw [e3, if_neg e1, if_pos rfl]
        · rw [rdF_e (fun g => d g.2), if_pos (nI_nlt (by omega) (by have := ordT_lt (s := s2) (l := l) (a := a) (w := -6) (by omega) hl; omega))]
          exact k1.symm
theorem sq_pM {M : Mm} {o : Nat → Int32} {a : Nat} {v w : Int32} : Sq M (pM M o (upd (M.1 270) 12 v) a w) :=
  ⟨rfl, fun k _ _ _ h1 h2 => pM_n ⟨h1, by omega⟩, by rw [pM_r, rq_n (by decide), upd_n (by decide)], by rw [pM_r, rq_n (by decide), upd_n (by decide)]⟩
theorem sq_32 {M : Mm} {f : Nat → Int32} : Sq M (mrow M 32 f) := ⟨rfl, fun k _ _ h _ _ => mrow_n h, by rw [mrow_n (by decide)], by rw [mrow_n (by decide)]⟩
theorem pad_sg {M : Mm} {l : Nat} (h : Pad M l) : Sg (M.1 31) (M.1 275) l := ⟨h.1, h.2.2.2⟩
theorem ch_n : ∀ c, c < 127 → narrow .char (.int (nI c)) = .int (nI c) ∧ fits .char (.int (nI c)) = true := by decide +kernel
theorem pad_rd {M : Mm} {l : Nat} (h : Pad M l) : RdOK M (M.1 31) l := by
  refine ⟨rfl, h.2.1, h.1, fun j hj => ?_⟩
  obtain ⟨e, c, h1, h2, h3⟩ := h.2.2.2 j hj
  rw [e, h3]
  exact ch_n c (by omega)
def Fy (M M' : Mm) : Prop := M'.2 = M.2 ∧ ∀ k, k = 0 ∨ (27 ≤ k ∧ k ≠ 32) → M'.1 k = M.1 k
theorem Fy.rf {M : Mm} : Fy M M := ⟨rfl, fun _ _ => rfl⟩
theorem Fy.tr {M M1 M2 : Mm} (h : Fy M M1) (g : Fy M1 M2) : Fy M M2 := ⟨g.1.trans h.1, fun k hk => (g.2 k hk).trans (h.2 k hk)⟩
theorem Fq.y {M M1 : Mm} (h : Fq M M1) : Fy M M1 := ⟨h.1, fun k hk => h.2 k (by omega)⟩
theorem Fy.m32 {M : Mm} {f : Nat → Int32} : Fy M (mrow M 32 f) := ⟨rfl, fun k hk => mrow_n (by omega)⟩
theorem foM_fq {M : Mm} {n : Nat} (hn : n ≤ 24) : Fq M (foM M n) := by
  unfold foM
  split
  · exact fcM_fq
  split
  · split
    · exact faM_fq
    · exact Fq.rf
  split
  · split
    · rename_i g
      obtain ⟨j, h1, h2, h3⟩ := ix_of hn g
      rw [h3]
      exact tbM_fq (by omega)
    · exact Fq.rf
  split
  · split
    · rename_i g
      obtain ⟨j, h1, h2, h3⟩ := ix_of hn g
      rw [h3]
      exact prM_fq (by omega)
    · exact Fq.rf
  split
  · exact moM_fq
  split
  · exact tcM_fq
  · exact Fq.rf
theorem vb_32 {M : Mm} {n : Nat} {f Z : Nat → Int32} (h : Vb M 1 Z n) : Vb (mrow M 32 f) 1 Z n := Vb_q (fun j hj => mrow_n (by omega)) h
theorem dob_n {M : Mm} {n k : Nat} (h : doW M n k < 0) : doB M n k = false := decide_eq_false (fun g => by rw [Int32.le_iff_toInt_le] at g; rw [Int32.lt_iff_toInt_lt] at h; omega)
theorem dob_0 {M : Mm} {n k : Nat} (h : doW M n k = 0) : doB M n k = true := by unfold doB; rw [h]; rfl
theorem c_do {C R : Mm} {n m : Nat} (hv : Vb C 1 (R.1 271) n) (hb : Bd (R.1 271) n) (h0 : R.1 280 (4 * m) = C.1 32 2) (h1 : R.1 280 (4 * m + 1) = C.1 32 3) (h2 : (C.1 32 2 = 99 ∨ C.1 32 2 = 97) → R.1 280 (4 * m + 2) = C.1 32 4 ∧ R.1 280 (4 * m + 3) = C.1 32 5) (h3 : C.1 32 2 = 111 → ∃ j, j < 10 ∧ C.1 32 3 = nI j) (hO : isO (C.1 32 2) = true) :
    (foR C n < 0 ∧ doB R n m = false ∧ foM C n = C) ∨ (¬ foR C n < 0 ∧ doB R n m = true ∧ ∃ n2, Vb (foM C n) 1 ((doM R n m).1 271) n2 ∧ Bd ((doM R n m).1 271) n2) := by
  have hn := hv.2.2.1
  have hm1 : (-1 : Int32) < 0 := by decide
  have hmn : ∀ j, j ≤ 24 → ¬ nI j < 0 := fun j hj => nI_nlt (b := 0) (Nat.zero_le _) (by omega)
  have hxo : ∀ (x v : Int32), ¬ (¬ x < 0 ∧ ¬ nI n ≤ x) → inX n x v = -1 := fun x v g => if_neg g
  have hxi : ∀ (x v : Int32), (¬ x < 0 ∧ ¬ nI n ≤ x) → inX n x v = v := fun x v g => if_pos g
  rcases ord7 (C.1 32 2) with e | e | e | e | e | e | e
  · obtain ⟨p2, p3⟩ := h2 (Or.inl e)
    have ew : doW R n m = wnC n (C.1 32 3) (C.1 32 4) (C.1 32 5) := by unfold doW whY; rw [h0, h1, p2, p3, if_pos e]
    have er : foR C n = fcR n (C.1 32 3) (C.1 32 4) (C.1 32 5) := by unfold foR; rw [if_pos e]
    have em : foM C n = fcM C 1 n (C.1 32 3) (C.1 32 4) (C.1 32 5) := by unfold foM; rw [if_pos e]
    have ed : doM R n m = flM R n (C.1 32 3) (-6) (C.1 32 4) (C.1 32 5) := by unfold doM; rw [h0, h1, p2, p3, if_pos e]
    rcases t_claim (s := C.1 32 3) (p := C.1 32 4) (c := C.1 32 5) hv hb with ⟨a, b, c⟩ | ⟨a, h24, b, v2, b2⟩
    · left
      exact ⟨by rw [er, b]; exact a, dob_n (by rw [ew]; exact a), by rw [em, c]⟩
    · right
      exact ⟨by rw [er, b]; exact hmn n hn, dob_0 (by rw [ew]; exact a), n + 1, by rw [em, ed, fl_271]; exact v2, by rw [ed, fl_271]; exact b2⟩
  · obtain ⟨p2, p3⟩ := h2 (Or.inr e)
    have n1 : ¬ C.1 32 2 = 99 := by rw [e]; decide
    have ew : doW R n m = inX n (C.1 32 3) (wnA (R.1 271) n (C.1 32 3).toNatClampNeg (C.1 32 4) (C.1 32 5)) := by unfold doW whY; rw [h0, h1, p2, p3, if_neg n1, if_pos e]
    have er : foR C n = if ¬ C.1 32 3 < 0 ∧ ¬ nI n ≤ C.1 32 3 then faR C 1 n (C.1 32 3).toNatClampNeg (C.1 32 4) (C.1 32 5) else -1 := by unfold foR; rw [if_neg n1, if_pos e]
    have em : foM C n = if ¬ C.1 32 3 < 0 ∧ ¬ nI n ≤ C.1 32 3 then faM C 1 n (C.1 32 3).toNatClampNeg (C.1 32 4) (C.1 32 5) else C := by unfold foM; rw [if_neg n1, if_pos e]
    have ed : doM R n m = flM R n (1 - R.1 271 (5 + 7 * (C.1 32 3).toNatClampNeg + 0)) (C.1 32 3) (C.1 32 4) (C.1 32 5) := by unfold doM; rw [h0, h1, p2, p3, if_neg n1, if_pos e]
    by_cases gi : ¬ C.1 32 3 < 0 ∧ ¬ nI n ≤ C.1 32 3
    · rw [hxi _ _ gi] at ew
      rw [if_pos gi] at er em
      obtain ⟨j, j1, j2, j3⟩ := ix_of hn gi
      rw [j3] at ew er em ed
      rw [j2] at ed
      rcases t_answer (p := C.1 32 4) (c := C.1 32 5) hv hb j1 with ⟨a, b, c⟩ | ⟨a, h24, b, v2, b2⟩
      · left
        exact ⟨by rw [er, b]; exact a, dob_n (by rw [ew]; exact a), by rw [em, c]⟩
      · right
        exact ⟨by rw [er, b]; exact hmn n hn, dob_0 (by rw [ew]; exact a), n + 1, by rw [em, ed, fl_271]; exact v2, by rw [ed, fl_271]; exact b2⟩
    · rw [hxo _ _ gi] at ew
      rw [if_neg gi] at er em
      left
      exact ⟨by rw [er]; exact hm1, dob_n (by rw [ew]; exact hm1), em⟩
  · have n1 : ¬ C.1 32 2 = 99 := by rw [e]; decide
    have n2 : ¬ C.1 32 2 = 97 := by rw [e]; decide
    have ew : doW R n m = inX n (C.1 32 3) (wnW (R.1 271) (C.1 32 3).toNatClampNeg) := by unfold doW whY; rw [h0, h1, if_neg n1, if_neg n2, if_pos e]
    have er : foR C n = if ¬ C.1 32 3 < 0 ∧ ¬ nI n ≤ C.1 32 3 then tbR C 1 n (C.1 32 3).toNatClampNeg else -1 := by unfold foR; rw [if_neg n1, if_neg n2, if_pos e]
    have em : foM C n = if ¬ C.1 32 3 < 0 ∧ ¬ nI n ≤ C.1 32 3 then tbM C 1 (C.1 32 3).toNatClampNeg else C := by unfold foM; rw [if_neg n1, if_neg n2, if_pos e]
    have ed : doM R n m = mset R 271 (5 + 7 * (C.1 32 3).toNatClampNeg + 6) 1 := by unfold doM; rw [h0, h1, if_neg n1, if_neg n2, if_pos e]
    by_cases gi : ¬ C.1 32 3 < 0 ∧ ¬ nI n ≤ C.1 32 3
    · rw [hxi _ _ gi] at ew
      rw [if_pos gi] at er em
      obtain ⟨j, j1, j2, j3⟩ := ix_of hn gi
      rw [j3] at ew er em ed
      unfold wnW at ew
      rcases t_withdraw hv hb j1 with ⟨a, b, c⟩ | ⟨a, b, v2, b2⟩
      · left
        rw [if_pos a] at ew
        exact ⟨by rw [er, b]; decide, dob_n (by rw [ew]; decide), by rw [em, c]⟩
      · right
        rw [if_neg (by rw [a]; decide)] at ew
        exact ⟨by rw [er, b]; exact hmn _ (by have := cnt_le (bSd (tbM C 1 j) 1 n) n; omega), dob_0 ew, n, by rw [em, ed, mset_s]; exact v2, by rw [ed, mset_s]; exact b2⟩
    · rw [hxo _ _ gi] at ew
      rw [if_neg gi] at er em
      left
      exact ⟨by rw [er]; exact hm1, dob_n (by rw [ew]; exact hm1), em⟩
  · have n1 : ¬ C.1 32 2 = 99 := by rw [e]; decide
    have n2 : ¬ C.1 32 2 = 97 := by rw [e]; decide
    have n3 : ¬ C.1 32 2 = 119 := by rw [e]; decide
    have ew : doW R n m = inX n (C.1 32 3) (wnR (R.1 271) (C.1 32 3).toNatClampNeg) := by unfold doW whY; rw [h0, h1, if_neg n1, if_neg n2, if_neg n3, if_pos e]
    have er : foR C n = if ¬ C.1 32 3 < 0 ∧ ¬ nI n ≤ C.1 32 3 then prR C 1 (C.1 32 3).toNatClampNeg else -1 := by unfold foR; rw [if_neg n1, if_neg n2, if_neg n3, if_pos e]
    have em : foM C n = if ¬ C.1 32 3 < 0 ∧ ¬ nI n ≤ C.1 32 3 then prM C 1 (C.1 32 3).toNatClampNeg else C := by unfold foM; rw [if_neg n1, if_neg n2, if_neg n3, if_pos e]
    have ed : doM R n m = mset R 271 (5 + 7 * (C.1 32 3).toNatClampNeg + 3) (R.1 271 2) := by unfold doM; rw [h0, h1, if_neg n1, if_neg n2, if_neg n3, if_pos e]
    by_cases gi : ¬ C.1 32 3 < 0 ∧ ¬ nI n ≤ C.1 32 3
    · rw [hxi _ _ gi] at ew
      rw [if_pos gi] at er em
      obtain ⟨j, j1, j2, j3⟩ := ix_of hn gi
      rw [j3] at ew er em ed
      unfold wnR at ew
      rcases t_renew hv hb j1 with ⟨a, b, c⟩ | ⟨a, b, nn, v2, b2⟩
      · left
        rw [if_pos a] at ew
        exact ⟨by rw [er, b]; decide, dob_n (by rw [ew]; decide), by rw [em, c]⟩
      · right
        rw [if_neg a] at ew
        exact ⟨by rw [er]; exact nn, dob_0 ew, n, by rw [em, ed, mset_s]; exact v2, by rw [ed, mset_s]; exact b2⟩
    · rw [hxo _ _ gi] at ew
      rw [if_neg gi] at er em
      left
      exact ⟨by rw [er]; exact hm1, dob_n (by rw [ew]; exact hm1), em⟩
  · have n1 : ¬ C.1 32 2 = 99 := by rw [e]; decide
    have n2 : ¬ C.1 32 2 = 97 := by rw [e]; decide
    have n3 : ¬ C.1 32 2 = 119 := by rw [e]; decide
    have n4 : ¬ C.1 32 2 = 114 := by rw [e]; decide
    have ew : doW R n m = wnP (R.1 271) (C.1 32 3) := by unfold doW whY; rw [h0, h1, if_neg n1, if_neg n2, if_neg n3, if_neg n4, if_pos e]
    have er : foR C n = moR C 1 n (C.1 32 3) := by unfold foR; rw [if_neg n1, if_neg n2, if_neg n3, if_neg n4, if_pos e]
    have em : foM C n = moM C 1 (C.1 32 3) := by unfold foM; rw [if_neg n1, if_neg n2, if_neg n3, if_neg n4, if_pos e]
    have ed : doM R n m = mset R 271 2 (R.1 271 2 + C.1 32 3) := by unfold doM; rw [h0, h1, if_neg n1, if_neg n2, if_neg n3, if_neg n4, if_pos e]
    rcases t_pass (d := C.1 32 3) hv hb with ⟨a, b, c⟩ | ⟨a, b, v2, b2⟩
    · left
      exact ⟨by rw [er, b]; exact a, dob_n (by rw [ew]; exact a), by rw [em, c]⟩
    · right
      exact ⟨by rw [er, b]; exact hmn _ (by have := cnt_le (bSd (moM C 1 (C.1 32 3)) 1 n) n; omega), dob_0 (by rw [ew]; exact a), n, by rw [em, ed, mset_s]; exact v2, by rw [ed, mset_s]; exact b2⟩
  · have n1 : ¬ C.1 32 2 = 99 := by rw [e]; decide
    have n2 : ¬ C.1 32 2 = 97 := by rw [e]; decide
    have n3 : ¬ C.1 32 2 = 119 := by rw [e]; decide
    have n4 : ¬ C.1 32 2 = 114 := by rw [e]; decide
    have n5 : ¬ C.1 32 2 = 116 := by rw [e]; decide
    have ew : doW R n m = 0 := by unfold doW whY; rw [h0, h1, if_neg n1, if_neg n2, if_neg n3, if_neg n4, if_neg n5]
    have er : foR C n = tcR C 1 (C.1 32 3) := by unfold foR; rw [if_neg n1, if_neg n2, if_neg n3, if_neg n4, if_neg n5, if_pos e]
    have em : foM C n = tcM C 1 (C.1 32 3) := by unfold foM; rw [if_neg n1, if_neg n2, if_neg n3, if_neg n4, if_neg n5, if_pos e]
    have ed : doM R n m = ovM R (C.1 32 3) := by unfold doM; rw [h0, h1, if_neg n1, if_neg n2, if_neg n3, if_neg n4, if_neg n5]
    obtain ⟨j, hj, ej⟩ := h3 e
    rw [ej] at er em ed
    obtain ⟨a, v2, b2⟩ := t_over hv hb hj
    right
    unfold ovM at ed
    exact ⟨by rw [er]; exact a, dob_0 ew, n, by rw [em, ed, mset_s]; exact v2, by rw [ed, mset_s]; exact b2⟩
  · rw [isO_n ⟨e.1, e.2.1, e.2.2.1, e.2.2.2.1, e.2.2.2.2.1, e.2.2.2.2.2⟩] at hO
    exact absurd hO (by decide)
