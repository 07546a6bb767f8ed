theorem rng9 {v : Int32} (g : ¬ v < 1 ∧ ¬ 9 < v) : ∃ c, c ≤ 9 ∧ v = nI c := by
  rcases pk_ix v (n := 10) (by decide) with q | q | ⟨c, hc, ec⟩
  · exact absurd (by rw [Int32.lt_iff_toInt_lt] at q ⊢; have a : (0 : Int32).toInt = 0 := by decide
                     have b : (1 : Int32).toInt = 1 := by decide
                     omega) g.1
  · exact absurd (by rw [Int32.le_iff_toInt_le] at q; rw [Int32.lt_iff_toInt_lt]; have a : (nI 10).toInt = 10 := by decide
                     have b : (9 : Int32).toInt = 9 := by decide
                     omega) g.2
  · exact ⟨c, by omega, ec⟩
def Rq (A B : Mm) (k : Nat) (Z : Nat → Int32) : Prop := B.2 = A.2 ∧ (∀ q, q ≠ 270 → q ≠ 271 → q ≠ 272 → q < 276 → B.1 q = A.1 q) ∧ B.1 270 4 = nI (if k = 6 then 6 else k + 1) ∧ B.1 270 6 = A.1 270 6 ∧ B.1 272 = (rcM A k).1 272 ∧ B.1 271 = Z
theorem rq_rc {A : Mm} {k : Nat} {Z : Nat → Int32} (h : A.1 271 = Z) : Rq A (rcM A k) k Z := ⟨rcM_2, fun q h1 h2 h3 _ => rcM_n ⟨h1, h3⟩, rcM_4, rcM_r (by decide), rfl, rc_z.trans h⟩
theorem Rq.set {A B : Mm} {k j : Nat} {Z : Nat → Int32} {v : Int32} (h : Rq A B k Z) : Rq A (mset B 271 j v) k (upd Z j v) :=
  ⟨h.1, fun q h1 h2 h3 h4 => by rw [mset_n h2]; exact h.2.1 q h1 h2 h3 h4, by rw [mset_n (by decide)]; exact h.2.2.1, by rw [mset_n (by decide)]; exact h.2.2.2.1, by rw [mset_n (by decide)]; exact h.2.2.2.2.1, by rw [mset_s, h.2.2.2.2.2]⟩
theorem Rq.row {A B : Mm} {k : Nat} {Z f : Nat → Int32} (h : Rq A B k Z) : Rq A (mrow B 271 f) k f :=
  ⟨h.1, fun q h1 h2 h3 h4 => by rw [mrow_n h2]; exact h.2.1 q h1 h2 h3 h4, by rw [mrow_n (by decide)]; exact h.2.2.1, by rw [mrow_n (by decide)]; exact h.2.2.2.1, by rw [mrow_n (by decide)]; exact h.2.2.2.2.1, mrow_s⟩
theorem Rq.lk {A B : Mm} {k n : Nat} {Z : Nat → Int32} (h : Rq A B k Z) : Rq A (lkM B n) k Z := by
  have e : ∀ q, q < 276 → (lkM B n).1 q = B.1 q := fun q hq => by unfold lkM wt; rw [mrow_n (by omega), mrow_n (by omega)]
  exact ⟨h.1, fun q h1 h2 h3 h4 => by rw [e q h4]; exact h.2.1 q h1 h2 h3 h4, by rw [e 270 (by decide)]; exact h.2.2.1, by rw [e 270 (by decide)]; exact h.2.2.2.1, by rw [e 272 (by decide)]; exact h.2.2.2.2.1, by rw [e 271 (by decide)]; exact h.2.2.2.2.2⟩
def flZ (Z : Nat → Int32) (n : Nat) (s t p c : Int32) : Nat → Int32 := upd (upd (upd (upd (upd (upd (upd (upd Z (5 + 7 * n + 0) s) (5 + 7 * n + 1) p) (5 + 7 * n + 2) (Z 2)) (5 + 7 * n + 3) (Z 2)) (5 + 7 * n + 4) t) (5 + 7 * n + 5) c) (5 + 7 * n + 6) 0) 3 (nI (n + 1))
theorem Rq.fl {A B : Mm} {k n : Nat} {Z : Nat → Int32} {s t p c : Int32} (h : Rq A B k Z) : Rq A (flM B n s t p c) k (flZ Z n s t p c) := by
  unfold flM flZ
  rw [show B.1 271 2 = Z 2 by rw [h.2.2.2.2.2]]
  exact (((((((h.set).set).set).set).set).set).set).set
theorem fl_271 {M : Mm} {n : Nat} {s t p c : Int32} : (flM M n s t p c).1 271 = flZ (M.1 271) n s t p c := by
  unfold flM flZ
  simp only [mset_s]
theorem flZ_n {Z : Nat → Int32} {n j : Nat} {s t p c : Int32} (h : j ≠ 3) (h2 : j < 5 + 7 * n ∨ 5 + 7 * n + 7 ≤ j) : flZ Z n s t p c j = Z j := by
  unfold flZ
  rw [upd_n h, upd_n (by omega), upd_n (by omega), upd_n (by omega), upd_n (by omega), upd_n (by omega), upd_n (by omega), upd_n (by omega)]
theorem rf_lt {j : Nat} (hj : j < 7) : rf j < 7 := by
  have hr : ∀ j, j < 7 → rf j < 7 := by decide
  exact hr j hj
theorem rf_inj {i j : Nat} (hi : i < 7) (hj : j < 7) (h : rf i = rf j) : i = j := by
  have hr : ∀ i, i < 7 → ∀ j, j < 7 → rf i = rf j → i = j := by decide
  exact hr i hi j hj h
theorem flZ_rp {Z : Nat → Int32} {n i j : Nat} {s t p c : Int32} (hi : i < n) (hj : j < 7) : rp (flZ Z n s t p c) i j = rp Z i j := by
  unfold rp
  have := rf_lt hj
  exact flZ_n (by omega) (by omega)
theorem flZ_0 {Z : Nat → Int32} {n : Nat} {s t p c : Int32} : flZ Z n s t p c (5 + 7 * n + 0) = s := by
  unfold flZ
  rw [upd_n (by omega), upd_n (by omega), upd_n (by omega), upd_n (by omega), upd_n (by omega), upd_n (by omega), upd_n (by omega), upd_s]
theorem flZ_1 {Z : Nat → Int32} {n : Nat} {s t p c : Int32} : flZ Z n s t p c (5 + 7 * n + 1) = p := by
  unfold flZ
  rw [upd_n (by omega), upd_n (by omega), upd_n (by omega), upd_n (by omega), upd_n (by omega), upd_n (by omega), upd_s]
theorem flZ_2 {Z : Nat → Int32} {n : Nat} {s t p c : Int32} : flZ Z n s t p c (5 + 7 * n + 2) = Z 2 := by
  unfold flZ
  rw [upd_n (by omega), upd_n (by omega), upd_n (by omega), upd_n (by omega), upd_n (by omega), upd_s]
theorem flZ_3 {Z : Nat → Int32} {n : Nat} {s t p c : Int32} : flZ Z n s t p c (5 + 7 * n + 3) = Z 2 := by
  unfold flZ
  rw [upd_n (by omega), upd_n (by omega), upd_n (by omega), upd_n (by omega), upd_s]
theorem flZ_4 {Z : Nat → Int32} {n : Nat} {s t p c : Int32} : flZ Z n s t p c (5 + 7 * n + 4) = t := by
  unfold flZ
  rw [upd_n (by omega), upd_n (by omega), upd_n (by omega), upd_s]
theorem flZ_5 {Z : Nat → Int32} {n : Nat} {s t p c : Int32} : flZ Z n s t p c (5 + 7 * n + 5) = c := by
  unfold flZ
  rw [upd_n (by omega), upd_n (by omega), upd_s]
theorem flZ_6 {Z : Nat → Int32} {n : Nat} {s t p c : Int32} : flZ Z n s t p c (5 + 7 * n + 6) = 0 := by
  unfold flZ
  rw [upd_n (by omega), upd_s]
theorem fl_vb {C : Mm} {Z : Nat → Int32} {n : Nat} {s p c t : Int32} (hv : Vb C 1 Z n) (hn : n < 24) (hs : s = 0 ∨ s = 1) (ht : t = -6 ∨ ∃ i, i < n ∧ t = nI i) : Vb (fileM C 1 n s p c t) 1 (flZ Z n s t p c) (n + 1) := by
  have hp := fileM_PB (p := p) (c := c) hv.pb hn hs ht
  have q := fileM_new (M := C) (n := n) (s := s) (p := p) (c := c) (t := t)
  have hd : C.1 1 2 = Z 2 := hv.2.2.2.2.1
  refine ⟨hp.1, upd_s, hp.2.1, ?_, ?_, ?_, ?_, ?_, hp.2.2⟩
  · intro i hi j hj
    by_cases e : i = n
    · subst e
      have hj7 : j = 0 ∨ j = 1 ∨ j = 2 ∨ j = 3 ∨ j = 4 ∨ j = 5 ∨ j = 6 := by omega
      rcases hj7 with rfl | rfl | rfl | rfl | rfl | rfl | rfl
      · exact q.1.trans flZ_0.symm
      · exact q.2.1.trans flZ_1.symm
      · exact q.2.2.1.trans flZ_5.symm
      · exact q.2.2.2.1.trans flZ_4.symm
      · exact (q.2.2.2.2.1.trans hd).trans flZ_2.symm
      · exact (q.2.2.2.2.2.1.trans hd).trans flZ_3.symm
      · exact q.2.2.2.2.2.2.trans flZ_6.symm
    · rw [fileM_cp (by omega), flZ_rp (by omega) hj]
      exact hv.2.2.2.1 i (by omega) j hj
  · rw [fileM_1, upd_n (by decide), flZ_n (by decide) (by omega)]; exact hv.2.2.2.2.1
  · rw [fileM_1, upd_n (by decide), flZ_n (by decide) (by omega)]; exact hv.2.2.2.2.2.1
  · rw [fileM_1, upd_n (by decide), flZ_n (by decide) (by omega)]; exact hv.2.2.2.2.2.2.1
  · rw [fileM_1, upd_n (by decide), flZ_n (by decide) (by omega)]; exact hv.2.2.2.2.2.2.2.1
theorem fl_bd {Z : Nat → Int32} {n : Nat} {s p c t : Int32} (hb : Bd Z n) (hp : ∃ q, q ≤ 9 ∧ p = nI q) : Bd (flZ Z n s t p c) (n + 1) := by
  obtain ⟨d, la, pg, h2, hd, h0, hla, h1, hpg, hq⟩ := hb
  obtain ⟨u, hu, eu⟩ := hp
  refine ⟨d, la, pg, by rw [flZ_n (by decide) (by omega)]; exact h2, hd, by rw [flZ_n (by decide) (by omega)]; exact h0, hla, by rw [flZ_n (by decide) (by omega)]; exact h1, hpg, fun i hi => ?_⟩
  by_cases e : i = n
  · subst e
    exact ⟨⟨d, Nat.le_refl d, (flZ_3 : flZ Z i s t p c (5 + 7 * i + 3) = Z 2).trans h2⟩, ⟨u, hu, (flZ_1 : flZ Z i s t p c (5 + 7 * i + 1) = p).trans eu⟩⟩
  · rw [flZ_rp (by omega) (by decide), flZ_rp (by omega) (by decide)]
    exact hq i (by omega)
theorem inv_tt {v a c : Int32} (h : ¬ v < a) (h2 : ¬ c < v) : inv v a c = true := by unfold inv; rw [decide_eq_false h, decide_eq_false h2]; rfl
theorem inv_lo {v a c : Int32} (h : v < a) : inv v a c = false := by unfold inv; rw [decide_eq_true h]; rfl
theorem inv_hi {v a c : Int32} (h : c < v) : inv v a c = false := by unfold inv; rw [decide_eq_true h, Bool.and_comm]; rfl
theorem inv_iff {v a c : Int32} : inv v a c = true ↔ ¬ v < a ∧ ¬ c < v := by
  unfold inv
  rw [Bool.and_eq_true, Bool.not_eq_true', Bool.not_eq_true', decide_eq_false_iff_not, decide_eq_false_iff_not]
theorem cbf_f {p c : Int32} : (isF p c = true ∧ cbf p c = 1 ∧ ¬ p < 1 ∧ ¬ 9 < p) ∨ (isF p c = false ∧ cbf p c = 0) := by
  unfold isF cbf
  by_cases h : p < 1 ∨ 9 < p ∨ c < 0 ∨ 1023 < c
  · right
    rw [if_pos h]
    refine ⟨?_, rfl⟩
    rcases h with h | h | h | h
    · rw [inv_lo h]; rfl
    · rw [inv_hi h]; rfl
    · rw [inv_lo (v := c) h, Bool.and_comm]; rfl
    · rw [inv_hi (v := c) h, Bool.and_comm]; rfl
  · left
    rw [if_neg h, inv_tt (fun g => h (Or.inl g)) (fun g => h (Or.inr (Or.inl g))), inv_tt (fun g => h (Or.inr (Or.inr (Or.inl g)))) (fun g => h (Or.inr (Or.inr (Or.inr g))))]
    exact ⟨rfl, rfl, fun g => h (Or.inl g), fun g => h (Or.inr (Or.inl g))⟩
theorem t_claim {C : Mm} {Z : Nat → Int32} {n : Nat} {s p c : Int32} (hv : Vb C 1 Z n) (hb : Bd Z n) :
    (wnC n s p c < 0 ∧ fcR n s p c = wnC n s p c ∧ fcM C 1 n s p c = C) ∨
    (wnC n s p c = 0 ∧ n < 24 ∧ fcR n s p c = nI n ∧ Vb (fcM C 1 n s p c) 1 (flZ Z n s (-6) p c) (n + 1) ∧ Bd (flZ Z n s (-6) p c) (n + 1)) := by
  have hn := hv.2.2.1
  have hcb := cbf_f (p := p) (c := c)
  by_cases g : s < 0 ∨ 1 < s ∨ cbf p c = 0
  · left
    have hw : wnC n s p c = -2 := by
      unfold wnC
      refine if_neg (fun q => ?_)
      rcases g with g | g | g
      · rw [inv_lo g] at q; exact absurd q.1 (by decide)
      · rw [inv_hi g] at q; exact absurd q.1 (by decide)
      · rcases hcb with w | w
        · rw [w.2.1] at g; exact absurd g (by decide)
        · rw [w.1] at q; exact absurd q.2 (by decide)
    unfold fcR fcM
    rw [if_pos g, if_pos g, hw]
    exact ⟨by decide, rfl, rfl⟩
  · have hc1 : isF p c = true ∧ ¬ p < 1 ∧ ¬ 9 < p := by
      rcases hcb with w | w
      · exact ⟨w.1, w.2.2⟩
      · exact absurd (Or.inr (Or.inr w.2)) g
    have hs0 : ¬ s < 0 := fun q => g (Or.inl q)
    have hs1 : ¬ 1 < s := fun q => g (Or.inr (Or.inl q))
    have hw : wnC n s p c = if n = 24 then -4 else 0 := if_pos ⟨inv_tt hs0 hs1, hc1.1⟩
    unfold fcR fcM
    rw [if_neg g, if_neg g, hw]
    by_cases h24 : n < 24
    · right
      rw [if_pos h24, if_pos h24, if_neg (by omega)]
      exact ⟨rfl, h24, rfl, fl_vb hv h24 (side_01 hs0 hs1) (Or.inl rfl), fl_bd hb (rng9 hc1.2)⟩
    · left
      rw [if_neg h24, if_neg h24, if_pos (by omega)]
      exact ⟨by decide, rfl, rfl⟩
theorem wd_c {C : Mm} {Z : Nat → Int32} {n i : Nat} (hv : Vb C 1 Z n) (hi : i < n) : (wd1 Z i = true ∧ ¬ C.1 (1 + 2 + i) 6 = 0) ∨ (wd1 Z i = false ∧ C.1 (1 + 2 + i) 6 = 0) := by
  have e : C.1 (1 + 2 + i) 6 = rp Z i 6 := hv.2.2.2.1 i hi 6 (by decide)
  rw [e]
  unfold wd1
  rcases (hv.wf i hi).2.2 with g | g
  · right; rw [g]; exact ⟨by decide, rfl⟩
  · left; rw [g]; exact ⟨by decide, by decide⟩
theorem t_answer {C : Mm} {Z : Nat → Int32} {n i : Nat} {p c : Int32} (hv : Vb C 1 Z n) (hb : Bd Z n) (hi : i < n) :
    (wnA Z n i p c < 0 ∧ faR C 1 n i p c = wnA Z n i p c ∧ faM C 1 n i p c = C) ∨
    (wnA Z n i p c = 0 ∧ n < 24 ∧ faR C 1 n i p c = nI n ∧ Vb (faM C 1 n i p c) 1 (flZ Z n (1 - Z (5 + 7 * i + 0)) (nI i) p c) (n + 1) ∧ Bd (flZ Z n (1 - Z (5 + 7 * i + 0)) (nI i) p c) (n + 1)) := by
  have hn := hv.2.2.1
  have e0 : C.1 (1 + 2 + i) 0 = Z (5 + 7 * i + 0) := hv.2.2.2.1 i hi 0 (by decide)
  have hs : Z (5 + 7 * i + 0) = 0 ∨ Z (5 + 7 * i + 0) = 1 := (hv.wf i hi).1
  unfold faR faM wnA
  rcases cbf_f (p := p) (c := c) with w | w
  · rw [if_neg (show ¬ cbf p c = 0 by rw [w.2.1]; decide), if_neg (show ¬ cbf p c = 0 by rw [w.2.1]; decide), if_pos w.1]
    by_cases h24 : n < 24
    · rw [if_pos h24, if_pos h24, if_neg (show ¬ n = 24 by omega)]
      rcases wd_c hv hi with q | q
      · left
        rw [if_neg q.2, if_neg q.2, if_pos q.1]
        exact ⟨by decide, rfl, rfl⟩
      · right
        rw [if_pos q.2, if_pos q.2, if_neg (show ¬ wd1 Z i = true by rw [q.1]; decide), e0]
        exact ⟨rfl, h24, rfl, fl_vb hv h24 (sub_01 hs) (Or.inr ⟨i, hi, rfl⟩), fl_bd hb (rng9 w.2.2)⟩
    · left
      rw [if_neg h24, if_neg h24, if_pos (show n = 24 by omega)]
      exact ⟨by decide, rfl, rfl⟩
  · left
    rw [if_pos w.2, if_pos w.2, if_neg (show ¬ isF p c = true by rw [w.1]; decide)]
    exact ⟨by decide, rfl, rfl⟩
theorem pt_vb {C : Mm} {Z : Nat → Int32} {n i j : Nat} {v : Int32} (hv : Vb C 1 Z n) (hj : j < 7) (hj2 : j ≠ 0 ∧ j ≠ 3) (h6 : j = 6 → v = 0 ∨ v = 1) : Vb (mset C (1 + 2 + i) j v) 1 (upd Z (5 + 7 * i + rf j) v) n := by
  have hp := PB.pt (i := i) (v := v) hj2 h6 hv.pb
  have hr : (mset C (1 + 2 + i) j v).1 1 = C.1 1 := mset_n (by omega)
  refine ⟨hp.1, by rw [upd_n (by omega)]; exact hv.2.1, hp.2.1, ?_, ?_, ?_, ?_, ?_, hp.2.2⟩
  · intro a ha b hb
    rw [cp_mset_p]
    show (if a = i ∧ b = j then v else cp C 1 a b) = upd Z (5 + 7 * i + rf j) v (5 + 7 * a + rf b)
    have h1 := rf_lt hj
    have h2 := rf_lt hb
    by_cases g : a = i ∧ b = j
    · rw [if_pos g, g.1, g.2, upd_s]
    · rw [if_neg g, upd_n]
      · exact hv.2.2.2.1 a ha b hb
      · intro e
        have ea : a = i := by omega
        have eb : rf b = rf j := by omega
        exact g ⟨ea, rf_inj hb hj eb⟩
  · rw [hr, upd_n (by omega)]; exact hv.2.2.2.2.1
  · rw [hr, upd_n (by omega)]; exact hv.2.2.2.2.2.1
  · rw [hr, upd_n (by omega)]; exact hv.2.2.2.2.2.2.1
  · rw [hr, upd_n (by omega)]; exact hv.2.2.2.2.2.2.2.1
theorem rp_upd {Z : Nat → Int32} {i j a b : Nat} {v : Int32} (hb : b < 7) (hj : j < 7) (h : b ≠ j) : rp (upd Z (5 + 7 * i + rf j) v) a b = rp Z a b := by
  unfold rp
  have h1 := rf_lt hj
  have h2 := rf_lt hb
  refine upd_n (fun e => h (rf_inj hb hj ?_))
  omega
theorem t_withdraw {C : Mm} {Z : Nat → Int32} {n i : Nat} (hv : Vb C 1 Z n) (hb : Bd Z n) (hi : i < n) :
    (wd1 Z i = true ∧ tbR C 1 n i = -5 ∧ tbM C 1 i = C) ∨
    (wd1 Z i = false ∧ tbR C 1 n i = nI (cnt (bSd (tbM C 1 i) 1 n) n) ∧ Vb (tbM C 1 i) 1 (upd Z (5 + 7 * i + 6) 1) n ∧ Bd (upd Z (5 + 7 * i + 6) 1) n) := by
  unfold tbR tbM
  rcases wd_c hv hi with q | q
  · left
    rw [if_neg q.2, if_neg q.2]
    exact ⟨q.1, rfl, rfl⟩
  · right
    rw [if_pos q.2, if_pos q.2, bc_mk hv.2.2.1]
    refine ⟨q.1, rfl, pt_vb (j := 6) hv (by decide) (by decide) (fun _ => Or.inr rfl), ?_⟩
    obtain ⟨d, la, pg, h2, hd, h0, hla, h1, hpg, hq⟩ := hb
    refine ⟨d, la, pg, by rw [upd_n (by omega)]; exact h2, hd, by rw [upd_n (by omega)]; exact h0, hla, by rw [upd_n (by omega)]; exact h1, hpg, fun a ha => ?_⟩
    have r5 : rp (upd Z (5 + 7 * i + 6) 1) a 5 = rp Z a 5 := rp_upd (j := 6) (by decide) (by decide) (by decide)
    have r1 : rp (upd Z (5 + 7 * i + 6) 1) a 1 = rp Z a 1 := rp_upd (j := 6) (by decide) (by decide) (by decide)
    rw [r5, r1]
    exact hq a ha
theorem t_renew {C : Mm} {Z : Nat → Int32} {n i : Nat} (hv : Vb C 1 Z n) (hb : Bd Z n) (hi : i < n) :
    ((pCl (rp Z) i = true ∨ wd1 Z i = true) ∧ prR C 1 i = -5 ∧ prM C 1 i = C) ∨
    (¬ (pCl (rp Z) i = true ∨ wd1 Z i = true) ∧ prR C 1 i = Z 2 - Z (5 + 7 * i + 3) ∧ ¬ prR C 1 i < 0 ∧ Vb (prM C 1 i) 1 (upd Z (5 + 7 * i + 3) (Z 2)) n ∧ Bd (upd Z (5 + 7 * i + 3) (Z 2)) n) := by
  have e3 : C.1 (1 + 2 + i) 3 = rp Z i 3 := hv.2.2.2.1 i hi 3 (by decide)
  have e5 : C.1 (1 + 2 + i) 5 = Z (5 + 7 * i + 3) := hv.2.2.2.1 i hi 5 (by decide)
  have hd2 : C.1 1 2 = Z 2 := hv.2.2.2.2.1
  have hcl : pCl (rp Z) i = true ↔ rp Z i 3 = -6 := by unfold pCl; rw [beq_iff_eq]
  have key : (C.1 (1 + 2 + i) 3 = -6 ∨ ¬ C.1 (1 + 2 + i) 6 = 0) ↔ (pCl (rp Z) i = true ∨ wd1 Z i = true) := by
    rw [e3, hcl]
    rcases wd_c hv hi with q | q
    · exact ⟨fun _ => Or.inr q.1, fun _ => Or.inr q.2⟩
    · rw [q.1]
      exact ⟨fun g => g.elim Or.inl (fun x => absurd q.2 x), fun g => g.elim Or.inl (fun x => absurd x (by decide))⟩
  unfold prR prM
  by_cases g : C.1 (1 + 2 + i) 3 = -6 ∨ ¬ C.1 (1 + 2 + i) 6 = 0
  · left
    rw [if_pos g, if_pos g]
    exact ⟨key.mp g, rfl, rfl⟩
  · right
    rw [if_neg g, if_neg g, hd2, e5]
    obtain ⟨d, la, pg, h2, hd, h0, hla, h1, hpg, hq⟩ := hb
    obtain ⟨⟨x, hx, ex⟩, _⟩ := hq i hi
    have ex2 : Z (5 + 7 * i + 3) = nI x := ex
    refine ⟨fun q => g (key.mpr q), rfl, ?_, pt_vb (j := 5) hv (by decide) (by decide) (fun q => absurd q (by decide)), ?_⟩
    · rw [h2, ex2, nI_sub hx]
      exact nI_nlt (b := 0) (Nat.zero_le _) (by omega)
    · refine ⟨d, la, pg, by rw [upd_n (by omega)]; exact h2, hd, by rw [upd_n (by omega)]; exact h0, hla, by rw [upd_n (by omega)]; exact h1, hpg, fun a ha => ?_⟩
      have r1 : rp (upd Z (5 + 7 * i + 3) (Z 2)) a 1 = rp Z a 1 := rp_upd (j := 5) (by decide) (by decide) (by decide)
      rw [r1]
      refine ⟨?_, (hq a ha).2⟩
      by_cases e : a = i
      · rw [e]
        exact ⟨d, Nat.le_refl d, (upd_s : upd Z (5 + 7 * i + 3) (Z 2) (5 + 7 * i + 3) = Z 2).trans h2⟩
      · have r5 : rp (upd Z (5 + 7 * i + 3) (Z 2)) a 5 = rp Z a 5 := (upd_n (by omega) : upd Z (5 + 7 * i + 3) (Z 2) (5 + 7 * a + 3) = Z (5 + 7 * a + 3))
        rw [r5]
        exact (hq a ha).1
theorem row_vb {C : Mm} {Z : Nat → Int32} {n f j : Nat} {v : Int32} (hv : Vb C 1 Z n) (hf : (f = 2 ∧ j = 2) ∨ (f = 3 ∧ j = 4)) : Vb (mset C 1 f v) 1 (upd Z j v) n := by
  have hp := PB.row (k := 1) (j := f) (v := v) rfl (by omega) hv.pb
  have hc : cp (mset C 1 f v) 1 = cp C 1 := cp_mset_b
  have hrp : ∀ a b, rp (upd Z j v) a b = rp Z a b := fun a b => by unfold rp; exact upd_n (by omega)
  refine ⟨hp.1, by rw [upd_n (by omega)]; exact hv.2.1, hp.2.1, fun a ha b hb => by rw [hc, hrp]; exact hv.2.2.2.1 a ha b hb, ?_, ?_, ?_, ?_, hp.2.2⟩
  · rw [mset_s]
    rcases hf with ⟨e1, e2⟩ | ⟨e1, e2⟩
    · subst e1 e2; rw [upd_s, upd_s]
    · subst e1 e2; rw [upd_n (by decide), upd_n (by decide)]; exact hv.2.2.2.2.1
  · rw [mset_s]
    rcases hf with ⟨e1, e2⟩ | ⟨e1, e2⟩
    · subst e1 e2; rw [upd_n (by decide), upd_n (by decide)]; exact hv.2.2.2.2.2.1
    · subst e1 e2; rw [upd_s, upd_s]
  · rw [mset_s, upd_n (by omega), upd_n (by omega)]; exact hv.2.2.2.2.2.2.1
  · rw [mset_s, upd_n (by omega), upd_n (by omega)]; exact hv.2.2.2.2.2.2.2.1
theorem t_pass {C : Mm} {Z : Nat → Int32} {n : Nat} {d : Int32} (hv : Vb C 1 Z n) (hb : Bd Z n) :
    (wnP Z d < 0 ∧ moR C 1 n d = wnP Z d ∧ moM C 1 d = C) ∨
    (wnP Z d = 0 ∧ moR C 1 n d = nI (cnt (bSd (moM C 1 d) 1 n) n) ∧ Vb (moM C 1 d) 1 (upd Z 2 (Z 2 + d)) n ∧ Bd (upd Z 2 (Z 2 + d)) n) := by
  have hd2 : C.1 1 2 = Z 2 := hv.2.2.2.2.1
  unfold moR moM wnP
  by_cases g : d < 1 ∨ ¬ d ≤ 99
  · left
    have gi : inv d 1 99 = false := g.elim inv_lo (fun q => inv_hi (by rw [Int32.lt_iff_toInt_lt]; rw [Int32.le_iff_toInt_le] at q; omega))
    rw [if_pos g, if_pos g, if_neg (show ¬ inv d 1 99 = true by rw [gi]; decide)]
    exact ⟨by decide, rfl, rfl⟩
  · have g1 : ¬ d < 1 := fun q => g (Or.inl q)
    have g2 : ¬ 99 < d := fun q => g (Or.inr (by rw [Int32.le_iff_toInt_le]; rw [Int32.lt_iff_toInt_lt] at q; omega))
    rw [if_neg g, if_neg g, if_pos (inv_tt g1 g2), hd2]
    by_cases h9 : Z 2 + d ≤ 999
    · right
      rw [if_pos h9, if_pos h9, if_pos h9, bc_mk hv.2.2.1]
      refine ⟨rfl, rfl, row_vb hv (Or.inl ⟨rfl, rfl⟩), ?_⟩
      obtain ⟨dd, la, pg, h2, hd, h0, hla, h1, hpg, hq⟩ := hb
      obtain ⟨x, hx, ex⟩ := rng99 d ⟨g1, g2⟩
      have es : Z 2 + d = nI (dd + x) := by rw [h2, ex, nI_add]
      have hle : dd + x ≤ 999 := of_le (k := 999) (by rw [← es]; exact h9) (by omega) (by decide)
      have hrp : ∀ a b, rp (upd Z 2 (Z 2 + d)) a b = rp Z a b := fun a b => by unfold rp; exact upd_n (by omega)
      refine ⟨dd + x, la, pg, by rw [upd_s]; exact es, hle, by rw [upd_n (by decide)]; exact h0, hla, by rw [upd_n (by decide)]; exact h1, hpg, fun a ha => ?_⟩
      rw [hrp, hrp]
      obtain ⟨⟨y, hy, ey⟩, h⟩ := hq a ha
      exact ⟨⟨y, by omega, ey⟩, h⟩
    · left
      rw [if_neg h9, if_neg h9, if_neg h9]
      exact ⟨by decide, rfl, rfl⟩
theorem t_over {C : Mm} {Z : Nat → Int32} {n j : Nat} (hv : Vb C 1 Z n) (hb : Bd Z n) (hj : j < 10) :
    ¬ tcR C 1 (nI j) < 0 ∧ Vb (tcM C 1 (nI j)) 1 (upd Z 4 (Z 4 ^^^ ((1 : Int32) <<< (nI j &&& 31)))) n ∧ Bd (upd Z 4 (Z 4 ^^^ ((1 : Int32) <<< (nI j &&& 31)))) n := by
  have a0 : ¬ (nI j < 0 ∨ ¬ nI j < 10) := fun q => q.elim (nI_nlt (Nat.zero_le _) (by omega)) (fun q => q (nI_lt (b := 10) hj (by decide)))
  have h3 : C.1 1 3 = Z 4 := hv.2.2.2.2.2.1
  unfold tcR tcM
  rw [if_neg a0, if_neg a0, h3]
  refine ⟨by rcases hasv_01 (Z 4 ^^^ ((1 : Int32) <<< (nI j &&& 31))) (nI j) with q | q <;> rw [q] <;> decide, row_vb hv (Or.inr ⟨rfl, rfl⟩), ?_⟩
  obtain ⟨d, la, pg, b2, bd, b0, bla, b1, bpg, bp⟩ := hb
  have hrp : ∀ a b, rp (upd Z 4 (Z 4 ^^^ ((1 : Int32) <<< (nI j &&& 31)))) a b = rp Z a b := fun a b => by unfold rp; exact upd_n (by omega)
  exact ⟨d, la, pg, by rw [upd_n (by decide)]; exact b2, bd, by rw [upd_n (by decide)]; exact b0, bla, by rw [upd_n (by decide)]; exact b1, bpg, fun i hi => by rw [hrp, hrp]; exact bp i hi⟩
theorem vb_cp {M : Mm} {c n : Nat} {Z : Nat → Int32} (hB : isB c) (hne : c ≠ 1) (hv : Vb M 1 Z n) : Vb (cpB M c 1 n) 1 Z n := Vb_q (fun j hj => pr1 hB hne hv.2.2.1 hj) hv
theorem bSd_q {X B : Mm} {n : Nat} (hn : n ≤ 24) (h : ∀ j, j < 26 → B.1 (1 + j) = X.1 (1 + j)) : cnt (bSd B 1 n) n = cnt (bSd X 1 n) n := by
  have h1 : B.1 1 = X.1 1 := h 0 (by decide)
  have hc : ∀ i, i < 24 → cp B 1 i = cp X 1 i := fun i hi => by
    unfold cp
    rw [show 1 + 2 + i = 1 + (2 + i) by omega, h (2 + i) (by omega)]
  have ha : Ag (cp B 1) (cp X 1) n := fun i hi j hj => by rw [hc i (by omega)]
  refine cnt_congr (fun i hi => ?_)
  unfold bSd
  exact ha.sds (fun a ha2 => by unfold bOut; rw [h1, ha.out ha2]) (fun _ _ => rfl) i hi
def Fq (M M' : Mm) : Prop := M'.2 = M.2 ∧ ∀ k, k = 0 ∨ 27 ≤ k → M'.1 k = M.1 k
theorem Fq.rf {M : Mm} : Fq M M := ⟨rfl, fun _ _ => rfl⟩
theorem Fq.tr {M M1 M2 : Mm} (h : Fq M M1) (g : Fq M1 M2) : Fq M M2 := ⟨g.1.trans h.1, fun k hk => (g.2 k hk).trans (h.2 k hk)⟩
theorem Fq.set {M : Mm} {k j : Nat} {v : Int32} (h : 0 < k ∧ k < 27) : Fq M (mset M k j v) := ⟨rfl, fun k' hk => mset_n (by omega)⟩
theorem Fq.ite {M A B : Mm} {c : Prop} [Decidable c] (hA : Fq M A) (hB : Fq M B) : Fq M (if c then A else B) := by split; exact hA; exact hB
theorem fileM_fq {M : Mm} {n : Nat} {s p c t : Int32} (hn : n < 24) : Fq M (fileM M 1 n s p c t) := by
  unfold fileM
  exact ((((((((Fq.set (by omega)).tr (Fq.set (by omega))).tr (Fq.set (by omega))).tr (Fq.set (by omega))).tr (Fq.set (by omega))).tr (Fq.set (by omega))).tr (Fq.set (by omega))).tr (Fq.set (by omega)))
theorem fcM_fq {M : Mm} {n : Nat} {s p c : Int32} : Fq M (fcM M 1 n s p c) := by
  unfold fcM
  split
  · exact Fq.rf
  split
  · exact fileM_fq (by omega)
  · exact Fq.rf
theorem faM_fq {M : Mm} {n i : Nat} {p c : Int32} : Fq M (faM M 1 n i p c) := by
  unfold faM
  split
  · exact Fq.rf
  split
  · split
    · exact fileM_fq (by omega)
    · exact Fq.rf
  · exact Fq.rf
theorem tbM_fq {M : Mm} {i : Nat} (hi : i < 24) : Fq M (tbM M 1 i) := Fq.ite (Fq.set (by omega)) Fq.rf
theorem prM_fq {M : Mm} {i : Nat} (hi : i < 24) : Fq M (prM M 1 i) := Fq.ite Fq.rf (Fq.set (by omega))
theorem tcM_fq {M : Mm} {w : Int32} : Fq M (tcM M 1 w) := Fq.ite Fq.rf (Fq.set (by omega))
theorem moM_fq {M : Mm} {d : Int32} : Fq M (moM M 1 d) := Fq.ite Fq.rf (Fq.ite (Fq.set (by omega)) Fq.rf)
theorem se_o {M X : Mm} {k n : Nat} {r : Int32} (hn : n ≤ 24) (hk : k ≤ 6) (hkk : M.1 33 1 = nI k) (hB : isB (M.2 k)) (hr : ¬ r < 0) (hx : Fq (cpB M (M.2 k) 1 n) X) : ∀ q, 270 ≤ q → (seM X k r).1 q = M.1 q := by
  intro q hq
  have o1 : ∀ q, q = 0 ∨ (27 ≤ q ∧ q < 35) ∨ q = 217 ∨ 270 ≤ q → X.1 q = M.1 q := fun q hq => by rw [hx.2 q (by omega), pro hB hn (by omega)]
  rw [(seM_r (X := X) hr hk (by rw [o1 33 (by decide)]; exact hkk)).1 q (by omega), o1 q (by omega)]
theorem sim_st {M X B : Mm} {n n2 k : Nat} {r : Int32} {Z : Nat → Int32} (h : Sim M) (hz : M.1 1 1 = nI n) (hn : n ≤ 24) (hk : k ≤ 6) (hkk : M.1 33 1 = nI k) (hB : isB (M.2 k)) (hr : ¬ r < 0) (hx : Fq (cpB M (M.2 k) 1 n) X) (hq : Rq (seM X k r) B k Z) (hv : Vb X 1 Z n2) (hb : Bd Z n2) : Sim B := by
  have o1 : ∀ q, q = 0 ∨ (27 ≤ q ∧ q < 35) ∨ q = 217 ∨ 270 ≤ q → X.1 q = M.1 q := fun q hq => by rw [hx.2 q (by omega), pro hB hn (by omega)]
  obtain ⟨s1, s2, s3⟩ := seM_r (X := X) hr hk (by rw [o1 33 (by decide)]; exact hkk)
  obtain ⟨q1, q2, q3, q4, q5, q6⟩ := hq
  have lo : ∀ q, q ≠ 270 → q ≠ 271 → q ≠ 272 → q ≠ 33 → q < 276 → B.1 q = X.1 q := fun q h1 h2 h3 h4 h5 => by rw [q2 q h1 h2 h3 h5, s1 q h4]
  refine sim_new (n2 := n2) h hz hn hk hkk ?_ ?_ q3 ?_ ?_ ?_ ?_ ?_ ?_
  · rw [q1, s3, hx.1]
    rfl
  · rw [q2 33 (by decide) (by decide) (by decide) (by decide)]
    exact s2
  · rw [q4, s1 270 (by decide), o1 270 (by decide)]
  · rw [q5]
    exact rcM_272 (by rw [s1 271 (by decide), o1 271 (by decide)]) (by rw [s1 272 (by decide), o1 272 (by decide)])
  · intro q hq
    rw [lo q (by omega) (by omega) (by omega) (by omega) (by omega), o1 q (by omega)]
  · intro b hb1 hb2 i hi
    have g1 := isB_33 hb1 hi
    have g2 := isB_apart hb1 (Or.inl rfl) hb2
    rw [lo _ (by omega) (by omega) (by omega) g1.1 (by omega), hx.2 _ (by omega)]
  · rw [q6]
    exact Vb_q (fun j hj => lo _ (by omega) (by omega) (by omega) (by omega) (by omega)) hv
  · rw [q6]
    exact hb
