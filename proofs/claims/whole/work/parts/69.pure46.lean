theorem coL_le {s : Nat → Int32} {l : Nat} : ∀ (f d a : Nat) (M : Mm), (coL s l f d a M).1 ≤ d + f := by
  intro f
  induction f with
  | zero => intro d a M; exact Nat.le_refl _
  | succ f ih =>
    intro d a M
    rw [coL]
    split
    · exact Nat.le_add_right d _
    split
    · exact Nat.le_add_right d _
    · have := ih (d + 1) (tkc s l 59 (ror s l a (M.1 32)).2.1 (ror s l a (M.1 32)).2.2).2.1 (mrow (foM (mrow M 32 (ror s l a (M.1 32)).2.2) (nOf M)) 32 (tkc s l 59 (ror s l a (M.1 32)).2.1 (ror s l a (M.1 32)).2.2).2.2)
      omega
theorem cy_end {M X P W : Mm} {n n2 k c : Nat} (h : Sim M) (hz : M.1 1 1 = nI n) (hn : n ≤ 24) (hk : k ≤ 6) (hkk : M.1 33 1 = nI k) (hB : isB (M.2 k)) (hc : c ≤ 80)
    (hy : Fy (cpB M (M.2 k) 1 n) X) (hP2 : P.2 = (seM (mset X 30 1 0) k (nI c)).2) (hP : ∀ q, q ≠ 270 → q ≠ 280 → P.1 q = (seM (mset X 30 1 0) k (nI c)).1 q)
    (hW2 : W.2 = (rcM P k).2) (hW : ∀ q, q ≠ 271 → W.1 q = (rcM P k).1 q) (hv : Vb X 1 (W.1 271) n2) (hb : Bd (W.1 271) n2) : Sim (mset W 270 6 0) := by
  have hr : ¬ nI c < 0 := nI_nlt (b := 0) (Nat.zero_le _) (by omega)
  have o1 : ∀ q, q = 0 ∨ (27 ≤ q ∧ q < 35 ∧ q ≠ 30 ∧ q ≠ 32) ∨ q = 217 ∨ 270 ≤ q → (mset X 30 1 0).1 q = M.1 q := fun q hq => by rw [mset_n (by omega), hy.2 q (by omega), pro hB hn (by omega)]
  obtain ⟨s1, s2, s3⟩ := seM_r (X := mset X 30 1 0) hr hk (by rw [o1 33 (by decide)]; exact hkk)
  have lo : ∀ q, q ≠ 271 → q ≠ 272 → q ≠ 270 → q ≠ 280 → q ≠ 33 → (mset W 270 6 0).1 q = (mset X 30 1 0).1 q := fun q h1 h2 h3 h4 h5 => by
    rw [mset_n h3, hW q h1, rcM_n ⟨h3, h2⟩, hP q h3 h4, s1 q h5]
  refine sim_cy (n2 := n2) h hz hn hk hkk ?_ ?_ ?_ ?_ ?_ ?_ ?_ ?_ ?_ ?_
  · show W.2 = _
    rw [hW2, rcM_2, hP2, s3]
    show (if k < 6 then X.2 else rot X.2) = _
    rw [hy.1]
    rfl
  · rw [mset_n (by decide), hW 33 (by decide), rcM_n (by decide), hP 33 (by decide) (by decide)]
    exact s2
  · rw [mset_s, upd_n (by decide), hW 270 (by decide)]
    exact rcM_4
  · rw [mset_n (by decide), hW 272 (by decide)]
    exact rcM_272 (by rw [hP 271 (by decide) (by decide), s1 271 (by decide), o1 271 (by decide)]) (by rw [hP 272 (by decide) (by decide), s1 272 (by decide), o1 272 (by decide)])
  · intro q hq
    rw [lo q (by omega) (by omega) (by omega) (by omega) (by omega), o1 q (by omega)]
  · intro b hb1 hb2 i hi
    have g1 := isB_33 hb1 hi
    have g2 := isB_apart hb1 (Or.inl rfl) hb2
    have g3 := isB_row hb1 hi
    rw [lo _ (by omega) (by omega) (by omega) (by omega) g1.1, mset_n g1.2.1, hy.2 _ (by omega)]
  · rw [mset_n (show (271 : Nat) ≠ 270 by decide)]
    exact Vb_q (fun j hj => by rw [lo _ (by omega) (by omega) (by omega) (by omega) (by omega), mset_n (by omega)]) hv
  · rw [mset_n (by decide)]
    exact hb
  · rw [lo 30 (by decide) (by decide) (by decide) (by decide) (by decide), mset_s, upd_s]
  · rw [mset_s, upd_s]
