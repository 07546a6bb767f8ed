theorem rng60 (v : Int32) (g : ¬ v < 1 ∧ ¬ 60 < v) : ∃ c, c ≤ 60 ∧ v = nI c := by
  rcases pk_ix v (n := 61) (by decide) with q | q | ⟨c, hc, ec⟩
  · exact absurd (by rw [Int32.lt_iff_toInt_lt] at q ⊢; have a : (0 : Int32).toInt = 0 := by decide
                     have b : (1 : Int32).toInt = 1 := by decide
                     omega) g.1
  · exact absurd (by rw [Int32.le_iff_toInt_le] at q; rw [Int32.lt_iff_toInt_lt]; have a : (nI 61).toInt = 61 := by decide
                     have b : (60 : Int32).toInt = 60 := by decide
                     omega) g.2
  · exact ⟨c, by omega, ec⟩
theorem rng99 (v : Int32) (g : ¬ v < 1 ∧ ¬ 99 < v) : ∃ c, c ≤ 99 ∧ v = nI c := by
  rcases pk_ix v (n := 100) (by decide) with q | q | ⟨c, hc, ec⟩
  · exact absurd (by rw [Int32.lt_iff_toInt_lt] at q ⊢; have a : (0 : Int32).toInt = 0 := by decide
                     have b : (1 : Int32).toInt = 1 := by decide
                     omega) g.1
  · exact absurd (by rw [Int32.le_iff_toInt_le] at q; rw [Int32.lt_iff_toInt_lt]; have a : (nI 100).toInt = 100 := by decide
                     have b : (99 : Int32).toInt = 99 := by decide
                     omega) g.2
  · exact ⟨c, by omega, ec⟩
theorem p_set {Y : Yt} {M : Mm} (h : Sim M) (s v : Int32) : Pr Y yX6_set wsX6_set { frames := 3, cells := 0, slots := 0, locals := 67 } yX7_set wsX7_set { frames := 2, cells := 0, slots := 0, locals := 43 } [.int s, .int v] M := by
  have h0 := h
  obtain ⟨⟨n, hv, hb⟩, ⟨k, hk1, hk2, hk3, hk4⟩, hsl, ⟨l, hl1, hl2, hl3, hl4⟩⟩ := h0
  have hz := hv.1
  have hz2 := hv.2.1
  have hn := hv.2.2.1
  have hw := hv.2.2.2.2.2.2.2.2
  have hw2 := hv.wf
  have hh : ∀ i, i < 7 → isB (M.2 i) ∧ M.2 i ≠ 1 := fun i hi => ⟨isH_B (hk4.1 i hi), isH_1 (hk4.1 i hi)⟩
  have f1 := f_set (Y := Y) (s := s) (v := v) hk1 hk2 hh hz hn hw
  unfold adR adM at f1
  by_cases g0 : s = 0 ∧ ¬ v < 1 ∧ ¬ 60 < v
  · rw [if_pos g0, if_pos g0] at f1
    obtain ⟨es, g⟩ := g0
    subst es
    have iv : isV (nI 0) v = true := by unfold isV inv; rw [if_pos (show nI 0 = (0 : Int32) from rfl), decide_eq_false g.1, decide_eq_false g.2]; rfl
    obtain ⟨c, hc6, ec⟩ := rng60 v g
    have hB := hh k (by omega)
    rw [prz hB.1 hB.2 hn] at f1
    have hr : ¬ (M.1 1 4) < 0 := by
      obtain ⟨d, la, pg, b2, bd, b0, bla, b1, bpg, bp⟩ := hb
      rw [hv.2.2.2.2.2.2.1, b0]
      exact nI_nlt (b := 0) (Nat.zero_le _) (by omega)
    have o1 : ∀ q, q = 0 ∨ (27 ≤ q ∧ q < 35) ∨ q = 217 ∨ 270 ≤ q → (mset (cpB M (M.2 k) 1 n) 1 4 v).1 q = M.1 q := fun q hq => by rw [mset_n (by omega), pro hB.1 hn hq]
    obtain ⟨s1, s2, s3⟩ := seM_r (X := (mset (cpB M (M.2 k) 1 n) 1 4 v)) hr hk1 (by rw [o1 33 (by decide)]; exact hk2)
    have z1 : (seM (mset (cpB M (M.2 k) 1 n) 1 4 v) k (M.1 1 4)).1 271 = M.1 271 := by rw [s1 271 (by decide), o1 271 (by decide)]
    have z2 : (seM (mset (cpB M (M.2 k) 1 n) 1 4 v) k (M.1 1 4)).1 272 = M.1 272 := by rw [s1 272 (by decide), o1 272 (by decide)]
    have z0 : (seM (mset (cpB M (M.2 k) 1 n) 1 4 v) k (M.1 1 4)).1 270 = M.1 270 := by rw [s1 270 (by decide), o1 270 (by decide)]
    have r1 := r_set (Y := Y) (M := (seM (mset (cpB M (M.2 k) 1 n) 1 4 v) k (M.1 1 4))) (j := 0) (v := v) (by decide) iv hk1 (by rw [z0]; exact hk3)
    rw [z1, ← hv.2.2.2.2.2.2.1] at r1
    have lo : ∀ q, q ≠ 270 ∧ q ≠ 272 → q ≠ 271 → q ≠ 33 → (mset (rcM (seM (mset (cpB M (M.2 k) 1 n) 1 4 v) k (M.1 1 4)) k) 271 0 v).1 q = (mset (cpB M (M.2 k) 1 n) 1 4 v).1 q := fun q h1 h2 h3 => by rw [mset_n h2, rcM_n h1, s1 q h3]
    have zb : (mset (rcM (seM (mset (cpB M (M.2 k) 1 n) 1 4 v) k (M.1 1 4)) k) 271 0 v).1 271 = upd (M.1 271) 0 v := by rw [mset_s, rc_z, z1]
    have hrp : ∀ i j2, rp (upd (M.1 271) 0 v) i j2 = rp (M.1 271) i j2 := fun i j2 => by unfold rp; exact upd_n (by omega)
    have hc : ∀ i, i < n → cp (mset (rcM (seM (mset (cpB M (M.2 k) 1 n) 1 4 v) k (M.1 1 4)) k) 271 0 v) 1 i = cp M 1 i := fun i hi => by
      unfold cp
      rw [lo _ (by omega) (by omega) (by omega), mset_n (by omega)]
      exact prp hB.1 hB.2 hn (by omega)
    have hrow : ∀ q, q ≠ 4 → (mset (rcM (seM (mset (cpB M (M.2 k) 1 n) 1 4 v) k (M.1 1 4)) k) 271 0 v).1 1 q = M.1 1 q := fun q hq => by rw [lo 1 (by decide) (by decide) (by decide), mset_s, upd_n hq, prz hB.1 hB.2 hn]
    refine ⟨_, (seM (mset (cpB M (M.2 k) 1 n) 1 4 v) k (M.1 1 4)), (mset (rcM (seM (mset (cpB M (M.2 k) 1 n) 1 4 v) k (M.1 1 4)) k) 271 0 v), f1, r1, sim_new (n2 := n) h hz hn hk1 hk2 ?_ ?_ ?_ ?_ ?_ ?_ ?_ ?_ ?_⟩
    · show (rcM (seM (mset (cpB M (M.2 k) 1 n) 1 4 v) k (M.1 1 4)) k).2 = _
      rw [rcM_2, s3]
      rfl
    · rw [mset_n (by decide), rcM_n (by decide)]
      exact s2
    · rw [mset_n (by decide)]
      exact rcM_4
    · rw [mset_n (by decide), rcM_r (by decide), z0]
    · rw [mset_n (by decide)]
      exact rcM_272 z1 z2
    · intro q hq
      rw [lo q (by omega) (by omega) (by omega), o1 q (by omega)]
    · intro b hb1 hb2 i hi
      have g1 := isB_33 hb1 hi
      have g2 := isB_apart hb1 (Or.inl rfl) hb2
      rw [lo _ (by omega) (by omega) g1.1, mset_n (by omega)]
    · rw [zb]
      exact ⟨by rw [hrow 1 (by decide)]; exact hz, by rw [upd_n (by decide)]; exact hz2, hn, fun i hi j2 hj2 => by rw [hc i hi, hrp]; exact hv.2.2.2.1 i hi j2 hj2, by rw [hrow 2 (by decide), upd_n (by decide)]; exact hv.2.2.2.2.1, by rw [hrow 3 (by decide), upd_n (by decide)]; exact hv.2.2.2.2.2.1, by rw [lo 1 (by decide) (by decide) (by decide), mset_s, upd_s, upd_s], by rw [hrow 5 (by decide), upd_n (by decide)]; exact hv.2.2.2.2.2.2.2.1, WF_ext (fun i hi => by rw [hc i hi]; exact ⟨rfl, rfl, rfl⟩) hw⟩
    · rw [zb]
      obtain ⟨d, la, pg, b2, bd, b0, bla, b1, bpg, bp⟩ := hb
      exact ⟨d, c, pg, by rw [upd_n (by decide)]; exact b2, bd, by rw [upd_s]; exact ec, hc6, by rw [upd_n (by decide)]; exact b1, bpg, fun i hi => by rw [hrp, hrp]; exact bp i hi⟩
  · rw [if_neg g0, if_neg g0] at f1
    by_cases g1 : s = 1 ∧ ¬ v < 1 ∧ ¬ 99 < v
    · rw [if_pos g1, if_pos g1] at f1
      obtain ⟨es, g⟩ := g1
      subst es
      have iv : isV (nI 1) v = true := by unfold isV inv; rw [if_neg (by decide), decide_eq_false g.1, decide_eq_false g.2]; rfl
      obtain ⟨c, hc6, ec⟩ := rng99 v g
      have hB := hh k (by omega)
      rw [prz hB.1 hB.2 hn] at f1
      have hr : ¬ (M.1 1 5) < 0 := by
        obtain ⟨d, la, pg, b2, bd, b0, bla, b1, bpg, bp⟩ := hb
        rw [hv.2.2.2.2.2.2.2.1, b1]
        exact nI_nlt (b := 0) (Nat.zero_le _) (by omega)
      have o1 : ∀ q, q = 0 ∨ (27 ≤ q ∧ q < 35) ∨ q = 217 ∨ 270 ≤ q → (mset (cpB M (M.2 k) 1 n) 1 5 v).1 q = M.1 q := fun q hq => by rw [mset_n (by omega), pro hB.1 hn hq]
      obtain ⟨s1, s2, s3⟩ := seM_r (X := (mset (cpB M (M.2 k) 1 n) 1 5 v)) hr hk1 (by rw [o1 33 (by decide)]; exact hk2)
      have z1 : (seM (mset (cpB M (M.2 k) 1 n) 1 5 v) k (M.1 1 5)).1 271 = M.1 271 := by rw [s1 271 (by decide), o1 271 (by decide)]
      have z2 : (seM (mset (cpB M (M.2 k) 1 n) 1 5 v) k (M.1 1 5)).1 272 = M.1 272 := by rw [s1 272 (by decide), o1 272 (by decide)]
      have z0 : (seM (mset (cpB M (M.2 k) 1 n) 1 5 v) k (M.1 1 5)).1 270 = M.1 270 := by rw [s1 270 (by decide), o1 270 (by decide)]
      have r1 := r_set (Y := Y) (M := (seM (mset (cpB M (M.2 k) 1 n) 1 5 v) k (M.1 1 5))) (j := 1) (v := v) (by decide) iv hk1 (by rw [z0]; exact hk3)
      rw [z1, ← hv.2.2.2.2.2.2.2.1] at r1
      have lo : ∀ q, q ≠ 270 ∧ q ≠ 272 → q ≠ 271 → q ≠ 33 → (mset (rcM (seM (mset (cpB M (M.2 k) 1 n) 1 5 v) k (M.1 1 5)) k) 271 1 v).1 q = (mset (cpB M (M.2 k) 1 n) 1 5 v).1 q := fun q h1 h2 h3 => by rw [mset_n h2, rcM_n h1, s1 q h3]
      have zb : (mset (rcM (seM (mset (cpB M (M.2 k) 1 n) 1 5 v) k (M.1 1 5)) k) 271 1 v).1 271 = upd (M.1 271) 1 v := by rw [mset_s, rc_z, z1]
      have hrp : ∀ i j2, rp (upd (M.1 271) 1 v) i j2 = rp (M.1 271) i j2 := fun i j2 => by unfold rp; exact upd_n (by omega)
      have hc : ∀ i, i < n → cp (mset (rcM (seM (mset (cpB M (M.2 k) 1 n) 1 5 v) k (M.1 1 5)) k) 271 1 v) 1 i = cp M 1 i := fun i hi => by
        unfold cp
        rw [lo _ (by omega) (by omega) (by omega), mset_n (by omega)]
        exact prp hB.1 hB.2 hn (by omega)
      have hrow : ∀ q, q ≠ 5 → (mset (rcM (seM (mset (cpB M (M.2 k) 1 n) 1 5 v) k (M.1 1 5)) k) 271 1 v).1 1 q = M.1 1 q := fun q hq => by rw [lo 1 (by decide) (by decide) (by decide), mset_s, upd_n hq, prz hB.1 hB.2 hn]
      refine ⟨_, (seM (mset (cpB M (M.2 k) 1 n) 1 5 v) k (M.1 1 5)), (mset (rcM (seM (mset (cpB M (M.2 k) 1 n) 1 5 v) k (M.1 1 5)) k) 271 1 v), f1, r1, sim_new (n2 := n) h hz hn hk1 hk2 ?_ ?_ ?_ ?_ ?_ ?_ ?_ ?_ ?_⟩
      · show (rcM (seM (mset (cpB M (M.2 k) 1 n) 1 5 v) k (M.1 1 5)) k).2 = _
        rw [rcM_2, s3]
        rfl
      · rw [mset_n (by decide), rcM_n (by decide)]
        exact s2
      · rw [mset_n (by decide)]
        exact rcM_4
      · rw [mset_n (by decide), rcM_r (by decide), z0]
      · rw [mset_n (by decide)]
        exact rcM_272 z1 z2
      · intro q hq
        rw [lo q (by omega) (by omega) (by omega), o1 q (by omega)]
      · intro b hb1 hb2 i hi
        have g1 := isB_33 hb1 hi
        have g2 := isB_apart hb1 (Or.inl rfl) hb2
        rw [lo _ (by omega) (by omega) g1.1, mset_n (by omega)]
      · rw [zb]
        exact ⟨by rw [hrow 1 (by decide)]; exact hz, by rw [upd_n (by decide)]; exact hz2, hn, fun i hi j2 hj2 => by rw [hc i hi, hrp]; exact hv.2.2.2.1 i hi j2 hj2, by rw [hrow 2 (by decide), upd_n (by decide)]; exact hv.2.2.2.2.1, by rw [hrow 3 (by decide), upd_n (by decide)]; exact hv.2.2.2.2.2.1, by rw [hrow 4 (by decide), upd_n (by decide)]; exact hv.2.2.2.2.2.2.1, by rw [lo 1 (by decide) (by decide) (by decide), mset_s, upd_s, upd_s], WF_ext (fun i hi => by rw [hc i hi]; exact ⟨rfl, rfl, rfl⟩) hw⟩
      · rw [zb]
        obtain ⟨d, la, pg, b2, bd, b0, bla, b1, bpg, bp⟩ := hb
        exact ⟨d, la, c, by rw [upd_n (by decide)]; exact b2, bd, by rw [upd_n (by decide)]; exact b0, bla, by rw [upd_s]; exact ec, hc6, fun i hi => by rw [hrp, hrp]; exact bp i hi⟩
    · rw [if_neg g1, if_neg g1] at f1
      refine ⟨_, _, _, f1, r_set_bad ?_, sim_c1 h hz hn hk1 hk2⟩
      by_cases i1 : inv s 0 1 = true
      · right
        rw [← Bool.not_eq_true]
        intro q
        unfold isV inv at q
        rcases inv01 i1 with e | e
        · rw [if_pos e, Bool.and_eq_true, Bool.not_eq_true', Bool.not_eq_true', decide_eq_false_iff_not, decide_eq_false_iff_not] at q
          exact g0 ⟨e, q⟩
        · rw [if_neg (by rw [e]; decide), Bool.and_eq_true, Bool.not_eq_true', Bool.not_eq_true', decide_eq_false_iff_not, decide_eq_false_iff_not] at q
          exact g1 ⟨e, q⟩
      · left
        simpa using i1
