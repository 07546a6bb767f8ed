theorem p_overrule {Y : Yt} {M : Mm} (h : Sim M) (w : Int32) : Pr Y yX6_overrule wsX6_overrule { frames := 3, cells := 0, slots := 0, locals := 67 } yX7_overrule wsX7_overrule { frames := 1, cells := 0, slots := 0, locals := 22 } [.int w] M := by
  have h0 := h
  obtain ⟨⟨n, hv, hb⟩, ⟨k, hk1, hk2, hk3, hk4⟩, hsl, ⟨l, hl1, hl2, hl3, hl4⟩⟩ := h0
  have hz := hv.1
  have hz2 := hv.2.1
  have hn := hv.2.2.1
  have hw := hv.2.2.2.2.2.2.2.2
  have hw2 := hv.wf
  have hh : ∀ i, i < 7 → isB (M.2 i) ∧ M.2 i ≠ 1 := fun i hi => ⟨isH_B (hk4.1 i hi), isH_1 (hk4.1 i hi)⟩
  have f1 := f_overrule (Y := Y) (w := w) hk1 hk2 hh hz hn hw
  rcases pk_ix w (n := 10) (by decide) with g | g | ⟨j, hj, ej⟩
  · unfold tcR tcM at f1
    rw [if_pos (Or.inl g), if_pos (Or.inl g)] at f1
    exact ⟨_, _, _, f1, r_overrule_no (by unfold inv; rw [decide_eq_true g]; rfl), sim_c1 h hz hn hk1 hk2⟩
  · have g9 : (9 : Int32) < w := by
      rw [Int32.lt_iff_toInt_lt]
      rw [Int32.le_iff_toInt_le] at g
      have a : (nI 10).toInt = 10 := by decide
      have b : (9 : Int32).toInt = 9 := by decide
      omega
    have g10 : ¬ w < 10 := by
      rw [Int32.lt_iff_toInt_lt]
      rw [Int32.le_iff_toInt_le] at g
      have a : (nI 10).toInt = 10 := by decide
      have b : (10 : Int32).toInt = 10 := by decide
      omega
    unfold tcR tcM at f1
    rw [if_pos (Or.inr g10), if_pos (Or.inr g10)] at f1
    exact ⟨_, _, _, f1, r_overrule_no (by unfold inv; rw [decide_eq_true g9]; simp), sim_c1 h hz hn hk1 hk2⟩
  · subst ej
    have hB := hh k (by omega)
    have a0 : ¬ (nI j < 0 ∨ ¬ nI j < 10) := fun q => q.elim (nI_nlt (Nat.zero_le _) (by omega)) (fun q => q (nI_lt (b := 10) hj (by decide)))
    have ai : inv (nI j) 0 9 = true := by
      have : ∀ j, j < 10 → inv (nI j) 0 9 = true := by decide +kernel
      exact this j hj
    unfold tcR tcM at f1
    rw [if_neg a0, if_neg a0, prz hB.1 hB.2 hn] at f1
    have hr : ¬ (hasv (M.1 1 3 ^^^ ((1 : Int32) <<< (nI j &&& 31))) (nI j)) < 0 := by rcases hasv_01 (M.1 1 3 ^^^ ((1 : Int32) <<< (nI j &&& 31))) (nI j) with q | q <;> rw [q] <;> decide
    have o1 : ∀ q, q = 0 ∨ (27 ≤ q ∧ q < 35) ∨ q = 217 ∨ 270 ≤ q → (mset (cpB M (M.2 k) 1 n) 1 3 (M.1 1 3 ^^^ ((1 : Int32) <<< (nI j &&& 31)))).1 q = M.1 q := fun q hq => by rw [mset_n (by omega), pro hB.1 hn hq]
    obtain ⟨s1, s2, s3⟩ := seM_r (X := (mset (cpB M (M.2 k) 1 n) 1 3 (M.1 1 3 ^^^ ((1 : Int32) <<< (nI j &&& 31))))) hr hk1 (by rw [o1 33 (by decide)]; exact hk2)
    have z1 : (seM (mset (cpB M (M.2 k) 1 n) 1 3 (M.1 1 3 ^^^ ((1 : Int32) <<< (nI j &&& 31)))) k (hasv (M.1 1 3 ^^^ ((1 : Int32) <<< (nI j &&& 31))) (nI j))).1 271 = M.1 271 := by rw [s1 271 (by decide), o1 271 (by decide)]
    have z2 : (seM (mset (cpB M (M.2 k) 1 n) 1 3 (M.1 1 3 ^^^ ((1 : Int32) <<< (nI j &&& 31)))) k (hasv (M.1 1 3 ^^^ ((1 : Int32) <<< (nI j &&& 31))) (nI j))).1 272 = M.1 272 := by rw [s1 272 (by decide), o1 272 (by decide)]
    have z0 : (seM (mset (cpB M (M.2 k) 1 n) 1 3 (M.1 1 3 ^^^ ((1 : Int32) <<< (nI j &&& 31)))) k (hasv (M.1 1 3 ^^^ ((1 : Int32) <<< (nI j &&& 31))) (nI j))).1 270 = M.1 270 := by rw [s1 270 (by decide), o1 270 (by decide)]
    have r1 := r_overrule (Y := Y) (M := (seM (mset (cpB M (M.2 k) 1 n) 1 3 (M.1 1 3 ^^^ ((1 : Int32) <<< (nI j &&& 31)))) k (hasv (M.1 1 3 ^^^ ((1 : Int32) <<< (nI j &&& 31))) (nI j)))) (w := nI j) hk1 (by rw [z0]; exact hk3) ai
    have er : ovR (rcM (seM (mset (cpB M (M.2 k) 1 n) 1 3 (M.1 1 3 ^^^ ((1 : Int32) <<< (nI j &&& 31)))) k (hasv (M.1 1 3 ^^^ ((1 : Int32) <<< (nI j &&& 31))) (nI j))) k) (nI j) = (hasv (M.1 1 3 ^^^ ((1 : Int32) <<< (nI j &&& 31))) (nI j)) := by
      unfold ovR
      rw [rc_z, z1, ov_v _ hj, hv.2.2.2.2.2.1]
    rw [er] at r1
    have lo : ∀ q, q ≠ 270 ∧ q ≠ 272 → q ≠ 271 → q ≠ 33 → (ovM (rcM (seM (mset (cpB M (M.2 k) 1 n) 1 3 (M.1 1 3 ^^^ ((1 : Int32) <<< (nI j &&& 31)))) k (hasv (M.1 1 3 ^^^ ((1 : Int32) <<< (nI j &&& 31))) (nI j))) k) (nI j)).1 q = (mset (cpB M (M.2 k) 1 n) 1 3 (M.1 1 3 ^^^ ((1 : Int32) <<< (nI j &&& 31)))).1 q := fun q h1 h2 h3 => by unfold ovM; rw [mset_n h2, rcM_n h1, s1 q h3]
    have zb : (ovM (rcM (seM (mset (cpB M (M.2 k) 1 n) 1 3 (M.1 1 3 ^^^ ((1 : Int32) <<< (nI j &&& 31)))) k (hasv (M.1 1 3 ^^^ ((1 : Int32) <<< (nI j &&& 31))) (nI j))) k) (nI j)).1 271 = upd (M.1 271) 4 (M.1 271 4 ^^^ ((1 : Int32) <<< (nI j &&& 31))) := by unfold ovM; rw [mset_s, rc_z, z1]
    have hrp : ∀ i j2, rp (upd (M.1 271) 4 (M.1 271 4 ^^^ ((1 : Int32) <<< (nI j &&& 31)))) i j2 = rp (M.1 271) i j2 := fun i j2 => by unfold rp; exact upd_n (by omega)
    have hc : ∀ i, i < n → cp (ovM (rcM (seM (mset (cpB M (M.2 k) 1 n) 1 3 (M.1 1 3 ^^^ ((1 : Int32) <<< (nI j &&& 31)))) k (hasv (M.1 1 3 ^^^ ((1 : Int32) <<< (nI j &&& 31))) (nI j))) k) (nI j)) 1 i = cp M 1 i := fun i hi => by
      unfold cp
      rw [lo _ (by omega) (by omega) (by omega), mset_n (by omega)]
      exact prp hB.1 hB.2 hn (by omega)
    have hrow : ∀ q, q ≠ 3 → (ovM (rcM (seM (mset (cpB M (M.2 k) 1 n) 1 3 (M.1 1 3 ^^^ ((1 : Int32) <<< (nI j &&& 31)))) k (hasv (M.1 1 3 ^^^ ((1 : Int32) <<< (nI j &&& 31))) (nI j))) k) (nI j)).1 1 q = M.1 1 q := fun q hq => by rw [lo 1 (by decide) (by decide) (by decide), mset_s, upd_n hq, prz hB.1 hB.2 hn]
    refine ⟨_, (seM (mset (cpB M (M.2 k) 1 n) 1 3 (M.1 1 3 ^^^ ((1 : Int32) <<< (nI j &&& 31)))) k (hasv (M.1 1 3 ^^^ ((1 : Int32) <<< (nI j &&& 31))) (nI j))), (ovM (rcM (seM (mset (cpB M (M.2 k) 1 n) 1 3 (M.1 1 3 ^^^ ((1 : Int32) <<< (nI j &&& 31)))) k (hasv (M.1 1 3 ^^^ ((1 : Int32) <<< (nI j &&& 31))) (nI j))) k) (nI j)), f1, r1, sim_new (n2 := n) h hz hn hk1 hk2 ?_ ?_ ?_ ?_ ?_ ?_ ?_ ?_ ?_⟩
    · show (rcM (seM (mset (cpB M (M.2 k) 1 n) 1 3 (M.1 1 3 ^^^ ((1 : Int32) <<< (nI j &&& 31)))) k (hasv (M.1 1 3 ^^^ ((1 : Int32) <<< (nI j &&& 31))) (nI j))) k).2 = _
      rw [rcM_2, s3]
      rfl
    · unfold ovM
      rw [mset_n (by decide), rcM_n (by decide)]
      exact s2
    · unfold ovM
      rw [mset_n (by decide)]
      exact rcM_4
    · unfold ovM
      rw [mset_n (by decide), rcM_r (by decide), z0]
    · unfold ovM
      rw [mset_n (by decide)]
      exact rcM_272 z1 z2
    · intro q hq
      rw [lo q (by omega) (by omega) (by omega), o1 q (by omega)]
    · intro b hb1 hb2 i hi
      have g1 := isB_33 hb1 hi
      have g2 := isB_apart hb1 (Or.inl rfl) hb2
      rw [lo _ (by omega) (by omega) g1.1, mset_n (by omega)]
    · rw [zb]
      refine ⟨by rw [hrow 1 (by decide)]; exact hz, by rw [upd_n (by decide)]; exact hz2, hn, fun i hi j2 hj2 => by rw [hc i hi, hrp]; exact hv.2.2.2.1 i hi j2 hj2, by rw [hrow 2 (by decide), upd_n (by decide)]; exact hv.2.2.2.2.1, ?_, by rw [hrow 4 (by decide), upd_n (by decide)]; exact hv.2.2.2.2.2.2.1, by rw [hrow 5 (by decide), upd_n (by decide)]; exact hv.2.2.2.2.2.2.2.1, WF_ext (fun i hi => by rw [hc i hi]; exact ⟨rfl, rfl, rfl⟩) hw⟩
      rw [lo 1 (by decide) (by decide) (by decide), mset_s, upd_s, upd_s, hv.2.2.2.2.2.1]
    · rw [zb]
      obtain ⟨d, la, pg, b2, bd, b0, bla, b1, bpg, bp⟩ := hb
      exact ⟨d, la, pg, by rw [upd_n (by decide)]; exact b2, bd, by rw [upd_n (by decide)]; exact b0, bla, by rw [upd_n (by decide)]; exact b1, bpg, fun i hi => by rw [hrp, hrp]; exact bp i hi⟩
