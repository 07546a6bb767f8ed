theorem p_fault {Y : Yt} {M : Mm} (h : Sim M) : Pr Y yX6_fault wsX6_fault { frames := 6, cells := 0, slots := 0, locals := 132 } yX7_fault wsX7_fault { frames := 5, cells := 0, slots := 0, locals := 110 } [] M := by
  have h0 := h
  obtain ⟨⟨n, hv, hb⟩, ⟨k, hk1, hk2, hk3, hk4⟩, hsl, ⟨l, hl1, hl2, hl3, hl4⟩⟩ := h0
  have hz := hv.1
  have hz2 := hv.2.1
  have hn := hv.2.2.1
  have hw := hv.2.2.2.2.2.2.2.2
  have hw2 := hv.wf
  have hp : Pad M l := ⟨hl1, hl2, hl3, hl4⟩
  have hS := pad_sg hp
  have f1 := f_fault (Y := Y) (q := M.1 32) (pad_rd hp)
  rw [mrow_self] at f1
  have hR : RpOK (mrow M 32 (ffl (M.1 31) l 80 0 (upd (M.1 32) 0 0)).2) (M.1 275) ((mrow M 32 (ffl (M.1 31) l 80 0 (upd (M.1 32) 0 0)).2).1 270) l := ⟨by rw [mrow_n (by decide)], by rw [mrow_n (by decide)]; exact hl3, hl1⟩
  have r1 := r_fault (Y := Y) hR
  rw [← c_ffl hS 80 27 0 0 (upd (M.1 32) 0 0) ((mrow M 32 (ffl (M.1 31) l 80 0 (upd (M.1 32) 0 0)).2).1 280) (Nat.zero_le _) (by omega) (by omega)] at r1
  exact ⟨_, _, _, f1, r1, sim_q (sq_32.trans sq_pM) h⟩
theorem p_carryOut {Y : Yt} {M : Mm} (h : Sim M) : Pr Y yX6_carryOut wsX6_carryOut { frames := 6, cells := 0, slots := 0, locals := 132 } yX7_carryOut wsX7_carryOut { frames := 5, cells := 0, slots := 0, locals := 114 } [] M := by
  have h0 := h
  obtain ⟨⟨n, hv, hb⟩, ⟨k, hk1, hk2, hk3, hk4⟩, hsl, ⟨l, hl1, hl2, hl3, hl4⟩⟩ := h0
  have hz := hv.1
  have hz2 := hv.2.1
  have hn := hv.2.2.1
  have hw := hv.2.2.2.2.2.2.2.2
  have hw2 := hv.wf
  have hp : Pad M l := ⟨hl1, hl2, hl3, hl4⟩
  have hS := pad_sg hp
  have hh : ∀ i, i < 7 → isB (M.2 i) ∧ M.2 i ≠ 1 := fun i hi => ⟨isH_B (hk4.1 i hi), isH_1 (hk4.1 i hi)⟩
  have hB := (hh k (by omega)).1
  have hC := vb_cp hB (hh k (by omega)).2 hv
  have c271 : (cpB M (M.2 k) 1 n).1 271 = M.1 271 := pro hB hn (by decide)
  have cf := fun o => c_ffl hS 80 27 0 0 (upd (M.1 32) 0 0) o (Nat.zero_le _) (by omega) (by omega)
  by_cases hf : (ffl (M.1 31) l 80 0 (upd (M.1 32) 0 0)).1 = -6
  · have f1 := f_carryOut (Y := Y) (q := M.1 32) (pad_rd hp) hf hk1 hk2 hh ⟨hz, hn, hw⟩
    rw [mrow_self] at f1
    have hv0 : Vb (mrow (cpB M (M.2 k) 1 n) 32 (upd (ffl (M.1 31) l 80 0 (upd (M.1 32) 0 0)).2 0 0)) 1 (M.1 271) n := vb_32 hC
    have yC : Fy (cpB M (M.2 k) 1 n) (mrow (cpB M (M.2 k) 1 n) 32 (upd (ffl (M.1 31) l 80 0 (upd (M.1 32) 0 0)).2 0 0)) := Fy.m32
    have hcl := coL_le (s := M.1 31) (l := l) 80 0 0 (mrow (cpB M (M.2 k) 1 n) 32 (upd (ffl (M.1 31) l 80 0 (upd (M.1 32) 0 0)).2 0 0))
    have hc6 := (cf ((seM (mset (coL (M.1 31) l 80 0 0 (mrow (cpB M (M.2 k) 1 n) 32 (upd (ffl (M.1 31) l 80 0 (upd (M.1 32) 0 0)).2 0 0))).2 30 1 0) k (nI (coL (M.1 31) l 80 0 0 (mrow (cpB M (M.2 k) 1 n) 32 (upd (ffl (M.1 31) l 80 0 (upd (M.1 32) 0 0)).2 0 0))).1)).1 280)).symm.trans hf
    have hge := rdF_ge (s := M.1 275) (l := l) 27 0 0 ((seM (mset (coL (M.1 31) l 80 0 0 (mrow (cpB M (M.2 k) 1 n) 32 (upd (ffl (M.1 31) l 80 0 (upd (M.1 32) 0 0)).2 0 0))).2 30 1 0) k (nI (coL (M.1 31) l 80 0 0 (mrow (cpB M (M.2 k) 1 n) 32 (upd (ffl (M.1 31) l 80 0 (upd (M.1 32) 0 0)).2 0 0))).1)).1 280)
    have col := fun R => c_col hS 27 80 0 0 n ((seM (mset (coL (M.1 31) l 80 0 0 (mrow (cpB M (M.2 k) 1 n) 32 (upd (ffl (M.1 31) l 80 0 (upd (M.1 32) 0 0)).2 0 0))).2 30 1 0) k (nI (coL (M.1 31) l 80 0 0 (mrow (cpB M (M.2 k) 1 n) 32 (upd (ffl (M.1 31) l 80 0 (upd (M.1 32) 0 0)).2 0 0))).1)).1 280) (mrow (cpB M (M.2 k) 1 n) 32 (upd (ffl (M.1 31) l 80 0 (upd (M.1 32) 0 0)).2 0 0)) R (Nat.zero_le _) (by omega) (by omega) hc6
    generalize hCL : (coL (M.1 31) l 80 0 0 (mrow (cpB M (M.2 k) 1 n) 32 (upd (ffl (M.1 31) l 80 0 (upd (M.1 32) 0 0)).2 0 0))) = CL at f1 hcl hc6 hge col
    have hr : ¬ nI CL.1 < 0 := nI_nlt (b := 0) (Nat.zero_le _) (by omega)
    have y0 : (∀ q, 270 ≤ q → (mrow (cpB M (M.2 k) 1 n) 32 (upd (ffl (M.1 31) l 80 0 (upd (M.1 32) 0 0)).2 0 0)).1 q = M.1 q) := fun q hq => by rw [mrow_n (by omega), pro hB hn (by omega)]
    generalize hC0 : (mrow (cpB M (M.2 k) 1 n) 32 (upd (ffl (M.1 31) l 80 0 (upd (M.1 32) 0 0)).2 0 0)) = C0 at hv0 yC y0 hCL col
    generalize hRD : rdF (M.1 275) l 27 0 0 ((seM (mset CL.2 30 1 0) k (nI CL.1)).1 280) = RD at hc6 hge col
    have yX : Fy C0 CL.2 := by
      have := (col (mrow (mrow M 280 RD.2.2.1) 271 (M.1 271)) (by rw [mrow_n (by decide), mrow_s]) (by rw [mrow_s]; exact hv0) (by rw [mrow_s]; exact hb)).2.1
      exact this
    have o1 : ∀ q, 270 ≤ q → (mset CL.2 30 1 0).1 q = M.1 q := fun q hq => by rw [mset_n (by omega), yX.2 q (by omega), y0 q hq]
    obtain ⟨s1, s2, s3⟩ := seM_r (X := mset CL.2 30 1 0) hr hk1 (by rw [mset_n (by decide), yX.2 33 (by decide), yC.2 33 (by decide), pro hB hn (by decide)]; exact hk2)
    have z1 : (seM (mset CL.2 30 1 0) k (nI CL.1)).1 271 = M.1 271 := by rw [s1 271 (by decide), o1 271 (by decide)]
    have z0 : (seM (mset CL.2 30 1 0) k (nI CL.1)).1 270 = M.1 270 := by rw [s1 270 (by decide), o1 270 (by decide)]
    have z5 : (seM (mset CL.2 30 1 0) k (nI CL.1)).1 275 = M.1 275 := by rw [s1 275 (by decide), o1 275 (by decide)]
    generalize hA : seM (mset CL.2 30 1 0) k (nI CL.1) = A at f1 hRD z1 z0 z5
    have hR : RpOK A (M.1 275) (A.1 270) l := ⟨z5, by rw [z0]; exact hl3, hl1⟩
    have r1 := r_carryOut (Y := Y) hR (by rw [hRD]; exact hc6) (by rw [z1]; exact hz2) hn hk1 (by rw [z0]; exact hk3)
    rw [hRD] at r1
    generalize hPM : pM A RD.2.2.1 (upd (A.1 270) 12 (nI RD.2.2.2)) RD.2.1 RD.1 = P at r1
    have p280 : P.1 280 = RD.2.2.1 := by rw [← hPM]; exact pM_ro
    have p271 : P.1 271 = M.1 271 := by rw [← hPM, pM_n (by decide), z1]
    have w := col (rcM P k) (by rw [rcM_n (by decide)]; exact p280) (by rw [rc_z, p271]; exact hv0) (by rw [rc_z, p271]; exact hb)
    rw [Nat.sub_zero] at w
    obtain ⟨w1, w2, w3, w4, n2, w5, w6⟩ := w
    rw [← w1] at r1
    refine ⟨_, _, _, f1, r1, cy_end (P := P) h hz hn hk1 hk2 hB (by omega) (yC.tr w2) ?_ ?_ w3 w4 w5 w6⟩
    · rw [hA, ← hPM]
      rfl
    · intro q h1 h2
      rw [hA, ← hPM]
      exact pM_n ⟨h1, h2⟩
  · have f1 := f_carryOut_bad (Y := Y) (q := M.1 32) (pad_rd hp) hf
    rw [mrow_self] at f1
    have hR : RpOK (mrow M 32 (ffl (M.1 31) l 80 0 (upd (M.1 32) 0 0)).2) (M.1 275) ((mrow M 32 (ffl (M.1 31) l 80 0 (upd (M.1 32) 0 0)).2).1 270) l := ⟨by rw [mrow_n (by decide)], by rw [mrow_n (by decide)]; exact hl3, hl1⟩
    have r1 := r_carryOut_bad (Y := Y) hR (by rw [← cf]; exact hf)
    exact ⟨_, _, _, f1, r1, sim_q (sq_32.trans sq_pM) h⟩
