theorem p_toFall {Y : Yt} {M : Mm} (h : Sim M) (x : Int32) : Pr Y yX6_toFall wsX6_toFall { frames := 4, cells := 0, slots := 0, locals := 92 } yX7_toFall wsX7_toFall { frames := 6, cells := 0, slots := 0, locals := 133 } [.int x] M := by
  have h0 := h
  obtain ⟨⟨n, hv, hb⟩, ⟨k, hk1, hk2, hk3, hk4⟩, hsl, ⟨l, hl1, hl2, hl3, hl4⟩⟩ := h0
  have hz := hv.1
  have hz2 := hv.2.1
  have hn := hv.2.2.1
  have hw := hv.2.2.2.2.2.2.2.2
  have hw2 := hv.wf
  rcases pk_ix x (show n < 2 ^ 31 by omega) with g | g | ⟨i, hi, ei⟩
  · exact ⟨_, _, _, f_toFall_no hz (Or.inl g), r_toFall_no hz2 (Or.inl g), h⟩
  · exact ⟨_, _, _, f_toFall_no hz (Or.inr g), r_toFall_no hz2 (Or.inr g), h⟩
  · subst ei
    have hq : Sq M (wM M (wAll (cp M 1) (bOut M 1) (naP (cp M 1) n) n (wI M 24) 24)) := sq_wM
    have s1 := sim_q hq h
    have z1 : ((wM M (wAll (cp M 1) (bOut M 1) (naP (cp M 1) n) n (wI M 24) 24))).1 271 = M.1 271 := hq.2.1 271 (by decide) (by decide) (by decide) (by decide) (by decide)
    have hv1 : Vb (wM M (wAll (cp M 1) (bOut M 1) (naP (cp M 1) n) n (wI M 24) 24)) 1 (((wM M (wAll (cp M 1) (bOut M 1) (naP (cp M 1) n) n (wI M 24) 24))).1 271) n := by rw [z1]; exact hq.vb (Or.inl rfl) hv
    obtain ⟨c1, c2, f, s, hf, hs, cf, cs⟩ := e_cost hv hi
    obtain ⟨d1, d2⟩ := cost_q hv z1 hi
    have e : (if ((wM M (wAll (cp M 1) (bOut M 1) (naP (cp M 1) n) n (wI M 24) 24))).1 28 i < 1000 then ((wM M (wAll (cp M 1) (bOut M 1) (naP (cp M 1) n) n (wI M 24) 24))).1 28 i else -6) = (if (lcS (wM M (wAll (cp M 1) (bOut M 1) (naP (cp M 1) n) n (wI M 24) 24)) n n).2 i = 1000 then -6 else (lcS (wM M (wAll (cp M 1) (bOut M 1) (naP (cp M 1) n) n (wI M 24) 24)) n n).2 i) := by
      rw [wM_r28, c1, d1, cf]; exact e_lim hf
    exact ⟨_, _, _, f_toFall hz hn hw hi, by rw [e]; exact r_toFall hv1.2.1 hn hv1.wf hi, sim_q (sq_lk.trans sq_cst) s1⟩
theorem p_toStand {Y : Yt} {M : Mm} (h : Sim M) (x : Int32) : Pr Y yX6_toStand wsX6_toStand { frames := 4, cells := 0, slots := 0, locals := 92 } yX7_toStand wsX7_toStand { frames := 6, cells := 0, slots := 0, locals := 133 } [.int x] M := by
  have h0 := h
  obtain ⟨⟨n, hv, hb⟩, ⟨k, hk1, hk2, hk3, hk4⟩, hsl, ⟨l, hl1, hl2, hl3, hl4⟩⟩ := h0
  have hz := hv.1
  have hz2 := hv.2.1
  have hn := hv.2.2.1
  have hw := hv.2.2.2.2.2.2.2.2
  have hw2 := hv.wf
  rcases pk_ix x (show n < 2 ^ 31 by omega) with g | g | ⟨i, hi, ei⟩
  · exact ⟨_, _, _, f_toStand_no hz (Or.inl g), r_toStand_no hz2 (Or.inl g), h⟩
  · exact ⟨_, _, _, f_toStand_no hz (Or.inr g), r_toStand_no hz2 (Or.inr g), h⟩
  · subst ei
    have hq : Sq M (wM M (wAll (cp M 1) (bOut M 1) (naP (cp M 1) n) n (wI M 24) 24)) := sq_wM
    have s1 := sim_q hq h
    have z1 : ((wM M (wAll (cp M 1) (bOut M 1) (naP (cp M 1) n) n (wI M 24) 24))).1 271 = M.1 271 := hq.2.1 271 (by decide) (by decide) (by decide) (by decide) (by decide)
    have hv1 : Vb (wM M (wAll (cp M 1) (bOut M 1) (naP (cp M 1) n) n (wI M 24) 24)) 1 (((wM M (wAll (cp M 1) (bOut M 1) (naP (cp M 1) n) n (wI M 24) 24))).1 271) n := by rw [z1]; exact hq.vb (Or.inl rfl) hv
    obtain ⟨c1, c2, f, s, hf, hs, cf, cs⟩ := e_cost hv hi
    obtain ⟨d1, d2⟩ := cost_q hv z1 hi
    by_cases ho : bOut M 1 i = true
    · have f1 := f_toStand (Y := Y) hz hn hw hi
      have r1 := r_toStand (Y := Y) hz2 hn hw2 hi
      rw [if_pos ho, if_pos ho] at f1
      rw [lk_o hv hi, if_pos ho] at r1
      exact ⟨_, _, _, f1, r1, sim_q (sq_lk.trans sq_cst) h⟩
    · have f1 := f_toStand (Y := Y) hz hn hw hi
      have r1 := r_toStand (Y := Y) hv1.2.1 hn hv1.wf hi
      rw [if_neg ho, if_neg ho, wM_r29, c2, cs, e_lim hs] at f1
      rw [lkW_z z1 hi, lk_o hv hi, if_neg ho, d2, cs] at r1
      exact ⟨_, _, _, f1, r1, sim_q (sq_lk.trans sq_cst) s1⟩
