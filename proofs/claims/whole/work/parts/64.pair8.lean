theorem p_claim {Y : Yt} {M : Mm} (h : Sim M) (s p c : Int32) : Pr Y yX6_claim wsX6_claim { frames := 3, cells := 0, slots := 0, locals := 68 } yX7_claim wsX7_claim { frames := 3, cells := 0, slots := 0, locals := 66 } [.int s, .int p, .int c] M := by
  have h0 := h
  obtain ⟨⟨n, hv, hb⟩, ⟨k, hk1, hk2, hk3, hk4⟩, hsl, ⟨l, hl1, hl2, hl3, hl4⟩⟩ := h0
  have hz := hv.1
  have hz2 := hv.2.1
  have hn := hv.2.2.1
  have hw := hv.2.2.2.2.2.2.2.2
  have hw2 := hv.wf
  have hh : ∀ i, i < 7 → isB (M.2 i) ∧ M.2 i ≠ 1 := fun i hi => ⟨isH_B (hk4.1 i hi), isH_1 (hk4.1 i hi)⟩
  have hB := (hh k (by omega)).1
  have hC := vb_cp hB (hh k (by omega)).2 hv
  have c271 : (cpB M (M.2 k) 1 n).1 271 = M.1 271 := pro hB hn (by decide)
  have f1 := f_claim (Y := Y) (s := s) (p := p) (c := c) hk1 hk2 hh hz hn hw
  rcases t_claim (s := s) (p := p) (c := c) hC hb with ⟨a, e, em⟩ | ⟨a, h24, e, v2, b2⟩
  · skip
    have se : seM (fcM (cpB M (M.2 k) 1 n) 1 n s p c) k (fcR n s p c) = (cpB M (M.2 k) 1 n) := by rw [em, e]; exact if_pos (a)
    rw [se, e] at f1
    exact ⟨_, _, _, f1, r_claim_bad (by rw [c271]; exact hz2) hn a, sim_c1 h hz hn hk1 hk2⟩
  · skip
    have hr : ¬ (fcR n s p c) < 0 := by rw [e]; exact nI_nlt (b := 0) (Nat.zero_le _) (by omega)
    have hx : Fq (cpB M (M.2 k) 1 n) (fcM (cpB M (M.2 k) 1 n) 1 n s p c) := fcM_fq
    have oA := se_o (k := k) (r := (fcR n s p c)) hn hk1 hk2 hB hr hx
    have z1 := oA 271 (by decide)
    have z0 := oA 270 (by decide)
    have r1 := r_claim (Y := Y) (M := (seM (fcM (cpB M (M.2 k) 1 n) 1 n s p c) k (fcR n s p c))) (s := s) (p := p) (c := c) hk1 (by rw [z0]; exact hk3) (by rw [z1]; exact hz2) h24 a
    exact ⟨_, _, _, f1, (by rw [e]; rw [e] at r1; exact r1), sim_st h hz hn hk1 hk2 hB hr hx ((rq_rc z1).fl) v2 b2⟩

theorem p_answer {Y : Yt} {M : Mm} (h : Sim M) (x p c : Int32) : Pr Y yX6_answer wsX6_answer { frames := 3, cells := 0, slots := 0, locals := 69 } yX7_answer wsX7_answer { frames := 3, cells := 0, slots := 0, locals := 66 } [.int x, .int p, .int c] M := by
  have h0 := h
  obtain ⟨⟨n, hv, hb⟩, ⟨k, hk1, hk2, hk3, hk4⟩, hsl, ⟨l, hl1, hl2, hl3, hl4⟩⟩ := h0
  have hz := hv.1
  have hz2 := hv.2.1
  have hn := hv.2.2.1
  have hw := hv.2.2.2.2.2.2.2.2
  have hw2 := hv.wf
  have hh : ∀ i, i < 7 → isB (M.2 i) ∧ M.2 i ≠ 1 := fun i hi => ⟨isH_B (hk4.1 i hi), isH_1 (hk4.1 i hi)⟩
  have hB := (hh k (by omega)).1
  have hC := vb_cp hB (hh k (by omega)).2 hv
  have c271 : (cpB M (M.2 k) 1 n).1 271 = M.1 271 := pro hB hn (by decide)
  have sen : seM (cpB M (M.2 k) 1 n) k (-1) = (cpB M (M.2 k) 1 n) := if_pos (by decide)
  have fno : x < 0 ∨ nI n ≤ x → Fn Y yX6_answer wsX6_answer { frames := 3, cells := 0, slots := 0, locals := 69 } [.ref (Y.2.2.2 0), .int x, .int p, .int c] M (some (.int (-1))) (cpB M (M.2 k) 1 n) := fun g => by
    have q := f_answer_no (Y := Y) (p := p) (c := c) hk1 hk2 hh hz hn hw g
    rw [sen] at q
    exact q
  have rno : x < 0 ∨ nI n ≤ x → Fn Y yX7_answer wsX7_answer { frames := 3, cells := 0, slots := 0, locals := 66 } [.ref (Y.2.2.2 270), .int x, .int p, .int c] (cpB M (M.2 k) 1 n) (some (.int (-1))) (cpB M (M.2 k) 1 n) := fun g => r_answer_no (by rw [c271]; exact hz2) g
  rcases pk_ix x (show n < 2 ^ 31 by omega) with g | g | ⟨i, hi, ei⟩
  · exact ⟨_, _, _, fno (Or.inl g), rno (Or.inl g), sim_c1 h hz hn hk1 hk2⟩
  · exact ⟨_, _, _, fno (Or.inr g), rno (Or.inr g), sim_c1 h hz hn hk1 hk2⟩
  · subst ei
    have f1 := f_answer (Y := Y) (p := p) (c := c) hk1 hk2 hh hz hn hw hi
    rcases t_answer (p := p) (c := c) hC hb hi with ⟨a, e, em⟩ | ⟨a, h24, e, v2, b2⟩
    · skip
      have se : seM (faM (cpB M (M.2 k) 1 n) 1 n i p c) k (faR (cpB M (M.2 k) 1 n) 1 n i p c) = (cpB M (M.2 k) 1 n) := by rw [em, e]; exact if_pos (a)
      rw [se, e] at f1
      exact ⟨_, _, _, f1, (by rw [← c271] at a ⊢; exact r_answer_bad (by rw [c271]; exact hz2) hn hi a), sim_c1 h hz hn hk1 hk2⟩
    · skip
      have hr : ¬ (faR (cpB M (M.2 k) 1 n) 1 n i p c) < 0 := by rw [e]; exact nI_nlt (b := 0) (Nat.zero_le _) (by omega)
      have hx : Fq (cpB M (M.2 k) 1 n) (faM (cpB M (M.2 k) 1 n) 1 n i p c) := faM_fq
      have oA := se_o (k := k) (r := (faR (cpB M (M.2 k) 1 n) 1 n i p c)) hn hk1 hk2 hB hr hx
      have z1 := oA 271 (by decide)
      have z0 := oA 270 (by decide)
      have r1 := r_answer (Y := Y) (M := (seM (faM (cpB M (M.2 k) 1 n) 1 n i p c) k (faR (cpB M (M.2 k) 1 n) 1 n i p c))) (p := p) (c := c) hk1 (by rw [z0]; exact hk3) (by rw [z1]; exact hz2) h24 hi (by rw [z1]; exact a)
      rw [z1] at r1
      exact ⟨_, _, _, f1, (by rw [e]; rw [e] at r1; exact r1), sim_st h hz hn hk1 hk2 hB hr hx ((rq_rc z1).fl) v2 b2⟩

theorem p_withdraw {Y : Yt} {M : Mm} (h : Sim M) (x : Int32) : Pr Y yX6_withdraw wsX6_withdraw { frames := 5, cells := 0, slots := 0, locals := 110 } yX7_withdraw wsX7_withdraw { frames := 5, cells := 0, slots := 0, locals := 107 } [.int x] M := by
  have h0 := h
  obtain ⟨⟨n, hv, hb⟩, ⟨k, hk1, hk2, hk3, hk4⟩, hsl, ⟨l, hl1, hl2, hl3, hl4⟩⟩ := h0
  have hz := hv.1
  have hz2 := hv.2.1
  have hn := hv.2.2.1
  have hw := hv.2.2.2.2.2.2.2.2
  have hw2 := hv.wf
  have hh : ∀ i, i < 7 → isB (M.2 i) ∧ M.2 i ≠ 1 := fun i hi => ⟨isH_B (hk4.1 i hi), isH_1 (hk4.1 i hi)⟩
  have hB := (hh k (by omega)).1
  have hC := vb_cp hB (hh k (by omega)).2 hv
  have c271 : (cpB M (M.2 k) 1 n).1 271 = M.1 271 := pro hB hn (by decide)
  have sen : seM (cpB M (M.2 k) 1 n) k (-1) = (cpB M (M.2 k) 1 n) := if_pos (by decide)
  have fno : x < 0 ∨ nI n ≤ x → Fn Y yX6_withdraw wsX6_withdraw { frames := 5, cells := 0, slots := 0, locals := 110 } [.ref (Y.2.2.2 0), .int x] M (some (.int (-1))) (cpB M (M.2 k) 1 n) := fun g => by
    have q := f_withdraw_no (Y := Y) hk1 hk2 hh hz hn hw g
    rw [sen] at q
    exact q
  have rno : x < 0 ∨ nI n ≤ x → Fn Y yX7_withdraw wsX7_withdraw { frames := 5, cells := 0, slots := 0, locals := 107 } [.ref (Y.2.2.2 270), .int x] (cpB M (M.2 k) 1 n) (some (.int (-1))) (cpB M (M.2 k) 1 n) := fun g => r_withdraw_no (by rw [c271]; exact hz2) g
  rcases pk_ix x (show n < 2 ^ 31 by omega) with g | g | ⟨i, hi, ei⟩
  · exact ⟨_, _, _, fno (Or.inl g), rno (Or.inl g), sim_c1 h hz hn hk1 hk2⟩
  · exact ⟨_, _, _, fno (Or.inr g), rno (Or.inr g), sim_c1 h hz hn hk1 hk2⟩
  · subst ei
    have f1 := f_withdraw (Y := Y) hk1 hk2 hh hz hn hw hi
    rcases t_withdraw hC hb hi with ⟨a, e, em⟩ | ⟨a, e, v2, b2⟩
    · skip
      have se : seM (tbM (cpB M (M.2 k) 1 n) 1 i) k (tbR (cpB M (M.2 k) 1 n) 1 n i) = (cpB M (M.2 k) 1 n) := by rw [em, e]; exact if_pos (by decide)
      rw [se, e] at f1
      exact ⟨_, _, _, f1, (by rw [← c271] at a; exact r_withdraw_bad (by rw [c271]; exact hz2) hn hi a), sim_c1 h hz hn hk1 hk2⟩
    · skip
      have hr : ¬ (tbR (cpB M (M.2 k) 1 n) 1 n i) < 0 := by rw [e]; exact nI_nlt (b := 0) (Nat.zero_le _) (by have := cnt_le (bSd (tbM (cpB M (M.2 k) 1 n) 1 i) 1 n) n; omega)
      have hx : Fq (cpB M (M.2 k) 1 n) (tbM (cpB M (M.2 k) 1 n) 1 i) := tbM_fq (by omega)
      have oA := se_o (k := k) (r := (tbR (cpB M (M.2 k) 1 n) 1 n i)) hn hk1 hk2 hB hr hx
      have z1 := oA 271 (by decide)
      have z0 := oA 270 (by decide)
      have r1 := r_withdraw (Y := Y) (M := (seM (tbM (cpB M (M.2 k) 1 n) 1 i) k (tbR (cpB M (M.2 k) 1 n) 1 n i))) hk1 (by rw [z0]; exact hk3) (by rw [z1]; exact hz2) hn (by rw [z1]; exact hw2) hi (by rw [z1]; exact a)
      have bq : ∀ j, j < 26 → (mset (rcM (seM (tbM (cpB M (M.2 k) 1 n) 1 i) k (tbR (cpB M (M.2 k) 1 n) 1 n i)) k) 271 (5 + 7 * i + 6) 1).1 (1 + j) = (tbM (cpB M (M.2 k) 1 n) 1 i).1 (1 + j) := fun j hj => by
        rw [mset_n (by omega), rcM_n (by omega)]
        exact (seM_r (X := (tbM (cpB M (M.2 k) 1 n) 1 i)) (r := (tbR (cpB M (M.2 k) 1 n) 1 n i)) hr hk1 (by rw [hx.2 33 (by decide), pro hB hn (by decide)]; exact hk2)).1 _ (by omega)
      have zb : (mset (rcM (seM (tbM (cpB M (M.2 k) 1 n) 1 i) k (tbR (cpB M (M.2 k) 1 n) 1 n i)) k) 271 (5 + 7 * i + 6) 1).1 271 = upd (M.1 271) (5 + 7 * i + 6) 1 := by rw [mset_s, rc_z, z1]
      have ec : cnt (stW (mset (rcM (seM (tbM (cpB M (M.2 k) 1 n) 1 i) k (tbR (cpB M (M.2 k) 1 n) 1 n i)) k) 271 (5 + 7 * i + 6) 1) n) n = cnt (bSd (tbM (cpB M (M.2 k) 1 n) 1 i) 1 n) n := by
        rw [← bSd_q hn bq]
        exact cnt_congr (fun a ha => lk_0 (by rw [zb]; exact Vb_q bq v2) ha)
      rw [ec, ← e] at r1
      exact ⟨_, _, _, f1, r1, sim_st h hz hn hk1 hk2 hB hr hx ((rq_rc z1).set.lk) v2 b2⟩

theorem p_renew {Y : Yt} {M : Mm} (h : Sim M) (x : Int32) : Pr Y yX6_renew wsX6_renew { frames := 3, cells := 0, slots := 0, locals := 67 } yX7_renew wsX7_renew { frames := 3, cells := 0, slots := 0, locals := 64 } [.int x] M := by
  have h0 := h
  obtain ⟨⟨n, hv, hb⟩, ⟨k, hk1, hk2, hk3, hk4⟩, hsl, ⟨l, hl1, hl2, hl3, hl4⟩⟩ := h0
  have hz := hv.1
  have hz2 := hv.2.1
  have hn := hv.2.2.1
  have hw := hv.2.2.2.2.2.2.2.2
  have hw2 := hv.wf
  have hh : ∀ i, i < 7 → isB (M.2 i) ∧ M.2 i ≠ 1 := fun i hi => ⟨isH_B (hk4.1 i hi), isH_1 (hk4.1 i hi)⟩
  have hB := (hh k (by omega)).1
  have hC := vb_cp hB (hh k (by omega)).2 hv
  have c271 : (cpB M (M.2 k) 1 n).1 271 = M.1 271 := pro hB hn (by decide)
  have sen : seM (cpB M (M.2 k) 1 n) k (-1) = (cpB M (M.2 k) 1 n) := if_pos (by decide)
  have fno : x < 0 ∨ nI n ≤ x → Fn Y yX6_renew wsX6_renew { frames := 3, cells := 0, slots := 0, locals := 67 } [.ref (Y.2.2.2 0), .int x] M (some (.int (-1))) (cpB M (M.2 k) 1 n) := fun g => by
    have q := f_renew_no (Y := Y) hk1 hk2 hh hz hn hw g
    rw [sen] at q
    exact q
  have rno : x < 0 ∨ nI n ≤ x → Fn Y yX7_renew wsX7_renew { frames := 3, cells := 0, slots := 0, locals := 64 } [.ref (Y.2.2.2 270), .int x] (cpB M (M.2 k) 1 n) (some (.int (-1))) (cpB M (M.2 k) 1 n) := fun g => r_renew_no (by rw [c271]; exact hz2) g
  rcases pk_ix x (show n < 2 ^ 31 by omega) with g | g | ⟨i, hi, ei⟩
  · exact ⟨_, _, _, fno (Or.inl g), rno (Or.inl g), sim_c1 h hz hn hk1 hk2⟩
  · exact ⟨_, _, _, fno (Or.inr g), rno (Or.inr g), sim_c1 h hz hn hk1 hk2⟩
  · subst ei
    have f1 := f_renew (Y := Y) hk1 hk2 hh hz hn hw hi
    rcases t_renew hC hb hi with ⟨a, e, em⟩ | ⟨a, e, nr, v2, b2⟩
    · skip
      have se : seM (prM (cpB M (M.2 k) 1 n) 1 i) k (prR (cpB M (M.2 k) 1 n) 1 i) = (cpB M (M.2 k) 1 n) := by rw [em, e]; exact if_pos (by decide)
      rw [se, e] at f1
      exact ⟨_, _, _, f1, (by rw [← c271] at a; exact r_renew_bad (by rw [c271]; exact hz2) hn hi a), sim_c1 h hz hn hk1 hk2⟩
    · skip
      have hr : ¬ (prR (cpB M (M.2 k) 1 n) 1 i) < 0 := nr
      have hx : Fq (cpB M (M.2 k) 1 n) (prM (cpB M (M.2 k) 1 n) 1 i) := prM_fq (by omega)
      have oA := se_o (k := k) (r := (prR (cpB M (M.2 k) 1 n) 1 i)) hn hk1 hk2 hB hr hx
      have z1 := oA 271 (by decide)
      have z0 := oA 270 (by decide)
      have r1 := r_renew (Y := Y) (M := (seM (prM (cpB M (M.2 k) 1 n) 1 i) k (prR (cpB M (M.2 k) 1 n) 1 i))) hk1 (by rw [z0]; exact hk3) (by rw [z1]; exact hz2) hn hi (by rw [z1]; exact a)
      rw [z1, ← e] at r1
      exact ⟨_, _, _, f1, r1, sim_st h hz hn hk1 hk2 hB hr hx ((rq_rc z1).set) v2 b2⟩

theorem p_pass {Y : Yt} {M : Mm} (h : Sim M) (d : Int32) : Pr Y yX6_pass wsX6_pass { frames := 5, cells := 0, slots := 0, locals := 109 } yX7_pass wsX7_pass { frames := 5, cells := 0, slots := 0, locals := 107 } [.int d] M := by
  have h0 := h
  obtain ⟨⟨n, hv, hb⟩, ⟨k, hk1, hk2, hk3, hk4⟩, hsl, ⟨l, hl1, hl2, hl3, hl4⟩⟩ := h0
  have hz := hv.1
  have hz2 := hv.2.1
  have hn := hv.2.2.1
  have hw := hv.2.2.2.2.2.2.2.2
  have hw2 := hv.wf
  have hh : ∀ i, i < 7 → isB (M.2 i) ∧ M.2 i ≠ 1 := fun i hi => ⟨isH_B (hk4.1 i hi), isH_1 (hk4.1 i hi)⟩
  have hB := (hh k (by omega)).1
  have hC := vb_cp hB (hh k (by omega)).2 hv
  have c271 : (cpB M (M.2 k) 1 n).1 271 = M.1 271 := pro hB hn (by decide)
  have f1 := f_pass (Y := Y) (d := d) hk1 hk2 hh hz hn hw
  rcases t_pass (d := d) hC hb with ⟨a, e, em⟩ | ⟨a, e, v2, b2⟩
  · skip
    have se : seM (moM (cpB M (M.2 k) 1 n) 1 d) k (moR (cpB M (M.2 k) 1 n) 1 n d) = (cpB M (M.2 k) 1 n) := by rw [em, e]; exact if_pos (a)
    rw [se, e] at f1
    exact ⟨_, _, _, f1, (by rw [← c271] at a ⊢; exact r_pass_bad a), sim_c1 h hz hn hk1 hk2⟩
  · skip
    have hr : ¬ (moR (cpB M (M.2 k) 1 n) 1 n d) < 0 := by rw [e]; exact nI_nlt (b := 0) (Nat.zero_le _) (by have := cnt_le (bSd (moM (cpB M (M.2 k) 1 n) 1 d) 1 n) n; omega)
    have hx : Fq (cpB M (M.2 k) 1 n) (moM (cpB M (M.2 k) 1 n) 1 d) := moM_fq
    have oA := se_o (k := k) (r := (moR (cpB M (M.2 k) 1 n) 1 n d)) hn hk1 hk2 hB hr hx
    have z1 := oA 271 (by decide)
    have z0 := oA 270 (by decide)
    have r1 := r_pass (Y := Y) (M := (seM (moM (cpB M (M.2 k) 1 n) 1 d) k (moR (cpB M (M.2 k) 1 n) 1 n d))) (d := d) hk1 (by rw [z0]; exact hk3) (by rw [z1]; exact hz2) hn (by rw [z1]; exact hw2) (by rw [z1]; exact a)
    rw [z1] at r1
    have bq : ∀ j, j < 26 → (mset (rcM (seM (moM (cpB M (M.2 k) 1 n) 1 d) k (moR (cpB M (M.2 k) 1 n) 1 n d)) k) 271 2 (M.1 271 2 + d)).1 (1 + j) = (moM (cpB M (M.2 k) 1 n) 1 d).1 (1 + j) := fun j hj => by
      rw [mset_n (by omega), rcM_n (by omega)]
      exact (seM_r (X := (moM (cpB M (M.2 k) 1 n) 1 d)) (r := (moR (cpB M (M.2 k) 1 n) 1 n d)) hr hk1 (by rw [hx.2 33 (by decide), pro hB hn (by decide)]; exact hk2)).1 _ (by omega)
    have zb : (mset (rcM (seM (moM (cpB M (M.2 k) 1 n) 1 d) k (moR (cpB M (M.2 k) 1 n) 1 n d)) k) 271 2 (M.1 271 2 + d)).1 271 = upd (M.1 271) 2 (M.1 271 2 + d) := by rw [mset_s, rc_z, z1]
    have ec : cnt (stW (mset (rcM (seM (moM (cpB M (M.2 k) 1 n) 1 d) k (moR (cpB M (M.2 k) 1 n) 1 n d)) k) 271 2 (M.1 271 2 + d)) n) n = cnt (bSd (moM (cpB M (M.2 k) 1 n) 1 d) 1 n) n := by
      rw [← bSd_q hn bq]
      exact cnt_congr (fun a ha => lk_0 (by rw [zb]; exact Vb_q bq v2) ha)
    rw [ec, ← e] at r1
    exact ⟨_, _, _, f1, r1, sim_st h hz hn hk1 hk2 hB hr hx ((rq_rc z1).set.lk) v2 b2⟩

theorem p_restore {Y : Yt} {M : Mm} (h : Sim M) (x : Int32) : Pr Y yX6_restore wsX6_restore { frames := 3, cells := 0, slots := 0, locals := 67 } yX7_restore wsX7_restore { frames := 1, cells := 0, slots := 0, locals := 22 } [.int x] M := by
  have h0 := h
  obtain ⟨⟨n, hv, hb⟩, ⟨k, hk1, hk2, hk3, hk4⟩, hsl, ⟨l, hl1, hl2, hl3, hl4⟩⟩ := h0
  have hz := hv.1
  have hz2 := hv.2.1
  have hn := hv.2.2.1
  have hw := hv.2.2.2.2.2.2.2.2
  have hw2 := hv.wf
  have hh : ∀ i, i < 7 → isB (M.2 i) ∧ M.2 i ≠ 1 := fun i hi => ⟨isH_B (hk4.1 i hi), isH_1 (hk4.1 i hi)⟩
  have hB := (hh k (by omega)).1
  have hC := vb_cp hB (hh k (by omega)).2 hv
  have c271 : (cpB M (M.2 k) 1 n).1 271 = M.1 271 := pro hB hn (by decide)
  rcases pk_ix x (n := 2) (by decide) with g | g | ⟨j, hj, ej⟩
  · exact ⟨_, _, _, f_restore_no (Or.inl g), r_restore_no (inv_lo g), h⟩
  · exact ⟨_, _, _, f_restore_no (Or.inr g), r_restore_no (inv_hi (by
      rw [Int32.lt_iff_toInt_lt]
      rw [Int32.le_iff_toInt_le] at g
      have a : (nI 2).toInt = 2 := by decide
      have b : (1 : Int32).toInt = 1 := by decide
      omega)), h⟩
  · subst ej
    obtain ⟨s1, s2⟩ := hsl j hj
    rcases s1 with ⟨a, b⟩ | ⟨a, b⟩
    · obtain ⟨n2, w, wb⟩ := s2 a
      have hne : M.2 k ≠ 218 + 26 * j := isH_s (hk4.1 k (by omega)) hj
      have f1 := f_restore (Y := Y) hj a hk1 hk2 hh hz hn hw w.1 w.2.2.1 w.2.2.2.2.2.2.2.2 hne
      have w1 : Vb (cpB M (M.2 k) 1 n) (218 + 26 * j) (fun t => M.1 273 (173 * j + t)) n2 := Vb_by hB (isB_s hj) hne hn w
      have v1 := Vb_to (b := 1) w1
      have zz : ∀ t, t < 173 → M.1 273 (173 * j + t) = cpy (M.1 271) (M.1 273) 0 (173 * j) 173 t := fun t ht => by
        unfold cpy
        exact (if_pos ⟨Nat.zero_le _, by omega⟩).symm
      have v2 := Vb_Z zz v1
      have b2 := Bd_Z w.2.2.1 zz wb
      have hr : ¬ nI n2 < 0 := nI_nlt (b := 0) (Nat.zero_le _) (by have := w.2.2.1; omega)
      have hx : Fq (cpB M (M.2 k) 1 n) (cpB (cpB M (M.2 k) 1 n) 1 (218 + 26 * j) n2) := ⟨rfl, fun q hq => cpB_out (by omega) (by have := w.2.2.1; omega)⟩
      have oA := se_o (k := k) (r := nI n2) hn hk1 hk2 hB hr hx
      have z1 := oA 271 (by decide)
      have z0 := oA 270 (by decide)
      have z3 := oA 273 (by decide)
      have z4 := oA 274 (by decide)
      have r1 := r_restore (Y := Y) (M := seM (cpB (cpB M (M.2 k) 1 n) 1 (218 + 26 * j) n2) k (nI n2)) hj (by rw [z4]; exact b) hk1 (by rw [z0]; exact hk3) (by rw [z3]; exact w.2.1)
      rw [z1, z3] at r1
      exact ⟨_, _, _, f1, r1, sim_st h hz hn hk1 hk2 hB hr hx ((rq_rc z1).row) v2 b2⟩
    · exact ⟨_, _, _, f_restore_not hj a, r_restore_not hj b, h⟩
