set_option maxRecDepth 100000 in
set_option maxHeartbeats 4000000 in
theorem r_letter {Y : Yt} {M : Mm} {s o q : Nat → Int32} {l a : Nat} {w : Int32} (h : RpOK M s q l) (ha : a < 1000) : Fn Y yX7_letter wsX7_letter { frames := 0, cells := 0, slots := 0, locals := 0 } [.ref (Y.2.2.2 270)] (pM M o q a w) (some (.int (chB s l a))) ((pM M o q a w)) := by
  refine Fn.of (cc := cX7_letter) (ins := iX7_letter) (maxL := 1) (ret := (some .int)) (by decide) dX7_letter [some (.ref (Y.2.2.2 270))] (Nat.le_of_ble_eq_true rfl) rfl rfl ?_
  intro X hX hQ
  refine v_aload_n hX 0 0 rfl rfl rfl ?_
  refine g_7_13 hX 1  tw_659 rfl ?_
  rw [pM_r, rq_r13]
  refine v_aload_n hX 0 2 rfl rfl rfl ?_
  refine g_7_6 hX 3  tw_652 rfl ?_
  rw [pM_r, rq_n (by decide), h.2.1]
  refine v_icmp_ge hX (tgt := 23) 4 rfl (by decide) (fun c8 => ?_) (fun c8 => ?_)
  · skip
    have q1 : ¬ a < l := by have := of_le c8 (by have := h.2.2; omega) (by omega); omega
    refine v_bipush hX (v := (-6)) 11 rfl (by decide) ?_
    refine v_iret hX hQ rfl rfl ?_ ?_ 12 rfl
    · unfold chB; first | rw [if_pos q1] | rw [if_neg q1]
    · rfl
  · skip
    have q1 : a < l := of_nle c8 (by have := h.2.2; omega) (by omega)
    refine v_aload_n hX 0 5 rfl rfl rfl ?_
    refine g_7_5 hX 6  tw_651 rfl ?_
    refine v_aload_n hX 0 7 rfl rfl rfl ?_
    refine g_7_13 hX 8  tw_659 rfl ?_
    rw [pM_r, rq_r13]
    refine v_cald hX (k := 275) (by decide) rfl (vp_in_nI (by have := h.2.2; omega) (by decide)) 9 rfl ?_
    rw [nI_clamp (by omega), pM_n (by decide), h.1]
    refine v_goto hX (tgt := 25) 10 rfl (by decide) ?_
    refine v_iret hX hQ rfl rfl ?_ ?_ 12 rfl
    · unfold chB; first | rw [if_pos q1] | rw [if_neg q1]
    · rfl
set_option maxRecDepth 100000 in
set_option maxHeartbeats 4000000 in
theorem r_wants {Y : Yt} {M : Mm} {b : Bool} {s o q : Nat → Int32} {l a : Nat} {w : Int32} (h : RpOK M s q l) (ha : a < 1000) : Fn Y yX7_wants wsX7_wants { frames := 0, cells := 0, slots := 0, locals := 0 } [.ref (Y.2.2.2 270), .int (b01 b)] (pM M o q a w) none ((pM M o q (wn a w b).1 (wn a w b).2)) := by
  refine Fn.of (cc := cX7_wants) (ins := iX7_wants) (maxL := 2) (ret := none) (by decide) dX7_wants [some (.ref (Y.2.2.2 270)), some (.int (b01 b))] (Nat.le_of_ble_eq_true rfl) rfl rfl ?_
  intro X hX hQ
  refine v_aload_n hX 0 0 rfl rfl rfl ?_
  refine g_7_14 hX 1  tw_660 rfl ?_
  rw [pM_r, rq_r14]
  refine v_bipush hX (v := (-6)) 2 rfl (by decide) ?_
  refine v_icmp_ne hX (tgt := 36) 3 rfl (by decide) (fun c6 => ?_) (fun c6 => ?_)
  · skip
    refine v_vret hX hQ rfl rfl ?_ 18 rfl
    unfold wn; first | (rw [if_pos c6, if_pos q1]; done) | (rw [if_pos c6, if_neg (by rw [q1]; decide)]; done) | (rw [if_neg c6])
  · skip
    refine v_aload_n hX 0 4 rfl rfl rfl ?_
    refine v_iload_n hX 1 5 rfl rfl rfl ?_
    refine v_if_eq hX (tgt := 19) 6 rfl (by decide) (fun c11 => ?_) (fun c11 => ?_)
    · skip
      have q1 := b01_f c11
      refine v_aload_n hX 0 9 rfl rfl rfl ?_
      refine g_7_13 hX 10  tw_659 rfl ?_
      rw [pM_r, rq_r13]
      refine p_7_14 hX 11   tw_660 rfl ?_
      refine V.mem pM_14 ?_
      refine v_aload_n hX 0 12 rfl rfl rfl ?_
      refine v_dup hX 13 rfl rfl ?_
      refine g_7_13 hX 14  tw_659 rfl ?_
      rw [pM_r, rq_r13]
      refine v_iconst hX (v := 1) 15 rfl (by decide) ?_
      refine v_iadd hX 16 rfl ?_
      rw [nI_1]
      refine p_7_13 hX 17   tw_659 rfl ?_
      refine V.mem pM_13 ?_
      refine v_vret hX hQ rfl rfl ?_ 18 rfl
      unfold wn; first | (rw [if_pos c6, if_pos q1]; done) | (rw [if_pos c6, if_neg (by rw [q1]; decide)]; done) | (rw [if_neg c6])
    · skip
      have q1 := b01_t c11
      refine v_bipush hX (v := (-6)) 7 rfl (by decide) ?_
      refine v_goto hX (tgt := 23) 8 rfl (by decide) ?_
      refine p_7_14 hX 11   tw_660 rfl ?_
      refine V.mem pM_14 ?_
      refine v_aload_n hX 0 12 rfl rfl rfl ?_
      refine v_dup hX 13 rfl rfl ?_
      refine g_7_13 hX 14  tw_659 rfl ?_
      rw [pM_r, rq_r13]
      refine v_iconst hX (v := 1) 15 rfl (by decide) ?_
      refine v_iadd hX 16 rfl ?_
      rw [nI_1]
      refine p_7_13 hX 17   tw_659 rfl ?_
      refine V.mem pM_13 ?_
      refine v_vret hX hQ rfl rfl ?_ 18 rfl
      unfold wn; first | (rw [if_pos c6, if_pos q1]; done) | (rw [if_pos c6, if_neg (by rw [q1]; decide)]; done) | (rw [if_neg c6])
set_option maxRecDepth 100000 in
set_option maxHeartbeats 4000000 in
theorem r_digit {Y : Yt} {M : Mm} {x y : Int32} {s o q : Nat → Int32} {l a : Nat} {w : Int32} (h : RpOK M s q l) (ha : a < 1000) : Fn Y yX7_digit wsX7_digit { frames := 1, cells := 0, slots := 0, locals := 22 } [.ref (Y.2.2.2 270), .int x, .int y] (pM M o q a w) (some (.int (dgv s l a))) ((pM M o q (dgS s l x y (a, w)).1 (dgS s l x y (a, w)).2)) := by
  refine Fn.of (cc := cX7_digit) (ins := iX7_digit) (maxL := 4) (ret := (some .int)) (by decide) dX7_digit [some (.ref (Y.2.2.2 270)), some (.int x), some (.int y), none] (Nat.le_of_ble_eq_true rfl) rfl rfl ?_
  intro X hX hQ
  refine v_aload_n hX 0 0 rfl rfl rfl ?_
  refine v_callV hX 0 (by decide) rfl rfl (r_letter h ha) tw_926 tw_923 tw_925 tw_84 tw_99 (by decide +kernel) ⟨⟨rfl, rfl⟩, Nat.le_of_ble_eq_true rfl, Nat.le_of_ble_eq_true rfl⟩ rfl (Nat.le_of_ble_eq_true rfl) rfl rfl 1 rfl ?_
  refine v_bipush hX (v := 48) 2 rfl (by decide) ?_
  refine v_isub hX 3 rfl ?_
  refine v_istore_n hX 3 4 rfl rfl (Nat.le_of_ble_eq_true rfl) rfl ?_
  refine v_aload_n hX 0 5 rfl rfl rfl ?_
  refine v_iload_n hX 3 6 rfl rfl rfl ?_
  refine v_iload_n hX 1 7 rfl rfl rfl ?_
  refine v_iload_n hX 2 8 rfl rfl rfl ?_
  refine v_callS hX 3 (r_in) tw_703 tw_701 tw_702 tw_99 (by decide +kernel) ⟨⟨rfl, rfl⟩, Nat.le_of_ble_eq_true rfl, Nat.le_of_ble_eq_true rfl⟩ rfl (Nat.le_of_ble_eq_true rfl) rfl rfl 9 rfl ?_
  refine v_callV hX 1 (by decide) rfl rfl (r_wants h ha) tw_930 tw_927 tw_929 tw_85 tw_99 (by decide +kernel) ⟨⟨rfl, rfl⟩, Nat.le_of_ble_eq_true rfl, Nat.le_of_ble_eq_true rfl⟩ rfl (Nat.le_of_ble_eq_true rfl) rfl rfl 10 rfl ?_
  refine v_iload_n hX 3 11 rfl rfl rfl ?_
  refine v_iret hX hQ rfl rfl ?_ ?_ 12 rfl
  · rfl
  · rfl
set_option maxRecDepth 100000 in
set_option maxHeartbeats 4000000 in
theorem r_number {Y : Yt} {M : Mm} {s o q : Nat → Int32} {l a : Nat} {w : Int32} (h : RpOK M s q l) (ha : a < 1000) (ha2 : a < 900) : Fn Y yX7_number wsX7_number { frames := 2, cells := 0, slots := 0, locals := 45 } [.ref (Y.2.2.2 270)] (pM M o q a w) (some (.int (nmV s l (a, w)))) ((pM M o q (nmS s l (a, w)).1 (nmS s l (a, w)).2)) := by
  have hle : (dgS s l 0 9 (a, w)).1 ≤ a + 1 := wn_le.2
  refine Fn.of (cc := cX7_number) (ins := iX7_number) (maxL := 3) (ret := (some .int)) (by decide) dX7_number [some (.ref (Y.2.2.2 270)), none, none] (Nat.le_of_ble_eq_true rfl) rfl rfl ?_
  intro X hX hQ
  refine v_aload_n hX 0 0 rfl rfl rfl ?_
  refine v_iconst hX (v := 0) 1 rfl (by decide) ?_
  refine v_bipush hX (v := 9) 2 rfl (by decide) ?_
  refine v_callV hX 2 (by decide) rfl rfl (r_digit h ha) tw_934 tw_931 tw_933 tw_86 tw_99 (by decide +kernel) ⟨⟨rfl, rfl⟩, Nat.le_of_ble_eq_true rfl, Nat.le_of_ble_eq_true rfl⟩ rfl (Nat.le_of_ble_eq_true rfl) rfl rfl 3 rfl ?_
  refine v_istore_n hX 1 4 rfl rfl (Nat.le_of_ble_eq_true rfl) rfl ?_
  refine v_aload_n hX 0 5 rfl rfl rfl ?_
  refine v_callV hX 0 (by decide) rfl rfl (r_letter h (by omega)) tw_926 tw_923 tw_925 tw_84 tw_99 (by decide +kernel) ⟨⟨rfl, rfl⟩, Nat.le_of_ble_eq_true rfl, Nat.le_of_ble_eq_true rfl⟩ rfl (Nat.le_of_ble_eq_true rfl) rfl rfl 6 rfl ?_
  refine v_bipush hX (v := 48) 7 rfl (by decide) ?_
  refine v_isub hX 8 rfl ?_
  refine v_istore_n hX 2 9 rfl rfl (Nat.le_of_ble_eq_true rfl) rfl ?_
  refine v_aload_n hX 0 10 rfl rfl rfl ?_
  refine g_7_14 hX 11  tw_660 rfl ?_
  rw [pM_r, rq_r14]
  refine v_bipush hX (v := (-6)) 12 rfl (by decide) ?_
  refine v_icmp_ne hX (tgt := 56) 13 rfl (by decide) (fun c22 => ?_) (fun c22 => ?_)
  · skip
    have hb : nmB s l (a, w) = false := by unfold nmB; rw [decide_eq_false c22]; rfl
    refine v_iload_n hX 1 33 rfl rfl rfl ?_
    refine v_iret hX hQ rfl rfl ?_ ?_ 34 rfl
    · unfold nmV; first | (rw [if_pos hb]; done) | (rw [if_pos hb]; rfl) | (rw [if_neg (by rw [hb]; decide)])
    · unfold nmS; first | (rw [if_pos hb]; done) | (rw [if_neg (by rw [hb]; decide)])
  · skip
    have d1 : decide ((dgS s l 0 9 (a, w)).2 = -6) = true := decide_eq_true c22
    refine v_iload_n hX 1 14 rfl rfl rfl ?_
    refine v_if_le hX (tgt := 56) 15 rfl (by decide) (fun c26 => ?_) (fun c26 => ?_)
    · skip
      have hb : nmB s l (a, w) = false := by unfold nmB; rw [decide_eq_true (show dgv s l (a, w).1 ≤ 0 from c26)]; simp
      refine v_iload_n hX 1 33 rfl rfl rfl ?_
      refine v_iret hX hQ rfl rfl ?_ ?_ 34 rfl
      · unfold nmV; first | (rw [if_pos hb]; done) | (rw [if_pos hb]; rfl) | (rw [if_neg (by rw [hb]; decide)])
      · unfold nmS; first | (rw [if_pos hb]; done) | (rw [if_neg (by rw [hb]; decide)])
    · skip
      have d2 : decide (dgv s l (a, w).1 ≤ 0) = false := decide_eq_false c26
      refine v_iload_n hX 2 16 rfl rfl rfl ?_
      refine v_iconst hX (v := 0) 17 rfl (by decide) ?_
      refine v_bipush hX (v := 9) 18 rfl (by decide) ?_
      refine v_callS hX 3 (r_in) tw_703 tw_701 tw_702 tw_99 (by decide +kernel) ⟨⟨rfl, rfl⟩, Nat.le_of_ble_eq_true rfl, Nat.le_of_ble_eq_true rfl⟩ rfl (Nat.le_of_ble_eq_true rfl) rfl rfl 19 rfl ?_
      refine v_if_eq hX (tgt := 56) 20 rfl (by decide) (fun c36 => ?_) (fun c36 => ?_)
      · skip
        have d3 := b01_f c36
        have hb : nmB s l (a, w) = false := by unfold nmB; rw [show inv (dgv s l (dgS s l 0 9 (a, w)).1) 0 9 = false from d3]; simp
        refine v_iload_n hX 1 33 rfl rfl rfl ?_
        refine v_iret hX hQ rfl rfl ?_ ?_ 34 rfl
        · unfold nmV; first | (rw [if_pos hb]; done) | (rw [if_pos hb]; rfl) | (rw [if_neg (by rw [hb]; decide)])
        · unfold nmS; first | (rw [if_pos hb]; done) | (rw [if_neg (by rw [hb]; decide)])
      · skip
        have d3 := b01_t c36
        have hb : nmB s l (a, w) = true := by unfold nmB; rw [d1, d2, show inv (dgv s l (dgS s l 0 9 (a, w)).1) 0 9 = true from d3]; rfl
        refine v_bipush hX (v := 10) 21 rfl (by decide) ?_
        refine v_iload_n hX 1 22 rfl rfl rfl ?_
        refine v_imul hX 23 rfl ?_
        refine v_iload_n hX 2 24 rfl rfl rfl ?_
        refine v_iadd hX 25 rfl ?_
        refine v_istore_n hX 1 26 rfl rfl (Nat.le_of_ble_eq_true rfl) rfl ?_
        refine v_aload_n hX 0 27 rfl rfl rfl ?_
        refine v_dup hX 28 rfl rfl ?_
        refine g_7_13 hX 29  tw_659 rfl ?_
        rw [pM_r, rq_r13]
        refine v_iconst hX (v := 1) 30 rfl (by decide) ?_
        refine v_iadd hX 31 rfl ?_
        rw [nI_1]
        refine p_7_13 hX 32   tw_659 rfl ?_
        refine V.mem pM_13 ?_
        refine v_iload_n hX 1 33 rfl rfl rfl ?_
        refine v_iret hX hQ rfl rfl ?_ ?_ 34 rfl
        · unfold nmV; first | (rw [if_pos hb]; done) | (rw [if_pos hb]; rfl) | (rw [if_neg (by rw [hb]; decide)])
        · unfold nmS; first | (rw [if_pos hb]; done) | (rw [if_neg (by rw [hb]; decide)])
set_option maxRecDepth 100000 in
set_option maxHeartbeats 4000000 in
theorem r_cites {Y : Yt} {M : Mm} {s o q : Nat → Int32} {l a : Nat} {w : Int32} (h : RpOK M s q l) (ha : a < 1000) (ha2 : a < 900) : Fn Y yX7_cites wsX7_cites { frames := 2, cells := 0, slots := 0, locals := 45 } [.ref (Y.2.2.2 270)] (pM M o q a w) (some (.int (ctV s l (a, w)))) ((pM M o q (ctS s l (a, w)).1 (ctS s l (a, w)).2)) := by
  have hle : (ct1 s l (a, w)).1 ≤ a + 2 := wn_le.2
  refine Fn.of (cc := cX7_cites) (ins := iX7_cites) (maxL := 3) (ret := (some .int)) (by decide) dX7_cites [some (.ref (Y.2.2.2 270)), none, none] (Nat.le_of_ble_eq_true rfl) rfl rfl ?_
  intro X hX hQ
  refine v_iconst hX (v := 0) 0 rfl (by decide) ?_
  refine v_istore_n hX 1 1 rfl rfl (Nat.le_of_ble_eq_true rfl) rfl ?_
  refine v_aload_n hX 0 2 rfl rfl rfl ?_
  refine g_7_14 hX 3  tw_660 rfl ?_
  rw [pM_r, rq_r14]
  refine v_bipush hX (v := (-6)) 4 rfl (by decide) ?_
  refine v_icmp_ne hX (tgt := 105) 5 rfl (by decide) (fun c8 => ?_) (fun c8 => ?_)
  · skip
    have hb : ctB s l (a, w) = false := by unfold ctB; rw [decide_eq_false c8]; rfl
    refine v_iload_n hX 1 59 rfl rfl rfl ?_
    refine v_iret hX hQ rfl rfl ?_ ?_ 60 rfl
    · unfold ctV; first | (rw [if_pos hb, e1]; done) | (rw [if_neg (by rw [hb]; decide)])
    · unfold ctS; first | (rw [if_pos hb, e1]; done) | (rw [if_neg (by rw [hb]; decide)])
  · skip
    have d1 : decide (w = -6) = true := decide_eq_true c8
    refine v_aload_n hX 0 6 rfl rfl rfl ?_
    refine v_callV hX 0 (by decide) rfl rfl (r_letter h ha) tw_926 tw_923 tw_925 tw_84 tw_99 (by decide +kernel) ⟨⟨rfl, rfl⟩, Nat.le_of_ble_eq_true rfl, Nat.le_of_ble_eq_true rfl⟩ rfl (Nat.le_of_ble_eq_true rfl) rfl rfl 7 rfl ?_
    refine v_bipush hX (v := 43) 8 rfl (by decide) ?_
    refine v_icmp_ne hX (tgt := 105) 9 rfl (by decide) (fun c17 => ?_) (fun c17 => ?_)
    · skip
      have hb : ctB s l (a, w) = false := by unfold ctB; rw [decide_eq_false (show ¬ chB s l (a, w).1 = 43 from c17)]; simp
      refine v_iload_n hX 1 59 rfl rfl rfl ?_
      refine v_iret hX hQ rfl rfl ?_ ?_ 60 rfl
      · unfold ctV; first | (rw [if_pos hb, e1]; done) | (rw [if_neg (by rw [hb]; decide)])
      · unfold ctS; first | (rw [if_pos hb, e1]; done) | (rw [if_neg (by rw [hb]; decide)])
    · skip
      have hb : ctB s l (a, w) = true := by unfold ctB; rw [d1, decide_eq_true (show chB s l (a, w).1 = 43 from c17)]; rfl
      refine v_aload_n hX 0 10 rfl rfl rfl ?_
      refine v_dup hX 11 rfl rfl ?_
      refine g_7_13 hX 12  tw_659 rfl ?_
      rw [pM_r, rq_r13]
      refine v_iconst hX (v := 1) 13 rfl (by decide) ?_
      refine v_iadd hX 14 rfl ?_
      rw [nI_1]
      refine p_7_13 hX 15   tw_659 rfl ?_
      refine V.mem pM_13 ?_
      refine v_aload_n hX 0 16 rfl rfl rfl ?_
      refine v_iconst hX (v := 0) 17 rfl (by decide) ?_
      refine v_bipush hX (v := 9) 18 rfl (by decide) ?_
      refine v_callV hX 2 (by decide) rfl rfl (r_digit h (by omega)) tw_934 tw_931 tw_933 tw_86 tw_99 (by decide +kernel) ⟨⟨rfl, rfl⟩, Nat.le_of_ble_eq_true rfl, Nat.le_of_ble_eq_true rfl⟩ rfl (Nat.le_of_ble_eq_true rfl) rfl rfl 19 rfl ?_
      refine v_istore_n hX 2 20 rfl rfl (Nat.le_of_ble_eq_true rfl) rfl ?_
      refine v_aload_n hX 0 21 rfl rfl rfl ?_
      refine g_7_14 hX 22  tw_660 rfl ?_
      rw [pM_r, rq_r14]
      refine v_bipush hX (v := (-6)) 23 rfl (by decide) ?_
      refine v_icmp_ne hX (tgt := 53) 24 rfl (by decide) (fun c44 => ?_) (fun c44 => ?_)
      · skip
        have e0 : ctF s l 81 (ct1 s l (a, w)).1 (ct1 s l (a, w)).2 0 = ctE s l (a, w) := by unfold ctE ctX; rw [if_neg (show ¬ (ct1 s l (a, w)).2 = -6 from c44)]
        refine v_iconst hX (v := 0) 29 rfl (by decide) ?_
        refine v_istore_n hX 1 30 rfl rfl (Nat.le_of_ble_eq_true rfl) rfl ?_
        have lp : ∀ (k : Nat), k ≤ 81 → ∀ (p : Nat) (x : Int32), p < 1000 → k ≤ p + (if p ≤ l then 0 else 1000) → ctF s l (81 - k) p (ct1 s l (a, w)).2 x = ctE s l (a, w) → V Y X (pM M o q p (ct1 s l (a, w)).2) 55 [some (.ref (Y.2.2.2 270)), some (.int x), none] [] := by
          refine upTo 81 (fun k hk ih => ?_)
          intro p x hp hkp he
          refine v_aload_n hX 0 31 rfl rfl rfl ?_
          refine g_7_14 hX 32  tw_660 rfl ?_
          rw [pM_r, rq_r14]
          refine v_bipush hX (v := (-6)) 33 rfl (by decide) ?_
          refine v_icmp_ne hX (tgt := 105) 34 rfl (by decide) (fun c61 => ?_) (fun c61 => ?_)
          · skip
            have e1 : ctE s l (a, w) = (p, x) := by rw [← he]; exact ctF_n c61
            refine v_iload_n hX 1 59 rfl rfl rfl ?_
            refine v_iret hX hQ rfl rfl ?_ ?_ 60 rfl
            · unfold ctV; first | (rw [if_pos hb, e1]; done) | (rw [if_neg (by rw [hb]; decide)])
            · unfold ctS; first | (rw [if_pos hb, e1]; done) | (rw [if_neg (by rw [hb]; decide)])
          · skip
            have w6 : (ct1 s l (a, w)).2 = -6 := c61
            rw [w6] at he
            refine v_aload_n hX 0 35 rfl rfl rfl ?_
            refine v_callV hX 0 (by decide) rfl rfl (r_letter h hp) tw_926 tw_923 tw_925 tw_84 tw_99 (by decide +kernel) ⟨⟨rfl, rfl⟩, Nat.le_of_ble_eq_true rfl, Nat.le_of_ble_eq_true rfl⟩ rfl (Nat.le_of_ble_eq_true rfl) rfl rfl 36 rfl ?_
            refine v_bipush hX (v := 48) 37 rfl (by decide) ?_
            refine v_isub hX 38 rfl ?_
            refine v_iconst hX (v := 0) 39 rfl (by decide) ?_
            refine v_bipush hX (v := 9) 40 rfl (by decide) ?_
            refine v_callS hX 3 (r_in) tw_703 tw_701 tw_702 tw_99 (by decide +kernel) ⟨⟨rfl, rfl⟩, Nat.le_of_ble_eq_true rfl, Nat.le_of_ble_eq_true rfl⟩ rfl (Nat.le_of_ble_eq_true rfl) rfl rfl 41 rfl ?_
            refine v_if_eq hX (tgt := 105) 42 rfl (by decide) (fun c77 => ?_) (fun c77 => ?_)
            · skip
              have e1 : ctE s l (a, w) = (p, x) := by rw [← he]; exact ctF_0 (b01_f c77)
              refine v_iload_n hX 1 59 rfl rfl rfl ?_
              refine v_iret hX hQ rfl rfl ?_ ?_ 60 rfl
              · unfold ctV; first | (rw [if_pos hb, e1]; done) | (rw [if_neg (by rw [hb]; decide)])
              · unfold ctS; first | (rw [if_pos hb, e1]; done) | (rw [if_neg (by rw [hb]; decide)])
            · skip
              have hg := b01_t c77
              have hpl : p < l := by
                rcases Nat.lt_or_ge p l with y | y
                · exact y
                · rw [show inv (chB s l p - 48) 0 9 = inv (dgv s l p) 0 9 from rfl, chB_big y] at hg; exact absurd hg (by decide)
              have hk8 : k < 81 := by have := h.2.2; rw [if_pos (Nat.le_of_lt hpl)] at hkp; omega
              refine v_iload_n hX 1 43 rfl rfl rfl ?_
              refine v_iconst hX (v := 1) 44 rfl (by decide) ?_
              refine v_aload_n hX 0 45 rfl rfl rfl ?_
              refine v_callV hX 0 (by decide) rfl rfl (r_letter h hp) tw_926 tw_923 tw_925 tw_84 tw_99 (by decide +kernel) ⟨⟨rfl, rfl⟩, Nat.le_of_ble_eq_true rfl, Nat.le_of_ble_eq_true rfl⟩ rfl (Nat.le_of_ble_eq_true rfl) rfl rfl 46 rfl ?_
              refine v_bipush hX (v := 48) 47 rfl (by decide) ?_
              refine v_isub hX 48 rfl ?_
              refine v_ishl hX 49 rfl ?_
              refine v_ior hX 50 rfl ?_
              refine v_istore_n hX 1 51 rfl rfl (Nat.le_of_ble_eq_true rfl) rfl ?_
              refine v_aload_n hX 0 52 rfl rfl rfl ?_
              refine v_dup hX 53 rfl rfl ?_
              refine g_7_13 hX 54  tw_659 rfl ?_
              rw [pM_r, rq_r13]
              refine v_iconst hX (v := 1) 55 rfl (by decide) ?_
              refine v_iadd hX 56 rfl ?_
              rw [nI_1]
              refine p_7_13 hX 57   tw_659 rfl ?_
              refine V.mem pM_13 ?_
              refine v_goto hX (tgt := 55) 58 rfl (by decide) ?_
              have hf : 81 - k = (81 - (k + 1)) + 1 := by omega
              rw [hf, ctF_s hg] at he
              exact V.sub (ih hk8 (p + 1) _ (by have := h.2.2; omega) (by rw [if_pos (show p + 1 ≤ l by omega)]; rw [if_pos (Nat.le_of_lt hpl)] at hkp; omega) (by rw [w6]; exact he)) rfl ⟨rfl, rfl, trivial⟩
        exact V.sub (lp 0 (Nat.zero_le _) _ _ (Nat.lt_of_le_of_lt hle (by omega)) (Nat.zero_le _) e0) rfl ⟨rfl, rfl, trivial⟩
      · skip
        have e0 : ctF s l 81 (ct1 s l (a, w)).1 (ct1 s l (a, w)).2 ((1 : Int32) <<< (dgv s l (a + 1) &&& 31)) = ctE s l (a, w) := by unfold ctE ctX; rw [if_pos (show (ct1 s l (a, w)).2 = -6 from c44)]
        refine v_iconst hX (v := 1) 25 rfl (by decide) ?_
        refine v_iload_n hX 2 26 rfl rfl rfl ?_
        refine v_ishl hX 27 rfl ?_
        refine v_goto hX (tgt := 54) 28 rfl (by decide) ?_
        refine v_istore_n hX 1 30 rfl rfl (Nat.le_of_ble_eq_true rfl) rfl ?_
        have lp : ∀ (k : Nat), k ≤ 81 → ∀ (p : Nat) (x : Int32), p < 1000 → k ≤ p + (if p ≤ l then 0 else 1000) → ctF s l (81 - k) p (ct1 s l (a, w)).2 x = ctE s l (a, w) → V Y X (pM M o q p (ct1 s l (a, w)).2) 55 [some (.ref (Y.2.2.2 270)), some (.int x), none] [] := by
          refine upTo 81 (fun k hk ih => ?_)
          intro p x hp hkp he
          refine v_aload_n hX 0 31 rfl rfl rfl ?_
          refine g_7_14 hX 32  tw_660 rfl ?_
          rw [pM_r, rq_r14]
          refine v_bipush hX (v := (-6)) 33 rfl (by decide) ?_
          refine v_icmp_ne hX (tgt := 105) 34 rfl (by decide) (fun c61 => ?_) (fun c61 => ?_)
          · skip
            have e1 : ctE s l (a, w) = (p, x) := by rw [← he]; exact ctF_n c61
            refine v_iload_n hX 1 59 rfl rfl rfl ?_
            refine v_iret hX hQ rfl rfl ?_ ?_ 60 rfl
            · unfold ctV; first | (rw [if_pos hb, e1]; done) | (rw [if_neg (by rw [hb]; decide)])
            · unfold ctS; first | (rw [if_pos hb, e1]; done) | (rw [if_neg (by rw [hb]; decide)])
          · skip
            have w6 : (ct1 s l (a, w)).2 = -6 := c61
            rw [w6] at he
            refine v_aload_n hX 0 35 rfl rfl rfl ?_
            refine v_callV hX 0 (by decide) rfl rfl (r_letter h hp) tw_926 tw_923 tw_925 tw_84 tw_99 (by decide +kernel) ⟨⟨rfl, rfl⟩, Nat.le_of_ble_eq_true rfl, Nat.le_of_ble_eq_true rfl⟩ rfl (Nat.le_of_ble_eq_true rfl) rfl rfl 36 rfl ?_
            refine v_bipush hX (v := 48) 37 rfl (by decide) ?_
            refine v_isub hX 38 rfl ?_
            refine v_iconst hX (v := 0) 39 rfl (by decide) ?_
            refine v_bipush hX (v := 9) 40 rfl (by decide) ?_
            refine v_callS hX 3 (r_in) tw_703 tw_701 tw_702 tw_99 (by decide +kernel) ⟨⟨rfl, rfl⟩, Nat.le_of_ble_eq_true rfl, Nat.le_of_ble_eq_true rfl⟩ rfl (Nat.le_of_ble_eq_true rfl) rfl rfl 41 rfl ?_
            refine v_if_eq hX (tgt := 105) 42 rfl (by decide) (fun c77 => ?_) (fun c77 => ?_)
            · skip
              have e1 : ctE s l (a, w) = (p, x) := by rw [← he]; exact ctF_0 (b01_f c77)
              refine v_iload_n hX 1 59 rfl rfl rfl ?_
              refine v_iret hX hQ rfl rfl ?_ ?_ 60 rfl
              · unfold ctV; first | (rw [if_pos hb, e1]; done) | (rw [if_neg (by rw [hb]; decide)])
              · unfold ctS; first | (rw [if_pos hb, e1]; done) | (rw [if_neg (by rw [hb]; decide)])
            · skip
              have hg := b01_t c77
              have hpl : p < l := by
                rcases Nat.lt_or_ge p l with y | y
                · exact y
                · rw [show inv (chB s l p - 48) 0 9 = inv (dgv s l p) 0 9 from rfl, chB_big y] at hg; exact absurd hg (by decide)
              have hk8 : k < 81 := by have := h.2.2; rw [if_pos (Nat.le_of_lt hpl)] at hkp; omega
              refine v_iload_n hX 1 43 rfl rfl rfl ?_
              refine v_iconst hX (v := 1) 44 rfl (by decide) ?_
              refine v_aload_n hX 0 45 rfl rfl rfl ?_
              refine v_callV hX 0 (by decide) rfl rfl (r_letter h hp) tw_926 tw_923 tw_925 tw_84 tw_99 (by decide +kernel) ⟨⟨rfl, rfl⟩, Nat.le_of_ble_eq_true rfl, Nat.le_of_ble_eq_true rfl⟩ rfl (Nat.le_of_ble_eq_true rfl) rfl rfl 46 rfl ?_
              refine v_bipush hX (v := 48) 47 rfl (by decide) ?_
              refine v_isub hX 48 rfl ?_
              refine v_ishl hX 49 rfl ?_
              refine v_ior hX 50 rfl ?_
              refine v_istore_n hX 1 51 rfl rfl (Nat.le_of_ble_eq_true rfl) rfl ?_
              refine v_aload_n hX 0 52 rfl rfl rfl ?_
              refine v_dup hX 53 rfl rfl ?_
              refine g_7_13 hX 54  tw_659 rfl ?_
              rw [pM_r, rq_r13]
              refine v_iconst hX (v := 1) 55 rfl (by decide) ?_
              refine v_iadd hX 56 rfl ?_
              rw [nI_1]
              refine p_7_13 hX 57   tw_659 rfl ?_
              refine V.mem pM_13 ?_
              refine v_goto hX (tgt := 55) 58 rfl (by decide) ?_
              have hf : 81 - k = (81 - (k + 1)) + 1 := by omega
              rw [hf, ctF_s hg] at he
              exact V.sub (ih hk8 (p + 1) _ (by have := h.2.2; omega) (by rw [if_pos (show p + 1 ≤ l by omega)]; rw [if_pos (Nat.le_of_lt hpl)] at hkp; omega) (by rw [w6]; exact he)) rfl ⟨rfl, rfl, trivial⟩
        exact V.sub (lp 0 (Nat.zero_le _) _ _ (Nat.lt_of_le_of_lt hle (by omega)) (Nat.zero_le _) e0) rfl ⟨rfl, rfl, trivial⟩
