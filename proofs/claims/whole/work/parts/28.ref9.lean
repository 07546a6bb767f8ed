set_option maxRecDepth 100000 in
set_option maxHeartbeats 4000000 in
theorem r_whY {Y : Yt} {M : Mm} {c x p q : Int32} {n : Nat} (hz : M.1 271 3 = nI n) (hn : n ≤ 24) : Fn Y yX7_whyNot wsX7_whyNot { frames := 3, cells := 0, slots := 0, locals := 66 } [.ref (Y.2.2.2 270), .int c, .int x, .int p, .int q] M (some (.int (whY (M.1 271) n c x p q))) M := by
  refine Fn.of (cc := cX7_whyNot) (ins := iX7_whyNot) (maxL := 5) (ret := (some .int)) (by decide) dX7_whyNot [some (.ref (Y.2.2.2 270)), some (.int c), some (.int x), some (.int p), some (.int q)] (Nat.le_of_ble_eq_true rfl) rfl rfl ?_
  intro X hX hQ
  refine v_iload_n hX 1 0 rfl rfl rfl ?_
  rcases ord7 c with hc | hc | hc | hc | hc | hc | hc
  · skip
    have hR : whY (M.1 271) n c x p q = wnC n x p q := by unfold whY; rw [if_pos hc]
    refine v_lookup hX (off := 51) (tgt := 52) 1 rfl (by decide) (by rw [hc]; decide) (by decide) ?_
    refine v_aload_n hX 0 2 rfl rfl rfl ?_
    refine v_iload_n hX 2 3 rfl rfl rfl ?_
    refine v_iload_n hX 3 4 rfl rfl rfl ?_
    refine v_iload hX 5 rfl rfl ?_
    refine v_callV hX 3 (by decide) rfl rfl (r_wnC hz hn) tw_726 tw_723 tw_725 tw_54 tw_99 (by decide +kernel) ⟨⟨rfl, rfl⟩, Nat.le_of_ble_eq_true rfl, Nat.le_of_ble_eq_true rfl⟩ rfl (Nat.le_of_ble_eq_true rfl) rfl rfl 6 rfl ?_
    refine v_iret hX hQ rfl rfl ?_ ?_ 7 rfl
    · rw [hR]
    · rfl
  · skip
    have hR : whY (M.1 271) n c x p q = inX n x (wnA (M.1 271) n x.toNatClampNeg p q) := by unfold whY; rw [if_neg (by rw [hc]; decide), if_pos hc]
    refine v_lookup hX (off := 60) (tgt := 61) 1 rfl (by decide) (by rw [hc]; decide) (by decide) ?_
    refine v_aload_n hX 0 8 rfl rfl rfl ?_
    refine v_iload_n hX 2 9 rfl rfl rfl ?_
    refine v_iload_n hX 3 10 rfl rfl rfl ?_
    refine v_iload hX 11 rfl rfl ?_
    rcases pk_ix x (show n < 2 ^ 31 by omega) with g | g | ⟨j, hj, ej⟩
    · skip
      refine v_callV hX 3 (by decide) rfl rfl (r_wnA_no hz (Or.inl g)) tw_745 tw_742 tw_744 tw_57 tw_99 (by decide +kernel) ⟨⟨rfl, rfl⟩, Nat.le_of_ble_eq_true rfl, Nat.le_of_ble_eq_true rfl⟩ rfl (Nat.le_of_ble_eq_true rfl) rfl rfl 12 rfl ?_
      refine v_iret hX hQ rfl rfl ?_ ?_ 13 rfl
      · rw [hR]; rw [inX_n (Or.inl g)]
      · rfl
    · skip
      refine v_callV hX 3 (by decide) rfl rfl (r_wnA_no hz (Or.inr g)) tw_745 tw_742 tw_744 tw_57 tw_99 (by decide +kernel) ⟨⟨rfl, rfl⟩, Nat.le_of_ble_eq_true rfl, Nat.le_of_ble_eq_true rfl⟩ rfl (Nat.le_of_ble_eq_true rfl) rfl rfl 12 rfl ?_
      refine v_iret hX hQ rfl rfl ?_ ?_ 13 rfl
      · rw [hR]; rw [inX_n (Or.inr g)]
      · rfl
    · skip
      subst ej
      refine v_callV hX 3 (by decide) rfl rfl (r_wnA hz hn hj) tw_745 tw_742 tw_744 tw_57 tw_99 (by decide +kernel) ⟨⟨rfl, rfl⟩, Nat.le_of_ble_eq_true rfl, Nat.le_of_ble_eq_true rfl⟩ rfl (Nat.le_of_ble_eq_true rfl) rfl rfl 12 rfl ?_
      refine v_iret hX hQ rfl rfl ?_ ?_ 13 rfl
      · rw [hR]; unfold inX; rw [if_pos (ix_in hj hn), nI_clamp (by omega)]
      · rfl
  · skip
    have hR : whY (M.1 271) n c x p q = inX n x (wnW (M.1 271) x.toNatClampNeg) := by unfold whY; rw [if_neg (by rw [hc]; decide), if_neg (by rw [hc]; decide), if_pos hc]
    refine v_lookup hX (off := 69) (tgt := 70) 1 rfl (by decide) (by rw [hc]; decide) (by decide) ?_
    refine v_aload_n hX 0 14 rfl rfl rfl ?_
    refine v_iload_n hX 2 15 rfl rfl rfl ?_
    rcases pk_ix x (show n < 2 ^ 31 by omega) with g | g | ⟨j, hj, ej⟩
    · skip
      refine v_callV hX 1 (by decide) rfl rfl (r_wnW_no hz (Or.inl g)) tw_765 tw_762 tw_764 tw_61 tw_99 (by decide +kernel) ⟨⟨rfl, rfl⟩, Nat.le_of_ble_eq_true rfl, Nat.le_of_ble_eq_true rfl⟩ rfl (Nat.le_of_ble_eq_true rfl) rfl rfl 16 rfl ?_
      refine v_iret hX hQ rfl rfl ?_ ?_ 17 rfl
      · rw [hR]; rw [inX_n (Or.inl g)]
      · rfl
    · skip
      refine v_callV hX 1 (by decide) rfl rfl (r_wnW_no hz (Or.inr g)) tw_765 tw_762 tw_764 tw_61 tw_99 (by decide +kernel) ⟨⟨rfl, rfl⟩, Nat.le_of_ble_eq_true rfl, Nat.le_of_ble_eq_true rfl⟩ rfl (Nat.le_of_ble_eq_true rfl) rfl rfl 16 rfl ?_
      refine v_iret hX hQ rfl rfl ?_ ?_ 17 rfl
      · rw [hR]; rw [inX_n (Or.inr g)]
      · rfl
    · skip
      subst ej
      refine v_callV hX 1 (by decide) rfl rfl (r_wnW hz hn hj) tw_765 tw_762 tw_764 tw_61 tw_99 (by decide +kernel) ⟨⟨rfl, rfl⟩, Nat.le_of_ble_eq_true rfl, Nat.le_of_ble_eq_true rfl⟩ rfl (Nat.le_of_ble_eq_true rfl) rfl rfl 16 rfl ?_
      refine v_iret hX hQ rfl rfl ?_ ?_ 17 rfl
      · rw [hR]; unfold inX; rw [if_pos (ix_in hj hn), nI_clamp (by omega)]
      · rfl
  · skip
    have hR : whY (M.1 271) n c x p q = inX n x (wnR (M.1 271) x.toNatClampNeg) := by unfold whY; rw [if_neg (by rw [hc]; decide), if_neg (by rw [hc]; decide), if_neg (by rw [hc]; decide), if_pos hc]
    refine v_lookup hX (off := 75) (tgt := 76) 1 rfl (by decide) (by rw [hc]; decide) (by decide) ?_
    refine v_aload_n hX 0 18 rfl rfl rfl ?_
    refine v_iload_n hX 2 19 rfl rfl rfl ?_
    rcases pk_ix x (show n < 2 ^ 31 by omega) with g | g | ⟨j, hj, ej⟩
    · skip
      refine v_callV hX 1 (by decide) rfl rfl (r_wnR_no hz (Or.inl g)) tw_804 tw_801 tw_803 tw_69 tw_99 (by decide +kernel) ⟨⟨rfl, rfl⟩, Nat.le_of_ble_eq_true rfl, Nat.le_of_ble_eq_true rfl⟩ rfl (Nat.le_of_ble_eq_true rfl) rfl rfl 20 rfl ?_
      refine v_iret hX hQ rfl rfl ?_ ?_ 21 rfl
      · rw [hR]; rw [inX_n (Or.inl g)]
      · rfl
    · skip
      refine v_callV hX 1 (by decide) rfl rfl (r_wnR_no hz (Or.inr g)) tw_804 tw_801 tw_803 tw_69 tw_99 (by decide +kernel) ⟨⟨rfl, rfl⟩, Nat.le_of_ble_eq_true rfl, Nat.le_of_ble_eq_true rfl⟩ rfl (Nat.le_of_ble_eq_true rfl) rfl rfl 20 rfl ?_
      refine v_iret hX hQ rfl rfl ?_ ?_ 21 rfl
      · rw [hR]; rw [inX_n (Or.inr g)]
      · rfl
    · skip
      subst ej
      refine v_callV hX 1 (by decide) rfl rfl (r_wnR hz hn hj) tw_804 tw_801 tw_803 tw_69 tw_99 (by decide +kernel) ⟨⟨rfl, rfl⟩, Nat.le_of_ble_eq_true rfl, Nat.le_of_ble_eq_true rfl⟩ rfl (Nat.le_of_ble_eq_true rfl) rfl rfl 20 rfl ?_
      refine v_iret hX hQ rfl rfl ?_ ?_ 21 rfl
      · rw [hR]; unfold inX; rw [if_pos (ix_in hj hn), nI_clamp (by omega)]
      · rfl
  · skip
    have hR : whY (M.1 271) n c x p q = wnP (M.1 271) x := by unfold whY; rw [if_neg (by rw [hc]; decide), if_neg (by rw [hc]; decide), if_neg (by rw [hc]; decide), if_neg (by rw [hc]; decide), if_pos hc]
    refine v_lookup hX (off := 81) (tgt := 82) 1 rfl (by decide) (by rw [hc]; decide) (by decide) ?_
    refine v_aload_n hX 0 22 rfl rfl rfl ?_
    refine v_iload_n hX 2 23 rfl rfl rfl ?_
    refine v_callV hX 1 (by decide) rfl rfl (r_wnP) tw_820 tw_817 tw_819 tw_71 tw_99 (by decide +kernel) ⟨⟨rfl, rfl⟩, Nat.le_of_ble_eq_true rfl, Nat.le_of_ble_eq_true rfl⟩ rfl (Nat.le_of_ble_eq_true rfl) rfl rfl 24 rfl ?_
    refine v_iret hX hQ rfl rfl ?_ ?_ 25 rfl
    · rw [hR]
    · rfl
  · skip
    have hR : whY (M.1 271) n c x p q = 0 := by unfold whY; rw [if_neg (by rw [hc]; decide), if_neg (by rw [hc]; decide), if_neg (by rw [hc]; decide), if_neg (by rw [hc]; decide), if_neg (by rw [hc]; decide)]
    refine v_lookup hX (off := 87) (tgt := 88) 1 rfl (by decide) (by rw [hc]; decide) (by decide) ?_
    refine v_iconst hX (v := 0) 26 rfl (by decide) ?_
    refine v_iret hX hQ rfl rfl ?_ ?_ 27 rfl
    · rw [hR]
    · rfl
  · skip
    have hR : whY (M.1 271) n c x p q = 0 := by unfold whY; rw [if_neg hc.1, if_neg hc.2.1, if_neg hc.2.2.1, if_neg hc.2.2.2.1, if_neg hc.2.2.2.2.1]
    refine v_lookup hX (off := 87) (tgt := 88) 1 rfl (by decide) ((lv_osw hc.2.1 rfl).trans ((lv_osw hc.1 rfl).trans ((lv_osw hc.2.2.2.1 rfl).trans ((lv_osw hc.2.2.2.2.1 rfl).trans ((lv_osw hc.2.2.1 rfl).trans rfl))))) (by decide) ?_
    refine v_iconst hX (v := 0) 26 rfl (by decide) ?_
    refine v_iret hX hQ rfl rfl ?_ ?_ 27 rfl
    · rw [hR]
    · rfl
set_option maxRecDepth 100000 in
set_option maxHeartbeats 4000000 in
theorem r_does {Y : Yt} {M : Mm} {k : Nat} {n : Nat} (hz : M.1 271 3 = nI n) (hn : n ≤ 24) (hk : k < 28) : Fn Y yX7_does wsX7_does { frames := 4, cells := 0, slots := 0, locals := 90 } [.ref (Y.2.2.2 270), .int (nI k)] M (some (.int (b01 (doB M n k)))) ((if doB M n k = true then doM M n k else M)) := by
  refine Fn.of (cc := cX7_does) (ins := iX7_does) (maxL := 5) (ret := (some .boolean)) (by decide) dX7_does [some (.ref (Y.2.2.2 270)), some (.int (nI k)), none, none, none] (Nat.le_of_ble_eq_true rfl) rfl rfl ?_
  intro X hX hQ
  refine v_aload_n hX 0 0 rfl rfl rfl ?_
  refine g_7_11 hX 1  tw_657 rfl ?_
  refine v_iconst hX (v := 4) 2 rfl (by decide) ?_
  refine v_iload_n hX 1 3 rfl rfl rfl ?_
  refine v_imul hX 4 rfl ?_
  rw [x4n]
  refine v_iconst hX (v := 1) 5 rfl (by decide) ?_
  refine v_iadd hX 6 rfl ?_
  rw [nI_1]
  refine v_iald hX (k := 280) (by decide) rfl (vp_in_nI (by omega) (by decide)) 7 rfl ?_
  rw [nI_clamp (by omega)]
  refine v_istore_n hX 2 8 rfl rfl (Nat.le_of_ble_eq_true rfl) rfl ?_
  refine v_aload_n hX 0 9 rfl rfl rfl ?_
  refine g_7_11 hX 10  tw_657 rfl ?_
  refine v_iconst hX (v := 4) 11 rfl (by decide) ?_
  refine v_iload_n hX 1 12 rfl rfl rfl ?_
  refine v_imul hX 13 rfl ?_
  rw [x4n]
  refine v_iconst hX (v := 2) 14 rfl (by decide) ?_
  refine v_iadd hX 15 rfl ?_
  rw [x4p (x := 2) 2 rfl]
  refine v_iald hX (k := 280) (by decide) rfl (vp_in_nI (by omega) (by decide)) 16 rfl ?_
  rw [nI_clamp (by omega)]
  refine v_istore_n hX 3 17 rfl rfl (Nat.le_of_ble_eq_true rfl) rfl ?_
  refine v_aload_n hX 0 18 rfl rfl rfl ?_
  refine g_7_11 hX 19  tw_657 rfl ?_
  refine v_iconst hX (v := 4) 20 rfl (by decide) ?_
  refine v_iload_n hX 1 21 rfl rfl rfl ?_
  refine v_imul hX 22 rfl ?_
  rw [x4n]
  refine v_iconst hX (v := 3) 23 rfl (by decide) ?_
  refine v_iadd hX 24 rfl ?_
  rw [x4p (x := 3) 3 rfl]
  refine v_iald hX (k := 280) (by decide) rfl (vp_in_nI (by omega) (by decide)) 25 rfl ?_
  rw [nI_clamp (by omega)]
  refine v_istore hX 26 rfl (Nat.le_of_ble_eq_true rfl) rfl ?_
  refine v_aload_n hX 0 27 rfl rfl rfl ?_
  refine v_aload_n hX 0 28 rfl rfl rfl ?_
  refine g_7_11 hX 29  tw_657 rfl ?_
  refine v_iconst hX (v := 4) 30 rfl (by decide) ?_
  refine v_iload_n hX 1 31 rfl rfl rfl ?_
  refine v_imul hX 32 rfl ?_
  rw [x4n]
  refine v_iald hX (k := 280) (by decide) rfl (vp_in_nI (by omega) (by decide)) 33 rfl ?_
  rw [nI_clamp (by omega)]
  refine v_iload_n hX 2 34 rfl rfl rfl ?_
  refine v_iload_n hX 3 35 rfl rfl rfl ?_
  refine v_iload hX 36 rfl rfl ?_
  refine v_callV hX 4 (by decide) rfl rfl (r_whY hz hn) tw_954 tw_951 tw_953 tw_90 tw_99 (by decide +kernel) ⟨⟨rfl, rfl⟩, Nat.le_of_ble_eq_true rfl, Nat.le_of_ble_eq_true rfl⟩ rfl (Nat.le_of_ble_eq_true rfl) rfl rfl 37 rfl ?_
  refine v_if_ge hX (tgt := 55) 38 rfl (by decide) (fun c50 => ?_) (fun c50 => ?_)
  · skip
    have hB : doB M n k = true := decide_eq_true (show 0 ≤ doW M n k from c50)
    refine v_aload_n hX 0 41 rfl rfl rfl ?_
    refine g_7_11 hX 42  tw_657 rfl ?_
    refine v_iconst hX (v := 4) 43 rfl (by decide) ?_
    refine v_iload_n hX 1 44 rfl rfl rfl ?_
    refine v_imul hX 45 rfl ?_
    rw [x4n]
    refine v_iald hX (k := 280) (by decide) rfl (vp_in_nI (by omega) (by decide)) 46 rfl ?_
    rw [nI_clamp (by omega)]
    have j191 : V Y X (doM M n k) 191 [some (.ref (Y.2.2.2 270)), some (.int (nI k)), none, none, none] [] := by
      skip
      refine v_iconst hX (v := 1) 97 rfl (by decide) ?_
      refine v_iret hX hQ rfl rfl ?_ ?_ 98 rfl
      · rw [hB]; rfl
      · rw [if_pos hB]
    rcases ord7 (M.1 280 (4 * k)) with hc | hc | hc | hc | hc | hc | hc
    · skip
      have hM : doM M n k = flM M n (M.1 280 (4 * k + 1)) (-6) (M.1 280 (4 * k + 2)) (M.1 280 (4 * k + 3)) := by unfold doM; rw [if_pos hc]
      have h24 := wY_99 hc c50
      refine v_lookup hX (off := 49) (tgt := 112) 47 rfl (by decide) (by rw [hc]; decide) (by decide) ?_
      refine v_aload_n hX 0 48 rfl rfl rfl ?_
      refine v_iload_n hX 2 49 rfl rfl rfl ?_
      refine v_bipush hX (v := (-6)) 50 rfl (by decide) ?_
      refine v_iload_n hX 3 51 rfl rfl rfl ?_
      refine v_iload hX 52 rfl rfl ?_
      refine v_callV hX 4 (by decide) rfl rfl (r_file hz (show n < 24 by omega)) tw_733 tw_730 tw_732 tw_55 tw_99 (by decide +kernel) ⟨⟨rfl, rfl⟩, Nat.le_of_ble_eq_true rfl, Nat.le_of_ble_eq_true rfl⟩ rfl (Nat.le_of_ble_eq_true rfl) rfl rfl 53 rfl ?_
      refine v_pop hX 54 rfl rfl ?_
      refine v_goto hX (tgt := 191) 55 rfl (by decide) ?_
      refine V.subM (j191) ?_ rfl ⟨rfl, rfl, trivial⟩
      rw [hM]
    · skip
      have hM : doM M n k = flM M n (1 - M.1 271 (5 + 7 * (M.1 280 (4 * k + 1)).toNatClampNeg + 0)) (M.1 280 (4 * k + 1)) (M.1 280 (4 * k + 2)) (M.1 280 (4 * k + 3)) := by unfold doM; rw [if_neg (by rw [hc]; decide), if_pos hc]
      obtain ⟨h24, j, hj, ej, cj⟩ := wY_97 hn hc c50
      rw [cj] at hM
      refine v_lookup hX (off := 63) (tgt := 126) 47 rfl (by decide) (by rw [hc]; decide) (by decide) ?_
      refine v_aload_n hX 0 56 rfl rfl rfl ?_
      refine v_iconst hX (v := 1) 57 rfl (by decide) ?_
      refine v_aload_n hX 0 58 rfl rfl rfl ?_
      refine v_iload_n hX 2 59 rfl rfl rfl ?_
      refine v_iconst hX (v := 0) 60 rfl (by decide) ?_
      rw [ej]
      refine v_callV hX 2 (by decide) rfl rfl (r_its (w := 0) (show j < 24 by omega) (by decide)) tw_757 tw_754 tw_756 tw_60 tw_99 (by decide +kernel) ⟨⟨rfl, rfl⟩, Nat.le_of_ble_eq_true rfl, Nat.le_of_ble_eq_true rfl⟩ rfl (Nat.le_of_ble_eq_true rfl) rfl rfl 61 rfl ?_
      refine v_isub hX 62 rfl ?_
      refine v_iload_n hX 2 63 rfl rfl rfl ?_
      refine v_iload_n hX 3 64 rfl rfl rfl ?_
      refine v_iload hX 65 rfl rfl ?_
      refine v_callV hX 4 (by decide) rfl rfl (r_file hz (show n < 24 by omega)) tw_733 tw_730 tw_732 tw_55 tw_99 (by decide +kernel) ⟨⟨rfl, rfl⟩, Nat.le_of_ble_eq_true rfl, Nat.le_of_ble_eq_true rfl⟩ rfl (Nat.le_of_ble_eq_true rfl) rfl rfl 66 rfl ?_
      refine v_pop hX 67 rfl rfl ?_
      refine v_goto hX (tgt := 191) 68 rfl (by decide) ?_
      refine V.subM (j191) ?_ rfl ⟨rfl, rfl, trivial⟩
      rw [hM, ej]
    · skip
      have hM : doM M n k = mset M 271 (5 + 7 * (M.1 280 (4 * k + 1)).toNatClampNeg + 6) 1 := by unfold doM; rw [if_neg (by rw [hc]; decide), if_neg (by rw [hc]; decide), if_pos hc]
      obtain ⟨j, hj, ej, cj⟩ := wY_119 hn hc c50
      rw [cj] at hM
      refine v_lookup hX (off := 83) (tgt := 146) 47 rfl (by decide) (by rw [hc]; decide) (by decide) ?_
      refine v_aload_n hX 0 69 rfl rfl rfl ?_
      refine v_iload_n hX 2 70 rfl rfl rfl ?_
      refine v_bipush hX (v := 6) 71 rfl (by decide) ?_
      refine v_iconst hX (v := 1) 72 rfl (by decide) ?_
      rw [ej]
      refine v_callV hX 3 (by decide) rfl rfl (r_lay (w := 6) (show j < 24 by omega) (by decide)) tw_737 tw_734 tw_736 tw_56 tw_99 (by decide +kernel) ⟨⟨rfl, rfl⟩, Nat.le_of_ble_eq_true rfl, Nat.le_of_ble_eq_true rfl⟩ rfl (Nat.le_of_ble_eq_true rfl) rfl rfl 73 rfl ?_
      refine v_goto hX (tgt := 191) 74 rfl (by decide) ?_
      refine V.subM (j191) ?_ rfl ⟨rfl, rfl, trivial⟩
      rw [hM]
    · skip
      have hM : doM M n k = mset M 271 (5 + 7 * (M.1 280 (4 * k + 1)).toNatClampNeg + 3) (M.1 271 2) := by unfold doM; rw [if_neg (by rw [hc]; decide), if_neg (by rw [hc]; decide), if_neg (by rw [hc]; decide), if_pos hc]
      obtain ⟨j, hj, ej, cj⟩ := wY_114 hn hc c50
      rw [cj] at hM
      refine v_lookup hX (off := 94) (tgt := 157) 47 rfl (by decide) (by rw [hc]; decide) (by decide) ?_
      refine v_aload_n hX 0 75 rfl rfl rfl ?_
      refine v_iload_n hX 2 76 rfl rfl rfl ?_
      refine v_iconst hX (v := 3) 77 rfl (by decide) ?_
      refine v_aload_n hX 0 78 rfl rfl rfl ?_
      refine g_7_0 hX 79  tw_646 rfl ?_
      refine v_iconst hX (v := 2) 80 rfl (by decide) ?_
      refine v_iald hX (k := 271) (by decide) rfl (vp_in_nI (n := 2) (by decide) (by decide)) 81 rfl ?_
      rw [ej]
      refine v_callV hX 3 (by decide) rfl rfl (r_lay (w := 3) (show j < 24 by omega) (by decide)) tw_737 tw_734 tw_736 tw_56 tw_99 (by decide +kernel) ⟨⟨rfl, rfl⟩, Nat.le_of_ble_eq_true rfl, Nat.le_of_ble_eq_true rfl⟩ rfl (Nat.le_of_ble_eq_true rfl) rfl rfl 82 rfl ?_
      refine v_goto hX (tgt := 191) 83 rfl (by decide) ?_
      refine V.subM (j191) ?_ rfl ⟨rfl, rfl, trivial⟩
      rw [hM]; rfl
    · skip
      have hM : doM M n k = mset M 271 2 (M.1 271 2 + (M.1 280 (4 * k + 1))) := by unfold doM; rw [if_neg (by rw [hc]; decide), if_neg (by rw [hc]; decide), if_neg (by rw [hc]; decide), if_neg (by rw [hc]; decide), if_pos hc]
      refine v_lookup hX (off := 109) (tgt := 172) 47 rfl (by decide) (by rw [hc]; decide) (by decide) ?_
      refine v_aload_n hX 0 84 rfl rfl rfl ?_
      refine g_7_0 hX 85  tw_646 rfl ?_
      refine v_iconst hX (v := 2) 86 rfl (by decide) ?_
      refine v_dup2 hX 87 rfl rfl rfl ?_
      refine v_iald hX (k := 271) (by decide) rfl (vp_in_nI (n := 2) (by decide) (by decide)) 88 rfl ?_
      refine v_iload_n hX 2 89 rfl rfl rfl ?_
      refine v_iadd hX 90 rfl ?_
      refine v_iast hX (k := 271) (by decide) rfl rfl (vp_in_nI (n := 2) (by decide) (by decide)) rfl 91 rfl ?_
      refine v_goto hX (tgt := 191) 92 rfl (by decide) ?_
      refine V.subM (j191) ?_ rfl ⟨rfl, rfl, trivial⟩
      rw [hM]; rfl
    · skip
      have hM : doM M n k = ovM M (M.1 280 (4 * k + 1)) := by unfold doM; rw [if_neg (by rw [hc]; decide), if_neg (by rw [hc]; decide), if_neg (by rw [hc]; decide), if_neg (by rw [hc]; decide), if_neg (by rw [hc]; decide)]
      refine v_lookup hX (off := 122) (tgt := 185) 47 rfl (by decide) (by rw [hc]; decide) (by decide) ?_
      refine v_aload_n hX 0 93 rfl rfl rfl ?_
      refine v_iload_n hX 2 94 rfl rfl rfl ?_
      refine v_callV hX 1 (by decide) rfl rfl (r_ovr) tw_812 tw_809 tw_811 tw_70 tw_99 (by decide +kernel) ⟨⟨rfl, rfl⟩, Nat.le_of_ble_eq_true rfl, Nat.le_of_ble_eq_true rfl⟩ rfl (Nat.le_of_ble_eq_true rfl) rfl rfl 95 rfl ?_
      refine v_pop hX 96 rfl rfl ?_
      refine V.subM (j191) ?_ rfl ⟨rfl, rfl, trivial⟩
      rw [hM]
    · skip
      have hM : doM M n k = ovM M (M.1 280 (4 * k + 1)) := by unfold doM; rw [if_neg hc.1, if_neg hc.2.1, if_neg hc.2.2.1, if_neg hc.2.2.2.1, if_neg hc.2.2.2.2.1]
      refine v_lookup hX (off := 122) (tgt := 185) 47 rfl (by decide) ((lv_osw hc.2.1 rfl).trans ((lv_osw hc.1 rfl).trans ((lv_osw hc.2.2.2.1 rfl).trans ((lv_osw hc.2.2.2.2.1 rfl).trans ((lv_osw hc.2.2.1 rfl).trans rfl))))) (by decide) ?_
      refine v_aload_n hX 0 93 rfl rfl rfl ?_
      refine v_iload_n hX 2 94 rfl rfl rfl ?_
      refine v_callV hX 1 (by decide) rfl rfl (r_ovr) tw_812 tw_809 tw_811 tw_70 tw_99 (by decide +kernel) ⟨⟨rfl, rfl⟩, Nat.le_of_ble_eq_true rfl, Nat.le_of_ble_eq_true rfl⟩ rfl (Nat.le_of_ble_eq_true rfl) rfl rfl 95 rfl ?_
      refine v_pop hX 96 rfl rfl ?_
      refine V.subM (j191) ?_ rfl ⟨rfl, rfl, trivial⟩
      rw [hM]
  · skip
    have hB : doB M n k = false := decide_eq_false (show ¬ 0 ≤ doW M n k from fun g => by have h1 : doW M n k < 0 := Int32.not_le.mp c50; exact absurd g (Int32.not_le.mpr h1))
    refine v_iconst hX (v := 0) 39 rfl (by decide) ?_
    refine v_iret hX hQ rfl rfl ?_ ?_ 40 rfl
    · rw [hB]; rfl
    · rw [hB]; rfl
