theorem wt_z {M : Mm} {w t : Nat → Int32} : (wt M w t).1 271 = M.1 271 := wt_n (by decide)
set_option maxRecDepth 100000 in
set_option maxHeartbeats 4000000 in
theorem r_layOut {Y : Yt} {M : Mm} {n : Nat} (hz : M.1 271 3 = nI n) (hn : n ≤ 24) (hw : WF (rp (M.1 271)) n) : Fn Y yX7_layOut wsX7_layOut { frames := 3, cells := 0, slots := 0, locals := 64 } [.ref (Y.2.2.2 270)] M none ((wt M (wyR M n) (tkR M n))) := by
  refine Fn.of (cc := cX7_layOut) (ins := iX7_layOut) (maxL := 4) (ret := none) (by decide) dX7_layOut [some (.ref (Y.2.2.2 270)), none, none, none] (Nat.le_of_ble_eq_true rfl) rfl rfl ?_
  intro X hX hQ
  refine v_aload_n hX 0 0 rfl rfl rfl ?_
  refine g_7_8 hX 1  tw_654 rfl ?_
  refine v_iconst hX (v := 0) 2 rfl (by decide) ?_
  refine v_iconst hX (v := 0) 3 rfl (by decide) ?_
  refine v_iast hX (k := 277) (by decide) rfl rfl (vp_in_nI (n := 0) (by decide) (by decide)) rfl 4 rfl ?_
  refine v_aload_n hX 0 5 rfl rfl rfl ?_
  refine g_7_8 hX 6  tw_654 rfl ?_
  refine v_iconst hX (v := 1) 7 rfl (by decide) ?_
  refine v_iconst hX (v := 0) 8 rfl (by decide) ?_
  refine v_iast hX (k := 277) (by decide) rfl rfl (vp_in_nI (n := 1) (by decide) (by decide)) rfl 9 rfl ?_
  refine v_iconst hX (v := 0) 10 rfl (by decide) ?_
  refine v_istore_n hX 1 11 rfl rfl (Nat.le_of_ble_eq_true rfl) rfl ?_
  have lp : ∀ (k : Nat), k ≤ n → V Y X (wt M (wyR M k) (tkR M k)) 16 [some (.ref (Y.2.2.2 270)), some (.int (nI k)), none, none] [] := by
    refine upTo n (fun k hk ih => ?_)
    refine v_iload_n hX 1 12 rfl rfl rfl ?_
    refine v_aload_n hX 0 13 rfl rfl rfl ?_
    refine g_7_0 hX 14  tw_646 rfl ?_
    refine v_iconst hX (v := 3) 15 rfl (by decide) ?_
    refine v_iald hX (k := 271) (by decide) rfl (vp_in_nI (n := 3) (by decide) (by decide)) 16 rfl ?_
    rw [wt_n (by decide)]
    refine v_icmp_ge hX (tgt := 149) 17 rfl (by decide) (fun c23 => ?_) (fun c23 => ?_)
    · skip
      have hk2 : k = n := by have h5 : M.1 271 3 ≤ nI k := c23; rw [hz] at h5; have := of_le h5 (by omega) (by omega); omega
      subst hk2
      refine v_vret hX hQ rfl rfl ?_ 89 rfl
      rfl
    · skip
      have hk2 : k < n := by have h5 : ¬ M.1 271 3 ≤ nI k := c23; rw [hz] at h5; exact of_nle h5 (by omega) (by omega)
      have hwd := wd1_P hw hk2
      obtain ⟨sd, hsd, hs⟩ : ∃ sd, sd < 2 ∧ rp (M.1 271) k 0 = nI sd := by rcases (hw k hk2).1 with g | g; exact ⟨0, by decide, g⟩; exact ⟨1, by decide, g⟩
      have hS : pSk (rp (M.1 271)) (M.1 271 1) k = (!wd1 (M.1 271) k && (!decide (tkR M k sd + rp (M.1 271) k 1 ≤ M.1 271 1))) := lo_sk hw hk2 hs hsd
      refine v_aload_n hX 0 18 rfl rfl rfl ?_
      refine v_iload_n hX 1 19 rfl rfl rfl ?_
      refine v_iconst hX (v := 0) 20 rfl (by decide) ?_
      refine v_callV hX 2 (by decide) rfl rfl (r_its (w := 0) (show k < 24 by omega) (by decide)) tw_757 tw_754 tw_756 tw_60 tw_99 (by decide +kernel) ⟨⟨rfl, rfl⟩, Nat.le_of_ble_eq_true rfl, Nat.le_of_ble_eq_true rfl⟩ rfl (Nat.le_of_ble_eq_true rfl) rfl rfl 21 rfl ?_
      rw [wt_z]
      rw [show M.1 271 (5 + 7 * k + 0) = nI sd from hs]
      refine v_istore_n hX 2 22 rfl rfl (Nat.le_of_ble_eq_true rfl) rfl ?_
      have j60 : ∀ (v : Int32), v = b01 (!decide (tkR M k sd + rp (M.1 271) k 1 ≤ M.1 271 1)) → V Y X (wt M (wyR M k) (tkR M k)) 60 [some (.ref (Y.2.2.2 270)), some (.int (nI k)), some (.int (nI sd)), none] [.int v] := by
        intro v hv
        refine v_istore_n hX 3 40 rfl rfl (Nat.le_of_ble_eq_true rfl) rfl ?_
        have j111 : ∀ (r : Int32), r = ry (M.1 271) k → V Y X (wt M (wyR M k) (tkR M k)) 111 [some (.ref (Y.2.2.2 270)), some (.int (nI k)), some (.int (nI sd)), some (.int v)] [.int r, .int (nI k), .ref (Y.2.2.2 276)] := by
          intro r hr
          refine v_iast hX (k := 276) (by decide) rfl rfl (vp_in_nI (by omega) (by decide)) rfl 67 rfl ?_
          refine V.mem (M2 := wt M (wyR M (k + 1)) (tkR M k)) (by rw [nI_clamp (by omega), wt_276, hr, wyR_s]) ?_
          have j141 : ∀ (r2 : Int32), r2 = (if (wd1 (M.1 271) k || pSk (rp (M.1 271)) (M.1 271 1) k) = true then 0 else rp (M.1 271) k 1) → V Y X (wt M (wyR M (k + 1)) (tkR M k)) 141 [some (.ref (Y.2.2.2 270)), some (.int (nI k)), some (.int (nI sd)), some (.int v)] [.int r2, .int (tkR M k sd), .int (nI sd), .ref (Y.2.2.2 277)] := by
            intro r2 hr2
            refine v_iadd hX 85 rfl ?_
            refine v_iast hX (k := 277) (by decide) rfl rfl (vp_in_nI (by omega) (by decide)) rfl 86 rfl ?_
            refine V.mem (M2 := wt M (wyR M (k + 1)) (tkR M (k + 1))) (by rw [nI_clamp (by omega), wt_277, hr2, tkR_s hw hk2 hs hsd]) ?_
            refine v_iinc hX 87 rfl rfl (nI_inc k) (Nat.le_of_ble_eq_true rfl) rfl ?_
            refine v_goto hX (tgt := 16) 88 rfl (by decide) ?_
            refine V.subM (ih hk2) ?_ rfl ⟨rfl, rfl, trivial⟩
            rfl
          refine v_aload_n hX 0 68 rfl rfl rfl ?_
          refine g_7_8 hX 69  tw_654 rfl ?_
          refine v_iload_n hX 2 70 rfl rfl rfl ?_
          refine v_dup2 hX 71 rfl rfl rfl ?_
          refine v_iald hX (k := 277) (by decide) rfl (vp_in_nI (by omega) (by decide)) 72 rfl ?_
          rw [nI_clamp (by omega), wt_r7]
          refine v_aload_n hX 0 73 rfl rfl rfl ?_
          refine v_iload_n hX 1 74 rfl rfl rfl ?_
          refine v_callV hX 1 (by decide) rfl rfl (r_isWd (show k < 24 by omega)) tw_753 tw_750 tw_752 tw_59 tw_99 (by decide +kernel) ⟨⟨rfl, rfl⟩, Nat.le_of_ble_eq_true rfl, Nat.le_of_ble_eq_true rfl⟩ rfl (Nat.le_of_ble_eq_true rfl) rfl rfl 75 rfl ?_
          rw [wt_z]
          refine v_if_ne hX (tgt := 131) 76 rfl (by decide) (fun c124 => ?_) (fun c124 => ?_)
          · skip
            have w1 := b01_t c124
            refine v_iconst hX (v := 0) 79 rfl (by decide) ?_
            refine v_goto hX (tgt := 141) 80 rfl (by decide) ?_
            exact V.sub (j141 _ (by first | (rw [w1]; rfl) | (rw [hS2, w1]; rfl))) rfl ⟨rfl, rfl, rfl, rfl, trivial⟩
          · skip
            have w1 := b01_f c124
            refine v_iload_n hX 3 77 rfl rfl rfl ?_
            refine v_if_eq hX (tgt := 135) 78 rfl (by decide) (fun c128 => ?_) (fun c128 => ?_)
            · skip
              have w2 : (!decide (tkR M k sd + rp (M.1 271) k 1 ≤ M.1 271 1)) = false := by rw [hv] at c128; exact b01_f c128
              have hS2 : pSk (rp (M.1 271)) (M.1 271 1) k = false := by rw [hS, w2, Bool.and_false]
              refine v_aload_n hX 0 81 rfl rfl rfl ?_
              refine v_iload_n hX 1 82 rfl rfl rfl ?_
              refine v_iconst hX (v := 1) 83 rfl (by decide) ?_
              refine v_callV hX 2 (by decide) rfl rfl (r_its (w := 1) (show k < 24 by omega) (by decide)) tw_757 tw_754 tw_756 tw_60 tw_99 (by decide +kernel) ⟨⟨rfl, rfl⟩, Nat.le_of_ble_eq_true rfl, Nat.le_of_ble_eq_true rfl⟩ rfl (Nat.le_of_ble_eq_true rfl) rfl rfl 84 rfl ?_
              rw [wt_z]
              exact V.sub (j141 _ (by rw [hS2, w1]; rfl)) rfl ⟨rfl, rfl, rfl, rfl, trivial⟩
            · skip
              have w2 : (!decide (tkR M k sd + rp (M.1 271) k 1 ≤ M.1 271 1)) = true := by rw [hv] at c128; exact b01_t c128
              have hS2 : pSk (rp (M.1 271)) (M.1 271 1) k = true := by rw [hS, w2, w1]; rfl
              refine v_iconst hX (v := 0) 79 rfl (by decide) ?_
              refine v_goto hX (tgt := 141) 80 rfl (by decide) ?_
              exact V.sub (j141 _ (by first | (rw [w1]; rfl) | (rw [hS2, w1]; rfl))) rfl ⟨rfl, rfl, rfl, rfl, trivial⟩
        refine v_aload_n hX 0 41 rfl rfl rfl ?_
        refine g_7_7 hX 42  tw_653 rfl ?_
        refine v_iload_n hX 1 43 rfl rfl rfl ?_
        refine v_aload_n hX 0 44 rfl rfl rfl ?_
        refine v_iload_n hX 1 45 rfl rfl rfl ?_
        refine v_callV hX 1 (by decide) rfl rfl (r_isWd (show k < 24 by omega)) tw_753 tw_750 tw_752 tw_59 tw_99 (by decide +kernel) ⟨⟨rfl, rfl⟩, Nat.le_of_ble_eq_true rfl, Nat.le_of_ble_eq_true rfl⟩ rfl (Nat.le_of_ble_eq_true rfl) rfl rfl 46 rfl ?_
        rw [wt_z]
        refine v_if_eq hX (tgt := 78) 47 rfl (by decide) (fun c71 => ?_) (fun c71 => ?_)
        · skip
          have w1 := b01_f c71
          refine v_iload_n hX 3 50 rfl rfl rfl ?_
          refine v_if_eq hX (tgt := 86) 51 rfl (by decide) (fun c79 => ?_) (fun c79 => ?_)
          · skip
            have w2 : (!decide (tkR M k sd + rp (M.1 271) k 1 ≤ M.1 271 1)) = false := by rw [hv] at c79; exact b01_f c79
            have hS2 : pSk (rp (M.1 271)) (M.1 271 1) k = false := by rw [hS, w2, Bool.and_false]
            refine v_aload_n hX 0 54 rfl rfl rfl ?_
            refine v_iload_n hX 1 55 rfl rfl rfl ?_
            refine v_callV hX 1 (by decide) rfl rfl (r_lapsed (show k < 24 by omega)) tw_777 tw_774 tw_776 tw_64 tw_99 (by decide +kernel) ⟨⟨rfl, rfl⟩, Nat.le_of_ble_eq_true rfl, Nat.le_of_ble_eq_true rfl⟩ rfl (Nat.le_of_ble_eq_true rfl) rfl rfl 56 rfl ?_
            rw [wt_z]
            refine v_if_eq hX (tgt := 98) 57 rfl (by decide) (fun c91 => ?_) (fun c91 => ?_)
            · skip
              have w3 := b01_f c91
              refine v_aload_n hX 0 60 rfl rfl rfl ?_
              refine v_iload_n hX 1 61 rfl rfl rfl ?_
              refine v_callV hX 1 (by decide) rfl rfl (r_noCase (show k < 24 by omega)) tw_785 tw_782 tw_784 tw_66 tw_99 (by decide +kernel) ⟨⟨rfl, rfl⟩, Nat.le_of_ble_eq_true rfl, Nat.le_of_ble_eq_true rfl⟩ rfl (Nat.le_of_ble_eq_true rfl) rfl rfl 62 rfl ?_
              rw [wt_z]
              refine v_if_eq hX (tgt := 110) 63 rfl (by decide) (fun c103 => ?_) (fun c103 => ?_)
              · skip
                have w4 := b01_f c103
                refine v_iconst hX (v := 0) 66 rfl (by decide) ?_
                exact V.sub (j111 _ (by unfold ry; rw [if_neg (by rw [w1]; decide), if_neg (by rw [hS2]; decide), if_neg (by rw [w3]; decide), if_neg (by rw [w4]; decide)])) rfl ⟨rfl, rfl, rfl, rfl, trivial⟩
              · skip
                have w4 := b01_t c103
                refine v_iconst hX (v := 4) 64 rfl (by decide) ?_
                refine v_goto hX (tgt := 111) 65 rfl (by decide) ?_
                exact V.sub (j111 _ (by unfold ry; rw [if_neg (by rw [w1]; decide), if_neg (by rw [hS2]; decide), if_neg (by rw [w3]; decide), if_pos w4])) rfl ⟨rfl, rfl, rfl, rfl, trivial⟩
            · skip
              have w3 := b01_t c91
              refine v_iconst hX (v := 3) 58 rfl (by decide) ?_
              refine v_goto hX (tgt := 111) 59 rfl (by decide) ?_
              exact V.sub (j111 _ (by unfold ry; rw [if_neg (by rw [w1]; decide), if_neg (by rw [hS2]; decide), if_pos w3])) rfl ⟨rfl, rfl, rfl, rfl, trivial⟩
          · skip
            have w2 : (!decide (tkR M k sd + rp (M.1 271) k 1 ≤ M.1 271 1)) = true := by rw [hv] at c79; exact b01_t c79
            have hS2 : pSk (rp (M.1 271)) (M.1 271 1) k = true := by rw [hS, w2, w1]; rfl
            refine v_iconst hX (v := 2) 52 rfl (by decide) ?_
            refine v_goto hX (tgt := 111) 53 rfl (by decide) ?_
            exact V.sub (j111 _ (by unfold ry; rw [if_neg (by rw [w1]; decide), if_pos hS2])) rfl ⟨rfl, rfl, rfl, rfl, trivial⟩
        · skip
          have w1 := b01_t c71
          refine v_iconst hX (v := 1) 48 rfl (by decide) ?_
          refine v_goto hX (tgt := 111) 49 rfl (by decide) ?_
          exact V.sub (j111 _ (by unfold ry; rw [if_pos w1])) rfl ⟨rfl, rfl, rfl, rfl, trivial⟩
      refine v_aload_n hX 0 23 rfl rfl rfl ?_
      refine g_7_8 hX 24  tw_654 rfl ?_
      refine v_iload_n hX 2 25 rfl rfl rfl ?_
      refine v_iald hX (k := 277) (by decide) rfl (vp_in_nI (by omega) (by decide)) 26 rfl ?_
      rw [nI_clamp (by omega), wt_r7]
      refine v_aload_n hX 0 27 rfl rfl rfl ?_
      refine v_iload_n hX 1 28 rfl rfl rfl ?_
      refine v_iconst hX (v := 1) 29 rfl (by decide) ?_
      refine v_callV hX 2 (by decide) rfl rfl (r_its (w := 1) (show k < 24 by omega) (by decide)) tw_757 tw_754 tw_756 tw_60 tw_99 (by decide +kernel) ⟨⟨rfl, rfl⟩, Nat.le_of_ble_eq_true rfl, Nat.le_of_ble_eq_true rfl⟩ rfl (Nat.le_of_ble_eq_true rfl) rfl rfl 30 rfl ?_
      rw [wt_z]
      refine v_iadd hX 31 rfl ?_
      refine v_aload_n hX 0 32 rfl rfl rfl ?_
      refine g_7_0 hX 33  tw_646 rfl ?_
      refine v_iconst hX (v := 1) 34 rfl (by decide) ?_
      refine v_iald hX (k := 271) (by decide) rfl (vp_in_nI (n := 1) (by decide) (by decide)) 35 rfl ?_
      rw [wt_n (by decide)]
      refine v_icmp_le hX (tgt := 59) 36 rfl (by decide) (fun c52 => ?_) (fun c52 => ?_)
      · skip
        have q2 : tkR M k sd + rp (M.1 271) k 1 ≤ M.1 271 1 := c52
        refine v_iconst hX (v := 0) 39 rfl (by decide) ?_
        exact V.sub (j60 _ (by rw [decide_eq_true q2]; rfl)) rfl ⟨rfl, rfl, rfl, trivial⟩
      · skip
        have q2 : ¬ tkR M k sd + rp (M.1 271) k 1 ≤ M.1 271 1 := c52
        refine v_iconst hX (v := 1) 37 rfl (by decide) ?_
        refine v_goto hX (tgt := 60) 38 rfl (by decide) ?_
        exact V.sub (j60 _ (by rw [decide_eq_false q2]; rfl)) rfl ⟨rfl, rfl, rfl, trivial⟩
  refine V.subM (lp 0 (Nat.zero_le _)) ?_ rfl ⟨rfl, rfl, trivial⟩
  rw [wyR_0, ← tkR_0]; exact lo_init
set_option maxRecDepth 100000 in
set_option maxHeartbeats 4000000 in
theorem r_layAnswered {Y : Yt} {M : Mm} {more : Int32} {n : Nat} (hz : M.1 271 3 = nI n) (hn : n ≤ 24) : Fn Y yX7_layAnswered wsX7_layAnswered { frames := 1, cells := 0, slots := 0, locals := 22 } [.ref (Y.2.2.2 270), .int more] M none ((mrow M 276 (laR (M.1 276) more (rp (M.1 271)) n 0))) := by
  refine Fn.of (cc := cX7_layAnswered) (ins := iX7_layAnswered) (maxL := 5) (ret := none) (by decide) dX7_layAnswered [some (.ref (Y.2.2.2 270)), some (.int more), none, none, none] (Nat.le_of_ble_eq_true rfl) rfl rfl ?_
  intro X hX hQ
  refine v_aload_n hX 0 0 rfl rfl rfl ?_
  refine g_7_0 hX 1  tw_646 rfl ?_
  refine v_iconst hX (v := 3) 2 rfl (by decide) ?_
  refine v_iald hX (k := 271) (by decide) rfl (vp_in_nI (n := 3) (by decide) (by decide)) 3 rfl ?_
  rw [show M.1 271 (Int32.toNatClampNeg 3) = nI n from hz]
  refine v_iconst hX (v := 1) 4 rfl (by decide) ?_
  refine v_isub hX 5 rfl ?_
  refine v_istore_n hX 2 6 rfl rfl (Nat.le_of_ble_eq_true rfl) rfl ?_
  have lp : ∀ (m : Nat), m ≤ n → V Y X (mrow M 276 (laR (M.1 276) more (rp (M.1 271)) n m)) 9 [some (.ref (Y.2.2.2 270)), some (.int more), some (.int (nI m - 1)), none, none] [] := by
    refine downTo (fun m ih => ?_)
    intro hm
    rcases Nat.eq_zero_or_pos m with h0 | h0
    · skip
      subst h0
      refine v_iload_n hX 2 7 rfl rfl rfl ?_
      refine v_if_lt hX (tgt := 112) 8 rfl (by decide) (fun c10 => ?_) (fun c10 => absurd (by decide) c10)
      refine v_vret hX hQ rfl rfl ?_ 64 rfl
      rfl
    · skip
      obtain ⟨m, rfl⟩ : ∃ m2, m = m2 + 1 := ⟨m - 1, by omega⟩
      rw [nI_pred]
      have hLm : laR (M.1 276) more (rp (M.1 271)) n (m + 1) m = M.1 276 m := by unfold laR; rw [if_neg (by omega)]
      refine v_iload_n hX 2 7 rfl rfl rfl ?_
      refine v_if_lt hX (tgt := 112) 8 rfl (by decide) (fun c10 => absurd c10 (nI_nlt (Nat.zero_le _) (by omega))) (fun c10 => ?_)
      have j23 : ∀ (v : Int32), v = b01 (nI m == more) → V Y X (mrow M 276 (laR (M.1 276) more (rp (M.1 271)) n (m + 1))) 23 [some (.ref (Y.2.2.2 270)), some (.int more), some (.int (nI m)), none, none] [.int v] := by
        intro v hv
        refine v_istore_n hX 3 15 rfl rfl (Nat.le_of_ble_eq_true rfl) rfl ?_
        refine v_iload_n hX 2 16 rfl rfl rfl ?_
        refine v_iconst hX (v := 1) 17 rfl (by decide) ?_
        refine v_iadd hX 18 rfl ?_
        rw [nI_1]
        refine v_istore hX 19 rfl (Nat.le_of_ble_eq_true rfl) rfl ?_
        have lq : ∀ (a : Nat), a ≤ n → m + 1 ≤ a → ∀ (u : Int32), u = b01 ((nI m == more) || anS (laS (M.1 276) more (rp (M.1 271)) n) (rp (M.1 271)) a (m + 1) m) → V Y X (mrow M 276 (laR (M.1 276) more (rp (M.1 271)) n (m + 1))) 29 [some (.ref (Y.2.2.2 270)), some (.int more), some (.int (nI m)), some (.int u), some (.int (nI a))] [] := by
          refine upTo n (fun a ha ihq => ?_)
          intro hma u hu
          refine v_iload hX 20 rfl rfl ?_
          refine v_aload_n hX 0 21 rfl rfl rfl ?_
          refine g_7_0 hX 22  tw_646 rfl ?_
          refine v_iconst hX (v := 3) 23 rfl (by decide) ?_
          refine v_iald hX (k := 271) (by decide) rfl (vp_in_nI (n := 3) (by decide) (by decide)) 24 rfl ?_
          rw [mrow_n (by decide), show M.1 271 (Int32.toNatClampNeg 3) = nI n from hz]
          refine v_icmp_ge hX (tgt := 77) 25 rfl (by decide) (fun c37 => ?_) (fun c37 => ?_)
          · skip
            have ha2 : a = n := by have := of_le c37 (by omega) (by omega); omega
            rw [ha2] at hu
            have j105 : ∀ (x : Int32), x = (if M.1 276 m = 0 ∧ laS (M.1 276) more (rp (M.1 271)) n m = false then 5 else M.1 276 m) → V Y X (mrow M 276 (laR (M.1 276) more (rp (M.1 271)) n (m + 1))) 105 [some (.ref (Y.2.2.2 270)), some (.int more), some (.int (nI m)), some (.int u), some (.int (nI a))] [.int x, .int (nI m), .ref (Y.2.2.2 276)] := by
              intro x hx
              refine v_iast hX (k := 276) (by decide) rfl rfl (vp_in_nI (by omega) (by decide)) rfl 61 rfl ?_
              refine V.mem (M2 := mrow M 276 (laR (M.1 276) more (rp (M.1 271)) n m)) (by rw [nI_clamp (by omega), mset_mrow, hx, laR_s (by omega)]) ?_
              refine v_iinc hX 62 rfl rfl (nI_dm m) (Nat.le_of_ble_eq_true rfl) rfl ?_
              refine v_goto hX (tgt := 9) 63 rfl (by decide) ?_
              refine V.subM (ih m (by omega) (by omega)) ?_ rfl ⟨rfl, rfl, rfl, trivial⟩
              rfl
            refine v_aload_n hX 0 45 rfl rfl rfl ?_
            refine g_7_7 hX 46  tw_653 rfl ?_
            refine v_iload_n hX 2 47 rfl rfl rfl ?_
            refine v_aload_n hX 0 48 rfl rfl rfl ?_
            refine g_7_7 hX 49  tw_653 rfl ?_
            refine v_iload_n hX 2 50 rfl rfl rfl ?_
            refine v_iald hX (k := 276) (by decide) rfl (vp_in_nI (by omega) (by decide)) 51 rfl ?_
            rw [nI_clamp (by omega), mrow_s, hLm]
            refine v_if_ne hX (tgt := 99) 52 rfl (by decide) (fun c88 => ?_) (fun c88 => ?_)
            · skip
              have q4 : ¬ M.1 276 m = 0 := c88
              refine v_aload_n hX 0 57 rfl rfl rfl ?_
              refine g_7_7 hX 58  tw_653 rfl ?_
              refine v_iload_n hX 2 59 rfl rfl rfl ?_
              refine v_iald hX (k := 276) (by decide) rfl (vp_in_nI (by omega) (by decide)) 60 rfl ?_
              rw [nI_clamp (by omega), mrow_s, hLm]
              exact V.sub (j105 _ (by first | (rw [if_neg (fun h => q4 h.1)]; done) | (rw [if_neg (fun h => by rw [hsm] at h; cases h.2)]))) rfl ⟨rfl, rfl, rfl, rfl, rfl, trivial⟩
            · skip
              have q4 : M.1 276 m = 0 := c88
              have hsm : laS (M.1 276) more (rp (M.1 271)) n m = !((nI m == more) || anS (laS (M.1 276) more (rp (M.1 271)) n) (rp (M.1 271)) n (m + 1) m) := by unfold laS; rw [sd_eq (show m < n by omega)]; simp [q4]
              refine v_iload_n hX 3 53 rfl rfl rfl ?_
              refine v_if_eq hX (tgt := 99) 54 rfl (by decide) (fun c92 => ?_) (fun c92 => ?_)
              · skip
                have q5 := b01_f (hu ▸ c92)
                rw [q5] at hsm
                refine v_aload_n hX 0 57 rfl rfl rfl ?_
                refine g_7_7 hX 58  tw_653 rfl ?_
                refine v_iload_n hX 2 59 rfl rfl rfl ?_
                refine v_iald hX (k := 276) (by decide) rfl (vp_in_nI (by omega) (by decide)) 60 rfl ?_
                rw [nI_clamp (by omega), mrow_s, hLm]
                exact V.sub (j105 _ (by first | (rw [if_neg (fun h => q4 h.1)]; done) | (rw [if_neg (fun h => by rw [hsm] at h; cases h.2)]))) rfl ⟨rfl, rfl, rfl, rfl, rfl, trivial⟩
              · skip
                have q5 := b01_t (hu ▸ c92)
                rw [q5] at hsm
                refine v_iconst hX (v := 5) 55 rfl (by decide) ?_
                refine v_goto hX (tgt := 105) 56 rfl (by decide) ?_
                exact V.sub (j105 _ (by rw [if_pos ⟨q4, hsm⟩])) rfl ⟨rfl, rfl, rfl, rfl, rfl, trivial⟩
          · skip
            have ha2 : a < n := of_nle c37 (by omega) (by omega)
            have hst := anS_top (S := laS (M.1 276) more (rp (M.1 271)) n) (P := rp (M.1 271)) (i := m) hma
            have j70 : ∀ (x : Int32), x = b01 ((nI m == more) || anS (laS (M.1 276) more (rp (M.1 271)) n) (rp (M.1 271)) (a + 1) (m + 1) m) → V Y X (mrow M 276 (laR (M.1 276) more (rp (M.1 271)) n (m + 1))) 70 [some (.ref (Y.2.2.2 270)), some (.int more), some (.int (nI m)), some (.int u), some (.int (nI a))] [.int x] := by
              intro x hx
              refine v_istore_n hX 3 42 rfl rfl (Nat.le_of_ble_eq_true rfl) rfl ?_
              refine v_iinc hX 43 rfl rfl (nI_inc a) (Nat.le_of_ble_eq_true rfl) rfl ?_
              refine v_goto hX (tgt := 29) 44 rfl (by decide) ?_
              exact V.sub (ihq ha2 (by omega) x hx) rfl ⟨rfl, rfl, rfl, rfl, rfl, trivial⟩
            refine v_iload_n hX 3 26 rfl rfl rfl ?_
            refine v_if_ne hX (tgt := 65) 27 rfl (by decide) (fun c41 => ?_) (fun c41 => ?_)
            · skip
              have q1 := b01_t (hu ▸ c41)
              refine v_iconst hX (v := 1) 39 rfl (by decide) ?_
              refine v_goto hX (tgt := 70) 40 rfl (by decide) ?_
              exact V.sub (j70 _ (by rw [hst]; first | (rw [← Bool.or_assoc, q1]; rfl) | (rw [q2, q3]; simp [b01]))) rfl ⟨rfl, rfl, rfl, rfl, rfl, trivial⟩
            · skip
              have q1 := b01_f (hu ▸ c41)
              refine v_aload_n hX 0 28 rfl rfl rfl ?_
              refine v_iload hX 29 rfl rfl ?_
              refine v_iconst hX (v := 4) 30 rfl (by decide) ?_
              refine v_callV hX 2 (by decide) rfl rfl (r_its (w := 4) (show a < 24 by omega) (by decide)) tw_757 tw_754 tw_756 tw_60 tw_99 (by decide +kernel) ⟨⟨rfl, rfl⟩, Nat.le_of_ble_eq_true rfl, Nat.le_of_ble_eq_true rfl⟩ rfl (Nat.le_of_ble_eq_true rfl) rfl rfl 31 rfl ?_
              rw [mrow_n (by decide)]
              refine v_iload_n hX 2 32 rfl rfl rfl ?_
              refine v_icmp_ne hX (tgt := 69) 33 rfl (by decide) (fun c52 => ?_) (fun c52 => ?_)
              · skip
                have q2 : (rp (M.1 271) a 3 == nI m) = false := by rw [beq_eq_false_iff_ne]; exact c52
                refine v_iconst hX (v := 0) 41 rfl (by decide) ?_
                exact V.sub (j70 _ (by rw [hst]; first | (rw [q2, Bool.false_and, ← Bool.or_assoc, q1]; rfl) | (rw [q3, Bool.and_false, ← Bool.or_assoc, q1]; rfl))) rfl ⟨rfl, rfl, rfl, rfl, rfl, trivial⟩
              · skip
                have q2 : (rp (M.1 271) a 3 == nI m) = true := by rw [beq_iff_eq]; exact c52
                refine v_aload_n hX 0 34 rfl rfl rfl ?_
                refine g_7_7 hX 35  tw_653 rfl ?_
                refine v_iload hX 36 rfl rfl ?_
                refine v_iald hX (k := 276) (by decide) rfl (vp_in_nI (by omega) (by decide)) 37 rfl ?_
                rw [nI_clamp (by omega), mrow_s]
                refine v_if_ne hX (tgt := 69) 38 rfl (by decide) (fun c62 => ?_) (fun c62 => ?_)
                · skip
                  have q3 : laS (M.1 276) more (rp (M.1 271)) n a = false := by cases g : laS (M.1 276) more (rp (M.1 271)) n a; rfl; exact absurd ((laR_0 (show m + 1 ≤ a from hma) ha2).mpr g) c62
                  refine v_iconst hX (v := 0) 41 rfl (by decide) ?_
                  exact V.sub (j70 _ (by rw [hst]; first | (rw [q2, Bool.false_and, ← Bool.or_assoc, q1]; rfl) | (rw [q3, Bool.and_false, ← Bool.or_assoc, q1]; rfl))) rfl ⟨rfl, rfl, rfl, rfl, rfl, trivial⟩
                · skip
                  have q3 : laS (M.1 276) more (rp (M.1 271)) n a = true := (laR_0 (show m + 1 ≤ a from hma) ha2).mp c62
                  refine v_iconst hX (v := 1) 39 rfl (by decide) ?_
                  refine v_goto hX (tgt := 70) 40 rfl (by decide) ?_
                  exact V.sub (j70 _ (by rw [hst]; first | (rw [← Bool.or_assoc, q1]; rfl) | (rw [q2, q3]; simp [b01]))) rfl ⟨rfl, rfl, rfl, rfl, rfl, trivial⟩
        exact V.sub (lq (m + 1) (by omega) (Nat.le_refl _) _ (by rw [hv, anS_end, Bool.or_false])) rfl ⟨rfl, rfl, rfl, rfl, rfl, trivial⟩
      refine v_iload_n hX 2 9 rfl rfl rfl ?_
      refine v_iload_n hX 1 10 rfl rfl rfl ?_
      refine v_icmp_ne hX (tgt := 22) 11 rfl (by decide) (fun c15 => ?_) (fun c15 => ?_)
      · skip
        have q0 : (nI m == more) = false := by rw [beq_eq_false_iff_ne]; exact c15
        refine v_iconst hX (v := 0) 14 rfl (by decide) ?_
        exact V.sub (j23 _ (by rw [q0]; rfl)) rfl ⟨rfl, rfl, rfl, trivial⟩
      · skip
        have q0 : (nI m == more) = true := by rw [beq_iff_eq]; exact c15
        refine v_iconst hX (v := 1) 12 rfl (by decide) ?_
        refine v_goto hX (tgt := 23) 13 rfl (by decide) ?_
        exact V.sub (j23 _ (by rw [q0]; rfl)) rfl ⟨rfl, rfl, rfl, trivial⟩
  refine V.subM (lp n (Nat.le_refl n)) ?_ rfl ⟨rfl, rfl, rfl, trivial⟩
  rw [laR_n, mrow_self]
set_option maxRecDepth 100000 in
set_option maxHeartbeats 4000000 in
theorem r_look {Y : Yt} {M : Mm} {n : Nat} (hz : M.1 271 3 = nI n) (hn : n ≤ 24) (hw : WF (rp (M.1 271)) n) : Fn Y yX7_look wsX7_look { frames := 4, cells := 0, slots := 0, locals := 87 } [.ref (Y.2.2.2 270)] M none ((lkM M n)) := by
  refine Fn.of (cc := cX7_look) (ins := iX7_look) (maxL := 1) (ret := none) (by decide) dX7_look [some (.ref (Y.2.2.2 270))] (Nat.le_of_ble_eq_true rfl) rfl rfl ?_
  intro X hX hQ
  refine v_aload_n hX 0 0 rfl rfl rfl ?_
  refine v_callV hX 0 (by decide) rfl rfl (r_layOut hz hn hw) tw_773 tw_770 tw_772 tw_63 tw_99 (by decide +kernel) ⟨⟨rfl, rfl⟩, Nat.le_of_ble_eq_true rfl, Nat.le_of_ble_eq_true rfl⟩ rfl (Nat.le_of_ble_eq_true rfl) rfl rfl 1 rfl ?_
  refine v_aload_n hX 0 2 rfl rfl rfl ?_
  refine v_bipush hX (v := (-6)) 3 rfl (by decide) ?_
  refine v_callV hX 1 (by decide) rfl rfl (r_layAnswered (show (wt M (wyR M n) (tkR M n)).1 271 3 = nI n by rw [wt_z]; exact hz) hn) tw_789 tw_786 tw_788 tw_67 tw_99 (by decide +kernel) ⟨⟨rfl, rfl⟩, Nat.le_of_ble_eq_true rfl, Nat.le_of_ble_eq_true rfl⟩ rfl (Nat.le_of_ble_eq_true rfl) rfl rfl 4 rfl ?_
  refine v_vret hX hQ rfl rfl ?_ 5 rfl
  unfold lkM lkW; rw [wt_r6, wt_z]; exact lk_norm
