set_option maxRecDepth 100000 in
set_option maxHeartbeats 4000000 in
theorem r_readOrder {Y : Yt} {M : Mm} {s o q : Nat → Int32} {l a : Nat} {w : Int32} (h : RpOK M s q l) (ha : a < 1000) {m : Nat} (hm : q 12 = nI m) (hm2 : m ≤ 27) (ha2 : a ≤ 800) : Fn Y yX7_readOrder wsX7_readOrder { frames := 3, cells := 0, slots := 0, locals := 67 } [.ref (Y.2.2.2 270)] (pM M o q a w) none ((pM M (ordO s l a w o m) (upd q 12 (nI (m + 1))) (ordT s l a w).1 (ordT s l a w).2)) := by
  have h1 : (oT1 s l a w).1 ≤ a + 1 := wn_le.2
  have h2 : (oTa s l a w).1 ≤ (oT1 s l a w).1 + 2 := oT2_le.2
  have h3 := oTb_le (s := s) (l := l) (t := (oTa s l a w))
  have h0 : RpOK M s (upd q 12 (nI (m + 1))) l := ⟨h.1, by rw [upd_n (by decide)]; exact h.2.1, h.2.2⟩
  refine Fn.of (cc := cX7_readOrder) (ins := iX7_readOrder) (maxL := 3) (ret := none) (by decide) dX7_readOrder [some (.ref (Y.2.2.2 270)), none, none] (Nat.le_of_ble_eq_true rfl) rfl rfl ?_
  intro X hX hQ
  refine v_iconst hX (v := 4) 0 rfl (by decide) ?_
  refine v_aload_n hX 0 1 rfl rfl rfl ?_
  refine g_7_12 hX 2  tw_658 rfl ?_
  rw [pM_r, rq_n (by decide), hm]
  refine v_imul hX 3 rfl ?_
  rw [x4n]
  refine v_istore_n hX 1 4 rfl rfl (Nat.le_of_ble_eq_true rfl) rfl ?_
  refine v_aload_n hX 0 5 rfl rfl rfl ?_
  refine v_callV hX 0 (by decide) rfl rfl (r_letter h ha) tw_926 tw_923 tw_925 tw_84 tw_99 (by decide +kernel) ⟨⟨rfl, rfl⟩, Nat.le_of_ble_eq_true rfl, Nat.le_of_ble_eq_true rfl⟩ rfl (Nat.le_of_ble_eq_true rfl) rfl rfl 6 rfl ?_
  refine v_istore_n hX 2 7 rfl rfl (Nat.le_of_ble_eq_true rfl) rfl ?_
  refine v_aload_n hX 0 8 rfl rfl rfl ?_
  refine g_7_11 hX 9  tw_657 rfl ?_
  refine v_iload_n hX 1 10 rfl rfl rfl ?_
  refine v_iload_n hX 2 11 rfl rfl rfl ?_
  refine v_iast hX (k := 280) (by decide) rfl rfl (vp_in_nI (by omega) (by decide)) rfl 12 rfl ?_
  refine V.mem pM_o ?_
  rw [nI_clamp (by omega)]
  have j61 : ∀ (v : Int32), v = b01 (isO (chB s l a)) → V Y X (pM M (upd o (4 * m) (chB s l a)) q a w) 61 [some (.ref (Y.2.2.2 270)), some (.int (nI (4 * m))), some (.int (chB s l a))] [.int v, .ref (Y.2.2.2 270)] := by
    intro v hv
    subst hv
    refine v_callV hX 1 (by decide) rfl rfl (r_wants (b := isO (chB s l a)) h ha) tw_930 tw_927 tw_929 tw_85 tw_99 (by decide +kernel) ⟨⟨rfl, rfl⟩, Nat.le_of_ble_eq_true rfl, Nat.le_of_ble_eq_true rfl⟩ rfl (Nat.le_of_ble_eq_true rfl) rfl rfl 35 rfl ?_
    have j106 : ∀ (y : Int32) (t : Nat × Int32), y = oV1 s l (chB s l a) (oT1 s l a w) → t = (oTa s l a w) → V Y X (pM M (upd o (4 * m) (chB s l a)) q t.1 t.2) 106 [some (.ref (Y.2.2.2 270)), some (.int (nI (4 * m))), some (.int (chB s l a))] [.int y, .int (nI (4 * m + 1)), .ref (Y.2.2.2 280)] := by
      intro y t hy ht
      subst hy ht
      refine v_iast hX (k := 280) (by decide) rfl rfl (vp_in_nI (by omega) (by decide)) rfl 59 rfl ?_
      refine V.mem pM_o ?_
      rw [nI_clamp (by omega)]
      have j164 : ∀ (o3 : Nat → Int32) (t3 : Nat × Int32), o3 = ordO s l a w o m → t3 = ordT s l a w → V Y X (pM M o3 q t3.1 t3.2) 164 [some (.ref (Y.2.2.2 270)), some (.int (nI (4 * m))), some (.int (chB s l a))] [] := by
        intro o3 t3 ho3 ht3
        refine v_aload_n hX 0 93 rfl rfl rfl ?_
        refine v_dup hX 94 rfl rfl ?_
        refine g_7_12 hX 95  tw_658 rfl ?_
        rw [pM_r, rq_n (by decide), hm]
        refine v_iconst hX (v := 1) 96 rfl (by decide) ?_
        refine v_iadd hX 97 rfl ?_
        rw [nI_1]
        refine p_7_12 hX 98   tw_658 rfl ?_
        refine V.mem (pM_u (by decide)) ?_
        refine v_vret hX hQ rfl rfl ?_ 99 rfl
        rw [ho3, ht3]
      have j119 : ∀ (hca : (chB s l a) = 99 ∨ (chB s l a) = 97), V Y X (pM M (ordR s l a w o m) q (oTa s l a w).1 (oTa s l a w).2) 119 [some (.ref (Y.2.2.2 270)), some (.int (nI (4 * m))), some (.int (chB s l a))] [] := by
        intro hca
        refine v_aload_n hX 0 66 rfl rfl rfl ?_
        have j134 : ∀ (v2 : Int32), v2 = b01 (decide (chB s l (oTa s l a w).1 = 47)) → V Y X (pM M (ordR s l a w o m) q (oTa s l a w).1 (oTa s l a w).2) 134 [some (.ref (Y.2.2.2 270)), some (.int (nI (4 * m))), some (.int (chB s l a))] [.int v2, .ref (Y.2.2.2 270)] := by
          intro v2 hv2
          subst hv2
          refine v_callV hX 1 (by decide) rfl rfl (r_wants (b := decide (chB s l (oTa s l a w).1 = 47)) h (by omega)) tw_930 tw_927 tw_929 tw_85 tw_99 (by decide +kernel) ⟨⟨rfl, rfl⟩, Nat.le_of_ble_eq_true rfl, Nat.le_of_ble_eq_true rfl⟩ rfl (Nat.le_of_ble_eq_true rfl) rfl rfl 74 rfl ?_
          show V Y X (pM M (ordR s l a w o m) q (oT3 s l (oTa s l a w)).1 (oT3 s l (oTa s l a w)).2) _ _ _
          refine v_aload_n hX 0 75 rfl rfl rfl ?_
          refine g_7_11 hX 76  tw_657 rfl ?_
          refine v_iload_n hX 1 77 rfl rfl rfl ?_
          refine v_iconst hX (v := 2) 78 rfl (by decide) ?_
          refine v_iadd hX 79 rfl ?_
          rw [x4p (x := 2) 2 rfl]
          refine v_aload_n hX 0 80 rfl rfl rfl ?_
          refine v_iconst hX (v := 1) 81 rfl (by decide) ?_
          refine v_bipush hX (v := 9) 82 rfl (by decide) ?_
          refine v_callV hX 2 (by decide) rfl rfl (r_digit h (by omega)) tw_934 tw_931 tw_933 tw_86 tw_99 (by decide +kernel) ⟨⟨rfl, rfl⟩, Nat.le_of_ble_eq_true rfl, Nat.le_of_ble_eq_true rfl⟩ rfl (Nat.le_of_ble_eq_true rfl) rfl rfl 83 rfl ?_
          show V Y X (pM M (ordR s l a w o m) q (oTb s l (oTa s l a w)).1 (oTb s l (oTa s l a w)).2) _ _ _
          refine v_iast hX (k := 280) (by decide) rfl rfl (vp_in_nI (by omega) (by decide)) rfl 84 rfl ?_
          refine V.mem pM_o ?_
          rw [nI_clamp (by omega)]
          refine v_aload_n hX 0 85 rfl rfl rfl ?_
          refine g_7_11 hX 86  tw_657 rfl ?_
          refine v_iload_n hX 1 87 rfl rfl rfl ?_
          refine v_iconst hX (v := 3) 88 rfl (by decide) ?_
          refine v_iadd hX 89 rfl ?_
          rw [x4p (x := 3) 3 rfl]
          refine v_aload_n hX 0 90 rfl rfl rfl ?_
          refine v_callV hX 0 (by decide) rfl rfl (r_cites h (by omega) (by omega)) tw_942 tw_939 tw_941 tw_88 tw_99 (by decide +kernel) ⟨⟨rfl, rfl⟩, Nat.le_of_ble_eq_true rfl, Nat.le_of_ble_eq_true rfl⟩ rfl (Nat.le_of_ble_eq_true rfl) rfl rfl 91 rfl ?_
          refine v_iast hX (k := 280) (by decide) rfl rfl (vp_in_nI (by omega) (by decide)) rfl 92 rfl ?_
          refine V.mem pM_o ?_
          rw [nI_clamp (by omega)]
          exact V.sub (j164 _ _ (by unfold ordO; rw [if_pos hca]) (by unfold ordT; rw [if_pos hca])) rfl ⟨rfl, rfl, rfl, trivial⟩
        refine v_aload_n hX 0 67 rfl rfl rfl ?_
        refine v_callV hX 0 (by decide) rfl rfl (r_letter h (by omega)) tw_926 tw_923 tw_925 tw_84 tw_99 (by decide +kernel) ⟨⟨rfl, rfl⟩, Nat.le_of_ble_eq_true rfl, Nat.le_of_ble_eq_true rfl⟩ rfl (Nat.le_of_ble_eq_true rfl) rfl rfl 68 rfl ?_
        refine v_bipush hX (v := 47) 69 rfl (by decide) ?_
        refine v_icmp_ne hX (tgt := 133) 70 rfl (by decide) (fun c126 => ?_) (fun c126 => ?_)
        · skip
          refine v_iconst hX (v := 0) 73 rfl (by decide) ?_
          exact V.sub (j134 _ (by rw [decide_eq_false c126]; rfl)) rfl ⟨rfl, rfl, rfl, trivial⟩
        · skip
          refine v_iconst hX (v := 1) 71 rfl (by decide) ?_
          refine v_goto hX (tgt := 134) 72 rfl (by decide) ?_
          exact V.sub (j134 _ (by rw [decide_eq_true c126]; rfl)) rfl ⟨rfl, rfl, rfl, trivial⟩
      refine v_iload_n hX 2 60 rfl rfl rfl ?_
      refine v_bipush hX (v := 99) 61 rfl (by decide) ?_
      refine v_icmp_eq hX (tgt := 119) 62 rfl (by decide) (fun c110 => ?_) (fun c110 => ?_)
      · skip
        exact V.sub (j119 (Or.inl c110)) rfl ⟨rfl, rfl, rfl, trivial⟩
      · skip
        refine v_iload_n hX 2 63 rfl rfl rfl ?_
        refine v_bipush hX (v := 97) 64 rfl (by decide) ?_
        refine v_icmp_ne hX (tgt := 164) 65 rfl (by decide) (fun c116 => ?_) (fun c116 => ?_)
        · skip
          exact V.sub (j164 (ordR s l a w o m) (oTa s l a w) (by unfold ordO; rw [if_neg (fun g => g.elim c110 c116)]) (by unfold ordT; rw [if_neg (fun g => g.elim c110 c116)])) rfl ⟨rfl, rfl, rfl, trivial⟩
        · skip
          exact V.sub (j119 (Or.inr c116)) rfl ⟨rfl, rfl, rfl, trivial⟩
    refine v_aload_n hX 0 36 rfl rfl rfl ?_
    refine g_7_11 hX 37  tw_657 rfl ?_
    refine v_iload_n hX 1 38 rfl rfl rfl ?_
    refine v_iconst hX (v := 1) 39 rfl (by decide) ?_
    refine v_iadd hX 40 rfl ?_
    rw [nI_1]
    refine v_iload_n hX 2 41 rfl rfl rfl ?_
    refine v_bipush hX (v := 99) 42 rfl (by decide) ?_
    refine v_icmp_ne hX (tgt := 86) 43 rfl (by decide) (fun c74 => ?_) (fun c74 => ?_)
    · skip
      refine v_iload_n hX 2 49 rfl rfl rfl ?_
      refine v_bipush hX (v := 111) 50 rfl (by decide) ?_
      refine v_icmp_ne hX (tgt := 102) 51 rfl (by decide) (fun c89 => ?_) (fun c89 => ?_)
      · skip
        refine v_aload_n hX 0 57 rfl rfl rfl ?_
        refine v_callV hX 0 (by decide) rfl rfl (r_number h (Nat.lt_of_le_of_lt h1 (by omega)) (Nat.lt_of_le_of_lt h1 (by omega))) tw_938 tw_935 tw_937 tw_87 tw_99 (by decide +kernel) ⟨⟨rfl, rfl⟩, Nat.le_of_ble_eq_true rfl, Nat.le_of_ble_eq_true rfl⟩ rfl (Nat.le_of_ble_eq_true rfl) rfl rfl 58 rfl ?_
        exact V.sub (j106 _ _ (by unfold oV1; rw [if_neg c74, if_neg c89]; rfl) (by unfold oTa oT2; rw [if_neg c74, if_neg c89]; rfl)) rfl ⟨rfl, rfl, rfl, trivial⟩
      · skip
        refine v_aload_n hX 0 52 rfl rfl rfl ?_
        refine v_iconst hX (v := 0) 53 rfl (by decide) ?_
        refine v_bipush hX (v := 9) 54 rfl (by decide) ?_
        refine v_callV hX 2 (by decide) rfl rfl (r_digit h (Nat.lt_of_le_of_lt h1 (by omega))) tw_934 tw_931 tw_933 tw_86 tw_99 (by decide +kernel) ⟨⟨rfl, rfl⟩, Nat.le_of_ble_eq_true rfl, Nat.le_of_ble_eq_true rfl⟩ rfl (Nat.le_of_ble_eq_true rfl) rfl rfl 55 rfl ?_
        refine v_goto hX (tgt := 106) 56 rfl (by decide) ?_
        exact V.sub (j106 _ _ (by unfold oV1; rw [if_neg c74, if_pos c89]; rfl) (by unfold oTa oT2; rw [if_neg c74, if_pos c89]; rfl)) rfl ⟨rfl, rfl, rfl, trivial⟩
    · skip
      refine v_aload_n hX 0 44 rfl rfl rfl ?_
      refine v_iconst hX (v := 0) 45 rfl (by decide) ?_
      refine v_iconst hX (v := 1) 46 rfl (by decide) ?_
      refine v_callV hX 2 (by decide) rfl rfl (r_digit h (Nat.lt_of_le_of_lt h1 (by omega))) tw_934 tw_931 tw_933 tw_86 tw_99 (by decide +kernel) ⟨⟨rfl, rfl⟩, Nat.le_of_ble_eq_true rfl, Nat.le_of_ble_eq_true rfl⟩ rfl (Nat.le_of_ble_eq_true rfl) rfl rfl 47 rfl ?_
      refine v_goto hX (tgt := 106) 48 rfl (by decide) ?_
      exact V.sub (j106 _ _ (by unfold oV1; rw [if_pos c74]; rfl) (by unfold oTa oT2; rw [if_pos c74]; rfl)) rfl ⟨rfl, rfl, rfl, trivial⟩
  refine v_aload_n hX 0 13 rfl rfl rfl ?_
  refine v_iload_n hX 2 14 rfl rfl rfl ?_
  refine v_bipush hX (v := 99) 15 rfl (by decide) ?_
  refine v_icmp_eq hX (tgt := 56) 16 rfl (by decide) (fun c23 => ?_) (fun c23 => ?_)
  · skip
    refine v_iconst hX (v := 1) 32 rfl (by decide) ?_
    refine v_goto hX (tgt := 61) 33 rfl (by decide) ?_
    exact V.sub (j61 _ (by simp [isO, c23, b01])) rfl ⟨rfl, rfl, rfl, trivial⟩
  · skip
    refine v_iload_n hX 2 17 rfl rfl rfl ?_
    refine v_bipush hX (v := 97) 18 rfl (by decide) ?_
    refine v_icmp_eq hX (tgt := 56) 19 rfl (by decide) (fun c29 => ?_) (fun c29 => ?_)
    · skip
      refine v_iconst hX (v := 1) 32 rfl (by decide) ?_
      refine v_goto hX (tgt := 61) 33 rfl (by decide) ?_
      exact V.sub (j61 _ (by simp [isO, c23, c29, b01])) rfl ⟨rfl, rfl, rfl, trivial⟩
    · skip
      refine v_iload_n hX 2 20 rfl rfl rfl ?_
      refine v_bipush hX (v := 119) 21 rfl (by decide) ?_
      refine v_icmp_eq hX (tgt := 56) 22 rfl (by decide) (fun c35 => ?_) (fun c35 => ?_)
      · skip
        refine v_iconst hX (v := 1) 32 rfl (by decide) ?_
        refine v_goto hX (tgt := 61) 33 rfl (by decide) ?_
        exact V.sub (j61 _ (by simp [isO, c23, c29, c35, b01])) rfl ⟨rfl, rfl, rfl, trivial⟩
      · skip
        refine v_iload_n hX 2 23 rfl rfl rfl ?_
        refine v_bipush hX (v := 114) 24 rfl (by decide) ?_
        refine v_icmp_eq hX (tgt := 56) 25 rfl (by decide) (fun c41 => ?_) (fun c41 => ?_)
        · skip
          refine v_iconst hX (v := 1) 32 rfl (by decide) ?_
          refine v_goto hX (tgt := 61) 33 rfl (by decide) ?_
          exact V.sub (j61 _ (by simp [isO, c23, c29, c35, c41, b01])) rfl ⟨rfl, rfl, rfl, trivial⟩
        · skip
          refine v_iload_n hX 2 26 rfl rfl rfl ?_
          refine v_bipush hX (v := 111) 27 rfl (by decide) ?_
          refine v_icmp_eq hX (tgt := 56) 28 rfl (by decide) (fun c47 => ?_) (fun c47 => ?_)
          · skip
            refine v_iconst hX (v := 1) 32 rfl (by decide) ?_
            refine v_goto hX (tgt := 61) 33 rfl (by decide) ?_
            exact V.sub (j61 _ (by simp [isO, c23, c29, c35, c41, c47, b01])) rfl ⟨rfl, rfl, rfl, trivial⟩
          · skip
            refine v_iload_n hX 2 29 rfl rfl rfl ?_
            refine v_bipush hX (v := 116) 30 rfl (by decide) ?_
            refine v_icmp_ne hX (tgt := 60) 31 rfl (by decide) (fun c53 => ?_) (fun c53 => ?_)
            · skip
              refine v_iconst hX (v := 0) 34 rfl (by decide) ?_
              exact V.sub (j61 _ (by simp [isO, c23, c29, c35, c41, c47, c53, b01])) rfl ⟨rfl, rfl, rfl, trivial⟩
            · skip
              refine v_iconst hX (v := 1) 32 rfl (by decide) ?_
              refine v_goto hX (tgt := 61) 33 rfl (by decide) ?_
              exact V.sub (j61 _ (by simp [isO, c23, c29, c35, c41, c47, c53, b01])) rfl ⟨rfl, rfl, rfl, trivial⟩
