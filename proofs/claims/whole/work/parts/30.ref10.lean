set_option maxRecDepth 100000 in
set_option maxHeartbeats 4000000 in
theorem r_fault {Y : Yt} {M : Mm} {s : Nat → Int32} {l : Nat} (h : RpOK M s (M.1 270) l) : Fn Y yX7_fault wsX7_fault { frames := 5, cells := 0, slots := 0, locals := 110 } [.ref (Y.2.2.2 270)] M (some (.int (rdF s l 27 0 0 (M.1 280)).1)) ((pM M (rdF s l 27 0 0 (M.1 280)).2.2.1 (upd (M.1 270) 12 (nI (rdF s l 27 0 0 (M.1 280)).2.2.2)) (rdF s l 27 0 0 (M.1 280)).2.1 (rdF s l 27 0 0 (M.1 280)).1)) := by
  refine Fn.of (cc := cX7_fault) (ins := iX7_fault) (maxL := 1) (ret := (some .int)) (by decide) dX7_fault [some (.ref (Y.2.2.2 270))] (Nat.le_of_ble_eq_true rfl) rfl rfl ?_
  intro X hX hQ
  refine v_aload_n hX 0 0 rfl rfl rfl ?_
  refine v_callV hX 0 (by decide) rfl rfl (r_readPad h) tw_918 tw_915 tw_917 tw_82 tw_99 (by decide +kernel) ⟨⟨rfl, rfl⟩, Nat.le_of_ble_eq_true rfl, Nat.le_of_ble_eq_true rfl⟩ rfl (Nat.le_of_ble_eq_true rfl) rfl rfl 1 rfl ?_
  refine v_iret hX hQ rfl rfl ?_ ?_ 2 rfl
  · rfl
  · rfl
set_option maxRecDepth 100000 in
set_option maxHeartbeats 4000000 in
theorem r_carryOut_bad {Y : Yt} {M : Mm} {s : Nat → Int32} {l : Nat} (h : RpOK M s (M.1 270) l) (hf : ¬ (rdF s l 27 0 0 (M.1 280)).1 = -6) : Fn Y yX7_carryOut wsX7_carryOut { frames := 5, cells := 0, slots := 0, locals := 114 } [.ref (Y.2.2.2 270)] M (some (.int (-3))) ((pM M (rdF s l 27 0 0 (M.1 280)).2.2.1 (upd (M.1 270) 12 (nI (rdF s l 27 0 0 (M.1 280)).2.2.2)) (rdF s l 27 0 0 (M.1 280)).2.1 (rdF s l 27 0 0 (M.1 280)).1)) := by
  refine Fn.of (cc := cX7_carryOut) (ins := iX7_carryOut) (maxL := 2) (ret := (some .int)) (by decide) dX7_carryOut [some (.ref (Y.2.2.2 270)), none] (Nat.le_of_ble_eq_true rfl) rfl rfl ?_
  intro X hX hQ
  refine v_aload_n hX 0 0 rfl rfl rfl ?_
  refine v_callV hX 0 (by decide) rfl rfl (r_readPad h) tw_918 tw_915 tw_917 tw_82 tw_99 (by decide +kernel) ⟨⟨rfl, rfl⟩, Nat.le_of_ble_eq_true rfl, Nat.le_of_ble_eq_true rfl⟩ rfl (Nat.le_of_ble_eq_true rfl) rfl rfl 1 rfl ?_
  refine v_bipush hX (v := (-6)) 2 rfl (by decide) ?_
  refine v_icmp_eq hX (tgt := 12) 3 rfl (by decide) (fun c6 => absurd c6 hf) (fun c6 => ?_)
  refine v_bipush hX (v := (-3)) 4 rfl (by decide) ?_
  refine v_iret hX hQ rfl rfl ?_ ?_ 5 rfl
  · rfl
  · rfl
set_option maxRecDepth 100000 in
set_option maxHeartbeats 4000000 in
theorem r_carryOut {Y : Yt} {M : Mm} {s : Nat → Int32} {l : Nat} (h : RpOK M s (M.1 270) l) {n k : Nat} (hf : (rdF s l 27 0 0 (M.1 280)).1 = -6) (hz : M.1 271 3 = nI n) (hn : n ≤ 24) (hk : k ≤ 6) (hkk : M.1 270 4 = nI k) : Fn Y yX7_carryOut wsX7_carryOut { frames := 5, cells := 0, slots := 0, locals := 114 } [.ref (Y.2.2.2 270)] M (some (.int (nI (dL (rdF s l 27 0 0 (M.1 280)).2.2.2 0 (rcM (pM M (rdF s l 27 0 0 (M.1 280)).2.2.1 (upd (M.1 270) 12 (nI (rdF s l 27 0 0 (M.1 280)).2.2.2)) (rdF s l 27 0 0 (M.1 280)).2.1 (rdF s l 27 0 0 (M.1 280)).1) k)).1))) ((mset (dL (rdF s l 27 0 0 (M.1 280)).2.2.2 0 (rcM (pM M (rdF s l 27 0 0 (M.1 280)).2.2.1 (upd (M.1 270) 12 (nI (rdF s l 27 0 0 (M.1 280)).2.2.2)) (rdF s l 27 0 0 (M.1 280)).2.1 (rdF s l 27 0 0 (M.1 280)).1) k)).2 270 6 0)) := by
  have hmo : (rdF s l 27 0 0 (M.1 280)).2.2.2 ≤ 27 := by have := rdF_le (s := s) (l := l) 27 0 0 (M.1 280); omega
  have hb4 : (pM M (rdF s l 27 0 0 (M.1 280)).2.2.1 (upd (M.1 270) 12 (nI (rdF s l 27 0 0 (M.1 280)).2.2.2)) (rdF s l 27 0 0 (M.1 280)).2.1 (rdF s l 27 0 0 (M.1 280)).1).1 270 4 = nI k := by rw [pM_r, rq_n (by decide), upd_n (by decide)]; exact hkk
  refine Fn.of (cc := cX7_carryOut) (ins := iX7_carryOut) (maxL := 2) (ret := (some .int)) (by decide) dX7_carryOut [some (.ref (Y.2.2.2 270)), none] (Nat.le_of_ble_eq_true rfl) rfl rfl ?_
  intro X hX hQ
  refine v_aload_n hX 0 0 rfl rfl rfl ?_
  refine v_callV hX 0 (by decide) rfl rfl (r_readPad h) tw_918 tw_915 tw_917 tw_82 tw_99 (by decide +kernel) ⟨⟨rfl, rfl⟩, Nat.le_of_ble_eq_true rfl, Nat.le_of_ble_eq_true rfl⟩ rfl (Nat.le_of_ble_eq_true rfl) rfl rfl 1 rfl ?_
  refine v_bipush hX (v := (-6)) 2 rfl (by decide) ?_
  refine v_icmp_eq hX (tgt := 12) 3 rfl (by decide) (fun c6 => ?_) (fun c6 => absurd hf c6)
  refine v_aload_n hX 0 6 rfl rfl rfl ?_
  refine v_callV hX 0 (by decide) rfl rfl (r_record hk hb4) tw_711 tw_708 tw_710 tw_53 tw_99 (by decide +kernel) ⟨⟨rfl, rfl⟩, Nat.le_of_ble_eq_true rfl, Nat.le_of_ble_eq_true rfl⟩ rfl (Nat.le_of_ble_eq_true rfl) rfl rfl 7 rfl ?_
  refine v_iconst hX (v := 0) 8 rfl (by decide) ?_
  refine v_istore_n hX 1 9 rfl rfl (Nat.le_of_ble_eq_true rfl) rfl ?_
  have lp : ∀ (i : Nat), i ≤ (rdF s l 27 0 0 (M.1 280)).2.2.2 → ∀ (B : Mm) (n2 : Nat), B.1 271 3 = nI n2 → n2 ≤ 24 → B.1 270 12 = nI (rdF s l 27 0 0 (M.1 280)).2.2.2 → dL ((rdF s l 27 0 0 (M.1 280)).2.2.2 - i) i B = (dL (rdF s l 27 0 0 (M.1 280)).2.2.2 0 (rcM (pM M (rdF s l 27 0 0 (M.1 280)).2.2.1 (upd (M.1 270) 12 (nI (rdF s l 27 0 0 (M.1 280)).2.2.2)) (rdF s l 27 0 0 (M.1 280)).2.1 (rdF s l 27 0 0 (M.1 280)).1) k)) → V Y X B 18 [some (.ref (Y.2.2.2 270)), some (.int (nI i))] [] := by
    refine upTo (rdF s l 27 0 0 (M.1 280)).2.2.2 (fun i hi ih => ?_)
    intro B n2 hz2 hn2 hB12 he
    refine v_iload_n hX 1 10 rfl rfl rfl ?_
    refine v_aload_n hX 0 11 rfl rfl rfl ?_
    refine g_7_12 hX 12  tw_658 rfl ?_
    rw [hB12]
    refine v_icmp_ge hX (tgt := 40) 13 rfl (by decide) (fun c23 => ?_) (fun c23 => ?_)
    · skip
      have hi2 : i = (rdF s l 27 0 0 (M.1 280)).2.2.2 := by have := of_le c23 (by omega) (by omega); omega
      have e1 : (i, B) = (dL (rdF s l 27 0 0 (M.1 280)).2.2.2 0 (rcM (pM M (rdF s l 27 0 0 (M.1 280)).2.2.1 (upd (M.1 270) 12 (nI (rdF s l 27 0 0 (M.1 280)).2.2.2)) (rdF s l 27 0 0 (M.1 280)).2.1 (rdF s l 27 0 0 (M.1 280)).1) k)) := by rw [← he, hi2, Nat.sub_self]; rfl
      refine v_aload_n hX 0 20 rfl rfl rfl ?_
      refine v_iconst hX (v := 0) 21 rfl (by decide) ?_
      refine p_7_6 hX 22   tw_652 rfl ?_
      refine v_iload_n hX 1 23 rfl rfl rfl ?_
      refine v_iret hX hQ rfl rfl ?_ ?_ 24 rfl
      · rw [← e1]
      · rw [← e1]
    · skip
      have hi2 : i < (rdF s l 27 0 0 (M.1 280)).2.2.2 := of_nle c23 (by omega) (by omega)
      obtain ⟨f, hf2⟩ : ∃ f, (rdF s l 27 0 0 (M.1 280)).2.2.2 - i = f + 1 := ⟨(rdF s l 27 0 0 (M.1 280)).2.2.2 - i - 1, by omega⟩
      rw [hf2, dL, nz_eq hz2 hn2] at he
      refine v_aload_n hX 0 14 rfl rfl rfl ?_
      refine v_iload_n hX 1 15 rfl rfl rfl ?_
      refine v_callV hX 1 (by decide) rfl rfl (r_does hz2 hn2 (show i < 28 by omega)) tw_950 tw_947 tw_949 tw_89 tw_99 (by decide +kernel) ⟨⟨rfl, rfl⟩, Nat.le_of_ble_eq_true rfl, Nat.le_of_ble_eq_true rfl⟩ rfl (Nat.le_of_ble_eq_true rfl) rfl rfl 16 rfl ?_
      refine v_if_eq hX (tgt := 40) 17 rfl (by decide) (fun c31 => ?_) (fun c31 => ?_)
      · skip
        have hB := b01_f c31
        rw [if_neg (by rw [hB]; decide)] at he
        have e1 : (i, B) = (dL (rdF s l 27 0 0 (M.1 280)).2.2.2 0 (rcM (pM M (rdF s l 27 0 0 (M.1 280)).2.2.1 (upd (M.1 270) 12 (nI (rdF s l 27 0 0 (M.1 280)).2.2.2)) (rdF s l 27 0 0 (M.1 280)).2.1 (rdF s l 27 0 0 (M.1 280)).1) k)) := he
        rw [if_neg (show ¬ doB B n2 i = true by rw [hB]; decide)]
        refine v_aload_n hX 0 20 rfl rfl rfl ?_
        refine v_iconst hX (v := 0) 21 rfl (by decide) ?_
        refine p_7_6 hX 22   tw_652 rfl ?_
        refine v_iload_n hX 1 23 rfl rfl rfl ?_
        refine v_iret hX hQ rfl rfl ?_ ?_ 24 rfl
        · rw [← e1]
        · rw [← e1]
      · skip
        have hB := b01_t c31
        rw [if_pos hB] at he
        rw [if_pos hB]
        obtain ⟨n3, hz3, hn3⟩ := doM_z hz2 hn2 hB
        refine v_iinc hX 18 rfl rfl (nI_inc i) (Nat.le_of_ble_eq_true rfl) rfl ?_
        refine v_goto hX (tgt := 18) 19 rfl (by decide) ?_
        exact V.sub (ih hi2 (doM B n2 i) n3 hz3 hn3 (by rw [doM_n (by decide)]; exact hB12) (by rw [show (rdF s l 27 0 0 (M.1 280)).2.2.2 - (i + 1) = f by omega]; exact he)) rfl ⟨rfl, rfl, trivial⟩
  exact V.sub (lp 0 (Nat.zero_le _) (rcM (pM M (rdF s l 27 0 0 (M.1 280)).2.2.1 (upd (M.1 270) 12 (nI (rdF s l 27 0 0 (M.1 280)).2.2.2)) (rdF s l 27 0 0 (M.1 280)).2.1 (rdF s l 27 0 0 (M.1 280)).1) k) n (by rw [rc_z, pM_n (by decide)]; exact hz) hn (by rw [rcM_r (by decide), pM_r, rq_n (by decide), upd_s]) rfl) rfl ⟨rfl, rfl, trivial⟩
set_option maxRecDepth 100000 in
set_option maxHeartbeats 4000000 in
theorem r_wipe {Y : Yt} {M : Mm} {l : Nat} (hl : M.1 270 6 = nI l) : Fn Y yX7_wipe wsX7_wipe { frames := 0, cells := 0, slots := 0, locals := 0 } [.ref (Y.2.2.2 270)] M (some (.int (nI l))) ((mset M 270 6 0)) := by
  refine Fn.of (cc := cX7_wipe) (ins := iX7_wipe) (maxL := 2) (ret := (some .int)) (by decide) dX7_wipe [some (.ref (Y.2.2.2 270)), none] (Nat.le_of_ble_eq_true rfl) rfl rfl ?_
  intro X hX hQ
  refine v_aload_n hX 0 0 rfl rfl rfl ?_
  refine g_7_6 hX 1  tw_652 rfl ?_
  rw [hl]
  refine v_istore_n hX 1 2 rfl rfl (Nat.le_of_ble_eq_true rfl) rfl ?_
  refine v_aload_n hX 0 3 rfl rfl rfl ?_
  refine v_iconst hX (v := 0) 4 rfl (by decide) ?_
  refine p_7_6 hX 5   tw_652 rfl ?_
  refine v_iload_n hX 1 6 rfl rfl rfl ?_
  refine v_iret hX hQ rfl rfl ?_ ?_ 7 rfl
  · rfl
  · rfl
