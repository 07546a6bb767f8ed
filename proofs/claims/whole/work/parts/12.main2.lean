set_option maxRecDepth 100000 in
set_option maxHeartbeats 4000000 in
theorem f_put_bad {Y : Yt} {M : Mm} {x : Int64} (hg : snL x 8 0 = 0) : Fn Y yX6_put wsX6_put { frames := 2, cells := 0, slots := 0, locals := 45 } [.ref (Y.2.2.2 0), .long x] M (some (.int (-2))) M := by
  refine Fn.of (cc := cX6_put) (ins := iX6_put) (maxL := 5) (ret := (some .int)) (by decide) dX6_put [some (.ref (Y.2.2.2 0)), some (.long x), none, none, none] (Nat.le_of_ble_eq_true rfl) rfl rfl ?_
  intro X hX hQ
  refine v_lload_n hX 1 0 rfl rfl rfl ?_
  refine v_callSN hX 1 (f_signsIn) tw_546 (List.mem_of_getElem? (i := 43) rfl) tw_96 tw_545 (by decide +kernel) ⟨⟨rfl, rfl⟩, Nat.le_of_ble_eq_true rfl, Nat.le_of_ble_eq_true rfl⟩ rfl (Nat.le_of_ble_eq_true rfl) rfl rfl 1 rfl ?_
  refine v_istore_n hX 3 2 rfl rfl (Nat.le_of_ble_eq_true rfl) rfl ?_
  refine v_iload_n hX 3 3 rfl rfl rfl ?_
  refine v_if_ne hX (tgt := 12) 4 rfl (by decide) (fun c6 => absurd c6 (fun h => h hg)) (fun c6 => ?_)
  refine v_bipush hX (v := (-2)) 5 rfl (by decide) ?_
  refine v_iret hX hQ rfl rfl ?_ ?_ 6 rfl
  · rfl
  · rfl
set_option maxRecDepth 100000 in
set_option maxHeartbeats 4000000 in
theorem f_put_many {Y : Yt} {M : Mm} {x : Int64} {l g : Nat} (hl : M.1 30 1 = nI l) (hg : snL x 8 0 = nI g) (hg0 : 0 < g) (hg8 : g ≤ 8) (hl8 : l ≤ 80) (hlg : 80 < l + g) : Fn Y yX6_put wsX6_put { frames := 2, cells := 0, slots := 0, locals := 45 } [.ref (Y.2.2.2 0), .long x] M (some (.int (-4))) M := by
  refine Fn.of (cc := cX6_put) (ins := iX6_put) (maxL := 5) (ret := (some .int)) (by decide) dX6_put [some (.ref (Y.2.2.2 0)), some (.long x), none, none, none] (Nat.le_of_ble_eq_true rfl) rfl rfl ?_
  intro X hX hQ
  refine v_lload_n hX 1 0 rfl rfl rfl ?_
  refine v_callSN hX 1 (f_signsIn) tw_546 (List.mem_of_getElem? (i := 43) rfl) tw_96 tw_545 (by decide +kernel) ⟨⟨rfl, rfl⟩, Nat.le_of_ble_eq_true rfl, Nat.le_of_ble_eq_true rfl⟩ rfl (Nat.le_of_ble_eq_true rfl) rfl rfl 1 rfl ?_
  rw [hg]
  refine v_istore_n hX 3 2 rfl rfl (Nat.le_of_ble_eq_true rfl) rfl ?_
  refine v_iload_n hX 3 3 rfl rfl rfl ?_
  refine v_if_ne hX (tgt := 12) 4 rfl (by decide) (fun c6 => ?_) (fun c6 => absurd c6 (nI_ne0 hg0 (by omega)))
  refine v_aload_n hX 0 7 rfl rfl rfl ?_
  refine g_6_2 hX 8  tw_260 rfl ?_
  refine gN_3_1 hX 9  (List.mem_of_getElem? (i := 19) rfl) rfl ?_
  refine v_iload_n hX 3 10 rfl rfl rfl ?_
  refine v_iadd hX 11 rfl ?_
  refine v_bipush hX (v := 80) 12 rfl (by decide) ?_
  refine v_icmp_le hX (tgt := 29) 13 rfl (by decide) (fun c23 => absurd c23 (by rw [hl, nI_add]; exact nI_ge hlg (by omega))) (fun c23 => ?_)
  refine v_bipush hX (v := (-4)) 14 rfl (by decide) ?_
  refine v_iret hX hQ rfl rfl ?_ ?_ 15 rfl
  · rfl
  · rfl
set_option maxRecDepth 100000 in
set_option maxHeartbeats 4000000 in
theorem f_put {Y : Yt} {M : Mm} {x : Int64} {l g : Nat} (hl : M.1 30 1 = nI l) (hg : snL x 8 0 = nI g) (hg0 : 0 < g) (hg8 : g ≤ 8) (hlg : l + g ≤ 80) : Fn Y yX6_put wsX6_put { frames := 2, cells := 0, slots := 0, locals := 45 } [.ref (Y.2.2.2 0), .long x] M (some (.int (nI (l + g)))) ((apM M x l g g)) := by
  refine Fn.of (cc := cX6_put) (ins := iX6_put) (maxL := 5) (ret := (some .int)) (by decide) dX6_put [some (.ref (Y.2.2.2 0)), some (.long x), none, none, none] (Nat.le_of_ble_eq_true rfl) rfl rfl ?_
  intro X hX hQ
  refine v_lload_n hX 1 0 rfl rfl rfl ?_
  refine v_callSN hX 1 (f_signsIn) tw_546 (List.mem_of_getElem? (i := 43) rfl) tw_96 tw_545 (by decide +kernel) ⟨⟨rfl, rfl⟩, Nat.le_of_ble_eq_true rfl, Nat.le_of_ble_eq_true rfl⟩ rfl (Nat.le_of_ble_eq_true rfl) rfl rfl 1 rfl ?_
  rw [hg]
  refine v_istore_n hX 3 2 rfl rfl (Nat.le_of_ble_eq_true rfl) rfl ?_
  refine v_iload_n hX 3 3 rfl rfl rfl ?_
  refine v_if_ne hX (tgt := 12) 4 rfl (by decide) (fun c6 => ?_) (fun c6 => absurd c6 (nI_ne0 hg0 (by omega)))
  refine v_aload_n hX 0 7 rfl rfl rfl ?_
  refine g_6_2 hX 8  tw_260 rfl ?_
  refine gN_3_1 hX 9  (List.mem_of_getElem? (i := 19) rfl) rfl ?_
  refine v_iload_n hX 3 10 rfl rfl rfl ?_
  refine v_iadd hX 11 rfl ?_
  refine v_bipush hX (v := 80) 12 rfl (by decide) ?_
  refine v_icmp_le hX (tgt := 29) 13 rfl (by decide) (fun c23 => ?_) (fun c23 => absurd (by rw [hl, nI_add]; exact nI_le (b := 80) hlg (by omega)) c23)
  refine v_iload_n hX 3 16 rfl rfl rfl ?_
  refine v_iconst hX (v := 1) 17 rfl (by decide) ?_
  refine v_isub hX 18 rfl ?_
  refine v_istore hX 19 rfl (Nat.le_of_ble_eq_true rfl) rfl ?_
  have lp : ∀ (m : Nat), m ≤ g → V Y X (apM M x l g (g - m)) 34 [some (.ref (Y.2.2.2 0)), some (.long x), none, some (.int (nI g)), some (.int (nI m - 1))] [] := by
    refine downTo (fun m ih => ?_)
    intro hm
    rcases Nat.eq_zero_or_pos m with h0 | h0
    · skip
      subst h0
      refine v_iload hX 20 rfl rfl ?_
      refine v_if_lt hX (tgt := 58) 21 rfl (by decide) (fun c36 => ?_) (fun c36 => absurd (by decide) c36)
      refine v_aload_n hX 0 30 rfl rfl rfl ?_
      refine g_6_2 hX 31  tw_260 rfl ?_
      refine gN_3_1 hX 32  (List.mem_of_getElem? (i := 19) rfl) rfl ?_
      rw [apM_30]
      refine v_iret hX hQ rfl rfl ?_ ?_ 33 rfl
      · rfl
      · rfl
    · skip
      obtain ⟨m, rfl⟩ : ∃ m2, m = m2 + 1 := ⟨m - 1, by omega⟩
      rw [nI_pred]
      refine v_iload hX 20 rfl rfl ?_
      refine v_if_lt hX (tgt := 58) 21 rfl (by decide) (fun c36 => absurd c36 (nI_nlt (Nat.zero_le _) (by omega))) (fun c36 => ?_)
      refine v_aload_n hX 0 22 rfl rfl rfl ?_
      refine g_6_2 hX 23  tw_260 rfl ?_
      refine v_lload_n hX 1 24 rfl rfl rfl ?_
      refine v_iload hX 25 rfl rfl ?_
      refine v_callSN hX 2 (f_signOf) tw_549 (List.mem_of_getElem? (i := 44) rfl) tw_96 tw_548 (by decide +kernel) ⟨⟨rfl, rfl⟩, Nat.le_of_ble_eq_true rfl, Nat.le_of_ble_eq_true rfl⟩ rfl (Nat.le_of_ble_eq_true rfl) rfl rfl 26 rfl ?_
      refine v_callVN hX 1 (by decide) rfl rfl (f_append (l := l + (g - (m + 1))) (by omega) apM_30) tw_555 (List.mem_of_getElem? (i := 45) rfl) tw_96 tw_554 tw_38 (by decide +kernel) ⟨⟨rfl, rfl⟩, Nat.le_of_ble_eq_true rfl, Nat.le_of_ble_eq_true rfl⟩ rfl (Nat.le_of_ble_eq_true rfl) rfl rfl 27 rfl ?_
      rw [sgn_nar]
      refine v_iinc hX 28 rfl rfl (nI_dm m) (Nat.le_of_ble_eq_true rfl) rfl ?_
      refine v_goto hX (tgt := 34) 29 rfl (by decide) ?_
      refine V.subM (ih m (by omega) (by omega)) ?_ rfl ⟨rfl, rfl, rfl, rfl, trivial⟩
      rw [show g - m = g - (m + 1) + 1 by omega, ← apM_s (show g - (m + 1) < g by omega), show g - 1 - (g - (m + 1)) = m by omega]
  refine V.subM (lp g (Nat.le_refl g)) ?_ rfl ⟨rfl, rfl, rfl, rfl, trivial⟩
  rw [Nat.sub_self, apM_0 hl]
set_option maxRecDepth 100000 in
set_option maxHeartbeats 4000000 in
theorem f_follow {Y : Yt} {M : Mm} {n : Nat} (hp : PB M n) : Fn Y yX6_follow wsX6_follow { frames := 5, cells := 0, slots := 0, locals := 110 } [.ref (Y.2.2.2 0)] M (some (.int (foR M n))) ((foM M n)) := by
  refine Fn.of (cc := cX6_follow) (ins := iX6_follow) (maxL := 1) (ret := (some .int)) (by decide) dX6_follow [some (.ref (Y.2.2.2 0))] (Nat.le_of_ble_eq_true rfl) rfl rfl ?_
  intro X hX hQ
  refine v_aload_n hX 0 0 rfl rfl rfl ?_
  refine g_6_3 hX 1  tw_261 rfl ?_
  refine gN_5_2 hX 2  (List.mem_of_getElem? (i := 20) rfl) rfl ?_
  rcases ord7 (M.1 32 2) with hc | hc | hc | hc | hc | hc | hc
  · skip
    have hR : foR M n = fcR n (M.1 32 3) (M.1 32 4) (M.1 32 5) := by unfold foR; rw [if_pos hc]
    have hM : foM M n = fcM M 1 n (M.1 32 3) (M.1 32 4) (M.1 32 5) := by unfold foM; rw [if_pos hc]
    refine v_lookup hX (off := 57) (tgt := 64) 3 rfl (by decide) (by rw [hc]; decide) (by decide) ?_
    refine v_aload_n hX 0 4 rfl rfl rfl ?_
    refine g_6_0 hX 5  tw_258 rfl ?_
    refine v_aload_n hX 0 6 rfl rfl rfl ?_
    refine g_6_3 hX 7  tw_261 rfl ?_
    refine gN_5_3 hX 8  (List.mem_of_getElem? (i := 21) rfl) rfl ?_
    refine v_aload_n hX 0 9 rfl rfl rfl ?_
    refine g_6_3 hX 10  tw_261 rfl ?_
    refine gN_5_4 hX 11  (List.mem_of_getElem? (i := 22) rfl) rfl ?_
    refine v_aload_n hX 0 12 rfl rfl rfl ?_
    refine g_6_3 hX 13  tw_261 rfl ?_
    refine gN_5_5 hX 14  (List.mem_of_getElem? (i := 23) rfl) rfl ?_
    refine v_callVN hX 3 (by have := isB_lt isB_1; omega) (cG_B isB_1) rfl (f_fileClaim isB_1 hp.1 hp.2.1) tw_323 (List.mem_of_getElem? (i := 12) rfl) tw_93 tw_322 tw_8 (by decide +kernel) ⟨⟨rfl, rfl⟩, Nat.le_of_ble_eq_true rfl, Nat.le_of_ble_eq_true rfl⟩ rfl (Nat.le_of_ble_eq_true rfl) rfl rfl 15 rfl ?_
    refine v_iret hX hQ rfl rfl ?_ ?_ 16 rfl
    · rw [hR]
    · rw [hM]
  · skip
    have hR : foR M n = (if ¬ M.1 32 3 < 0 ∧ ¬ nI n ≤ M.1 32 3 then faR M 1 n (M.1 32 3).toNatClampNeg (M.1 32 4) (M.1 32 5) else -1) := by unfold foR; rw [if_neg (by rw [hc]; decide), if_pos hc]
    have hM : foM M n = (if ¬ M.1 32 3 < 0 ∧ ¬ nI n ≤ M.1 32 3 then faM M 1 n (M.1 32 3).toNatClampNeg (M.1 32 4) (M.1 32 5) else M) := by unfold foM; rw [if_neg (by rw [hc]; decide), if_pos hc]
    refine v_lookup hX (off := 86) (tgt := 93) 3 rfl (by decide) (by rw [hc]; decide) (by decide) ?_
    refine v_aload_n hX 0 17 rfl rfl rfl ?_
    refine g_6_0 hX 18  tw_258 rfl ?_
    refine v_aload_n hX 0 19 rfl rfl rfl ?_
    refine g_6_3 hX 20  tw_261 rfl ?_
    refine gN_5_3 hX 21  (List.mem_of_getElem? (i := 21) rfl) rfl ?_
    refine v_aload_n hX 0 22 rfl rfl rfl ?_
    refine g_6_3 hX 23  tw_261 rfl ?_
    refine gN_5_4 hX 24  (List.mem_of_getElem? (i := 22) rfl) rfl ?_
    refine v_aload_n hX 0 25 rfl rfl rfl ?_
    refine g_6_3 hX 26  tw_261 rfl ?_
    refine gN_5_5 hX 27  (List.mem_of_getElem? (i := 23) rfl) rfl ?_
    rcases pk_ix (M.1 32 3) (show n < 2 ^ 31 by have := hp.2.1; omega) with g | g | ⟨j, hj, ej⟩
    · skip
      refine v_callVN hX 3 (by have := isB_lt isB_1; omega) (cG_B isB_1) rfl (f_fileAnswer_no isB_1 hp.1 hp.2.1 (Or.inl g)) tw_342 (List.mem_of_getElem? (i := 13) rfl) tw_93 tw_341 tw_11 (by decide +kernel) ⟨⟨rfl, rfl⟩, Nat.le_of_ble_eq_true rfl, Nat.le_of_ble_eq_true rfl⟩ rfl (Nat.le_of_ble_eq_true rfl) rfl rfl 28 rfl ?_
      refine v_iret hX hQ rfl rfl ?_ ?_ 29 rfl
      · rw [hR]; exact congrArg (fun z : Int32 => some (Value.int z)) (if_neg (fun h => h.1 g))
      · rw [hM]; exact if_neg (fun h => h.1 g)
    · skip
      refine v_callVN hX 3 (by have := isB_lt isB_1; omega) (cG_B isB_1) rfl (f_fileAnswer_no isB_1 hp.1 hp.2.1 (Or.inr g)) tw_342 (List.mem_of_getElem? (i := 13) rfl) tw_93 tw_341 tw_11 (by decide +kernel) ⟨⟨rfl, rfl⟩, Nat.le_of_ble_eq_true rfl, Nat.le_of_ble_eq_true rfl⟩ rfl (Nat.le_of_ble_eq_true rfl) rfl rfl 28 rfl ?_
      refine v_iret hX hQ rfl rfl ?_ ?_ 29 rfl
      · rw [hR]; exact congrArg (fun z : Int32 => some (Value.int z)) (if_neg (fun h => h.2 g))
      · rw [hM]; exact if_neg (fun h => h.2 g)
    · skip
      rw [ej]
      refine v_callVN hX 3 (by have := isB_lt isB_1; omega) (cG_B isB_1) rfl (f_fileAnswer isB_1 hp.1 hp.2.1 hj) tw_342 (List.mem_of_getElem? (i := 13) rfl) tw_93 tw_341 tw_11 (by decide +kernel) ⟨⟨rfl, rfl⟩, Nat.le_of_ble_eq_true rfl, Nat.le_of_ble_eq_true rfl⟩ rfl (Nat.le_of_ble_eq_true rfl) rfl rfl 28 rfl ?_
      refine v_iret hX hQ rfl rfl ?_ ?_ 29 rfl
      · rw [hR, ej, if_pos (ix_in hj hp.2.1), nI_clamp (by have := hp.2.1; omega)]
      · rw [hM, ej, if_pos (ix_in hj hp.2.1), nI_clamp (by have := hp.2.1; omega)]
  · skip
    have hR : foR M n = (if ¬ M.1 32 3 < 0 ∧ ¬ nI n ≤ M.1 32 3 then tbR M 1 n (M.1 32 3).toNatClampNeg else -1) := by unfold foR; rw [if_neg (by rw [hc]; decide), if_neg (by rw [hc]; decide), if_pos hc]
    have hM : foM M n = (if ¬ M.1 32 3 < 0 ∧ ¬ nI n ≤ M.1 32 3 then tbM M 1 (M.1 32 3).toNatClampNeg else M) := by unfold foM; rw [if_neg (by rw [hc]; decide), if_neg (by rw [hc]; decide), if_pos hc]
    refine v_lookup hX (off := 115) (tgt := 122) 3 rfl (by decide) (by rw [hc]; decide) (by decide) ?_
    refine v_aload_n hX 0 30 rfl rfl rfl ?_
    refine g_6_0 hX 31  tw_258 rfl ?_
    refine v_aload_n hX 0 32 rfl rfl rfl ?_
    refine g_6_3 hX 33  tw_261 rfl ?_
    refine gN_5_3 hX 34  (List.mem_of_getElem? (i := 21) rfl) rfl ?_
    rcases pk_ix (M.1 32 3) (show n < 2 ^ 31 by have := hp.2.1; omega) with g | g | ⟨j, hj, ej⟩
    · skip
      refine v_callVN hX 1 (by have := isB_lt isB_1; omega) (cG_B isB_1) rfl (f_takeBack_no isB_1 hp.1 hp.2.1 (Or.inl g)) tw_350 (List.mem_of_getElem? (i := 14) rfl) tw_93 tw_349 tw_12 (by decide +kernel) ⟨⟨rfl, rfl⟩, Nat.le_of_ble_eq_true rfl, Nat.le_of_ble_eq_true rfl⟩ rfl (Nat.le_of_ble_eq_true rfl) rfl rfl 35 rfl ?_
      refine v_iret hX hQ rfl rfl ?_ ?_ 36 rfl
      · rw [hR]; exact congrArg (fun z : Int32 => some (Value.int z)) (if_neg (fun h => h.1 g))
      · rw [hM]; exact if_neg (fun h => h.1 g)
    · skip
      refine v_callVN hX 1 (by have := isB_lt isB_1; omega) (cG_B isB_1) rfl (f_takeBack_no isB_1 hp.1 hp.2.1 (Or.inr g)) tw_350 (List.mem_of_getElem? (i := 14) rfl) tw_93 tw_349 tw_12 (by decide +kernel) ⟨⟨rfl, rfl⟩, Nat.le_of_ble_eq_true rfl, Nat.le_of_ble_eq_true rfl⟩ rfl (Nat.le_of_ble_eq_true rfl) rfl rfl 35 rfl ?_
      refine v_iret hX hQ rfl rfl ?_ ?_ 36 rfl
      · rw [hR]; exact congrArg (fun z : Int32 => some (Value.int z)) (if_neg (fun h => h.2 g))
      · rw [hM]; exact if_neg (fun h => h.2 g)
    · skip
      rw [ej]
      refine v_callVN hX 1 (by have := isB_lt isB_1; omega) (cG_B isB_1) rfl (f_takeBack isB_1 hp.1 hp.2.1 hj hp.2.2) tw_350 (List.mem_of_getElem? (i := 14) rfl) tw_93 tw_349 tw_12 (by decide +kernel) ⟨⟨rfl, rfl⟩, Nat.le_of_ble_eq_true rfl, Nat.le_of_ble_eq_true rfl⟩ rfl (Nat.le_of_ble_eq_true rfl) rfl rfl 35 rfl ?_
      refine v_iret hX hQ rfl rfl ?_ ?_ 36 rfl
      · rw [hR, ej, if_pos (ix_in hj hp.2.1), nI_clamp (by have := hp.2.1; omega)]
      · rw [hM, ej, if_pos (ix_in hj hp.2.1), nI_clamp (by have := hp.2.1; omega)]
  · skip
    have hR : foR M n = (if ¬ M.1 32 3 < 0 ∧ ¬ nI n ≤ M.1 32 3 then prR M 1 (M.1 32 3).toNatClampNeg else -1) := by unfold foR; rw [if_neg (by rw [hc]; decide), if_neg (by rw [hc]; decide), if_neg (by rw [hc]; decide), if_pos hc]
    have hM : foM M n = (if ¬ M.1 32 3 < 0 ∧ ¬ nI n ≤ M.1 32 3 then prM M 1 (M.1 32 3).toNatClampNeg else M) := by unfold foM; rw [if_neg (by rw [hc]; decide), if_neg (by rw [hc]; decide), if_neg (by rw [hc]; decide), if_pos hc]
    refine v_lookup hX (off := 130) (tgt := 137) 3 rfl (by decide) (by rw [hc]; decide) (by decide) ?_
    refine v_aload_n hX 0 37 rfl rfl rfl ?_
    refine g_6_0 hX 38  tw_258 rfl ?_
    refine v_aload_n hX 0 39 rfl rfl rfl ?_
    refine g_6_3 hX 40  tw_261 rfl ?_
    refine gN_5_3 hX 41  (List.mem_of_getElem? (i := 21) rfl) rfl ?_
    rcases pk_ix (M.1 32 3) (show n < 2 ^ 31 by have := hp.2.1; omega) with g | g | ⟨j, hj, ej⟩
    · skip
      refine v_callVN hX 1 (by have := isB_lt isB_1; omega) (cG_B isB_1) rfl (f_prolong_no isB_1 hp.1 hp.2.1 (Or.inl g)) tw_399 (List.mem_of_getElem? (i := 16) rfl) tw_93 tw_398 tw_21 (by decide +kernel) ⟨⟨rfl, rfl⟩, Nat.le_of_ble_eq_true rfl, Nat.le_of_ble_eq_true rfl⟩ rfl (Nat.le_of_ble_eq_true rfl) rfl rfl 42 rfl ?_
      refine v_iret hX hQ rfl rfl ?_ ?_ 43 rfl
      · rw [hR]; exact congrArg (fun z : Int32 => some (Value.int z)) (if_neg (fun h => h.1 g))
      · rw [hM]; exact if_neg (fun h => h.1 g)
    · skip
      refine v_callVN hX 1 (by have := isB_lt isB_1; omega) (cG_B isB_1) rfl (f_prolong_no isB_1 hp.1 hp.2.1 (Or.inr g)) tw_399 (List.mem_of_getElem? (i := 16) rfl) tw_93 tw_398 tw_21 (by decide +kernel) ⟨⟨rfl, rfl⟩, Nat.le_of_ble_eq_true rfl, Nat.le_of_ble_eq_true rfl⟩ rfl (Nat.le_of_ble_eq_true rfl) rfl rfl 42 rfl ?_
      refine v_iret hX hQ rfl rfl ?_ ?_ 43 rfl
      · rw [hR]; exact congrArg (fun z : Int32 => some (Value.int z)) (if_neg (fun h => h.2 g))
      · rw [hM]; exact if_neg (fun h => h.2 g)
    · skip
      rw [ej]
      refine v_callVN hX 1 (by have := isB_lt isB_1; omega) (cG_B isB_1) rfl (f_prolong isB_1 hp.1 hp.2.1 hj) tw_399 (List.mem_of_getElem? (i := 16) rfl) tw_93 tw_398 tw_21 (by decide +kernel) ⟨⟨rfl, rfl⟩, Nat.le_of_ble_eq_true rfl, Nat.le_of_ble_eq_true rfl⟩ rfl (Nat.le_of_ble_eq_true rfl) rfl rfl 42 rfl ?_
      refine v_iret hX hQ rfl rfl ?_ ?_ 43 rfl
      · rw [hR, ej, if_pos (ix_in hj hp.2.1), nI_clamp (by have := hp.2.1; omega)]
      · rw [hM, ej, if_pos (ix_in hj hp.2.1), nI_clamp (by have := hp.2.1; omega)]
  · skip
    have hR : foR M n = moR M 1 n (M.1 32 3) := by unfold foR; rw [if_neg (by rw [hc]; decide), if_neg (by rw [hc]; decide), if_neg (by rw [hc]; decide), if_neg (by rw [hc]; decide), if_pos hc]
    have hM : foM M n = moM M 1 (M.1 32 3) := by unfold foM; rw [if_neg (by rw [hc]; decide), if_neg (by rw [hc]; decide), if_neg (by rw [hc]; decide), if_neg (by rw [hc]; decide), if_pos hc]
    refine v_lookup hX (off := 160) (tgt := 167) 3 rfl (by decide) (by rw [hc]; decide) (by decide) ?_
    refine v_aload_n hX 0 51 rfl rfl rfl ?_
    refine g_6_0 hX 52  tw_258 rfl ?_
    refine v_aload_n hX 0 53 rfl rfl rfl ?_
    refine g_6_3 hX 54  tw_261 rfl ?_
    refine gN_5_3 hX 55  (List.mem_of_getElem? (i := 21) rfl) rfl ?_
    refine v_callVN hX 1 (by have := isB_lt isB_1; omega) (cG_B isB_1) rfl (f_moveOn isB_1 hp.1 hp.2.1 hp.2.2) tw_415 (List.mem_of_getElem? (i := 18) rfl) tw_93 tw_414 tw_23 (by decide +kernel) ⟨⟨rfl, rfl⟩, Nat.le_of_ble_eq_true rfl, Nat.le_of_ble_eq_true rfl⟩ rfl (Nat.le_of_ble_eq_true rfl) rfl rfl 56 rfl ?_
    refine v_iret hX hQ rfl rfl ?_ ?_ 57 rfl
    · rw [hR]
    · rw [hM]
  · skip
    have hR : foR M n = tcR M 1 (M.1 32 3) := by unfold foR; rw [if_neg (by rw [hc]; decide), if_neg (by rw [hc]; decide), if_neg (by rw [hc]; decide), if_neg (by rw [hc]; decide), if_neg (by rw [hc]; decide), if_pos hc]
    have hM : foM M n = tcM M 1 (M.1 32 3) := by unfold foM; rw [if_neg (by rw [hc]; decide), if_neg (by rw [hc]; decide), if_neg (by rw [hc]; decide), if_neg (by rw [hc]; decide), if_neg (by rw [hc]; decide), if_pos hc]
    refine v_lookup hX (off := 145) (tgt := 152) 3 rfl (by decide) (by rw [hc]; decide) (by decide) ?_
    refine v_aload_n hX 0 44 rfl rfl rfl ?_
    refine g_6_0 hX 45  tw_258 rfl ?_
    refine v_aload_n hX 0 46 rfl rfl rfl ?_
    refine g_6_3 hX 47  tw_261 rfl ?_
    refine gN_5_3 hX 48  (List.mem_of_getElem? (i := 21) rfl) rfl ?_
    refine v_callVN hX 1 (by have := isB_lt isB_1; omega) (cG_B isB_1) rfl (f_turnCase isB_1) tw_407 (List.mem_of_getElem? (i := 17) rfl) tw_93 tw_406 tw_22 (by decide +kernel) ⟨⟨rfl, rfl⟩, Nat.le_of_ble_eq_true rfl, Nat.le_of_ble_eq_true rfl⟩ rfl (Nat.le_of_ble_eq_true rfl) rfl rfl 49 rfl ?_
    refine v_iret hX hQ rfl rfl ?_ ?_ 50 rfl
    · rw [hR]
    · rw [hM]
  · skip
    have hR : foR M n = -3 := by unfold foR; rw [if_neg hc.1, if_neg hc.2.1, if_neg hc.2.2.1, if_neg hc.2.2.2.1, if_neg hc.2.2.2.2.1, if_neg hc.2.2.2.2.2]
    have hM : foM M n = M := by unfold foM; rw [if_neg hc.1, if_neg hc.2.1, if_neg hc.2.2.1, if_neg hc.2.2.2.1, if_neg hc.2.2.2.2.1, if_neg hc.2.2.2.2.2]
    refine v_lookup hX (off := 175) (tgt := 182) 3 rfl (by decide) ((lv_osw hc.2.1 rfl).trans ((lv_osw hc.1 rfl).trans ((lv_osw hc.2.2.2.2.2 rfl).trans ((lv_osw hc.2.2.2.1 rfl).trans ((lv_osw hc.2.2.2.2.1 rfl).trans ((lv_osw hc.2.2.1 rfl).trans rfl)))))) (by decide) ?_
    refine v_bipush hX (v := (-3)) 58 rfl (by decide) ?_
    refine v_iret hX hQ rfl rfl ?_ ?_ 59 rfl
    · rw [hR]
    · rw [hM]
set_option maxRecDepth 100000 in
set_option maxHeartbeats 4000000 in
theorem f_carryOut_bad {Y : Yt} {M : Mm} {s q : Nat → Int32} {l : Nat} (h : RdOK M s l) (hf : ¬ (ffl s l 80 0 (upd q 0 0)).1 = -6) : Fn Y yX6_carryOut wsX6_carryOut { frames := 6, cells := 0, slots := 0, locals := 132 } [.ref (Y.2.2.2 0)] (mrow M 32 q) (some (.int (-3))) ((mrow M 32 (ffl s l 80 0 (upd q 0 0)).2)) := by
  refine Fn.of (cc := cX6_carryOut) (ins := iX6_carryOut) (maxL := 2) (ret := (some .int)) (by decide) dX6_carryOut [some (.ref (Y.2.2.2 0)), none] (Nat.le_of_ble_eq_true rfl) rfl rfl ?_
  intro X hX hQ
  refine v_aload_n hX 0 0 rfl rfl rfl ?_
  refine g_6_3 hX 1  tw_261 rfl ?_
  refine v_aload_n hX 0 2 rfl rfl rfl ?_
  refine g_6_2 hX 3  tw_260 rfl ?_
  refine v_callVN hX 1 (by decide) rfl rfl (f_firstFault h) tw_571 (List.mem_of_getElem? (i := 47) rfl) tw_97 tw_570 tw_40 (by decide +kernel) ⟨⟨rfl, rfl⟩, Nat.le_of_ble_eq_true rfl, Nat.le_of_ble_eq_true rfl⟩ rfl (Nat.le_of_ble_eq_true rfl) rfl rfl 4 rfl ?_
  refine v_bipush hX (v := (-6)) 5 rfl (by decide) ?_
  refine v_icmp_eq hX (tgt := 19) 6 rfl (by decide) (fun c13 => absurd c13 hf) (fun c13 => ?_)
  refine v_bipush hX (v := (-3)) 7 rfl (by decide) ?_
  refine v_iret hX hQ rfl rfl ?_ ?_ 8 rfl
  · rfl
  · rfl
set_option maxRecDepth 100000 in
set_option maxHeartbeats 4000000 in
theorem f_carryOut {Y : Yt} {M : Mm} {s q : Nat → Int32} {l k n : Nat} (h : RdOK M s l) (hf : (ffl s l 80 0 (upd q 0 0)).1 = -6) (hk : k ≤ 6) (hkk : M.1 33 1 = nI k) (hh : ∀ i, i < 7 → isB (M.2 i) ∧ M.2 i ≠ 1) (hp : PB M n) : Fn Y yX6_carryOut wsX6_carryOut { frames := 6, cells := 0, slots := 0, locals := 132 } [.ref (Y.2.2.2 0)] (mrow M 32 q) (some (.int (nI (coL s l 80 0 0 (mrow (cpB M (M.2 k) 1 n) 32 (upd (ffl s l 80 0 (upd q 0 0)).2 0 0))).1))) ((seM (mset (coL s l 80 0 0 (mrow (cpB M (M.2 k) 1 n) 32 (upd (ffl s l 80 0 (upd q 0 0)).2 0 0))).2 30 1 0) k (nI (coL s l 80 0 0 (mrow (cpB M (M.2 k) 1 n) 32 (upd (ffl s l 80 0 (upd q 0 0)).2 0 0))).1))) := by
  have hc := hh k (by omega)
  have hp1 : PB (mrow M 32 (ffl s l 80 0 (upd q 0 0)).2) n := PB.out (by decide) hp
  have he1 : cpB (mrow M 32 (ffl s l 80 0 (upd q 0 0)).2) (M.2 k) 1 n = mrow (cpB M (M.2 k) 1 n) 32 (ffl s l 80 0 (upd q 0 0)).2 := cpB_row hc.1 hc.2 hp.2.1
  have hp2 : PB (cpB M (M.2 k) 1 n) n := ⟨by rw [prz hc.1 hc.2 hp.2.1]; exact hp.1, hp.2.1, prw hc.1 hc.2 hp.2.1 (by have := hp.2.1; omega) hp.2.2⟩
  have hr1 : RdOK (cpB M (M.2 k) 1 n) s l := ⟨by rw [pro hc.1 hp.2.1 (by omega)]; exact h.1, by rw [pro hc.1 hp.2.1 (by omega)]; exact h.2.1, h.2.2.1, fun j hj => by rw [pro hc.1 hp.2.1 (by omega)]; exact h.2.2.2 j hj⟩
  refine Fn.of (cc := cX6_carryOut) (ins := iX6_carryOut) (maxL := 2) (ret := (some .int)) (by decide) dX6_carryOut [some (.ref (Y.2.2.2 0)), none] (Nat.le_of_ble_eq_true rfl) rfl rfl ?_
  intro X hX hQ
  refine v_aload_n hX 0 0 rfl rfl rfl ?_
  refine g_6_3 hX 1  tw_261 rfl ?_
  refine v_aload_n hX 0 2 rfl rfl rfl ?_
  refine g_6_2 hX 3  tw_260 rfl ?_
  refine v_callVN hX 1 (by decide) rfl rfl (f_firstFault h) tw_571 (List.mem_of_getElem? (i := 47) rfl) tw_97 tw_570 tw_40 (by decide +kernel) ⟨⟨rfl, rfl⟩, Nat.le_of_ble_eq_true rfl, Nat.le_of_ble_eq_true rfl⟩ rfl (Nat.le_of_ble_eq_true rfl) rfl rfl 4 rfl ?_
  refine v_bipush hX (v := (-6)) 5 rfl (by decide) ?_
  refine v_icmp_eq hX (tgt := 19) 6 rfl (by decide) (fun c13 => ?_) (fun c13 => absurd hf c13)
  refine v_aload_n hX 0 9 rfl rfl rfl ?_
  refine g_6_4 hX 10  tw_262 rfl ?_
  refine v_aload_n hX 0 11 rfl rfl rfl ?_
  refine g_6_0 hX 12  tw_258 rfl ?_
  refine v_callVN hX 1 (by decide) rfl rfl (f_prepare hk (by rw [mrow_n (by decide)]; exact hkk) hh hp1.1 hp1.2.1 hp1.2.2) tw_287 (List.mem_of_getElem? (i := 7) rfl) tw_98 tw_286 tw_0 (by decide +kernel) ⟨⟨rfl, rfl⟩, Nat.le_of_ble_eq_true rfl, Nat.le_of_ble_eq_true rfl⟩ rfl (Nat.le_of_ble_eq_true rfl) rfl rfl 13 rfl ?_
  show V Y X (cpB (mrow M 32 (ffl s l 80 0 (upd q 0 0)).2) (M.2 k) 1 n) _ _ _
  rw [he1]
  refine v_aload_n hX 0 14 rfl rfl rfl ?_
  refine g_6_3 hX 15  tw_261 rfl ?_
  refine v_callVN hX 0 (by decide) rfl rfl (f_rewind) tw_575 (List.mem_of_getElem? (i := 49) rfl) tw_97 tw_574 tw_41 (by decide +kernel) ⟨⟨rfl, rfl⟩, Nat.le_of_ble_eq_true rfl, Nat.le_of_ble_eq_true rfl⟩ rfl (Nat.le_of_ble_eq_true rfl) rfl rfl 16 rfl ?_
  refine v_iconst hX (v := 0) 17 rfl (by decide) ?_
  refine v_istore_n hX 1 18 rfl rfl (Nat.le_of_ble_eq_true rfl) rfl ?_
  have lp : ∀ (d : Nat), d ≤ 80 → ∀ (p : Nat) (B : Mm) (m : Nat), PB B m → RdOK B s l → B.1 32 0 = nI p → p ≤ l → B.1 33 1 = nI k → B.2 = M.2 → coL s l (80 - d) d p B = coL s l 80 0 0 (mrow (cpB M (M.2 k) 1 n) 32 (upd (ffl s l 80 0 (upd q 0 0)).2 0 0)) → V Y X B 39 [some (.ref (Y.2.2.2 0)), some (.int (nI d))] [] := by
    refine upTo 80 (fun d hd ih => ?_)
    intro p B m hpB hB hw0 hpl h33 hB22 he
    refine v_iload_n hX 1 19 rfl rfl rfl ?_
    refine v_bipush hX (v := 80) 20 rfl (by decide) ?_
    refine v_icmp_ge hX (tgt := 86) 21 rfl (by decide) (fun c42 => ?_) (fun c42 => ?_)
    · skip
      have hd2 : d = 80 := by have := of_le (a := 80) c42 (by omega) (by omega); omega
      subst hd2
      have he : (80, B) = coL s l 80 0 0 (mrow (cpB M (M.2 k) 1 n) 32 (upd (ffl s l 80 0 (upd q 0 0)).2 0 0)) := he
      have h33e : (mset (B) 30 1 0).1 33 1 = nI k := by rw [mset_n (by decide)]; exact h33
      have hhe : ∀ z9, z9 < 7 → isB ((mset (B) 30 1 0).2 z9) ∧ (mset (B) 30 1 0).2 z9 ≠ 1 := by rw [mset_2]; rw [hB22]; exact hh
      refine v_aload_n hX 0 40 rfl rfl rfl ?_
      refine g_6_2 hX 41  tw_260 rfl ?_
      refine v_callVN hX 0 (by decide) rfl rfl (f_empty) tw_563 (List.mem_of_getElem? (i := 46) rfl) tw_96 tw_562 tw_39 (by decide +kernel) ⟨⟨rfl, rfl⟩, Nat.le_of_ble_eq_true rfl, Nat.le_of_ble_eq_true rfl⟩ rfl (Nat.le_of_ble_eq_true rfl) rfl rfl 42 rfl ?_
      refine v_pop hX 43 rfl rfl ?_
      refine v_aload_n hX 0 44 rfl rfl rfl ?_
      refine g_6_4 hX 45  tw_262 rfl ?_
      refine v_iload_n hX 1 46 rfl rfl rfl ?_
      refine v_callVN hX 1 (by decide) rfl rfl (f_settle hk h33e hhe) tw_311 (List.mem_of_getElem? (i := 11) rfl) tw_98 tw_310 tw_6 (by decide +kernel) ⟨⟨rfl, rfl⟩, Nat.le_of_ble_eq_true rfl, Nat.le_of_ble_eq_true rfl⟩ rfl (Nat.le_of_ble_eq_true rfl) rfl rfl 47 rfl ?_
      refine v_iret hX hQ rfl rfl ?_ ?_ 48 rfl
      · rw [← he]
      · rw [← he]
    · skip
      have hd2 : d < 80 := of_nle (a := 80) c42 (by omega) (by omega)
      obtain ⟨f, hf2⟩ : ∃ f, 80 - d = f + 1 := ⟨79 - d, by omega⟩
      rw [hf2, coL] at he
      have hr := ror_ok (s := s) hw0 hpl
      refine v_aload_n hX 0 22 rfl rfl rfl ?_
      refine g_6_3 hX 23  tw_261 rfl ?_
      refine v_aload_n hX 0 24 rfl rfl rfl ?_
      refine g_6_2 hX 25  tw_260 rfl ?_
      refine V.mem (mrow_self (k := 32)).symm ?_
      refine v_callVN hX 1 (by decide) rfl rfl (f_ror hB hw0 hpl) tw_579 (List.mem_of_getElem? (i := 50) rfl) tw_97 tw_578 tw_42 (by decide +kernel) ⟨⟨rfl, rfl⟩, Nat.le_of_ble_eq_true rfl, Nat.le_of_ble_eq_true rfl⟩ rfl (Nat.le_of_ble_eq_true rfl) rfl rfl 26 rfl ?_
      refine v_if_eq hX (tgt := 86) 27 rfl (by decide) (fun c56 => ?_) (fun c56 => ?_)
      · skip
        rw [if_pos c56] at he
        have h33e : (mset (mrow B 32 (ror s l p (B.1 32)).2.2) 30 1 0).1 33 1 = nI k := by rw [mset_n (by decide)]; rw [mrow_n (by decide)]; exact h33
        have hhe : ∀ z9, z9 < 7 → isB ((mset (mrow B 32 (ror s l p (B.1 32)).2.2) 30 1 0).2 z9) ∧ (mset (mrow B 32 (ror s l p (B.1 32)).2.2) 30 1 0).2 z9 ≠ 1 := by rw [mset_2]; rw [mrow_2, hB22]; exact hh
        refine v_aload_n hX 0 40 rfl rfl rfl ?_
        refine g_6_2 hX 41  tw_260 rfl ?_
        refine v_callVN hX 0 (by decide) rfl rfl (f_empty) tw_563 (List.mem_of_getElem? (i := 46) rfl) tw_96 tw_562 tw_39 (by decide +kernel) ⟨⟨rfl, rfl⟩, Nat.le_of_ble_eq_true rfl, Nat.le_of_ble_eq_true rfl⟩ rfl (Nat.le_of_ble_eq_true rfl) rfl rfl 42 rfl ?_
        refine v_pop hX 43 rfl rfl ?_
        refine v_aload_n hX 0 44 rfl rfl rfl ?_
        refine g_6_4 hX 45  tw_262 rfl ?_
        refine v_iload_n hX 1 46 rfl rfl rfl ?_
        refine v_callVN hX 1 (by decide) rfl rfl (f_settle hk h33e hhe) tw_311 (List.mem_of_getElem? (i := 11) rfl) tw_98 tw_310 tw_6 (by decide +kernel) ⟨⟨rfl, rfl⟩, Nat.le_of_ble_eq_true rfl, Nat.le_of_ble_eq_true rfl⟩ rfl (Nat.le_of_ble_eq_true rfl) rfl rfl 47 rfl ?_
        refine v_iret hX hQ rfl rfl ?_ ?_ 48 rfl
        · rw [← he]
        · rw [← he]
      · skip
        rw [if_neg c56] at he
        have hpr : PB (mrow B 32 (ror s l p (B.1 32)).2.2) m := PB.out (by decide) hpB
        rw [nOf_eq hpB] at he
        have hfr : Fr (mrow B 32 (ror s l p (B.1 32)).2.2) (foM (mrow B 32 (ror s l p (B.1 32)).2.2) m) := foM_fr hpB.2.1
        refine v_aload_n hX 0 28 rfl rfl rfl ?_
        refine v_callV hX 0 (by decide) rfl rfl (f_follow hpr) tw_617 tw_614 tw_616 tw_50 tw_92 (by decide +kernel) ⟨⟨rfl, rfl⟩, Nat.le_of_ble_eq_true rfl, Nat.le_of_ble_eq_true rfl⟩ rfl (Nat.le_of_ble_eq_true rfl) rfl rfl 29 rfl ?_
        refine v_if_lt hX (tgt := 86) 30 rfl (by decide) (fun c63 => ?_) (fun c63 => ?_)
        · skip
          rw [if_pos c63] at he
          have h33e : (mset (foM (mrow B 32 (ror s l p (B.1 32)).2.2) m) 30 1 0).1 33 1 = nI k := by rw [mset_n (by decide)]; rw [hfr.2 33 (by decide), mrow_n (by decide)]; exact h33
          have hhe : ∀ z9, z9 < 7 → isB ((mset (foM (mrow B 32 (ror s l p (B.1 32)).2.2) m) 30 1 0).2 z9) ∧ (mset (foM (mrow B 32 (ror s l p (B.1 32)).2.2) m) 30 1 0).2 z9 ≠ 1 := by rw [mset_2]; rw [hfr.1, mrow_2, hB22]; exact hh
          refine v_aload_n hX 0 40 rfl rfl rfl ?_
          refine g_6_2 hX 41  tw_260 rfl ?_
          refine v_callVN hX 0 (by decide) rfl rfl (f_empty) tw_563 (List.mem_of_getElem? (i := 46) rfl) tw_96 tw_562 tw_39 (by decide +kernel) ⟨⟨rfl, rfl⟩, Nat.le_of_ble_eq_true rfl, Nat.le_of_ble_eq_true rfl⟩ rfl (Nat.le_of_ble_eq_true rfl) rfl rfl 42 rfl ?_
          refine v_pop hX 43 rfl rfl ?_
          refine v_aload_n hX 0 44 rfl rfl rfl ?_
          refine g_6_4 hX 45  tw_262 rfl ?_
          refine v_iload_n hX 1 46 rfl rfl rfl ?_
          refine v_callVN hX 1 (by decide) rfl rfl (f_settle hk h33e hhe) tw_311 (List.mem_of_getElem? (i := 11) rfl) tw_98 tw_310 tw_6 (by decide +kernel) ⟨⟨rfl, rfl⟩, Nat.le_of_ble_eq_true rfl, Nat.le_of_ble_eq_true rfl⟩ rfl (Nat.le_of_ble_eq_true rfl) rfl rfl 47 rfl ?_
          refine v_iret hX hQ rfl rfl ?_ ?_ 48 rfl
          · rw [← he]
          · rw [← he]
        · skip
          rw [if_neg c63] at he
          obtain ⟨m2, hm2⟩ := foM_PB hpr
          have hrw : (foM (mrow B 32 (ror s l p (B.1 32)).2.2) m).1 32 = (ror s l p (B.1 32)).2.2 := by rw [hfr.2 32 (by decide), mrow_s]
          have hB2 := (hB.row (q := (ror s l p (B.1 32)).2.2)).fr hfr
          have ht := tkc_ok (s := s) (c := 59) (q := (ror s l p (B.1 32)).2.2) (by decide) hr.1 hr.2
          refine v_iinc hX 31 rfl rfl (nI_inc d) (Nat.le_of_ble_eq_true rfl) rfl ?_
          refine v_aload_n hX 0 32 rfl rfl rfl ?_
          refine g_6_3 hX 33  tw_261 rfl ?_
          refine v_aload_n hX 0 34 rfl rfl rfl ?_
          refine g_6_2 hX 35  tw_260 rfl ?_
          refine v_bipush hX (v := 59) 36 rfl (by decide) ?_
          refine V.mem (mrow_self (k := 32)).symm ?_
          rw [hrw]
          refine v_callVN hX 2 (by decide) rfl rfl (f_tk hB2 hr.1 hr.2) tw_599 (List.mem_of_getElem? (i := 51) rfl) tw_97 tw_598 tw_47 (by decide +kernel) ⟨⟨rfl, rfl⟩, Nat.le_of_ble_eq_true rfl, Nat.le_of_ble_eq_true rfl⟩ rfl (Nat.le_of_ble_eq_true rfl) rfl rfl 37 rfl ?_
          refine v_pop hX 38 rfl rfl ?_
          refine v_goto hX (tgt := 39) 39 rfl (by decide) ?_
          refine V.sub (ih hd2 (tkc s l 59 (ror s l p (B.1 32)).2.1 (ror s l p (B.1 32)).2.2).2.1 (mrow (foM (mrow B 32 (ror s l p (B.1 32)).2.2) m) 32 (tkc s l 59 (ror s l p (B.1 32)).2.1 (ror s l p (B.1 32)).2.2).2.2) m2 (PB.out (by decide) hm2) hB2.row (by rw [mrow_s]; exact ht.1) ht.2 ?_ ?_ (by rw [show 80 - (d + 1) = f by omega]; exact he)) rfl ⟨rfl, rfl, trivial⟩
          · rw [mrow_n (by decide), hfr.2 33 (by decide), mrow_n (by decide)]; exact h33
          · show (foM _ _).2 = M.2; rw [hfr.1]; exact hB22
  exact V.sub (lp 0 (Nat.zero_le _) 0 (mrow (cpB M (M.2 k) 1 n) 32 (upd (ffl s l 80 0 (upd q 0 0)).2 0 0)) n (PB.out (by decide) hp2) hr1.row (by rw [mrow_s, upd_s]; rfl) (Nat.zero_le _) (by rw [mrow_n (by decide), pro hc.1 hp.2.1 (by omega)]; exact hkk) rfl rfl) rfl ⟨rfl, rfl, trivial⟩
