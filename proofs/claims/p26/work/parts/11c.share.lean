set_option maxRecDepth 100000 in
set_option maxHeartbeats 4000000 in
theorem f_floatBits {Y : Yt} {M : Mm} {a w : Nat} (ha : a < 25) (hw : w < 25) (hw0 : ¬ w = 0) : Fn Y yX6_floatBits wsX6_floatBits { frames := 0, cells := 0, slots := 0, locals := 0 } [.int (nI a), .int (nI w)] M (some (.int (fbR a w))) M := by
  have hal := (fb_all w hw).resolve_left hw0
  have hne := hal.1
  refine Fn.of (cc := cX6_floatBits) (ins := iX6_floatBits) (maxL := 9) (ret := (some .int)) (by decide) dX6_floatBits [some (.int (nI a)), some (.int (nI w)), none, none, none, none, none, none, none] (Nat.le_of_ble_eq_true rfl) rfl rfl ?_
  intro X hX hQ
  refine v_iload_n hX 0 0 rfl rfl rfl ?_
  refine v_if_le hX (tgt := 8) 1 rfl (by decide) (fun c1 => ?_) (fun c1 => ?_)
  · skip
    have ha1 : nI a ≤ 0 := c1
    refine v_iconst hX (v := 0) 4 rfl (by decide) ?_
    refine v_iret hX hQ rfl rfl ?_ ?_ 5 rfl
    · unfold fbR; rw [if_pos ha1]
    · rfl
  · skip
    have ha1 : ¬ nI a ≤ 0 := c1
    have ha0 : ¬ a = 0 := fun g => c1 (by rw [g]; decide)
    refine v_iload_n hX 1 2 rfl rfl rfl ?_
    refine v_if_gt hX (tgt := 10) 3 rfl (by decide) (fun c5 => ?_) (fun c5 => absurd (by exact nI_lt (a := 0) (by omega) (by omega)) c5)
    refine v_iload_n hX 0 6 rfl rfl rfl ?_
    refine v_i2l hX 7 rfl rfl ?_
    refine v_lstore_n hX 2 8 rfl rfl (Nat.le_of_ble_eq_true rfl) rfl ?_
    refine v_bipush hX (v := 127) 9 rfl (by decide) ?_
    refine v_istore hX 10 rfl (Nat.le_of_ble_eq_true rfl) rfl ?_
    have lp : ∀ (f : Nat), f ≤ 6 → ∀ (x : Int64) (e : Int32), fbE (nI w).toInt64 f x e = true → fbL (nI w).toInt64 f x e = (fbL (nI w).toInt64 6 (nI a).toInt64 127) → V Y X M 17 [some (.int (nI a)), some (.int (nI w)), some (.long x), none, some (.int e), none, none, none, none] [] := by
      refine downTo (fun f ih => ?_)
      intro hf6 x e hE3 he
      refine v_lload_n hX 2 11 rfl rfl rfl ?_
      refine v_iload_n hX 1 12 rfl rfl rfl ?_
      refine v_i2l hX 13 rfl rfl ?_
      refine v_lcmp hX 14 rfl ?_
      refine v_if_ge hX (tgt := 41) 15 rfl (by decide) (fun c21 => ?_) (fun c21 => ?_)
      · skip
        have e1 : (x, e) = (fbL (nI w).toInt64 6 (nI a).toInt64 127) := by rw [← he]; exact (fbL_0 (Or.inl c21)).symm
        refine v_lload_n hX 2 24 rfl rfl rfl ?_
        refine v_bipush hX (v := 23) 25 rfl (by decide) ?_
        refine v_lshl hX 26 rfl rfl ?_
        refine v_lstore hX 27 rfl (Nat.le_of_ble_eq_true rfl) rfl ?_
        refine v_lload hX 28 rfl rfl ?_
        refine v_iload_n hX 1 29 rfl rfl rfl ?_
        refine v_i2l hX 30 rfl rfl ?_
        refine v_ldiv hX hne 31 rfl ?_
        refine v_lstore hX 32 rfl (Nat.le_of_ble_eq_true rfl) rfl ?_
        refine v_ldc2 hX tw_433 33 rfl ?_
        refine v_lload hX 34 rfl rfl ?_
        refine v_iload_n hX 1 35 rfl rfl rfl ?_
        refine v_i2l hX 36 rfl rfl ?_
        refine v_lrem hX hne 37 rfl ?_
        refine v_lmul hX 38 rfl ?_
        refine v_iload_n hX 1 39 rfl rfl rfl ?_
        refine v_i2l hX 40 rfl rfl ?_
        refine v_lcmp hX 41 rfl ?_
        refine v_if_le hX (tgt := 75) 42 rfl (by decide) (fun c66 => ?_) (fun c66 => ?_)
        · skip
          have q1 := c66
          refine v_iload hX 47 rfl rfl ?_
          refine v_bipush hX (v := 23) 48 rfl (by decide) ?_
          refine v_ishl hX 49 rfl ?_
          refine v_lload hX 50 rfl rfl ?_
          refine v_ldc2 hX tw_434 51 rfl ?_
          refine v_lsub hX 52 rfl ?_
          refine v_l2i hX 53 rfl rfl ?_
          refine v_iadd hX 54 rfl ?_
          refine v_iret hX hQ rfl rfl ?_ ?_ 55 rfl
          · unfold fbR; rw [if_neg ha1, ← e1]; unfold fbF; first | (rw [if_pos q1]; done) | (rw [if_neg q1]; done) | (rw [if_pos q1]; rfl) | (rw [if_neg q1]; rfl)
          · rfl
        · skip
          have q1 := c66
          refine v_lload hX 43 rfl rfl ?_
          refine v_lconst hX (v := 1) 44 rfl rfl ?_
          refine v_ladd hX 45 rfl ?_
          refine v_lstore hX 46 rfl (Nat.le_of_ble_eq_true rfl) rfl ?_
          refine v_iload hX 47 rfl rfl ?_
          refine v_bipush hX (v := 23) 48 rfl (by decide) ?_
          refine v_ishl hX 49 rfl ?_
          refine v_lload hX 50 rfl rfl ?_
          refine v_ldc2 hX tw_434 51 rfl ?_
          refine v_lsub hX 52 rfl ?_
          refine v_l2i hX 53 rfl rfl ?_
          refine v_iadd hX 54 rfl ?_
          refine v_iret hX hQ rfl rfl ?_ ?_ 55 rfl
          · unfold fbR; rw [if_neg ha1, ← e1]; unfold fbF; first | (rw [if_pos q1]; done) | (rw [if_neg q1]; done) | (rw [if_pos q1]; rfl) | (rw [if_neg q1]; rfl)
          · rfl
      · skip
        refine v_iload hX 16 rfl rfl ?_
        refine v_if_le hX (tgt := 41) 17 rfl (by decide) (fun c26 => ?_) (fun c26 => ?_)
        · skip
          have e1 : (x, e) = (fbL (nI w).toInt64 6 (nI a).toInt64 127) := by rw [← he]; exact (fbL_0 (Or.inr c26)).symm
          refine v_lload_n hX 2 24 rfl rfl rfl ?_
          refine v_bipush hX (v := 23) 25 rfl (by decide) ?_
          refine v_lshl hX 26 rfl rfl ?_
          refine v_lstore hX 27 rfl (Nat.le_of_ble_eq_true rfl) rfl ?_
          refine v_lload hX 28 rfl rfl ?_
          refine v_iload_n hX 1 29 rfl rfl rfl ?_
          refine v_i2l hX 30 rfl rfl ?_
          refine v_ldiv hX hne 31 rfl ?_
          refine v_lstore hX 32 rfl (Nat.le_of_ble_eq_true rfl) rfl ?_
          refine v_ldc2 hX tw_433 33 rfl ?_
          refine v_lload hX 34 rfl rfl ?_
          refine v_iload_n hX 1 35 rfl rfl rfl ?_
          refine v_i2l hX 36 rfl rfl ?_
          refine v_lrem hX hne 37 rfl ?_
          refine v_lmul hX 38 rfl ?_
          refine v_iload_n hX 1 39 rfl rfl rfl ?_
          refine v_i2l hX 40 rfl rfl ?_
          refine v_lcmp hX 41 rfl ?_
          refine v_if_le hX (tgt := 75) 42 rfl (by decide) (fun c66 => ?_) (fun c66 => ?_)
          · skip
            have q1 := c66
            refine v_iload hX 47 rfl rfl ?_
            refine v_bipush hX (v := 23) 48 rfl (by decide) ?_
            refine v_ishl hX 49 rfl ?_
            refine v_lload hX 50 rfl rfl ?_
            refine v_ldc2 hX tw_434 51 rfl ?_
            refine v_lsub hX 52 rfl ?_
            refine v_l2i hX 53 rfl rfl ?_
            refine v_iadd hX 54 rfl ?_
            refine v_iret hX hQ rfl rfl ?_ ?_ 55 rfl
            · unfold fbR; rw [if_neg ha1, ← e1]; unfold fbF; first | (rw [if_pos q1]; done) | (rw [if_neg q1]; done) | (rw [if_pos q1]; rfl) | (rw [if_neg q1]; rfl)
            · rfl
          · skip
            have q1 := c66
            refine v_lload hX 43 rfl rfl ?_
            refine v_lconst hX (v := 1) 44 rfl rfl ?_
            refine v_ladd hX 45 rfl ?_
            refine v_lstore hX 46 rfl (Nat.le_of_ble_eq_true rfl) rfl ?_
            refine v_iload hX 47 rfl rfl ?_
            refine v_bipush hX (v := 23) 48 rfl (by decide) ?_
            refine v_ishl hX 49 rfl ?_
            refine v_lload hX 50 rfl rfl ?_
            refine v_ldc2 hX tw_434 51 rfl ?_
            refine v_lsub hX 52 rfl ?_
            refine v_l2i hX 53 rfl rfl ?_
            refine v_iadd hX 54 rfl ?_
            refine v_iret hX hQ rfl rfl ?_ ?_ 55 rfl
            · unfold fbR; rw [if_neg ha1, ← e1]; unfold fbF; first | (rw [if_pos q1]; done) | (rw [if_neg q1]; done) | (rw [if_pos q1]; rfl) | (rw [if_neg q1]; rfl)
            · rfl
        · skip
          have hnx : ¬ fbX (nI w).toInt64 x e := fun g => g.elim c21 c26
          obtain ⟨f2, hf2, hE4⟩ := fbE_s hE3 hnx
          rw [hf2, fbL, if_neg hnx] at he
          refine v_lload_n hX 2 18 rfl rfl rfl ?_
          refine v_ldc2 hX tw_433 19 rfl ?_
          refine v_lmul hX 20 rfl ?_
          refine v_lstore_n hX 2 21 rfl rfl (Nat.le_of_ble_eq_true rfl) rfl ?_
          refine v_iinc hX 22 rfl rfl rfl (Nat.le_of_ble_eq_true rfl) rfl ?_
          refine v_goto hX (tgt := 17) 23 rfl (by decide) ?_
          exact V.sub (ih f2 (by omega) (by omega) (x * 2) (e + Int32.ofInt (-1)) hE4 he) rfl ⟨rfl, rfl, rfl, rfl, trivial⟩
    exact V.sub (lp 6 (Nat.le_refl _) _ 127 ((hal.2 a ha).resolve_left ha0) rfl) rfl ⟨rfl, rfl, rfl, rfl, trivial⟩
set_option maxRecDepth 100000 in
set_option maxHeartbeats 4000000 in
theorem f_share {Y : Yt} {M : Mm} {t : Int32} {n : Nat} (hz : M.1 1 1 = nI n) (hn : n ≤ 24) (hw : WF (cp M 1) n) (h : t = 0 ∨ t = 1) : Fn Y yX6_share wsX6_share { frames := 4, cells := 0, slots := 0, locals := 88 } [.ref (Y.2.2.2.1 0), .int t] M (some (.int (shF M n t))) M := by
  have hcb : cnt (clP (cp M 1) t) n ≤ 24 := Nat.le_trans (cnt_le _ _) hn
  have hca : cnt (fun i => clP (cp M 1) t i && bSd M 1 n i) n ≤ cnt (clP (cp M 1) t) n := cnt_mono (fun i g => by simp only [Bool.and_eq_true] at g; exact g.1)
  refine Fn.of (cc := cX6_share) (ins := iX6_share) (maxL := 3) (ret := (some .int)) (by decide) dX6_share [some (.ref (Y.2.2.2.1 0)), some (.int t), none] (Nat.le_of_ble_eq_true rfl) rfl rfl ?_
  intro X hX hQ
  refine v_iload_n hX 1 0 rfl rfl rfl ?_
  refine v_if_eq hX (tgt := 11) 1 rfl (by decide) (fun c1 => ?_) (fun c1 => ?_)
  · skip
    refine v_aload_n hX 0 7 rfl rfl rfl ?_
    refine g_6_0 hX 8  tw_192 rfl ?_
    refine v_callVN hX 0 (by decide) (cG_B isB_1) rfl (f_claims isB_1 hz hn) tw_397 (List.mem_of_getElem? (i := 25) rfl) tw_40 tw_396 tw_28 (by decide +kernel) ⟨⟨rfl, rfl⟩, Nat.le_of_ble_eq_true rfl, Nat.le_of_ble_eq_true rfl⟩ rfl (Nat.le_of_ble_eq_true rfl) rfl rfl 9 rfl ?_
    rw [mk_F]
    refine v_aload_n hX 0 10 rfl rfl rfl ?_
    refine g_6_0 hX 11  tw_192 rfl ?_
    refine v_iload_n hX 1 12 rfl rfl rfl ?_
    refine v_callVN hX 1 (by decide) (cG_B isB_1) rfl (f_ofSide isB_1 hz hn) tw_425 (List.mem_of_getElem? (i := 31) rfl) tw_40 tw_424 tw_32 (by decide +kernel) ⟨⟨rfl, rfl⟩, Nat.le_of_ble_eq_true rfl, Nat.le_of_ble_eq_true rfl⟩ rfl (Nat.le_of_ble_eq_true rfl) rfl rfl 13 rfl ?_
    rw [mk_F]
    refine v_iand hX 14 rfl ?_
    rw [mk_and _ _ (by omega)]
    show V Y X M _ _ (.int (mk (clP (cp M 1) t) n) :: _)
    refine v_istore_n hX 2 15 rfl rfl (Nat.le_of_ble_eq_true rfl) rfl ?_
    refine v_iload_n hX 2 16 rfl rfl rfl ?_
    refine v_if_ne hX (tgt := 35) 17 rfl (by decide) (fun c29 => ?_) (fun c29 => ?_)
    · skip
      have hb0 : ¬ cnt (clP (cp M 1) t) n = 0 := fun e => c29 (mk_0 e)
      refine v_iload_n hX 2 20 rfl rfl rfl ?_
      refine v_aload_n hX 0 21 rfl rfl rfl ?_
      refine g_6_0 hX 22  tw_192 rfl ?_
      refine v_callVN hX 0 (by decide) (cG_B isB_1) rfl (f_standing isB_1 hz hn hw) tw_287 (List.mem_of_getElem? (i := 20) rfl) tw_40 tw_286 tw_13 (by decide +kernel) ⟨⟨rfl, rfl⟩, Nat.le_of_ble_eq_true rfl, Nat.le_of_ble_eq_true rfl⟩ rfl (Nat.le_of_ble_eq_true rfl) rfl rfl 23 rfl ?_
      refine v_iand hX 24 rfl ?_
      rw [mk_and _ _ (by omega)]
      show V Y X M _ _ (.int (mk (fun i => clP (cp M 1) t i && bSd M 1 n i) n) :: _)
      refine v_callS hX 1 (f_bitCount) tw_321 tw_399 tw_320 tw_46 (by decide +kernel) ⟨⟨rfl, rfl⟩, Nat.le_of_ble_eq_true rfl, Nat.le_of_ble_eq_true rfl⟩ rfl (Nat.le_of_ble_eq_true rfl) rfl rfl 25 rfl ?_
      rw [bc_mk hn]
      refine v_iload_n hX 2 26 rfl rfl rfl ?_
      refine v_callS hX 1 (f_bitCount) tw_321 tw_399 tw_320 tw_46 (by decide +kernel) ⟨⟨rfl, rfl⟩, Nat.le_of_ble_eq_true rfl, Nat.le_of_ble_eq_true rfl⟩ rfl (Nat.le_of_ble_eq_true rfl) rfl rfl 27 rfl ?_
      rw [bc_mk hn]
      refine v_callS hX 2 (f_floatBits (show cnt (fun i => clP (cp M 1) t i && bSd M 1 n i) n < 25 by omega) (show cnt (clP (cp M 1) t) n < 25 by omega) hb0) tw_432 tw_430 tw_431 tw_39 (by decide +kernel) ⟨⟨rfl, rfl⟩, Nat.le_of_ble_eq_true rfl, Nat.le_of_ble_eq_true rfl⟩ rfl (Nat.le_of_ble_eq_true rfl) rfl rfl 28 rfl ?_
      refine v_iret hX hQ rfl rfl ?_ ?_ 29 rfl
      · unfold shF; rw [if_neg hb0]
      · rfl
    · skip
      have hb0 : cnt (clP (cp M 1) t) n = 0 := cnt_0 c29 hn
      refine v_bipush hX (v := (-6)) 18 rfl (by decide) ?_
      refine v_iret hX hQ rfl rfl ?_ ?_ 19 rfl
      · unfold shF; rw [if_pos hb0]
      · rfl
  · skip
    refine v_iload_n hX 1 2 rfl rfl rfl ?_
    refine v_iconst hX (v := 1) 3 rfl (by decide) ?_
    refine v_icmp_eq hX (tgt := 11) 4 rfl (by decide) (fun c6 => ?_) (fun c6 => absurd (h.resolve_left c1) c6)
    refine v_aload_n hX 0 7 rfl rfl rfl ?_
    refine g_6_0 hX 8  tw_192 rfl ?_
    refine v_callVN hX 0 (by decide) (cG_B isB_1) rfl (f_claims isB_1 hz hn) tw_397 (List.mem_of_getElem? (i := 25) rfl) tw_40 tw_396 tw_28 (by decide +kernel) ⟨⟨rfl, rfl⟩, Nat.le_of_ble_eq_true rfl, Nat.le_of_ble_eq_true rfl⟩ rfl (Nat.le_of_ble_eq_true rfl) rfl rfl 9 rfl ?_
    rw [mk_F]
    refine v_aload_n hX 0 10 rfl rfl rfl ?_
    refine g_6_0 hX 11  tw_192 rfl ?_
    refine v_iload_n hX 1 12 rfl rfl rfl ?_
    refine v_callVN hX 1 (by decide) (cG_B isB_1) rfl (f_ofSide isB_1 hz hn) tw_425 (List.mem_of_getElem? (i := 31) rfl) tw_40 tw_424 tw_32 (by decide +kernel) ⟨⟨rfl, rfl⟩, Nat.le_of_ble_eq_true rfl, Nat.le_of_ble_eq_true rfl⟩ rfl (Nat.le_of_ble_eq_true rfl) rfl rfl 13 rfl ?_
    rw [mk_F]
    refine v_iand hX 14 rfl ?_
    rw [mk_and _ _ (by omega)]
    show V Y X M _ _ (.int (mk (clP (cp M 1) t) n) :: _)
    refine v_istore_n hX 2 15 rfl rfl (Nat.le_of_ble_eq_true rfl) rfl ?_
    refine v_iload_n hX 2 16 rfl rfl rfl ?_
    refine v_if_ne hX (tgt := 35) 17 rfl (by decide) (fun c29 => ?_) (fun c29 => ?_)
    · skip
      have hb0 : ¬ cnt (clP (cp M 1) t) n = 0 := fun e => c29 (mk_0 e)
      refine v_iload_n hX 2 20 rfl rfl rfl ?_
      refine v_aload_n hX 0 21 rfl rfl rfl ?_
      refine g_6_0 hX 22  tw_192 rfl ?_
      refine v_callVN hX 0 (by decide) (cG_B isB_1) rfl (f_standing isB_1 hz hn hw) tw_287 (List.mem_of_getElem? (i := 20) rfl) tw_40 tw_286 tw_13 (by decide +kernel) ⟨⟨rfl, rfl⟩, Nat.le_of_ble_eq_true rfl, Nat.le_of_ble_eq_true rfl⟩ rfl (Nat.le_of_ble_eq_true rfl) rfl rfl 23 rfl ?_
      refine v_iand hX 24 rfl ?_
      rw [mk_and _ _ (by omega)]
      show V Y X M _ _ (.int (mk (fun i => clP (cp M 1) t i && bSd M 1 n i) n) :: _)
      refine v_callS hX 1 (f_bitCount) tw_321 tw_399 tw_320 tw_46 (by decide +kernel) ⟨⟨rfl, rfl⟩, Nat.le_of_ble_eq_true rfl, Nat.le_of_ble_eq_true rfl⟩ rfl (Nat.le_of_ble_eq_true rfl) rfl rfl 25 rfl ?_
      rw [bc_mk hn]
      refine v_iload_n hX 2 26 rfl rfl rfl ?_
      refine v_callS hX 1 (f_bitCount) tw_321 tw_399 tw_320 tw_46 (by decide +kernel) ⟨⟨rfl, rfl⟩, Nat.le_of_ble_eq_true rfl, Nat.le_of_ble_eq_true rfl⟩ rfl (Nat.le_of_ble_eq_true rfl) rfl rfl 27 rfl ?_
      rw [bc_mk hn]
      refine v_callS hX 2 (f_floatBits (show cnt (fun i => clP (cp M 1) t i && bSd M 1 n i) n < 25 by omega) (show cnt (clP (cp M 1) t) n < 25 by omega) hb0) tw_432 tw_430 tw_431 tw_39 (by decide +kernel) ⟨⟨rfl, rfl⟩, Nat.le_of_ble_eq_true rfl, Nat.le_of_ble_eq_true rfl⟩ rfl (Nat.le_of_ble_eq_true rfl) rfl rfl 28 rfl ?_
      refine v_iret hX hQ rfl rfl ?_ ?_ 29 rfl
      · unfold shF; rw [if_neg hb0]
      · rfl
    · skip
      have hb0 : cnt (clP (cp M 1) t) n = 0 := cnt_0 c29 hn
      refine v_bipush hX (v := (-6)) 18 rfl (by decide) ?_
      refine v_iret hX hQ rfl rfl ?_ ?_ 19 rfl
      · unfold shF; rw [if_pos hb0]
      · rfl
set_option maxRecDepth 100000 in
set_option maxHeartbeats 4000000 in
theorem f_share_no {Y : Yt} {M : Mm} {t : Int32} (h0 : ¬ t = 0) (h1 : ¬ t = 1) : Fn Y yX6_share wsX6_share { frames := 4, cells := 0, slots := 0, locals := 88 } [.ref (Y.2.2.2.1 0), .int t] M (some (.int (-1))) M := by
  refine Fn.of (cc := cX6_share) (ins := iX6_share) (maxL := 3) (ret := (some .int)) (by decide) dX6_share [some (.ref (Y.2.2.2.1 0)), some (.int t), none] (Nat.le_of_ble_eq_true rfl) rfl rfl ?_
  intro X hX hQ
  refine v_iload_n hX 1 0 rfl rfl rfl ?_
  refine v_if_eq hX (tgt := 11) 1 rfl (by decide) (fun c1 => absurd c1 h0) (fun c1 => ?_)
  refine v_iload_n hX 1 2 rfl rfl rfl ?_
  refine v_iconst hX (v := 1) 3 rfl (by decide) ?_
  refine v_icmp_eq hX (tgt := 11) 4 rfl (by decide) (fun c6 => absurd c6 h1) (fun c6 => ?_)
  refine v_iconst hX (v := (-1)) 5 rfl (by decide) ?_
  refine v_iret hX hQ rfl rfl ?_ ?_ 6 rfl
  · rfl
  · rfl
