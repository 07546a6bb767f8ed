set_option maxRecDepth 100000 in
set_option maxHeartbeats 4000000 in
theorem r_put_bad {Y : Yt} {M : Mm} {x : Int64} (hg : (pfL 8 x 0 true).1 = 0 ∨ (pfL 8 x 0 true).2 = false) : Fn Y yX7_put wsX7_put { frames := 1, cells := 0, slots := 0, locals := 22 } [.ref (Y.2.2.2 270), .long x] M (some (.int (-2))) M := by
  refine Fn.of (cc := cX7_put) (ins := iX7_put) (maxL := 8) (ret := (some .int)) (by decide) dX7_put [some (.ref (Y.2.2.2 270)), some (.long x), none, none, none, none, none, none] (Nat.le_of_ble_eq_true rfl) rfl rfl ?_
  intro X hX hQ
  refine v_iconst hX (v := 0) 0 rfl (by decide) ?_
  refine v_istore_n hX 3 1 rfl rfl (Nat.le_of_ble_eq_true rfl) rfl ?_
  refine v_lload_n hX 1 2 rfl rfl rfl ?_
  refine v_lstore hX 3 rfl (Nat.le_of_ble_eq_true rfl) rfl ?_
  refine v_iconst hX (v := 1) 4 rfl (by decide) ?_
  refine v_istore hX 5 rfl (Nat.le_of_ble_eq_true rfl) rfl ?_
  have lp : ∀ (f : Nat), f ≤ 8 → ∀ (r : Int64) (i : Nat) (b : Bool), i + f = 8 → r.toUInt64.toNat < 256 ^ f → pfL f r i b = (pfL 8 x 0 true) → V Y X M 8 [some (.ref (Y.2.2.2 270)), some (.long x), none, some (.int (nI i)), some (.long r), none, some (.int (b01 b)), none] [] := by
    refine downTo (fun f ih => ?_)
    intro hf8 r i b hi hr he
    refine v_lload hX 6 rfl rfl ?_
    refine v_lconst hX (v := 0) 7 rfl rfl ?_
    refine v_lcmp hX 8 rfl ?_
    refine v_if_eq hX (tgt := 49) 9 rfl (by decide) (fun c12 => ?_) (fun c12 => ?_)
    · skip
      have e1 : (i, b) = (pfL 8 x 0 true) := by rw [← he]; exact (pfL_0 c12).symm
      rw [← e1] at hg
      refine v_iload_n hX 3 26 rfl rfl rfl ?_
      refine v_if_eq hX (tgt := 58) 27 rfl (by decide) (fun c50 => ?_) (fun c50 => ?_)
      · skip
        refine v_bipush hX (v := (-2)) 30 rfl (by decide) ?_
        refine v_iret hX hQ rfl rfl ?_ ?_ 31 rfl
        · rfl
        · rfl
      · skip
        have hb2 : b = false := hg.resolve_left (fun g => c50 (by rw [show i = 0 from g]; rfl))
        refine v_iload hX 28 rfl rfl ?_
        refine v_if_ne hX (tgt := 61) 29 rfl (by decide) (fun c55 => absurd c55 (fun g => g (by rw [hb2]; rfl))) (fun c55 => ?_)
        refine v_bipush hX (v := (-2)) 30 rfl (by decide) ?_
        refine v_iret hX hQ rfl rfl ?_ ?_ 31 rfl
        · rfl
        · rfl
    · skip
      obtain ⟨f2, hf2⟩ := pf_f hr c12
      rw [hf2, pfL, if_neg c12] at he
      refine v_iload hX 10 rfl rfl ?_
      refine v_if_eq hX (tgt := 49) 11 rfl (by decide) (fun c17 => ?_) (fun c17 => ?_)
      · skip
        have hb0 := b01_f c17
        rw [if_pos hb0] at he
        have e1 : (i, b) = (pfL 8 x 0 true) := he
        rw [← e1] at hg
        refine v_iload_n hX 3 26 rfl rfl rfl ?_
        refine v_if_eq hX (tgt := 58) 27 rfl (by decide) (fun c50 => ?_) (fun c50 => ?_)
        · skip
          refine v_bipush hX (v := (-2)) 30 rfl (by decide) ?_
          refine v_iret hX hQ rfl rfl ?_ ?_ 31 rfl
          · rfl
          · rfl
        · skip
          have hb2 : b = false := hg.resolve_left (fun g => c50 (by rw [show i = 0 from g]; rfl))
          refine v_iload hX 28 rfl rfl ?_
          refine v_if_ne hX (tgt := 61) 29 rfl (by decide) (fun c55 => absurd c55 (fun g => g (by rw [hb2]; rfl))) (fun c55 => ?_)
          refine v_bipush hX (v := (-2)) 30 rfl (by decide) ?_
          refine v_iret hX hQ rfl rfl ?_ ?_ 31 rfl
          · rfl
          · rfl
      · skip
        have hb1 := b01_t c17
        rw [if_neg (by rw [hb1]; decide)] at he
        refine v_lload hX 12 rfl rfl ?_
        refine v_ldc2 hX tw_906 13 rfl ?_
        refine v_land hX 14 rfl ?_
        refine v_l2i hX 15 rfl rfl ?_
        refine v_bipush hX (v := 33) 16 rfl (by decide) ?_
        refine v_bipush hX (v := 126) 17 rfl (by decide) ?_
        refine v_callS hX 3 (r_in) tw_703 tw_701 tw_702 tw_99 (by decide +kernel) ⟨⟨rfl, rfl⟩, Nat.le_of_ble_eq_true rfl, Nat.le_of_ble_eq_true rfl⟩ rfl (Nat.le_of_ble_eq_true rfl) rfl rfl 18 rfl ?_
        refine v_istore hX 19 rfl (Nat.le_of_ble_eq_true rfl) rfl ?_
        refine v_lload hX 20 rfl rfl ?_
        refine v_bipush hX (v := 8) 21 rfl (by decide) ?_
        refine v_lushr hX 22 rfl rfl ?_
        refine v_lstore hX 23 rfl (Nat.le_of_ble_eq_true rfl) rfl ?_
        refine v_iinc hX 24 rfl rfl (nI_inc i) (Nat.le_of_ble_eq_true rfl) rfl ?_
        refine v_goto hX (tgt := 8) 25 rfl (by decide) ?_
        exact V.sub (ih f2 (by omega) (by omega) (sh8 r) (i + 1) (inv (r &&& 255).toInt32 33 126) (by omega) (pf_s (by rw [← hf2]; exact hr)) he) rfl ⟨rfl, rfl, rfl, rfl, (by first | rfl | (refine congrArg (fun z : Int32 => some (Value.int z)) ?_; rfl)), trivial⟩
  exact V.sub (lp 8 (Nat.le_refl _) x 0 true rfl (UInt64.toNat_lt _) rfl) rfl ⟨rfl, rfl, rfl, rfl, (by first | rfl | (refine congrArg (fun z : Int32 => some (Value.int z)) ?_; rfl)), trivial⟩
set_option maxRecDepth 100000 in
set_option maxHeartbeats 4000000 in
theorem r_put_many {Y : Yt} {M : Mm} {x : Int64} {l g : Nat} (hl : M.1 270 6 = nI l) (hg : (pfL 8 x 0 true) = (g, true)) (hg0 : 0 < g) (hg8 : g ≤ 8) (hl8 : l ≤ 80) (hlg : 80 < l + g) : Fn Y yX7_put wsX7_put { frames := 1, cells := 0, slots := 0, locals := 22 } [.ref (Y.2.2.2 270), .long x] M (some (.int (-4))) M := by
  refine Fn.of (cc := cX7_put) (ins := iX7_put) (maxL := 8) (ret := (some .int)) (by decide) dX7_put [some (.ref (Y.2.2.2 270)), some (.long x), none, none, none, none, none, none] (Nat.le_of_ble_eq_true rfl) rfl rfl ?_
  intro X hX hQ
  refine v_iconst hX (v := 0) 0 rfl (by decide) ?_
  refine v_istore_n hX 3 1 rfl rfl (Nat.le_of_ble_eq_true rfl) rfl ?_
  refine v_lload_n hX 1 2 rfl rfl rfl ?_
  refine v_lstore hX 3 rfl (Nat.le_of_ble_eq_true rfl) rfl ?_
  refine v_iconst hX (v := 1) 4 rfl (by decide) ?_
  refine v_istore hX 5 rfl (Nat.le_of_ble_eq_true rfl) rfl ?_
  have lp : ∀ (f : Nat), f ≤ 8 → ∀ (r : Int64) (i : Nat) (b : Bool), i + f = 8 → r.toUInt64.toNat < 256 ^ f → pfL f r i b = (pfL 8 x 0 true) → V Y X M 8 [some (.ref (Y.2.2.2 270)), some (.long x), none, some (.int (nI i)), some (.long r), none, some (.int (b01 b)), none] [] := by
    refine downTo (fun f ih => ?_)
    intro hf8 r i b hi hr he
    refine v_lload hX 6 rfl rfl ?_
    refine v_lconst hX (v := 0) 7 rfl rfl ?_
    refine v_lcmp hX 8 rfl ?_
    refine v_if_eq hX (tgt := 49) 9 rfl (by decide) (fun c12 => ?_) (fun c12 => ?_)
    · skip
      have e1 : (i, b) = (pfL 8 x 0 true) := by rw [← he]; exact (pfL_0 c12).symm
      have e2 := e1.trans hg
      have e3 : i = g := congrArg Prod.fst e2
      have e4 : b = true := congrArg Prod.snd e2
      rw [e3, e4]
      refine v_iload_n hX 3 26 rfl rfl rfl ?_
      refine v_if_eq hX (tgt := 58) 27 rfl (by decide) (fun c50 => absurd c50 (nI_ne0 hg0 (by omega))) (fun c50 => ?_)
      refine v_iload hX 28 rfl rfl ?_
      refine v_if_ne hX (tgt := 61) 29 rfl (by decide) (fun c55 => ?_) (fun c55 => absurd c55 (by decide))
      refine v_aload_n hX 0 32 rfl rfl rfl ?_
      refine g_7_6 hX 33  tw_652 rfl ?_
      rw [hl]
      refine v_iload_n hX 3 34 rfl rfl rfl ?_
      refine v_iadd hX 35 rfl ?_
      refine v_bipush hX (v := 80) 36 rfl (by decide) ?_
      refine v_icmp_le hX (tgt := 75) 37 rfl (by decide) (fun c69 => absurd c69 (by rw [nI_add]; exact nI_ge hlg (by omega))) (fun c69 => ?_)
      refine v_bipush hX (v := (-4)) 38 rfl (by decide) ?_
      refine v_iret hX hQ rfl rfl ?_ ?_ 39 rfl
      · rfl
      · rfl
    · skip
      obtain ⟨f2, hf2⟩ := pf_f hr c12
      rw [hf2, pfL, if_neg c12] at he
      refine v_iload hX 10 rfl rfl ?_
      refine v_if_eq hX (tgt := 49) 11 rfl (by decide) (fun c17 => ?_) (fun c17 => ?_)
      · skip
        have hb0 := b01_f c17
        rw [if_pos hb0] at he
        have e1 : (i, b) = (pfL 8 x 0 true) := he
        have e2 := e1.trans hg
        have e3 : i = g := congrArg Prod.fst e2
        have e4 : b = true := congrArg Prod.snd e2
        rw [e3, e4]
        refine v_iload_n hX 3 26 rfl rfl rfl ?_
        refine v_if_eq hX (tgt := 58) 27 rfl (by decide) (fun c50 => absurd c50 (nI_ne0 hg0 (by omega))) (fun c50 => ?_)
        refine v_iload hX 28 rfl rfl ?_
        refine v_if_ne hX (tgt := 61) 29 rfl (by decide) (fun c55 => ?_) (fun c55 => absurd c55 (by decide))
        refine v_aload_n hX 0 32 rfl rfl rfl ?_
        refine g_7_6 hX 33  tw_652 rfl ?_
        rw [hl]
        refine v_iload_n hX 3 34 rfl rfl rfl ?_
        refine v_iadd hX 35 rfl ?_
        refine v_bipush hX (v := 80) 36 rfl (by decide) ?_
        refine v_icmp_le hX (tgt := 75) 37 rfl (by decide) (fun c69 => absurd c69 (by rw [nI_add]; exact nI_ge hlg (by omega))) (fun c69 => ?_)
        refine v_bipush hX (v := (-4)) 38 rfl (by decide) ?_
        refine v_iret hX hQ rfl rfl ?_ ?_ 39 rfl
        · rfl
        · rfl
      · skip
        have hb1 := b01_t c17
        rw [if_neg (by rw [hb1]; decide)] at he
        refine v_lload hX 12 rfl rfl ?_
        refine v_ldc2 hX tw_906 13 rfl ?_
        refine v_land hX 14 rfl ?_
        refine v_l2i hX 15 rfl rfl ?_
        refine v_bipush hX (v := 33) 16 rfl (by decide) ?_
        refine v_bipush hX (v := 126) 17 rfl (by decide) ?_
        refine v_callS hX 3 (r_in) tw_703 tw_701 tw_702 tw_99 (by decide +kernel) ⟨⟨rfl, rfl⟩, Nat.le_of_ble_eq_true rfl, Nat.le_of_ble_eq_true rfl⟩ rfl (Nat.le_of_ble_eq_true rfl) rfl rfl 18 rfl ?_
        refine v_istore hX 19 rfl (Nat.le_of_ble_eq_true rfl) rfl ?_
        refine v_lload hX 20 rfl rfl ?_
        refine v_bipush hX (v := 8) 21 rfl (by decide) ?_
        refine v_lushr hX 22 rfl rfl ?_
        refine v_lstore hX 23 rfl (Nat.le_of_ble_eq_true rfl) rfl ?_
        refine v_iinc hX 24 rfl rfl (nI_inc i) (Nat.le_of_ble_eq_true rfl) rfl ?_
        refine v_goto hX (tgt := 8) 25 rfl (by decide) ?_
        exact V.sub (ih f2 (by omega) (by omega) (sh8 r) (i + 1) (inv (r &&& 255).toInt32 33 126) (by omega) (pf_s (by rw [← hf2]; exact hr)) he) rfl ⟨rfl, rfl, rfl, rfl, (by first | rfl | (refine congrArg (fun z : Int32 => some (Value.int z)) ?_; rfl)), trivial⟩
  exact V.sub (lp 8 (Nat.le_refl _) x 0 true rfl (UInt64.toNat_lt _) rfl) rfl ⟨rfl, rfl, rfl, rfl, (by first | rfl | (refine congrArg (fun z : Int32 => some (Value.int z)) ?_; rfl)), trivial⟩
set_option maxRecDepth 100000 in
set_option maxHeartbeats 4000000 in
theorem r_put {Y : Yt} {M : Mm} {x : Int64} {l g : Nat} (hl : M.1 270 6 = nI l) (hg : (pfL 8 x 0 true) = (g, true)) (hg0 : 0 < g) (hg8 : g ≤ 8) (hlg : l + g ≤ 80) : Fn Y yX7_put wsX7_put { frames := 1, cells := 0, slots := 0, locals := 22 } [.ref (Y.2.2.2 270), .long x] M (some (.int (nI (l + g)))) ((apQM M x l g g)) := by
  refine Fn.of (cc := cX7_put) (ins := iX7_put) (maxL := 8) (ret := (some .int)) (by decide) dX7_put [some (.ref (Y.2.2.2 270)), some (.long x), none, none, none, none, none, none] (Nat.le_of_ble_eq_true rfl) rfl rfl ?_
  intro X hX hQ
  refine v_iconst hX (v := 0) 0 rfl (by decide) ?_
  refine v_istore_n hX 3 1 rfl rfl (Nat.le_of_ble_eq_true rfl) rfl ?_
  refine v_lload_n hX 1 2 rfl rfl rfl ?_
  refine v_lstore hX 3 rfl (Nat.le_of_ble_eq_true rfl) rfl ?_
  refine v_iconst hX (v := 1) 4 rfl (by decide) ?_
  refine v_istore hX 5 rfl (Nat.le_of_ble_eq_true rfl) rfl ?_
  have lp : ∀ (f : Nat), f ≤ 8 → ∀ (r : Int64) (i : Nat) (b : Bool), i + f = 8 → r.toUInt64.toNat < 256 ^ f → pfL f r i b = (pfL 8 x 0 true) → V Y X M 8 [some (.ref (Y.2.2.2 270)), some (.long x), none, some (.int (nI i)), some (.long r), none, some (.int (b01 b)), none] [] := by
    refine downTo (fun f ih => ?_)
    intro hf8 r i b hi hr he
    refine v_lload hX 6 rfl rfl ?_
    refine v_lconst hX (v := 0) 7 rfl rfl ?_
    refine v_lcmp hX 8 rfl ?_
    refine v_if_eq hX (tgt := 49) 9 rfl (by decide) (fun c12 => ?_) (fun c12 => ?_)
    · skip
      have e1 : (i, b) = (pfL 8 x 0 true) := by rw [← he]; exact (pfL_0 c12).symm
      have e2 := e1.trans hg
      have e3 : i = g := congrArg Prod.fst e2
      have e4 : b = true := congrArg Prod.snd e2
      rw [e3, e4]
      refine v_iload_n hX 3 26 rfl rfl rfl ?_
      refine v_if_eq hX (tgt := 58) 27 rfl (by decide) (fun c50 => absurd c50 (nI_ne0 hg0 (by omega))) (fun c50 => ?_)
      refine v_iload hX 28 rfl rfl ?_
      refine v_if_ne hX (tgt := 61) 29 rfl (by decide) (fun c55 => ?_) (fun c55 => absurd c55 (by decide))
      refine v_aload_n hX 0 32 rfl rfl rfl ?_
      refine g_7_6 hX 33  tw_652 rfl ?_
      rw [hl]
      refine v_iload_n hX 3 34 rfl rfl rfl ?_
      refine v_iadd hX 35 rfl ?_
      refine v_bipush hX (v := 80) 36 rfl (by decide) ?_
      refine v_icmp_le hX (tgt := 75) 37 rfl (by decide) (fun c69 => ?_) (fun c69 => absurd (by rw [nI_add]; exact nI_le (b := 80) hlg (by omega)) c69)
      refine v_iload_n hX 3 40 rfl rfl rfl ?_
      refine v_iconst hX (v := 1) 41 rfl (by decide) ?_
      refine v_isub hX 42 rfl ?_
      refine v_istore hX 43 rfl (Nat.le_of_ble_eq_true rfl) rfl ?_
      have lq : ∀ (m : Nat), m ≤ g → V Y X (apQM M x l g (g - m)) 80 [some (.ref (Y.2.2.2 270)), some (.long x), none, some (.int (nI g)), none, none, none, some (.int (nI m - 1))] [] := by
        refine downTo (fun m ihm => ?_)
        intro hm
        rcases Nat.eq_zero_or_pos m with h0 | h0
        · skip
          subst h0
          refine v_iload hX 44 rfl rfl ?_
          refine v_if_lt hX (tgt := 123) 45 rfl (by decide) (fun c82 => ?_) (fun c82 => absurd (by decide) c82)
          refine v_aload_n hX 0 68 rfl rfl rfl ?_
          refine g_7_6 hX 69  tw_652 rfl ?_
          rw [apQ_6]
          refine v_iret hX hQ rfl rfl ?_ ?_ 70 rfl
          · rfl
          · rfl
        · skip
          obtain ⟨m, rfl⟩ : ∃ m2, m = m2 + 1 := ⟨m - 1, by omega⟩
          rw [nI_pred]
          refine v_iload hX 44 rfl rfl ?_
          refine v_if_lt hX (tgt := 123) 45 rfl (by decide) (fun c82 => absurd c82 (nI_nlt (Nat.zero_le _) (by omega))) (fun c82 => ?_)
          refine v_aload_n hX 0 46 rfl rfl rfl ?_
          refine g_7_5 hX 47  tw_651 rfl ?_
          refine v_aload_n hX 0 48 rfl rfl rfl ?_
          refine g_7_6 hX 49  tw_652 rfl ?_
          rw [apQ_6]
          refine v_lload_n hX 1 50 rfl rfl rfl ?_
          refine v_bipush hX (v := 8) 51 rfl (by decide) ?_
          refine v_iload hX 52 rfl rfl ?_
          refine v_imul hX 53 rfl ?_
          refine v_lushr hX 54 rfl rfl ?_
          refine v_ldc2 hX tw_906 55 rfl ?_
          refine v_land hX 56 rfl ?_
          refine v_l2i hX 57 rfl rfl ?_
          refine v_i2c hX 58 rfl rfl ?_
          show V Y X (apQM M x l g (g - (m + 1))) _ _ (.int (sgn x (nI m)) :: _)
          refine v_cast hX (k := 275) (by decide) rfl rfl (vp_in_nI (by omega) (by decide)) rfl 59 rfl ?_
          rw [nI_clamp (by omega), sgn_nar]
          refine v_aload_n hX 0 60 rfl rfl rfl ?_
          refine v_dup hX 61 rfl rfl ?_
          refine g_7_6 hX 62  tw_652 rfl ?_
          rw [mset_n (by decide), apQ_6]
          refine v_iconst hX (v := 1) 63 rfl (by decide) ?_
          refine v_iadd hX 64 rfl ?_
          rw [nI_1]
          refine p_7_6 hX 65   tw_652 rfl ?_
          refine v_iinc hX 66 rfl rfl (nI_dm m) (Nat.le_of_ble_eq_true rfl) rfl ?_
          refine v_goto hX (tgt := 80) 67 rfl (by decide) ?_
          refine V.subM (ihm m (by omega) (by omega)) ?_ rfl ⟨rfl, rfl, rfl, rfl, trivial⟩
          rw [show g - m = g - (m + 1) + 1 by omega, ← apQ_s (show g - (m + 1) < g by omega), show g - 1 - (g - (m + 1)) = m by omega]
      refine V.subM (lq g (Nat.le_refl g)) ?_ rfl ⟨rfl, rfl, rfl, rfl, trivial⟩
      rw [Nat.sub_self, apQ_0 hl]
    · skip
      obtain ⟨f2, hf2⟩ := pf_f hr c12
      rw [hf2, pfL, if_neg c12] at he
      refine v_iload hX 10 rfl rfl ?_
      refine v_if_eq hX (tgt := 49) 11 rfl (by decide) (fun c17 => ?_) (fun c17 => ?_)
      · skip
        have hb0 := b01_f c17
        rw [if_pos hb0] at he
        have e1 : (i, b) = (pfL 8 x 0 true) := he
        have e2 := e1.trans hg
        have e3 : i = g := congrArg Prod.fst e2
        have e4 : b = true := congrArg Prod.snd e2
        rw [e3, e4]
        refine v_iload_n hX 3 26 rfl rfl rfl ?_
        refine v_if_eq hX (tgt := 58) 27 rfl (by decide) (fun c50 => absurd c50 (nI_ne0 hg0 (by omega))) (fun c50 => ?_)
        refine v_iload hX 28 rfl rfl ?_
        refine v_if_ne hX (tgt := 61) 29 rfl (by decide) (fun c55 => ?_) (fun c55 => absurd c55 (by decide))
        refine v_aload_n hX 0 32 rfl rfl rfl ?_
        refine g_7_6 hX 33  tw_652 rfl ?_
        rw [hl]
        refine v_iload_n hX 3 34 rfl rfl rfl ?_
        refine v_iadd hX 35 rfl ?_
        refine v_bipush hX (v := 80) 36 rfl (by decide) ?_
        refine v_icmp_le hX (tgt := 75) 37 rfl (by decide) (fun c69 => ?_) (fun c69 => absurd (by rw [nI_add]; exact nI_le (b := 80) hlg (by omega)) c69)
        refine v_iload_n hX 3 40 rfl rfl rfl ?_
        refine v_iconst hX (v := 1) 41 rfl (by decide) ?_
        refine v_isub hX 42 rfl ?_
        refine v_istore hX 43 rfl (Nat.le_of_ble_eq_true rfl) rfl ?_
        have lq : ∀ (m : Nat), m ≤ g → V Y X (apQM M x l g (g - m)) 80 [some (.ref (Y.2.2.2 270)), some (.long x), none, some (.int (nI g)), none, none, none, some (.int (nI m - 1))] [] := by
          refine downTo (fun m ihm => ?_)
          intro hm
          rcases Nat.eq_zero_or_pos m with h0 | h0
          · skip
            subst h0
            refine v_iload hX 44 rfl rfl ?_
            refine v_if_lt hX (tgt := 123) 45 rfl (by decide) (fun c82 => ?_) (fun c82 => absurd (by decide) c82)
            refine v_aload_n hX 0 68 rfl rfl rfl ?_
            refine g_7_6 hX 69  tw_652 rfl ?_
            rw [apQ_6]
            refine v_iret hX hQ rfl rfl ?_ ?_ 70 rfl
            · rfl
            · rfl
          · skip
            obtain ⟨m, rfl⟩ : ∃ m2, m = m2 + 1 := ⟨m - 1, by omega⟩
            rw [nI_pred]
            refine v_iload hX 44 rfl rfl ?_
            refine v_if_lt hX (tgt := 123) 45 rfl (by decide) (fun c82 => absurd c82 (nI_nlt (Nat.zero_le _) (by omega))) (fun c82 => ?_)
            refine v_aload_n hX 0 46 rfl rfl rfl ?_
            refine g_7_5 hX 47  tw_651 rfl ?_
            refine v_aload_n hX 0 48 rfl rfl rfl ?_
            refine g_7_6 hX 49  tw_652 rfl ?_
            rw [apQ_6]
            refine v_lload_n hX 1 50 rfl rfl rfl ?_
            refine v_bipush hX (v := 8) 51 rfl (by decide) ?_
            refine v_iload hX 52 rfl rfl ?_
            refine v_imul hX 53 rfl ?_
            refine v_lushr hX 54 rfl rfl ?_
            refine v_ldc2 hX tw_906 55 rfl ?_
            refine v_land hX 56 rfl ?_
            refine v_l2i hX 57 rfl rfl ?_
            refine v_i2c hX 58 rfl rfl ?_
            show V Y X (apQM M x l g (g - (m + 1))) _ _ (.int (sgn x (nI m)) :: _)
            refine v_cast hX (k := 275) (by decide) rfl rfl (vp_in_nI (by omega) (by decide)) rfl 59 rfl ?_
            rw [nI_clamp (by omega), sgn_nar]
            refine v_aload_n hX 0 60 rfl rfl rfl ?_
            refine v_dup hX 61 rfl rfl ?_
            refine g_7_6 hX 62  tw_652 rfl ?_
            rw [mset_n (by decide), apQ_6]
            refine v_iconst hX (v := 1) 63 rfl (by decide) ?_
            refine v_iadd hX 64 rfl ?_
            rw [nI_1]
            refine p_7_6 hX 65   tw_652 rfl ?_
            refine v_iinc hX 66 rfl rfl (nI_dm m) (Nat.le_of_ble_eq_true rfl) rfl ?_
            refine v_goto hX (tgt := 80) 67 rfl (by decide) ?_
            refine V.subM (ihm m (by omega) (by omega)) ?_ rfl ⟨rfl, rfl, rfl, rfl, trivial⟩
            rw [show g - m = g - (m + 1) + 1 by omega, ← apQ_s (show g - (m + 1) < g by omega), show g - 1 - (g - (m + 1)) = m by omega]
        refine V.subM (lq g (Nat.le_refl g)) ?_ rfl ⟨rfl, rfl, rfl, rfl, trivial⟩
        rw [Nat.sub_self, apQ_0 hl]
      · skip
        have hb1 := b01_t c17
        rw [if_neg (by rw [hb1]; decide)] at he
        refine v_lload hX 12 rfl rfl ?_
        refine v_ldc2 hX tw_906 13 rfl ?_
        refine v_land hX 14 rfl ?_
        refine v_l2i hX 15 rfl rfl ?_
        refine v_bipush hX (v := 33) 16 rfl (by decide) ?_
        refine v_bipush hX (v := 126) 17 rfl (by decide) ?_
        refine v_callS hX 3 (r_in) tw_703 tw_701 tw_702 tw_99 (by decide +kernel) ⟨⟨rfl, rfl⟩, Nat.le_of_ble_eq_true rfl, Nat.le_of_ble_eq_true rfl⟩ rfl (Nat.le_of_ble_eq_true rfl) rfl rfl 18 rfl ?_
        refine v_istore hX 19 rfl (Nat.le_of_ble_eq_true rfl) rfl ?_
        refine v_lload hX 20 rfl rfl ?_
        refine v_bipush hX (v := 8) 21 rfl (by decide) ?_
        refine v_lushr hX 22 rfl rfl ?_
        refine v_lstore hX 23 rfl (Nat.le_of_ble_eq_true rfl) rfl ?_
        refine v_iinc hX 24 rfl rfl (nI_inc i) (Nat.le_of_ble_eq_true rfl) rfl ?_
        refine v_goto hX (tgt := 8) 25 rfl (by decide) ?_
        exact V.sub (ih f2 (by omega) (by omega) (sh8 r) (i + 1) (inv (r &&& 255).toInt32 33 126) (by omega) (pf_s (by rw [← hf2]; exact hr)) he) rfl ⟨rfl, rfl, rfl, rfl, (by first | rfl | (refine congrArg (fun z : Int32 => some (Value.int z)) ?_; rfl)), trivial⟩
  exact V.sub (lp 8 (Nat.le_refl _) x 0 true rfl (UInt64.toNat_lt _) rfl) rfl ⟨rfl, rfl, rfl, rfl, (by first | rfl | (refine congrArg (fun z : Int32 => some (Value.int z)) ?_; rfl)), trivial⟩
