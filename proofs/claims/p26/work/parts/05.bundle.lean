set_option maxRecDepth 100000 in
set_option maxHeartbeats 4000000 in
theorem f_has {Y : Yt} {M : Mm} {x y : Int32} : Fn Y yX6_has wsX6_has { frames := 0, cells := 0, slots := 0, locals := 0 } [.int x, .int y] M (some (.int (hasv x y))) M := by
  refine Fn.of (cc := cX6_has) (ins := iX6_has) (maxL := 2) (ret := (some .boolean)) (by decide) dX6_has [some (.int x), some (.int y)] (Nat.le_of_ble_eq_true rfl) rfl rfl ?_
  intro X hX hQ
  refine v_iload_n hX 0 0 rfl rfl rfl ?_
  refine v_iload_n hX 1 1 rfl rfl rfl ?_
  refine v_iushr hX 2 rfl rfl ?_
  refine v_iconst hX (v := 1) 3 rfl (by decide) ?_
  refine v_iand hX 4 rfl ?_
  refine v_iconst hX (v := 1) 5 rfl (by decide) ?_
  refine v_icmp_ne hX (tgt := 13) 6 rfl (by decide) (fun c6 => ?_) (fun c6 => ?_)
  · skip
    refine v_iconst hX (v := 0) 9 rfl (by decide) ?_
    refine v_iret hX hQ rfl rfl ?_ ?_ 10 rfl
    · simp [hasv, c6]
    · rfl
  · skip
    refine v_iconst hX (v := 1) 7 rfl (by decide) ?_
    refine v_goto hX (tgt := 14) 8 rfl (by decide) ?_
    refine v_iret hX hQ rfl rfl ?_ ?_ 10 rfl
    · simp [hasv, c6]
    · rfl
set_option maxRecDepth 100000 in
set_option maxHeartbeats 4000000 in
theorem f_find_in {Y : Yt} {M : Mm} {b n i : Nat} (hb : isB b) (hz : M.1 b 1 = nI n) (hn : n ≤ 24) (hi : i < n) : Fn Y yX0_find wsX0_find { frames := 0, cells := 0, slots := 0, locals := 0 } [.ref (Y.2.2.2.1 b), .int (nI i)] M (some (.ref (Y.2.2.2.1 (b + 2 + i)))) M := by
  refine Fn.of (cc := cX0_find) (ins := iX0_find) (maxL := 2) (ret := (some (.object "PointAnswers$Point"))) (by decide) dX0_find [some (.ref (Y.2.2.2.1 b)), some (.int (nI i))] (Nat.le_of_ble_eq_true rfl) rfl rfl ?_
  intro X hX hQ
  refine v_iload_n hX 1 0 rfl rfl rfl ?_
  refine v_if_lt hX (tgt := 30) 1 rfl (by decide) (fun c1 => absurd c1 (nI_nlt (Nat.zero_le _) (by omega))) (fun c1 => ?_)
  refine v_iload_n hX 1 2 rfl rfl rfl ?_
  refine v_aload_n hX 0 3 rfl rfl rfl ?_
  refine g_0_1 hX 4 hb tw_105 rfl ?_
  refine v_icmp_ge hX (tgt := 30) 5 rfl (by decide) (fun c9 => absurd c9 (by rw [hz]; exact nI_ge hi (by omega))) (fun c9 => ?_)
  refine v_iload_n hX 1 6 rfl rfl rfl ?_
  refine v_aload_n hX 0 7 rfl rfl rfl ?_
  refine g_0_0 hX 8 hb tw_104 rfl ?_
  refine v_alen hX (v := nI 24) (k := b + 1) (by have := isB_lt hb; omega) (cG_R hb) rfl rfl 9 rfl ?_
  refine v_icmp_ge hX (tgt := 30) 10 rfl (by decide) (fun c18 => absurd c18 (nI_ge (show i < 24 by omega) (by omega))) (fun c18 => ?_)
  refine v_aload_n hX 0 11 rfl rfl rfl ?_
  refine g_0_0 hX 12 hb tw_104 rfl ?_
  refine v_iload_n hX 1 13 rfl rfl rfl ?_
  refine v_aald hX (k := b + 1) (v := Y.2.2.2.1 (b + 2 + i)) (by have := isB_lt hb; omega) (cG_R hb) rfl (vp_in_nI (by omega) (by decide)) (by rw [nI_clamp (by omega)]) 14 rfl ?_
  refine v_goto hX (tgt := 31) 15 rfl (by decide) ?_
  refine v_aret hX hQ rfl (Or.inl ⟨_, rfl⟩) (Or.inr ⟨_, rfl⟩) ?_ ?_ 17 rfl
  · rfl
  · rfl
set_option maxRecDepth 100000 in
set_option maxHeartbeats 4000000 in
theorem f_find_out {Y : Yt} {M : Mm} {b n : Nat} {x : Int32} (hb : isB b) (hz : M.1 b 1 = nI n) (hx : x < 0 ∨ nI n ≤ x) : Fn Y yX0_find wsX0_find { frames := 0, cells := 0, slots := 0, locals := 0 } [.ref (Y.2.2.2.1 b), .int x] M (some .null) M := by
  refine Fn.of (cc := cX0_find) (ins := iX0_find) (maxL := 2) (ret := (some (.object "PointAnswers$Point"))) (by decide) dX0_find [some (.ref (Y.2.2.2.1 b)), some (.int x)] (Nat.le_of_ble_eq_true rfl) rfl rfl ?_
  intro X hX hQ
  refine v_iload_n hX 1 0 rfl rfl rfl ?_
  refine v_if_lt hX (tgt := 30) 1 rfl (by decide) (fun c1 => ?_) (fun c1 => ?_)
  · skip
    refine v_null hX 16 rfl ?_
    refine v_aret hX hQ rfl (Or.inl ⟨_, rfl⟩) (Or.inl rfl) ?_ ?_ 17 rfl
    · rfl
    · rfl
  · skip
    refine v_iload_n hX 1 2 rfl rfl rfl ?_
    refine v_aload_n hX 0 3 rfl rfl rfl ?_
    refine g_0_1 hX 4 hb tw_105 rfl ?_
    refine v_icmp_ge hX (tgt := 30) 5 rfl (by decide) (fun c9 => ?_) (fun c9 => absurd (by rw [hz]; exact hx.resolve_left c1) c9)
    refine v_null hX 16 rfl ?_
    refine v_aret hX hQ rfl (Or.inl ⟨_, rfl⟩) (Or.inl rfl) ?_ ?_ 17 rfl
    · rfl
    · rfl
set_option maxRecDepth 100000 in
set_option maxHeartbeats 4000000 in
theorem f_withdrawn {Y : Yt} {M : Mm} {b n : Nat} (hb : isB b) (hz : M.1 b 1 = nI n) (hn : n ≤ 24) : Fn Y yX0_withdrawn wsX0_withdrawn { frames := 1, cells := 0, slots := 0, locals := 21 } [.ref (Y.2.2.2.1 b)] M (some (.int (mkF 0 (pWd (cp M b)) n))) M := by
  refine Fn.of (cc := cX0_withdrawn) (ins := iX0_withdrawn) (maxL := 4) (ret := (some .int)) (by decide) dX0_withdrawn [some (.ref (Y.2.2.2.1 b)), none, none, none] (Nat.le_of_ble_eq_true rfl) rfl rfl ?_
  intro X hX hQ
  refine v_iconst hX (v := 0) 0 rfl (by decide) ?_
  refine v_istore_n hX 1 1 rfl rfl (Nat.le_of_ble_eq_true rfl) rfl ?_
  refine v_iconst hX (v := 0) 2 rfl (by decide) ?_
  refine v_istore_n hX 2 3 rfl rfl (Nat.le_of_ble_eq_true rfl) rfl ?_
  have lp : ∀ (k : Nat), k ≤ n → V Y X M 4 [some (.ref (Y.2.2.2.1 b)), some (.int (mkF 0 (pWd (cp M b)) k)), some (.int (nI k)), none] [] := by
    refine upTo n (fun k hk ih => ?_)
    refine v_iload_n hX 2 4 rfl rfl rfl ?_
    refine v_aload_n hX 0 5 rfl rfl rfl ?_
    refine g_0_1 hX 6 hb tw_105 rfl ?_
    refine v_icmp_ge hX (tgt := 41) 7 rfl (by decide) (fun c9 => ?_) (fun c9 => ?_)
    · skip
      have hk2 : k = n := by rw [hz] at c9; have := of_le c9 (by omega) (by omega); omega
      refine v_iload_n hX 1 25 rfl rfl rfl ?_
      refine v_iret hX hQ rfl rfl ?_ ?_ 26 rfl
      · rw [hk2]
      · rfl
    · skip
      have hk2 : k < n := by rw [hz] at c9; exact of_nle c9 (by omega) (by omega)
      refine v_aload_n hX 0 8 rfl rfl rfl ?_
      refine v_iload_n hX 2 9 rfl rfl rfl ?_
      refine v_callV hX 1 (by have := isB_lt hb; omega) (cG_B hb) rfl (f_find_in hb hz hn hk2) tw_232 tw_229 tw_231 tw_3 tw_40 (by decide +kernel) ⟨⟨rfl, rfl⟩, Nat.le_of_ble_eq_true rfl, Nat.le_of_ble_eq_true rfl⟩ rfl (Nat.le_of_ble_eq_true rfl) rfl rfl 10 rfl ?_
      refine v_astore_n hX 3 11 rfl rfl (Nat.le_of_ble_eq_true rfl) rfl ?_
      refine v_aload_n hX 3 12 rfl rfl rfl ?_
      refine v_ifnull hX 13 rfl ?_
      refine v_aload_n hX 3 14 rfl rfl rfl ?_
      refine gN_4_6 hX 15 hb (by omega) (List.mem_of_getElem? (i := 12) rfl) rfl ?_
      refine v_if_eq hX (tgt := 35) 16 rfl (by decide) (fun c26 => ?_) (fun c26 => ?_)
      · skip
        refine v_iinc hX 23 rfl rfl (nI_inc k) (Nat.le_of_ble_eq_true rfl) rfl ?_
        refine v_goto hX (tgt := 4) 24 rfl (by decide) ?_
        exact V.sub (ih hk2) rfl ⟨rfl, (by first | rfl | (refine congrArg (fun z : Int32 => some (Value.int z)) ?_; simp [mkF, pWd, cp, c9, c26])), rfl, trivial⟩
      · skip
        refine v_iload_n hX 1 17 rfl rfl rfl ?_
        refine v_iconst hX (v := 1) 18 rfl (by decide) ?_
        refine v_iload_n hX 2 19 rfl rfl rfl ?_
        refine v_ishl hX 20 rfl ?_
        refine v_ior hX 21 rfl ?_
        refine v_istore_n hX 1 22 rfl rfl (Nat.le_of_ble_eq_true rfl) rfl ?_
        refine v_iinc hX 23 rfl rfl (nI_inc k) (Nat.le_of_ble_eq_true rfl) rfl ?_
        refine v_goto hX (tgt := 4) 24 rfl (by decide) ?_
        exact V.sub (ih hk2) rfl ⟨rfl, (by first | rfl | (refine congrArg (fun z : Int32 => some (Value.int z)) ?_; simp [mkF, pWd, cp, c9, c26])), rfl, trivial⟩
  exact V.sub (lp 0 (Nat.zero_le _)) rfl ⟨rfl, (by first | rfl | (refine congrArg (fun z : Int32 => some (Value.int z)) ?_; rfl)), rfl, trivial⟩
set_option maxRecDepth 100000 in
set_option maxHeartbeats 4000000 in
theorem f_lapsedOn {Y : Yt} {M : Mm} {d : Int32} {b n : Nat} (hb : isB b) (hz : M.1 b 1 = nI n) (hn : n ≤ 24) : Fn Y yX0_lapsedOn wsX0_lapsedOn { frames := 1, cells := 0, slots := 0, locals := 21 } [.ref (Y.2.2.2.1 b), .int d] M (some (.int (mkF 0 (pLp (cp M b) d (M.1 b 4)) n))) M := by
  refine Fn.of (cc := cX0_lapsedOn) (ins := iX0_lapsedOn) (maxL := 5) (ret := (some .int)) (by decide) dX0_lapsedOn [some (.ref (Y.2.2.2.1 b)), some (.int d), none, none, none] (Nat.le_of_ble_eq_true rfl) rfl rfl ?_
  intro X hX hQ
  refine v_iconst hX (v := 0) 0 rfl (by decide) ?_
  refine v_istore_n hX 2 1 rfl rfl (Nat.le_of_ble_eq_true rfl) rfl ?_
  refine v_iconst hX (v := 0) 2 rfl (by decide) ?_
  refine v_istore_n hX 3 3 rfl rfl (Nat.le_of_ble_eq_true rfl) rfl ?_
  have lp : ∀ (k : Nat), k ≤ n → V Y X M 4 [some (.ref (Y.2.2.2.1 b)), some (.int d), some (.int (mkF 0 (pLp (cp M b) d (M.1 b 4)) k)), some (.int (nI k)), none] [] := by
    refine upTo n (fun k hk ih => ?_)
    refine v_iload_n hX 3 4 rfl rfl rfl ?_
    refine v_aload_n hX 0 5 rfl rfl rfl ?_
    refine g_0_1 hX 6 hb tw_105 rfl ?_
    refine v_icmp_ge hX (tgt := 60) 7 rfl (by decide) (fun c9 => ?_) (fun c9 => ?_)
    · skip
      have hk2 : k = n := by rw [hz] at c9; have := of_le c9 (by omega) (by omega); omega
      refine v_iload_n hX 2 33 rfl rfl rfl ?_
      refine v_iret hX hQ rfl rfl ?_ ?_ 34 rfl
      · rw [hk2]
      · rfl
    · skip
      have hk2 : k < n := by rw [hz] at c9; exact of_nle c9 (by omega) (by omega)
      refine v_aload_n hX 0 8 rfl rfl rfl ?_
      refine v_iload_n hX 3 9 rfl rfl rfl ?_
      refine v_callV hX 1 (by have := isB_lt hb; omega) (cG_B hb) rfl (f_find_in hb hz hn hk2) tw_232 tw_229 tw_231 tw_3 tw_40 (by decide +kernel) ⟨⟨rfl, rfl⟩, Nat.le_of_ble_eq_true rfl, Nat.le_of_ble_eq_true rfl⟩ rfl (Nat.le_of_ble_eq_true rfl) rfl rfl 10 rfl ?_
      refine v_astore hX 11 rfl (Nat.le_of_ble_eq_true rfl) rfl ?_
      refine v_aload hX 12 rfl rfl ?_
      refine v_ifnull hX 13 rfl ?_
      refine v_aload hX 14 rfl rfl ?_
      refine gN_4_3 hX 15 hb (by omega) (List.mem_of_getElem? (i := 7) rfl) rfl ?_
      refine v_bipush hX (v := (-6)) 16 rfl (by decide) ?_
      refine v_icmp_eq hX (tgt := 54) 17 rfl (by decide) (fun c31 => ?_) (fun c31 => ?_)
      · skip
        refine v_iinc hX 31 rfl rfl (nI_inc k) (Nat.le_of_ble_eq_true rfl) rfl ?_
        refine v_goto hX (tgt := 4) 32 rfl (by decide) ?_
        exact V.sub (ih hk2) rfl ⟨rfl, rfl, (by first | rfl | (refine congrArg (fun z : Int32 => some (Value.int z)) ?_; simp [mkF, pLp, cp, c9, c31])), rfl, trivial⟩
      · skip
        refine v_iload_n hX 1 18 rfl rfl rfl ?_
        refine v_aload hX 19 rfl rfl ?_
        refine gN_4_5 hX 20 hb (by omega) (List.mem_of_getElem? (i := 11) rfl) rfl ?_
        refine v_isub hX 21 rfl ?_
        refine v_aload_n hX 0 22 rfl rfl rfl ?_
        refine g_0_4 hX 23 hb tw_111 rfl ?_
        refine v_icmp_le hX (tgt := 54) 24 rfl (by decide) (fun c45 => ?_) (fun c45 => ?_)
        · skip
          refine v_iinc hX 31 rfl rfl (nI_inc k) (Nat.le_of_ble_eq_true rfl) rfl ?_
          refine v_goto hX (tgt := 4) 32 rfl (by decide) ?_
          exact V.sub (ih hk2) rfl ⟨rfl, rfl, (by first | rfl | (refine congrArg (fun z : Int32 => some (Value.int z)) ?_; simp [mkF, pLp, cp, c9, c31, c45])), rfl, trivial⟩
        · skip
          refine v_iload_n hX 2 25 rfl rfl rfl ?_
          refine v_iconst hX (v := 1) 26 rfl (by decide) ?_
          refine v_iload_n hX 3 27 rfl rfl rfl ?_
          refine v_ishl hX 28 rfl ?_
          refine v_ior hX 29 rfl ?_
          refine v_istore_n hX 2 30 rfl rfl (Nat.le_of_ble_eq_true rfl) rfl ?_
          refine v_iinc hX 31 rfl rfl (nI_inc k) (Nat.le_of_ble_eq_true rfl) rfl ?_
          refine v_goto hX (tgt := 4) 32 rfl (by decide) ?_
          exact V.sub (ih hk2) rfl ⟨rfl, rfl, (by first | rfl | (refine congrArg (fun z : Int32 => some (Value.int z)) ?_; simp [mkF, pLp, cp, c9, c31, c45])), rfl, trivial⟩
  exact V.sub (lp 0 (Nat.zero_le _)) rfl ⟨rfl, rfl, (by first | rfl | (refine congrArg (fun z : Int32 => some (Value.int z)) ?_; rfl)), rfl, trivial⟩
set_option maxRecDepth 100000 in
set_option maxHeartbeats 4000000 in
theorem f_baseless {Y : Yt} {M : Mm} {b n : Nat} (hb : isB b) (hz : M.1 b 1 = nI n) (hn : n ≤ 24) : Fn Y yX0_baseless wsX0_baseless { frames := 1, cells := 0, slots := 0, locals := 21 } [.ref (Y.2.2.2.1 b)] M (some (.int (mkF 0 (pBl (cp M b) (M.1 b 3)) n))) M := by
  refine Fn.of (cc := cX0_baseless) (ins := iX0_baseless) (maxL := 4) (ret := (some .int)) (by decide) dX0_baseless [some (.ref (Y.2.2.2.1 b)), none, none, none] (Nat.le_of_ble_eq_true rfl) rfl rfl ?_
  intro X hX hQ
  refine v_iconst hX (v := 0) 0 rfl (by decide) ?_
  refine v_istore_n hX 1 1 rfl rfl (Nat.le_of_ble_eq_true rfl) rfl ?_
  refine v_iconst hX (v := 0) 2 rfl (by decide) ?_
  refine v_istore_n hX 2 3 rfl rfl (Nat.le_of_ble_eq_true rfl) rfl ?_
  have lp : ∀ (k : Nat), k ≤ n → V Y X M 4 [some (.ref (Y.2.2.2.1 b)), some (.int (mkF 0 (pBl (cp M b) (M.1 b 3)) k)), some (.int (nI k)), none] [] := by
    refine upTo n (fun k hk ih => ?_)
    refine v_iload_n hX 2 4 rfl rfl rfl ?_
    refine v_aload_n hX 0 5 rfl rfl rfl ?_
    refine g_0_1 hX 6 hb tw_105 rfl ?_
    refine v_icmp_ge hX (tgt := 55) 7 rfl (by decide) (fun c9 => ?_) (fun c9 => ?_)
    · skip
      have hk2 : k = n := by rw [hz] at c9; have := of_le c9 (by omega) (by omega); omega
      refine v_iload_n hX 1 33 rfl rfl rfl ?_
      refine v_iret hX hQ rfl rfl ?_ ?_ 34 rfl
      · rw [hk2]
      · rfl
    · skip
      have hk2 : k < n := by rw [hz] at c9; exact of_nle c9 (by omega) (by omega)
      refine v_aload_n hX 0 8 rfl rfl rfl ?_
      refine v_iload_n hX 2 9 rfl rfl rfl ?_
      refine v_callV hX 1 (by have := isB_lt hb; omega) (cG_B hb) rfl (f_find_in hb hz hn hk2) tw_232 tw_229 tw_231 tw_3 tw_40 (by decide +kernel) ⟨⟨rfl, rfl⟩, Nat.le_of_ble_eq_true rfl, Nat.le_of_ble_eq_true rfl⟩ rfl (Nat.le_of_ble_eq_true rfl) rfl rfl 10 rfl ?_
      refine v_astore_n hX 3 11 rfl rfl (Nat.le_of_ble_eq_true rfl) rfl ?_
      refine v_aload_n hX 3 12 rfl rfl rfl ?_
      refine v_ifnull hX 13 rfl ?_
      refine v_aload_n hX 3 14 rfl rfl rfl ?_
      refine gN_4_2 hX 15 hb (by omega) (List.mem_of_getElem? (i := 4) rfl) rfl ?_
      refine v_if_eq hX (tgt := 49) 16 rfl (by decide) (fun c26 => ?_) (fun c26 => ?_)
      · skip
        refine v_iinc hX 31 rfl rfl (nI_inc k) (Nat.le_of_ble_eq_true rfl) rfl ?_
        refine v_goto hX (tgt := 4) 32 rfl (by decide) ?_
        exact V.sub (ih hk2) rfl ⟨rfl, (by first | rfl | (refine congrArg (fun z : Int32 => some (Value.int z)) ?_; simp_all [mkF, pBl, cp, c9, c26])), rfl, trivial⟩
      · skip
        refine v_aload_n hX 3 17 rfl rfl rfl ?_
        refine gN_4_2 hX 18 hb (by omega) (List.mem_of_getElem? (i := 4) rfl) rfl ?_
        refine v_aload_n hX 0 19 rfl rfl rfl ?_
        refine g_0_3 hX 20 hb tw_109 rfl ?_
        refine v_iconst hX (v := (-1)) 21 rfl (by decide) ?_
        refine v_ixor hX 22 rfl ?_
        refine v_iand hX 23 rfl ?_
        refine v_if_ne hX (tgt := 49) 24 rfl (by decide) (fun c40 => ?_) (fun c40 => ?_)
        · skip
          refine v_iinc hX 31 rfl rfl (nI_inc k) (Nat.le_of_ble_eq_true rfl) rfl ?_
          refine v_goto hX (tgt := 4) 32 rfl (by decide) ?_
          exact V.sub (ih hk2) rfl ⟨rfl, (by first | rfl | (refine congrArg (fun z : Int32 => some (Value.int z)) ?_; simp_all [mkF, pBl, cp, c9, c26, c40])), rfl, trivial⟩
        · skip
          refine v_iload_n hX 1 25 rfl rfl rfl ?_
          refine v_iconst hX (v := 1) 26 rfl (by decide) ?_
          refine v_iload_n hX 2 27 rfl rfl rfl ?_
          refine v_ishl hX 28 rfl ?_
          refine v_ior hX 29 rfl ?_
          refine v_istore_n hX 1 30 rfl rfl (Nat.le_of_ble_eq_true rfl) rfl ?_
          refine v_iinc hX 31 rfl rfl (nI_inc k) (Nat.le_of_ble_eq_true rfl) rfl ?_
          refine v_goto hX (tgt := 4) 32 rfl (by decide) ?_
          exact V.sub (ih hk2) rfl ⟨rfl, (by first | rfl | (refine congrArg (fun z : Int32 => some (Value.int z)) ?_; simp_all [mkF, pBl, cp, c9, c26, c40])), rfl, trivial⟩
  exact V.sub (lp 0 (Nat.zero_le _)) rfl ⟨rfl, (by first | rfl | (refine congrArg (fun z : Int32 => some (Value.int z)) ?_; rfl)), rfl, trivial⟩
set_option maxRecDepth 100000 in
set_option maxHeartbeats 4000000 in
theorem f_answersTo {Y : Yt} {M : Mm} {t : Int32} {b n : Nat} (hb : isB b) (hz : M.1 b 1 = nI n) (hn : n ≤ 24) : Fn Y yX0_answersTo wsX0_answersTo { frames := 1, cells := 0, slots := 0, locals := 21 } [.ref (Y.2.2.2.1 b), .int t] M (some (.int (mkF 0 (pTo (cp M b) t) n))) M := by
  refine Fn.of (cc := cX0_answersTo) (ins := iX0_answersTo) (maxL := 5) (ret := (some .int)) (by decide) dX0_answersTo [some (.ref (Y.2.2.2.1 b)), some (.int t), none, none, none] (Nat.le_of_ble_eq_true rfl) rfl rfl ?_
  intro X hX hQ
  refine v_iconst hX (v := 0) 0 rfl (by decide) ?_
  refine v_istore_n hX 2 1 rfl rfl (Nat.le_of_ble_eq_true rfl) rfl ?_
  refine v_iconst hX (v := 0) 2 rfl (by decide) ?_
  refine v_istore_n hX 3 3 rfl rfl (Nat.le_of_ble_eq_true rfl) rfl ?_
  have lp : ∀ (k : Nat), k ≤ n → V Y X M 4 [some (.ref (Y.2.2.2.1 b)), some (.int t), some (.int (mkF 0 (pTo (cp M b) t) k)), some (.int (nI k)), none] [] := by
    refine upTo n (fun k hk ih => ?_)
    refine v_iload_n hX 3 4 rfl rfl rfl ?_
    refine v_aload_n hX 0 5 rfl rfl rfl ?_
    refine g_0_1 hX 6 hb tw_105 rfl ?_
    refine v_icmp_ge hX (tgt := 45) 7 rfl (by decide) (fun c9 => ?_) (fun c9 => ?_)
    · skip
      have hk2 : k = n := by rw [hz] at c9; have := of_le c9 (by omega) (by omega); omega
      refine v_iload_n hX 2 26 rfl rfl rfl ?_
      refine v_iret hX hQ rfl rfl ?_ ?_ 27 rfl
      · rw [hk2]
      · rfl
    · skip
      have hk2 : k < n := by rw [hz] at c9; exact of_nle c9 (by omega) (by omega)
      refine v_aload_n hX 0 8 rfl rfl rfl ?_
      refine v_iload_n hX 3 9 rfl rfl rfl ?_
      refine v_callV hX 1 (by have := isB_lt hb; omega) (cG_B hb) rfl (f_find_in hb hz hn hk2) tw_232 tw_229 tw_231 tw_3 tw_40 (by decide +kernel) ⟨⟨rfl, rfl⟩, Nat.le_of_ble_eq_true rfl, Nat.le_of_ble_eq_true rfl⟩ rfl (Nat.le_of_ble_eq_true rfl) rfl rfl 10 rfl ?_
      refine v_astore hX 11 rfl (Nat.le_of_ble_eq_true rfl) rfl ?_
      refine v_aload hX 12 rfl rfl ?_
      refine v_ifnull hX 13 rfl ?_
      refine v_aload hX 14 rfl rfl ?_
      refine gN_4_3 hX 15 hb (by omega) (List.mem_of_getElem? (i := 7) rfl) rfl ?_
      refine v_iload_n hX 1 16 rfl rfl rfl ?_
      refine v_icmp_ne hX (tgt := 39) 17 rfl (by decide) (fun c30 => ?_) (fun c30 => ?_)
      · skip
        refine v_iinc hX 24 rfl rfl (nI_inc k) (Nat.le_of_ble_eq_true rfl) rfl ?_
        refine v_goto hX (tgt := 4) 25 rfl (by decide) ?_
        exact V.sub (ih hk2) rfl ⟨rfl, rfl, (by first | rfl | (refine congrArg (fun z : Int32 => some (Value.int z)) ?_; simp [mkF, pTo, cp, c9, c30])), rfl, trivial⟩
      · skip
        refine v_iload_n hX 2 18 rfl rfl rfl ?_
        refine v_iconst hX (v := 1) 19 rfl (by decide) ?_
        refine v_iload_n hX 3 20 rfl rfl rfl ?_
        refine v_ishl hX 21 rfl ?_
        refine v_ior hX 22 rfl ?_
        refine v_istore_n hX 2 23 rfl rfl (Nat.le_of_ble_eq_true rfl) rfl ?_
        refine v_iinc hX 24 rfl rfl (nI_inc k) (Nat.le_of_ble_eq_true rfl) rfl ?_
        refine v_goto hX (tgt := 4) 25 rfl (by decide) ?_
        exact V.sub (ih hk2) rfl ⟨rfl, rfl, (by first | rfl | (refine congrArg (fun z : Int32 => some (Value.int z)) ?_; simp [mkF, pTo, cp, c9, c30])), rfl, trivial⟩
  exact V.sub (lp 0 (Nat.zero_le _)) rfl ⟨rfl, rfl, (by first | rfl | (refine congrArg (fun z : Int32 => some (Value.int z)) ?_; rfl)), rfl, trivial⟩
set_option maxRecDepth 100000 in
set_option maxHeartbeats 4000000 in
theorem f_ofSide {Y : Yt} {M : Mm} {t : Int32} {b n : Nat} (hb : isB b) (hz : M.1 b 1 = nI n) (hn : n ≤ 24) : Fn Y yX0_ofSide wsX0_ofSide { frames := 1, cells := 0, slots := 0, locals := 21 } [.ref (Y.2.2.2.1 b), .int t] M (some (.int (mkF 0 (pSd (cp M b) t) n))) M := by
  refine Fn.of (cc := cX0_ofSide) (ins := iX0_ofSide) (maxL := 5) (ret := (some .int)) (by decide) dX0_ofSide [some (.ref (Y.2.2.2.1 b)), some (.int t), none, none, none] (Nat.le_of_ble_eq_true rfl) rfl rfl ?_
  intro X hX hQ
  refine v_iconst hX (v := 0) 0 rfl (by decide) ?_
  refine v_istore_n hX 2 1 rfl rfl (Nat.le_of_ble_eq_true rfl) rfl ?_
  refine v_iconst hX (v := 0) 2 rfl (by decide) ?_
  refine v_istore_n hX 3 3 rfl rfl (Nat.le_of_ble_eq_true rfl) rfl ?_
  have lp : ∀ (k : Nat), k ≤ n → V Y X M 4 [some (.ref (Y.2.2.2.1 b)), some (.int t), some (.int (mkF 0 (pSd (cp M b) t) k)), some (.int (nI k)), none] [] := by
    refine upTo n (fun k hk ih => ?_)
    refine v_iload_n hX 3 4 rfl rfl rfl ?_
    refine v_aload_n hX 0 5 rfl rfl rfl ?_
    refine g_0_1 hX 6 hb tw_105 rfl ?_
    refine v_icmp_ge hX (tgt := 45) 7 rfl (by decide) (fun c9 => ?_) (fun c9 => ?_)
    · skip
      have hk2 : k = n := by rw [hz] at c9; have := of_le c9 (by omega) (by omega); omega
      refine v_iload_n hX 2 26 rfl rfl rfl ?_
      refine v_iret hX hQ rfl rfl ?_ ?_ 27 rfl
      · rw [hk2]
      · rfl
    · skip
      have hk2 : k < n := by rw [hz] at c9; exact of_nle c9 (by omega) (by omega)
      refine v_aload_n hX 0 8 rfl rfl rfl ?_
      refine v_iload_n hX 3 9 rfl rfl rfl ?_
      refine v_callV hX 1 (by have := isB_lt hb; omega) (cG_B hb) rfl (f_find_in hb hz hn hk2) tw_232 tw_229 tw_231 tw_3 tw_40 (by decide +kernel) ⟨⟨rfl, rfl⟩, Nat.le_of_ble_eq_true rfl, Nat.le_of_ble_eq_true rfl⟩ rfl (Nat.le_of_ble_eq_true rfl) rfl rfl 10 rfl ?_
      refine v_astore hX 11 rfl (Nat.le_of_ble_eq_true rfl) rfl ?_
      refine v_aload hX 12 rfl rfl ?_
      refine v_ifnull hX 13 rfl ?_
      refine v_aload hX 14 rfl rfl ?_
      refine gN_4_0 hX 15 hb (by omega) (List.mem_of_getElem? (i := 0) rfl) rfl ?_
      refine v_iload_n hX 1 16 rfl rfl rfl ?_
      refine v_icmp_ne hX (tgt := 39) 17 rfl (by decide) (fun c30 => ?_) (fun c30 => ?_)
      · skip
        refine v_iinc hX 24 rfl rfl (nI_inc k) (Nat.le_of_ble_eq_true rfl) rfl ?_
        refine v_goto hX (tgt := 4) 25 rfl (by decide) ?_
        exact V.sub (ih hk2) rfl ⟨rfl, rfl, (by first | rfl | (refine congrArg (fun z : Int32 => some (Value.int z)) ?_; simp [mkF, pSd, cp, c9, c30])), rfl, trivial⟩
      · skip
        refine v_iload_n hX 2 18 rfl rfl rfl ?_
        refine v_iconst hX (v := 1) 19 rfl (by decide) ?_
        refine v_iload_n hX 3 20 rfl rfl rfl ?_
        refine v_ishl hX 21 rfl ?_
        refine v_ior hX 22 rfl ?_
        refine v_istore_n hX 2 23 rfl rfl (Nat.le_of_ble_eq_true rfl) rfl ?_
        refine v_iinc hX 24 rfl rfl (nI_inc k) (Nat.le_of_ble_eq_true rfl) rfl ?_
        refine v_goto hX (tgt := 4) 25 rfl (by decide) ?_
        exact V.sub (ih hk2) rfl ⟨rfl, rfl, (by first | rfl | (refine congrArg (fun z : Int32 => some (Value.int z)) ?_; simp [mkF, pSd, cp, c9, c30])), rfl, trivial⟩
  exact V.sub (lp 0 (Nat.zero_le _)) rfl ⟨rfl, rfl, (by first | rfl | (refine congrArg (fun z : Int32 => some (Value.int z)) ?_; rfl)), rfl, trivial⟩
set_option maxRecDepth 100000 in
set_option maxHeartbeats 4000000 in
theorem f_claims {Y : Yt} {M : Mm} {b n : Nat} (hb : isB b) (hz : M.1 b 1 = nI n) (hn : n ≤ 24) : Fn Y yX0_claims wsX0_claims { frames := 2, cells := 0, slots := 0, locals := 45 } [.ref (Y.2.2.2.1 b)] M (some (.int (mkF 0 (pTo (cp M b) (-6)) n))) M := by
  refine Fn.of (cc := cX0_claims) (ins := iX0_claims) (maxL := 1) (ret := (some .int)) (by decide) dX0_claims [some (.ref (Y.2.2.2.1 b))] (Nat.le_of_ble_eq_true rfl) rfl rfl ?_
  intro X hX hQ
  refine v_aload_n hX 0 0 rfl rfl rfl ?_
  refine v_bipush hX (v := (-6)) 1 rfl (by decide) ?_
  refine v_callV hX 1 (by have := isB_lt hb; omega) (cG_B hb) rfl (f_answersTo hb hz hn) tw_378 tw_398 tw_377 tw_25 tw_40 (by decide +kernel) ⟨⟨rfl, rfl⟩, Nat.le_of_ble_eq_true rfl, Nat.le_of_ble_eq_true rfl⟩ rfl (Nat.le_of_ble_eq_true rfl) rfl rfl 2 rfl ?_
  refine v_iret hX hQ rfl rfl ?_ ?_ 3 rfl
  · rfl
  · rfl
set_option maxRecDepth 100000 in
set_option maxHeartbeats 4000000 in
theorem f_struck {Y : Yt} {M : Mm} {b n : Nat} (hb : isB b) (hz : M.1 b 1 = nI n) (hn : n ≤ 24) : Fn Y yX0_struck wsX0_struck { frames := 1, cells := 0, slots := 0, locals := 21 } [.ref (Y.2.2.2.1 b)] M (some (.int (skA (cp M b) (M.1 b 5) n 2))) M := by
  refine Fn.of (cc := cX0_struck) (ins := iX0_struck) (maxL := 6) (ret := (some .int)) (by decide) dX0_struck [some (.ref (Y.2.2.2.1 b)), none, none, none, none, none] (Nat.le_of_ble_eq_true rfl) rfl rfl ?_
  intro X hX hQ
  refine v_iconst hX (v := 0) 0 rfl (by decide) ?_
  refine v_istore_n hX 1 1 rfl rfl (Nat.le_of_ble_eq_true rfl) rfl ?_
  refine v_iconst hX (v := 0) 2 rfl (by decide) ?_
  refine v_istore_n hX 2 3 rfl rfl (Nat.le_of_ble_eq_true rfl) rfl ?_
  have lp : ∀ (s : Nat), s ≤ 2 → V Y X M 4 [some (.ref (Y.2.2.2.1 b)), some (.int (skA (cp M b) (M.1 b 5) n s)), some (.int (nI s)), none, none, none] [] := by
    refine upTo 2 (fun s hs ih => ?_)
    refine v_iload_n hX 2 4 rfl rfl rfl ?_
    refine v_iconst hX (v := 1) 5 rfl (by decide) ?_
    refine v_icmp_gt hX (tgt := 100) 6 rfl (by decide) (fun c6 => ?_) (fun c6 => ?_)
    · skip
      have hs2 : s = 2 := by have := of_lt (a := 1) c6 (by omega) (by omega); omega
      refine v_iload_n hX 1 52 rfl rfl rfl ?_
      refine v_iret hX hQ rfl rfl ?_ ?_ 53 rfl
      · rw [hs2]
      · rfl
    · skip
      have hs2 : s < 2 := by have := of_nlt (a := 1) c6 (by omega) (by omega); omega
      refine v_iconst hX (v := 0) 7 rfl (by decide) ?_
      refine v_istore_n hX 3 8 rfl rfl (Nat.le_of_ble_eq_true rfl) rfl ?_
      refine v_iconst hX (v := 0) 9 rfl (by decide) ?_
      refine v_istore hX 10 rfl (Nat.le_of_ble_eq_true rfl) rfl ?_
      have lq : ∀ (k : Nat), k ≤ n → V Y X M 14 [some (.ref (Y.2.2.2.1 b)), some (.int (mkF (skA (cp M b) (M.1 b 5) n s) (stK (cp M b) (M.1 b 5) (nI s)) k)), some (.int (nI s)), some (.int (tk (cp M b) (M.1 b 5) (nI s) k)), some (.int (nI k)), none] [] := by
        refine upTo n (fun k hk ihi => ?_)
        refine v_iload hX 11 rfl rfl ?_
        refine v_aload_n hX 0 12 rfl rfl rfl ?_
        refine g_0_1 hX 13 hb tw_105 rfl ?_
        refine v_icmp_ge hX (tgt := 94) 14 rfl (by decide) (fun c20 => ?_) (fun c20 => ?_)
        · skip
          have hk2 : k = n := by rw [hz] at c20; have := of_le c20 (by omega) (by omega); omega
          refine v_iinc hX 50 rfl rfl (nI_inc s) (Nat.le_of_ble_eq_true rfl) rfl ?_
          refine v_goto hX (tgt := 4) 51 rfl (by decide) ?_
          exact V.sub (ih hs2) rfl ⟨rfl, (by first | rfl | (refine congrArg (fun z : Int32 => some (Value.int z)) ?_; rw [hk2]; rfl)), rfl, trivial⟩
        · skip
          have hk2 : k < n := by rw [hz] at c20; exact of_nle c20 (by omega) (by omega)
          refine v_aload_n hX 0 15 rfl rfl rfl ?_
          refine v_iload hX 16 rfl rfl ?_
          refine v_callV hX 1 (by have := isB_lt hb; omega) (cG_B hb) rfl (f_find_in hb hz hn hk2) tw_232 tw_229 tw_231 tw_3 tw_40 (by decide +kernel) ⟨⟨rfl, rfl⟩, Nat.le_of_ble_eq_true rfl, Nat.le_of_ble_eq_true rfl⟩ rfl (Nat.le_of_ble_eq_true rfl) rfl rfl 17 rfl ?_
          refine v_astore hX 18 rfl (Nat.le_of_ble_eq_true rfl) rfl ?_
          refine v_aload hX 19 rfl rfl ?_
          refine v_ifnull hX 20 rfl ?_
          refine v_aload hX 21 rfl rfl ?_
          refine gN_4_0 hX 22 hb (by omega) (List.mem_of_getElem? (i := 0) rfl) rfl ?_
          refine v_iload_n hX 2 23 rfl rfl rfl ?_
          refine v_icmp_ne hX (tgt := 88) 24 rfl (by decide) (fun c42 => ?_) (fun c42 => ?_)
          · skip
            refine v_iinc hX 48 rfl rfl (nI_inc k) (Nat.le_of_ble_eq_true rfl) rfl ?_
            refine v_goto hX (tgt := 14) 49 rfl (by decide) ?_
            exact V.sub (ihi hk2) rfl ⟨rfl, (by first | rfl | (refine congrArg (fun z : Int32 => some (Value.int z)) ?_; simp [mkF, stK, tk, cp, c6, c20, c42])), rfl, (by first | rfl | (refine congrArg (fun z : Int32 => some (Value.int z)) ?_; simp [mkF, stK, tk, cp, c6, c20, c42])), rfl, trivial⟩
          · skip
            refine v_aload hX 25 rfl rfl ?_
            refine gN_4_6 hX 26 hb (by omega) (List.mem_of_getElem? (i := 12) rfl) rfl ?_
            refine v_if_eq hX (tgt := 56) 27 rfl (by decide) (fun c50 => ?_) (fun c50 => ?_)
            · skip
              refine v_iload_n hX 3 29 rfl rfl rfl ?_
              refine v_aload hX 30 rfl rfl ?_
              refine gN_4_1 hX 31 hb (by omega) (List.mem_of_getElem? (i := 2) rfl) rfl ?_
              refine v_iadd hX 32 rfl ?_
              refine v_aload_n hX 0 33 rfl rfl rfl ?_
              refine g_0_5 hX 34 hb tw_113 rfl ?_
              refine v_icmp_le hX (tgt := 80) 35 rfl (by decide) (fun c67 => ?_) (fun c67 => ?_)
              · skip
                refine v_iload_n hX 3 43 rfl rfl rfl ?_
                refine v_aload hX 44 rfl rfl ?_
                refine gN_4_1 hX 45 hb (by omega) (List.mem_of_getElem? (i := 2) rfl) rfl ?_
                refine v_iadd hX 46 rfl ?_
                refine v_istore_n hX 3 47 rfl rfl (Nat.le_of_ble_eq_true rfl) rfl ?_
                refine v_iinc hX 48 rfl rfl (nI_inc k) (Nat.le_of_ble_eq_true rfl) rfl ?_
                refine v_goto hX (tgt := 14) 49 rfl (by decide) ?_
                exact V.sub (ihi hk2) rfl ⟨rfl, (by first | rfl | (refine congrArg (fun z : Int32 => some (Value.int z)) ?_; simp [mkF, stK, tk, cp, c6, c20, c42, c50, c67])), rfl, (by first | rfl | (refine congrArg (fun z : Int32 => some (Value.int z)) ?_; simp [mkF, stK, tk, cp, c6, c20, c42, c50, c67])), rfl, trivial⟩
              · skip
                refine v_iload_n hX 1 36 rfl rfl rfl ?_
                refine v_iconst hX (v := 1) 37 rfl (by decide) ?_
                refine v_iload hX 38 rfl rfl ?_
                refine v_ishl hX 39 rfl ?_
                refine v_ior hX 40 rfl ?_
                refine v_istore_n hX 1 41 rfl rfl (Nat.le_of_ble_eq_true rfl) rfl ?_
                refine v_goto hX (tgt := 88) 42 rfl (by decide) ?_
                refine v_iinc hX 48 rfl rfl (nI_inc k) (Nat.le_of_ble_eq_true rfl) rfl ?_
                refine v_goto hX (tgt := 14) 49 rfl (by decide) ?_
                exact V.sub (ihi hk2) rfl ⟨rfl, (by first | rfl | (refine congrArg (fun z : Int32 => some (Value.int z)) ?_; simp [mkF, stK, tk, cp, c6, c20, c42, c50, c67])), rfl, (by first | rfl | (refine congrArg (fun z : Int32 => some (Value.int z)) ?_; simp [mkF, stK, tk, cp, c6, c20, c42, c50, c67])), rfl, trivial⟩
            · skip
              refine v_goto hX (tgt := 88) 28 rfl (by decide) ?_
              refine v_iinc hX 48 rfl rfl (nI_inc k) (Nat.le_of_ble_eq_true rfl) rfl ?_
              refine v_goto hX (tgt := 14) 49 rfl (by decide) ?_
              exact V.sub (ihi hk2) rfl ⟨rfl, (by first | rfl | (refine congrArg (fun z : Int32 => some (Value.int z)) ?_; simp [mkF, stK, tk, cp, c6, c20, c42, c50])), rfl, (by first | rfl | (refine congrArg (fun z : Int32 => some (Value.int z)) ?_; simp [mkF, stK, tk, cp, c6, c20, c42, c50])), rfl, trivial⟩
      exact V.sub (lq 0 (Nat.zero_le _)) rfl ⟨rfl, (by first | rfl | (refine congrArg (fun z : Int32 => some (Value.int z)) ?_; simp [mkF, stK, tk, cp, c6])), rfl, (by first | rfl | (refine congrArg (fun z : Int32 => some (Value.int z)) ?_; simp [mkF, stK, tk, cp, c6])), rfl, trivial⟩
  exact V.sub (lp 0 (Nat.zero_le _)) rfl ⟨rfl, (by first | rfl | (refine congrArg (fun z : Int32 => some (Value.int z)) ?_; rfl)), rfl, trivial⟩
set_option maxRecDepth 100000 in
set_option maxHeartbeats 4000000 in
theorem f_out {Y : Yt} {M : Mm} {b n : Nat} (hb : isB b) (hz : M.1 b 1 = nI n) (hn : n ≤ 24) (hw : WF (cp M b) n) : Fn Y yX0_out wsX0_out { frames := 2, cells := 0, slots := 0, locals := 46 } [.ref (Y.2.2.2.1 b)] M (some (.int (mk (bOut M b) n))) M := by
  refine Fn.of (cc := cX0_out) (ins := iX0_out) (maxL := 1) (ret := (some .int)) (by decide) dX0_out [some (.ref (Y.2.2.2.1 b))] (Nat.le_of_ble_eq_true rfl) rfl rfl ?_
  intro X hX hQ
  refine v_aload_n hX 0 0 rfl rfl rfl ?_
  refine v_callV hX 0 (by have := isB_lt hb; omega) (cG_B hb) rfl (f_withdrawn hb hz hn) tw_295 tw_292 tw_294 tw_15 tw_40 (by decide +kernel) ⟨⟨rfl, rfl⟩, Nat.le_of_ble_eq_true rfl, Nat.le_of_ble_eq_true rfl⟩ rfl (Nat.le_of_ble_eq_true rfl) rfl rfl 1 rfl ?_
  refine v_aload_n hX 0 2 rfl rfl rfl ?_
  refine v_callV hX 0 (by have := isB_lt hb; omega) (cG_B hb) rfl (f_struck hb hz hn) tw_299 tw_296 tw_298 tw_16 tw_40 (by decide +kernel) ⟨⟨rfl, rfl⟩, Nat.le_of_ble_eq_true rfl, Nat.le_of_ble_eq_true rfl⟩ rfl (Nat.le_of_ble_eq_true rfl) rfl rfl 3 rfl ?_
  refine v_ior hX 4 rfl ?_
  refine v_aload_n hX 0 5 rfl rfl rfl ?_
  refine v_aload_n hX 0 6 rfl rfl rfl ?_
  refine g_0_2 hX 7 hb tw_107 rfl ?_
  refine v_callV hX 1 (by have := isB_lt hb; omega) (cG_B hb) rfl (f_lapsedOn hb hz hn) tw_303 tw_300 tw_302 tw_17 tw_40 (by decide +kernel) ⟨⟨rfl, rfl⟩, Nat.le_of_ble_eq_true rfl, Nat.le_of_ble_eq_true rfl⟩ rfl (Nat.le_of_ble_eq_true rfl) rfl rfl 8 rfl ?_
  refine v_ior hX 9 rfl ?_
  refine v_aload_n hX 0 10 rfl rfl rfl ?_
  refine v_callV hX 0 (by have := isB_lt hb; omega) (cG_B hb) rfl (f_baseless hb hz hn) tw_307 tw_304 tw_306 tw_18 tw_40 (by decide +kernel) ⟨⟨rfl, rfl⟩, Nat.le_of_ble_eq_true rfl, Nat.le_of_ble_eq_true rfl⟩ rfl (Nat.le_of_ble_eq_true rfl) rfl rfl 11 rfl ?_
  refine v_ior hX 12 rfl ?_
  refine v_iret hX hQ rfl rfl ?_ ?_ 13 rfl
  · rw [out_mk hw hn]
  · rfl
set_option maxRecDepth 100000 in
set_option maxHeartbeats 4000000 in
theorem f_targetOf {Y : Yt} {M : Mm} {b n i : Nat} (hb : isB b) (hz : M.1 b 1 = nI n) (hn : n ≤ 24) (hi : i < n) : Fn Y yX0_targetOf wsX0_targetOf { frames := 1, cells := 0, slots := 0, locals := 21 } [.ref (Y.2.2.2.1 b), .int (nI i)] M (some (.int (tgt (cp M b) i))) M := by
  refine Fn.of (cc := cX0_targetOf) (ins := iX0_targetOf) (maxL := 3) (ret := (some .int)) (by decide) dX0_targetOf [some (.ref (Y.2.2.2.1 b)), some (.int (nI i)), none] (Nat.le_of_ble_eq_true rfl) rfl rfl ?_
  intro X hX hQ
  refine v_aload_n hX 0 0 rfl rfl rfl ?_
  refine v_iload_n hX 1 1 rfl rfl rfl ?_
  refine v_callV hX 1 (by have := isB_lt hb; omega) (cG_B hb) rfl (f_find_in hb hz hn hi) tw_232 tw_229 tw_231 tw_3 tw_40 (by decide +kernel) ⟨⟨rfl, rfl⟩, Nat.le_of_ble_eq_true rfl, Nat.le_of_ble_eq_true rfl⟩ rfl (Nat.le_of_ble_eq_true rfl) rfl rfl 2 rfl ?_
  refine v_astore_n hX 2 3 rfl rfl (Nat.le_of_ble_eq_true rfl) rfl ?_
  refine v_aload_n hX 2 4 rfl rfl rfl ?_
  refine v_ifnull hX 5 rfl ?_
  refine v_aload_n hX 2 6 rfl rfl rfl ?_
  refine gN_4_3 hX 7 hb (by omega) (List.mem_of_getElem? (i := 7) rfl) rfl ?_
  refine v_bipush hX (v := (-6)) 8 rfl (by decide) ?_
  refine v_icmp_ne hX (tgt := 23) 9 rfl (by decide) (fun c16 => ?_) (fun c16 => ?_)
  · skip
    refine v_iconst hX (v := 1) 12 rfl (by decide) ?_
    refine v_aload_n hX 2 13 rfl rfl rfl ?_
    refine gN_4_3 hX 14 hb (by omega) (List.mem_of_getElem? (i := 7) rfl) rfl ?_
    refine v_ishl hX 15 rfl ?_
    refine v_iret hX hQ rfl rfl ?_ ?_ 16 rfl
    · simp [tgt, cp, c16]
    · rfl
  · skip
    refine v_iconst hX (v := 0) 10 rfl (by decide) ?_
    refine v_goto hX (tgt := 29) 11 rfl (by decide) ?_
    refine v_iret hX hQ rfl rfl ?_ ?_ 16 rfl
    · simp [tgt, cp, c16]
    · rfl
set_option maxRecDepth 100000 in
set_option maxHeartbeats 4000000 in
theorem f_freeRow_in {Y : Yt} {M : Mm} {b n : Nat} (hb : isB b) (hz : M.1 b 1 = nI n) (hn : n < 24) : Fn Y yX0_freeRow wsX0_freeRow { frames := 0, cells := 0, slots := 0, locals := 0 } [.ref (Y.2.2.2.1 b)] M (some (.ref (Y.2.2.2.1 (b + 2 + n)))) M := by
  refine Fn.of (cc := cX0_freeRow) (ins := iX0_freeRow) (maxL := 1) (ret := (some (.object "PointAnswers$Point"))) (by decide) dX0_freeRow [some (.ref (Y.2.2.2.1 b))] (Nat.le_of_ble_eq_true rfl) rfl rfl ?_
  intro X hX hQ
  refine v_aload_n hX 0 0 rfl rfl rfl ?_
  refine g_0_1 hX 1 hb tw_105 rfl ?_
  refine v_if_lt hX (tgt := 31) 2 rfl (by decide) (fun c4 => absurd c4 (by rw [hz]; exact nI_pos (by omega))) (fun c4 => ?_)
  refine v_aload_n hX 0 3 rfl rfl rfl ?_
  refine g_0_1 hX 4 hb tw_105 rfl ?_
  refine v_aload_n hX 0 5 rfl rfl rfl ?_
  refine g_0_0 hX 6 hb tw_104 rfl ?_
  refine v_alen hX (v := nI 24) (k := b + 1) (by have := isB_lt hb; omega) (cG_R hb) rfl rfl 7 rfl ?_
  refine v_icmp_ge hX (tgt := 31) 8 rfl (by decide) (fun c16 => absurd c16 (by rw [hz]; exact nI_ge hn (by omega))) (fun c16 => ?_)
  refine v_aload_n hX 0 9 rfl rfl rfl ?_
  refine g_0_0 hX 10 hb tw_104 rfl ?_
  refine v_aload_n hX 0 11 rfl rfl rfl ?_
  refine g_0_1 hX 12 hb tw_105 rfl ?_
  refine v_aald hX (k := b + 1) (v := Y.2.2.2.1 (b + 2 + n)) (by have := isB_lt hb; omega) (cG_R hb) rfl (by rw [hz]; exact vp_in_nI hn (by decide)) (by rw [hz, nI_clamp (by omega)]) 13 rfl ?_
  refine v_goto hX (tgt := 32) 14 rfl (by decide) ?_
  refine v_aret hX hQ rfl (Or.inl ⟨_, rfl⟩) (Or.inr ⟨_, rfl⟩) ?_ ?_ 16 rfl
  · rfl
  · rfl
set_option maxRecDepth 100000 in
set_option maxHeartbeats 4000000 in
theorem f_freeRow_out {Y : Yt} {M : Mm} {b n : Nat} (hb : isB b) (hz : M.1 b 1 = nI n) (hn : n = 24) : Fn Y yX0_freeRow wsX0_freeRow { frames := 0, cells := 0, slots := 0, locals := 0 } [.ref (Y.2.2.2.1 b)] M (some .null) M := by
  refine Fn.of (cc := cX0_freeRow) (ins := iX0_freeRow) (maxL := 1) (ret := (some (.object "PointAnswers$Point"))) (by decide) dX0_freeRow [some (.ref (Y.2.2.2.1 b))] (Nat.le_of_ble_eq_true rfl) rfl rfl ?_
  intro X hX hQ
  refine v_aload_n hX 0 0 rfl rfl rfl ?_
  refine g_0_1 hX 1 hb tw_105 rfl ?_
  refine v_if_lt hX (tgt := 31) 2 rfl (by decide) (fun c4 => absurd c4 (by rw [hz]; exact nI_pos (by omega))) (fun c4 => ?_)
  refine v_aload_n hX 0 3 rfl rfl rfl ?_
  refine g_0_1 hX 4 hb tw_105 rfl ?_
  refine v_aload_n hX 0 5 rfl rfl rfl ?_
  refine g_0_0 hX 6 hb tw_104 rfl ?_
  refine v_alen hX (v := nI 24) (k := b + 1) (by have := isB_lt hb; omega) (cG_R hb) rfl rfl 7 rfl ?_
  refine v_icmp_ge hX (tgt := 31) 8 rfl (by decide) (fun c16 => ?_) (fun c16 => absurd (by rw [hz]; exact nI_le (by omega) (by omega)) c16)
  refine v_null hX 15 rfl ?_
  refine v_aret hX hQ rfl (Or.inl ⟨_, rfl⟩) (Or.inl rfl) ?_ ?_ 16 rfl
  · rfl
  · rfl
set_option maxRecDepth 100000 in
set_option maxHeartbeats 4000000 in
theorem f_adjust {Y : Yt} {M : Mm} {s v : Int32} {b : Nat} (hb : isB b) : Fn Y yX0_adjust wsX0_adjust { frames := 0, cells := 0, slots := 0, locals := 0 } [.ref (Y.2.2.2.1 b), .int s, .int v] M (some (.int (adR M b s v))) ((adM M b s v)) := by
  refine Fn.of (cc := cX0_adjust) (ins := iX0_adjust) (maxL := 4) (ret := (some .int)) (by decide) dX0_adjust [some (.ref (Y.2.2.2.1 b)), some (.int s), some (.int v), none] (Nat.le_of_ble_eq_true rfl) rfl rfl ?_
  intro X hX hQ
  refine v_bipush hX (v := (-2)) 0 rfl (by decide) ?_
  refine v_istore_n hX 3 1 rfl rfl (Nat.le_of_ble_eq_true rfl) rfl ?_
  refine v_iload_n hX 1 2 rfl rfl rfl ?_
  refine v_if_ne hX (tgt := 28) 3 rfl (by decide) (fun c4 => ?_) (fun c4 => ?_)
  · skip
    refine v_iload_n hX 1 16 rfl rfl rfl ?_
    refine v_iconst hX (v := 1) 17 rfl (by decide) ?_
    refine v_icmp_ne hX (tgt := 54) 18 rfl (by decide) (fun c30 => ?_) (fun c30 => ?_)
    · skip
      refine v_iload_n hX 3 31 rfl rfl rfl ?_
      refine v_iret hX hQ rfl rfl ?_ ?_ 32 rfl
      · first | (simp (decide := true) only [adR, c4, c30, not_true_eq_false, not_false_eq_true, and_true, true_and, and_false, false_and, or_true, true_or, or_false, false_or, and_self, or_self, if_true, if_false, ite_true, ite_false, reduceIte, eq_self, ne_eq]; done) | exact absurd (c4.symm.trans c30) (by decide)
      · first | (simp (decide := true) only [adM, c4, c30, not_true_eq_false, not_false_eq_true, and_true, true_and, and_false, false_and, or_true, true_or, or_false, false_or, and_self, or_self, if_true, if_false, ite_true, ite_false, reduceIte, eq_self, ne_eq]; done) | exact absurd (c4.symm.trans c30) (by decide)
    · skip
      refine v_iload_n hX 2 19 rfl rfl rfl ?_
      refine v_iconst hX (v := 1) 20 rfl (by decide) ?_
      refine v_icmp_lt hX (tgt := 54) 21 rfl (by decide) (fun c35 => ?_) (fun c35 => ?_)
      · skip
        refine v_iload_n hX 3 31 rfl rfl rfl ?_
        refine v_iret hX hQ rfl rfl ?_ ?_ 32 rfl
        · first | (simp (decide := true) only [adR, c4, c30, c35, not_true_eq_false, not_false_eq_true, and_true, true_and, and_false, false_and, or_true, true_or, or_false, false_or, and_self, or_self, if_true, if_false, ite_true, ite_false, reduceIte, eq_self, ne_eq]; done) | exact absurd (c4.symm.trans c30) (by decide)
        · first | (simp (decide := true) only [adM, c4, c30, c35, not_true_eq_false, not_false_eq_true, and_true, true_and, and_false, false_and, or_true, true_or, or_false, false_or, and_self, or_self, if_true, if_false, ite_true, ite_false, reduceIte, eq_self, ne_eq]; done) | exact absurd (c4.symm.trans c30) (by decide)
      · skip
        refine v_iload_n hX 2 22 rfl rfl rfl ?_
        refine v_bipush hX (v := 99) 23 rfl (by decide) ?_
        refine v_icmp_gt hX (tgt := 54) 24 rfl (by decide) (fun c41 => ?_) (fun c41 => ?_)
        · skip
          refine v_iload_n hX 3 31 rfl rfl rfl ?_
          refine v_iret hX hQ rfl rfl ?_ ?_ 32 rfl
          · first | (simp (decide := true) only [adR, c4, c30, c35, c41, not_true_eq_false, not_false_eq_true, and_true, true_and, and_false, false_and, or_true, true_or, or_false, false_or, and_self, or_self, if_true, if_false, ite_true, ite_false, reduceIte, eq_self, ne_eq]; done) | exact absurd (c4.symm.trans c30) (by decide)
          · first | (simp (decide := true) only [adM, c4, c30, c35, c41, not_true_eq_false, not_false_eq_true, and_true, true_and, and_false, false_and, or_true, true_or, or_false, false_or, and_self, or_self, if_true, if_false, ite_true, ite_false, reduceIte, eq_self, ne_eq]; done) | exact absurd (c4.symm.trans c30) (by decide)
        · skip
          refine v_aload_n hX 0 25 rfl rfl rfl ?_
          refine g_0_5 hX 26 hb tw_113 rfl ?_
          refine v_istore_n hX 3 27 rfl rfl (Nat.le_of_ble_eq_true rfl) rfl ?_
          refine v_aload_n hX 0 28 rfl rfl rfl ?_
          refine v_iload_n hX 2 29 rfl rfl rfl ?_
          refine p_0_5 hX 30 hb  tw_113 rfl ?_
          refine v_iload_n hX 3 31 rfl rfl rfl ?_
          refine v_iret hX hQ rfl rfl ?_ ?_ 32 rfl
          · first | (simp (decide := true) only [adR, c4, c30, c35, c41, not_true_eq_false, not_false_eq_true, and_true, true_and, and_false, false_and, or_true, true_or, or_false, false_or, and_self, or_self, if_true, if_false, ite_true, ite_false, reduceIte, eq_self, ne_eq]; done) | exact absurd (c4.symm.trans c30) (by decide)
          · first | (simp (decide := true) only [adM, c4, c30, c35, c41, not_true_eq_false, not_false_eq_true, and_true, true_and, and_false, false_and, or_true, true_or, or_false, false_or, and_self, or_self, if_true, if_false, ite_true, ite_false, reduceIte, eq_self, ne_eq]; done) | exact absurd (c4.symm.trans c30) (by decide)
  · skip
    refine v_iload_n hX 2 4 rfl rfl rfl ?_
    refine v_iconst hX (v := 1) 5 rfl (by decide) ?_
    refine v_icmp_lt hX (tgt := 28) 6 rfl (by decide) (fun c9 => ?_) (fun c9 => ?_)
    · skip
      refine v_iload_n hX 1 16 rfl rfl rfl ?_
      refine v_iconst hX (v := 1) 17 rfl (by decide) ?_
      refine v_icmp_ne hX (tgt := 54) 18 rfl (by decide) (fun c30 => ?_) (fun c30 => ?_)
      · skip
        refine v_iload_n hX 3 31 rfl rfl rfl ?_
        refine v_iret hX hQ rfl rfl ?_ ?_ 32 rfl
        · first | (simp (decide := true) only [adR, c4, c9, c30, not_true_eq_false, not_false_eq_true, and_true, true_and, and_false, false_and, or_true, true_or, or_false, false_or, and_self, or_self, if_true, if_false, ite_true, ite_false, reduceIte, eq_self, ne_eq]; done) | exact absurd (c4.symm.trans c30) (by decide)
        · first | (simp (decide := true) only [adM, c4, c9, c30, not_true_eq_false, not_false_eq_true, and_true, true_and, and_false, false_and, or_true, true_or, or_false, false_or, and_self, or_self, if_true, if_false, ite_true, ite_false, reduceIte, eq_self, ne_eq]; done) | exact absurd (c4.symm.trans c30) (by decide)
      · skip
        refine v_iload_n hX 2 19 rfl rfl rfl ?_
        refine v_iconst hX (v := 1) 20 rfl (by decide) ?_
        refine v_icmp_lt hX (tgt := 54) 21 rfl (by decide) (fun c35 => ?_) (fun c35 => ?_)
        · skip
          refine v_iload_n hX 3 31 rfl rfl rfl ?_
          refine v_iret hX hQ rfl rfl ?_ ?_ 32 rfl
          · first | (simp (decide := true) only [adR, c4, c9, c30, c35, not_true_eq_false, not_false_eq_true, and_true, true_and, and_false, false_and, or_true, true_or, or_false, false_or, and_self, or_self, if_true, if_false, ite_true, ite_false, reduceIte, eq_self, ne_eq]; done) | exact absurd (c4.symm.trans c30) (by decide)
          · first | (simp (decide := true) only [adM, c4, c9, c30, c35, not_true_eq_false, not_false_eq_true, and_true, true_and, and_false, false_and, or_true, true_or, or_false, false_or, and_self, or_self, if_true, if_false, ite_true, ite_false, reduceIte, eq_self, ne_eq]; done) | exact absurd (c4.symm.trans c30) (by decide)
        · skip
          refine v_iload_n hX 2 22 rfl rfl rfl ?_
          refine v_bipush hX (v := 99) 23 rfl (by decide) ?_
          refine v_icmp_gt hX (tgt := 54) 24 rfl (by decide) (fun c41 => ?_) (fun c41 => ?_)
          · skip
            refine v_iload_n hX 3 31 rfl rfl rfl ?_
            refine v_iret hX hQ rfl rfl ?_ ?_ 32 rfl
            · first | (simp (decide := true) only [adR, c4, c9, c30, c35, c41, not_true_eq_false, not_false_eq_true, and_true, true_and, and_false, false_and, or_true, true_or, or_false, false_or, and_self, or_self, if_true, if_false, ite_true, ite_false, reduceIte, eq_self, ne_eq]; done) | exact absurd (c4.symm.trans c30) (by decide)
            · first | (simp (decide := true) only [adM, c4, c9, c30, c35, c41, not_true_eq_false, not_false_eq_true, and_true, true_and, and_false, false_and, or_true, true_or, or_false, false_or, and_self, or_self, if_true, if_false, ite_true, ite_false, reduceIte, eq_self, ne_eq]; done) | exact absurd (c4.symm.trans c30) (by decide)
          · skip
            refine v_aload_n hX 0 25 rfl rfl rfl ?_
            refine g_0_5 hX 26 hb tw_113 rfl ?_
            refine v_istore_n hX 3 27 rfl rfl (Nat.le_of_ble_eq_true rfl) rfl ?_
            refine v_aload_n hX 0 28 rfl rfl rfl ?_
            refine v_iload_n hX 2 29 rfl rfl rfl ?_
            refine p_0_5 hX 30 hb  tw_113 rfl ?_
            refine v_iload_n hX 3 31 rfl rfl rfl ?_
            refine v_iret hX hQ rfl rfl ?_ ?_ 32 rfl
            · first | (simp (decide := true) only [adR, c4, c9, c30, c35, c41, not_true_eq_false, not_false_eq_true, and_true, true_and, and_false, false_and, or_true, true_or, or_false, false_or, and_self, or_self, if_true, if_false, ite_true, ite_false, reduceIte, eq_self, ne_eq]; done) | exact absurd (c4.symm.trans c30) (by decide)
            · first | (simp (decide := true) only [adM, c4, c9, c30, c35, c41, not_true_eq_false, not_false_eq_true, and_true, true_and, and_false, false_and, or_true, true_or, or_false, false_or, and_self, or_self, if_true, if_false, ite_true, ite_false, reduceIte, eq_self, ne_eq]; done) | exact absurd (c4.symm.trans c30) (by decide)
    · skip
      refine v_iload_n hX 2 7 rfl rfl rfl ?_
      refine v_bipush hX (v := 60) 8 rfl (by decide) ?_
      refine v_icmp_gt hX (tgt := 28) 9 rfl (by decide) (fun c15 => ?_) (fun c15 => ?_)
      · skip
        refine v_iload_n hX 1 16 rfl rfl rfl ?_
        refine v_iconst hX (v := 1) 17 rfl (by decide) ?_
        refine v_icmp_ne hX (tgt := 54) 18 rfl (by decide) (fun c30 => ?_) (fun c30 => ?_)
        · skip
          refine v_iload_n hX 3 31 rfl rfl rfl ?_
          refine v_iret hX hQ rfl rfl ?_ ?_ 32 rfl
          · first | (simp (decide := true) only [adR, c4, c9, c15, c30, not_true_eq_false, not_false_eq_true, and_true, true_and, and_false, false_and, or_true, true_or, or_false, false_or, and_self, or_self, if_true, if_false, ite_true, ite_false, reduceIte, eq_self, ne_eq]; done) | exact absurd (c4.symm.trans c30) (by decide)
          · first | (simp (decide := true) only [adM, c4, c9, c15, c30, not_true_eq_false, not_false_eq_true, and_true, true_and, and_false, false_and, or_true, true_or, or_false, false_or, and_self, or_self, if_true, if_false, ite_true, ite_false, reduceIte, eq_self, ne_eq]; done) | exact absurd (c4.symm.trans c30) (by decide)
        · skip
          refine v_iload_n hX 2 19 rfl rfl rfl ?_
          refine v_iconst hX (v := 1) 20 rfl (by decide) ?_
          refine v_icmp_lt hX (tgt := 54) 21 rfl (by decide) (fun c35 => ?_) (fun c35 => ?_)
          · skip
            refine v_iload_n hX 3 31 rfl rfl rfl ?_
            refine v_iret hX hQ rfl rfl ?_ ?_ 32 rfl
            · first | (simp (decide := true) only [adR, c4, c9, c15, c30, c35, not_true_eq_false, not_false_eq_true, and_true, true_and, and_false, false_and, or_true, true_or, or_false, false_or, and_self, or_self, if_true, if_false, ite_true, ite_false, reduceIte, eq_self, ne_eq]; done) | exact absurd (c4.symm.trans c30) (by decide)
            · first | (simp (decide := true) only [adM, c4, c9, c15, c30, c35, not_true_eq_false, not_false_eq_true, and_true, true_and, and_false, false_and, or_true, true_or, or_false, false_or, and_self, or_self, if_true, if_false, ite_true, ite_false, reduceIte, eq_self, ne_eq]; done) | exact absurd (c4.symm.trans c30) (by decide)
          · skip
            refine v_iload_n hX 2 22 rfl rfl rfl ?_
            refine v_bipush hX (v := 99) 23 rfl (by decide) ?_
            refine v_icmp_gt hX (tgt := 54) 24 rfl (by decide) (fun c41 => ?_) (fun c41 => ?_)
            · skip
              refine v_iload_n hX 3 31 rfl rfl rfl ?_
              refine v_iret hX hQ rfl rfl ?_ ?_ 32 rfl
              · first | (simp (decide := true) only [adR, c4, c9, c15, c30, c35, c41, not_true_eq_false, not_false_eq_true, and_true, true_and, and_false, false_and, or_true, true_or, or_false, false_or, and_self, or_self, if_true, if_false, ite_true, ite_false, reduceIte, eq_self, ne_eq]; done) | exact absurd (c4.symm.trans c30) (by decide)
              · first | (simp (decide := true) only [adM, c4, c9, c15, c30, c35, c41, not_true_eq_false, not_false_eq_true, and_true, true_and, and_false, false_and, or_true, true_or, or_false, false_or, and_self, or_self, if_true, if_false, ite_true, ite_false, reduceIte, eq_self, ne_eq]; done) | exact absurd (c4.symm.trans c30) (by decide)
            · skip
              refine v_aload_n hX 0 25 rfl rfl rfl ?_
              refine g_0_5 hX 26 hb tw_113 rfl ?_
              refine v_istore_n hX 3 27 rfl rfl (Nat.le_of_ble_eq_true rfl) rfl ?_
              refine v_aload_n hX 0 28 rfl rfl rfl ?_
              refine v_iload_n hX 2 29 rfl rfl rfl ?_
              refine p_0_5 hX 30 hb  tw_113 rfl ?_
              refine v_iload_n hX 3 31 rfl rfl rfl ?_
              refine v_iret hX hQ rfl rfl ?_ ?_ 32 rfl
              · first | (simp (decide := true) only [adR, c4, c9, c15, c30, c35, c41, not_true_eq_false, not_false_eq_true, and_true, true_and, and_false, false_and, or_true, true_or, or_false, false_or, and_self, or_self, if_true, if_false, ite_true, ite_false, reduceIte, eq_self, ne_eq]; done) | exact absurd (c4.symm.trans c30) (by decide)
              · first | (simp (decide := true) only [adM, c4, c9, c15, c30, c35, c41, not_true_eq_false, not_false_eq_true, and_true, true_and, and_false, false_and, or_true, true_or, or_false, false_or, and_self, or_self, if_true, if_false, ite_true, ite_false, reduceIte, eq_self, ne_eq]; done) | exact absurd (c4.symm.trans c30) (by decide)
      · skip
        refine v_aload_n hX 0 10 rfl rfl rfl ?_
        refine g_0_4 hX 11 hb tw_111 rfl ?_
        refine v_istore_n hX 3 12 rfl rfl (Nat.le_of_ble_eq_true rfl) rfl ?_
        refine v_aload_n hX 0 13 rfl rfl rfl ?_
        refine v_iload_n hX 2 14 rfl rfl rfl ?_
        refine p_0_4 hX 15 hb  tw_111 rfl ?_
        refine v_iload_n hX 1 16 rfl rfl rfl ?_
        refine v_iconst hX (v := 1) 17 rfl (by decide) ?_
        refine v_icmp_ne hX (tgt := 54) 18 rfl (by decide) (fun c30 => ?_) (fun c30 => ?_)
        · skip
          refine v_iload_n hX 3 31 rfl rfl rfl ?_
          refine v_iret hX hQ rfl rfl ?_ ?_ 32 rfl
          · first | (simp (decide := true) only [adR, c4, c9, c15, c30, not_true_eq_false, not_false_eq_true, and_true, true_and, and_false, false_and, or_true, true_or, or_false, false_or, and_self, or_self, if_true, if_false, ite_true, ite_false, reduceIte, eq_self, ne_eq]; done) | exact absurd (c4.symm.trans c30) (by decide)
          · first | (simp (decide := true) only [adM, c4, c9, c15, c30, not_true_eq_false, not_false_eq_true, and_true, true_and, and_false, false_and, or_true, true_or, or_false, false_or, and_self, or_self, if_true, if_false, ite_true, ite_false, reduceIte, eq_self, ne_eq]; done) | exact absurd (c4.symm.trans c30) (by decide)
        · skip
          refine v_iload_n hX 2 19 rfl rfl rfl ?_
          refine v_iconst hX (v := 1) 20 rfl (by decide) ?_
          refine v_icmp_lt hX (tgt := 54) 21 rfl (by decide) (fun c35 => ?_) (fun c35 => ?_)
          · skip
            refine v_iload_n hX 3 31 rfl rfl rfl ?_
            refine v_iret hX hQ rfl rfl ?_ ?_ 32 rfl
            · first | (simp (decide := true) only [adR, c4, c9, c15, c30, c35, not_true_eq_false, not_false_eq_true, and_true, true_and, and_false, false_and, or_true, true_or, or_false, false_or, and_self, or_self, if_true, if_false, ite_true, ite_false, reduceIte, eq_self, ne_eq]; done) | exact absurd (c4.symm.trans c30) (by decide)
            · first | (simp (decide := true) only [adM, c4, c9, c15, c30, c35, not_true_eq_false, not_false_eq_true, and_true, true_and, and_false, false_and, or_true, true_or, or_false, false_or, and_self, or_self, if_true, if_false, ite_true, ite_false, reduceIte, eq_self, ne_eq]; done) | exact absurd (c4.symm.trans c30) (by decide)
          · skip
            refine v_iload_n hX 2 22 rfl rfl rfl ?_
            refine v_bipush hX (v := 99) 23 rfl (by decide) ?_
            refine v_icmp_gt hX (tgt := 54) 24 rfl (by decide) (fun c41 => ?_) (fun c41 => ?_)
            · skip
              refine v_iload_n hX 3 31 rfl rfl rfl ?_
              refine v_iret hX hQ rfl rfl ?_ ?_ 32 rfl
              · first | (simp (decide := true) only [adR, c4, c9, c15, c30, c35, c41, not_true_eq_false, not_false_eq_true, and_true, true_and, and_false, false_and, or_true, true_or, or_false, false_or, and_self, or_self, if_true, if_false, ite_true, ite_false, reduceIte, eq_self, ne_eq]; done) | exact absurd (c4.symm.trans c30) (by decide)
              · first | (simp (decide := true) only [adM, c4, c9, c15, c30, c35, c41, not_true_eq_false, not_false_eq_true, and_true, true_and, and_false, false_and, or_true, true_or, or_false, false_or, and_self, or_self, if_true, if_false, ite_true, ite_false, reduceIte, eq_self, ne_eq]; done) | exact absurd (c4.symm.trans c30) (by decide)
            · skip
              refine v_aload_n hX 0 25 rfl rfl rfl ?_
              refine g_0_5 hX 26 hb tw_113 rfl ?_
              refine v_istore_n hX 3 27 rfl rfl (Nat.le_of_ble_eq_true rfl) rfl ?_
              refine v_aload_n hX 0 28 rfl rfl rfl ?_
              refine v_iload_n hX 2 29 rfl rfl rfl ?_
              refine p_0_5 hX 30 hb  tw_113 rfl ?_
              refine v_iload_n hX 3 31 rfl rfl rfl ?_
              refine v_iret hX hQ rfl rfl ?_ ?_ 32 rfl
              · first | (simp (decide := true) only [adR, c4, c9, c15, c30, c35, c41, not_true_eq_false, not_false_eq_true, and_true, true_and, and_false, false_and, or_true, true_or, or_false, false_or, and_self, or_self, if_true, if_false, ite_true, ite_false, reduceIte, eq_self, ne_eq]; done) | exact absurd (c4.symm.trans c30) (by decide)
              · first | (simp (decide := true) only [adM, c4, c9, c15, c30, c35, c41, not_true_eq_false, not_false_eq_true, and_true, true_and, and_false, false_and, or_true, true_or, or_false, false_or, and_self, or_self, if_true, if_false, ite_true, ite_false, reduceIte, eq_self, ne_eq]; done) | exact absurd (c4.symm.trans c30) (by decide)
set_option maxRecDepth 100000 in
set_option maxHeartbeats 4000000 in
theorem f_canBeFiled {Y : Yt} {M : Mm} {p c : Int32} : Fn Y yX0_canBeFiled wsX0_canBeFiled { frames := 0, cells := 0, slots := 0, locals := 0 } [.int p, .int c] M (some (.int (cbf p c))) M := by
  refine Fn.of (cc := cX0_canBeFiled) (ins := iX0_canBeFiled) (maxL := 2) (ret := (some .boolean)) (by decide) dX0_canBeFiled [some (.int p), some (.int c)] (Nat.le_of_ble_eq_true rfl) rfl rfl ?_
  intro X hX hQ
  refine v_iload_n hX 0 0 rfl rfl rfl ?_
  refine v_iconst hX (v := 1) 1 rfl (by decide) ?_
  refine v_icmp_lt hX (tgt := 26) 2 rfl (by decide) (fun c2 => ?_) (fun c2 => ?_)
  · skip
    refine v_iconst hX (v := 0) 13 rfl (by decide) ?_
    refine v_iret hX hQ rfl rfl ?_ ?_ 14 rfl
    · simp [cbf, c2]
    · rfl
  · skip
    refine v_iload_n hX 0 3 rfl rfl rfl ?_
    refine v_bipush hX (v := 9) 4 rfl (by decide) ?_
    refine v_icmp_gt hX (tgt := 26) 5 rfl (by decide) (fun c8 => ?_) (fun c8 => ?_)
    · skip
      refine v_iconst hX (v := 0) 13 rfl (by decide) ?_
      refine v_iret hX hQ rfl rfl ?_ ?_ 14 rfl
      · simp [cbf, c2, c8]
      · rfl
    · skip
      refine v_iload_n hX 1 6 rfl rfl rfl ?_
      refine v_if_lt hX (tgt := 26) 7 rfl (by decide) (fun c12 => ?_) (fun c12 => ?_)
      · skip
        refine v_iconst hX (v := 0) 13 rfl (by decide) ?_
        refine v_iret hX hQ rfl rfl ?_ ?_ 14 rfl
        · simp [cbf, c2, c8, c12]
        · rfl
      · skip
        refine v_iload_n hX 1 8 rfl rfl rfl ?_
        refine v_sipush hX (v := 1023) 9 rfl (by decide) ?_
        refine v_icmp_gt hX (tgt := 26) 10 rfl (by decide) (fun c19 => ?_) (fun c19 => ?_)
        · skip
          refine v_iconst hX (v := 0) 13 rfl (by decide) ?_
          refine v_iret hX hQ rfl rfl ?_ ?_ 14 rfl
          · simp [cbf, c2, c8, c12, c19]
          · rfl
        · skip
          refine v_iconst hX (v := 1) 11 rfl (by decide) ?_
          refine v_goto hX (tgt := 27) 12 rfl (by decide) ?_
          refine v_iret hX hQ rfl rfl ?_ ?_ 14 rfl
          · simp [cbf, c2, c8, c12, c19]
          · rfl
set_option maxRecDepth 100000 in
set_option maxHeartbeats 4000000 in
theorem f_file {Y : Yt} {M : Mm} {b n : Nat} {s p c t : Int32} (hb : isB b) (hz : M.1 b 1 = nI n) (hn : n < 24) : Fn Y yX0_file wsX0_file { frames := 1, cells := 0, slots := 0, locals := 20 } [.ref (Y.2.2.2.1 b), .int s, .int p, .int c, .int t] M (some (.int (nI n))) ((fileM M b n s p c t)) := by
  refine Fn.of (cc := cX0_file) (ins := iX0_file) (maxL := 6) (ret := (some .int)) (by decide) dX0_file [some (.ref (Y.2.2.2.1 b)), some (.int s), some (.int p), some (.int c), some (.int t), none] (Nat.le_of_ble_eq_true rfl) rfl rfl ?_
  intro X hX hQ
  refine v_aload_n hX 0 0 rfl rfl rfl ?_
  refine v_callV hX 0 (by have := isB_lt hb; omega) (cG_B hb) rfl (f_freeRow_in hb hz hn) tw_267 tw_264 tw_266 tw_10 tw_40 (by decide +kernel) ⟨⟨rfl, rfl⟩, Nat.le_of_ble_eq_true rfl, Nat.le_of_ble_eq_true rfl⟩ rfl (Nat.le_of_ble_eq_true rfl) rfl rfl 1 rfl ?_
  refine v_astore hX 2 rfl (Nat.le_of_ble_eq_true rfl) rfl ?_
  refine v_aload hX 3 rfl rfl ?_
  refine v_ifnonnull hX (tgt := 14) 4 rfl (by decide) ?_
  refine v_aload hX 7 rfl rfl ?_
  refine v_iload_n hX 1 8 rfl rfl rfl ?_
  refine pN_4_0 hX 9 hb (by omega)  (List.mem_of_getElem? (i := 0) rfl) rfl ?_
  refine v_aload hX 10 rfl rfl ?_
  refine v_iload_n hX 2 11 rfl rfl rfl ?_
  refine pN_4_1 hX 12 hb (by omega)  (List.mem_of_getElem? (i := 2) rfl) rfl ?_
  refine v_aload hX 13 rfl rfl ?_
  refine v_iload_n hX 3 14 rfl rfl rfl ?_
  refine pN_4_2 hX 15 hb (by omega)  (List.mem_of_getElem? (i := 4) rfl) rfl ?_
  refine v_aload hX 16 rfl rfl ?_
  refine v_iload hX 17 rfl rfl ?_
  refine pN_4_3 hX 18 hb (by omega)  (List.mem_of_getElem? (i := 7) rfl) rfl ?_
  refine v_aload hX 19 rfl rfl ?_
  refine v_aload_n hX 0 20 rfl rfl rfl ?_
  refine g_0_2 hX 21 hb tw_107 rfl ?_
  refine pN_4_4 hX 22 hb (by omega)  (List.mem_of_getElem? (i := 9) rfl) rfl ?_
  refine v_aload hX 23 rfl rfl ?_
  refine v_aload_n hX 0 24 rfl rfl rfl ?_
  refine g_0_2 hX 25 hb tw_107 rfl ?_
  refine pN_4_5 hX 26 hb (by omega)  (List.mem_of_getElem? (i := 11) rfl) rfl ?_
  refine v_aload hX 27 rfl rfl ?_
  refine v_iconst hX (v := 0) 28 rfl (by decide) ?_
  refine pN_4_6 hX 29 hb (by omega) rfl rfl (List.mem_of_getElem? (i := 12) rfl) rfl ?_
  refine v_aload_n hX 0 30 rfl rfl rfl ?_
  refine v_dup hX 31 rfl rfl ?_
  refine g_0_1 hX 32 hb tw_105 rfl ?_
  refine v_iconst hX (v := 1) 33 rfl (by decide) ?_
  refine v_iadd hX 34 rfl ?_
  refine p_0_1 hX 35 hb  tw_105 rfl ?_
  refine v_aload_n hX 0 36 rfl rfl rfl ?_
  refine g_0_1 hX 37 hb tw_105 rfl ?_
  refine v_iconst hX (v := 1) 38 rfl (by decide) ?_
  refine v_isub hX 39 rfl ?_
  refine v_iret hX hQ rfl rfl ?_ ?_ 40 rfl
  · simp only [mset_n (show b ≠ b + 2 + n by omega), mset_s, upd_s, hz, nI_1, nI_pred]
  · simp only [fileM, mset_n (show b ≠ b + 2 + n by omega), hz, nI_1]
set_option maxRecDepth 100000 in
set_option maxHeartbeats 4000000 in
theorem f_file_full {Y : Yt} {M : Mm} {b n : Nat} {s p c t : Int32} (hb : isB b) (hz : M.1 b 1 = nI n) (hn : n = 24) : Fn Y yX0_file wsX0_file { frames := 1, cells := 0, slots := 0, locals := 20 } [.ref (Y.2.2.2.1 b), .int s, .int p, .int c, .int t] M (some (.int (-4))) M := by
  refine Fn.of (cc := cX0_file) (ins := iX0_file) (maxL := 6) (ret := (some .int)) (by decide) dX0_file [some (.ref (Y.2.2.2.1 b)), some (.int s), some (.int p), some (.int c), some (.int t), none] (Nat.le_of_ble_eq_true rfl) rfl rfl ?_
  intro X hX hQ
  refine v_aload_n hX 0 0 rfl rfl rfl ?_
  refine v_callV hX 0 (by have := isB_lt hb; omega) (cG_B hb) rfl (f_freeRow_out hb hz hn) tw_267 tw_264 tw_266 tw_10 tw_40 (by decide +kernel) ⟨⟨rfl, rfl⟩, Nat.le_of_ble_eq_true rfl, Nat.le_of_ble_eq_true rfl⟩ rfl (Nat.le_of_ble_eq_true rfl) rfl rfl 1 rfl ?_
  refine v_astoreN hX 2 rfl (Nat.le_of_ble_eq_true rfl) rfl ?_
  refine v_aloadN hX 3 rfl rfl ?_
  refine v_ifnonnullN hX 4 rfl ?_
  refine v_bipush hX (v := (-4)) 5 rfl (by decide) ?_
  refine v_iret hX hQ rfl rfl ?_ ?_ 6 rfl
  · rfl
  · rfl
set_option maxRecDepth 100000 in
set_option maxHeartbeats 4000000 in
theorem f_fileClaim {Y : Yt} {M : Mm} {b n : Nat} {s p c : Int32} (hb : isB b) (hz : M.1 b 1 = nI n) (hn : n ≤ 24) : Fn Y yX0_fileClaim wsX0_fileClaim { frames := 2, cells := 0, slots := 0, locals := 45 } [.ref (Y.2.2.2.1 b), .int s, .int p, .int c] M (some (.int (fcR n s p c))) ((fcM M b n s p c)) := by
  refine Fn.of (cc := cX0_fileClaim) (ins := iX0_fileClaim) (maxL := 4) (ret := (some .int)) (by decide) dX0_fileClaim [some (.ref (Y.2.2.2.1 b)), some (.int s), some (.int p), some (.int c)] (Nat.le_of_ble_eq_true rfl) rfl rfl ?_
  intro X hX hQ
  refine v_iload_n hX 1 0 rfl rfl rfl ?_
  refine v_if_lt hX (tgt := 17) 1 rfl (by decide) (fun c1 => ?_) (fun c1 => ?_)
  · skip
    refine v_bipush hX (v := (-2)) 9 rfl (by decide) ?_
    refine v_iret hX hQ rfl rfl ?_ ?_ 10 rfl
    · simp (decide := true) only [fcR, c1, not_true_eq_false, not_false_eq_true, and_true, true_and, and_false, false_and, or_true, true_or, or_false, false_or, and_self, or_self, if_true, if_false, ite_true, ite_false, reduceIte, eq_self, ne_eq]
    · simp (decide := true) only [fcM, c1, not_true_eq_false, not_false_eq_true, and_true, true_and, and_false, false_and, or_true, true_or, or_false, false_or, and_self, or_self, if_true, if_false, ite_true, ite_false, reduceIte, eq_self, ne_eq]
  · skip
    refine v_iload_n hX 1 2 rfl rfl rfl ?_
    refine v_iconst hX (v := 1) 3 rfl (by decide) ?_
    refine v_icmp_gt hX (tgt := 17) 4 rfl (by decide) (fun c6 => ?_) (fun c6 => ?_)
    · skip
      refine v_bipush hX (v := (-2)) 9 rfl (by decide) ?_
      refine v_iret hX hQ rfl rfl ?_ ?_ 10 rfl
      · simp (decide := true) only [fcR, c1, c6, not_true_eq_false, not_false_eq_true, and_true, true_and, and_false, false_and, or_true, true_or, or_false, false_or, and_self, or_self, if_true, if_false, ite_true, ite_false, reduceIte, eq_self, ne_eq]
      · simp (decide := true) only [fcM, c1, c6, not_true_eq_false, not_false_eq_true, and_true, true_and, and_false, false_and, or_true, true_or, or_false, false_or, and_self, or_self, if_true, if_false, ite_true, ite_false, reduceIte, eq_self, ne_eq]
    · skip
      refine v_iload_n hX 2 5 rfl rfl rfl ?_
      refine v_iload_n hX 3 6 rfl rfl rfl ?_
      refine v_callS hX 2 (f_canBeFiled) tw_259 tw_257 tw_258 tw_40 (by decide +kernel) ⟨⟨rfl, rfl⟩, Nat.le_of_ble_eq_true rfl, Nat.le_of_ble_eq_true rfl⟩ rfl (Nat.le_of_ble_eq_true rfl) rfl rfl 7 rfl ?_
      refine v_if_ne hX (tgt := 20) 8 rfl (by decide) (fun c14 => ?_) (fun c14 => ?_)
      · skip
        refine v_aload_n hX 0 11 rfl rfl rfl ?_
        refine v_iload_n hX 1 12 rfl rfl rfl ?_
        refine v_iload_n hX 2 13 rfl rfl rfl ?_
        refine v_iload_n hX 3 14 rfl rfl rfl ?_
        refine v_bipush hX (v := (-6)) 15 rfl (by decide) ?_
        rcases Nat.lt_or_ge n 24 with h24 | h24
        · skip
          refine v_callV hX 4 (by have := isB_lt hb; omega) (cG_B hb) rfl (f_file hb hz h24) tw_263 tw_260 tw_262 tw_9 tw_40 (by decide +kernel) ⟨⟨rfl, rfl⟩, Nat.le_of_ble_eq_true rfl, Nat.le_of_ble_eq_true rfl⟩ rfl (Nat.le_of_ble_eq_true rfl) rfl rfl 16 rfl ?_
          refine v_iret hX hQ rfl rfl ?_ ?_ 17 rfl
          · simp (decide := true) only [fcR, h24, c1, c6, c14, not_true_eq_false, not_false_eq_true, and_true, true_and, and_false, false_and, or_true, true_or, or_false, false_or, and_self, or_self, if_true, if_false, ite_true, ite_false, reduceIte, eq_self, ne_eq]
          · simp (decide := true) only [fcM, h24, c1, c6, c14, not_true_eq_false, not_false_eq_true, and_true, true_and, and_false, false_and, or_true, true_or, or_false, false_or, and_self, or_self, if_true, if_false, ite_true, ite_false, reduceIte, eq_self, ne_eq]
        · skip
          have h24 : n = 24 := by omega
          refine v_callV hX 4 (by have := isB_lt hb; omega) (cG_B hb) rfl (f_file_full hb hz h24) tw_263 tw_260 tw_262 tw_9 tw_40 (by decide +kernel) ⟨⟨rfl, rfl⟩, Nat.le_of_ble_eq_true rfl, Nat.le_of_ble_eq_true rfl⟩ rfl (Nat.le_of_ble_eq_true rfl) rfl rfl 16 rfl ?_
          refine v_iret hX hQ rfl rfl ?_ ?_ 17 rfl
          · simp (decide := true) only [fcR, h24, c1, c6, c14, not_true_eq_false, not_false_eq_true, and_true, true_and, and_false, false_and, or_true, true_or, or_false, false_or, and_self, or_self, if_true, if_false, ite_true, ite_false, reduceIte, eq_self, ne_eq]
          · simp (decide := true) only [fcM, h24, c1, c6, c14, not_true_eq_false, not_false_eq_true, and_true, true_and, and_false, false_and, or_true, true_or, or_false, false_or, and_self, or_self, if_true, if_false, ite_true, ite_false, reduceIte, eq_self, ne_eq]
      · skip
        refine v_bipush hX (v := (-2)) 9 rfl (by decide) ?_
        refine v_iret hX hQ rfl rfl ?_ ?_ 10 rfl
        · simp (decide := true) only [fcR, c1, c6, c14, not_true_eq_false, not_false_eq_true, and_true, true_and, and_false, false_and, or_true, true_or, or_false, false_or, and_self, or_self, if_true, if_false, ite_true, ite_false, reduceIte, eq_self, ne_eq]
        · simp (decide := true) only [fcM, c1, c6, c14, not_true_eq_false, not_false_eq_true, and_true, true_and, and_false, false_and, or_true, true_or, or_false, false_or, and_self, or_self, if_true, if_false, ite_true, ite_false, reduceIte, eq_self, ne_eq]
set_option maxRecDepth 100000 in
set_option maxHeartbeats 4000000 in
theorem f_fileAnswer_no {Y : Yt} {M : Mm} {b n : Nat} {x p c : Int32} (hb : isB b) (hz : M.1 b 1 = nI n) (hn : n ≤ 24) (hx : x < 0 ∨ nI n ≤ x) : Fn Y yX0_fileAnswer wsX0_fileAnswer { frames := 2, cells := 0, slots := 0, locals := 45 } [.ref (Y.2.2.2.1 b), .int x, .int p, .int c] M (some (.int (-1))) M := by
  refine Fn.of (cc := cX0_fileAnswer) (ins := iX0_fileAnswer) (maxL := 5) (ret := (some .int)) (by decide) dX0_fileAnswer [some (.ref (Y.2.2.2.1 b)), some (.int x), some (.int p), some (.int c), none] (Nat.le_of_ble_eq_true rfl) rfl rfl ?_
  intro X hX hQ
  refine v_aload_n hX 0 0 rfl rfl rfl ?_
  refine v_iload_n hX 1 1 rfl rfl rfl ?_
  refine v_callV hX 1 (by have := isB_lt hb; omega) (cG_B hb) rfl (f_find_out hb hz hx) tw_232 tw_229 tw_231 tw_3 tw_40 (by decide +kernel) ⟨⟨rfl, rfl⟩, Nat.le_of_ble_eq_true rfl, Nat.le_of_ble_eq_true rfl⟩ rfl (Nat.le_of_ble_eq_true rfl) rfl rfl 2 rfl ?_
  refine v_astoreN hX 3 rfl (Nat.le_of_ble_eq_true rfl) rfl ?_
  refine v_aloadN hX 4 rfl rfl ?_
  refine v_ifnonnullN hX 5 rfl ?_
  refine v_iconst hX (v := (-1)) 6 rfl (by decide) ?_
  refine v_iret hX hQ rfl rfl ?_ ?_ 7 rfl
  · rfl
  · rfl
set_option maxRecDepth 100000 in
set_option maxHeartbeats 4000000 in
theorem f_fileAnswer {Y : Yt} {M : Mm} {b n i : Nat} {p c : Int32} (hb : isB b) (hz : M.1 b 1 = nI n) (hn : n ≤ 24) (hi : i < n) : Fn Y yX0_fileAnswer wsX0_fileAnswer { frames := 2, cells := 0, slots := 0, locals := 45 } [.ref (Y.2.2.2.1 b), .int (nI i), .int p, .int c] M (some (.int (faR M b n i p c))) ((faM M b n i p c)) := by
  refine Fn.of (cc := cX0_fileAnswer) (ins := iX0_fileAnswer) (maxL := 5) (ret := (some .int)) (by decide) dX0_fileAnswer [some (.ref (Y.2.2.2.1 b)), some (.int (nI i)), some (.int p), some (.int c), none] (Nat.le_of_ble_eq_true rfl) rfl rfl ?_
  intro X hX hQ
  refine v_aload_n hX 0 0 rfl rfl rfl ?_
  refine v_iload_n hX 1 1 rfl rfl rfl ?_
  refine v_callV hX 1 (by have := isB_lt hb; omega) (cG_B hb) rfl (f_find_in hb hz hn hi) tw_232 tw_229 tw_231 tw_3 tw_40 (by decide +kernel) ⟨⟨rfl, rfl⟩, Nat.le_of_ble_eq_true rfl, Nat.le_of_ble_eq_true rfl⟩ rfl (Nat.le_of_ble_eq_true rfl) rfl rfl 2 rfl ?_
  refine v_astore hX 3 rfl (Nat.le_of_ble_eq_true rfl) rfl ?_
  refine v_aload hX 4 rfl rfl ?_
  refine v_ifnonnull hX (tgt := 14) 5 rfl (by decide) ?_
  refine v_iload_n hX 2 8 rfl rfl rfl ?_
  refine v_iload_n hX 3 9 rfl rfl rfl ?_
  refine v_callS hX 2 (f_canBeFiled) tw_259 tw_257 tw_258 tw_40 (by decide +kernel) ⟨⟨rfl, rfl⟩, Nat.le_of_ble_eq_true rfl, Nat.le_of_ble_eq_true rfl⟩ rfl (Nat.le_of_ble_eq_true rfl) rfl rfl 10 rfl ?_
  refine v_if_ne hX (tgt := 25) 11 rfl (by decide) (fun c19 => ?_) (fun c19 => ?_)
  · skip
    refine v_aload_n hX 0 14 rfl rfl rfl ?_
    rcases Nat.lt_or_ge n 24 with h24 | h24
    · skip
      refine v_callV hX 0 (by have := isB_lt hb; omega) (cG_B hb) rfl (f_freeRow_in hb hz h24) tw_267 tw_264 tw_266 tw_10 tw_40 (by decide +kernel) ⟨⟨rfl, rfl⟩, Nat.le_of_ble_eq_true rfl, Nat.le_of_ble_eq_true rfl⟩ rfl (Nat.le_of_ble_eq_true rfl) rfl rfl 15 rfl ?_
      refine v_ifnonnull hX (tgt := 35) 16 rfl (by decide) ?_
      refine v_aload hX 19 rfl rfl ?_
      refine gN_4_6 hX 20 hb (by omega) (List.mem_of_getElem? (i := 12) rfl) rfl ?_
      refine v_if_eq hX (tgt := 46) 21 rfl (by decide) (fun c40 => ?_) (fun c40 => ?_)
      · skip
        refine v_aload_n hX 0 24 rfl rfl rfl ?_
        refine v_iconst hX (v := 1) 25 rfl (by decide) ?_
        refine v_aload hX 26 rfl rfl ?_
        refine gN_4_0 hX 27 hb (by omega) (List.mem_of_getElem? (i := 0) rfl) rfl ?_
        refine v_isub hX 28 rfl ?_
        refine v_iload_n hX 2 29 rfl rfl rfl ?_
        refine v_iload_n hX 3 30 rfl rfl rfl ?_
        refine v_iload_n hX 1 31 rfl rfl rfl ?_
        refine v_callV hX 4 (by have := isB_lt hb; omega) (cG_B hb) rfl (f_file hb hz h24) tw_263 tw_260 tw_262 tw_9 tw_40 (by decide +kernel) ⟨⟨rfl, rfl⟩, Nat.le_of_ble_eq_true rfl, Nat.le_of_ble_eq_true rfl⟩ rfl (Nat.le_of_ble_eq_true rfl) rfl rfl 32 rfl ?_
        refine v_iret hX hQ rfl rfl ?_ ?_ 33 rfl
        · simp (decide := true) only [faR, h24, c19, c40, not_true_eq_false, not_false_eq_true, and_true, true_and, and_false, false_and, or_true, true_or, or_false, false_or, and_self, or_self, if_true, if_false, ite_true, ite_false, reduceIte, eq_self, ne_eq]
        · simp (decide := true) only [faM, h24, c19, c40, not_true_eq_false, not_false_eq_true, and_true, true_and, and_false, false_and, or_true, true_or, or_false, false_or, and_self, or_self, if_true, if_false, ite_true, ite_false, reduceIte, eq_self, ne_eq]
      · skip
        refine v_bipush hX (v := (-5)) 22 rfl (by decide) ?_
        refine v_iret hX hQ rfl rfl ?_ ?_ 23 rfl
        · simp (decide := true) only [faR, h24, c19, c40, not_true_eq_false, not_false_eq_true, and_true, true_and, and_false, false_and, or_true, true_or, or_false, false_or, and_self, or_self, if_true, if_false, ite_true, ite_false, reduceIte, eq_self, ne_eq]
        · simp (decide := true) only [faM, h24, c19, c40, not_true_eq_false, not_false_eq_true, and_true, true_and, and_false, false_and, or_true, true_or, or_false, false_or, and_self, or_self, if_true, if_false, ite_true, ite_false, reduceIte, eq_self, ne_eq]
    · skip
      have h24 : n = 24 := by omega
      refine v_callV hX 0 (by have := isB_lt hb; omega) (cG_B hb) rfl (f_freeRow_out hb hz h24) tw_267 tw_264 tw_266 tw_10 tw_40 (by decide +kernel) ⟨⟨rfl, rfl⟩, Nat.le_of_ble_eq_true rfl, Nat.le_of_ble_eq_true rfl⟩ rfl (Nat.le_of_ble_eq_true rfl) rfl rfl 15 rfl ?_
      refine v_ifnonnullN hX 16 rfl ?_
      refine v_bipush hX (v := (-4)) 17 rfl (by decide) ?_
      refine v_iret hX hQ rfl rfl ?_ ?_ 18 rfl
      · simp (decide := true) only [faR, h24, c19, not_true_eq_false, not_false_eq_true, and_true, true_and, and_false, false_and, or_true, true_or, or_false, false_or, and_self, or_self, if_true, if_false, ite_true, ite_false, reduceIte, eq_self, ne_eq]
      · simp (decide := true) only [faM, h24, c19, not_true_eq_false, not_false_eq_true, and_true, true_and, and_false, false_and, or_true, true_or, or_false, false_or, and_self, or_self, if_true, if_false, ite_true, ite_false, reduceIte, eq_self, ne_eq]
  · skip
    refine v_bipush hX (v := (-2)) 12 rfl (by decide) ?_
    refine v_iret hX hQ rfl rfl ?_ ?_ 13 rfl
    · simp (decide := true) only [faR, c19, not_true_eq_false, not_false_eq_true, and_true, true_and, and_false, false_and, or_true, true_or, or_false, false_or, and_self, or_self, if_true, if_false, ite_true, ite_false, reduceIte, eq_self, ne_eq]
    · simp (decide := true) only [faM, c19, not_true_eq_false, not_false_eq_true, and_true, true_and, and_false, false_and, or_true, true_or, or_false, false_or, and_self, or_self, if_true, if_false, ite_true, ite_false, reduceIte, eq_self, ne_eq]
set_option maxRecDepth 100000 in
set_option maxHeartbeats 4000000 in
theorem f_standingIf {Y : Yt} {M : Mm} {b n : Nat} {xo xa : Int32} (hb : isB b) (hz : M.1 b 1 = nI n) (hn : n ≤ 24) (hw : WF (cp M b) n) : Fn Y yX0_standingIf wsX0_standingIf { frames := 2, cells := 0, slots := 0, locals := 43 } [.ref (Y.2.2.2.1 b), .int xo, .int xa] M (some (.int (mk (sd (bt xo) (bt xa) (cp M b) n) n))) M := by
  refine Fn.of (cc := cX0_standingIf) (ins := iX0_standingIf) (maxL := 6) (ret := (some .int)) (by decide) dX0_standingIf [some (.ref (Y.2.2.2.1 b)), some (.int xo), some (.int xa), none, none, none] (Nat.le_of_ble_eq_true rfl) rfl rfl ?_
  intro X hX hQ
  refine v_iload_n hX 2 0 rfl rfl rfl ?_
  refine v_istore_n hX 3 1 rfl rfl (Nat.le_of_ble_eq_true rfl) rfl ?_
  refine v_iconst hX (v := 0) 2 rfl (by decide) ?_
  refine v_istore hX 3 rfl (Nat.le_of_ble_eq_true rfl) rfl ?_
  refine v_aload_n hX 0 4 rfl rfl rfl ?_
  refine g_0_1 hX 5 hb tw_105 rfl ?_
  refine v_iconst hX (v := 1) 6 rfl (by decide) ?_
  refine v_isub hX 7 rfl ?_
  refine v_istore hX 8 rfl (Nat.le_of_ble_eq_true rfl) rfl ?_
  have lp : ∀ (m : Nat), m ≤ n → ∀ (an s2 : Int32), (∀ i, i < 32 → bt an i = (bt xa i || anS (sd (bt xo) (bt xa) (cp M b) n) (cp M b) n m i)) → (∀ i, i < 32 → bt s2 i = (decide (i < n) && (decide (m ≤ i) && sd (bt xo) (bt xa) (cp M b) n i))) → V Y X M 13 [some (.ref (Y.2.2.2.1 b)), some (.int xo), some (.int xa), some (.int an), some (.int s2), some (.int (nI m - 1))] [] := by
    refine downTo (fun m ih => ?_)
    intro hm an s2 h1 h2
    rcases Nat.eq_zero_or_pos m with h0 | h0
    · skip
      subst h0
      refine v_iload hX 9 rfl rfl ?_
      refine v_if_lt hX (tgt := 53) 10 rfl (by decide) (fun c15 => ?_) (fun c15 => absurd (by decide) c15)
      refine v_iload hX 31 rfl rfl ?_
      refine v_iret hX hQ rfl rfl ?_ ?_ 32 rfl
      · refine congrArg (fun z : Int32 => some (Value.int z)) (b_ext (fun i hi => ?_)); rw [h2 i hi, bt_mk _ (by omega) hi]; simp
      · rfl
    · skip
      obtain ⟨m, rfl⟩ : ∃ m2, m = m2 + 1 := ⟨m - 1, by omega⟩
      rw [nI_pred]
      refine v_iload hX 9 rfl rfl ?_
      refine v_if_lt hX (tgt := 53) 10 rfl (by decide) (fun c15 => absurd c15 (nI_nlt (Nat.zero_le _) (by omega))) (fun c15 => ?_)
      refine v_iload_n hX 1 11 rfl rfl rfl ?_
      refine v_iload_n hX 3 12 rfl rfl rfl ?_
      refine v_ior hX 13 rfl ?_
      refine v_iload hX 14 rfl rfl ?_
      refine v_callSN hX 2 (f_has) tw_314 (List.mem_of_getElem? (i := 15) rfl) tw_39 tw_313 (by decide +kernel) ⟨⟨rfl, rfl⟩, Nat.le_of_ble_eq_true rfl, Nat.le_of_ble_eq_true rfl⟩ rfl (Nat.le_of_ble_eq_true rfl) rfl rfl 15 rfl ?_
      refine v_if_ne hX (tgt := 47) 16 rfl (by decide) (fun c26 => ?_) (fun c26 => ?_)
      · skip
        have hb1 := hasv_ne (by omega) c26
        rw [b_or, h1 m (by omega)] at hb1
        have hs0 : sd (bt xo) (bt xa) (cp M b) n m = false := by rw [sd_eq (show m < n by omega)]; cases q1 : bt xo m <;> cases q2 : bt xa m <;> simp_all
        refine v_iinc hX 29 rfl rfl (nI_dm m) (Nat.le_of_ble_eq_true rfl) rfl ?_
        refine v_goto hX (tgt := 13) 30 rfl (by decide) ?_
        refine V.sub (ih m (by omega) (by omega) _ _ ?_ ?_) rfl ⟨rfl, rfl, rfl, rfl, rfl, rfl, trivial⟩
        · intro i hi; rw [h1 i hi, anS_step (show m < n by omega), hs0]; simp
        · intro i hi; rw [h2 i hi]; exact stF hs0
      · skip
        have hb1 := hasv_eq (by omega) c26
        rw [b_or, h1 m (by omega)] at hb1
        have hs0 : sd (bt xo) (bt xa) (cp M b) n m = true := by rw [sd_eq (show m < n by omega)]; cases q1 : bt xo m <;> cases q2 : bt xa m <;> simp_all
        refine v_iload hX 17 rfl rfl ?_
        refine v_iconst hX (v := 1) 18 rfl (by decide) ?_
        refine v_iload hX 19 rfl rfl ?_
        refine v_ishl hX 20 rfl ?_
        refine v_ior hX 21 rfl ?_
        refine v_istore hX 22 rfl (Nat.le_of_ble_eq_true rfl) rfl ?_
        refine v_iload_n hX 3 23 rfl rfl rfl ?_
        refine v_aload_n hX 0 24 rfl rfl rfl ?_
        refine v_iload hX 25 rfl rfl ?_
        refine v_callV hX 1 (by have := isB_lt hb; omega) (cG_B hb) rfl (f_targetOf hb hz hn (show m < n by omega)) tw_318 tw_315 tw_317 tw_20 tw_40 (by decide +kernel) ⟨⟨rfl, rfl⟩, Nat.le_of_ble_eq_true rfl, Nat.le_of_ble_eq_true rfl⟩ rfl (Nat.le_of_ble_eq_true rfl) rfl rfl 26 rfl ?_
        refine v_ior hX 27 rfl ?_
        refine v_istore_n hX 3 28 rfl rfl (Nat.le_of_ble_eq_true rfl) rfl ?_
        refine v_iinc hX 29 rfl rfl (nI_dm m) (Nat.le_of_ble_eq_true rfl) rfl ?_
        refine v_goto hX (tgt := 13) 30 rfl (by decide) ?_
        refine V.sub (ih m (by omega) (by omega) _ _ ?_ ?_) rfl ⟨rfl, rfl, rfl, rfl, rfl, rfl, trivial⟩
        · intro i hi; rw [b_or, h1 i hi, bt_tgt hw hn (show m < n by omega) hi, anS_step (show m < n by omega), hs0]; cases bt xa i <;> cases anS (sd (bt xo) (bt xa) (cp M b) n) (cp M b) n (m + 1) i <;> simp
        · intro i hi; rw [b_or, h2 i hi, bt_one (by omega) hi]; exact stT (by omega) hs0
  rw [hz]
  exact V.sub (lp n (Nat.le_refl n) xa 0 (fun i hi => by rw [anS_end, Bool.or_false]) (fun i hi => by rw [b_0]; by_cases h : i < n; (have : ¬ n ≤ i := by omega); simp [this]; simp [h])) rfl ⟨rfl, rfl, rfl, rfl, rfl, rfl, trivial⟩
set_option maxRecDepth 100000 in
set_option maxHeartbeats 4000000 in
theorem f_standing {Y : Yt} {M : Mm} {b n : Nat} (hb : isB b) (hz : M.1 b 1 = nI n) (hn : n ≤ 24) (hw : WF (cp M b) n) : Fn Y yX0_standing wsX0_standing { frames := 3, cells := 0, slots := 0, locals := 68 } [.ref (Y.2.2.2.1 b)] M (some (.int (mk (bSd M b n) n))) M := by
  refine Fn.of (cc := cX0_standing) (ins := iX0_standing) (maxL := 1) (ret := (some .int)) (by decide) dX0_standing [some (.ref (Y.2.2.2.1 b))] (Nat.le_of_ble_eq_true rfl) rfl rfl ?_
  intro X hX hQ
  refine v_aload_n hX 0 0 rfl rfl rfl ?_
  refine v_aload_n hX 0 1 rfl rfl rfl ?_
  refine v_callV hX 0 (by have := isB_lt hb; omega) (cG_B hb) rfl (f_out hb hz hn hw) tw_291 tw_288 tw_290 tw_14 tw_40 (by decide +kernel) ⟨⟨rfl, rfl⟩, Nat.le_of_ble_eq_true rfl, Nat.le_of_ble_eq_true rfl⟩ rfl (Nat.le_of_ble_eq_true rfl) rfl rfl 2 rfl ?_
  refine v_iconst hX (v := 0) 3 rfl (by decide) ?_
  refine v_callV hX 2 (by have := isB_lt hb; omega) (cG_B hb) rfl (f_standingIf hb hz hn hw) tw_311 tw_308 tw_310 tw_19 tw_40 (by decide +kernel) ⟨⟨rfl, rfl⟩, Nat.le_of_ble_eq_true rfl, Nat.le_of_ble_eq_true rfl⟩ rfl (Nat.le_of_ble_eq_true rfl) rfl rfl 4 rfl ?_
  refine v_iret hX hQ rfl rfl ?_ ?_ 5 rfl
  · rw [bSd_bt hn]
  · rfl
