set_option maxRecDepth 100000 in
set_option maxHeartbeats 4000000 in
theorem f_find_in {Y : Yt} {M : Mm} {b n i : Nat} (hb : isB b) (hz : M.1 b 1 = nI n) (hn : n ≤ 24) (hi : i < n) : Fn Y yX0_find wsX0_find { frames := 0, cells := 0, slots := 0, locals := 0 } [.ref (Y.2.2.2 b), .int (nI i)] M (some (.ref (Y.2.2.2 (b + 2 + i)))) M := by
  refine Fn.of (cc := cX0_find) (ins := iX0_find) (maxL := 2) (ret := (some (.object "PointAnswers$Point"))) (by decide) dX0_find [some (.ref (Y.2.2.2 b)), some (.int (nI i))] (Nat.le_of_ble_eq_true rfl) rfl rfl ?_
  intro X hX hQ
  refine v_iload_n hX 1 0 rfl rfl rfl ?_
  refine v_if_lt hX (tgt := 30) 1 rfl (by decide) (fun c1 => absurd c1 (nI_nlt (Nat.zero_le _) (by omega))) (fun c1 => ?_)
  refine v_iload_n hX 1 2 rfl rfl rfl ?_
  refine v_aload_n hX 0 3 rfl rfl rfl ?_
  refine g_0_1 hX 4 hb tw_159 rfl ?_
  refine v_icmp_ge hX (tgt := 30) 5 rfl (by decide) (fun c9 => absurd c9 (by rw [hz]; exact nI_ge hi (by omega))) (fun c9 => ?_)
  refine v_iload_n hX 1 6 rfl rfl rfl ?_
  refine v_aload_n hX 0 7 rfl rfl rfl ?_
  refine g_0_0 hX 8 hb tw_158 rfl ?_
  refine v_alen hX (v := nI 24) (k := b + 1) (by have := isB_lt hb; omega) (cG_R hb) rfl rfl 9 rfl ?_
  refine v_icmp_ge hX (tgt := 30) 10 rfl (by decide) (fun c18 => absurd c18 (nI_ge (show i < 24 by omega) (by omega))) (fun c18 => ?_)
  refine v_aload_n hX 0 11 rfl rfl rfl ?_
  refine g_0_0 hX 12 hb tw_158 rfl ?_
  refine v_iload_n hX 1 13 rfl rfl rfl ?_
  refine v_aald hX (k := b + 1) (v := Y.2.2.2 (b + 2 + i)) (by have := isB_lt hb; omega) (cG_R hb) rfl (vp_in_nI (by omega) (by decide)) (by rw [nI_clamp (by omega)]) 14 rfl ?_
  refine v_goto hX (tgt := 31) 15 rfl (by decide) ?_
  refine v_aret hX hQ rfl (Or.inl ⟨_, rfl⟩) (Or.inr ⟨_, rfl⟩) ?_ ?_ 17 rfl
  · rfl
  · rfl
set_option maxRecDepth 100000 in
set_option maxHeartbeats 4000000 in
theorem f_find_out {Y : Yt} {M : Mm} {b n : Nat} {x : Int32} (hb : isB b) (hz : M.1 b 1 = nI n) (hx : x < 0 ∨ nI n ≤ x) : Fn Y yX0_find wsX0_find { frames := 0, cells := 0, slots := 0, locals := 0 } [.ref (Y.2.2.2 b), .int x] M (some .null) M := by
  refine Fn.of (cc := cX0_find) (ins := iX0_find) (maxL := 2) (ret := (some (.object "PointAnswers$Point"))) (by decide) dX0_find [some (.ref (Y.2.2.2 b)), some (.int x)] (Nat.le_of_ble_eq_true rfl) rfl rfl ?_
  intro X hX hQ
  refine v_iload_n hX 1 0 rfl rfl rfl ?_
  refine v_if_lt hX (tgt := 30) 1 rfl (by decide) (fun c1 => ?_) (fun c1 => ?_)
  · skip
    refine v_null hX 16 rfl ?_
    refine v_aret hX hQ rfl (Or.inl ⟨_, rfl⟩) (Or.inl rfl) ?_ ?_ 17 rfl
    · rfl
    · rfl
  · skip
    refine v_iload_n hX 1 2 rfl rfl rfl ?_
    refine v_aload_n hX 0 3 rfl rfl rfl ?_
    refine g_0_1 hX 4 hb tw_159 rfl ?_
    refine v_icmp_ge hX (tgt := 30) 5 rfl (by decide) (fun c9 => ?_) (fun c9 => absurd (by rw [hz]; exact hx.resolve_left c1) c9)
    refine v_null hX 16 rfl ?_
    refine v_aret hX hQ rfl (Or.inl ⟨_, rfl⟩) (Or.inl rfl) ?_ ?_ 17 rfl
    · rfl
    · rfl
set_option maxRecDepth 100000 in
set_option maxHeartbeats 4000000 in
theorem f_withdrawn {Y : Yt} {M : Mm} {b n : Nat} (hb : isB b) (hz : M.1 b 1 = nI n) (hn : n ≤ 24) : Fn Y yX0_withdrawn wsX0_withdrawn { frames := 1, cells := 0, slots := 0, locals := 21 } [.ref (Y.2.2.2 b)] M (some (.int (mk (fun i => M.1 (b + 2 + i) 6 != 0) n))) M := by
  refine Fn.of (cc := cX0_withdrawn) (ins := iX0_withdrawn) (maxL := 4) (ret := (some .int)) (by decide) dX0_withdrawn [some (.ref (Y.2.2.2 b)), none, none, none] (Nat.le_of_ble_eq_true rfl) rfl rfl ?_
  intro X hX hQ
  refine v_iconst hX (v := 0) 0 rfl (by decide) ?_
  refine v_istore_n hX 1 1 rfl rfl (Nat.le_of_ble_eq_true rfl) rfl ?_
  refine v_iconst hX (v := 0) 2 rfl (by decide) ?_
  refine v_istore_n hX 2 3 rfl rfl (Nat.le_of_ble_eq_true rfl) rfl ?_
  have lp : ∀ (k : Nat), k ≤ n → V Y X M 4 [some (.ref (Y.2.2.2 b)), some (.int (mk (fun i => M.1 (b + 2 + i) 6 != 0) k)), some (.int (nI k)), none] [] := by
    refine upTo n (fun k hk ih => ?_)
    refine v_iload_n hX 2 4 rfl rfl rfl ?_
    refine v_aload_n hX 0 5 rfl rfl rfl ?_
    refine g_0_1 hX 6 hb tw_159 rfl ?_
    refine v_icmp_ge hX (tgt := 41) 7 rfl (by decide) (fun c9 => ?_) (fun c9 => ?_)
    · skip
      have hk2 : k = n := by rw [hz] at c9; have := of_le c9 (by omega) (by omega); omega
      refine v_iload_n hX 1 25 rfl rfl rfl ?_
      refine v_iret hX hQ rfl rfl ?_ ?_ 26 rfl
      · rw [hk2]
      · rfl
    · skip
      have hk2 : k < n := by rw [hz] at c9; exact of_nle c9 (by omega) (by omega)
      refine v_aload_n hX 0 8 rfl rfl rfl ?_
      refine v_iload_n hX 2 9 rfl rfl rfl ?_
      refine v_callV hX 1 (by have := isB_lt hb; omega) (cG_B hb) rfl (f_find_in hb hz hn hk2) tw_299 tw_296 tw_298 tw_3 tw_93 (by decide +kernel) ⟨⟨rfl, rfl⟩, Nat.le_of_ble_eq_true rfl, Nat.le_of_ble_eq_true rfl⟩ rfl (Nat.le_of_ble_eq_true rfl) rfl rfl 10 rfl ?_
      refine v_astore_n hX 3 11 rfl rfl (Nat.le_of_ble_eq_true rfl) rfl ?_
      refine v_aload_n hX 3 12 rfl rfl rfl ?_
      refine v_ifnull hX 13 rfl ?_
      refine v_aload_n hX 3 14 rfl rfl rfl ?_
      refine gN_4_6 hX 15 hb (by omega) (List.mem_of_getElem? (i := 12) rfl) rfl ?_
      refine v_if_eq hX (tgt := 35) 16 rfl (by decide) (fun c26 => ?_) (fun c26 => ?_)
      · skip
        refine v_iinc hX 23 rfl rfl (nI_inc k) (Nat.le_of_ble_eq_true rfl) rfl ?_
        refine v_goto hX (tgt := 4) 24 rfl (by decide) ?_
        exact V.sub (ih hk2) rfl ⟨rfl, (by first | rfl | (refine congrArg (fun z : Int32 => some (Value.int z)) ?_; simp [mk, c9, c26])), rfl, trivial⟩
      · skip
        refine v_iload_n hX 1 17 rfl rfl rfl ?_
        refine v_iconst hX (v := 1) 18 rfl (by decide) ?_
        refine v_iload_n hX 2 19 rfl rfl rfl ?_
        refine v_ishl hX 20 rfl ?_
        refine v_ior hX 21 rfl ?_
        refine v_istore_n hX 1 22 rfl rfl (Nat.le_of_ble_eq_true rfl) rfl ?_
        refine v_iinc hX 23 rfl rfl (nI_inc k) (Nat.le_of_ble_eq_true rfl) rfl ?_
        refine v_goto hX (tgt := 4) 24 rfl (by decide) ?_
        exact V.sub (ih hk2) rfl ⟨rfl, (by first | rfl | (refine congrArg (fun z : Int32 => some (Value.int z)) ?_; simp [mk, c9, c26])), rfl, trivial⟩
  exact V.sub (lp 0 (Nat.zero_le _)) rfl ⟨rfl, (by first | rfl | (refine congrArg (fun z : Int32 => some (Value.int z)) ?_; rfl)), rfl, trivial⟩
