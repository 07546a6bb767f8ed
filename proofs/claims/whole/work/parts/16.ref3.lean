set_option maxRecDepth 100000 in
set_option maxHeartbeats 4000000 in
theorem r_standing {Y : Yt} {M : Mm} {n : Nat} (hz : M.1 271 3 = nI n) (hn : n ≤ 24) : Fn Y yX7_standing wsX7_standing { frames := 0, cells := 0, slots := 0, locals := 0 } [.ref (Y.2.2.2 270)] M (some (.int (mk (fun i => M.1 276 i == 0) n))) M := by
  refine Fn.of (cc := cX7_standing) (ins := iX7_standing) (maxL := 3) (ret := (some .int)) (by decide) dX7_standing [some (.ref (Y.2.2.2 270)), none, none] (Nat.le_of_ble_eq_true rfl) rfl rfl ?_
  intro X hX hQ
  refine v_iconst hX (v := 0) 0 rfl (by decide) ?_
  refine v_istore_n hX 1 1 rfl rfl (Nat.le_of_ble_eq_true rfl) rfl ?_
  refine v_iconst hX (v := 0) 2 rfl (by decide) ?_
  refine v_istore_n hX 2 3 rfl rfl (Nat.le_of_ble_eq_true rfl) rfl ?_
  have lp : ∀ (k : Nat), k ≤ n → V Y X M 4 [some (.ref (Y.2.2.2 270)), some (.int (mk (fun i => M.1 276 i == 0) k)), some (.int (nI k))] [] := by
    refine upTo n (fun k hk ih => ?_)
    refine v_iload_n hX 2 4 rfl rfl rfl ?_
    refine v_aload_n hX 0 5 rfl rfl rfl ?_
    refine g_7_0 hX 6  tw_646 rfl ?_
    refine v_iconst hX (v := 3) 7 rfl (by decide) ?_
    refine v_iald hX (k := 271) (by decide) rfl (vp_in_nI (n := 3) (by decide) (by decide)) 8 rfl ?_
    refine v_icmp_ge hX (tgt := 39) 9 rfl (by decide) (fun c11 => ?_) (fun c11 => ?_)
    · skip
      have hk2 : k = n := by have h5 : M.1 271 3 ≤ nI k := c11; rw [hz] at h5; have := of_le h5 (by omega) (by omega); omega
      refine v_iload_n hX 1 25 rfl rfl rfl ?_
      refine v_iret hX hQ rfl rfl ?_ ?_ 26 rfl
      · rw [hk2]
      · rfl
    · skip
      have hk2 : k < n := by have h5 : ¬ M.1 271 3 ≤ nI k := c11; rw [hz] at h5; exact of_nle h5 (by omega) (by omega)
      refine v_iload_n hX 1 10 rfl rfl rfl ?_
      refine v_aload_n hX 0 11 rfl rfl rfl ?_
      refine g_7_7 hX 12  tw_653 rfl ?_
      refine v_iload_n hX 2 13 rfl rfl rfl ?_
      refine v_iald hX (k := 276) (by decide) rfl (vp_in_nI (by omega) (by decide)) 14 rfl ?_
      rw [nI_clamp (by omega)]
      refine v_if_ne hX (tgt := 30) 15 rfl (by decide) (fun c21 => ?_) (fun c21 => ?_)
      · skip
        have q1 : (M.1 276 k == 0) = false := by rw [beq_eq_false_iff_ne]; exact c21
        refine v_iconst hX (v := 0) 20 rfl (by decide) ?_
        refine v_ior hX 21 rfl ?_
        refine v_istore_n hX 1 22 rfl rfl (Nat.le_of_ble_eq_true rfl) rfl ?_
        refine v_iinc hX 23 rfl rfl (nI_inc k) (Nat.le_of_ble_eq_true rfl) rfl ?_
        refine v_goto hX (tgt := 4) 24 rfl (by decide) ?_
        exact V.sub (ih hk2) rfl ⟨rfl, (by first | rfl | (refine congrArg (fun z : Int32 => some (Value.int z)) ?_; rw [mk, if_neg (by rw [q1]; decide)]; exact zero_or _)), rfl, trivial⟩
      · skip
        have q1 : (M.1 276 k == 0) = true := by rw [beq_iff_eq]; exact c21
        refine v_iconst hX (v := 1) 16 rfl (by decide) ?_
        refine v_iload_n hX 2 17 rfl rfl rfl ?_
        refine v_ishl hX 18 rfl ?_
        refine v_goto hX (tgt := 31) 19 rfl (by decide) ?_
        refine v_ior hX 21 rfl ?_
        refine v_istore_n hX 1 22 rfl rfl (Nat.le_of_ble_eq_true rfl) rfl ?_
        refine v_iinc hX 23 rfl rfl (nI_inc k) (Nat.le_of_ble_eq_true rfl) rfl ?_
        refine v_goto hX (tgt := 4) 24 rfl (by decide) ?_
        exact V.sub (ih hk2) rfl ⟨rfl, (by first | rfl | (refine congrArg (fun z : Int32 => some (Value.int z)) ?_; rw [mk, if_pos q1])), rfl, trivial⟩
  exact V.sub (lp 0 (Nat.zero_le _)) rfl ⟨rfl, (by first | rfl | (refine congrArg (fun z : Int32 => some (Value.int z)) ?_; rfl)), rfl, trivial⟩
set_option maxRecDepth 100000 in
set_option maxHeartbeats 4000000 in
theorem r_claims {Y : Yt} {M : Mm} {n : Nat} (hz : M.1 271 3 = nI n) (hn : n ≤ 24) : Fn Y yX7_claims wsX7_claims { frames := 2, cells := 0, slots := 0, locals := 43 } [.ref (Y.2.2.2 270)] M (some (.int (mk (pCl (rp (M.1 271))) n))) M := by
  refine Fn.of (cc := cX7_claims) (ins := iX7_claims) (maxL := 3) (ret := (some .int)) (by decide) dX7_claims [some (.ref (Y.2.2.2 270)), none, none] (Nat.le_of_ble_eq_true rfl) rfl rfl ?_
  intro X hX hQ
  refine v_iconst hX (v := 0) 0 rfl (by decide) ?_
  refine v_istore_n hX 1 1 rfl rfl (Nat.le_of_ble_eq_true rfl) rfl ?_
  refine v_iconst hX (v := 0) 2 rfl (by decide) ?_
  refine v_istore_n hX 2 3 rfl rfl (Nat.le_of_ble_eq_true rfl) rfl ?_
  have lp : ∀ (k : Nat), k ≤ n → V Y X M 4 [some (.ref (Y.2.2.2 270)), some (.int (mk (pCl (rp (M.1 271))) k)), some (.int (nI k))] [] := by
    refine upTo n (fun k hk ih => ?_)
    refine v_iload_n hX 2 4 rfl rfl rfl ?_
    refine v_aload_n hX 0 5 rfl rfl rfl ?_
    refine g_7_0 hX 6  tw_646 rfl ?_
    refine v_iconst hX (v := 3) 7 rfl (by decide) ?_
    refine v_iald hX (k := 271) (by decide) rfl (vp_in_nI (n := 3) (by decide) (by decide)) 8 rfl ?_
    refine v_icmp_ge hX (tgt := 38) 9 rfl (by decide) (fun c11 => ?_) (fun c11 => ?_)
    · skip
      have hk2 : k = n := by have h5 : M.1 271 3 ≤ nI k := c11; rw [hz] at h5; have := of_le h5 (by omega) (by omega); omega
      refine v_iload_n hX 1 24 rfl rfl rfl ?_
      refine v_iret hX hQ rfl rfl ?_ ?_ 25 rfl
      · rw [hk2]
      · rfl
    · skip
      have hk2 : k < n := by have h5 : ¬ M.1 271 3 ≤ nI k := c11; rw [hz] at h5; exact of_nle h5 (by omega) (by omega)
      refine v_iload_n hX 1 10 rfl rfl rfl ?_
      refine v_aload_n hX 0 11 rfl rfl rfl ?_
      refine v_iload_n hX 2 12 rfl rfl rfl ?_
      refine v_callV hX 1 (by decide) rfl rfl (r_isClaim (show k < 24 by omega)) tw_781 tw_778 tw_780 tw_65 tw_99 (by decide +kernel) ⟨⟨rfl, rfl⟩, Nat.le_of_ble_eq_true rfl, Nat.le_of_ble_eq_true rfl⟩ rfl (Nat.le_of_ble_eq_true rfl) rfl rfl 13 rfl ?_
      refine v_if_eq hX (tgt := 29) 14 rfl (by decide) (fun c20 => ?_) (fun c20 => ?_)
      · skip
        have q1 := b01_f c20
        refine v_iconst hX (v := 0) 19 rfl (by decide) ?_
        refine v_ior hX 20 rfl ?_
        refine v_istore_n hX 1 21 rfl rfl (Nat.le_of_ble_eq_true rfl) rfl ?_
        refine v_iinc hX 22 rfl rfl (nI_inc k) (Nat.le_of_ble_eq_true rfl) rfl ?_
        refine v_goto hX (tgt := 4) 23 rfl (by decide) ?_
        exact V.sub (ih hk2) rfl ⟨rfl, (by first | rfl | (refine congrArg (fun z : Int32 => some (Value.int z)) ?_; rw [mk, if_neg (by rw [q1]; decide)]; exact zero_or _)), rfl, trivial⟩
      · skip
        have q1 := b01_t c20
        refine v_iconst hX (v := 1) 15 rfl (by decide) ?_
        refine v_iload_n hX 2 16 rfl rfl rfl ?_
        refine v_ishl hX 17 rfl ?_
        refine v_goto hX (tgt := 30) 18 rfl (by decide) ?_
        refine v_ior hX 20 rfl ?_
        refine v_istore_n hX 1 21 rfl rfl (Nat.le_of_ble_eq_true rfl) rfl ?_
        refine v_iinc hX 22 rfl rfl (nI_inc k) (Nat.le_of_ble_eq_true rfl) rfl ?_
        refine v_goto hX (tgt := 4) 23 rfl (by decide) ?_
        exact V.sub (ih hk2) rfl ⟨rfl, (by first | rfl | (refine congrArg (fun z : Int32 => some (Value.int z)) ?_; rw [mk, if_pos q1])), rfl, trivial⟩
  exact V.sub (lp 0 (Nat.zero_le _)) rfl ⟨rfl, (by first | rfl | (refine congrArg (fun z : Int32 => some (Value.int z)) ?_; rfl)), rfl, trivial⟩
set_option maxRecDepth 100000 in
set_option maxHeartbeats 4000000 in
theorem r_answersTo {Y : Yt} {M : Mm} {t : Int32} {n : Nat} (hz : M.1 271 3 = nI n) (hn : n ≤ 24) : Fn Y yX7_answersTo wsX7_answersTo { frames := 1, cells := 0, slots := 0, locals := 22 } [.ref (Y.2.2.2 270), .int t] M (some (.int (mk (pTo (rp (M.1 271)) t) n))) M := by
  refine Fn.of (cc := cX7_answersTo) (ins := iX7_answersTo) (maxL := 4) (ret := (some .int)) (by decide) dX7_answersTo [some (.ref (Y.2.2.2 270)), some (.int t), none, none] (Nat.le_of_ble_eq_true rfl) rfl rfl ?_
  intro X hX hQ
  refine v_iconst hX (v := 0) 0 rfl (by decide) ?_
  refine v_istore_n hX 2 1 rfl rfl (Nat.le_of_ble_eq_true rfl) rfl ?_
  refine v_iconst hX (v := 0) 2 rfl (by decide) ?_
  refine v_istore_n hX 3 3 rfl rfl (Nat.le_of_ble_eq_true rfl) rfl ?_
  have lp : ∀ (k : Nat), k ≤ n → V Y X M 4 [some (.ref (Y.2.2.2 270)), some (.int t), some (.int (mk (pTo (rp (M.1 271)) t) k)), some (.int (nI k))] [] := by
    refine upTo n (fun k hk ih => ?_)
    refine v_iload_n hX 3 4 rfl rfl rfl ?_
    refine v_aload_n hX 0 5 rfl rfl rfl ?_
    refine g_7_0 hX 6  tw_646 rfl ?_
    refine v_iconst hX (v := 3) 7 rfl (by decide) ?_
    refine v_iald hX (k := 271) (by decide) rfl (vp_in_nI (n := 3) (by decide) (by decide)) 8 rfl ?_
    refine v_icmp_ge hX (tgt := 40) 9 rfl (by decide) (fun c11 => ?_) (fun c11 => ?_)
    · skip
      have hk2 : k = n := by have h5 : M.1 271 3 ≤ nI k := c11; rw [hz] at h5; have := of_le h5 (by omega) (by omega); omega
      refine v_iload_n hX 2 26 rfl rfl rfl ?_
      refine v_iret hX hQ rfl rfl ?_ ?_ 27 rfl
      · rw [hk2]
      · rfl
    · skip
      have hk2 : k < n := by have h5 : ¬ M.1 271 3 ≤ nI k := c11; rw [hz] at h5; exact of_nle h5 (by omega) (by omega)
      refine v_iload_n hX 2 10 rfl rfl rfl ?_
      refine v_aload_n hX 0 11 rfl rfl rfl ?_
      refine v_iload_n hX 3 12 rfl rfl rfl ?_
      refine v_iconst hX (v := 4) 13 rfl (by decide) ?_
      refine v_callV hX 2 (by decide) rfl rfl (r_its (w := 4) (show k < 24 by omega) (by decide)) tw_757 tw_754 tw_756 tw_60 tw_99 (by decide +kernel) ⟨⟨rfl, rfl⟩, Nat.le_of_ble_eq_true rfl, Nat.le_of_ble_eq_true rfl⟩ rfl (Nat.le_of_ble_eq_true rfl) rfl rfl 14 rfl ?_
      refine v_iload_n hX 1 15 rfl rfl rfl ?_
      refine v_icmp_ne hX (tgt := 31) 16 rfl (by decide) (fun c22 => ?_) (fun c22 => ?_)
      · skip
        have q1 : pTo (rp (M.1 271)) t k = false := by unfold pTo; rw [beq_eq_false_iff_ne]; exact c22
        refine v_iconst hX (v := 0) 21 rfl (by decide) ?_
        refine v_ior hX 22 rfl ?_
        refine v_istore_n hX 2 23 rfl rfl (Nat.le_of_ble_eq_true rfl) rfl ?_
        refine v_iinc hX 24 rfl rfl (nI_inc k) (Nat.le_of_ble_eq_true rfl) rfl ?_
        refine v_goto hX (tgt := 4) 25 rfl (by decide) ?_
        exact V.sub (ih hk2) rfl ⟨rfl, rfl, (by first | rfl | (refine congrArg (fun z : Int32 => some (Value.int z)) ?_; rw [mk, if_neg (by rw [q1]; decide)]; exact zero_or _)), rfl, trivial⟩
      · skip
        have q1 : pTo (rp (M.1 271)) t k = true := by unfold pTo; rw [beq_iff_eq]; exact c22
        refine v_iconst hX (v := 1) 17 rfl (by decide) ?_
        refine v_iload_n hX 3 18 rfl rfl rfl ?_
        refine v_ishl hX 19 rfl ?_
        refine v_goto hX (tgt := 32) 20 rfl (by decide) ?_
        refine v_ior hX 22 rfl ?_
        refine v_istore_n hX 2 23 rfl rfl (Nat.le_of_ble_eq_true rfl) rfl ?_
        refine v_iinc hX 24 rfl rfl (nI_inc k) (Nat.le_of_ble_eq_true rfl) rfl ?_
        refine v_goto hX (tgt := 4) 25 rfl (by decide) ?_
        exact V.sub (ih hk2) rfl ⟨rfl, rfl, (by first | rfl | (refine congrArg (fun z : Int32 => some (Value.int z)) ?_; rw [mk, if_pos q1])), rfl, trivial⟩
  exact V.sub (lp 0 (Nat.zero_le _)) rfl ⟨rfl, rfl, (by first | rfl | (refine congrArg (fun z : Int32 => some (Value.int z)) ?_; rfl)), rfl, trivial⟩
set_option maxRecDepth 100000 in
set_option maxHeartbeats 4000000 in
theorem r_ofSide {Y : Yt} {M : Mm} {t : Int32} {n : Nat} (hz : M.1 271 3 = nI n) (hn : n ≤ 24) : Fn Y yX7_ofSide wsX7_ofSide { frames := 1, cells := 0, slots := 0, locals := 22 } [.ref (Y.2.2.2 270), .int t] M (some (.int (mk (pSd (rp (M.1 271)) t) n))) M := by
  refine Fn.of (cc := cX7_ofSide) (ins := iX7_ofSide) (maxL := 4) (ret := (some .int)) (by decide) dX7_ofSide [some (.ref (Y.2.2.2 270)), some (.int t), none, none] (Nat.le_of_ble_eq_true rfl) rfl rfl ?_
  intro X hX hQ
  refine v_iconst hX (v := 0) 0 rfl (by decide) ?_
  refine v_istore_n hX 2 1 rfl rfl (Nat.le_of_ble_eq_true rfl) rfl ?_
  refine v_iconst hX (v := 0) 2 rfl (by decide) ?_
  refine v_istore_n hX 3 3 rfl rfl (Nat.le_of_ble_eq_true rfl) rfl ?_
  have lp : ∀ (k : Nat), k ≤ n → V Y X M 4 [some (.ref (Y.2.2.2 270)), some (.int t), some (.int (mk (pSd (rp (M.1 271)) t) k)), some (.int (nI k))] [] := by
    refine upTo n (fun k hk ih => ?_)
    refine v_iload_n hX 3 4 rfl rfl rfl ?_
    refine v_aload_n hX 0 5 rfl rfl rfl ?_
    refine g_7_0 hX 6  tw_646 rfl ?_
    refine v_iconst hX (v := 3) 7 rfl (by decide) ?_
    refine v_iald hX (k := 271) (by decide) rfl (vp_in_nI (n := 3) (by decide) (by decide)) 8 rfl ?_
    refine v_icmp_ge hX (tgt := 40) 9 rfl (by decide) (fun c11 => ?_) (fun c11 => ?_)
    · skip
      have hk2 : k = n := by have h5 : M.1 271 3 ≤ nI k := c11; rw [hz] at h5; have := of_le h5 (by omega) (by omega); omega
      refine v_iload_n hX 2 26 rfl rfl rfl ?_
      refine v_iret hX hQ rfl rfl ?_ ?_ 27 rfl
      · rw [hk2]
      · rfl
    · skip
      have hk2 : k < n := by have h5 : ¬ M.1 271 3 ≤ nI k := c11; rw [hz] at h5; exact of_nle h5 (by omega) (by omega)
      refine v_iload_n hX 2 10 rfl rfl rfl ?_
      refine v_aload_n hX 0 11 rfl rfl rfl ?_
      refine v_iload_n hX 3 12 rfl rfl rfl ?_
      refine v_iconst hX (v := 0) 13 rfl (by decide) ?_
      refine v_callV hX 2 (by decide) rfl rfl (r_its (w := 0) (show k < 24 by omega) (by decide)) tw_757 tw_754 tw_756 tw_60 tw_99 (by decide +kernel) ⟨⟨rfl, rfl⟩, Nat.le_of_ble_eq_true rfl, Nat.le_of_ble_eq_true rfl⟩ rfl (Nat.le_of_ble_eq_true rfl) rfl rfl 14 rfl ?_
      refine v_iload_n hX 1 15 rfl rfl rfl ?_
      refine v_icmp_ne hX (tgt := 31) 16 rfl (by decide) (fun c22 => ?_) (fun c22 => ?_)
      · skip
        have q1 : pSd (rp (M.1 271)) t k = false := by unfold pSd; rw [beq_eq_false_iff_ne]; exact c22
        refine v_iconst hX (v := 0) 21 rfl (by decide) ?_
        refine v_ior hX 22 rfl ?_
        refine v_istore_n hX 2 23 rfl rfl (Nat.le_of_ble_eq_true rfl) rfl ?_
        refine v_iinc hX 24 rfl rfl (nI_inc k) (Nat.le_of_ble_eq_true rfl) rfl ?_
        refine v_goto hX (tgt := 4) 25 rfl (by decide) ?_
        exact V.sub (ih hk2) rfl ⟨rfl, rfl, (by first | rfl | (refine congrArg (fun z : Int32 => some (Value.int z)) ?_; rw [mk, if_neg (by rw [q1]; decide)]; exact zero_or _)), rfl, trivial⟩
      · skip
        have q1 : pSd (rp (M.1 271)) t k = true := by unfold pSd; rw [beq_iff_eq]; exact c22
        refine v_iconst hX (v := 1) 17 rfl (by decide) ?_
        refine v_iload_n hX 3 18 rfl rfl rfl ?_
        refine v_ishl hX 19 rfl ?_
        refine v_goto hX (tgt := 32) 20 rfl (by decide) ?_
        refine v_ior hX 22 rfl ?_
        refine v_istore_n hX 2 23 rfl rfl (Nat.le_of_ble_eq_true rfl) rfl ?_
        refine v_iinc hX 24 rfl rfl (nI_inc k) (Nat.le_of_ble_eq_true rfl) rfl ?_
        refine v_goto hX (tgt := 4) 25 rfl (by decide) ?_
        exact V.sub (ih hk2) rfl ⟨rfl, rfl, (by first | rfl | (refine congrArg (fun z : Int32 => some (Value.int z)) ?_; rw [mk, if_pos q1])), rfl, trivial⟩
  exact V.sub (lp 0 (Nat.zero_le _)) rfl ⟨rfl, rfl, (by first | rfl | (refine congrArg (fun z : Int32 => some (Value.int z)) ?_; rfl)), rfl, trivial⟩
set_option maxRecDepth 100000 in
set_option maxHeartbeats 4000000 in
theorem r_outOnes {Y : Yt} {M : Mm} {n : Nat} (hz : M.1 271 3 = nI n) (hn : n ≤ 24) : Fn Y yX7_outOnes wsX7_outOnes { frames := 1, cells := 0, slots := 0, locals := 22 } [.ref (Y.2.2.2 270)] M (some (.int (mk (fun i => inv (M.1 276 i) 1 4) n))) M := by
  refine Fn.of (cc := cX7_outOnes) (ins := iX7_outOnes) (maxL := 3) (ret := (some .int)) (by decide) dX7_outOnes [some (.ref (Y.2.2.2 270)), none, none] (Nat.le_of_ble_eq_true rfl) rfl rfl ?_
  intro X hX hQ
  refine v_iconst hX (v := 0) 0 rfl (by decide) ?_
  refine v_istore_n hX 1 1 rfl rfl (Nat.le_of_ble_eq_true rfl) rfl ?_
  refine v_iconst hX (v := 0) 2 rfl (by decide) ?_
  refine v_istore_n hX 2 3 rfl rfl (Nat.le_of_ble_eq_true rfl) rfl ?_
  have lp : ∀ (k : Nat), k ≤ n → V Y X M 4 [some (.ref (Y.2.2.2 270)), some (.int (mk (fun i => inv (M.1 276 i) 1 4) k)), some (.int (nI k))] [] := by
    refine upTo n (fun k hk ih => ?_)
    refine v_iload_n hX 2 4 rfl rfl rfl ?_
    refine v_aload_n hX 0 5 rfl rfl rfl ?_
    refine g_7_0 hX 6  tw_646 rfl ?_
    refine v_iconst hX (v := 3) 7 rfl (by decide) ?_
    refine v_iald hX (k := 271) (by decide) rfl (vp_in_nI (n := 3) (by decide) (by decide)) 8 rfl ?_
    refine v_icmp_ge hX (tgt := 44) 9 rfl (by decide) (fun c11 => ?_) (fun c11 => ?_)
    · skip
      have hk2 : k = n := by have h5 : M.1 271 3 ≤ nI k := c11; rw [hz] at h5; have := of_le h5 (by omega) (by omega); omega
      refine v_iload_n hX 1 28 rfl rfl rfl ?_
      refine v_iret hX hQ rfl rfl ?_ ?_ 29 rfl
      · rw [hk2]
      · rfl
    · skip
      have hk2 : k < n := by have h5 : ¬ M.1 271 3 ≤ nI k := c11; rw [hz] at h5; exact of_nle h5 (by omega) (by omega)
      refine v_iload_n hX 1 10 rfl rfl rfl ?_
      refine v_aload_n hX 0 11 rfl rfl rfl ?_
      refine g_7_7 hX 12  tw_653 rfl ?_
      refine v_iload_n hX 2 13 rfl rfl rfl ?_
      refine v_iald hX (k := 276) (by decide) rfl (vp_in_nI (by omega) (by decide)) 14 rfl ?_
      rw [nI_clamp (by omega)]
      refine v_iconst hX (v := 1) 15 rfl (by decide) ?_
      refine v_iconst hX (v := 4) 16 rfl (by decide) ?_
      refine v_callS hX 3 (r_in) tw_703 tw_701 tw_702 tw_99 (by decide +kernel) ⟨⟨rfl, rfl⟩, Nat.le_of_ble_eq_true rfl, Nat.le_of_ble_eq_true rfl⟩ rfl (Nat.le_of_ble_eq_true rfl) rfl rfl 17 rfl ?_
      refine v_if_eq hX (tgt := 35) 18 rfl (by decide) (fun c26 => ?_) (fun c26 => ?_)
      · skip
        have q1 := b01_f c26
        refine v_iconst hX (v := 0) 23 rfl (by decide) ?_
        refine v_ior hX 24 rfl ?_
        refine v_istore_n hX 1 25 rfl rfl (Nat.le_of_ble_eq_true rfl) rfl ?_
        refine v_iinc hX 26 rfl rfl (nI_inc k) (Nat.le_of_ble_eq_true rfl) rfl ?_
        refine v_goto hX (tgt := 4) 27 rfl (by decide) ?_
        exact V.sub (ih hk2) rfl ⟨rfl, (by first | rfl | (refine congrArg (fun z : Int32 => some (Value.int z)) ?_; rw [mk, if_neg (by rw [q1]; decide)]; exact zero_or _)), rfl, trivial⟩
      · skip
        have q1 := b01_t c26
        refine v_iconst hX (v := 1) 19 rfl (by decide) ?_
        refine v_iload_n hX 2 20 rfl rfl rfl ?_
        refine v_ishl hX 21 rfl ?_
        refine v_goto hX (tgt := 36) 22 rfl (by decide) ?_
        refine v_ior hX 24 rfl ?_
        refine v_istore_n hX 1 25 rfl rfl (Nat.le_of_ble_eq_true rfl) rfl ?_
        refine v_iinc hX 26 rfl rfl (nI_inc k) (Nat.le_of_ble_eq_true rfl) rfl ?_
        refine v_goto hX (tgt := 4) 27 rfl (by decide) ?_
        exact V.sub (ih hk2) rfl ⟨rfl, (by first | rfl | (refine congrArg (fun z : Int32 => some (Value.int z)) ?_; rw [mk, if_pos q1])), rfl, trivial⟩
  exact V.sub (lp 0 (Nat.zero_le _)) rfl ⟨rfl, (by first | rfl | (refine congrArg (fun z : Int32 => some (Value.int z)) ?_; rfl)), rfl, trivial⟩
set_option maxRecDepth 100000 in
set_option maxHeartbeats 4000000 in
theorem r_answered {Y : Yt} {M : Mm} {n : Nat} (hz : M.1 271 3 = nI n) (hn : n ≤ 24) : Fn Y yX7_answeredOnes wsX7_answeredOnes { frames := 0, cells := 0, slots := 0, locals := 0 } [.ref (Y.2.2.2 270)] M (some (.int (mk (fun i => M.1 276 i == 5) n))) M := by
  refine Fn.of (cc := cX7_answeredOnes) (ins := iX7_answeredOnes) (maxL := 3) (ret := (some .int)) (by decide) dX7_answeredOnes [some (.ref (Y.2.2.2 270)), none, none] (Nat.le_of_ble_eq_true rfl) rfl rfl ?_
  intro X hX hQ
  refine v_iconst hX (v := 0) 0 rfl (by decide) ?_
  refine v_istore_n hX 1 1 rfl rfl (Nat.le_of_ble_eq_true rfl) rfl ?_
  refine v_iconst hX (v := 0) 2 rfl (by decide) ?_
  refine v_istore_n hX 2 3 rfl rfl (Nat.le_of_ble_eq_true rfl) rfl ?_
  have lp : ∀ (k : Nat), k ≤ n → V Y X M 4 [some (.ref (Y.2.2.2 270)), some (.int (mk (fun i => M.1 276 i == 5) k)), some (.int (nI k))] [] := by
    refine upTo n (fun k hk ih => ?_)
    refine v_iload_n hX 2 4 rfl rfl rfl ?_
    refine v_aload_n hX 0 5 rfl rfl rfl ?_
    refine g_7_0 hX 6  tw_646 rfl ?_
    refine v_iconst hX (v := 3) 7 rfl (by decide) ?_
    refine v_iald hX (k := 271) (by decide) rfl (vp_in_nI (n := 3) (by decide) (by decide)) 8 rfl ?_
    refine v_icmp_ge hX (tgt := 40) 9 rfl (by decide) (fun c11 => ?_) (fun c11 => ?_)
    · skip
      have hk2 : k = n := by have h5 : M.1 271 3 ≤ nI k := c11; rw [hz] at h5; have := of_le h5 (by omega) (by omega); omega
      refine v_iload_n hX 1 26 rfl rfl rfl ?_
      refine v_iret hX hQ rfl rfl ?_ ?_ 27 rfl
      · rw [hk2]
      · rfl
    · skip
      have hk2 : k < n := by have h5 : ¬ M.1 271 3 ≤ nI k := c11; rw [hz] at h5; exact of_nle h5 (by omega) (by omega)
      refine v_iload_n hX 1 10 rfl rfl rfl ?_
      refine v_aload_n hX 0 11 rfl rfl rfl ?_
      refine g_7_7 hX 12  tw_653 rfl ?_
      refine v_iload_n hX 2 13 rfl rfl rfl ?_
      refine v_iald hX (k := 276) (by decide) rfl (vp_in_nI (by omega) (by decide)) 14 rfl ?_
      rw [nI_clamp (by omega)]
      refine v_iconst hX (v := 5) 15 rfl (by decide) ?_
      refine v_icmp_ne hX (tgt := 31) 16 rfl (by decide) (fun c22 => ?_) (fun c22 => ?_)
      · skip
        have q1 : (M.1 276 k == 5) = false := by rw [beq_eq_false_iff_ne]; exact c22
        refine v_iconst hX (v := 0) 21 rfl (by decide) ?_
        refine v_ior hX 22 rfl ?_
        refine v_istore_n hX 1 23 rfl rfl (Nat.le_of_ble_eq_true rfl) rfl ?_
        refine v_iinc hX 24 rfl rfl (nI_inc k) (Nat.le_of_ble_eq_true rfl) rfl ?_
        refine v_goto hX (tgt := 4) 25 rfl (by decide) ?_
        exact V.sub (ih hk2) rfl ⟨rfl, (by first | rfl | (refine congrArg (fun z : Int32 => some (Value.int z)) ?_; rw [mk, if_neg (by rw [q1]; decide)]; exact zero_or _)), rfl, trivial⟩
      · skip
        have q1 : (M.1 276 k == 5) = true := by rw [beq_iff_eq]; exact c22
        refine v_iconst hX (v := 1) 17 rfl (by decide) ?_
        refine v_iload_n hX 2 18 rfl rfl rfl ?_
        refine v_ishl hX 19 rfl ?_
        refine v_goto hX (tgt := 32) 20 rfl (by decide) ?_
        refine v_ior hX 22 rfl ?_
        refine v_istore_n hX 1 23 rfl rfl (Nat.le_of_ble_eq_true rfl) rfl ?_
        refine v_iinc hX 24 rfl rfl (nI_inc k) (Nat.le_of_ble_eq_true rfl) rfl ?_
        refine v_goto hX (tgt := 4) 25 rfl (by decide) ?_
        exact V.sub (ih hk2) rfl ⟨rfl, (by first | rfl | (refine congrArg (fun z : Int32 => some (Value.int z)) ?_; rw [mk, if_pos q1])), rfl, trivial⟩
  exact V.sub (lp 0 (Nat.zero_le _)) rfl ⟨rfl, (by first | rfl | (refine congrArg (fun z : Int32 => some (Value.int z)) ?_; rfl)), rfl, trivial⟩
set_option maxRecDepth 100000 in
set_option maxHeartbeats 4000000 in
theorem r_isValue {Y : Yt} {M : Mm} {s v : Int32} : Fn Y yX7_isValue wsX7_isValue { frames := 1, cells := 0, slots := 0, locals := 22 } [.int s, .int v] M (some (.int (b01 (isV s v)))) M := by
  refine Fn.of (cc := cX7_isValue) (ins := iX7_isValue) (maxL := 2) (ret := (some .boolean)) (by decide) dX7_isValue [some (.int s), some (.int v)] (Nat.le_of_ble_eq_true rfl) rfl rfl ?_
  intro X hX hQ
  refine v_iload_n hX 0 0 rfl rfl rfl ?_
  refine v_if_ne hX (tgt := 14) 1 rfl (by decide) (fun c1 => ?_) (fun c1 => ?_)
  · skip
    refine v_iload_n hX 1 7 rfl rfl rfl ?_
    refine v_iconst hX (v := 1) 8 rfl (by decide) ?_
    refine v_bipush hX (v := 99) 9 rfl (by decide) ?_
    refine v_callS hX 3 (r_in) tw_703 tw_701 tw_702 tw_99 (by decide +kernel) ⟨⟨rfl, rfl⟩, Nat.le_of_ble_eq_true rfl, Nat.le_of_ble_eq_true rfl⟩ rfl (Nat.le_of_ble_eq_true rfl) rfl rfl 10 rfl ?_
    refine v_iret hX hQ rfl (nar_b (b01_v _)) ?_ ?_ 11 rfl
    · simp only [isV, c1, if_true, if_false]
    · rfl
  · skip
    refine v_iload_n hX 1 2 rfl rfl rfl ?_
    refine v_iconst hX (v := 1) 3 rfl (by decide) ?_
    refine v_bipush hX (v := 60) 4 rfl (by decide) ?_
    refine v_callS hX 3 (r_in) tw_703 tw_701 tw_702 tw_99 (by decide +kernel) ⟨⟨rfl, rfl⟩, Nat.le_of_ble_eq_true rfl, Nat.le_of_ble_eq_true rfl⟩ rfl (Nat.le_of_ble_eq_true rfl) rfl rfl 5 rfl ?_
    refine v_goto hX (tgt := 21) 6 rfl (by decide) ?_
    refine v_iret hX hQ rfl (nar_b (b01_v _)) ?_ ?_ 11 rfl
    · simp only [isV, c1, if_true, if_false]
    · rfl
set_option maxRecDepth 100000 in
set_option maxHeartbeats 4000000 in
theorem r_isFile {Y : Yt} {M : Mm} {p c : Int32} : Fn Y yX7_isFile wsX7_isFile { frames := 1, cells := 0, slots := 0, locals := 22 } [.int p, .int c] M (some (.int (b01 (isF p c)))) M := by
  refine Fn.of (cc := cX7_isFile) (ins := iX7_isFile) (maxL := 2) (ret := (some .boolean)) (by decide) dX7_isFile [some (.int p), some (.int c)] (Nat.le_of_ble_eq_true rfl) rfl rfl ?_
  intro X hX hQ
  refine v_iload_n hX 0 0 rfl rfl rfl ?_
  refine v_iconst hX (v := 1) 1 rfl (by decide) ?_
  refine v_bipush hX (v := 9) 2 rfl (by decide) ?_
  refine v_callS hX 3 (r_in) tw_703 tw_701 tw_702 tw_99 (by decide +kernel) ⟨⟨rfl, rfl⟩, Nat.le_of_ble_eq_true rfl, Nat.le_of_ble_eq_true rfl⟩ rfl (Nat.le_of_ble_eq_true rfl) rfl rfl 3 rfl ?_
  refine v_if_eq hX (tgt := 25) 4 rfl (by decide) (fun c7 => ?_) (fun c7 => ?_)
  · skip
    have q1 := b01_f c7
    refine v_iconst hX (v := 0) 12 rfl (by decide) ?_
    refine v_iret hX hQ rfl rfl ?_ ?_ 13 rfl
    · unfold isF; rw [q1]; first | rfl | (rw [q2]; rfl)
    · rfl
  · skip
    have q1 := b01_t c7
    refine v_iload_n hX 1 5 rfl rfl rfl ?_
    refine v_iconst hX (v := 0) 6 rfl (by decide) ?_
    refine v_sipush hX (v := 1023) 7 rfl (by decide) ?_
    refine v_callS hX 3 (r_in) tw_703 tw_701 tw_702 tw_99 (by decide +kernel) ⟨⟨rfl, rfl⟩, Nat.le_of_ble_eq_true rfl, Nat.le_of_ble_eq_true rfl⟩ rfl (Nat.le_of_ble_eq_true rfl) rfl rfl 8 rfl ?_
    refine v_if_eq hX (tgt := 25) 9 rfl (by decide) (fun c18 => ?_) (fun c18 => ?_)
    · skip
      have q2 := b01_f c18
      refine v_iconst hX (v := 0) 12 rfl (by decide) ?_
      refine v_iret hX hQ rfl rfl ?_ ?_ 13 rfl
      · unfold isF; rw [q1]; first | rfl | (rw [q2]; rfl)
      · rfl
    · skip
      have q2 := b01_t c18
      refine v_iconst hX (v := 1) 10 rfl (by decide) ?_
      refine v_goto hX (tgt := 26) 11 rfl (by decide) ?_
      refine v_iret hX hQ rfl rfl ?_ ?_ 13 rfl
      · unfold isF; rw [q1]; first | rfl | (rw [q2]; rfl)
      · rfl
set_option maxRecDepth 100000 in
set_option maxHeartbeats 4000000 in
theorem r_wnC {Y : Yt} {M : Mm} {s p c : Int32} {n : Nat} (hz : M.1 271 3 = nI n) (hn : n ≤ 24) : Fn Y yX7_whyNotClaim wsX7_whyNotClaim { frames := 2, cells := 0, slots := 0, locals := 43 } [.ref (Y.2.2.2 270), .int s, .int p, .int c] M (some (.int (wnC n s p c))) M := by
  refine Fn.of (cc := cX7_whyNotClaim) (ins := iX7_whyNotClaim) (maxL := 4) (ret := (some .int)) (by decide) dX7_whyNotClaim [some (.ref (Y.2.2.2 270)), some (.int s), some (.int p), some (.int c)] (Nat.le_of_ble_eq_true rfl) rfl rfl ?_
  intro X hX hQ
  refine v_iload_n hX 1 0 rfl rfl rfl ?_
  refine v_iconst hX (v := 0) 1 rfl (by decide) ?_
  refine v_iconst hX (v := 1) 2 rfl (by decide) ?_
  refine v_callS hX 3 (r_in) tw_703 tw_701 tw_702 tw_99 (by decide +kernel) ⟨⟨rfl, rfl⟩, Nat.le_of_ble_eq_true rfl, Nat.le_of_ble_eq_true rfl⟩ rfl (Nat.le_of_ble_eq_true rfl) rfl rfl 3 rfl ?_
  refine v_if_eq hX (tgt := 17) 4 rfl (by decide) (fun c6 => ?_) (fun c6 => ?_)
  · skip
    have q1 := b01_f c6
    refine v_bipush hX (v := (-2)) 9 rfl (by decide) ?_
    refine v_goto hX (tgt := 39) 10 rfl (by decide) ?_
    refine v_iret hX hQ rfl rfl ?_ ?_ 20 rfl
    · simp (decide := true) only [wnC, *, if_true, if_false, and_self, and_true, true_and, false_and, and_false, reduceCtorEq]
    · rfl
  · skip
    have q1 := b01_t c6
    refine v_iload_n hX 2 5 rfl rfl rfl ?_
    refine v_iload_n hX 3 6 rfl rfl rfl ?_
    refine v_callS hX 2 (r_isFile) tw_729 tw_727 tw_728 tw_99 (by decide +kernel) ⟨⟨rfl, rfl⟩, Nat.le_of_ble_eq_true rfl, Nat.le_of_ble_eq_true rfl⟩ rfl (Nat.le_of_ble_eq_true rfl) rfl rfl 7 rfl ?_
    refine v_if_ne hX (tgt := 22) 8 rfl (by decide) (fun c14 => ?_) (fun c14 => ?_)
    · skip
      have q2 := b01_t c14
      refine v_aload_n hX 0 11 rfl rfl rfl ?_
      refine g_7_0 hX 12  tw_646 rfl ?_
      refine v_iconst hX (v := 3) 13 rfl (by decide) ?_
      refine v_iald hX (k := 271) (by decide) rfl (vp_in_nI (n := 3) (by decide) (by decide)) 14 rfl ?_
      refine v_bipush hX (v := 24) 15 rfl (by decide) ?_
      refine v_icmp_ne hX (tgt := 38) 16 rfl (by decide) (fun c30 => ?_) (fun c30 => ?_)
      · skip
        have h24 : ¬ n = 24 := fun e => c30 (by show M.1 271 3 = 24; rw [hz, e]; rfl)
        refine v_iconst hX (v := 0) 19 rfl (by decide) ?_
        refine v_iret hX hQ rfl rfl ?_ ?_ 20 rfl
        · simp (decide := true) only [wnC, *, if_true, if_false, and_self, and_true, true_and, false_and, and_false, reduceCtorEq]
        · rfl
      · skip
        have h24 : n = 24 := by have h5 : M.1 271 3 = nI 24 := c30; rw [hz] at h5; exact (nI_eq (by omega) (by omega)).mp h5
        refine v_bipush hX (v := (-4)) 17 rfl (by decide) ?_
        refine v_goto hX (tgt := 39) 18 rfl (by decide) ?_
        refine v_iret hX hQ rfl rfl ?_ ?_ 20 rfl
        · simp (decide := true) only [wnC, *, if_true, if_false, and_self, and_true, true_and, false_and, and_false, reduceCtorEq]
        · rfl
    · skip
      have q2 := b01_f c14
      refine v_bipush hX (v := (-2)) 9 rfl (by decide) ?_
      refine v_goto hX (tgt := 39) 10 rfl (by decide) ?_
      refine v_iret hX hQ rfl rfl ?_ ?_ 20 rfl
      · simp (decide := true) only [wnC, *, if_true, if_false, and_self, and_true, true_and, false_and, and_false, reduceCtorEq]
      · rfl
set_option maxRecDepth 100000 in
set_option maxHeartbeats 4000000 in
theorem r_wnA_no {Y : Yt} {M : Mm} {x p c : Int32} {n : Nat} (hz : M.1 271 3 = nI n) (hx : x < 0 ∨ nI n ≤ x) : Fn Y yX7_whyNotAnswer wsX7_whyNotAnswer { frames := 2, cells := 0, slots := 0, locals := 43 } [.ref (Y.2.2.2 270), .int x, .int p, .int c] M (some (.int (-1))) M := by
  refine Fn.of (cc := cX7_whyNotAnswer) (ins := iX7_whyNotAnswer) (maxL := 4) (ret := (some .int)) (by decide) dX7_whyNotAnswer [some (.ref (Y.2.2.2 270)), some (.int x), some (.int p), some (.int c)] (Nat.le_of_ble_eq_true rfl) rfl rfl ?_
  intro X hX hQ
  refine v_aload_n hX 0 0 rfl rfl rfl ?_
  refine v_iload_n hX 1 1 rfl rfl rfl ?_
  refine v_callV hX 1 (by decide) rfl rfl (r_isPoint_no hz hx) tw_749 tw_746 tw_748 tw_58 tw_99 (by decide +kernel) ⟨⟨rfl, rfl⟩, Nat.le_of_ble_eq_true rfl, Nat.le_of_ble_eq_true rfl⟩ rfl (Nat.le_of_ble_eq_true rfl) rfl rfl 2 rfl ?_
  refine v_if_ne hX (tgt := 10) 3 rfl (by decide) (fun c5 => absurd c5 (fun h => h rfl)) (fun c5 => ?_)
  refine v_iconst hX (v := (-1)) 4 rfl (by decide) ?_
  refine v_iret hX hQ rfl rfl ?_ ?_ 5 rfl
  · rfl
  · rfl
set_option maxRecDepth 100000 in
set_option maxHeartbeats 4000000 in
theorem r_wnA {Y : Yt} {M : Mm} {p c : Int32} {i : Nat} {n : Nat} (hz : M.1 271 3 = nI n) (hn : n ≤ 24) (hi : i < n) : Fn Y yX7_whyNotAnswer wsX7_whyNotAnswer { frames := 2, cells := 0, slots := 0, locals := 43 } [.ref (Y.2.2.2 270), .int (nI i), .int p, .int c] M (some (.int (wnA (M.1 271) n i p c))) M := by
  refine Fn.of (cc := cX7_whyNotAnswer) (ins := iX7_whyNotAnswer) (maxL := 4) (ret := (some .int)) (by decide) dX7_whyNotAnswer [some (.ref (Y.2.2.2 270)), some (.int (nI i)), some (.int p), some (.int c)] (Nat.le_of_ble_eq_true rfl) rfl rfl ?_
  intro X hX hQ
  refine v_aload_n hX 0 0 rfl rfl rfl ?_
  refine v_iload_n hX 1 1 rfl rfl rfl ?_
  refine v_callV hX 1 (by decide) rfl rfl (r_isPoint hz hn hi) tw_749 tw_746 tw_748 tw_58 tw_99 (by decide +kernel) ⟨⟨rfl, rfl⟩, Nat.le_of_ble_eq_true rfl, Nat.le_of_ble_eq_true rfl⟩ rfl (Nat.le_of_ble_eq_true rfl) rfl rfl 2 rfl ?_
  refine v_if_ne hX (tgt := 10) 3 rfl (by decide) (fun c5 => ?_) (fun c5 => absurd c5 (by decide))
  refine v_iload_n hX 2 6 rfl rfl rfl ?_
  refine v_iload_n hX 3 7 rfl rfl rfl ?_
  refine v_callS hX 2 (r_isFile) tw_729 tw_727 tw_728 tw_99 (by decide +kernel) ⟨⟨rfl, rfl⟩, Nat.le_of_ble_eq_true rfl, Nat.le_of_ble_eq_true rfl⟩ rfl (Nat.le_of_ble_eq_true rfl) rfl rfl 8 rfl ?_
  refine v_if_ne hX (tgt := 23) 9 rfl (by decide) (fun c15 => ?_) (fun c15 => ?_)
  · skip
    have q1 := b01_t c15
    refine v_aload_n hX 0 12 rfl rfl rfl ?_
    refine g_7_0 hX 13  tw_646 rfl ?_
    refine v_iconst hX (v := 3) 14 rfl (by decide) ?_
    refine v_iald hX (k := 271) (by decide) rfl (vp_in_nI (n := 3) (by decide) (by decide)) 15 rfl ?_
    refine v_bipush hX (v := 24) 16 rfl (by decide) ?_
    refine v_icmp_ne hX (tgt := 39) 17 rfl (by decide) (fun c31 => ?_) (fun c31 => ?_)
    · skip
      have h24 : ¬ n = 24 := fun e => c31 (by show M.1 271 3 = 24; rw [hz, e]; rfl)
      refine v_aload_n hX 0 20 rfl rfl rfl ?_
      refine v_iload_n hX 1 21 rfl rfl rfl ?_
      refine v_callV hX 1 (by decide) rfl rfl (r_isWd (show i < 24 by omega)) tw_753 tw_750 tw_752 tw_59 tw_99 (by decide +kernel) ⟨⟨rfl, rfl⟩, Nat.le_of_ble_eq_true rfl, Nat.le_of_ble_eq_true rfl⟩ rfl (Nat.le_of_ble_eq_true rfl) rfl rfl 22 rfl ?_
      refine v_if_eq hX (tgt := 52) 23 rfl (by decide) (fun c44 => ?_) (fun c44 => ?_)
      · skip
        have q2 := b01_f c44
        refine v_iconst hX (v := 0) 26 rfl (by decide) ?_
        refine v_iret hX hQ rfl rfl ?_ ?_ 27 rfl
        · simp (decide := true) only [wnA, *, if_true, if_false, reduceCtorEq]
        · rfl
      · skip
        have q2 := b01_t c44
        refine v_bipush hX (v := (-5)) 24 rfl (by decide) ?_
        refine v_goto hX (tgt := 53) 25 rfl (by decide) ?_
        refine v_iret hX hQ rfl rfl ?_ ?_ 27 rfl
        · simp (decide := true) only [wnA, *, if_true, if_false, reduceCtorEq]
        · rfl
    · skip
      have h24 : n = 24 := by have h5 : M.1 271 3 = nI 24 := c31; rw [hz] at h5; exact (nI_eq (by omega) (by omega)).mp h5
      refine v_bipush hX (v := (-4)) 18 rfl (by decide) ?_
      refine v_goto hX (tgt := 53) 19 rfl (by decide) ?_
      refine v_iret hX hQ rfl rfl ?_ ?_ 27 rfl
      · simp (decide := true) only [wnA, *, if_true, if_false, reduceCtorEq]
      · rfl
  · skip
    have q1 := b01_f c15
    refine v_bipush hX (v := (-2)) 10 rfl (by decide) ?_
    refine v_goto hX (tgt := 53) 11 rfl (by decide) ?_
    refine v_iret hX hQ rfl rfl ?_ ?_ 27 rfl
    · simp (decide := true) only [wnA, *, if_true, if_false, reduceCtorEq]
    · rfl
set_option maxRecDepth 100000 in
set_option maxHeartbeats 4000000 in
theorem r_wnW_no {Y : Yt} {M : Mm} {x : Int32} {n : Nat} (hz : M.1 271 3 = nI n) (hx : x < 0 ∨ nI n ≤ x) : Fn Y yX7_whyNotWithdraw wsX7_whyNotWithdraw { frames := 2, cells := 0, slots := 0, locals := 43 } [.ref (Y.2.2.2 270), .int x] M (some (.int (-1))) M := by
  refine Fn.of (cc := cX7_whyNotWithdraw) (ins := iX7_whyNotWithdraw) (maxL := 2) (ret := (some .int)) (by decide) dX7_whyNotWithdraw [some (.ref (Y.2.2.2 270)), some (.int x)] (Nat.le_of_ble_eq_true rfl) rfl rfl ?_
  intro X hX hQ
  refine v_aload_n hX 0 0 rfl rfl rfl ?_
  refine v_iload_n hX 1 1 rfl rfl rfl ?_
  refine v_callV hX 1 (by decide) rfl rfl (r_isPoint_no hz hx) tw_749 tw_746 tw_748 tw_58 tw_99 (by decide +kernel) ⟨⟨rfl, rfl⟩, Nat.le_of_ble_eq_true rfl, Nat.le_of_ble_eq_true rfl⟩ rfl (Nat.le_of_ble_eq_true rfl) rfl rfl 2 rfl ?_
  refine v_if_ne hX (tgt := 12) 3 rfl (by decide) (fun c5 => absurd c5 (fun h => h rfl)) (fun c5 => ?_)
  refine v_iconst hX (v := (-1)) 4 rfl (by decide) ?_
  refine v_goto hX (tgt := 26) 5 rfl (by decide) ?_
  refine v_iret hX hQ rfl rfl ?_ ?_ 13 rfl
  · rfl
  · rfl
set_option maxRecDepth 100000 in
set_option maxHeartbeats 4000000 in
theorem r_wnW {Y : Yt} {M : Mm} {i : Nat} {n : Nat} (hz : M.1 271 3 = nI n) (hn : n ≤ 24) (hi : i < n) : Fn Y yX7_whyNotWithdraw wsX7_whyNotWithdraw { frames := 2, cells := 0, slots := 0, locals := 43 } [.ref (Y.2.2.2 270), .int (nI i)] M (some (.int (wnW (M.1 271) i))) M := by
  refine Fn.of (cc := cX7_whyNotWithdraw) (ins := iX7_whyNotWithdraw) (maxL := 2) (ret := (some .int)) (by decide) dX7_whyNotWithdraw [some (.ref (Y.2.2.2 270)), some (.int (nI i))] (Nat.le_of_ble_eq_true rfl) rfl rfl ?_
  intro X hX hQ
  refine v_aload_n hX 0 0 rfl rfl rfl ?_
  refine v_iload_n hX 1 1 rfl rfl rfl ?_
  refine v_callV hX 1 (by decide) rfl rfl (r_isPoint hz hn hi) tw_749 tw_746 tw_748 tw_58 tw_99 (by decide +kernel) ⟨⟨rfl, rfl⟩, Nat.le_of_ble_eq_true rfl, Nat.le_of_ble_eq_true rfl⟩ rfl (Nat.le_of_ble_eq_true rfl) rfl rfl 2 rfl ?_
  refine v_if_ne hX (tgt := 12) 3 rfl (by decide) (fun c5 => ?_) (fun c5 => absurd c5 (by decide))
  refine v_aload_n hX 0 6 rfl rfl rfl ?_
  refine v_iload_n hX 1 7 rfl rfl rfl ?_
  refine v_callV hX 1 (by decide) rfl rfl (r_isWd (show i < 24 by omega)) tw_753 tw_750 tw_752 tw_59 tw_99 (by decide +kernel) ⟨⟨rfl, rfl⟩, Nat.le_of_ble_eq_true rfl, Nat.le_of_ble_eq_true rfl⟩ rfl (Nat.le_of_ble_eq_true rfl) rfl rfl 8 rfl ?_
  refine v_if_eq hX (tgt := 25) 9 rfl (by decide) (fun c17 => ?_) (fun c17 => ?_)
  · skip
    have q1 := b01_f c17
    refine v_iconst hX (v := 0) 12 rfl (by decide) ?_
    refine v_iret hX hQ rfl rfl ?_ ?_ 13 rfl
    · simp only [wnW, q1, if_true, if_false, reduceCtorEq]
    · rfl
  · skip
    have q1 := b01_t c17
    refine v_bipush hX (v := (-5)) 10 rfl (by decide) ?_
    refine v_goto hX (tgt := 26) 11 rfl (by decide) ?_
    refine v_iret hX hQ rfl rfl ?_ ?_ 13 rfl
    · simp only [wnW, q1, if_true, if_false, reduceCtorEq]
    · rfl
set_option maxRecDepth 100000 in
set_option maxHeartbeats 4000000 in
theorem r_wnR_no {Y : Yt} {M : Mm} {x : Int32} {n : Nat} (hz : M.1 271 3 = nI n) (hx : x < 0 ∨ nI n ≤ x) : Fn Y yX7_whyNotRenew wsX7_whyNotRenew { frames := 2, cells := 0, slots := 0, locals := 43 } [.ref (Y.2.2.2 270), .int x] M (some (.int (-1))) M := by
  refine Fn.of (cc := cX7_whyNotRenew) (ins := iX7_whyNotRenew) (maxL := 2) (ret := (some .int)) (by decide) dX7_whyNotRenew [some (.ref (Y.2.2.2 270)), some (.int x)] (Nat.le_of_ble_eq_true rfl) rfl rfl ?_
  intro X hX hQ
  refine v_aload_n hX 0 0 rfl rfl rfl ?_
  refine v_iload_n hX 1 1 rfl rfl rfl ?_
  refine v_callV hX 1 (by decide) rfl rfl (r_isPoint_no hz hx) tw_749 tw_746 tw_748 tw_58 tw_99 (by decide +kernel) ⟨⟨rfl, rfl⟩, Nat.le_of_ble_eq_true rfl, Nat.le_of_ble_eq_true rfl⟩ rfl (Nat.le_of_ble_eq_true rfl) rfl rfl 2 rfl ?_
  refine v_if_ne hX (tgt := 12) 3 rfl (by decide) (fun c5 => absurd c5 (fun h => h rfl)) (fun c5 => ?_)
  refine v_iconst hX (v := (-1)) 4 rfl (by decide) ?_
  refine v_goto hX (tgt := 34) 5 rfl (by decide) ?_
  refine v_iret hX hQ rfl rfl ?_ ?_ 17 rfl
  · rfl
  · rfl
set_option maxRecDepth 100000 in
set_option maxHeartbeats 4000000 in
theorem r_wnR {Y : Yt} {M : Mm} {i : Nat} {n : Nat} (hz : M.1 271 3 = nI n) (hn : n ≤ 24) (hi : i < n) : Fn Y yX7_whyNotRenew wsX7_whyNotRenew { frames := 2, cells := 0, slots := 0, locals := 43 } [.ref (Y.2.2.2 270), .int (nI i)] M (some (.int (wnR (M.1 271) i))) M := by
  refine Fn.of (cc := cX7_whyNotRenew) (ins := iX7_whyNotRenew) (maxL := 2) (ret := (some .int)) (by decide) dX7_whyNotRenew [some (.ref (Y.2.2.2 270)), some (.int (nI i))] (Nat.le_of_ble_eq_true rfl) rfl rfl ?_
  intro X hX hQ
  refine v_aload_n hX 0 0 rfl rfl rfl ?_
  refine v_iload_n hX 1 1 rfl rfl rfl ?_
  refine v_callV hX 1 (by decide) rfl rfl (r_isPoint hz hn hi) tw_749 tw_746 tw_748 tw_58 tw_99 (by decide +kernel) ⟨⟨rfl, rfl⟩, Nat.le_of_ble_eq_true rfl, Nat.le_of_ble_eq_true rfl⟩ rfl (Nat.le_of_ble_eq_true rfl) rfl rfl 2 rfl ?_
  refine v_if_ne hX (tgt := 12) 3 rfl (by decide) (fun c5 => ?_) (fun c5 => absurd c5 (by decide))
  refine v_aload_n hX 0 6 rfl rfl rfl ?_
  refine v_iload_n hX 1 7 rfl rfl rfl ?_
  refine v_callV hX 1 (by decide) rfl rfl (r_isClaim (show i < 24 by omega)) tw_781 tw_778 tw_780 tw_65 tw_99 (by decide +kernel) ⟨⟨rfl, rfl⟩, Nat.le_of_ble_eq_true rfl, Nat.le_of_ble_eq_true rfl⟩ rfl (Nat.le_of_ble_eq_true rfl) rfl rfl 8 rfl ?_
  refine v_if_ne hX (tgt := 28) 9 rfl (by decide) (fun c17 => ?_) (fun c17 => ?_)
  · skip
    have q1 := b01_t c17
    refine v_bipush hX (v := (-5)) 14 rfl (by decide) ?_
    refine v_goto hX (tgt := 34) 15 rfl (by decide) ?_
    refine v_iret hX hQ rfl rfl ?_ ?_ 17 rfl
    · first | (rw [wnR, if_pos (Or.inl q1)]; done) | (rw [wnR, if_pos (Or.inr q2)]; done) | (simp only [wnR, q1, q2]; rfl)
    · rfl
  · skip
    have q1 := b01_f c17
    refine v_aload_n hX 0 10 rfl rfl rfl ?_
    refine v_iload_n hX 1 11 rfl rfl rfl ?_
    refine v_callV hX 1 (by decide) rfl rfl (r_isWd (show i < 24 by omega)) tw_753 tw_750 tw_752 tw_59 tw_99 (by decide +kernel) ⟨⟨rfl, rfl⟩, Nat.le_of_ble_eq_true rfl, Nat.le_of_ble_eq_true rfl⟩ rfl (Nat.le_of_ble_eq_true rfl) rfl rfl 12 rfl ?_
    refine v_if_eq hX (tgt := 33) 13 rfl (by decide) (fun c25 => ?_) (fun c25 => ?_)
    · skip
      have q2 := b01_f c25
      refine v_iconst hX (v := 0) 16 rfl (by decide) ?_
      refine v_iret hX hQ rfl rfl ?_ ?_ 17 rfl
      · first | (rw [wnR, if_pos (Or.inl q1)]; done) | (rw [wnR, if_pos (Or.inr q2)]; done) | (simp only [wnR, q1, q2]; rfl)
      · rfl
    · skip
      have q2 := b01_t c25
      refine v_bipush hX (v := (-5)) 14 rfl (by decide) ?_
      refine v_goto hX (tgt := 34) 15 rfl (by decide) ?_
      refine v_iret hX hQ rfl rfl ?_ ?_ 17 rfl
      · first | (rw [wnR, if_pos (Or.inl q1)]; done) | (rw [wnR, if_pos (Or.inr q2)]; done) | (simp only [wnR, q1, q2]; rfl)
      · rfl
set_option maxRecDepth 100000 in
set_option maxHeartbeats 4000000 in
theorem r_wnP {Y : Yt} {M : Mm} {d : Int32} : Fn Y yX7_whyNotPass wsX7_whyNotPass { frames := 1, cells := 0, slots := 0, locals := 22 } [.ref (Y.2.2.2 270), .int d] M (some (.int (wnP (M.1 271) d))) M := by
  refine Fn.of (cc := cX7_whyNotPass) (ins := iX7_whyNotPass) (maxL := 2) (ret := (some .int)) (by decide) dX7_whyNotPass [some (.ref (Y.2.2.2 270)), some (.int d)] (Nat.le_of_ble_eq_true rfl) rfl rfl ?_
  intro X hX hQ
  refine v_iload_n hX 1 0 rfl rfl rfl ?_
  refine v_iconst hX (v := 1) 1 rfl (by decide) ?_
  refine v_bipush hX (v := 99) 2 rfl (by decide) ?_
  refine v_callS hX 3 (r_in) tw_703 tw_701 tw_702 tw_99 (by decide +kernel) ⟨⟨rfl, rfl⟩, Nat.le_of_ble_eq_true rfl, Nat.le_of_ble_eq_true rfl⟩ rfl (Nat.le_of_ble_eq_true rfl) rfl rfl 3 rfl ?_
  refine v_if_ne hX (tgt := 15) 4 rfl (by decide) (fun c7 => ?_) (fun c7 => ?_)
  · skip
    have q1 := b01_t c7
    refine v_aload_n hX 0 7 rfl rfl rfl ?_
    refine g_7_0 hX 8  tw_646 rfl ?_
    refine v_iconst hX (v := 2) 9 rfl (by decide) ?_
    refine v_iald hX (k := 271) (by decide) rfl (vp_in_nI (n := 2) (by decide) (by decide)) 10 rfl ?_
    refine v_iload_n hX 1 11 rfl rfl rfl ?_
    refine v_iadd hX 12 rfl ?_
    refine v_sipush hX (v := 999) 13 rfl (by decide) ?_
    refine v_icmp_le hX (tgt := 34) 14 rfl (by decide) (fun c26 => ?_) (fun c26 => ?_)
    · skip
      have q2 : M.1 271 2 + d ≤ 999 := c26
      refine v_iconst hX (v := 0) 17 rfl (by decide) ?_
      refine v_iret hX hQ rfl rfl ?_ ?_ 18 rfl
      · simp only [wnP, *, if_true, if_false, reduceCtorEq]
      · rfl
    · skip
      have q2 : ¬ M.1 271 2 + d ≤ 999 := c26
      refine v_bipush hX (v := (-5)) 15 rfl (by decide) ?_
      refine v_goto hX (tgt := 35) 16 rfl (by decide) ?_
      refine v_iret hX hQ rfl rfl ?_ ?_ 18 rfl
      · simp only [wnP, *, if_true, if_false, reduceCtorEq]
      · rfl
  · skip
    have q1 := b01_f c7
    refine v_bipush hX (v := (-2)) 5 rfl (by decide) ?_
    refine v_goto hX (tgt := 35) 6 rfl (by decide) ?_
    refine v_iret hX hQ rfl rfl ?_ ?_ 18 rfl
    · simp only [wnP, *, if_true, if_false, reduceCtorEq]
    · rfl
set_option maxRecDepth 100000 in
set_option maxHeartbeats 4000000 in
theorem r_file {Y : Yt} {M : Mm} {s t p c : Int32} {n : Nat} (hz : M.1 271 3 = nI n) (hn : n < 24) : Fn Y yX7_file wsX7_file { frames := 1, cells := 0, slots := 0, locals := 23 } [.ref (Y.2.2.2 270), .int s, .int t, .int p, .int c] M (some (.int (nI n))) ((flM M n s t p c)) := by
  refine Fn.of (cc := cX7_file) (ins := iX7_file) (maxL := 6) (ret := (some .int)) (by decide) dX7_file [some (.ref (Y.2.2.2 270)), some (.int s), some (.int t), some (.int p), some (.int c), none] (Nat.le_of_ble_eq_true rfl) rfl rfl ?_
  intro X hX hQ
  refine v_aload_n hX 0 0 rfl rfl rfl ?_
  refine g_7_0 hX 1  tw_646 rfl ?_
  refine v_iconst hX (v := 3) 2 rfl (by decide) ?_
  refine v_iald hX (k := 271) (by decide) rfl (vp_in_nI (n := 3) (by decide) (by decide)) 3 rfl ?_
  rw [show M.1 271 (Int32.toNatClampNeg 3) = nI n from hz]
  refine v_istore hX 4 rfl (Nat.le_of_ble_eq_true rfl) rfl ?_
  refine v_aload_n hX 0 5 rfl rfl rfl ?_
  refine v_iload hX 6 rfl rfl ?_
  refine v_iconst hX (v := 0) 7 rfl (by decide) ?_
  refine v_iload_n hX 1 8 rfl rfl rfl ?_
  refine v_callV hX 3 (by decide) rfl rfl (r_lay (w := 0) hn (by decide)) tw_737 tw_734 tw_736 tw_56 tw_99 (by decide +kernel) ⟨⟨rfl, rfl⟩, Nat.le_of_ble_eq_true rfl, Nat.le_of_ble_eq_true rfl⟩ rfl (Nat.le_of_ble_eq_true rfl) rfl rfl 9 rfl ?_
  refine v_aload_n hX 0 10 rfl rfl rfl ?_
  refine v_iload hX 11 rfl rfl ?_
  refine v_iconst hX (v := 1) 12 rfl (by decide) ?_
  refine v_iload_n hX 3 13 rfl rfl rfl ?_
  refine v_callV hX 3 (by decide) rfl rfl (r_lay (w := 1) hn (by decide)) tw_737 tw_734 tw_736 tw_56 tw_99 (by decide +kernel) ⟨⟨rfl, rfl⟩, Nat.le_of_ble_eq_true rfl, Nat.le_of_ble_eq_true rfl⟩ rfl (Nat.le_of_ble_eq_true rfl) rfl rfl 14 rfl ?_
  refine v_aload_n hX 0 15 rfl rfl rfl ?_
  refine v_iload hX 16 rfl rfl ?_
  refine v_iconst hX (v := 2) 17 rfl (by decide) ?_
  refine v_aload_n hX 0 18 rfl rfl rfl ?_
  refine g_7_0 hX 19  tw_646 rfl ?_
  refine v_iconst hX (v := 2) 20 rfl (by decide) ?_
  refine v_iald hX (k := 271) (by decide) rfl (vp_in_nI (n := 2) (by decide) (by decide)) 21 rfl ?_
  rw [show Int32.toNatClampNeg 2 = 2 from rfl, mset_271 (by omega), mset_271 (by omega)]
  refine v_callV hX 3 (by decide) rfl rfl (r_lay (w := 2) hn (by decide)) tw_737 tw_734 tw_736 tw_56 tw_99 (by decide +kernel) ⟨⟨rfl, rfl⟩, Nat.le_of_ble_eq_true rfl, Nat.le_of_ble_eq_true rfl⟩ rfl (Nat.le_of_ble_eq_true rfl) rfl rfl 22 rfl ?_
  refine v_aload_n hX 0 23 rfl rfl rfl ?_
  refine v_iload hX 24 rfl rfl ?_
  refine v_iconst hX (v := 3) 25 rfl (by decide) ?_
  refine v_aload_n hX 0 26 rfl rfl rfl ?_
  refine g_7_0 hX 27  tw_646 rfl ?_
  refine v_iconst hX (v := 2) 28 rfl (by decide) ?_
  refine v_iald hX (k := 271) (by decide) rfl (vp_in_nI (n := 2) (by decide) (by decide)) 29 rfl ?_
  rw [show Int32.toNatClampNeg 2 = 2 from rfl, mset_271 (by omega), mset_271 (by omega), mset_271 (by omega)]
  refine v_callV hX 3 (by decide) rfl rfl (r_lay (w := 3) hn (by decide)) tw_737 tw_734 tw_736 tw_56 tw_99 (by decide +kernel) ⟨⟨rfl, rfl⟩, Nat.le_of_ble_eq_true rfl, Nat.le_of_ble_eq_true rfl⟩ rfl (Nat.le_of_ble_eq_true rfl) rfl rfl 30 rfl ?_
  refine v_aload_n hX 0 31 rfl rfl rfl ?_
  refine v_iload hX 32 rfl rfl ?_
  refine v_iconst hX (v := 4) 33 rfl (by decide) ?_
  refine v_iload_n hX 2 34 rfl rfl rfl ?_
  refine v_callV hX 3 (by decide) rfl rfl (r_lay (w := 4) hn (by decide)) tw_737 tw_734 tw_736 tw_56 tw_99 (by decide +kernel) ⟨⟨rfl, rfl⟩, Nat.le_of_ble_eq_true rfl, Nat.le_of_ble_eq_true rfl⟩ rfl (Nat.le_of_ble_eq_true rfl) rfl rfl 35 rfl ?_
  refine v_aload_n hX 0 36 rfl rfl rfl ?_
  refine v_iload hX 37 rfl rfl ?_
  refine v_iconst hX (v := 5) 38 rfl (by decide) ?_
  refine v_iload hX 39 rfl rfl ?_
  refine v_callV hX 3 (by decide) rfl rfl (r_lay (w := 5) hn (by decide)) tw_737 tw_734 tw_736 tw_56 tw_99 (by decide +kernel) ⟨⟨rfl, rfl⟩, Nat.le_of_ble_eq_true rfl, Nat.le_of_ble_eq_true rfl⟩ rfl (Nat.le_of_ble_eq_true rfl) rfl rfl 40 rfl ?_
  refine v_aload_n hX 0 41 rfl rfl rfl ?_
  refine v_iload hX 42 rfl rfl ?_
  refine v_bipush hX (v := 6) 43 rfl (by decide) ?_
  refine v_iconst hX (v := 0) 44 rfl (by decide) ?_
  refine v_callV hX 3 (by decide) rfl rfl (r_lay (w := 6) hn (by decide)) tw_737 tw_734 tw_736 tw_56 tw_99 (by decide +kernel) ⟨⟨rfl, rfl⟩, Nat.le_of_ble_eq_true rfl, Nat.le_of_ble_eq_true rfl⟩ rfl (Nat.le_of_ble_eq_true rfl) rfl rfl 45 rfl ?_
  refine v_aload_n hX 0 46 rfl rfl rfl ?_
  refine g_7_0 hX 47  tw_646 rfl ?_
  refine v_iconst hX (v := 3) 48 rfl (by decide) ?_
  refine v_dup2 hX 49 rfl rfl rfl ?_
  refine v_iald hX (k := 271) (by decide) rfl (vp_in_nI (n := 3) (by decide) (by decide)) 50 rfl ?_
  rw [show Int32.toNatClampNeg 3 = 3 from rfl, mset_271 (by omega), mset_271 (by omega), mset_271 (by omega), mset_271 (by omega), mset_271 (by omega), mset_271 (by omega), mset_271 (by omega), hz]
  refine v_iconst hX (v := 1) 51 rfl (by decide) ?_
  refine v_iadd hX 52 rfl ?_
  rw [nI_1]
  refine v_iast hX (k := 271) (by decide) rfl rfl (vp_in_nI (n := 3) (by decide) (by decide)) rfl 53 rfl ?_
  refine v_iload hX 54 rfl rfl ?_
  refine v_iret hX hQ rfl rfl ?_ ?_ 55 rfl
  · rfl
  · rfl
set_option maxRecDepth 100000 in
set_option maxHeartbeats 4000000 in
theorem r_ovr {Y : Yt} {M : Mm} {w : Int32} : Fn Y yX7_overruleIt wsX7_overruleIt { frames := 0, cells := 0, slots := 0, locals := 0 } [.ref (Y.2.2.2 270), .int w] M (some (.int (ovR M w))) ((ovM M w)) := by
  refine Fn.of (cc := cX7_overruleIt) (ins := iX7_overruleIt) (maxL := 2) (ret := (some .int)) (by decide) dX7_overruleIt [some (.ref (Y.2.2.2 270)), some (.int w)] (Nat.le_of_ble_eq_true rfl) rfl rfl ?_
  intro X hX hQ
  refine v_aload_n hX 0 0 rfl rfl rfl ?_
  refine g_7_0 hX 1  tw_646 rfl ?_
  refine v_iconst hX (v := 4) 2 rfl (by decide) ?_
  refine v_dup2 hX 3 rfl rfl rfl ?_
  refine v_iald hX (k := 271) (by decide) rfl (vp_in_nI (n := 4) (by decide) (by decide)) 4 rfl ?_
  refine v_iconst hX (v := 1) 5 rfl (by decide) ?_
  refine v_iload_n hX 1 6 rfl rfl rfl ?_
  refine v_ishl hX 7 rfl ?_
  refine v_ixor hX 8 rfl ?_
  refine v_iast hX (k := 271) (by decide) rfl rfl (vp_in_nI (n := 4) (by decide) (by decide)) rfl 9 rfl ?_
  refine v_aload_n hX 0 10 rfl rfl rfl ?_
  refine g_7_0 hX 11  tw_646 rfl ?_
  refine v_iconst hX (v := 4) 12 rfl (by decide) ?_
  refine v_iald hX (k := 271) (by decide) rfl (vp_in_nI (n := 4) (by decide) (by decide)) 13 rfl ?_
  rw [show Int32.toNatClampNeg 4 = 4 from rfl, mset_271s]
  refine v_iload_n hX 1 14 rfl rfl rfl ?_
  refine v_ishr hX 15 rfl ?_
  refine v_iconst hX (v := 1) 16 rfl (by decide) ?_
  refine v_iand hX 17 rfl ?_
  refine v_iret hX hQ rfl rfl ?_ ?_ 18 rfl
  · rfl
  · rfl
set_option maxRecDepth 100000 in
set_option maxHeartbeats 4000000 in
theorem r_lowest {Y : Yt} {M : Mm} {p : Nat} {n : Nat} (hz : M.1 271 3 = nI n) (hn : n ≤ 24) (hp : p < n) : Fn Y yX7_lowestThatStands wsX7_lowestThatStands { frames := 1, cells := 0, slots := 0, locals := 22 } [.ref (Y.2.2.2 270), .int (nI p)] M (some (.int (low (M.1 276) n (nI p) (rp (M.1 271)) (n - (p + 1)) (p + 1)))) M := by
  refine Fn.of (cc := cX7_lowestThatStands) (ins := iX7_lowestThatStands) (maxL := 3) (ret := (some .int)) (by decide) dX7_lowestThatStands [some (.ref (Y.2.2.2 270)), some (.int (nI p)), none] (Nat.le_of_ble_eq_true rfl) rfl rfl ?_
  intro X hX hQ
  refine v_iload_n hX 1 0 rfl rfl rfl ?_
  refine v_iconst hX (v := 1) 1 rfl (by decide) ?_
  refine v_iadd hX 2 rfl ?_
  rw [nI_1]
  refine v_istore_n hX 2 3 rfl rfl (Nat.le_of_ble_eq_true rfl) rfl ?_
  have lp : ∀ (a : Nat), a ≤ n → p + 1 ≤ a → low (M.1 276) n (nI p) (rp (M.1 271)) (n - a) a = low (M.1 276) n (nI p) (rp (M.1 271)) (n - (p + 1)) (p + 1) → V Y X M 4 [some (.ref (Y.2.2.2 270)), some (.int (nI p)), some (.int (nI a))] [] := by
    refine upTo n (fun a ha ih => ?_)
    intro hpa he
    refine v_iload_n hX 2 4 rfl rfl rfl ?_
    refine v_aload_n hX 0 5 rfl rfl rfl ?_
    refine g_7_0 hX 6  tw_646 rfl ?_
    refine v_iconst hX (v := 3) 7 rfl (by decide) ?_
    refine v_iald hX (k := 271) (by decide) rfl (vp_in_nI (n := 3) (by decide) (by decide)) 8 rfl ?_
    refine v_icmp_ge hX (tgt := 41) 9 rfl (by decide) (fun c11 => ?_) (fun c11 => ?_)
    · skip
      have ha2 : a = n := by have h5 : M.1 271 3 ≤ nI a := c11; rw [hz] at h5; have := of_le h5 (by omega) (by omega); omega
      rw [ha2, Nat.sub_self, low] at he
      refine v_bipush hX (v := (-6)) 25 rfl (by decide) ?_
      refine v_iret hX hQ rfl rfl ?_ ?_ 26 rfl
      · rw [← he]
      · rfl
    · skip
      have ha2 : a < n := by have h5 : ¬ M.1 271 3 ≤ nI a := c11; rw [hz] at h5; exact of_nle h5 (by omega) (by omega)
      obtain ⟨f, hf⟩ : ∃ f, n - a = f + 1 := ⟨n - a - 1, by omega⟩
      rw [hf, low] at he
      refine v_aload_n hX 0 10 rfl rfl rfl ?_
      refine v_iload_n hX 2 11 rfl rfl rfl ?_
      refine v_iconst hX (v := 4) 12 rfl (by decide) ?_
      refine v_callV hX 2 (by decide) rfl rfl (r_its (w := 4) (show a < 24 by omega) (by decide)) tw_757 tw_754 tw_756 tw_60 tw_99 (by decide +kernel) ⟨⟨rfl, rfl⟩, Nat.le_of_ble_eq_true rfl, Nat.le_of_ble_eq_true rfl⟩ rfl (Nat.le_of_ble_eq_true rfl) rfl rfl 13 rfl ?_
      refine v_iload_n hX 1 14 rfl rfl rfl ?_
      refine v_icmp_ne hX (tgt := 35) 15 rfl (by decide) (fun c21 => ?_) (fun c21 => ?_)
      · skip
        rw [if_neg (fun h => c21 h.1)] at he
        refine v_iinc hX 23 rfl rfl (nI_inc a) (Nat.le_of_ble_eq_true rfl) rfl ?_
        refine v_goto hX (tgt := 4) 24 rfl (by decide) ?_
        exact V.sub (ih ha2 (by omega) (by rw [show n - (a + 1) = f by omega]; exact he)) rfl ⟨rfl, rfl, rfl, trivial⟩
      · skip
        refine v_aload_n hX 0 16 rfl rfl rfl ?_
        refine g_7_7 hX 17  tw_653 rfl ?_
        refine v_iload_n hX 2 18 rfl rfl rfl ?_
        refine v_iald hX (k := 276) (by decide) rfl (vp_in_nI (by omega) (by decide)) 19 rfl ?_
        rw [nI_clamp (by omega)]
        refine v_if_ne hX (tgt := 35) 20 rfl (by decide) (fun c30 => ?_) (fun c30 => ?_)
        · skip
          rw [if_neg (fun h => c30 h.2)] at he
          refine v_iinc hX 23 rfl rfl (nI_inc a) (Nat.le_of_ble_eq_true rfl) rfl ?_
          refine v_goto hX (tgt := 4) 24 rfl (by decide) ?_
          exact V.sub (ih ha2 (by omega) (by rw [show n - (a + 1) = f by omega]; exact he)) rfl ⟨rfl, rfl, rfl, trivial⟩
        · skip
          rw [if_pos ⟨c21, c30⟩] at he
          refine v_iload_n hX 2 21 rfl rfl rfl ?_
          refine v_iret hX hQ rfl rfl ?_ ?_ 22 rfl
          · rw [he]
          · rfl
  exact V.sub (lp (p + 1) (by omega) (Nat.le_refl _) rfl) rfl ⟨rfl, rfl, rfl, trivial⟩
set_option maxRecDepth 100000 in
set_option maxHeartbeats 4000000 in
theorem r_depth {Y : Yt} {M : Mm} {i : Nat} {n : Nat} (hz : M.1 271 3 = nI n) (hn : n ≤ 24) (hw : WF (rp (M.1 271)) n) (hi : i < n) : Fn Y yX7_depth wsX7_depth { frames := 2, cells := 0, slots := 0, locals := 43 } [.ref (Y.2.2.2 270), .int (nI i)] M (some (.int (nI (dpN (rp (M.1 271)) (i + 1) i)))) M := by
  refine Fn.of (cc := cX7_depth) (ins := iX7_depth) (maxL := 4) (ret := (some .int)) (by decide) dX7_depth [some (.ref (Y.2.2.2 270)), some (.int (nI i)), none, none] (Nat.le_of_ble_eq_true rfl) rfl rfl ?_
  intro X hX hQ
  refine v_iconst hX (v := 0) 0 rfl (by decide) ?_
  refine v_istore_n hX 2 1 rfl rfl (Nat.le_of_ble_eq_true rfl) rfl ?_
  refine v_iload_n hX 1 2 rfl rfl rfl ?_
  refine v_istore_n hX 3 3 rfl rfl (Nat.le_of_ble_eq_true rfl) rfl ?_
  have lp : ∀ (r : Nat), r < n → ∀ d : Nat, d + dpN (rp (M.1 271)) (r + 1) r = dpN (rp (M.1 271)) (i + 1) i → V Y X M 4 [some (.ref (Y.2.2.2 270)), some (.int (nI i)), some (.int (nI d)), some (.int (nI r))] [] := by
    refine downTo (fun r ih => ?_)
    intro hr d he
    refine v_aload_n hX 0 4 rfl rfl rfl ?_
    refine v_iload_n hX 3 5 rfl rfl rfl ?_
    refine v_callV hX 1 (by decide) rfl rfl (r_isClaim (show r < 24 by omega)) tw_781 tw_778 tw_780 tw_65 tw_99 (by decide +kernel) ⟨⟨rfl, rfl⟩, Nat.le_of_ble_eq_true rfl, Nat.le_of_ble_eq_true rfl⟩ rfl (Nat.le_of_ble_eq_true rfl) rfl rfl 6 rfl ?_
    refine v_if_ne hX (tgt := 25) 7 rfl (by decide) (fun c9 => ?_) (fun c9 => ?_)
    · skip
      have q1 : rp (M.1 271) r 3 = -6 := by have := b01_t c9; simpa [pCl] using this
      have he2 : dpN (rp (M.1 271)) (r + 1) r = 0 := by rw [dpN, if_pos q1]
      refine v_iload_n hX 2 15 rfl rfl rfl ?_
      refine v_iret hX hQ rfl rfl ?_ ?_ 16 rfl
      · rw [← he, he2, Nat.add_zero]
      · rfl
    · skip
      have q1 : ¬ rp (M.1 271) r 3 = -6 := by have := b01_f c9; simpa [pCl] using this
      obtain ⟨t, ht, et⟩ := (hw r hr).2.1.resolve_left q1
      have he2 : dpN (rp (M.1 271)) (r + 1) r = dpN (rp (M.1 271)) (t + 1) t + 1 := by rw [dpN, if_neg q1, et, nI_clamp (by omega), dpN_fuel hw hn r (t + 1) t (by omega) (by omega) (by omega)]
      refine v_aload_n hX 0 8 rfl rfl rfl ?_
      refine v_iload_n hX 3 9 rfl rfl rfl ?_
      refine v_iconst hX (v := 4) 10 rfl (by decide) ?_
      refine v_callV hX 2 (by decide) rfl rfl (r_its (w := 4) (show r < 24 by omega) (by decide)) tw_757 tw_754 tw_756 tw_60 tw_99 (by decide +kernel) ⟨⟨rfl, rfl⟩, Nat.le_of_ble_eq_true rfl, Nat.le_of_ble_eq_true rfl⟩ rfl (Nat.le_of_ble_eq_true rfl) rfl rfl 11 rfl ?_
      rw [show M.1 271 (5 + 7 * r + 4) = nI t from et]
      refine v_istore_n hX 3 12 rfl rfl (Nat.le_of_ble_eq_true rfl) rfl ?_
      refine v_iinc hX 13 rfl rfl (nI_inc d) (Nat.le_of_ble_eq_true rfl) rfl ?_
      refine v_goto hX (tgt := 4) 14 rfl (by decide) ?_
      exact V.sub (ih t (by omega) (by omega) (d + 1) (by omega)) rfl ⟨rfl, rfl, rfl, rfl, trivial⟩
  exact V.sub (lp i hi 0 (Nat.zero_add _)) rfl ⟨rfl, rfl, rfl, rfl, trivial⟩
set_option maxRecDepth 100000 in
set_option maxHeartbeats 4000000 in
theorem r_daysYet {Y : Yt} {M : Mm} {i : Nat} (hi : i < 24) : Fn Y yX7_daysYet wsX7_daysYet { frames := 3, cells := 0, slots := 0, locals := 64 } [.ref (Y.2.2.2 270), .int (nI i)] M (some (.int (dyR (M.1 271) i))) M := by
  refine Fn.of (cc := cX7_daysYet) (ins := iX7_daysYet) (maxL := 2) (ret := (some .int)) (by decide) dX7_daysYet [some (.ref (Y.2.2.2 270)), some (.int (nI i))] (Nat.le_of_ble_eq_true rfl) rfl rfl ?_
  intro X hX hQ
  refine v_aload_n hX 0 0 rfl rfl rfl ?_
  refine v_iload_n hX 1 1 rfl rfl rfl ?_
  refine v_callV hX 1 (by decide) rfl rfl (r_isClaim hi) tw_781 tw_778 tw_780 tw_65 tw_99 (by decide +kernel) ⟨⟨rfl, rfl⟩, Nat.le_of_ble_eq_true rfl, Nat.le_of_ble_eq_true rfl⟩ rfl (Nat.le_of_ble_eq_true rfl) rfl rfl 2 rfl ?_
  refine v_if_ne hX (tgt := 16) 3 rfl (by decide) (fun c5 => ?_) (fun c5 => ?_)
  · skip
    have q1 : rp (M.1 271) i 3 = -6 := by have := b01_t c5; simpa [pCl] using this
    refine v_bipush hX (v := (-6)) 8 rfl (by decide) ?_
    refine v_goto hX (tgt := 41) 9 rfl (by decide) ?_
    refine v_iret hX hQ rfl rfl ?_ ?_ 24 rfl
    · first | (rw [dyR, if_pos (Or.inl q1)]; done) | (rw [dyR, if_pos (Or.inr q2)]; done) | (rw [dyR, if_neg (fun h => h.elim q1 (fun h => by rw [q2] at h; cases h))]; rfl)
    · rfl
  · skip
    have q1 : ¬ rp (M.1 271) i 3 = -6 := by have := b01_f c5; simpa [pCl] using this
    refine v_aload_n hX 0 4 rfl rfl rfl ?_
    refine v_iload_n hX 1 5 rfl rfl rfl ?_
    refine v_callV hX 1 (by decide) rfl rfl (r_lapsed hi) tw_777 tw_774 tw_776 tw_64 tw_99 (by decide +kernel) ⟨⟨rfl, rfl⟩, Nat.le_of_ble_eq_true rfl, Nat.le_of_ble_eq_true rfl⟩ rfl (Nat.le_of_ble_eq_true rfl) rfl rfl 6 rfl ?_
    refine v_if_eq hX (tgt := 21) 7 rfl (by decide) (fun c13 => ?_) (fun c13 => ?_)
    · skip
      have q2 := b01_f c13
      refine v_aload_n hX 0 10 rfl rfl rfl ?_
      refine g_7_0 hX 11  tw_646 rfl ?_
      refine v_iconst hX (v := 0) 12 rfl (by decide) ?_
      refine v_iald hX (k := 271) (by decide) rfl (vp_in_nI (n := 0) (by decide) (by decide)) 13 rfl ?_
      refine v_aload_n hX 0 14 rfl rfl rfl ?_
      refine g_7_0 hX 15  tw_646 rfl ?_
      refine v_iconst hX (v := 2) 16 rfl (by decide) ?_
      refine v_iald hX (k := 271) (by decide) rfl (vp_in_nI (n := 2) (by decide) (by decide)) 17 rfl ?_
      refine v_aload_n hX 0 18 rfl rfl rfl ?_
      refine v_iload_n hX 1 19 rfl rfl rfl ?_
      refine v_iconst hX (v := 3) 20 rfl (by decide) ?_
      refine v_callV hX 2 (by decide) rfl rfl (r_its (w := 3) hi (by decide)) tw_757 tw_754 tw_756 tw_60 tw_99 (by decide +kernel) ⟨⟨rfl, rfl⟩, Nat.le_of_ble_eq_true rfl, Nat.le_of_ble_eq_true rfl⟩ rfl (Nat.le_of_ble_eq_true rfl) rfl rfl 21 rfl ?_
      refine v_isub hX 22 rfl ?_
      refine v_isub hX 23 rfl ?_
      refine v_iret hX hQ rfl rfl ?_ ?_ 24 rfl
      · first | (rw [dyR, if_pos (Or.inl q1)]; done) | (rw [dyR, if_pos (Or.inr q2)]; done) | (rw [dyR, if_neg (fun h => h.elim q1 (fun h => by rw [q2] at h; cases h))]; rfl)
      · rfl
    · skip
      have q2 := b01_t c13
      refine v_bipush hX (v := (-6)) 8 rfl (by decide) ?_
      refine v_goto hX (tgt := 41) 9 rfl (by decide) ?_
      refine v_iret hX hQ rfl rfl ?_ ?_ 24 rfl
      · first | (rw [dyR, if_pos (Or.inl q1)]; done) | (rw [dyR, if_pos (Or.inr q2)]; done) | (rw [dyR, if_neg (fun h => h.elim q1 (fun h => by rw [q2] at h; cases h))]; rfl)
      · rfl
