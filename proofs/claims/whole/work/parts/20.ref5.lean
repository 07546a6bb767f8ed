set_option maxRecDepth 100000 in
set_option maxHeartbeats 4000000 in
theorem r_layCosts {Y : Yt} {M : Mm} {n : Nat} (hz : M.1 271 3 = nI n) (hn : n ≤ 24) (hw : WF (rp (M.1 271)) n) : Fn Y yX7_layCosts wsX7_layCosts { frames := 5, cells := 0, slots := 0, locals := 107 } [.ref (Y.2.2.2 270)] M none ((cst (lkM M n) (lcS M n n))) := by
  have hzL : (lkM M n).1 271 3 = nI n := by rw [lk_z]; exact hz
  have hwL : WF (rp ((lkM M n).1 271)) n := by rw [lk_z]; exact hw
  have hzB : ∀ q, (cst (lkM M n) q).1 271 3 = nI n := fun q => by rw [cst_n (by decide)]; exact hzL
  refine Fn.of (cc := cX7_layCosts) (ins := iX7_layCosts) (maxL := 7) (ret := none) (by decide) dX7_layCosts [some (.ref (Y.2.2.2 270)), none, none, none, none, none, none] (Nat.le_of_ble_eq_true rfl) rfl rfl ?_
  intro X hX hQ
  refine v_aload_n hX 0 0 rfl rfl rfl ?_
  refine v_callV hX 0 (by decide) rfl rfl (r_look hz hn hw) tw_769 tw_766 tw_768 tw_62 tw_99 (by decide +kernel) ⟨⟨rfl, rfl⟩, Nat.le_of_ble_eq_true rfl, Nat.le_of_ble_eq_true rfl⟩ rfl (Nat.le_of_ble_eq_true rfl) rfl rfl 1 rfl ?_
  refine v_aload_n hX 0 2 rfl rfl rfl ?_
  refine g_7_0 hX 3  tw_646 rfl ?_
  refine v_iconst hX (v := 3) 4 rfl (by decide) ?_
  refine v_iald hX (k := 271) (by decide) rfl (vp_in_nI (n := 3) (by decide) (by decide)) 5 rfl ?_
  rw [show (lkM M n).1 271 (Int32.toNatClampNeg 3) = nI n from hzL]
  refine v_iconst hX (v := 1) 6 rfl (by decide) ?_
  refine v_isub hX 7 rfl ?_
  refine v_istore_n hX 1 8 rfl rfl (Nat.le_of_ble_eq_true rfl) rfl ?_
  have lp : ∀ (m : Nat), m ≤ n → V Y X (cst (lkM M n) (lcS M n (n - m))) 13 [some (.ref (Y.2.2.2 270)), some (.int (nI m - 1)), none, none, none, none, none] [] := by
    refine downTo (fun m ih => ?_)
    intro hm
    rcases Nat.eq_zero_or_pos m with h0 | h0
    · skip
      subst h0
      refine v_iload_n hX 1 9 rfl rfl rfl ?_
      refine v_if_lt hX (tgt := 178) 10 rfl (by decide) (fun c14 => ?_) (fun c14 => absurd (by decide) c14)
      refine v_vret hX hQ rfl rfl ?_ 96 rfl
      rw [Nat.sub_zero]
    · skip
      obtain ⟨m, rfl⟩ : ∃ m2, m = m2 + 1 := ⟨m - 1, by omega⟩
      rw [nI_pred]
      have em : n - 1 - (n - (m + 1)) = m := by omega
      refine v_iload_n hX 1 9 rfl rfl rfl ?_
      refine v_if_lt hX (tgt := 178) 10 rfl (by decide) (fun c14 => absurd c14 (nI_nlt (Nat.zero_le _) (by omega))) (fun c14 => ?_)
      refine v_aload_n hX 0 11 rfl rfl rfl ?_
      refine g_7_7 hX 12  tw_653 rfl ?_
      refine v_iload_n hX 1 13 rfl rfl rfl ?_
      refine v_iald hX (k := 276) (by decide) rfl (vp_in_nI (by omega) (by decide)) 14 rfl ?_
      rw [nI_clamp (by omega), cst_n (by decide), lk_w]
      refine v_iconst hX (v := 1) 15 rfl (by decide) ?_
      refine v_iconst hX (v := 4) 16 rfl (by decide) ?_
      refine v_callS hX 3 (r_in) tw_703 tw_701 tw_702 tw_99 (by decide +kernel) ⟨⟨rfl, rfl⟩, Nat.le_of_ble_eq_true rfl, Nat.le_of_ble_eq_true rfl⟩ rfl (Nat.le_of_ble_eq_true rfl) rfl rfl 17 rfl ?_
      refine v_istore_n hX 2 18 rfl rfl (Nat.le_of_ble_eq_true rfl) rfl ?_
      have j42 : ∀ (v : Int32), v = b01 (decide (mk (pTo (rp (M.1 271)) (nI m)) n = 0)) → V Y X (cst (lkM M n) (lcS M n (n - (m + 1)))) 42 [some (.ref (Y.2.2.2 270)), some (.int (nI m)), some (.int (b01 (inv (lkW M n m) 1 4))), none, none, none, none] [.int v] := by
        intro v hv
        refine v_istore_n hX 3 26 rfl rfl (Nat.le_of_ble_eq_true rfl) rfl ?_
        have j57 : ∀ (y : Int32), y = (if mk (pTo (rp (M.1 271)) (nI m)) n = 0 then (1 : Int32) else 1000) → V Y X (cst (lkM M n) (lcS M n (n - (m + 1)))) 57 [some (.ref (Y.2.2.2 270)), some (.int (nI m)), some (.int (b01 (inv (lkW M n m) 1 4))), some (.int v), some (.int 0), none, none] [.int y] := by
          intro y hy
          refine v_istore hX 34 rfl (Nat.le_of_ble_eq_true rfl) rfl ?_
          refine v_iload_n hX 1 35 rfl rfl rfl ?_
          refine v_iconst hX (v := 1) 36 rfl (by decide) ?_
          refine v_iadd hX 37 rfl ?_
          rw [nI_1]
          refine v_istore hX 38 rfl (Nat.le_of_ble_eq_true rfl) rfl ?_
          have lq : ∀ (a : Nat), a ≤ n → m + 1 ≤ a → V Y X (cst (lkM M n) (lcS M n (n - (m + 1)))) 64 [some (.ref (Y.2.2.2 270)), some (.int (nI m)), some (.int (b01 (inv (lkW M n m) 1 4))), some (.int v), some (.int (lcF (rp (M.1 271)) (nI m) (lcS M n (n - (m + 1))).2 m a)), some (.int (lcL (rp (M.1 271)) (nI m) (lcS M n (n - (m + 1))).1 m (if mk (pTo (rp (M.1 271)) (nI m)) n = 0 then (1 : Int32) else 1000) a)), some (.int (nI a))] [] := by
            refine upTo n (fun a ha ihq => ?_)
            intro hma
            refine v_iload hX 39 rfl rfl ?_
            refine v_aload_n hX 0 40 rfl rfl rfl ?_
            refine g_7_0 hX 41  tw_646 rfl ?_
            refine v_iconst hX (v := 3) 42 rfl (by decide) ?_
            refine v_iald hX (k := 271) (by decide) rfl (vp_in_nI (n := 3) (by decide) (by decide)) 43 rfl ?_
            rw [show (cst (lkM M n) (lcS M n (n - (m + 1)))).1 271 (Int32.toNatClampNeg 3) = nI n from hzB _]
            refine v_icmp_ge hX (tgt := 130) 44 rfl (by decide) (fun c72 => ?_) (fun c72 => ?_)
            · skip
              have ha2 : a = n := by have := of_le c72 (by omega) (by omega); omega
              rw [ha2]
              have j155 : ∀ (v2 : Int32), v2 = (if inv (lkW M n m) 1 4 = true ∨ ¬ lcF (rp (M.1 271)) (nI m) (lcS M n (n - (m + 1))).2 m n < 1000 then 1000 else lcF (rp (M.1 271)) (nI m) (lcS M n (n - (m + 1))).2 m n) → V Y X (cst (lkM M n) (lcS M n (n - (m + 1)))) 155 [some (.ref (Y.2.2.2 270)), some (.int (nI m)), some (.int (b01 (inv (lkW M n m) 1 4))), some (.int v), some (.int (lcF (rp (M.1 271)) (nI m) (lcS M n (n - (m + 1))).2 m n)), some (.int (lcL (rp (M.1 271)) (nI m) (lcS M n (n - (m + 1))).1 m (if mk (pTo (rp (M.1 271)) (nI m)) n = 0 then (1 : Int32) else 1000) n)), none] [.int v2, .int (nI m), .ref (Y.2.2.2 278)] := by
                intro v2 hv2
                refine v_iast hX (k := 278) (by decide) rfl rfl (vp_in_nI (by omega) (by decide)) rfl 84 rfl ?_
                refine V.mem (M2 := (cst (lkM M n) (upd (lcS M n (n - (m + 1))).1 m (if inv (lkW M n m) 1 4 = true ∨ ¬ lcF (rp (M.1 271)) (nI m) (lcS M n (n - (m + 1))).2 m n < 1000 then 1000 else lcF (rp (M.1 271)) (nI m) (lcS M n (n - (m + 1))).2 m n), (lcS M n (n - (m + 1))).2))) (by rw [nI_clamp (by omega), cst_8, hv2]) ?_
                have j171 : ∀ (v3 : Int32), v3 = (if inv (lkW M n m) 1 4 = true then 0 else lcL (rp (M.1 271)) (nI m) (lcS M n (n - (m + 1))).1 m (if mk (pTo (rp (M.1 271)) (nI m)) n = 0 then (1 : Int32) else 1000) n) → V Y X (cst (lkM M n) (upd (lcS M n (n - (m + 1))).1 m (if inv (lkW M n m) 1 4 = true ∨ ¬ lcF (rp (M.1 271)) (nI m) (lcS M n (n - (m + 1))).2 m n < 1000 then 1000 else lcF (rp (M.1 271)) (nI m) (lcS M n (n - (m + 1))).2 m n), (lcS M n (n - (m + 1))).2)) 171 [some (.ref (Y.2.2.2 270)), some (.int (nI m)), some (.int (b01 (inv (lkW M n m) 1 4))), some (.int v), some (.int (lcF (rp (M.1 271)) (nI m) (lcS M n (n - (m + 1))).2 m n)), some (.int (lcL (rp (M.1 271)) (nI m) (lcS M n (n - (m + 1))).1 m (if mk (pTo (rp (M.1 271)) (nI m)) n = 0 then (1 : Int32) else 1000) n)), none] [.int v3, .int (nI m), .ref (Y.2.2.2 279)] := by
                  intro v3 hv3
                  refine v_iast hX (k := 279) (by decide) rfl rfl (vp_in_nI (by omega) (by decide)) rfl 93 rfl ?_
                  refine V.mem (M2 := cst (lkM M n) (lcS M n (n - m))) (by rw [nI_clamp (by omega), cst_9, hv3, show n - m = n - (m + 1) + 1 by omega, lcS, em]) ?_
                  refine v_iinc hX 94 rfl rfl (nI_dm m) (Nat.le_of_ble_eq_true rfl) rfl ?_
                  refine v_goto hX (tgt := 13) 95 rfl (by decide) ?_
                  refine V.subM (ih m (by omega) (by omega)) ?_ rfl ⟨rfl, rfl, trivial⟩
                  rfl
                refine v_aload_n hX 0 85 rfl rfl rfl ?_
                refine g_7_10 hX 86  tw_656 rfl ?_
                refine v_iload_n hX 1 87 rfl rfl rfl ?_
                refine v_iload_n hX 2 88 rfl rfl rfl ?_
                refine v_if_eq hX (tgt := 169) 89 rfl (by decide) (fun c162 => ?_) (fun c162 => ?_)
                · skip
                  have q6 := b01_f c162
                  refine v_iload hX 92 rfl rfl ?_
                  exact V.sub (j171 _ (if_neg (by rw [q6]; decide)).symm) rfl ⟨rfl, rfl, rfl, rfl, rfl, rfl, trivial⟩
                · skip
                  have q6 := b01_t c162
                  refine v_iconst hX (v := 0) 90 rfl (by decide) ?_
                  refine v_goto hX (tgt := 171) 91 rfl (by decide) ?_
                  exact V.sub (j171 _ (by rw [if_pos q6])) rfl ⟨rfl, rfl, rfl, rfl, rfl, rfl, trivial⟩
              refine v_aload_n hX 0 73 rfl rfl rfl ?_
              refine g_7_9 hX 74  tw_655 rfl ?_
              refine v_iload_n hX 1 75 rfl rfl rfl ?_
              refine v_iload_n hX 2 76 rfl rfl rfl ?_
              refine v_if_ne hX (tgt := 147) 77 rfl (by decide) (fun c136 => ?_) (fun c136 => ?_)
              · skip
                have q5 := b01_t c136
                refine v_sipush hX (v := 1000) 81 rfl (by decide) ?_
                refine v_goto hX (tgt := 155) 82 rfl (by decide) ?_
                exact V.sub (j155 _ (by first | rw [if_pos (Or.inl q5)] | rw [if_pos (Or.inr c144)])) rfl ⟨rfl, rfl, rfl, rfl, rfl, rfl, trivial⟩
              · skip
                have q5 := b01_f c136
                refine v_iload hX 78 rfl rfl ?_
                refine v_sipush hX (v := 1000) 79 rfl (by decide) ?_
                refine v_icmp_lt hX (tgt := 153) 80 rfl (by decide) (fun c144 => ?_) (fun c144 => ?_)
                · skip
                  refine v_iload hX 83 rfl rfl ?_
                  exact V.sub (j155 _ (by rw [if_neg (fun h => h.elim (fun h => by rw [q5] at h; cases h) (fun h => h c144))])) rfl ⟨rfl, rfl, rfl, rfl, rfl, rfl, trivial⟩
                · skip
                  refine v_sipush hX (v := 1000) 81 rfl (by decide) ?_
                  refine v_goto hX (tgt := 155) 82 rfl (by decide) ?_
                  exact V.sub (j155 _ (by first | rw [if_pos (Or.inl q5)] | rw [if_pos (Or.inr c144)])) rfl ⟨rfl, rfl, rfl, rfl, rfl, rfl, trivial⟩
            · skip
              have ha2 : a < n := of_nle c72 (by omega) (by omega)
              refine v_aload_n hX 0 45 rfl rfl rfl ?_
              refine v_iload hX 46 rfl rfl ?_
              refine v_iconst hX (v := 4) 47 rfl (by decide) ?_
              refine v_callV hX 2 (by decide) rfl rfl (r_its (w := 4) (show a < 24 by omega) (by decide)) tw_757 tw_754 tw_756 tw_60 tw_99 (by decide +kernel) ⟨⟨rfl, rfl⟩, Nat.le_of_ble_eq_true rfl, Nat.le_of_ble_eq_true rfl⟩ rfl (Nat.le_of_ble_eq_true rfl) rfl rfl 48 rfl ?_
              rw [cst_n (by decide), lk_z]
              refine v_iload_n hX 1 49 rfl rfl rfl ?_
              refine v_icmp_ne hX (tgt := 124) 50 rfl (by decide) (fun c83 => ?_) (fun c83 => ?_)
              · skip
                have hF1 : lcF (rp (M.1 271)) (nI m) (lcS M n (n - (m + 1))).2 m (a + 1) = lcF (rp (M.1 271)) (nI m) (lcS M n (n - (m + 1))).2 m a := by rw [lcF, if_neg (fun g => c83 g.2)]
                have hL1 : lcL (rp (M.1 271)) (nI m) (lcS M n (n - (m + 1))).1 m (if mk (pTo (rp (M.1 271)) (nI m)) n = 0 then (1 : Int32) else 1000) (a + 1) = lcL (rp (M.1 271)) (nI m) (lcS M n (n - (m + 1))).1 m (if mk (pTo (rp (M.1 271)) (nI m)) n = 0 then (1 : Int32) else 1000) a := by rw [lcL, if_neg (fun g => c83 g.2)]
                refine v_iinc hX 71 rfl rfl (nI_inc a) (Nat.le_of_ble_eq_true rfl) rfl ?_
                refine v_goto hX (tgt := 64) 72 rfl (by decide) ?_
                exact V.sub (ihq ha2 (by omega)) rfl ⟨rfl, rfl, rfl, rfl, (by first | rfl | (refine congrArg (fun z : Int32 => some (Value.int z)) ?_; first | exact hy2 | exact hF1.symm | exact hL1.symm | rfl)), (by first | rfl | (refine congrArg (fun z : Int32 => some (Value.int z)) ?_; first | exact hy2 | exact hF1.symm | exact hL1.symm | rfl)), rfl, trivial⟩
              · skip
                have q2 : rp (M.1 271) a 3 = nI m := c83
                have hF1 : lcF (rp (M.1 271)) (nI m) (lcS M n (n - (m + 1))).2 m (a + 1) = lcF (rp (M.1 271)) (nI m) (lcS M n (n - (m + 1))).2 m a + (lcS M n (n - (m + 1))).2 a := by rw [lcF, if_pos ⟨by omega, q2⟩]
                have hL1 : lcL (rp (M.1 271)) (nI m) (lcS M n (n - (m + 1))).1 m (if mk (pTo (rp (M.1 271)) (nI m)) n = 0 then (1 : Int32) else 1000) (a + 1) = (if lcL (rp (M.1 271)) (nI m) (lcS M n (n - (m + 1))).1 m (if mk (pTo (rp (M.1 271)) (nI m)) n = 0 then (1 : Int32) else 1000) a ≤ (lcS M n (n - (m + 1))).1 a then lcL (rp (M.1 271)) (nI m) (lcS M n (n - (m + 1))).1 m (if mk (pTo (rp (M.1 271)) (nI m)) n = 0 then (1 : Int32) else 1000) a else (lcS M n (n - (m + 1))).1 a) := by rw [lcL, if_pos ⟨by omega, q2⟩]
                refine v_iload hX 51 rfl rfl ?_
                refine v_aload_n hX 0 52 rfl rfl rfl ?_
                refine g_7_10 hX 53  tw_656 rfl ?_
                refine v_iload hX 54 rfl rfl ?_
                refine v_iald hX (k := 279) (by decide) rfl (vp_in_nI (by omega) (by decide)) 55 rfl ?_
                rw [nI_clamp (by omega), cst_r9]
                refine v_iadd hX 56 rfl ?_
                refine v_istore hX 57 rfl (Nat.le_of_ble_eq_true rfl) rfl ?_
                have j122 : ∀ (y2 : Int32), y2 = lcL (rp (M.1 271)) (nI m) (lcS M n (n - (m + 1))).1 m (if mk (pTo (rp (M.1 271)) (nI m)) n = 0 then (1 : Int32) else 1000) (a + 1) → V Y X (cst (lkM M n) (lcS M n (n - (m + 1)))) 122 [some (.ref (Y.2.2.2 270)), some (.int (nI m)), some (.int (b01 (inv (lkW M n m) 1 4))), some (.int v), some (.int (lcF (rp (M.1 271)) (nI m) (lcS M n (n - (m + 1))).2 m (a + 1))), some (.int (lcL (rp (M.1 271)) (nI m) (lcS M n (n - (m + 1))).1 m (if mk (pTo (rp (M.1 271)) (nI m)) n = 0 then (1 : Int32) else 1000) a)), some (.int (nI a))] [.int y2] := by
                  intro y2 hy2
                  refine v_istore hX 70 rfl (Nat.le_of_ble_eq_true rfl) rfl ?_
                  refine v_iinc hX 71 rfl rfl (nI_inc a) (Nat.le_of_ble_eq_true rfl) rfl ?_
                  refine v_goto hX (tgt := 64) 72 rfl (by decide) ?_
                  exact V.sub (ihq ha2 (by omega)) rfl ⟨rfl, rfl, rfl, rfl, (by first | rfl | (refine congrArg (fun z : Int32 => some (Value.int z)) ?_; first | exact hy2 | exact hF1.symm | exact hL1.symm | rfl)), (by first | rfl | (refine congrArg (fun z : Int32 => some (Value.int z)) ?_; first | exact hy2 | exact hF1.symm | exact hL1.symm | rfl)), rfl, trivial⟩
                refine v_aload_n hX 0 58 rfl rfl rfl ?_
                refine g_7_9 hX 59  tw_655 rfl ?_
                refine v_iload hX 60 rfl rfl ?_
                refine v_iald hX (k := 278) (by decide) rfl (vp_in_nI (by omega) (by decide)) 61 rfl ?_
                rw [nI_clamp (by omega), cst_r8]
                refine v_iload hX 62 rfl rfl ?_
                refine v_icmp_ge hX (tgt := 120) 63 rfl (by decide) (fun c107 => ?_) (fun c107 => ?_)
                · skip
                  refine v_iload hX 69 rfl rfl ?_
                  exact V.sub (j122 _ (by rw [hL1, if_pos c107])) rfl ⟨rfl, rfl, rfl, rfl, (by first | rfl | (refine congrArg (fun z : Int32 => some (Value.int z)) ?_; exact hF1.symm)), rfl, rfl, trivial⟩
                · skip
                  refine v_aload_n hX 0 64 rfl rfl rfl ?_
                  refine g_7_9 hX 65  tw_655 rfl ?_
                  refine v_iload hX 66 rfl rfl ?_
                  refine v_iald hX (k := 278) (by decide) rfl (vp_in_nI (by omega) (by decide)) 67 rfl ?_
                  rw [nI_clamp (by omega), cst_r8]
                  refine v_goto hX (tgt := 122) 68 rfl (by decide) ?_
                  exact V.sub (j122 _ (by rw [hL1, if_neg c107])) rfl ⟨rfl, rfl, rfl, rfl, (by first | rfl | (refine congrArg (fun z : Int32 => some (Value.int z)) ?_; exact hF1.symm)), rfl, rfl, trivial⟩
          exact V.sub (lq (m + 1) (by omega) (Nat.le_refl _)) rfl ⟨rfl, rfl, rfl, rfl, (by first | rfl | (refine congrArg (fun z : Int32 => some (Value.int z)) ?_; first | exact (lcF_0 (Nat.le_refl _)).symm | exact hy.trans (lcL_0 (Nat.le_refl _)).symm)), (by first | rfl | (refine congrArg (fun z : Int32 => some (Value.int z)) ?_; first | exact (lcF_0 (Nat.le_refl _)).symm | exact hy.trans (lcL_0 (Nat.le_refl _)).symm)), rfl, trivial⟩
        refine v_iconst hX (v := 0) 27 rfl (by decide) ?_
        refine v_istore hX 28 rfl (Nat.le_of_ble_eq_true rfl) rfl ?_
        refine v_iload_n hX 3 29 rfl rfl rfl ?_
        refine v_if_eq hX (tgt := 54) 30 rfl (by decide) (fun c47 => ?_) (fun c47 => ?_)
        · skip
          have q0 : ¬ mk (pTo (rp (M.1 271)) (nI m)) n = 0 := by rw [hv] at c47; have := b01_f c47; simpa using this
          refine v_sipush hX (v := 1000) 33 rfl (by decide) ?_
          exact V.sub (j57 _ (by rw [if_neg q0])) rfl ⟨rfl, rfl, rfl, rfl, rfl, trivial⟩
        · skip
          have q0 : mk (pTo (rp (M.1 271)) (nI m)) n = 0 := by rw [hv] at c47; have := b01_t c47; simpa using this
          refine v_iconst hX (v := 1) 31 rfl (by decide) ?_
          refine v_goto hX (tgt := 57) 32 rfl (by decide) ?_
          exact V.sub (j57 _ (by rw [if_pos q0])) rfl ⟨rfl, rfl, rfl, rfl, rfl, trivial⟩
      refine v_aload_n hX 0 19 rfl rfl rfl ?_
      refine v_iload_n hX 1 20 rfl rfl rfl ?_
      refine v_callV hX 1 (by decide) rfl rfl (r_answersTo (hzB _) hn) tw_832 tw_829 tw_831 tw_73 tw_99 (by decide +kernel) ⟨⟨rfl, rfl⟩, Nat.le_of_ble_eq_true rfl, Nat.le_of_ble_eq_true rfl⟩ rfl (Nat.le_of_ble_eq_true rfl) rfl rfl 21 rfl ?_
      rw [cst_n (by decide), lk_z]
      refine v_if_ne hX (tgt := 41) 22 rfl (by decide) (fun c34 => ?_) (fun c34 => ?_)
      · skip
        have q0 : ¬ mk (pTo (rp (M.1 271)) (nI m)) n = 0 := c34
        refine v_iconst hX (v := 0) 25 rfl (by decide) ?_
        exact V.sub (j42 _ (b01_q q0)) rfl ⟨rfl, rfl, rfl, trivial⟩
      · skip
        have q0 : mk (pTo (rp (M.1 271)) (nI m)) n = 0 := c34
        refine v_iconst hX (v := 1) 23 rfl (by decide) ?_
        refine v_goto hX (tgt := 42) 24 rfl (by decide) ?_
        exact V.sub (j42 _ (b01_p q0)) rfl ⟨rfl, rfl, rfl, trivial⟩
  refine V.subM (lp n (Nat.le_refl n)) ?_ rfl ⟨rfl, rfl, trivial⟩
  rw [Nat.sub_self, lcS]
  rw [← lk_n (M := M) (n := n) (k := 278) (by decide), ← lk_n (M := M) (n := n) (k := 279) (by decide), cst_self]
set_option maxRecDepth 100000 in
set_option maxHeartbeats 4000000 in
theorem r_toFall_no {Y : Yt} {M : Mm} {n : Nat} {x : Int32} (hz : M.1 271 3 = nI n) (hx : x < 0 ∨ nI n ≤ x) : Fn Y yX7_toFall wsX7_toFall { frames := 6, cells := 0, slots := 0, locals := 133 } [.ref (Y.2.2.2 270), .int x] M (some (.int (-1))) M := by
  refine Fn.of (cc := cX7_toFall) (ins := iX7_toFall) (maxL := 2) (ret := (some .int)) (by decide) dX7_toFall [some (.ref (Y.2.2.2 270)), some (.int x)] (Nat.le_of_ble_eq_true rfl) rfl rfl ?_
  intro X hX hQ
  refine v_aload_n hX 0 0 rfl rfl rfl ?_
  refine v_iload_n hX 1 1 rfl rfl rfl ?_
  refine v_callV hX 1 (by decide) rfl rfl (r_isPoint_no hz hx) tw_749 tw_746 tw_748 tw_58 tw_99 (by decide +kernel) ⟨⟨rfl, rfl⟩, Nat.le_of_ble_eq_true rfl, Nat.le_of_ble_eq_true rfl⟩ rfl (Nat.le_of_ble_eq_true rfl) rfl rfl 2 rfl ?_
  refine v_if_ne hX (tgt := 10) 3 rfl (by decide) (fun c5 => absurd c5 (fun g => g rfl)) (fun c5 => ?_)
  refine v_iconst hX (v := (-1)) 4 rfl (by decide) ?_
  refine v_iret hX hQ rfl rfl ?_ ?_ 5 rfl
  · rfl
  · rfl
set_option maxRecDepth 100000 in
set_option maxHeartbeats 4000000 in
theorem r_toFall {Y : Yt} {M : Mm} {i : Nat} {n : Nat} (hz : M.1 271 3 = nI n) (hn : n ≤ 24) (hw : WF (rp (M.1 271)) n) (hi : i < n) : Fn Y yX7_toFall wsX7_toFall { frames := 6, cells := 0, slots := 0, locals := 133 } [.ref (Y.2.2.2 270), .int (nI i)] M (some (.int (if (lcS M n n).2 i = 1000 then -6 else (lcS M n n).2 i))) ((cst (lkM M n) (lcS M n n))) := by
  refine Fn.of (cc := cX7_toFall) (ins := iX7_toFall) (maxL := 2) (ret := (some .int)) (by decide) dX7_toFall [some (.ref (Y.2.2.2 270)), some (.int (nI i))] (Nat.le_of_ble_eq_true rfl) rfl rfl ?_
  intro X hX hQ
  refine v_aload_n hX 0 0 rfl rfl rfl ?_
  refine v_iload_n hX 1 1 rfl rfl rfl ?_
  refine v_callV hX 1 (by decide) rfl rfl (r_isPoint hz hn hi) tw_749 tw_746 tw_748 tw_58 tw_99 (by decide +kernel) ⟨⟨rfl, rfl⟩, Nat.le_of_ble_eq_true rfl, Nat.le_of_ble_eq_true rfl⟩ rfl (Nat.le_of_ble_eq_true rfl) rfl rfl 2 rfl ?_
  refine v_if_ne hX (tgt := 10) 3 rfl (by decide) (fun c5 => ?_) (fun c5 => absurd c5 (by decide))
  refine v_aload_n hX 0 6 rfl rfl rfl ?_
  refine v_callV hX 0 (by decide) rfl rfl (r_layCosts hz hn hw) tw_881 tw_878 tw_880 tw_80 tw_99 (by decide +kernel) ⟨⟨rfl, rfl⟩, Nat.le_of_ble_eq_true rfl, Nat.le_of_ble_eq_true rfl⟩ rfl (Nat.le_of_ble_eq_true rfl) rfl rfl 7 rfl ?_
  refine v_aload_n hX 0 8 rfl rfl rfl ?_
  refine g_7_10 hX 9  tw_656 rfl ?_
  refine v_iload_n hX 1 10 rfl rfl rfl ?_
  refine v_iald hX (k := 279) (by decide) rfl (vp_in_nI (by omega) (by decide)) 11 rfl ?_
  rw [nI_clamp (by omega), cst_r9]
  refine v_sipush hX (v := 1000) 12 rfl (by decide) ?_
  refine v_icmp_ne hX (tgt := 31) 13 rfl (by decide) (fun c23 => ?_) (fun c23 => ?_)
  · skip
    refine v_aload_n hX 0 16 rfl rfl rfl ?_
    refine g_7_10 hX 17  tw_656 rfl ?_
    refine v_iload_n hX 1 18 rfl rfl rfl ?_
    refine v_iald hX (k := 279) (by decide) rfl (vp_in_nI (by omega) (by decide)) 19 rfl ?_
    rw [nI_clamp (by omega), cst_r9]
    refine v_iret hX hQ rfl rfl ?_ ?_ 20 rfl
    · simp only [c23, if_true, if_false]
    · rfl
  · skip
    refine v_bipush hX (v := (-6)) 14 rfl (by decide) ?_
    refine v_goto hX (tgt := 37) 15 rfl (by decide) ?_
    refine v_iret hX hQ rfl rfl ?_ ?_ 20 rfl
    · simp only [c23, if_true, if_false]
    · rfl
set_option maxRecDepth 100000 in
set_option maxHeartbeats 4000000 in
theorem r_toStand_no {Y : Yt} {M : Mm} {n : Nat} {x : Int32} (hz : M.1 271 3 = nI n) (hx : x < 0 ∨ nI n ≤ x) : Fn Y yX7_toStand wsX7_toStand { frames := 6, cells := 0, slots := 0, locals := 133 } [.ref (Y.2.2.2 270), .int x] M (some (.int (-1))) M := by
  refine Fn.of (cc := cX7_toStand) (ins := iX7_toStand) (maxL := 2) (ret := (some .int)) (by decide) dX7_toStand [some (.ref (Y.2.2.2 270)), some (.int x)] (Nat.le_of_ble_eq_true rfl) rfl rfl ?_
  intro X hX hQ
  refine v_aload_n hX 0 0 rfl rfl rfl ?_
  refine v_iload_n hX 1 1 rfl rfl rfl ?_
  refine v_callV hX 1 (by decide) rfl rfl (r_isPoint_no hz hx) tw_749 tw_746 tw_748 tw_58 tw_99 (by decide +kernel) ⟨⟨rfl, rfl⟩, Nat.le_of_ble_eq_true rfl, Nat.le_of_ble_eq_true rfl⟩ rfl (Nat.le_of_ble_eq_true rfl) rfl rfl 2 rfl ?_
  refine v_if_ne hX (tgt := 10) 3 rfl (by decide) (fun c5 => absurd c5 (fun g => g rfl)) (fun c5 => ?_)
  refine v_iconst hX (v := (-1)) 4 rfl (by decide) ?_
  refine v_iret hX hQ rfl rfl ?_ ?_ 5 rfl
  · rfl
  · rfl
set_option maxRecDepth 100000 in
set_option maxHeartbeats 4000000 in
theorem r_toStand {Y : Yt} {M : Mm} {i : Nat} {n : Nat} (hz : M.1 271 3 = nI n) (hn : n ≤ 24) (hw : WF (rp (M.1 271)) n) (hi : i < n) : Fn Y yX7_toStand wsX7_toStand { frames := 6, cells := 0, slots := 0, locals := 133 } [.ref (Y.2.2.2 270), .int (nI i)] M (some (.int (if inv (lkW M n i) 1 4 = true then -5 else if (lcS M n n).1 i = 1000 then -6 else (lcS M n n).1 i))) ((cst (lkM M n) (lcS M n n))) := by
  refine Fn.of (cc := cX7_toStand) (ins := iX7_toStand) (maxL := 2) (ret := (some .int)) (by decide) dX7_toStand [some (.ref (Y.2.2.2 270)), some (.int (nI i))] (Nat.le_of_ble_eq_true rfl) rfl rfl ?_
  intro X hX hQ
  refine v_aload_n hX 0 0 rfl rfl rfl ?_
  refine v_iload_n hX 1 1 rfl rfl rfl ?_
  refine v_callV hX 1 (by decide) rfl rfl (r_isPoint hz hn hi) tw_749 tw_746 tw_748 tw_58 tw_99 (by decide +kernel) ⟨⟨rfl, rfl⟩, Nat.le_of_ble_eq_true rfl, Nat.le_of_ble_eq_true rfl⟩ rfl (Nat.le_of_ble_eq_true rfl) rfl rfl 2 rfl ?_
  refine v_if_ne hX (tgt := 10) 3 rfl (by decide) (fun c5 => ?_) (fun c5 => absurd c5 (by decide))
  refine v_aload_n hX 0 6 rfl rfl rfl ?_
  refine v_callV hX 0 (by decide) rfl rfl (r_layCosts hz hn hw) tw_881 tw_878 tw_880 tw_80 tw_99 (by decide +kernel) ⟨⟨rfl, rfl⟩, Nat.le_of_ble_eq_true rfl, Nat.le_of_ble_eq_true rfl⟩ rfl (Nat.le_of_ble_eq_true rfl) rfl rfl 7 rfl ?_
  refine v_aload_n hX 0 8 rfl rfl rfl ?_
  refine g_7_7 hX 9  tw_653 rfl ?_
  refine v_iload_n hX 1 10 rfl rfl rfl ?_
  refine v_iald hX (k := 276) (by decide) rfl (vp_in_nI (by omega) (by decide)) 11 rfl ?_
  rw [nI_clamp (by omega), cst_n (by decide), lk_w]
  refine v_iconst hX (v := 1) 12 rfl (by decide) ?_
  refine v_iconst hX (v := 4) 13 rfl (by decide) ?_
  refine v_callS hX 3 (r_in) tw_703 tw_701 tw_702 tw_99 (by decide +kernel) ⟨⟨rfl, rfl⟩, Nat.le_of_ble_eq_true rfl, Nat.le_of_ble_eq_true rfl⟩ rfl (Nat.le_of_ble_eq_true rfl) rfl rfl 14 rfl ?_
  refine v_if_eq hX (tgt := 31) 15 rfl (by decide) (fun c25 => ?_) (fun c25 => ?_)
  · skip
    have q1 := b01_f c25
    refine v_aload_n hX 0 18 rfl rfl rfl ?_
    refine g_7_9 hX 19  tw_655 rfl ?_
    refine v_iload_n hX 1 20 rfl rfl rfl ?_
    refine v_iald hX (k := 278) (by decide) rfl (vp_in_nI (by omega) (by decide)) 21 rfl ?_
    rw [nI_clamp (by omega), cst_r8]
    refine v_sipush hX (v := 1000) 22 rfl (by decide) ?_
    refine v_icmp_ne hX (tgt := 48) 23 rfl (by decide) (fun c40 => ?_) (fun c40 => ?_)
    · skip
      refine v_aload_n hX 0 26 rfl rfl rfl ?_
      refine g_7_9 hX 27  tw_655 rfl ?_
      refine v_iload_n hX 1 28 rfl rfl rfl ?_
      refine v_iald hX (k := 278) (by decide) rfl (vp_in_nI (by omega) (by decide)) 29 rfl ?_
      rw [nI_clamp (by omega), cst_r8]
      refine v_iret hX hQ rfl rfl ?_ ?_ 30 rfl
      · rw [if_neg (by rw [q1]; decide)]; simp only [c40, if_true, if_false]
      · rfl
    · skip
      refine v_bipush hX (v := (-6)) 24 rfl (by decide) ?_
      refine v_goto hX (tgt := 54) 25 rfl (by decide) ?_
      refine v_iret hX hQ rfl rfl ?_ ?_ 30 rfl
      · rw [if_neg (by rw [q1]; decide)]; simp only [c40, if_true, if_false]
      · rfl
  · skip
    have q1 := b01_t c25
    refine v_bipush hX (v := (-5)) 16 rfl (by decide) ?_
    refine v_iret hX hQ rfl rfl ?_ ?_ 17 rfl
    · rw [if_pos q1]
    · rfl
set_option maxRecDepth 100000 in
set_option maxHeartbeats 4000000 in
theorem r_changesBy {Y : Yt} {M : Mm} {p : Nat} {n : Nat} (hz : M.1 271 3 = nI n) (hn : n ≤ 24) (hw : WF (rp (M.1 271)) n) : Fn Y yX7_changesBy wsX7_changesBy { frames := 5, cells := 0, slots := 0, locals := 107 } [.ref (Y.2.2.2 270), .int (nI p)] M (some (.int (nI (cnt (chP M n p) n)))) ((chM M n p)) := by
  have hzL : (lkM M n).1 271 3 = nI n := by rw [lk_z]; exact hz
  have hwL : WF (rp ((lkM M n).1 271)) n := by rw [lk_z]; exact hw
  have e1 : (wt (lkM M n) (wyR (lkM M n) n) (tkR (lkM M n) n)) = wt M (wyR M n) (tkR M n) := by rw [wy_lk, tk_lk]; unfold lkM; rw [wt_wt]
  have e2 : mrow (wt M (wyR M n) (tkR M n)) 276 (laR ((wt M (wyR M n) (tkR M n)).1 276) (nI p) (rp ((wt M (wyR M n) (tkR M n)).1 271)) n 0) = chM M n p := by unfold chM chW; rw [wt_r6, wt_z]; exact lk_norm.symm
  have hzC : (chM M n p).1 271 3 = nI n := by rw [ch_z]; exact hz
  refine Fn.of (cc := cX7_changesBy) (ins := iX7_changesBy) (maxL := 3) (ret := (some .int)) (by decide) dX7_changesBy [some (.ref (Y.2.2.2 270)), some (.int (nI p)), none] (Nat.le_of_ble_eq_true rfl) rfl rfl ?_
  intro X hX hQ
  refine v_aload_n hX 0 0 rfl rfl rfl ?_
  refine v_callV hX 0 (by decide) rfl rfl (r_look hz hn hw) tw_769 tw_766 tw_768 tw_62 tw_99 (by decide +kernel) ⟨⟨rfl, rfl⟩, Nat.le_of_ble_eq_true rfl, Nat.le_of_ble_eq_true rfl⟩ rfl (Nat.le_of_ble_eq_true rfl) rfl rfl 1 rfl ?_
  refine v_aload_n hX 0 2 rfl rfl rfl ?_
  refine v_callV hX 0 (by decide) rfl rfl (r_standing hzL hn) tw_793 tw_790 tw_792 tw_68 tw_99 (by decide +kernel) ⟨⟨rfl, rfl⟩, Nat.le_of_ble_eq_true rfl, Nat.le_of_ble_eq_true rfl⟩ rfl (Nat.le_of_ble_eq_true rfl) rfl rfl 3 rfl ?_
  rw [lk_w]
  refine v_aload_n hX 0 4 rfl rfl rfl ?_
  refine v_callV hX 0 (by decide) rfl rfl (r_claims hzL hn) tw_848 tw_845 tw_847 tw_76 tw_99 (by decide +kernel) ⟨⟨rfl, rfl⟩, Nat.le_of_ble_eq_true rfl, Nat.le_of_ble_eq_true rfl⟩ rfl (Nat.le_of_ble_eq_true rfl) rfl rfl 5 rfl ?_
  rw [lk_z]
  refine v_iand hX 6 rfl ?_
  rw [mk_and _ _ (by omega)]
  refine v_istore_n hX 2 7 rfl rfl (Nat.le_of_ble_eq_true rfl) rfl ?_
  refine v_aload_n hX 0 8 rfl rfl rfl ?_
  refine v_callV hX 0 (by decide) rfl rfl (r_layOut hzL hn hwL) tw_773 tw_770 tw_772 tw_63 tw_99 (by decide +kernel) ⟨⟨rfl, rfl⟩, Nat.le_of_ble_eq_true rfl, Nat.le_of_ble_eq_true rfl⟩ rfl (Nat.le_of_ble_eq_true rfl) rfl rfl 9 rfl ?_
  show V Y X (wt (lkM M n) (wyR (lkM M n) n) (tkR (lkM M n) n)) _ _ _
  rw [e1]
  refine v_aload_n hX 0 10 rfl rfl rfl ?_
  refine v_iload_n hX 1 11 rfl rfl rfl ?_
  refine v_callV hX 1 (by decide) rfl rfl (r_layAnswered (show (wt M (wyR M n) (tkR M n)).1 271 3 = nI n by rw [wt_z]; exact hz) hn) tw_789 tw_786 tw_788 tw_67 tw_99 (by decide +kernel) ⟨⟨rfl, rfl⟩, Nat.le_of_ble_eq_true rfl, Nat.le_of_ble_eq_true rfl⟩ rfl (Nat.le_of_ble_eq_true rfl) rfl rfl 12 rfl ?_
  rw [e2]
  refine v_iload_n hX 2 13 rfl rfl rfl ?_
  refine v_aload_n hX 0 14 rfl rfl rfl ?_
  refine v_callV hX 0 (by decide) rfl rfl (r_standing hzC hn) tw_793 tw_790 tw_792 tw_68 tw_99 (by decide +kernel) ⟨⟨rfl, rfl⟩, Nat.le_of_ble_eq_true rfl, Nat.le_of_ble_eq_true rfl⟩ rfl (Nat.le_of_ble_eq_true rfl) rfl rfl 15 rfl ?_
  refine v_aload_n hX 0 16 rfl rfl rfl ?_
  refine v_callV hX 0 (by decide) rfl rfl (r_claims hzC hn) tw_848 tw_845 tw_847 tw_76 tw_99 (by decide +kernel) ⟨⟨rfl, rfl⟩, Nat.le_of_ble_eq_true rfl, Nat.le_of_ble_eq_true rfl⟩ rfl (Nat.le_of_ble_eq_true rfl) rfl rfl 17 rfl ?_
  rw [ch_z, show (chM M n p).1 276 = chW M n p from wt_r6]
  refine v_iand hX 18 rfl ?_
  rw [mk_and _ _ (by omega)]
  refine v_ixor hX 19 rfl ?_
  rw [mk_xor _ _ (by omega)]
  refine v_callS hX 1 (r_bits hn) tw_796 tw_794 tw_795 tw_99 (by decide +kernel) ⟨⟨rfl, rfl⟩, Nat.le_of_ble_eq_true rfl, Nat.le_of_ble_eq_true rfl⟩ rfl (Nat.le_of_ble_eq_true rfl) rfl rfl 20 rfl ?_
  refine v_iret hX hQ rfl rfl ?_ ?_ 21 rfl
  · rfl
  · rfl
set_option maxRecDepth 100000 in
set_option maxHeartbeats 4000000 in
theorem r_best_bad {Y : Yt} {M : Mm} {w : Int32} (h : inv w 0 1 = false) : Fn Y yX7_bestAnswer wsX7_bestAnswer { frames := 6, cells := 0, slots := 0, locals := 129 } [.ref (Y.2.2.2 270), .int w] M (some (.int (-2))) M := by
  refine Fn.of (cc := cX7_bestAnswer) (ins := iX7_bestAnswer) (maxL := 6) (ret := (some .int)) (by decide) dX7_bestAnswer [some (.ref (Y.2.2.2 270)), some (.int w), none, none, none, none] (Nat.le_of_ble_eq_true rfl) rfl rfl ?_
  intro X hX hQ
  refine v_iload_n hX 1 0 rfl rfl rfl ?_
  refine v_iconst hX (v := 0) 1 rfl (by decide) ?_
  refine v_iconst hX (v := 1) 2 rfl (by decide) ?_
  refine v_callS hX 3 (r_in) tw_703 tw_701 tw_702 tw_99 (by decide +kernel) ⟨⟨rfl, rfl⟩, Nat.le_of_ble_eq_true rfl, Nat.le_of_ble_eq_true rfl⟩ rfl (Nat.le_of_ble_eq_true rfl) rfl rfl 3 rfl ?_
  rw [h]
  refine v_if_ne hX (tgt := 12) 4 rfl (by decide) (fun c6 => absurd c6 (fun g => g rfl)) (fun c6 => ?_)
  refine v_bipush hX (v := (-2)) 5 rfl (by decide) ?_
  refine v_iret hX hQ rfl rfl ?_ ?_ 6 rfl
  · rfl
  · rfl
set_option maxRecDepth 100000 in
set_option maxHeartbeats 4000000 in
theorem r_best {Y : Yt} {M : Mm} {w : Int32} (h : inv w 0 1 = true) {n : Nat} (hz : M.1 271 3 = nI n) (hn : n ≤ 24) (hw : WF (rp (M.1 271)) n) : Fn Y yX7_bestAnswer wsX7_bestAnswer { frames := 6, cells := 0, slots := 0, locals := 129 } [.ref (Y.2.2.2 270), .int w] M (some (.int (if w = 0 then (rbS M n n).2.1 else (rbS M n n).2.2))) ((rbS M n n).1) := by
  refine Fn.of (cc := cX7_bestAnswer) (ins := iX7_bestAnswer) (maxL := 6) (ret := (some .int)) (by decide) dX7_bestAnswer [some (.ref (Y.2.2.2 270)), some (.int w), none, none, none, none] (Nat.le_of_ble_eq_true rfl) rfl rfl ?_
  intro X hX hQ
  refine v_iload_n hX 1 0 rfl rfl rfl ?_
  refine v_iconst hX (v := 0) 1 rfl (by decide) ?_
  refine v_iconst hX (v := 1) 2 rfl (by decide) ?_
  refine v_callS hX 3 (r_in) tw_703 tw_701 tw_702 tw_99 (by decide +kernel) ⟨⟨rfl, rfl⟩, Nat.le_of_ble_eq_true rfl, Nat.le_of_ble_eq_true rfl⟩ rfl (Nat.le_of_ble_eq_true rfl) rfl rfl 3 rfl ?_
  rw [h]
  refine v_if_ne hX (tgt := 12) 4 rfl (by decide) (fun c6 => ?_) (fun c6 => absurd c6 (by decide))
  refine v_bipush hX (v := (-6)) 7 rfl (by decide) ?_
  refine v_istore_n hX 2 8 rfl rfl (Nat.le_of_ble_eq_true rfl) rfl ?_
  refine v_bipush hX (v := (-6)) 9 rfl (by decide) ?_
  refine v_istore_n hX 3 10 rfl rfl (Nat.le_of_ble_eq_true rfl) rfl ?_
  refine v_iconst hX (v := 0) 11 rfl (by decide) ?_
  refine v_istore hX 12 rfl (Nat.le_of_ble_eq_true rfl) rfl ?_
  have lp : ∀ (k : Nat), k ≤ n → V Y X (rbS M n k).1 21 [some (.ref (Y.2.2.2 270)), some (.int w), some (.int (rbS M n k).2.1), some (.int (rbS M n k).2.2), some (.int (nI k)), none] [] := by
    refine upTo n (fun k hk ih => ?_)
    have hzk : (rbS M n k).1.1 271 3 = nI n := by rw [rbS_z]; exact hz
    have hwk : WF (rp ((rbS M n k).1.1 271)) n := by rw [rbS_z]; exact hw
    have hzl : (lkM (rbS M n k).1 n).1 271 3 = nI n := by rw [lk_z]; exact hzk
    have hwl : WF (rp ((lkM (rbS M n k).1 n).1 271)) n := by rw [lk_z]; exact hwk
    refine v_iload hX 13 rfl rfl ?_
    refine v_aload_n hX 0 14 rfl rfl rfl ?_
    refine g_7_0 hX 15  tw_646 rfl ?_
    refine v_iconst hX (v := 3) 16 rfl (by decide) ?_
    refine v_iald hX (k := 271) (by decide) rfl (vp_in_nI (n := 3) (by decide) (by decide)) 17 rfl ?_
    rw [show (rbS M n k).1.1 271 (Int32.toNatClampNeg 3) = nI n from hzk]
    refine v_icmp_ge hX (tgt := 100) 18 rfl (by decide) (fun c29 => ?_) (fun c29 => ?_)
    · skip
      have hk2 : k = n := by have := of_le c29 (by omega) (by omega); omega
      rw [hk2]
      refine v_iload_n hX 1 53 rfl rfl rfl ?_
      refine v_if_ne hX (tgt := 108) 54 rfl (by decide) (fun c101 => ?_) (fun c101 => ?_)
      · skip
        refine v_iload_n hX 3 57 rfl rfl rfl ?_
        refine v_iret hX hQ rfl rfl ?_ ?_ 58 rfl
        · simp only [c101, if_true, if_false]
        · rfl
      · skip
        refine v_iload_n hX 2 55 rfl rfl rfl ?_
        refine v_goto hX (tgt := 109) 56 rfl (by decide) ?_
        refine v_iret hX hQ rfl rfl ?_ ?_ 58 rfl
        · simp only [c101, if_true, if_false]
        · rfl
    · skip
      have hk2 : k < n := of_nle c29 (by omega) (by omega)
      refine v_aload_n hX 0 19 rfl rfl rfl ?_
      refine v_callV hX 0 (by decide) rfl rfl (r_look hzk hn hwk) tw_769 tw_766 tw_768 tw_62 tw_99 (by decide +kernel) ⟨⟨rfl, rfl⟩, Nat.le_of_ble_eq_true rfl, Nat.le_of_ble_eq_true rfl⟩ rfl (Nat.le_of_ble_eq_true rfl) rfl rfl 20 rfl ?_
      refine v_aload_n hX 0 21 rfl rfl rfl ?_
      refine g_7_7 hX 22  tw_653 rfl ?_
      refine v_iload hX 23 rfl rfl ?_
      refine v_iald hX (k := 276) (by decide) rfl (vp_in_nI (by omega) (by decide)) 24 rfl ?_
      rw [nI_clamp (by omega), lk_w]
      refine v_iconst hX (v := 1) 25 rfl (by decide) ?_
      refine v_iconst hX (v := 4) 26 rfl (by decide) ?_
      refine v_callS hX 3 (r_in) tw_703 tw_701 tw_702 tw_99 (by decide +kernel) ⟨⟨rfl, rfl⟩, Nat.le_of_ble_eq_true rfl, Nat.le_of_ble_eq_true rfl⟩ rfl (Nat.le_of_ble_eq_true rfl) rfl rfl 27 rfl ?_
      refine v_if_ne hX (tgt := 94) 28 rfl (by decide) (fun c48 => ?_) (fun c48 => ?_)
      · skip
        have q1 := b01_t c48
        have hs : rbS M n (k + 1) = (lkM (rbS M n k).1 n, (rbS M n k).2) := by rw [rbS, if_neg (fun g => by rw [q1] at g; cases g.1)]
        refine v_iinc hX 51 rfl rfl (nI_inc k) (Nat.le_of_ble_eq_true rfl) rfl ?_
        refine v_goto hX (tgt := 21) 52 rfl (by decide) ?_
        refine V.subM (ih hk2) ?_ rfl ⟨rfl, rfl, (by first | rfl | (refine congrArg (fun z : Int32 => some (Value.int z)) ?_; rw [hs]; first | done | exact hv | exact (if_pos c84).symm | exact (if_neg c84).symm)), (by first | rfl | (refine congrArg (fun z : Int32 => some (Value.int z)) ?_; rw [hs]; first | done | exact hv | exact (if_pos c84).symm | exact (if_neg c84).symm)), rfl, trivial⟩
        rw [hs]
      · skip
        have q1 := b01_f c48
        refine v_aload_n hX 0 29 rfl rfl rfl ?_
        refine v_iload hX 30 rfl rfl ?_
        refine v_callV hX 1 (by decide) rfl rfl (r_answersTo hzl hn) tw_832 tw_829 tw_831 tw_73 tw_99 (by decide +kernel) ⟨⟨rfl, rfl⟩, Nat.le_of_ble_eq_true rfl, Nat.le_of_ble_eq_true rfl⟩ rfl (Nat.le_of_ble_eq_true rfl) rfl rfl 31 rfl ?_
        rw [lk_z, rbS_z]
        refine v_if_ne hX (tgt := 94) 32 rfl (by decide) (fun c57 => ?_) (fun c57 => ?_)
        · skip
          have hs : rbS M n (k + 1) = (lkM (rbS M n k).1 n, (rbS M n k).2) := by rw [rbS, if_neg (fun g => c57 g.2)]
          refine v_iinc hX 51 rfl rfl (nI_inc k) (Nat.le_of_ble_eq_true rfl) rfl ?_
          refine v_goto hX (tgt := 21) 52 rfl (by decide) ?_
          refine V.subM (ih hk2) ?_ rfl ⟨rfl, rfl, (by first | rfl | (refine congrArg (fun z : Int32 => some (Value.int z)) ?_; rw [hs]; first | done | exact hv | exact (if_pos c84).symm | exact (if_neg c84).symm)), (by first | rfl | (refine congrArg (fun z : Int32 => some (Value.int z)) ?_; rw [hs]; first | done | exact hv | exact (if_pos c84).symm | exact (if_neg c84).symm)), rfl, trivial⟩
          rw [hs]
        · skip
          have hs : rbS M n (k + 1) = (chM (lkM (rbS M n k).1 n) n k, if nI (cnt (chP (lkM (rbS M n k).1 n) n k) n) ≤ (rbS M n k).2.2 then (rbS M n k).2.1 else nI k, if nI (cnt (chP (lkM (rbS M n k).1 n) n k) n) ≤ (rbS M n k).2.2 then (rbS M n k).2.2 else nI (cnt (chP (lkM (rbS M n k).1 n) n k) n)) := by rw [rbS, if_pos ⟨q1, c57⟩]
          refine v_aload_n hX 0 33 rfl rfl rfl ?_
          refine v_iload hX 34 rfl rfl ?_
          refine v_callV hX 1 (by decide) rfl rfl (r_changesBy (p := k) hzl hn hwl) tw_893 tw_890 tw_892 tw_81 tw_99 (by decide +kernel) ⟨⟨rfl, rfl⟩, Nat.le_of_ble_eq_true rfl, Nat.le_of_ble_eq_true rfl⟩ rfl (Nat.le_of_ble_eq_true rfl) rfl rfl 35 rfl ?_
          refine v_istore hX 36 rfl (Nat.le_of_ble_eq_true rfl) rfl ?_
          have j80 : ∀ (v : Int32), v = (if nI (cnt (chP (lkM (rbS M n k).1 n) n k) n) ≤ (rbS M n k).2.2 then (rbS M n k).2.1 else nI k) → V Y X (chM (lkM (rbS M n k).1 n) n k) 80 [some (.ref (Y.2.2.2 270)), some (.int w), some (.int (rbS M n k).2.1), some (.int (rbS M n k).2.2), some (.int (nI k)), some (.int (nI (cnt (chP (lkM (rbS M n k).1 n) n k) n)))] [.int v] := by
            intro v hv
            refine v_istore_n hX 2 43 rfl rfl (Nat.le_of_ble_eq_true rfl) rfl ?_
            refine v_iload hX 44 rfl rfl ?_
            refine v_iload_n hX 3 45 rfl rfl rfl ?_
            refine v_icmp_le hX (tgt := 92) 46 rfl (by decide) (fun c84 => ?_) (fun c84 => ?_)
            · skip
              refine v_iload_n hX 3 49 rfl rfl rfl ?_
              refine v_istore_n hX 3 50 rfl rfl (Nat.le_of_ble_eq_true rfl) rfl ?_
              refine v_iinc hX 51 rfl rfl (nI_inc k) (Nat.le_of_ble_eq_true rfl) rfl ?_
              refine v_goto hX (tgt := 21) 52 rfl (by decide) ?_
              refine V.subM (ih hk2) ?_ rfl ⟨rfl, rfl, (by first | rfl | (refine congrArg (fun z : Int32 => some (Value.int z)) ?_; rw [hs]; first | done | exact hv | exact (if_pos c84).symm | exact (if_neg c84).symm)), (by first | rfl | (refine congrArg (fun z : Int32 => some (Value.int z)) ?_; rw [hs]; first | done | exact hv | exact (if_pos c84).symm | exact (if_neg c84).symm)), rfl, trivial⟩
              rw [hs]
            · skip
              refine v_iload hX 47 rfl rfl ?_
              refine v_goto hX (tgt := 93) 48 rfl (by decide) ?_
              refine v_istore_n hX 3 50 rfl rfl (Nat.le_of_ble_eq_true rfl) rfl ?_
              refine v_iinc hX 51 rfl rfl (nI_inc k) (Nat.le_of_ble_eq_true rfl) rfl ?_
              refine v_goto hX (tgt := 21) 52 rfl (by decide) ?_
              refine V.subM (ih hk2) ?_ rfl ⟨rfl, rfl, (by first | rfl | (refine congrArg (fun z : Int32 => some (Value.int z)) ?_; rw [hs]; first | done | exact hv | exact (if_pos c84).symm | exact (if_neg c84).symm)), (by first | rfl | (refine congrArg (fun z : Int32 => some (Value.int z)) ?_; rw [hs]; first | done | exact hv | exact (if_pos c84).symm | exact (if_neg c84).symm)), rfl, trivial⟩
              rw [hs]
          refine v_iload hX 37 rfl rfl ?_
          refine v_iload_n hX 3 38 rfl rfl rfl ?_
          refine v_icmp_le hX (tgt := 79) 39 rfl (by decide) (fun c71 => ?_) (fun c71 => ?_)
          · skip
            refine v_iload_n hX 2 42 rfl rfl rfl ?_
            exact V.sub (j80 _ (by rw [if_pos c71])) rfl ⟨rfl, rfl, rfl, rfl, rfl, rfl, trivial⟩
          · skip
            refine v_iload hX 40 rfl rfl ?_
            refine v_goto hX (tgt := 80) 41 rfl (by decide) ?_
            exact V.sub (j80 _ (by rw [if_neg c71])) rfl ⟨rfl, rfl, rfl, rfl, rfl, rfl, trivial⟩
  refine V.subM (lp 0 (Nat.zero_le _)) ?_ rfl ⟨rfl, rfl, (by first | rfl | (refine congrArg (fun z : Int32 => some (Value.int z)) ?_; rfl)), (by first | rfl | (refine congrArg (fun z : Int32 => some (Value.int z)) ?_; rfl)), rfl, trivial⟩
  rfl
set_option maxRecDepth 100000 in
set_option maxHeartbeats 4000000 in
theorem r_changesIn {Y : Yt} {M : Mm} {n : Nat} (hz : M.1 271 3 = nI n) (hn : n ≤ 24) (hw : WF (rp (M.1 271)) n) : Fn Y yX7_changesIn wsX7_changesIn { frames := 5, cells := 0, slots := 0, locals := 107 } [.ref (Y.2.2.2 270)] M (some (.int (rci n (mk (stW M n) n) 100 1 (lkM M n)).1)) ((mset (rci n (mk (stW M n) n) 100 1 (lkM M n)).2 271 2 (M.1 271 2))) := by
  have hzL : (lkM M n).1 271 3 = nI n := by rw [lk_z]; exact hz
  have hwL : WF (rp ((lkM M n).1 271)) n := by rw [lk_z]; exact hw
  refine Fn.of (cc := cX7_changesIn) (ins := iX7_changesIn) (maxL := 5) (ret := (some .int)) (by decide) dX7_changesIn [some (.ref (Y.2.2.2 270)), none, none, none, none] (Nat.le_of_ble_eq_true rfl) rfl rfl ?_
  intro X hX hQ
  refine v_aload_n hX 0 0 rfl rfl rfl ?_
  refine v_callV hX 0 (by decide) rfl rfl (r_look hz hn hw) tw_769 tw_766 tw_768 tw_62 tw_99 (by decide +kernel) ⟨⟨rfl, rfl⟩, Nat.le_of_ble_eq_true rfl, Nat.le_of_ble_eq_true rfl⟩ rfl (Nat.le_of_ble_eq_true rfl) rfl rfl 1 rfl ?_
  refine v_aload_n hX 0 2 rfl rfl rfl ?_
  refine v_callV hX 0 (by decide) rfl rfl (r_standing hzL hn) tw_793 tw_790 tw_792 tw_68 tw_99 (by decide +kernel) ⟨⟨rfl, rfl⟩, Nat.le_of_ble_eq_true rfl, Nat.le_of_ble_eq_true rfl⟩ rfl (Nat.le_of_ble_eq_true rfl) rfl rfl 3 rfl ?_
  rw [lk_w]
  show V Y X _ _ _ (.int (mk (stW M n) n) :: _)
  refine v_istore_n hX 1 4 rfl rfl (Nat.le_of_ble_eq_true rfl) rfl ?_
  refine v_aload_n hX 0 5 rfl rfl rfl ?_
  refine g_7_0 hX 6  tw_646 rfl ?_
  refine v_iconst hX (v := 2) 7 rfl (by decide) ?_
  refine v_iald hX (k := 271) (by decide) rfl (vp_in_nI (n := 2) (by decide) (by decide)) 8 rfl ?_
  rw [lk_z]
  refine v_istore_n hX 2 9 rfl rfl (Nat.le_of_ble_eq_true rfl) rfl ?_
  refine v_bipush hX (v := (-6)) 10 rfl (by decide) ?_
  refine v_istore_n hX 3 11 rfl rfl (Nat.le_of_ble_eq_true rfl) rfl ?_
  refine v_iconst hX (v := 1) 12 rfl (by decide) ?_
  refine v_istore hX 13 rfl (Nat.le_of_ble_eq_true rfl) rfl ?_
  have lp : ∀ (d : Nat), d ≤ 100 → ∀ (B : Mm) (v : Int32), B.1 271 3 = nI n → WF (rp (B.1 271)) n → ((v = -6 ∧ rci n (mk (stW M n) n) (100 - d) (d + 1) B = (rci n (mk (stW M n) n) 100 1 (lkM M n))) ∨ (¬ v = -6 ∧ (v, B) = (rci n (mk (stW M n) n) 100 1 (lkM M n)))) → V Y X B 22 [some (.ref (Y.2.2.2 270)), some (.int (mk (stW M n) n)), some (.int (M.1 271 2)), some (.int v), some (.int (nI (d + 1)))] [] := by
    refine upTo 100 (fun d hd ih => ?_)
    intro B v hzb hwb he
    refine v_iload hX 14 rfl rfl ?_
    refine v_bipush hX (v := 100) 15 rfl (by decide) ?_
    refine v_icmp_gt hX (tgt := 71) 16 rfl (by decide) (fun c26 => ?_) (fun c26 => ?_)
    · skip
      have hd2 : d = 100 := by have := of_lt (a := 100) c26 (by omega) (by omega); omega
      have hfin : (v, B) = (rci n (mk (stW M n) n) 100 1 (lkM M n)) := he.elim (fun h => by rw [← h.2, hd2, h.1]; rfl) (fun h => h.2)
      refine v_aload_n hX 0 40 rfl rfl rfl ?_
      refine g_7_0 hX 41  tw_646 rfl ?_
      refine v_iconst hX (v := 2) 42 rfl (by decide) ?_
      refine v_iload_n hX 2 43 rfl rfl rfl ?_
      refine v_iast hX (k := 271) (by decide) rfl rfl (vp_in_nI (n := 2) (by decide) (by decide)) rfl 44 rfl ?_
      refine v_iload_n hX 3 45 rfl rfl rfl ?_
      refine v_iret hX hQ rfl rfl ?_ ?_ 46 rfl
      · rw [← hfin]
      · rw [← hfin]; rfl
    · skip
      have hd2 : d < 100 := by have := of_nlt (a := 100) c26 (by omega) (by omega); omega
      refine v_iload_n hX 3 17 rfl rfl rfl ?_
      refine v_bipush hX (v := (-6)) 18 rfl (by decide) ?_
      refine v_icmp_ne hX (tgt := 71) 19 rfl (by decide) (fun c32 => ?_) (fun c32 => ?_)
      · skip
        have hfin : (v, B) = (rci n (mk (stW M n) n) 100 1 (lkM M n)) := (he.resolve_left (fun g => c32 g.1)).2
        refine v_aload_n hX 0 40 rfl rfl rfl ?_
        refine g_7_0 hX 41  tw_646 rfl ?_
        refine v_iconst hX (v := 2) 42 rfl (by decide) ?_
        refine v_iload_n hX 2 43 rfl rfl rfl ?_
        refine v_iast hX (k := 271) (by decide) rfl rfl (vp_in_nI (n := 2) (by decide) (by decide)) rfl 44 rfl ?_
        refine v_iload_n hX 3 45 rfl rfl rfl ?_
        refine v_iret hX hQ rfl rfl ?_ ?_ 46 rfl
        · rw [← hfin]
        · rw [← hfin]; rfl
      · skip
        have he1 := (he.resolve_right (fun g => g.1 c32)).2
        obtain ⟨f, hf⟩ : ∃ f, 100 - d = f + 1 := ⟨99 - d, by omega⟩
        rw [hf, rci] at he1
        have hzB : (mset B 271 2 (B.1 271 2 + 1)).1 271 3 = nI n := by rw [mset_271 (by decide)]; exact hzb
        have hwB : WF (rp ((mset B 271 2 (B.1 271 2 + 1)).1 271)) n := by rw [mset_s]; exact WFr_hd (by decide) hwb
        have hzC : (lkM (mset B 271 2 (B.1 271 2 + 1)) n).1 271 3 = nI n := by rw [lk_z]; exact hzB
        have hwC : WF (rp ((lkM (mset B 271 2 (B.1 271 2 + 1)) n).1 271)) n := by rw [lk_z]; exact hwB
        refine v_aload_n hX 0 20 rfl rfl rfl ?_
        refine g_7_0 hX 21  tw_646 rfl ?_
        refine v_iconst hX (v := 2) 22 rfl (by decide) ?_
        refine v_dup2 hX 23 rfl rfl rfl ?_
        refine v_iald hX (k := 271) (by decide) rfl (vp_in_nI (n := 2) (by decide) (by decide)) 24 rfl ?_
        refine v_iconst hX (v := 1) 25 rfl (by decide) ?_
        refine v_iadd hX 26 rfl ?_
        refine v_iast hX (k := 271) (by decide) rfl rfl (vp_in_nI (n := 2) (by decide) (by decide)) rfl 27 rfl ?_
        refine V.mem (M2 := (mset B 271 2 (B.1 271 2 + 1))) rfl ?_
        refine v_aload_n hX 0 28 rfl rfl rfl ?_
        refine v_callV hX 0 (by decide) rfl rfl (r_look hzB hn hwB) tw_769 tw_766 tw_768 tw_62 tw_99 (by decide +kernel) ⟨⟨rfl, rfl⟩, Nat.le_of_ble_eq_true rfl, Nat.le_of_ble_eq_true rfl⟩ rfl (Nat.le_of_ble_eq_true rfl) rfl rfl 29 rfl ?_
        refine v_aload_n hX 0 30 rfl rfl rfl ?_
        refine v_callV hX 0 (by decide) rfl rfl (r_standing hzC hn) tw_793 tw_790 tw_792 tw_68 tw_99 (by decide +kernel) ⟨⟨rfl, rfl⟩, Nat.le_of_ble_eq_true rfl, Nat.le_of_ble_eq_true rfl⟩ rfl (Nat.le_of_ble_eq_true rfl) rfl rfl 31 rfl ?_
        rw [lk_w]
        show V Y X _ _ _ (.int (mk (stW (mset B 271 2 (B.1 271 2 + 1)) n) n) :: _)
        refine v_iload_n hX 1 32 rfl rfl rfl ?_
        refine v_icmp_ne hX (tgt := 62) 33 rfl (by decide) (fun c54 => ?_) (fun c54 => ?_)
        · skip
          rw [if_neg c54] at he1
          have hne : ¬ nI (d + 1) = -6 := (by decide +kernel : ∀ d, d < 101 → ¬ nI (d + 1) = -6) d (by omega)
          refine v_iload hX 36 rfl rfl ?_
          refine v_istore_n hX 3 37 rfl rfl (Nat.le_of_ble_eq_true rfl) rfl ?_
          refine v_iinc hX 38 rfl rfl (nI_inc (d + 1)) (Nat.le_of_ble_eq_true rfl) rfl ?_
          refine v_goto hX (tgt := 22) 39 rfl (by decide) ?_
          exact V.sub (ih hd2 (lkM (mset B 271 2 (B.1 271 2 + 1)) n) _ hzC hwC (by first | exact Or.inr ⟨hne, he1⟩ | exact Or.inl ⟨rfl, by rw [show 100 - (d + 1) = f by omega]; exact he1⟩)) rfl ⟨rfl, rfl, rfl, rfl, rfl, trivial⟩
        · skip
          rw [if_pos c54] at he1
          refine v_bipush hX (v := (-6)) 34 rfl (by decide) ?_
          refine v_goto hX (tgt := 64) 35 rfl (by decide) ?_
          refine v_istore_n hX 3 37 rfl rfl (Nat.le_of_ble_eq_true rfl) rfl ?_
          refine v_iinc hX 38 rfl rfl (nI_inc (d + 1)) (Nat.le_of_ble_eq_true rfl) rfl ?_
          refine v_goto hX (tgt := 22) 39 rfl (by decide) ?_
          exact V.sub (ih hd2 (lkM (mset B 271 2 (B.1 271 2 + 1)) n) _ hzC hwC (by first | exact Or.inr ⟨hne, he1⟩ | exact Or.inl ⟨rfl, by rw [show 100 - (d + 1) = f by omega]; exact he1⟩)) rfl ⟨rfl, rfl, rfl, rfl, rfl, trivial⟩
  exact V.sub (lp 0 (Nat.zero_le _) (lkM M n) _ hzL hwL (Or.inl ⟨rfl, rfl⟩)) rfl ⟨rfl, rfl, rfl, rfl, rfl, trivial⟩
set_option maxRecDepth 100000 in
set_option maxHeartbeats 4000000 in
theorem r_leastPages {Y : Yt} {M : Mm} {n : Nat} (hz : M.1 271 3 = nI n) (hn : n ≤ 24) : Fn Y yX7_leastPages wsX7_leastPages { frames := 2, cells := 0, slots := 0, locals := 43 } [.ref (Y.2.2.2 270)] M (some (.int (if 99 < rlN (M.1 271) n 2 then -6 else rlN (M.1 271) n 2))) M := by
  refine Fn.of (cc := cX7_leastPages) (ins := iX7_leastPages) (maxL := 5) (ret := (some .int)) (by decide) dX7_leastPages [some (.ref (Y.2.2.2 270)), none, none, none, none] (Nat.le_of_ble_eq_true rfl) rfl rfl ?_
  intro X hX hQ
  refine v_iconst hX (v := 1) 0 rfl (by decide) ?_
  refine v_istore_n hX 1 1 rfl rfl (Nat.le_of_ble_eq_true rfl) rfl ?_
  refine v_iconst hX (v := 0) 2 rfl (by decide) ?_
  refine v_istore_n hX 2 3 rfl rfl (Nat.le_of_ble_eq_true rfl) rfl ?_
  have lp : ∀ (s : Nat), s ≤ 2 → V Y X M 4 [some (.ref (Y.2.2.2 270)), some (.int (rlN (M.1 271) n s)), some (.int (nI s)), none, none] [] := by
    refine upTo 2 (fun s hs ih => ?_)
    refine v_iload_n hX 2 4 rfl rfl rfl ?_
    refine v_iconst hX (v := 2) 5 rfl (by decide) ?_
    refine v_icmp_ge hX (tgt := 82) 6 rfl (by decide) (fun c6 => ?_) (fun c6 => ?_)
    · skip
      have hs2 : s = 2 := by have := of_le (a := 2) c6 (by omega) (by omega); omega
      rw [hs2]
      refine v_iload_n hX 1 47 rfl rfl rfl ?_
      refine v_bipush hX (v := 99) 48 rfl (by decide) ?_
      refine v_icmp_gt hX (tgt := 92) 49 rfl (by decide) (fun c85 => ?_) (fun c85 => ?_)
      · skip
        refine v_bipush hX (v := (-6)) 52 rfl (by decide) ?_
        refine v_iret hX hQ rfl rfl ?_ ?_ 53 rfl
        · simp only [c85, if_true, if_false]
        · rfl
      · skip
        refine v_iload_n hX 1 50 rfl rfl rfl ?_
        refine v_goto hX (tgt := 94) 51 rfl (by decide) ?_
        refine v_iret hX hQ rfl rfl ?_ ?_ 53 rfl
        · simp only [c85, if_true, if_false]
        · rfl
    · skip
      have hs2 : s < 2 := of_nle (a := 2) c6 (by omega) (by omega)
      refine v_iconst hX (v := 0) 7 rfl (by decide) ?_
      refine v_istore_n hX 3 8 rfl rfl (Nat.le_of_ble_eq_true rfl) rfl ?_
      refine v_iconst hX (v := 0) 9 rfl (by decide) ?_
      refine v_istore hX 10 rfl (Nat.le_of_ble_eq_true rfl) rfl ?_
      have lq : ∀ (k : Nat), k ≤ n → V Y X M 14 [some (.ref (Y.2.2.2 270)), some (.int (rlN (M.1 271) n s)), some (.int (nI s)), some (.int (smR (rp (M.1 271)) (nI s) (M.1 271) k)), some (.int (nI k))] [] := by
        refine upTo n (fun k hk ihq => ?_)
        refine v_iload hX 11 rfl rfl ?_
        refine v_aload_n hX 0 12 rfl rfl rfl ?_
        refine g_7_0 hX 13  tw_646 rfl ?_
        refine v_iconst hX (v := 3) 14 rfl (by decide) ?_
        refine v_iald hX (k := 271) (by decide) rfl (vp_in_nI (n := 3) (by decide) (by decide)) 15 rfl ?_
        refine v_icmp_ge hX (tgt := 65) 16 rfl (by decide) (fun c22 => ?_) (fun c22 => ?_)
        · skip
          have hk2 : k = n := by have h5 : M.1 271 3 ≤ nI k := c22; rw [hz] at h5; have := of_le h5 (by omega) (by omega); omega
          refine v_iload_n hX 3 38 rfl rfl rfl ?_
          refine v_iload_n hX 1 39 rfl rfl rfl ?_
          refine v_icmp_le hX (tgt := 74) 40 rfl (by decide) (fun c67 => ?_) (fun c67 => ?_)
          · skip
            refine v_iload_n hX 1 43 rfl rfl rfl ?_
            refine v_istore_n hX 1 44 rfl rfl (Nat.le_of_ble_eq_true rfl) rfl ?_
            refine v_iinc hX 45 rfl rfl (nI_inc s) (Nat.le_of_ble_eq_true rfl) rfl ?_
            refine v_goto hX (tgt := 4) 46 rfl (by decide) ?_
            exact V.sub (ih hs2) rfl ⟨rfl, (by first | rfl | (refine congrArg (fun z : Int32 => some (Value.int z)) ?_; rw [rlN]; rw [hk2] at *; first | (rw [if_pos c67]; done) | (rw [if_neg c67]))), rfl, trivial⟩
          · skip
            refine v_iload_n hX 3 41 rfl rfl rfl ?_
            refine v_goto hX (tgt := 75) 42 rfl (by decide) ?_
            refine v_istore_n hX 1 44 rfl rfl (Nat.le_of_ble_eq_true rfl) rfl ?_
            refine v_iinc hX 45 rfl rfl (nI_inc s) (Nat.le_of_ble_eq_true rfl) rfl ?_
            refine v_goto hX (tgt := 4) 46 rfl (by decide) ?_
            exact V.sub (ih hs2) rfl ⟨rfl, (by first | rfl | (refine congrArg (fun z : Int32 => some (Value.int z)) ?_; rw [rlN]; rw [hk2] at *; first | (rw [if_pos c67]; done) | (rw [if_neg c67]))), rfl, trivial⟩
        · skip
          have hk2 : k < n := by have h5 : ¬ M.1 271 3 ≤ nI k := c22; rw [hz] at h5; exact of_nle h5 (by omega) (by omega)
          have j57 : ∀ (v : Int32), v = (if rp (M.1 271) k 0 = nI s ∧ wd1 (M.1 271) k = false then rp (M.1 271) k 1 else 0) → V Y X M 57 [some (.ref (Y.2.2.2 270)), some (.int (rlN (M.1 271) n s)), some (.int (nI s)), some (.int (smR (rp (M.1 271)) (nI s) (M.1 271) k)), some (.int (nI k))] [.int v, .int (smR (rp (M.1 271)) (nI s) (M.1 271) k)] := by
            intro v hv
            refine v_iadd hX 34 rfl ?_
            refine v_istore_n hX 3 35 rfl rfl (Nat.le_of_ble_eq_true rfl) rfl ?_
            refine v_iinc hX 36 rfl rfl (nI_inc k) (Nat.le_of_ble_eq_true rfl) rfl ?_
            refine v_goto hX (tgt := 14) 37 rfl (by decide) ?_
            exact V.sub (ihq hk2) rfl ⟨rfl, rfl, rfl, (by first | rfl | (refine congrArg (fun z : Int32 => some (Value.int z)) ?_; rw [hv]; rfl)), rfl, trivial⟩
          refine v_iload_n hX 3 17 rfl rfl rfl ?_
          refine v_aload_n hX 0 18 rfl rfl rfl ?_
          refine v_iload hX 19 rfl rfl ?_
          refine v_iconst hX (v := 0) 20 rfl (by decide) ?_
          refine v_callV hX 2 (by decide) rfl rfl (r_its (w := 0) (show k < 24 by omega) (by decide)) tw_757 tw_754 tw_756 tw_60 tw_99 (by decide +kernel) ⟨⟨rfl, rfl⟩, Nat.le_of_ble_eq_true rfl, Nat.le_of_ble_eq_true rfl⟩ rfl (Nat.le_of_ble_eq_true rfl) rfl rfl 21 rfl ?_
          refine v_iload_n hX 2 22 rfl rfl rfl ?_
          refine v_icmp_ne hX (tgt := 56) 23 rfl (by decide) (fun c34 => ?_) (fun c34 => ?_)
          · skip
            have q1 : ¬ rp (M.1 271) k 0 = nI s := c34
            refine v_iconst hX (v := 0) 33 rfl (by decide) ?_
            exact V.sub (j57 _ (by first | rw [if_neg (fun g => q1 g.1)] | rw [if_neg (fun g => by rw [q2] at g; cases g.2)])) rfl ⟨rfl, rfl, rfl, rfl, rfl, trivial⟩
          · skip
            have q1 : rp (M.1 271) k 0 = nI s := c34
            refine v_aload_n hX 0 24 rfl rfl rfl ?_
            refine v_iload hX 25 rfl rfl ?_
            refine v_callV hX 1 (by decide) rfl rfl (r_isWd (show k < 24 by omega)) tw_753 tw_750 tw_752 tw_59 tw_99 (by decide +kernel) ⟨⟨rfl, rfl⟩, Nat.le_of_ble_eq_true rfl, Nat.le_of_ble_eq_true rfl⟩ rfl (Nat.le_of_ble_eq_true rfl) rfl rfl 26 rfl ?_
            refine v_if_ne hX (tgt := 56) 27 rfl (by decide) (fun c43 => ?_) (fun c43 => ?_)
            · skip
              have q2 := b01_t c43
              refine v_iconst hX (v := 0) 33 rfl (by decide) ?_
              exact V.sub (j57 _ (by first | rw [if_neg (fun g => q1 g.1)] | rw [if_neg (fun g => by rw [q2] at g; cases g.2)])) rfl ⟨rfl, rfl, rfl, rfl, rfl, trivial⟩
            · skip
              have q2 := b01_f c43
              refine v_aload_n hX 0 28 rfl rfl rfl ?_
              refine v_iload hX 29 rfl rfl ?_
              refine v_iconst hX (v := 1) 30 rfl (by decide) ?_
              refine v_callV hX 2 (by decide) rfl rfl (r_its (w := 1) (show k < 24 by omega) (by decide)) tw_757 tw_754 tw_756 tw_60 tw_99 (by decide +kernel) ⟨⟨rfl, rfl⟩, Nat.le_of_ble_eq_true rfl, Nat.le_of_ble_eq_true rfl⟩ rfl (Nat.le_of_ble_eq_true rfl) rfl rfl 31 rfl ?_
              refine v_goto hX (tgt := 57) 32 rfl (by decide) ?_
              exact V.sub (j57 _ (by rw [if_pos ⟨q1, q2⟩]; rfl)) rfl ⟨rfl, rfl, rfl, rfl, rfl, trivial⟩
      exact V.sub (lq 0 (Nat.zero_le _)) rfl ⟨rfl, rfl, rfl, (by first | rfl | (refine congrArg (fun z : Int32 => some (Value.int z)) ?_; rfl)), rfl, trivial⟩
  exact V.sub (lp 0 (Nat.zero_le _)) rfl ⟨rfl, (by first | rfl | (refine congrArg (fun z : Int32 => some (Value.int z)) ?_; rfl)), rfl, trivial⟩
