set_option maxRecDepth 100000 in
set_option maxHeartbeats 8000000 in
theorem l_days_b {Y : Yt} {X : XT} {M : Mm} (hX : vOK Y X iL_days 18 "PointAnswersLaw" { frames := 5, cells := 1, slots := 24, locals := 111 } (some .boolean)) {q1 : Nat} {V0 : Nat → Int32} (hC1 : aC Y 2 0 q1 24) {n la dy : Nat} (hz : M.1 1 1 = nI n) (hn : n ≤ 24) (hw : WF (cp M 1) n) (hS : LSt M (cp M 1) n) (h9 : sm9 (cp M 1) n) (hsd : ∀ i t, i < n → t < i → cp M 1 i 3 = nI t → ¬ cp M 1 i 0 = cp M 1 t 0) (hT0 : M.1 278 0 = M.1 1 4) (hT1 : M.1 278 1 = M.1 1 5) (hT2 : M.1 278 2 = M.1 1 2) (hT3 : M.1 278 3 = nI n) (hT4 : M.1 278 4 = M.1 1 3) (hla : la ≤ 60) (hdy : dy ≤ 999) (h4 : M.1 1 4 = nI la) (h2 : M.1 1 2 = nI dy) (h5 : 0 ≤ M.1 1 5) (hW : ∀ i, i < n → M.1 277 i = wv M n i) (h5d : s5d (cp M 1) n dy) (hret : ∀ M1 L1, (∃ f, M1 = mrow M 2 f) → V Y X M1 332 L1 [.int 1]) : V Y X (mrow M 2 V0) 12 [some (.ref (Y.2.2.2.1 0)), some (.ref (Y.2.2.2.1 270)), some (.ref (Y.2.2.2.1 271)), some (.ref (Y.2.2.2.1 273)), some (.ref (Y.2.2.2.1 274)), some (.ref (Y.2.2.2.1 275)), some (.ref (Y.2.2.2.1 276)), some (.ref (Y.2.2.2.1 277)), some (.ref (Y.2.2.2.1 278)), some (.ref q1), some (.int (nI dy)), none, none, none, none, none, none, none] [] := by
  have hB1 : ∀ T V, (qM M T V).1 278 (0 + Int32.toNatClampNeg 1) = T 1 := fun T V => by rw [qM_T]; rfl
  have hB2 : ∀ T V, (qM M T V).1 278 (0 + Int32.toNatClampNeg 2) = T 2 := fun T V => by rw [qM_T]; rfl
  have hB3 : ∀ T V, (qM M T V).1 278 (0 + Int32.toNatClampNeg 3) = T 3 := fun T V => by rw [qM_T]; rfl
  have hAw : ∀ T V k, k < n → (qM M T V).1 277 (0 + (nI k).toNatClampNeg) = wv M n k := fun T V k hk => by rw [qM_o (by decide), nI_clamp (by omega), Nat.zero_add]; exact hW k hk
  have hAv : ∀ T V k, k < 24 → (qM M T V).1 2 (0 + (nI k).toNatClampNeg) = V k := fun T V k hk => by rw [qM_V, nI_clamp (by omega), Nat.zero_add]
  have hTE : ∀ T : Nat → Int32, (∀ j, j ≠ 1 → T j = M.1 278 j) → upd T 1 (M.1 1 5) = M.1 278 := fun T hT => by funext j; unfold upd; by_cases e : j = 1; subst e; rw [if_pos rfl]; exact hT1.symm; rw [if_neg e]; exact hT j e
  have hlp := lp_c h9 hw hn
  have h3T : M.1 278 3 = nI n := hT3
  have hTT : upd (M.1 278) 2 (nI dy) = M.1 278 := by funext j; unfold upd; by_cases e : j = 2; subst e; rw [if_pos rfl]; exact (hT2.trans h2).symm; rw [if_neg e]
  refine v_bipush hX (v := (-6)) 7 rfl (by decide) ?_
  refine v_istore hX 8 rfl (Nat.le_of_ble_eq_true rfl) rfl ?_
  refine v_bipush hX (v := 62) 9 rfl (by decide) ?_
  refine v_istore hX 10 rfl (Nat.le_of_ble_eq_true rfl) rfl ?_
  have lp : ∀ (k : Nat), k ≤ 62 → ∀ (T Vv : Nat → Int32), (∀ j, j ≠ 2 → T j = M.1 278 j) → V Y X (qM M T Vv) 20 [some (.ref (Y.2.2.2.1 0)), some (.ref (Y.2.2.2.1 270)), some (.ref (Y.2.2.2.1 271)), some (.ref (Y.2.2.2.1 273)), some (.ref (Y.2.2.2.1 274)), some (.ref (Y.2.2.2.1 275)), some (.ref (Y.2.2.2.1 276)), some (.ref (Y.2.2.2.1 277)), some (.ref (Y.2.2.2.1 278)), some (.ref q1), some (.int (nI dy)), some (.int (fdF M n (62 - k) (k + 1))), some (.int (nI k)), none, none, none, none, none] [] := by
    refine downTo (fun k ih => ?_)
    intro hk T Vv hT
    rcases Nat.eq_zero_or_pos k with h0 | h0
    · skip
      subst h0
      have hT8 : upd T 2 (nI dy) = M.1 278 := by rw [← hTT]; funext j; unfold upd; by_cases e : j = 2; rw [if_pos e, if_pos e]; rw [if_neg e, if_neg e]; exact hT j e
      refine v_iload hX 11 rfl rfl ?_
      refine v_if_le hX (tgt := 133) 12 rfl (by decide) (fun c22 => ?_) (fun c22 => absurd (by decide) c22)
      refine v_aload hX 69 rfl rfl ?_
      refine v_iconst hX (v := 2) 70 rfl (by decide) ?_
      refine v_iload hX 71 rfl rfl ?_
      refine v_iasg hX aC_278 (vp_in_nI (n := 2) (by decide) (by decide)) 72 rfl ?_
      refine V.mem (M2 := mrow M 2 Vv) (by rw [← qM_r2, ← hT8]; exact qM_sT (x := 2)) ?_
      refine v_aload_n hX 0 73 rfl rfl rfl ?_
      refine v_callV hX 0 (by decide) rfl rfl (f_leastPages (M := mrow M 2 Vv) (by rw [mrow_n (by decide)]; exact hz) hn (by rw [cp_r2]; exact hw)) tw_493 tw_490 tw_491 tw_492 tw_39 (by decide +kernel) ⟨⟨rfl, rfl⟩, Nat.le_of_ble_eq_true rfl, Nat.le_of_ble_eq_true rfl⟩ rfl (Nat.le_of_ble_eq_true rfl) rfl rfl 74 rfl ?_
      rw [lpR_r2]
      refine v_istore hX 75 rfl (Nat.le_of_ble_eq_true rfl) rfl ?_
      refine v_aload hX 76 rfl rfl ?_
      refine v_iconst hX (v := 1) 77 rfl (by decide) ?_
      refine v_ialg hX aC_278 (vp_in_nI (n := 1) (by decide) (by decide)) 78 rfl ?_
      rw [show (mrow M 2 Vv).1 278 (0 + Int32.toNatClampNeg 1) = M.1 1 5 from by rw [mrow_n (by decide)]; exact hT1]
      refine v_istore hX 79 rfl (Nat.le_of_ble_eq_true rfl) rfl ?_
      refine v_aload_n hX 0 80 rfl rfl rfl ?_
      refine v_callV hX 0 (by decide) rfl rfl (f_changesIn (M := mrow M 2 Vv) (by rw [mrow_n (by decide)]; exact hz) hn (by rw [cp_r2]; exact hw)) tw_500 tw_497 tw_498 tw_499 tw_39 (by decide +kernel) ⟨⟨rfl, rfl⟩, Nat.le_of_ble_eq_true rfl, Nat.le_of_ble_eq_true rfl⟩ rfl (Nat.le_of_ble_eq_true rfl) rfl rfl 81 rfl ?_
      rw [ciF_r2]
      refine v_iload hX 82 rfl rfl ?_
      refine v_icmp_ne hX (tgt := 184) 83 rfl (by decide) (fun c157 => absurd c157 (fun h => h (fd_62 hn h9 h5d hla hdy h4 h2))) (fun c157 => ?_)
      have j180 : V Y X (mrow M 2 Vv) 180 [some (.ref (Y.2.2.2.1 0)), some (.ref (Y.2.2.2.1 270)), some (.ref (Y.2.2.2.1 271)), some (.ref (Y.2.2.2.1 273)), some (.ref (Y.2.2.2.1 274)), some (.ref (Y.2.2.2.1 275)), some (.ref (Y.2.2.2.1 276)), some (.ref (Y.2.2.2.1 277)), some (.ref (Y.2.2.2.1 278)), some (.ref q1), none, none, some (.int (lpR M n)), some (.int (M.1 1 5)), none, none, none, none] [] := by
        skip
        refine v_iconst hX (v := 1) 93 rfl (by decide) ?_
        refine v_goto hX (tgt := 185) 94 rfl (by decide) ?_
        refine v_istore hX 96 rfl (Nat.le_of_ble_eq_true rfl) rfl ?_
        refine v_iconst hX (v := 0) 97 rfl (by decide) ?_
        refine v_istore hX 98 rfl (Nat.le_of_ble_eq_true rfl) rfl ?_
        have lk : ∀ (k : Nat), k ≤ 2 → ∀ (T Vv : Nat → Int32), (∀ j, j ≠ 1 → T j = M.1 278 j) → V Y X (qM M T Vv) 190 [some (.ref (Y.2.2.2.1 0)), some (.ref (Y.2.2.2.1 270)), some (.ref (Y.2.2.2.1 271)), some (.ref (Y.2.2.2.1 273)), some (.ref (Y.2.2.2.1 274)), some (.ref (Y.2.2.2.1 275)), some (.ref (Y.2.2.2.1 276)), some (.ref (Y.2.2.2.1 277)), some (.ref (Y.2.2.2.1 278)), some (.ref q1), none, none, some (.int (lpR M n)), some (.int (M.1 1 5)), some (.int 1), some (.int (nI k)), none, none] [] := by
          refine upTo 2 (fun k hk0 ihk => ?_)
          intro T Vv hT
          refine v_iload hX 99 rfl rfl ?_
          refine v_iconst hX (v := 2) 100 rfl (by decide) ?_
          refine v_icmp_ge hX (tgt := 324) 101 rfl (by decide) (fun c193 => ?_) (fun c193 => ?_)
          · skip
            refine v_aload hX 168 rfl rfl ?_
            refine v_iconst hX (v := 1) 169 rfl (by decide) ?_
            refine v_iload hX 170 rfl rfl ?_
            refine v_iasg hX aC_278 (vp_in_nI (n := 1) (by decide) (by decide)) 171 rfl ?_
            refine V.mem (M2 := mrow M 2 Vv) (by rw [← qM_r2, ← hTE T hT]; exact qM_sT (x := 1)) ?_
            refine v_iload hX 172 rfl rfl ?_
            exact hret _ _ ⟨_, rfl⟩
          · skip
            have hk2 : k < 2 := of_nle (a := 2) c193 (by omega) (by omega)
            refine v_iload hX 102 rfl rfl ?_
            refine v_if_eq hX (tgt := 324) 103 rfl (by decide) (fun c198 => absurd c198 (by decide)) (fun c198 => ?_)
            obtain ⟨g, hg9, hg1, hg2, hg3⟩ := lp_g h9 hw hn hk2
            refine v_aload hX 104 rfl rfl ?_
            refine v_iconst hX (v := 1) 105 rfl (by decide) ?_
            have j221 : ∀ (x6 : Int32), x6 = nI g → V Y X (qM M T Vv) 221 [some (.ref (Y.2.2.2.1 0)), some (.ref (Y.2.2.2.1 270)), some (.ref (Y.2.2.2.1 271)), some (.ref (Y.2.2.2.1 273)), some (.ref (Y.2.2.2.1 274)), some (.ref (Y.2.2.2.1 275)), some (.ref (Y.2.2.2.1 276)), some (.ref (Y.2.2.2.1 277)), some (.ref (Y.2.2.2.1 278)), some (.ref q1), none, none, some (.int (lpR M n)), some (.int (M.1 1 5)), some (.int 1), some (.int (nI k)), none, none] [.int x6, .int 1, .ref (Y.2.2.2.1 278)] := by
              intro x6 hx6
              refine v_iasg hX aC_278 (vp_in_nI (n := 1) (by decide) (by decide)) 114 rfl ?_
              refine V.mem (M2 := qM M (upd T 1 (nI g)) Vv) (by rw [hx6]; exact qM_sT (x := 1)) ?_
              refine v_aload_n hX 1 115 rfl rfl rfl ?_
              refine v_aload_n hX 2 116 rfl rfl rfl ?_
              refine v_aload_n hX 3 117 rfl rfl rfl ?_
              refine v_aload hX 118 rfl rfl ?_
              refine v_aload hX 119 rfl rfl ?_
              refine v_aload hX 120 rfl rfl ?_
              refine v_aload hX 121 rfl rfl ?_
              refine v_aload hX 122 rfl rfl ?_
              refine v_iconst hX (v := 0) 123 rfl (by decide) ?_
              obtain ⟨V2, hV2, hF⟩ := l_reasonsQ (Y := Y) (M := M) (P := cp M 1) (more := 0) (pg := nI g) (ov := M.1 1 3) (T := upd T 1 (nI g)) (V := Vv) hn hw h9 hS hla (show dy ≤ 3000 by omega) ((hT 0 (by decide)).trans (hT0.trans h4)) rfl ((hT 2 (by decide)).trans (hT2.trans h2)) ((hT 3 (by decide)).trans hT3) ((hT 4 (by decide)).trans hT4) hC1
              have hs2 : ∀ i, i < n → (V2 i = 2 ↔ pSk (cp M 1) (nI g) i = true) := fun i hi => by rw [hV2 i hi]; exact rzW_2 hw hi
              have hU3 : upd T 1 (nI g) 3 = nI n := (hT 3 (by decide)).trans hT3
              refine v_callS hX 9 (hF) tw_360 tw_358 tw_359 tw_38 (by decide +kernel) ⟨⟨rfl, rfl⟩, Nat.le_of_ble_eq_true rfl, Nat.le_of_ble_eq_true rfl⟩ rfl (Nat.le_of_ble_eq_true rfl) rfl rfl 124 rfl ?_
              refine v_iconst hX (v := 0) 125 rfl (by decide) ?_
              refine v_istore hX 126 rfl (Nat.le_of_ble_eq_true rfl) rfl ?_
              refine v_iconst hX (v := 0) 127 rfl (by decide) ?_
              refine v_istore hX 128 rfl (Nat.le_of_ble_eq_true rfl) rfl ?_
              have lt : ∀ (p : Nat), p ≤ n → V Y X (qM M (upd T 1 (nI g)) V2) 245 [some (.ref (Y.2.2.2.1 0)), some (.ref (Y.2.2.2.1 270)), some (.ref (Y.2.2.2.1 271)), some (.ref (Y.2.2.2.1 273)), some (.ref (Y.2.2.2.1 274)), some (.ref (Y.2.2.2.1 275)), some (.ref (Y.2.2.2.1 276)), some (.ref (Y.2.2.2.1 277)), some (.ref (Y.2.2.2.1 278)), some (.ref q1), none, none, some (.int (lpR M n)), some (.int (M.1 1 5)), some (.int 1), some (.int (nI k)), some (.int (bI (stkB (cp M 1) g p))), some (.int (nI p))] [] := by
                refine upTo n (fun p hp0 iht => ?_)
                refine v_iload hX 129 rfl rfl ?_
                refine v_aload hX 130 rfl rfl ?_
                refine v_iconst hX (v := 3) 131 rfl (by decide) ?_
                refine v_ialg hX aC_278 (vp_in_nI (n := 3) (by decide) (by decide)) 132 rfl ?_
                rw [hB3, hU3]
                refine v_icmp_ge hX (tgt := 281) 133 rfl (by decide) (fun c251 => ?_) (fun c251 => ?_)
                · skip
                  have hpn : n = p := by have := of_le c251 (by omega) (by omega); omega
                  subst hpn
                  refine v_aload hX 147 rfl rfl ?_
                  refine v_iconst hX (v := 1) 148 rfl (by decide) ?_
                  refine v_ialg hX aC_278 (vp_in_nI (n := 1) (by decide) (by decide)) 149 rfl ?_
                  rw [hB1, show upd T 1 (nI g) 1 = nI g from upd_s]
                  refine v_if_eq hX (tgt := 311) 150 rfl (by decide) (fun c285 => ?_) (fun c285 => ?_)
                  · skip
                    refine v_iconst hX (v := 1) 162 rfl (by decide) ?_
                    refine v_goto hX (tgt := 316) 163 rfl (by decide) ?_
                    refine v_istore hX 165 rfl (Nat.le_of_ble_eq_true rfl) rfl ?_
                    refine v_iinc hX 166 rfl rfl (nI_inc k) (Nat.le_of_ble_eq_true rfl) rfl ?_
                    refine v_goto hX (tgt := 190) 167 rfl (by decide) ?_
                    refine V.subM (ihk hk2 (upd T 1 (nI g)) V2 (fun j hj => by rw [upd_n hj]; exact hT j hj)) ?_ rfl ⟨rfl, rfl, rfl, rfl, rfl, rfl, rfl, rfl, rfl, rfl, rfl, rfl, rfl, rfl, trivial⟩
                    rfl
                  · skip
                    have hg0 : ¬ g = 0 := fun e => c285 (by rw [e]; rfl)
                    have hg4 := hg3.resolve_left hg0
                    have j308 : ∀ (x7 : Int32), x7 = (if lpR M n = -6 ∨ k = 1 then (1 : Int32) else 0) → V Y X (qM M (upd T 1 (nI g)) V2) 308 [some (.ref (Y.2.2.2.1 0)), some (.ref (Y.2.2.2.1 270)), some (.ref (Y.2.2.2.1 271)), some (.ref (Y.2.2.2.1 273)), some (.ref (Y.2.2.2.1 274)), some (.ref (Y.2.2.2.1 275)), some (.ref (Y.2.2.2.1 276)), some (.ref (Y.2.2.2.1 277)), some (.ref (Y.2.2.2.1 278)), some (.ref q1), none, none, some (.int (lpR M n)), some (.int (M.1 1 5)), some (.int 1), some (.int (nI k)), some (.int (bI (stkB (cp M 1) g n))), none] [.int x7, .int (bI (stkB (cp M 1) g n))] := by
                      intro x7 hx7
                      refine v_icmp_ne hX (tgt := 315) 161 rfl (by decide) (fun c308 => absurd c308 (fun h => h (hg4.trans hx7.symm))) (fun c308 => ?_)
                      refine v_iconst hX (v := 1) 162 rfl (by decide) ?_
                      refine v_goto hX (tgt := 316) 163 rfl (by decide) ?_
                      refine v_istore hX 165 rfl (Nat.le_of_ble_eq_true rfl) rfl ?_
                      refine v_iinc hX 166 rfl rfl (nI_inc k) (Nat.le_of_ble_eq_true rfl) rfl ?_
                      refine v_goto hX (tgt := 190) 167 rfl (by decide) ?_
                      refine V.subM (ihk hk2 (upd T 1 (nI g)) V2 (fun j hj => by rw [upd_n hj]; exact hT j hj)) ?_ rfl ⟨rfl, rfl, rfl, rfl, rfl, rfl, rfl, rfl, rfl, rfl, rfl, rfl, rfl, rfl, trivial⟩
                      rfl
                    refine v_iload hX 151 rfl rfl ?_
                    refine v_iload hX 152 rfl rfl ?_
                    refine v_bipush hX (v := (-6)) 153 rfl (by decide) ?_
                    refine v_icmp_eq hX (tgt := 303) 154 rfl (by decide) (fun c294 => ?_) (fun c294 => ?_)
                    · skip
                      refine v_iconst hX (v := 1) 158 rfl (by decide) ?_
                      refine v_goto hX (tgt := 308) 159 rfl (by decide) ?_
                      exact V.sub (j308 _ (if_pos (Or.inl c294)).symm) rfl ⟨rfl, rfl, rfl, rfl, rfl, rfl, rfl, rfl, rfl, rfl, rfl, rfl, rfl, rfl, rfl, trivial⟩
                    · skip
                      refine v_iload hX 155 rfl rfl ?_
                      refine v_iconst hX (v := 1) 156 rfl (by decide) ?_
                      refine v_icmp_ne hX (tgt := 307) 157 rfl (by decide) (fun c300 => ?_) (fun c300 => ?_)
                      · skip
                        refine v_iconst hX (v := 0) 160 rfl (by decide) ?_
                        exact V.sub (j308 _ (if_neg (fun h => h.elim c294 (fun e => c300 (by rw [e]; rfl)))).symm) rfl ⟨rfl, rfl, rfl, rfl, rfl, rfl, rfl, rfl, rfl, rfl, rfl, rfl, rfl, rfl, rfl, trivial⟩
                      · skip
                        refine v_iconst hX (v := 1) 158 rfl (by decide) ?_
                        refine v_goto hX (tgt := 308) 159 rfl (by decide) ?_
                        exact V.sub (j308 _ (if_pos (Or.inr ((nI_eq (b := 1) (by omega) (by omega)).mp c300))).symm) rfl ⟨rfl, rfl, rfl, rfl, rfl, rfl, rfl, rfl, rfl, rfl, rfl, rfl, rfl, rfl, rfl, trivial⟩
                · skip
                  have hp : p < n := of_nle c251 (by omega) (by omega)
                  have j273 : ∀ (x5 : Int32), x5 = bI (stkB (cp M 1) g (p + 1)) → V Y X (qM M (upd T 1 (nI g)) V2) 273 [some (.ref (Y.2.2.2.1 0)), some (.ref (Y.2.2.2.1 270)), some (.ref (Y.2.2.2.1 271)), some (.ref (Y.2.2.2.1 273)), some (.ref (Y.2.2.2.1 274)), some (.ref (Y.2.2.2.1 275)), some (.ref (Y.2.2.2.1 276)), some (.ref (Y.2.2.2.1 277)), some (.ref (Y.2.2.2.1 278)), some (.ref q1), none, none, some (.int (lpR M n)), some (.int (M.1 1 5)), some (.int 1), some (.int (nI k)), none, some (.int (nI p))] [.int x5] := by
                    intro x5 hx5
                    refine v_istore hX 144 rfl (Nat.le_of_ble_eq_true rfl) rfl ?_
                    refine v_iinc hX 145 rfl rfl (nI_inc p) (Nat.le_of_ble_eq_true rfl) rfl ?_
                    refine v_goto hX (tgt := 245) 146 rfl (by decide) ?_
                    refine V.subM (iht hp) ?_ rfl ⟨rfl, rfl, rfl, rfl, rfl, rfl, rfl, rfl, rfl, rfl, rfl, rfl, rfl, rfl, (by first | rfl | (refine congrArg (fun z : Int32 => some (Value.int z)) ?_; exact hx5)), rfl, trivial⟩
                    rfl
                  refine v_iload hX 134 rfl rfl ?_
                  refine v_if_ne hX (tgt := 268) 135 rfl (by decide) (fun c256 => ?_) (fun c256 => ?_)
                  · skip
                    have q256 : stkB (cp M 1) g p = true := by cases ho : stkB (cp M 1) g p; exact absurd (bI_0.mpr ho) c256; rfl
                    refine v_iconst hX (v := 1) 141 rfl (by decide) ?_
                    refine v_goto hX (tgt := 273) 142 rfl (by decide) ?_
                    exact V.sub (j273 _ (by rw [stkB_s, q256]; rfl)) rfl ⟨rfl, rfl, rfl, rfl, rfl, rfl, rfl, rfl, rfl, rfl, rfl, rfl, rfl, rfl, rfl, trivial⟩
                  · skip
                    have q256 : stkB (cp M 1) g p = false := bI_0.mp c256
                    refine v_aload hX 136 rfl rfl ?_
                    refine v_iload hX 137 rfl rfl ?_
                    refine v_ialg hX hC1 (vp_in_nI (by omega) (by decide)) 138 rfl ?_
                    rw [hAv _ _ _ (by omega)]
                    refine v_iconst hX (v := 2) 139 rfl (by decide) ?_
                    refine v_icmp_ne hX (tgt := 272) 140 rfl (by decide) (fun c265 => ?_) (fun c265 => ?_)
                    · skip
                      refine v_iconst hX (v := 0) 143 rfl (by decide) ?_
                      exact V.sub (j273 _ (by rw [stkB_s, q256]; cases ho : pSk (cp M 1) (nI g) p; rfl; exact absurd ((hs2 p hp).mpr ho) c265)) rfl ⟨rfl, rfl, rfl, rfl, rfl, rfl, rfl, rfl, rfl, rfl, rfl, rfl, rfl, rfl, rfl, trivial⟩
                    · skip
                      refine v_iconst hX (v := 1) 141 rfl (by decide) ?_
                      refine v_goto hX (tgt := 273) 142 rfl (by decide) ?_
                      exact V.sub (j273 _ (by rw [stkB_s, (hs2 p hp).mp c265, Bool.or_true]; rfl)) rfl ⟨rfl, rfl, rfl, rfl, rfl, rfl, rfl, rfl, rfl, rfl, rfl, rfl, rfl, rfl, rfl, trivial⟩
              refine V.subM (lt 0 (Nat.zero_le _)) ?_ rfl ⟨rfl, rfl, rfl, rfl, rfl, rfl, rfl, rfl, rfl, rfl, rfl, rfl, rfl, rfl, (by first | rfl | (refine congrArg (fun z : Int32 => some (Value.int z)) ?_; rfl)), rfl, trivial⟩
              rfl
            refine v_iload hX 106 rfl rfl ?_
            refine v_bipush hX (v := (-6)) 107 rfl (by decide) ?_
            refine v_icmp_ne hX (tgt := 216) 108 rfl (by decide) (fun c208 => ?_) (fun c208 => ?_)
            · skip
              refine v_iload hX 111 rfl rfl ?_
              refine v_iload hX 112 rfl rfl ?_
              refine v_isub hX 113 rfl ?_
              exact V.sub (j221 _ (hg2 c208)) rfl ⟨rfl, rfl, rfl, rfl, rfl, rfl, rfl, rfl, rfl, rfl, rfl, rfl, rfl, rfl, trivial⟩
            · skip
              refine v_bipush hX (v := 99) 109 rfl (by decide) ?_
              refine v_goto hX (tgt := 221) 110 rfl (by decide) ?_
              exact V.sub (j221 _ (by rw [hg1 c208]; rfl)) rfl ⟨rfl, rfl, rfl, rfl, rfl, rfl, rfl, rfl, rfl, rfl, rfl, rfl, rfl, rfl, trivial⟩
        refine V.subM (lk 0 (Nat.zero_le _) (M.1 278) Vv (fun _ _ => rfl)) ?_ rfl ⟨rfl, rfl, rfl, rfl, rfl, rfl, rfl, rfl, rfl, rfl, rfl, rfl, rfl, rfl, trivial⟩
        exact qM_r2.symm
      refine v_iload hX 84 rfl rfl ?_
      refine v_bipush hX (v := (-6)) 85 rfl (by decide) ?_
      refine v_icmp_eq hX (tgt := 180) 86 rfl (by decide) (fun c164 => ?_) (fun c164 => ?_)
      · skip
        exact V.sub (j180) rfl ⟨rfl, rfl, rfl, rfl, rfl, rfl, rfl, rfl, rfl, rfl, rfl, rfl, trivial⟩
      · skip
        refine v_iload hX 87 rfl rfl ?_
        refine v_iconst hX (v := 1) 88 rfl (by decide) ?_
        refine v_icmp_lt hX (tgt := 184) 89 rfl (by decide) (fun c170 => absurd c170 (by rcases hlp with h | ⟨L, h1, h3, e, _⟩; exact absurd h.1 c164; rw [e]; exact nI_nlt (b := 1) h1 (by omega))) (fun c170 => ?_)
        refine v_iload hX 90 rfl rfl ?_
        refine v_bipush hX (v := 99) 91 rfl (by decide) ?_
        refine v_icmp_gt hX (tgt := 184) 92 rfl (by decide) (fun c177 => absurd c177 (by rcases hlp with h | ⟨L, h1, h3, e, _⟩; exact absurd h.1 c164; rw [e]; exact nI_nlt (a := 99) h3 (by omega))) (fun c177 => ?_)
        exact V.sub (j180) rfl ⟨rfl, rfl, rfl, rfl, rfl, rfl, rfl, rfl, rfl, rfl, rfl, rfl, trivial⟩
    · skip
      obtain ⟨m, rfl⟩ : ∃ m2, k = m2 + 1 := ⟨k - 1, by omega⟩
      refine v_iload hX 11 rfl rfl ?_
      refine v_if_le hX (tgt := 133) 12 rfl (by decide) (fun c22 => absurd c22 (nI_nle (by omega) (by omega))) (fun c22 => ?_)
      refine v_aload hX 13 rfl rfl ?_
      refine v_iconst hX (v := 2) 14 rfl (by decide) ?_
      refine v_iload hX 15 rfl rfl ?_
      refine v_iload hX 16 rfl rfl ?_
      refine v_iadd hX 17 rfl ?_
      rw [nI_add]
      refine v_iasg hX aC_278 (vp_in_nI (n := 2) (by decide) (by decide)) 18 rfl ?_
      refine V.mem (M2 := qM M (upd T 2 (nI (dy + (m + 1)))) Vv) (by exact qM_sT (x := 2)) ?_
      refine v_aload_n hX 1 19 rfl rfl rfl ?_
      refine v_aload_n hX 2 20 rfl rfl rfl ?_
      refine v_aload_n hX 3 21 rfl rfl rfl ?_
      refine v_aload hX 22 rfl rfl ?_
      refine v_aload hX 23 rfl rfl ?_
      refine v_aload hX 24 rfl rfl ?_
      refine v_aload hX 25 rfl rfl ?_
      refine v_aload hX 26 rfl rfl ?_
      refine v_iconst hX (v := 0) 27 rfl (by decide) ?_
      obtain ⟨V2, hV2, hF⟩ := l_reasonsQ (Y := Y) (M := M) (P := cp M 1) (more := 0) (pg := M.1 1 5) (ov := M.1 1 3) (T := upd T 2 (nI (dy + (m + 1)))) (V := Vv) hn hw h9 hS hla (show dy + (m + 1) ≤ 3000 by omega) ((hT 0 (by decide)).trans (hT0.trans h4)) ((hT 1 (by decide)).trans hT1) rfl ((hT 3 (by decide)).trans hT3) ((hT 4 (by decide)).trans hT4) hC1
      have hs0 : ∀ i, i < n → (V2 i = 0 ↔ sdk M n (m + 1) i = true) := fun i hi => by rw [hV2 i hi, rzW_0 hi]; unfold sdk; rw [h2, h4, nI_add]
      have hU3 : upd T 2 (nI (dy + (m + 1))) 3 = nI n := (hT 3 (by decide)).trans hT3
      refine v_callS hX 9 (hF) tw_360 tw_358 tw_359 tw_38 (by decide +kernel) ⟨⟨rfl, rfl⟩, Nat.le_of_ble_eq_true rfl, Nat.le_of_ble_eq_true rfl⟩ rfl (Nat.le_of_ble_eq_true rfl) rfl rfl 28 rfl ?_
      refine v_iconst hX (v := 0) 29 rfl (by decide) ?_
      refine v_istore hX 30 rfl (Nat.le_of_ble_eq_true rfl) rfl ?_
      refine v_iconst hX (v := 0) 31 rfl (by decide) ?_
      refine v_istore hX 32 rfl (Nat.le_of_ble_eq_true rfl) rfl ?_
      have lo : ∀ (p : Nat), p ≤ n → V Y X (qM M (upd T 2 (nI (dy + (m + 1)))) V2) 57 [some (.ref (Y.2.2.2.1 0)), some (.ref (Y.2.2.2.1 270)), some (.ref (Y.2.2.2.1 271)), some (.ref (Y.2.2.2.1 273)), some (.ref (Y.2.2.2.1 274)), some (.ref (Y.2.2.2.1 275)), some (.ref (Y.2.2.2.1 276)), some (.ref (Y.2.2.2.1 277)), some (.ref (Y.2.2.2.1 278)), some (.ref q1), some (.int (nI dy)), some (.int (fdF M n (62 - (m + 1)) (m + 2))), some (.int (nI (m + 1))), some (.int (bI (oth M n (m + 1) p))), some (.int (nI p)), none, none, none] [] := by
        refine upTo n (fun p hp0 iho => ?_)
        refine v_iload hX 33 rfl rfl ?_
        refine v_aload hX 34 rfl rfl ?_
        refine v_iconst hX (v := 3) 35 rfl (by decide) ?_
        refine v_ialg hX aC_278 (vp_in_nI (n := 3) (by decide) (by decide)) 36 rfl ?_
        rw [hB3, hU3]
        refine v_icmp_ge hX (tgt := 113) 37 rfl (by decide) (fun c63 => ?_) (fun c63 => ?_)
        · skip
          have hpn : n = p := by have := of_le c63 (by omega) (by omega); omega
          subst hpn
          have j125 : ∀ (x4 : Int32), x4 = fdF M n (62 - m) (m + 1) → V Y X (qM M (upd T 2 (nI (dy + (m + 1)))) V2) 125 [some (.ref (Y.2.2.2.1 0)), some (.ref (Y.2.2.2.1 270)), some (.ref (Y.2.2.2.1 271)), some (.ref (Y.2.2.2.1 273)), some (.ref (Y.2.2.2.1 274)), some (.ref (Y.2.2.2.1 275)), some (.ref (Y.2.2.2.1 276)), some (.ref (Y.2.2.2.1 277)), some (.ref (Y.2.2.2.1 278)), some (.ref q1), some (.int (nI dy)), none, some (.int (nI (m + 1))), none, none, none, none, none] [.int x4] := by
            intro x4 hx4
            refine v_istore hX 66 rfl (Nat.le_of_ble_eq_true rfl) rfl ?_
            refine v_iinc hX 67 rfl rfl (nI_dec m) (Nat.le_of_ble_eq_true rfl) rfl ?_
            refine v_goto hX (tgt := 20) 68 rfl (by decide) ?_
            refine V.subM (ih m (by omega) (by omega) (upd T 2 (nI (dy + (m + 1)))) V2 (fun j hj => by rw [upd_n hj]; exact hT j hj)) ?_ rfl ⟨rfl, rfl, rfl, rfl, rfl, rfl, rfl, rfl, rfl, rfl, rfl, (by first | rfl | (refine congrArg (fun z : Int32 => some (Value.int z)) ?_; exact hx4)), rfl, trivial⟩
            rfl
          refine v_iload hX 61 rfl rfl ?_
          refine v_if_eq hX (tgt := 123) 62 rfl (by decide) (fun c115 => ?_) (fun c115 => ?_)
          · skip
            have q115 : oth M n (m + 1) n = false := bI_0.mp c115
            refine v_iload hX 65 rfl rfl ?_
            exact V.sub (j125 _ (by rw [fd_s (m := m) hn (by omega), if_neg (by rw [q115]; decide)])) rfl ⟨rfl, rfl, rfl, rfl, rfl, rfl, rfl, rfl, rfl, rfl, rfl, rfl, trivial⟩
          · skip
            have q115 : oth M n (m + 1) n = true := by cases ho : oth M n (m + 1) n; exact absurd (bI_0.mpr ho) c115; rfl
            refine v_iload hX 63 rfl rfl ?_
            refine v_goto hX (tgt := 125) 64 rfl (by decide) ?_
            exact V.sub (j125 _ (by rw [fd_s (m := m) hn (by omega), if_pos q115])) rfl ⟨rfl, rfl, rfl, rfl, rfl, rfl, rfl, rfl, rfl, rfl, rfl, rfl, trivial⟩
        · skip
          have hp : p < n := of_nle c63 (by omega) (by omega)
          have j105 : ∀ (x3 : Int32), x3 = bI (oth M n (m + 1) (p + 1)) → V Y X (qM M (upd T 2 (nI (dy + (m + 1)))) V2) 105 [some (.ref (Y.2.2.2.1 0)), some (.ref (Y.2.2.2.1 270)), some (.ref (Y.2.2.2.1 271)), some (.ref (Y.2.2.2.1 273)), some (.ref (Y.2.2.2.1 274)), some (.ref (Y.2.2.2.1 275)), some (.ref (Y.2.2.2.1 276)), some (.ref (Y.2.2.2.1 277)), some (.ref (Y.2.2.2.1 278)), some (.ref q1), some (.int (nI dy)), some (.int (fdF M n (62 - (m + 1)) (m + 2))), some (.int (nI (m + 1))), none, some (.int (nI p)), none, none, none] [.int x3] := by
            intro x3 hx3
            refine v_istore hX 58 rfl (Nat.le_of_ble_eq_true rfl) rfl ?_
            refine v_iinc hX 59 rfl rfl (nI_inc p) (Nat.le_of_ble_eq_true rfl) rfl ?_
            refine v_goto hX (tgt := 57) 60 rfl (by decide) ?_
            refine V.subM (iho hp) ?_ rfl ⟨rfl, rfl, rfl, rfl, rfl, rfl, rfl, rfl, rfl, rfl, rfl, rfl, rfl, (by first | rfl | (refine congrArg (fun z : Int32 => some (Value.int z)) ?_; exact hx3)), rfl, trivial⟩
            rfl
          refine v_iload hX 38 rfl rfl ?_
          refine v_if_ne hX (tgt := 100) 39 rfl (by decide) (fun c68 => ?_) (fun c68 => ?_)
          · skip
            have q68 : oth M n (m + 1) p = true := by cases ho : oth M n (m + 1) p; exact absurd (bI_0.mpr ho) c68; rfl
            refine v_iconst hX (v := 1) 55 rfl (by decide) ?_
            refine v_goto hX (tgt := 105) 56 rfl (by decide) ?_
            exact V.sub (j105 _ (by rw [oth_s, q68]; rfl)) rfl ⟨rfl, rfl, rfl, rfl, rfl, rfl, rfl, rfl, rfl, rfl, rfl, rfl, rfl, rfl, trivial⟩
          · skip
            have q68 : oth M n (m + 1) p = false := bI_0.mp c68
            have j84 : ∀ (x1 : Int32), x1 = bI (sdk M n (m + 1) p) → V Y X (qM M (upd T 2 (nI (dy + (m + 1)))) V2) 84 [some (.ref (Y.2.2.2.1 0)), some (.ref (Y.2.2.2.1 270)), some (.ref (Y.2.2.2.1 271)), some (.ref (Y.2.2.2.1 273)), some (.ref (Y.2.2.2.1 274)), some (.ref (Y.2.2.2.1 275)), some (.ref (Y.2.2.2.1 276)), some (.ref (Y.2.2.2.1 277)), some (.ref (Y.2.2.2.1 278)), some (.ref q1), some (.int (nI dy)), some (.int (fdF M n (62 - (m + 1)) (m + 2))), some (.int (nI (m + 1))), none, some (.int (nI p)), none, none, none] [.int x1] := by
              intro x1 hx1
              have j97 : ∀ (x2 : Int32), x2 = bI (bSd M 1 n p) → V Y X (qM M (upd T 2 (nI (dy + (m + 1)))) V2) 97 [some (.ref (Y.2.2.2.1 0)), some (.ref (Y.2.2.2.1 270)), some (.ref (Y.2.2.2.1 271)), some (.ref (Y.2.2.2.1 273)), some (.ref (Y.2.2.2.1 274)), some (.ref (Y.2.2.2.1 275)), some (.ref (Y.2.2.2.1 276)), some (.ref (Y.2.2.2.1 277)), some (.ref (Y.2.2.2.1 278)), some (.ref q1), some (.int (nI dy)), some (.int (fdF M n (62 - (m + 1)) (m + 2))), some (.int (nI (m + 1))), none, some (.int (nI p)), none, none, none] [.int x2, .int x1] := by
                intro x2 hx2
                refine v_icmp_eq hX (tgt := 104) 54 rfl (by decide) (fun c97 => ?_) (fun c97 => ?_)
                · skip
                  refine v_iconst hX (v := 0) 57 rfl (by decide) ?_
                  exact V.sub (j105 _ (by rw [oth_s, q68, bI_eq.mp (hx1.symm.trans (c97.trans hx2))]; cases bSd M 1 n p <;> rfl)) rfl ⟨rfl, rfl, rfl, rfl, rfl, rfl, rfl, rfl, rfl, rfl, rfl, rfl, rfl, rfl, trivial⟩
                · skip
                  refine v_iconst hX (v := 1) 55 rfl (by decide) ?_
                  refine v_goto hX (tgt := 105) 56 rfl (by decide) ?_
                  exact V.sub (j105 _ (by rw [oth_s]; have h : ¬ sdk M n (m + 1) p = bSd M 1 n p := fun g => c97 (by rw [hx1, hx2, g]); cases ha : sdk M n (m + 1) p <;> cases hb : bSd M 1 n p <;> rw [ha, hb] at h <;> first | exact absurd rfl h | (cases oth M n (m + 1) p <;> rfl))) rfl ⟨rfl, rfl, rfl, rfl, rfl, rfl, rfl, rfl, rfl, rfl, rfl, rfl, rfl, rfl, trivial⟩
              refine v_aload hX 47 rfl rfl ?_
              refine v_iload hX 48 rfl rfl ?_
              refine v_ialg hX aC_277 (vp_in_nI (by omega) (by decide)) 49 rfl ?_
              rw [hAw _ _ _ (by omega)]
              refine v_if_ne hX (tgt := 96) 50 rfl (by decide) (fun c89 => ?_) (fun c89 => ?_)
              · skip
                refine v_iconst hX (v := 0) 53 rfl (by decide) ?_
                exact V.sub (j97 _ (by cases ho : bSd M 1 n p; rfl; exact absurd ((wv_0 hp).mpr ho) c89)) rfl ⟨rfl, rfl, rfl, rfl, rfl, rfl, rfl, rfl, rfl, rfl, rfl, rfl, rfl, rfl, trivial⟩
              · skip
                refine v_iconst hX (v := 1) 51 rfl (by decide) ?_
                refine v_goto hX (tgt := 97) 52 rfl (by decide) ?_
                exact V.sub (j97 _ (by rw [(wv_0 hp).mp c89]; rfl)) rfl ⟨rfl, rfl, rfl, rfl, rfl, rfl, rfl, rfl, rfl, rfl, rfl, rfl, rfl, rfl, trivial⟩
            refine v_aload hX 40 rfl rfl ?_
            refine v_iload hX 41 rfl rfl ?_
            refine v_ialg hX hC1 (vp_in_nI (by omega) (by decide)) 42 rfl ?_
            rw [hAv _ _ _ (by omega)]
            refine v_if_ne hX (tgt := 83) 43 rfl (by decide) (fun c76 => ?_) (fun c76 => ?_)
            · skip
              refine v_iconst hX (v := 0) 46 rfl (by decide) ?_
              exact V.sub (j84 _ (by cases ho : sdk M n (m + 1) p; rfl; exact absurd ((hs0 p hp).mpr ho) c76)) rfl ⟨rfl, rfl, rfl, rfl, rfl, rfl, rfl, rfl, rfl, rfl, rfl, rfl, rfl, rfl, trivial⟩
            · skip
              refine v_iconst hX (v := 1) 44 rfl (by decide) ?_
              refine v_goto hX (tgt := 84) 45 rfl (by decide) ?_
              exact V.sub (j84 _ (by rw [(hs0 p hp).mp c76]; rfl)) rfl ⟨rfl, rfl, rfl, rfl, rfl, rfl, rfl, rfl, rfl, rfl, rfl, rfl, rfl, rfl, trivial⟩
      refine V.subM (lo 0 (Nat.zero_le _)) ?_ rfl ⟨rfl, rfl, rfl, rfl, rfl, rfl, rfl, rfl, rfl, rfl, rfl, rfl, rfl, (by first | rfl | (refine congrArg (fun z : Int32 => some (Value.int z)) ?_; rfl)), rfl, trivial⟩
      rfl
  refine V.subM (lp 62 (Nat.le_refl 62) (M.1 278) V0 (fun _ _ => rfl)) ?_ rfl ⟨rfl, rfl, rfl, rfl, rfl, rfl, rfl, rfl, rfl, rfl, rfl, (by first | rfl | (refine congrArg (fun z : Int32 => some (Value.int z)) ?_; rfl)), rfl, trivial⟩
  exact qM_r2.symm
set_option maxRecDepth 100000 in
set_option maxHeartbeats 8000000 in
theorem l_days {Y : Yt} {M : Mm} (h0 : Y.2.2.2.2.2 = []) {n la dy : Nat} (hz : M.1 1 1 = nI n) (hn : n ≤ 24) (hw : WF (cp M 1) n) (hS : LSt M (cp M 1) n) (h9 : sm9 (cp M 1) n) (hsd : ∀ i t, i < n → t < i → cp M 1 i 3 = nI t → ¬ cp M 1 i 0 = cp M 1 t 0) (hT0 : M.1 278 0 = M.1 1 4) (hT1 : M.1 278 1 = M.1 1 5) (hT2 : M.1 278 2 = M.1 1 2) (hT3 : M.1 278 3 = nI n) (hT4 : M.1 278 4 = M.1 1 3) (hla : la ≤ 60) (hdy : dy ≤ 999) (h4 : M.1 1 4 = nI la) (h2 : M.1 1 2 = nI dy) (h5 : 0 ≤ M.1 1 5) (hW : ∀ i, i < n → M.1 277 i = wv M n i) (h5d : s5d (cp M 1) n dy) : FnA Y yL_days wsL_days { frames := 5, cells := 1, slots := 24, locals := 111 } [.ref (Y.2.2.2.1 0), .ref (Y.2.2.2.1 270), .ref (Y.2.2.2.1 271), .ref (Y.2.2.2.1 273), .ref (Y.2.2.2.1 274), .ref (Y.2.2.2.1 275), .ref (Y.2.2.2.1 276), .ref (Y.2.2.2.1 277), .ref (Y.2.2.2.1 278)] M (some (.int 1)) (fun M1 => M1 = M) 1 24 := by
  refine FnA.of (cc := cL_days) (ins := iL_days) (maxL := 18) (ret := (some .boolean)) (by decide) dL_days [some (.ref (Y.2.2.2.1 0)), some (.ref (Y.2.2.2.1 270)), some (.ref (Y.2.2.2.1 271)), some (.ref (Y.2.2.2.1 273)), some (.ref (Y.2.2.2.1 274)), some (.ref (Y.2.2.2.1 275)), some (.ref (Y.2.2.2.1 276)), some (.ref (Y.2.2.2.1 277)), some (.ref (Y.2.2.2.1 278)), none, none, none, none, none, none, none, none, none] (Nat.le_of_ble_eq_true rfl) rfl rfl ?_
  intro X hX hx0 hs0 hQ
  refine v_bipush hX (v := 24) 0 rfl (by decide) ?_
  refine v_newi hX (m0 := 24) (by decide) rfl (by decide) (by rw [hx0]; decide) (by rw [hs0]; decide) 1 rfl (fun q1 hX1 => ?_)
  refine v_astore hX1 2 rfl (Nat.le_of_ble_eq_true rfl) rfl ?_
  have hsl : sl Y = 0 := by unfold sl; rw [h0]; rfl
  have hC1 : aC (pY Y q1 24) 2 0 q1 24 := by have h := aC.new (Y := Y) (q := q1) (m := 24) (by decide); rw [hsl] at h; exact h
  refine v_aload hX1 3 rfl rfl ?_
  refine v_iconst hX1 (v := 2) 4 rfl (by decide) ?_
  refine v_ialg hX1 aC_278 (vp_in_nI (n := 2) (by decide) (by decide)) 5 rfl ?_
  rw [show (mrow M 2 (zf M (sl Y))).1 278 (0 + Int32.toNatClampNeg 2) = nI dy from by rw [mrow_n (by decide)]; exact hT2.trans h2]
  refine v_istore hX1 6 rfl (Nat.le_of_ble_eq_true rfl) rfl ?_
  exact l_days_b hX1 hC1 hz hn hw hS h9 hsd hT0 hT1 hT2 hT3 hT4 hla hdy h4 h2 h5 hW h5d (fun M1 L1 hE => v_ireA hX1 (t := [(q1, 24)]) (by unfold pY; rw [h0]; rfl) h0 (vQA.xc hQ) (by rw [xce_xc, hx0]; decide) (by rw [xsl_xc, hs0]; decide) rfl rfl rfl rfl hE 173 rfl)
