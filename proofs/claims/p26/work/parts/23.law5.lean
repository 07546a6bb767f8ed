set_option maxRecDepth 100000 in
set_option maxHeartbeats 8000000 in
theorem l_tries_a {Y : Yt} {X : XT} {M : Mm} (hX : vOK Y X iL_tries 22 "PointAnswersLaw" { frames := 6, cells := 3, slots := 72, locals := 129 } (some .boolean)) {n la dy : Nat} (hz : M.1 1 1 = nI n) (hn : n ≤ 24) (hw : WF (cp M 1) n) (hS : LSt M (cp M 1) n) (h9 : sm9 (cp M 1) n) (hsd : ∀ i t, i < n → t < i → cp M 1 i 3 = nI t → ¬ cp M 1 i 0 = cp M 1 t 0) (hT0 : M.1 278 0 = M.1 1 4) (hT1 : M.1 278 1 = M.1 1 5) (hT2 : M.1 278 2 = M.1 1 2) (hT3 : M.1 278 3 = nI n) (hT4 : M.1 278 4 = M.1 1 3) (hla : la ≤ 60) (hdy : dy ≤ 999) (h4 : M.1 1 4 = nI la) (h2 : M.1 1 2 = nI dy) (h5 : 0 ≤ M.1 1 5) (hW : ∀ i, i < n → M.1 277 i = wv M n i) (hk : V Y X M 176 [some (.ref (Y.2.2.2.1 0)), some (.ref (Y.2.2.2.1 270)), some (.ref (Y.2.2.2.1 271)), some (.ref (Y.2.2.2.1 273)), some (.ref (Y.2.2.2.1 274)), some (.ref (Y.2.2.2.1 275)), some (.ref (Y.2.2.2.1 276)), some (.ref (Y.2.2.2.1 277)), some (.ref (Y.2.2.2.1 278)), some (.int (mk (bq M n) n)), some (.int (mk (pCl (cp M 1)) n)), some (.int (mk (bOut M 1) n)), some (.int (mk (bSd M 1 n) n)), none, none, none, none, none, none, none, none, none] []) : V Y X M 0 [some (.ref (Y.2.2.2.1 0)), some (.ref (Y.2.2.2.1 270)), some (.ref (Y.2.2.2.1 271)), some (.ref (Y.2.2.2.1 273)), some (.ref (Y.2.2.2.1 274)), some (.ref (Y.2.2.2.1 275)), some (.ref (Y.2.2.2.1 276)), some (.ref (Y.2.2.2.1 277)), some (.ref (Y.2.2.2.1 278)), none, none, none, none, none, none, none, none, none, none, none, none, none] [] := by
  have hB3 : M.1 278 (0 + Int32.toNatClampNeg 3) = nI n := hT3
  have hA4 : ∀ k, k < n → M.1 274 (0 + (nI k).toNatClampNeg) = toV (cp M 1) k := fun k hk => by rw [nI_clamp (by omega), Nat.zero_add]; exact (hS k hk).2.2.2.2.1
  have hAw : ∀ k, k < n → M.1 277 (0 + (nI k).toNatClampNeg) = wv M n k := fun k hk => by rw [nI_clamp (by omega), Nat.zero_add]; exact hW k hk
  refine v_iconst hX (v := 0) 0 rfl (by decide) ?_
  refine v_istore hX 1 rfl (Nat.le_of_ble_eq_true rfl) rfl ?_
  refine v_iconst hX (v := 0) 2 rfl (by decide) ?_
  refine v_istore hX 3 rfl (Nat.le_of_ble_eq_true rfl) rfl ?_
  refine v_iconst hX (v := 0) 4 rfl (by decide) ?_
  refine v_istore hX 5 rfl (Nat.le_of_ble_eq_true rfl) rfl ?_
  refine v_iconst hX (v := 0) 6 rfl (by decide) ?_
  refine v_istore hX 7 rfl (Nat.le_of_ble_eq_true rfl) rfl ?_
  refine v_iconst hX (v := 0) 8 rfl (by decide) ?_
  refine v_istore hX 9 rfl (Nat.le_of_ble_eq_true rfl) rfl ?_
  have lp : ∀ (p : Nat), p ≤ n → V Y X M 15 [some (.ref (Y.2.2.2.1 0)), some (.ref (Y.2.2.2.1 270)), some (.ref (Y.2.2.2.1 271)), some (.ref (Y.2.2.2.1 273)), some (.ref (Y.2.2.2.1 274)), some (.ref (Y.2.2.2.1 275)), some (.ref (Y.2.2.2.1 276)), some (.ref (Y.2.2.2.1 277)), some (.ref (Y.2.2.2.1 278)), some (.int (mk (bq M n) p)), some (.int (mk (pCl (cp M 1)) p)), some (.int (mk (bOut M 1) p)), some (.int (mk (bSd M 1 n) p)), some (.int (nI p)), none, none, none, none, none, none, none, none] [] := by
    refine upTo n (fun p hp0 ih => ?_)
    refine v_iload hX 10 rfl rfl ?_
    refine v_aload hX 11 rfl rfl ?_
    refine v_iconst hX (v := 3) 12 rfl (by decide) ?_
    refine v_ialg hX aC_278 (vp_in_nI (n := 3) (by decide) (by decide)) 13 rfl ?_
    rw [hB3]
    refine v_icmp_ge hX (tgt := 176) 14 rfl (by decide) (fun c21 => ?_) (fun c21 => ?_)
    · skip
      have hpn : n = p := by have := of_le c21 (by omega) (by omega); omega
      subst hpn
      exact V.sub hk rfl ⟨rfl, rfl, rfl, rfl, rfl, rfl, rfl, rfl, rfl, rfl, rfl, rfl, rfl, trivial⟩
    · skip
      have hp : p < n := of_nle c21 (by omega) (by omega)
      refine v_iconst hX (v := 0) 15 rfl (by decide) ?_
      refine v_istore hX 16 rfl (Nat.le_of_ble_eq_true rfl) rfl ?_
      refine v_iload hX 17 rfl rfl ?_
      refine v_iconst hX (v := 1) 18 rfl (by decide) ?_
      refine v_iadd hX 19 rfl ?_
      rw [nI_1]
      refine v_istore hX 20 rfl (Nat.le_of_ble_eq_true rfl) rfl ?_
      have la : ∀ (a : Nat), a ≤ n → p + 1 ≤ a → V Y X M 33 [some (.ref (Y.2.2.2.1 0)), some (.ref (Y.2.2.2.1 270)), some (.ref (Y.2.2.2.1 271)), some (.ref (Y.2.2.2.1 273)), some (.ref (Y.2.2.2.1 274)), some (.ref (Y.2.2.2.1 275)), some (.ref (Y.2.2.2.1 276)), some (.ref (Y.2.2.2.1 277)), some (.ref (Y.2.2.2.1 278)), some (.int (mk (bq M n) p)), some (.int (mk (pCl (cp M 1)) p)), some (.int (mk (bOut M 1) p)), some (.int (mk (bSd M 1 n) p)), some (.int (nI p)), some (.int (bI (hasB (cp M 1) p a))), some (.int (nI a)), none, none, none, none, none, none] [] := by
        refine upTo n (fun a ha0 iha => ?_)
        intro hpa
        refine v_iload hX 21 rfl rfl ?_
        refine v_aload hX 22 rfl rfl ?_
        refine v_iconst hX (v := 3) 23 rfl (by decide) ?_
        refine v_ialg hX aC_278 (vp_in_nI (n := 3) (by decide) (by decide)) 24 rfl ?_
        rw [hB3]
        refine v_icmp_ge hX (tgt := 70) 25 rfl (by decide) (fun c39 => ?_) (fun c39 => ?_)
        · skip
          have han : n = a := by have := of_le c39 (by omega) (by omega); omega
          subst han
          have hhas := hasB_n hw hn hp
          refine v_iload hX 39 rfl rfl ?_
          have j97 : ∀ (x2 : Int32), x2 = (if bOut M 1 p = true then ((1 : Int32) <<< (nI p &&& 31)) else 0) → V Y X M 97 [some (.ref (Y.2.2.2.1 0)), some (.ref (Y.2.2.2.1 270)), some (.ref (Y.2.2.2.1 271)), some (.ref (Y.2.2.2.1 273)), some (.ref (Y.2.2.2.1 274)), some (.ref (Y.2.2.2.1 275)), some (.ref (Y.2.2.2.1 276)), some (.ref (Y.2.2.2.1 277)), some (.ref (Y.2.2.2.1 278)), some (.int (mk (bq M n) p)), some (.int (mk (pCl (cp M 1)) p)), some (.int (mk (bOut M 1) p)), some (.int (mk (bSd M 1 n) p)), some (.int (nI p)), some (.int (bI (hasB (cp M 1) p n))), none, none, none, none, none, none, none] [.int x2, .int (mk (bOut M 1) p)] := by
            intro x2 hx2
            refine v_ior hX 54 rfl ?_
            rw [hx2, mkz1]
            refine v_istore hX 55 rfl (Nat.le_of_ble_eq_true rfl) rfl ?_
            refine v_iload hX 56 rfl rfl ?_
            have j125 : ∀ (x3 : Int32), x3 = (if bq M n p = true then ((1 : Int32) <<< (nI p &&& 31)) else 0) → V Y X M 125 [some (.ref (Y.2.2.2.1 0)), some (.ref (Y.2.2.2.1 270)), some (.ref (Y.2.2.2.1 271)), some (.ref (Y.2.2.2.1 273)), some (.ref (Y.2.2.2.1 274)), some (.ref (Y.2.2.2.1 275)), some (.ref (Y.2.2.2.1 276)), some (.ref (Y.2.2.2.1 277)), some (.ref (Y.2.2.2.1 278)), some (.int (mk (bq M n) p)), some (.int (mk (pCl (cp M 1)) p)), some (.int (mk (bOut M 1) (p + 1))), some (.int (mk (bSd M 1 n) p)), some (.int (nI p)), none, none, none, none, none, none, none, none] [.int x3, .int (mk (bq M n) p)] := by
              intro x3 hx3
              refine v_ior hX 70 rfl ?_
              rw [hx3, mkz1]
              refine v_istore hX 71 rfl (Nat.le_of_ble_eq_true rfl) rfl ?_
              refine v_iload hX 72 rfl rfl ?_
              have j146 : ∀ (x4 : Int32), x4 = (if pCl (cp M 1) p = true then ((1 : Int32) <<< (nI p &&& 31)) else 0) → V Y X M 146 [some (.ref (Y.2.2.2.1 0)), some (.ref (Y.2.2.2.1 270)), some (.ref (Y.2.2.2.1 271)), some (.ref (Y.2.2.2.1 273)), some (.ref (Y.2.2.2.1 274)), some (.ref (Y.2.2.2.1 275)), some (.ref (Y.2.2.2.1 276)), some (.ref (Y.2.2.2.1 277)), some (.ref (Y.2.2.2.1 278)), some (.int (mk (bq M n) (p + 1))), some (.int (mk (pCl (cp M 1)) p)), some (.int (mk (bOut M 1) (p + 1))), some (.int (mk (bSd M 1 n) p)), some (.int (nI p)), none, none, none, none, none, none, none, none] [.int x4, .int (mk (pCl (cp M 1)) p)] := by
                intro x4 hx4
                refine v_ior hX 82 rfl ?_
                rw [hx4, mkz1]
                refine v_istore hX 83 rfl (Nat.le_of_ble_eq_true rfl) rfl ?_
                refine v_iload hX 84 rfl rfl ?_
                have j167 : ∀ (x5 : Int32), x5 = (if bSd M 1 n p = true then ((1 : Int32) <<< (nI p &&& 31)) else 0) → V Y X M 167 [some (.ref (Y.2.2.2.1 0)), some (.ref (Y.2.2.2.1 270)), some (.ref (Y.2.2.2.1 271)), some (.ref (Y.2.2.2.1 273)), some (.ref (Y.2.2.2.1 274)), some (.ref (Y.2.2.2.1 275)), some (.ref (Y.2.2.2.1 276)), some (.ref (Y.2.2.2.1 277)), some (.ref (Y.2.2.2.1 278)), some (.int (mk (bq M n) (p + 1))), some (.int (mk (pCl (cp M 1)) (p + 1))), some (.int (mk (bOut M 1) (p + 1))), some (.int (mk (bSd M 1 n) p)), some (.int (nI p)), none, none, none, none, none, none, none, none] [.int x5, .int (mk (bSd M 1 n) p)] := by
                  intro x5 hx5
                  refine v_ior hX 94 rfl ?_
                  rw [hx5, mkz1]
                  refine v_istore hX 95 rfl (Nat.le_of_ble_eq_true rfl) rfl ?_
                  refine v_iinc hX 96 rfl rfl (nI_inc p) (Nat.le_of_ble_eq_true rfl) rfl ?_
                  refine v_goto hX (tgt := 15) 97 rfl (by decide) ?_
                  exact V.sub (ih hp) rfl ⟨rfl, rfl, rfl, rfl, rfl, rfl, rfl, rfl, rfl, (by first | rfl | (refine congrArg (fun z : Int32 => some (Value.int z)) ?_; rfl)), (by first | rfl | (refine congrArg (fun z : Int32 => some (Value.int z)) ?_; rfl)), (by first | rfl | (refine congrArg (fun z : Int32 => some (Value.int z)) ?_; rfl)), (by first | rfl | (refine congrArg (fun z : Int32 => some (Value.int z)) ?_; rfl)), rfl, trivial⟩
                refine v_aload hX 85 rfl rfl ?_
                refine v_iload hX 86 rfl rfl ?_
                refine v_ialg hX aC_277 (vp_in_nI (by omega) (by decide)) 87 rfl ?_
                rw [hAw _ (by omega)]
                refine v_if_ne hX (tgt := 166) 88 rfl (by decide) (fun c156 => ?_) (fun c156 => ?_)
                · skip
                  refine v_iconst hX (v := 0) 93 rfl (by decide) ?_
                  exact V.sub (j167 _ (if_neg (fun g => c156 ((wv_0 hp).mpr g))).symm) rfl ⟨rfl, rfl, rfl, rfl, rfl, rfl, rfl, rfl, rfl, rfl, rfl, rfl, rfl, rfl, trivial⟩
                · skip
                  refine v_iconst hX (v := 1) 89 rfl (by decide) ?_
                  refine v_iload hX 90 rfl rfl ?_
                  refine v_ishl hX 91 rfl ?_
                  refine v_goto hX (tgt := 167) 92 rfl (by decide) ?_
                  exact V.sub (j167 _ (if_pos ((wv_0 hp).mp c156)).symm) rfl ⟨rfl, rfl, rfl, rfl, rfl, rfl, rfl, rfl, rfl, rfl, rfl, rfl, rfl, rfl, trivial⟩
              refine v_aload hX 73 rfl rfl ?_
              refine v_iload hX 74 rfl rfl ?_
              refine v_ialg hX aC_274 (vp_in_nI (by omega) (by decide)) 75 rfl ?_
              rw [hA4 _ (by omega)]
              refine v_if_ge hX (tgt := 145) 76 rfl (by decide) (fun c135 => ?_) (fun c135 => ?_)
              · skip
                refine v_iconst hX (v := 0) 81 rfl (by decide) ?_
                exact V.sub (j146 _ (if_neg (fun g => toV_ge hw hn hp c135 (by unfold pCl at g; simpa using g))).symm) rfl ⟨rfl, rfl, rfl, rfl, rfl, rfl, rfl, rfl, rfl, rfl, rfl, rfl, rfl, rfl, trivial⟩
              · skip
                refine v_iconst hX (v := 1) 77 rfl (by decide) ?_
                refine v_iload hX 78 rfl rfl ?_
                refine v_ishl hX 79 rfl ?_
                refine v_goto hX (tgt := 146) 80 rfl (by decide) ?_
                exact V.sub (j146 _ (if_pos (by unfold pCl; rw [toV_ng hw hn hp c135]; rfl)).symm) rfl ⟨rfl, rfl, rfl, rfl, rfl, rfl, rfl, rfl, rfl, rfl, rfl, rfl, rfl, rfl, trivial⟩
            refine v_iload hX 57 rfl rfl ?_
            refine v_if_ne hX (tgt := 124) 58 rfl (by decide) (fun c104 => ?_) (fun c104 => ?_)
            · skip
              have q104 : hasB (cp M 1) p n = true := by cases ho : hasB (cp M 1) p n; exact absurd (bI_0.mpr ho) c104; rfl
              refine v_iconst hX (v := 0) 69 rfl (by decide) ?_
              exact V.sub (j125 _ (if_neg (show ¬ bq M n p = true by unfold bq bare; rw [hhas] at q104; revert q104; cases naP (cp M 1) n p <;> simp)).symm) rfl ⟨rfl, rfl, rfl, rfl, rfl, rfl, rfl, rfl, rfl, rfl, rfl, rfl, rfl, rfl, trivial⟩
            · skip
              have q104 : hasB (cp M 1) p n = false := bI_0.mp c104
              refine v_iload hX 59 rfl rfl ?_
              refine v_iload hX 60 rfl rfl ?_
              refine v_ishr hX 61 rfl ?_
              refine v_iconst hX (v := 1) 62 rfl (by decide) ?_
              refine v_iand hX 63 rfl ?_
              rw [shr1 (show p < 31 by omega), mk_top (by omega), bI_i]
              refine v_if_ne hX (tgt := 124) 64 rfl (by decide) (fun c114 => ?_) (fun c114 => ?_)
              · skip
                have q114 : bOut M 1 p = true := by cases ho : bOut M 1 p; exact absurd (bI_0.mpr ho) c114; rfl
                refine v_iconst hX (v := 0) 69 rfl (by decide) ?_
                exact V.sub (j125 _ (if_neg (show ¬ bq M n p = true by unfold bq bare; rw [q114]; simp)).symm) rfl ⟨rfl, rfl, rfl, rfl, rfl, rfl, rfl, rfl, rfl, rfl, rfl, rfl, rfl, rfl, trivial⟩
              · skip
                have q114 : bOut M 1 p = false := bI_0.mp c114
                refine v_iconst hX (v := 1) 65 rfl (by decide) ?_
                refine v_iload hX 66 rfl rfl ?_
                refine v_ishl hX 67 rfl ?_
                refine v_goto hX (tgt := 125) 68 rfl (by decide) ?_
                exact V.sub (j125 _ (if_pos (show bq M n p = true by unfold bq bare; rw [hhas] at q104; rw [q114]; revert q104; cases naP (cp M 1) n p <;> simp)).symm) rfl ⟨rfl, rfl, rfl, rfl, rfl, rfl, rfl, rfl, rfl, rfl, rfl, rfl, rfl, rfl, trivial⟩
          refine v_aload hX 40 rfl rfl ?_
          refine v_iload hX 41 rfl rfl ?_
          refine v_ialg hX aC_277 (vp_in_nI (by omega) (by decide)) 42 rfl ?_
          rw [hAw _ (by omega)]
          refine v_if_le hX (tgt := 96) 43 rfl (by decide) (fun c77 => ?_) (fun c77 => ?_)
          · skip
            refine v_iconst hX (v := 0) 53 rfl (by decide) ?_
            exact V.sub (j97 _ (if_neg (fun g => ((wv_all hp).2.1.mp g).1 c77)).symm) rfl ⟨rfl, rfl, rfl, rfl, rfl, rfl, rfl, rfl, rfl, rfl, rfl, rfl, rfl, rfl, rfl, trivial⟩
          · skip
            refine v_aload hX 44 rfl rfl ?_
            refine v_iload hX 45 rfl rfl ?_
            refine v_ialg hX aC_277 (vp_in_nI (by omega) (by decide)) 46 rfl ?_
            rw [hAw _ (by omega)]
            refine v_iconst hX (v := 5) 47 rfl (by decide) ?_
            refine v_icmp_ge hX (tgt := 96) 48 rfl (by decide) (fun c86 => ?_) (fun c86 => ?_)
            · skip
              refine v_iconst hX (v := 0) 53 rfl (by decide) ?_
              exact V.sub (j97 _ (if_neg (fun g => ((wv_all hp).2.1.mp g).2 c86)).symm) rfl ⟨rfl, rfl, rfl, rfl, rfl, rfl, rfl, rfl, rfl, rfl, rfl, rfl, rfl, rfl, rfl, trivial⟩
            · skip
              refine v_iconst hX (v := 1) 49 rfl (by decide) ?_
              refine v_iload hX 50 rfl rfl ?_
              refine v_ishl hX 51 rfl ?_
              refine v_goto hX (tgt := 97) 52 rfl (by decide) ?_
              exact V.sub (j97 _ (if_pos ((wv_all hp).2.1.mpr ⟨c77, c86⟩)).symm) rfl ⟨rfl, rfl, rfl, rfl, rfl, rfl, rfl, rfl, rfl, rfl, rfl, rfl, rfl, rfl, rfl, trivial⟩
        · skip
          have ha : a < n := of_nle c39 (by omega) (by omega)
          have j62 : ∀ (x1 : Int32), x1 = bI (hasB (cp M 1) p (a + 1)) → V Y X M 62 [some (.ref (Y.2.2.2.1 0)), some (.ref (Y.2.2.2.1 270)), some (.ref (Y.2.2.2.1 271)), some (.ref (Y.2.2.2.1 273)), some (.ref (Y.2.2.2.1 274)), some (.ref (Y.2.2.2.1 275)), some (.ref (Y.2.2.2.1 276)), some (.ref (Y.2.2.2.1 277)), some (.ref (Y.2.2.2.1 278)), some (.int (mk (bq M n) p)), some (.int (mk (pCl (cp M 1)) p)), some (.int (mk (bOut M 1) p)), some (.int (mk (bSd M 1 n) p)), some (.int (nI p)), none, some (.int (nI a)), none, none, none, none, none, none] [.int x1] := by
            intro x1 hx1
            refine v_istore hX 36 rfl (Nat.le_of_ble_eq_true rfl) rfl ?_
            refine v_iinc hX 37 rfl rfl (nI_inc a) (Nat.le_of_ble_eq_true rfl) rfl ?_
            refine v_goto hX (tgt := 33) 38 rfl (by decide) ?_
            exact V.sub (iha ha (by omega)) rfl ⟨rfl, rfl, rfl, rfl, rfl, rfl, rfl, rfl, rfl, rfl, rfl, rfl, rfl, rfl, (by first | rfl | (refine congrArg (fun z : Int32 => some (Value.int z)) ?_; exact hx1)), rfl, trivial⟩
          refine v_iload hX 26 rfl rfl ?_
          refine v_if_ne hX (tgt := 57) 27 rfl (by decide) (fun c44 => ?_) (fun c44 => ?_)
          · skip
            have q44 : hasB (cp M 1) p a = true := by cases ho : hasB (cp M 1) p a; exact absurd (bI_0.mpr ho) c44; rfl
            refine v_iconst hX (v := 1) 33 rfl (by decide) ?_
            refine v_goto hX (tgt := 62) 34 rfl (by decide) ?_
            exact V.sub (j62 _ (by rw [hasB_s (by omega), q44]; rfl)) rfl ⟨rfl, rfl, rfl, rfl, rfl, rfl, rfl, rfl, rfl, rfl, rfl, rfl, rfl, rfl, rfl, trivial⟩
          · skip
            have q44 : hasB (cp M 1) p a = false := bI_0.mp c44
            refine v_aload hX 28 rfl rfl ?_
            refine v_iload hX 29 rfl rfl ?_
            refine v_ialg hX aC_274 (vp_in_nI (by omega) (by decide)) 30 rfl ?_
            rw [hA4 _ (by omega)]
            refine v_iload hX 31 rfl rfl ?_
            refine v_icmp_ne hX (tgt := 61) 32 rfl (by decide) (fun c54 => ?_) (fun c54 => ?_)
            · skip
              have q54 : ¬ cp M 1 a 3 = nI p := fun g => c54 ((toV_eq hw hn (by omega) (by omega)).mpr g)
              refine v_iconst hX (v := 0) 35 rfl (by decide) ?_
              exact V.sub (j62 _ (by rw [hasB_s (by omega), q44, Bool.false_or, beq_eq_false_iff_ne.mpr q54]; rfl)) rfl ⟨rfl, rfl, rfl, rfl, rfl, rfl, rfl, rfl, rfl, rfl, rfl, rfl, rfl, rfl, rfl, trivial⟩
            · skip
              have q54 : cp M 1 a 3 = nI p := (toV_eq hw hn (by omega) (by omega)).mp c54
              refine v_iconst hX (v := 1) 33 rfl (by decide) ?_
              refine v_goto hX (tgt := 62) 34 rfl (by decide) ?_
              exact V.sub (j62 _ (by rw [hasB_s (by omega), q54]; simp [bI])) rfl ⟨rfl, rfl, rfl, rfl, rfl, rfl, rfl, rfl, rfl, rfl, rfl, rfl, rfl, rfl, rfl, trivial⟩
      exact V.sub (la (p + 1) (by omega) (Nat.le_refl _)) rfl ⟨rfl, rfl, rfl, rfl, rfl, rfl, rfl, rfl, rfl, rfl, rfl, rfl, rfl, rfl, (by first | rfl | (refine congrArg (fun z : Int32 => some (Value.int z)) ?_; rw [hasB_0]; rfl)), rfl, trivial⟩
  exact V.sub (lp 0 (Nat.zero_le _)) rfl ⟨rfl, rfl, rfl, rfl, rfl, rfl, rfl, rfl, rfl, (by first | rfl | (refine congrArg (fun z : Int32 => some (Value.int z)) ?_; rfl)), (by first | rfl | (refine congrArg (fun z : Int32 => some (Value.int z)) ?_; rfl)), (by first | rfl | (refine congrArg (fun z : Int32 => some (Value.int z)) ?_; rfl)), (by first | rfl | (refine congrArg (fun z : Int32 => some (Value.int z)) ?_; rfl)), rfl, trivial⟩
set_option maxRecDepth 100000 in
set_option maxHeartbeats 8000000 in
theorem l_tries_b {Y : Yt} {X : XT} {M : Mm} (hX : vOK Y X iL_tries 22 "PointAnswersLaw" { frames := 6, cells := 3, slots := 72, locals := 129 } (some .boolean)) {q1 : Nat} {V0 : Nat → Int32} (hC1 : aC Y 2 0 q1 24) {n la dy : Nat} (hz : M.1 1 1 = nI n) (hn : n ≤ 24) (hw : WF (cp M 1) n) (hS : LSt M (cp M 1) n) (h9 : sm9 (cp M 1) n) (hsd : ∀ i t, i < n → t < i → cp M 1 i 3 = nI t → ¬ cp M 1 i 0 = cp M 1 t 0) (hT0 : M.1 278 0 = M.1 1 4) (hT1 : M.1 278 1 = M.1 1 5) (hT2 : M.1 278 2 = M.1 1 2) (hT3 : M.1 278 3 = nI n) (hT4 : M.1 278 4 = M.1 1 3) (hla : la ≤ 60) (hdy : dy ≤ 999) (h4 : M.1 1 4 = nI la) (h2 : M.1 1 2 = nI dy) (h5 : 0 ≤ M.1 1 5) (hW : ∀ i, i < n → M.1 277 i = wv M n i) (hret : ∀ M1 L1, (∃ Vv, M1 = mrow M 2 Vv) → V Y X M1 372 L1 [.int 1]) (hk : ∀ Vv : Nat → Int32, cnt (bq M n) n ≤ 7 → V Y X (mrow M 2 Vv) 373 [some (.ref (Y.2.2.2.1 0)), some (.ref (Y.2.2.2.1 270)), some (.ref (Y.2.2.2.1 271)), some (.ref (Y.2.2.2.1 273)), some (.ref (Y.2.2.2.1 274)), some (.ref (Y.2.2.2.1 275)), some (.ref (Y.2.2.2.1 276)), some (.ref (Y.2.2.2.1 277)), some (.ref (Y.2.2.2.1 278)), some (.int (mk (bq M n) n)), some (.int (mk (pCl (cp M 1)) n)), some (.int (mk (bOut M 1) n)), some (.int (mk (bSd M 1 n) n)), none, none, some (.ref q1), none, none, none, none, none, none] []) : V Y X (mrow M 2 V0) 190 [some (.ref (Y.2.2.2.1 0)), some (.ref (Y.2.2.2.1 270)), some (.ref (Y.2.2.2.1 271)), some (.ref (Y.2.2.2.1 273)), some (.ref (Y.2.2.2.1 274)), some (.ref (Y.2.2.2.1 275)), some (.ref (Y.2.2.2.1 276)), some (.ref (Y.2.2.2.1 277)), some (.ref (Y.2.2.2.1 278)), some (.int (mk (bq M n) n)), some (.int (mk (pCl (cp M 1)) n)), some (.int (mk (bOut M 1) n)), some (.int (mk (bSd M 1 n) n)), some (.int (-6)), some (.int (-6)), some (.ref q1), none, none, none, none, none, none] [] := by
  have hB3 : ∀ Vv : Nat → Int32, (mrow M 2 Vv).1 278 (0 + Int32.toNatClampNeg 3) = nI n := fun Vv => by rw [mrow_n (by decide)]; exact hT3
  have hA4 : ∀ (Vv : Nat → Int32) k, k < n → (mrow M 2 Vv).1 274 (0 + (nI k).toNatClampNeg) = toV (cp M 1) k := fun Vv k hk => by rw [mrow_n (by decide), nI_clamp (by omega), Nat.zero_add]; exact (hS k hk).2.2.2.2.1
  have hAw : ∀ (Vv : Nat → Int32) k, k < n → (mrow M 2 Vv).1 277 (0 + (nI k).toNatClampNeg) = wv M n k := fun Vv k hk => by rw [mrow_n (by decide), nI_clamp (by omega), Nat.zero_add]; exact hW k hk
  have hAv : ∀ (Vv : Nat → Int32) k, k < 24 → (mrow M 2 Vv).1 2 (0 + (nI k).toNatClampNeg) = Vv k := fun Vv k hk => by rw [mrow_s, nI_clamp (by omega), Nat.zero_add]
  have hbb : ∀ p, p < n → (mk (bq M n) n >>> (nI p &&& 31)) &&& 1 = bI (bq M n p) := fun p hp => by rw [shr1 (show p < 31 by omega), bt_mk _ (by omega) (by omega), decide_eq_true hp, Bool.true_and]; rfl
  refine v_iconst hX (v := 0) 105 rfl (by decide) ?_
  refine v_istore hX 106 rfl (Nat.le_of_ble_eq_true rfl) rfl ?_
  have lp : ∀ (p : Nat), p ≤ n → ∀ Vv : Nat → Int32, V Y X (mrow M 2 Vv) 193 [some (.ref (Y.2.2.2.1 0)), some (.ref (Y.2.2.2.1 270)), some (.ref (Y.2.2.2.1 271)), some (.ref (Y.2.2.2.1 273)), some (.ref (Y.2.2.2.1 274)), some (.ref (Y.2.2.2.1 275)), some (.ref (Y.2.2.2.1 276)), some (.ref (Y.2.2.2.1 277)), some (.ref (Y.2.2.2.1 278)), some (.int (mk (bq M n) n)), some (.int (mk (pCl (cp M 1)) n)), some (.int (mk (bOut M 1) n)), some (.int (mk (bSd M 1 n) n)), some (.int (baS M n p).1), some (.int (baS M n p).2), some (.ref q1), some (.int (nI p)), none, none, none, none, none] [] := by
    refine upTo n (fun p hp0 ih => ?_)
    intro Vv
    refine v_iload hX 107 rfl rfl ?_
    refine v_aload hX 108 rfl rfl ?_
    refine v_iconst hX (v := 3) 109 rfl (by decide) ?_
    refine v_ialg hX aC_278 (vp_in_nI (n := 3) (by decide) (by decide)) 110 rfl ?_
    rw [hB3]
    refine v_icmp_ge hX (tgt := 339) 111 rfl (by decide) (fun c199 => ?_) (fun c199 => ?_)
    · skip
      have hpn : n = p := by have := of_le c199 (by omega) (by omega); omega
      subst hpn
      refine v_aload_n hX 0 183 rfl rfl rfl ?_
      refine v_iconst hX (v := 0) 184 rfl (by decide) ?_
      refine v_callV hX 1 (by decide) rfl rfl (f_best (M := mrow M 2 Vv) (w := 0) (Or.inl rfl) (by rw [mrow_n (by decide)]; exact hz) hn (by rw [cp_r2]; exact hw)) tw_447 tw_444 tw_445 tw_446 tw_39 (by decide +kernel) ⟨⟨rfl, rfl⟩, Nat.le_of_ble_eq_true rfl, Nat.le_of_ble_eq_true rfl⟩ rfl (Nat.le_of_ble_eq_true rfl) rfl rfl 185 rfl ?_
      rw [if_pos rfl, baS_r2, baS_24 hn]
      refine v_iload hX 186 rfl rfl ?_
      refine v_icmp_ne hX (tgt := 359) 187 rfl (by decide) (fun c346 => absurd c346 (fun h => h rfl)) (fun c346 => ?_)
      refine v_aload_n hX 0 188 rfl rfl rfl ?_
      refine v_iconst hX (v := 1) 189 rfl (by decide) ?_
      refine v_callV hX 1 (by decide) rfl rfl (f_best (M := mrow M 2 Vv) (w := 1) (Or.inr rfl) (by rw [mrow_n (by decide)]; exact hz) hn (by rw [cp_r2]; exact hw)) tw_447 tw_444 tw_445 tw_446 tw_39 (by decide +kernel) ⟨⟨rfl, rfl⟩, Nat.le_of_ble_eq_true rfl, Nat.le_of_ble_eq_true rfl⟩ rfl (Nat.le_of_ble_eq_true rfl) rfl rfl 190 rfl ?_
      rw [if_neg (by decide), baS_r2, baS_24 hn]
      refine v_iload hX 191 rfl rfl ?_
      refine v_icmp_eq hX (tgt := 361) 192 rfl (by decide) (fun c356 => ?_) (fun c356 => absurd rfl c356)
      refine v_iload hX 195 rfl rfl ?_
      refine v_callS hX 1 (l_bits) tw_417 tw_415 tw_416 tw_38 (by decide +kernel) ⟨⟨rfl, rfl⟩, Nat.le_of_ble_eq_true rfl, Nat.le_of_ble_eq_true rfl⟩ rfl (Nat.le_of_ble_eq_true rfl) rfl rfl 196 rfl ?_
      rw [cnt_bt hn]
      refine v_bipush hX (v := 7) 197 rfl (by decide) ?_
      refine v_icmp_le hX (tgt := 373) 198 rfl (by decide) (fun c368 => ?_) (fun c368 => ?_)
      · skip
        have hb7 : cnt (bq M n) n ≤ 7 := by have := cnt_le (bq M n) n; exact of_le (k := 7) c368 (by omega) (by omega)
        exact V.sub (hk Vv hb7) rfl ⟨rfl, rfl, rfl, rfl, rfl, rfl, rfl, rfl, rfl, rfl, rfl, rfl, rfl, rfl, trivial⟩
      · skip
        refine v_iconst hX (v := 1) 199 rfl (by decide) ?_
        exact hret _ _ ⟨Vv, rfl⟩
    · skip
      have hp : p < n := of_nle c199 (by omega) (by omega)
      refine v_iload hX 112 rfl rfl ?_
      refine v_iload hX 113 rfl rfl ?_
      refine v_ishr hX 114 rfl ?_
      refine v_iconst hX (v := 1) 115 rfl (by decide) ?_
      refine v_iand hX 116 rfl ?_
      rw [hbb p hp]
      refine v_iconst hX (v := 1) 117 rfl (by decide) ?_
      refine v_icmp_ne hX (tgt := 333) 118 rfl (by decide) (fun c210 => ?_) (fun c210 => ?_)
      · skip
        have q210 : bq M n p = false := by cases ho : bq M n p; rfl; exact absurd (bI_1.mpr ho) c210
        have hbs := baS_n hn hp q210
        refine v_iinc hX 181 rfl rfl (nI_inc p) (Nat.le_of_ble_eq_true rfl) rfl ?_
        refine v_goto hX (tgt := 193) 182 rfl (by decide) ?_
        refine V.subM (ih hp Vv) ?_ rfl ⟨rfl, rfl, rfl, rfl, rfl, rfl, rfl, rfl, rfl, rfl, rfl, rfl, rfl, (by first | rfl | (refine congrArg (fun z : Int32 => some (Value.int z)) ?_; rw [hbs])), (by first | rfl | (refine congrArg (fun z : Int32 => some (Value.int z)) ?_; rw [hbs])), rfl, rfl, trivial⟩
        rfl
      · skip
        have q210 : bq M n p = true := bI_1.mp c210
        have hbs := baS_y hn hp q210
        refine v_aload_n hX 1 119 rfl rfl rfl ?_
        refine v_aload_n hX 2 120 rfl rfl rfl ?_
        refine v_aload_n hX 3 121 rfl rfl rfl ?_
        refine v_aload hX 122 rfl rfl ?_
        refine v_aload hX 123 rfl rfl ?_
        refine v_aload hX 124 rfl rfl ?_
        refine v_aload hX 125 rfl rfl ?_
        refine v_aload hX 126 rfl rfl ?_
        refine v_iconst hX (v := 1) 127 rfl (by decide) ?_
        refine v_iload hX 128 rfl rfl ?_
        refine v_ishl hX 129 rfl ?_
        obtain ⟨V2, hV2, hVk, hF⟩ := l_reasonsR (Y := Y) (M := M) (more := ((1 : Int32) <<< (nI p &&& 31))) (Vv := Vv) hn hw h9 hS hla (show dy ≤ 3000 by omega) hT0 hT1 hT2 hT3 hT4 h4 h2 hC1
        refine v_callS hX 9 (hF) tw_360 tw_358 tw_359 tw_38 (by decide +kernel) ⟨⟨rfl, rfl⟩, Nat.le_of_ble_eq_true rfl, Nat.le_of_ble_eq_true rfl⟩ rfl (Nat.le_of_ble_eq_true rfl) rfl rfl 130 rfl ?_
        refine v_iconst hX (v := 0) 131 rfl (by decide) ?_
        refine v_istore hX 132 rfl (Nat.le_of_ble_eq_true rfl) rfl ?_
        refine v_iconst hX (v := 0) 133 rfl (by decide) ?_
        refine v_istore hX 134 rfl (Nat.le_of_ble_eq_true rfl) rfl ?_
        have lq : ∀ (q : Nat), q ≤ n → V Y X (mrow M 2 V2) 239 [some (.ref (Y.2.2.2.1 0)), some (.ref (Y.2.2.2.1 270)), some (.ref (Y.2.2.2.1 271)), some (.ref (Y.2.2.2.1 273)), some (.ref (Y.2.2.2.1 274)), some (.ref (Y.2.2.2.1 275)), some (.ref (Y.2.2.2.1 276)), some (.ref (Y.2.2.2.1 277)), some (.ref (Y.2.2.2.1 278)), some (.int (mk (bq M n) n)), some (.int (mk (pCl (cp M 1)) n)), some (.int (mk (bOut M 1) n)), some (.int (mk (bSd M 1 n) n)), some (.int (baS M n p).1), some (.int (baS M n p).2), some (.ref q1), some (.int (nI p)), some (.int (nI (cnt (chq M n p) q))), some (.int (nI q)), none, none, none] [] := by
          refine upTo n (fun q hq0 ihq => ?_)
          refine v_iload hX 135 rfl rfl ?_
          refine v_aload hX 136 rfl rfl ?_
          refine v_iconst hX (v := 3) 137 rfl (by decide) ?_
          refine v_ialg hX aC_278 (vp_in_nI (n := 3) (by decide) (by decide)) 138 rfl ?_
          rw [hB3]
          refine v_icmp_ge hX (tgt := 301) 139 rfl (by decide) (fun c245 => ?_) (fun c245 => ?_)
          · skip
            have hqn : n = q := by have := of_le c245 (by omega) (by omega); omega
            subst hqn
            have j315 : ∀ (x4 : Int32), x4 = (baS M n (p + 1)).1 → V Y X (mrow M 2 V2) 315 [some (.ref (Y.2.2.2.1 0)), some (.ref (Y.2.2.2.1 270)), some (.ref (Y.2.2.2.1 271)), some (.ref (Y.2.2.2.1 273)), some (.ref (Y.2.2.2.1 274)), some (.ref (Y.2.2.2.1 275)), some (.ref (Y.2.2.2.1 276)), some (.ref (Y.2.2.2.1 277)), some (.ref (Y.2.2.2.1 278)), some (.int (mk (bq M n) n)), some (.int (mk (pCl (cp M 1)) n)), some (.int (mk (bOut M 1) n)), some (.int (mk (bSd M 1 n) n)), none, some (.int (baS M n p).2), some (.ref q1), some (.int (nI p)), some (.int (nI (cnt (chq M n p) n))), none, none, none, none] [.int x4] := by
              intro x4 hx4
              refine v_istore hX 173 rfl (Nat.le_of_ble_eq_true rfl) rfl ?_
              have j331 : ∀ (x5 : Int32), x5 = (baS M n (p + 1)).2 → V Y X (mrow M 2 V2) 331 [some (.ref (Y.2.2.2.1 0)), some (.ref (Y.2.2.2.1 270)), some (.ref (Y.2.2.2.1 271)), some (.ref (Y.2.2.2.1 273)), some (.ref (Y.2.2.2.1 274)), some (.ref (Y.2.2.2.1 275)), some (.ref (Y.2.2.2.1 276)), some (.ref (Y.2.2.2.1 277)), some (.ref (Y.2.2.2.1 278)), some (.int (mk (bq M n) n)), some (.int (mk (pCl (cp M 1)) n)), some (.int (mk (bOut M 1) n)), some (.int (mk (bSd M 1 n) n)), some (.int x4), none, some (.ref q1), some (.int (nI p)), none, none, none, none, none] [.int x5] := by
                intro x5 hx5
                refine v_istore hX 180 rfl (Nat.le_of_ble_eq_true rfl) rfl ?_
                refine v_iinc hX 181 rfl rfl (nI_inc p) (Nat.le_of_ble_eq_true rfl) rfl ?_
                refine v_goto hX (tgt := 193) 182 rfl (by decide) ?_
                refine V.subM (ih hp V2) ?_ rfl ⟨rfl, rfl, rfl, rfl, rfl, rfl, rfl, rfl, rfl, rfl, rfl, rfl, rfl, (by first | rfl | (refine congrArg (fun z : Int32 => some (Value.int z)) ?_; first | exact hx4 | exact hx5)), (by first | rfl | (refine congrArg (fun z : Int32 => some (Value.int z)) ?_; first | exact hx4 | exact hx5)), rfl, rfl, trivial⟩
                rfl
              refine v_iload hX 174 rfl rfl ?_
              refine v_iload hX 175 rfl rfl ?_
              refine v_icmp_le hX (tgt := 329) 176 rfl (by decide) (fun c321 => ?_) (fun c321 => ?_)
              · skip
                refine v_iload hX 179 rfl rfl ?_
                exact V.sub (j331 _ (by rw [hbs, if_pos c321])) rfl ⟨rfl, rfl, rfl, rfl, rfl, rfl, rfl, rfl, rfl, rfl, rfl, rfl, rfl, rfl, rfl, rfl, trivial⟩
              · skip
                refine v_iload hX 177 rfl rfl ?_
                refine v_goto hX (tgt := 331) 178 rfl (by decide) ?_
                exact V.sub (j331 _ (by rw [hbs, if_neg c321])) rfl ⟨rfl, rfl, rfl, rfl, rfl, rfl, rfl, rfl, rfl, rfl, rfl, rfl, rfl, rfl, rfl, rfl, trivial⟩
            refine v_iload hX 167 rfl rfl ?_
            refine v_iload hX 168 rfl rfl ?_
            refine v_icmp_le hX (tgt := 313) 169 rfl (by decide) (fun c305 => ?_) (fun c305 => ?_)
            · skip
              refine v_iload hX 172 rfl rfl ?_
              exact V.sub (j315 _ (by rw [hbs, if_pos c305])) rfl ⟨rfl, rfl, rfl, rfl, rfl, rfl, rfl, rfl, rfl, rfl, rfl, rfl, rfl, rfl, rfl, rfl, rfl, trivial⟩
            · skip
              refine v_iload hX 170 rfl rfl ?_
              refine v_goto hX (tgt := 315) 171 rfl (by decide) ?_
              exact V.sub (j315 _ (by rw [hbs, if_neg c305])) rfl ⟨rfl, rfl, rfl, rfl, rfl, rfl, rfl, rfl, rfl, rfl, rfl, rfl, rfl, rfl, rfl, rfl, rfl, trivial⟩
          · skip
            have hq : q < n := of_nle c245 (by omega) (by omega)
            have j292 : ∀ (x3 : Int32), nI (cnt (chq M n p) q) + x3 = nI (cnt (chq M n p) (q + 1)) → V Y X (mrow M 2 V2) 292 [some (.ref (Y.2.2.2.1 0)), some (.ref (Y.2.2.2.1 270)), some (.ref (Y.2.2.2.1 271)), some (.ref (Y.2.2.2.1 273)), some (.ref (Y.2.2.2.1 274)), some (.ref (Y.2.2.2.1 275)), some (.ref (Y.2.2.2.1 276)), some (.ref (Y.2.2.2.1 277)), some (.ref (Y.2.2.2.1 278)), some (.int (mk (bq M n) n)), some (.int (mk (pCl (cp M 1)) n)), some (.int (mk (bOut M 1) n)), some (.int (mk (bSd M 1 n) n)), some (.int (baS M n p).1), some (.int (baS M n p).2), some (.ref q1), some (.int (nI p)), none, some (.int (nI q)), none, none, none] [.int x3, .int (nI (cnt (chq M n p) q))] := by
              intro x3 hx3
              refine v_iadd hX 163 rfl ?_
              rw [hx3]
              refine v_istore hX 164 rfl (Nat.le_of_ble_eq_true rfl) rfl ?_
              refine v_iinc hX 165 rfl rfl (nI_inc q) (Nat.le_of_ble_eq_true rfl) rfl ?_
              refine v_goto hX (tgt := 239) 166 rfl (by decide) ?_
              refine V.subM (ihq hq) ?_ rfl ⟨rfl, rfl, rfl, rfl, rfl, rfl, rfl, rfl, rfl, rfl, rfl, rfl, rfl, rfl, rfl, rfl, rfl, (by first | rfl | (refine congrArg (fun z : Int32 => some (Value.int z)) ?_; rfl)), rfl, trivial⟩
              rfl
            refine v_iload hX 140 rfl rfl ?_
            refine v_aload hX 141 rfl rfl ?_
            refine v_iload hX 142 rfl rfl ?_
            refine v_ialg hX aC_274 (vp_in_nI (by omega) (by decide)) 143 rfl ?_
            rw [hA4 _ _ (by omega)]
            refine v_if_ge hX (tgt := 291) 144 rfl (by decide) (fun c255 => ?_) (fun c255 => ?_)
            · skip
              refine v_iconst hX (v := 0) 162 rfl (by decide) ?_
              exact V.sub (j292 _ (by rw [cnt, if_neg (show ¬ chq M n p q = true by unfold chq pCl; rw [beq_eq_false_iff_ne.mpr (toV_ge hw hn hq c255)]; simp)]; exact (Int32.add_zero _))) rfl ⟨rfl, rfl, rfl, rfl, rfl, rfl, rfl, rfl, rfl, rfl, rfl, rfl, rfl, rfl, rfl, rfl, rfl, rfl, trivial⟩
            · skip
              have j271 : ∀ (x1 : Int32), x1 = bI (sd (bOut M 1) (bt ((1 : Int32) <<< (nI p &&& 31))) (cp M 1) n q) → V Y X (mrow M 2 V2) 271 [some (.ref (Y.2.2.2.1 0)), some (.ref (Y.2.2.2.1 270)), some (.ref (Y.2.2.2.1 271)), some (.ref (Y.2.2.2.1 273)), some (.ref (Y.2.2.2.1 274)), some (.ref (Y.2.2.2.1 275)), some (.ref (Y.2.2.2.1 276)), some (.ref (Y.2.2.2.1 277)), some (.ref (Y.2.2.2.1 278)), some (.int (mk (bq M n) n)), some (.int (mk (pCl (cp M 1)) n)), some (.int (mk (bOut M 1) n)), some (.int (mk (bSd M 1 n) n)), some (.int (baS M n p).1), some (.int (baS M n p).2), some (.ref q1), some (.int (nI p)), some (.int (nI (cnt (chq M n p) q))), some (.int (nI q)), none, none, none] [.int x1, .int (nI (cnt (chq M n p) q))] := by
                intro x1 hx1
                have j284 : ∀ (x2 : Int32), x2 = bI (bSd M 1 n q) → V Y X (mrow M 2 V2) 284 [some (.ref (Y.2.2.2.1 0)), some (.ref (Y.2.2.2.1 270)), some (.ref (Y.2.2.2.1 271)), some (.ref (Y.2.2.2.1 273)), some (.ref (Y.2.2.2.1 274)), some (.ref (Y.2.2.2.1 275)), some (.ref (Y.2.2.2.1 276)), some (.ref (Y.2.2.2.1 277)), some (.ref (Y.2.2.2.1 278)), some (.int (mk (bq M n) n)), some (.int (mk (pCl (cp M 1)) n)), some (.int (mk (bOut M 1) n)), some (.int (mk (bSd M 1 n) n)), some (.int (baS M n p).1), some (.int (baS M n p).2), some (.ref q1), some (.int (nI p)), some (.int (nI (cnt (chq M n p) q))), some (.int (nI q)), none, none, none] [.int x2, .int x1, .int (nI (cnt (chq M n p) q))] := by
                  intro x2 hx2
                  refine v_icmp_eq hX (tgt := 291) 159 rfl (by decide) (fun c284 => ?_) (fun c284 => ?_)
                  · skip
                    refine v_iconst hX (v := 0) 162 rfl (by decide) ?_
                    exact V.sub (j292 _ (by rw [cnt, if_neg (show ¬ chq M n p q = true by unfold chq; rw [bI_eq.mp (hx1.symm.trans (c284.trans hx2))]; simp)]; exact (Int32.add_zero _))) rfl ⟨rfl, rfl, rfl, rfl, rfl, rfl, rfl, rfl, rfl, rfl, rfl, rfl, rfl, rfl, rfl, rfl, rfl, rfl, trivial⟩
                  · skip
                    refine v_iconst hX (v := 1) 160 rfl (by decide) ?_
                    refine v_goto hX (tgt := 292) 161 rfl (by decide) ?_
                    exact V.sub (j292 _ (by rw [cnt, if_pos (show chq M n p q = true by unfold chq pCl; rw [toV_ng hw hn hq c255]; have h : ¬ sd (bOut M 1) (bt ((1 : Int32) <<< (nI p &&& 31))) (cp M 1) n q = bSd M 1 n q := fun g => c284 (by rw [hx1, hx2, g]); simpa using h)]; exact (nI_add _ 1))) rfl ⟨rfl, rfl, rfl, rfl, rfl, rfl, rfl, rfl, rfl, rfl, rfl, rfl, rfl, rfl, rfl, rfl, rfl, rfl, trivial⟩
                refine v_aload hX 152 rfl rfl ?_
                refine v_iload hX 153 rfl rfl ?_
                refine v_ialg hX aC_277 (vp_in_nI (by omega) (by decide)) 154 rfl ?_
                rw [hAw _ _ (by omega)]
                refine v_if_ne hX (tgt := 283) 155 rfl (by decide) (fun c276 => ?_) (fun c276 => ?_)
                · skip
                  refine v_iconst hX (v := 0) 158 rfl (by decide) ?_
                  exact V.sub (j284 _ (by cases ho : bSd M 1 n q; rfl; exact absurd ((wv_0 hq).mpr ho) c276)) rfl ⟨rfl, rfl, rfl, rfl, rfl, rfl, rfl, rfl, rfl, rfl, rfl, rfl, rfl, rfl, rfl, rfl, rfl, rfl, rfl, trivial⟩
                · skip
                  refine v_iconst hX (v := 1) 156 rfl (by decide) ?_
                  refine v_goto hX (tgt := 284) 157 rfl (by decide) ?_
                  exact V.sub (j284 _ (by rw [(wv_0 hq).mp c276]; rfl)) rfl ⟨rfl, rfl, rfl, rfl, rfl, rfl, rfl, rfl, rfl, rfl, rfl, rfl, rfl, rfl, rfl, rfl, rfl, rfl, rfl, trivial⟩
              refine v_aload hX 145 rfl rfl ?_
              refine v_iload hX 146 rfl rfl ?_
              refine v_ialg hX hC1 (vp_in_nI (by omega) (by decide)) 147 rfl ?_
              rw [hAv _ _ (by omega)]
              refine v_if_ne hX (tgt := 270) 148 rfl (by decide) (fun c263 => ?_) (fun c263 => ?_)
              · skip
                refine v_iconst hX (v := 0) 151 rfl (by decide) ?_
                exact V.sub (j271 _ (by cases ho : sd (bOut M 1) (bt ((1 : Int32) <<< (nI p &&& 31))) (cp M 1) n q; rfl; exact absurd ((hV2 q hq).mpr ho) c263)) rfl ⟨rfl, rfl, rfl, rfl, rfl, rfl, rfl, rfl, rfl, rfl, rfl, rfl, rfl, rfl, rfl, rfl, rfl, rfl, rfl, trivial⟩
              · skip
                refine v_iconst hX (v := 1) 149 rfl (by decide) ?_
                refine v_goto hX (tgt := 271) 150 rfl (by decide) ?_
                exact V.sub (j271 _ (by rw [(hV2 q hq).mp c263]; rfl)) rfl ⟨rfl, rfl, rfl, rfl, rfl, rfl, rfl, rfl, rfl, rfl, rfl, rfl, rfl, rfl, rfl, rfl, rfl, rfl, rfl, trivial⟩
        refine V.subM (lq 0 (Nat.zero_le _)) ?_ rfl ⟨rfl, rfl, rfl, rfl, rfl, rfl, rfl, rfl, rfl, rfl, rfl, rfl, rfl, rfl, rfl, rfl, rfl, (by first | rfl | (refine congrArg (fun z : Int32 => some (Value.int z)) ?_; rfl)), rfl, trivial⟩
        rfl
  refine V.subM (lp 0 (Nat.zero_le _) V0) ?_ rfl ⟨rfl, rfl, rfl, rfl, rfl, rfl, rfl, rfl, rfl, rfl, rfl, rfl, rfl, (by first | rfl | (refine congrArg (fun z : Int32 => some (Value.int z)) ?_; rfl)), (by first | rfl | (refine congrArg (fun z : Int32 => some (Value.int z)) ?_; rfl)), rfl, rfl, trivial⟩
  rfl
