theorem aM_28 {M : Mm} {Vv : Nat → Int32} {q : (Nat → Int32) × (Nat → Int32)} : (aM M Vv q).1 28 = q.1 := wM_r28
theorem aM_29 {M : Mm} {Vv : Nat → Int32} {q : (Nat → Int32) × (Nat → Int32)} : (aM M Vv q).1 29 = q.2 := wM_r29
theorem aM_w {M : Mm} {Vv : Nat → Int32} {q : (Nat → Int32) × (Nat → Int32)} {n : Nat} (hn : n ≤ 24) (hw : WF (cp M 1) n) : WF (cp (aM M Vv q) 1) n := WF_cg (fun i hi => aM_cp (by omega)) hw
set_option maxHeartbeats 4000000 in
theorem tr_fall {Y : Yt} {M : Mm} {n p K : Nat} {Vv : Nat → Int32} {q : (Nat → Int32) × (Nat → Int32)} (hz : M.1 1 1 = nI n) (hn : n ≤ 24) (hw : WF (cp M 1) n) (hp : p < n) (hK : K = 2 ^ cnt (bq M n) n) (hV : okS M n K 0 Vv) : ∃ q2, Fn Y yX6_toFall wsX6_toFall { frames := 4, cells := 0, slots := 0, locals := 92 } [.ref (Y.2.2.2.1 0), .int (nI p)] (aM M Vv q) (some (.int (Vv (64 + p)))) (aM M Vv q2) := by
  have h := f_toFall (Y := Y) (M := aM M Vv q) (n := n) (i := p) (by rw [aM_o (by decide)]; exact hz) hn (aM_w hn hw) hp
  rw [aM_wM, aM_28, (fs_cost hn (aM_w hn hw) hp).1, ← (aM_fs (q := q) hn hw hp hK hV).1] at h
  exact ⟨_, h⟩
set_option maxHeartbeats 4000000 in
theorem tr_stand {Y : Yt} {M : Mm} {n p K : Nat} {Vv : Nat → Int32} {q : (Nat → Int32) × (Nat → Int32)} (hz : M.1 1 1 = nI n) (hn : n ≤ 24) (hw : WF (cp M 1) n) (hp : p < n) (hK : K = 2 ^ cnt (bq M n) n) (hV : okS M n K 0 Vv) : ∃ q2, Fn Y yX6_toStand wsX6_toStand { frames := 4, cells := 0, slots := 0, locals := 92 } [.ref (Y.2.2.2.1 0), .int (nI p)] (aM M Vv q) (some (.int (if bOut M 1 p = true then -5 else Vv (128 + p)))) (aM M Vv q2) := by
  have h := f_toStand (Y := Y) (M := aM M Vv q) (n := n) (i := p) (by rw [aM_o (by decide)]; exact hz) hn (aM_w hn hw) hp
  have ho : bOut (aM M Vv q) 1 p = bOut M 1 p := bO_cg (n := n) (fun i hi => aM_cp (by omega)) (aM_o (by decide)) p hp
  have hs := (aM_fs (q := q) hn hw hp hK hV).2
  have hf := (fs_cost (M := aM M Vv q) hn (aM_w hn hw) hp).2
  rw [ho, aM_wM, aM_29, hf, ← hs] at h
  refine ⟨if bOut M 1 p = true then q else wAll (cp (aM M Vv q) 1) (bOut (aM M Vv q) 1) (naP (cp (aM M Vv q) 1) n) n (wI (aM M Vv q) 24) 24, ?_⟩
  rw [apply_ite (aM M Vv)]
  exact h
theorem fill6 {k : Nat} {Vv : Nat → Int32} (h : ∀ j, j < k → Vv (64 + j) = -6 ∧ Vv (128 + j) = -6) : ∀ j, j < k + 1 → upd (upd Vv (64 + k) (-6)) (128 + k) (-6) (64 + j) = -6 ∧ upd (upd Vv (64 + k) (-6)) (128 + k) (-6) (128 + j) = -6 := by
  intro j hj
  unfold upd
  by_cases e : j = k
  · subst e
    refine ⟨?_, if_pos rfl⟩
    by_cases g : 64 + j = 128 + j
    · omega
    · rw [if_neg g, if_pos rfl]
  · have h1 := h j (by omega)
    refine ⟨?_, ?_⟩
    · by_cases g : 64 + j = 128 + k
      · rw [if_pos g]
      · rw [if_neg g, if_neg (by omega)]; exact h1.1
    · rw [if_neg (by omega)]
      by_cases g : 128 + j = 64 + k
      · rw [if_pos g]
      · rw [if_neg g]; exact h1.2
set_option maxRecDepth 100000 in
set_option maxHeartbeats 8000000 in
theorem l_tries_c {Y : Yt} {X : XT} {M : Mm} (hX : vOK Y X iL_tries 22 "PointAnswersLaw" { frames := 6, cells := 3, slots := 72, locals := 129 } (some .boolean)) {q1 q2 q3 : Nat} {V0 : Nat → Int32} (hC1 : aC Y 2 0 q1 24) (hC2 : aC Y 2 64 q2 24) (hC3 : aC Y 2 128 q3 24) {n la dy : Nat} (hz : M.1 1 1 = nI n) (hn : n ≤ 24) (hw : WF (cp M 1) n) (hS : LSt M (cp M 1) n) (h9 : sm9 (cp M 1) n) (hsd : ∀ i t, i < n → t < i → cp M 1 i 3 = nI t → ¬ cp M 1 i 0 = cp M 1 t 0) (hT0 : M.1 278 0 = M.1 1 4) (hT1 : M.1 278 1 = M.1 1 5) (hT2 : M.1 278 2 = M.1 1 2) (hT3 : M.1 278 3 = nI n) (hT4 : M.1 278 4 = M.1 1 3) (hla : la ≤ 60) (hdy : dy ≤ 999) (h4 : M.1 1 4 = nI la) (h2 : M.1 1 2 = nI dy) (h5 : 0 ≤ M.1 1 5) (hW : ∀ i, i < n → M.1 277 i = wv M n i) (hb7 : cnt (bq M n) n ≤ 7) (hret : ∀ M1 L1, (∃ Vv q, M1 = aM M Vv q) → V Y X M1 694 L1 [.int 1]) : V Y X (mrow M 2 V0) 385 [some (.ref (Y.2.2.2.1 0)), some (.ref (Y.2.2.2.1 270)), some (.ref (Y.2.2.2.1 271)), some (.ref (Y.2.2.2.1 273)), some (.ref (Y.2.2.2.1 274)), some (.ref (Y.2.2.2.1 275)), some (.ref (Y.2.2.2.1 276)), some (.ref (Y.2.2.2.1 277)), some (.ref (Y.2.2.2.1 278)), some (.int (mk (bq M n) n)), some (.int (mk (pCl (cp M 1)) n)), some (.int (mk (bOut M 1) n)), some (.int (mk (bSd M 1 n) n)), none, none, some (.ref q1), some (.ref q2), some (.ref q3), none, none, none, none] [] := by
  have hB3 : ∀ Vv : Nat → Int32, (mrow M 2 Vv).1 278 (0 + Int32.toNatClampNeg 3) = nI n := fun Vv => by rw [mrow_n (by decide)]; exact hT3
  have hA4 : ∀ (Vv : Nat → Int32) k, k < n → (mrow M 2 Vv).1 274 (0 + (nI k).toNatClampNeg) = toV (cp M 1) k := fun Vv k hk => by rw [mrow_n (by decide), nI_clamp (by omega), Nat.zero_add]; exact (hS k hk).2.2.2.2.1
  have hAw : ∀ (Vv : Nat → Int32) k, k < n → (mrow M 2 Vv).1 277 (0 + (nI k).toNatClampNeg) = wv M n k := fun Vv k hk => by rw [mrow_n (by decide), nI_clamp (by omega), Nat.zero_add]; exact hW k hk
  have hAv : ∀ (Vv : Nat → Int32) k, k < 24 → (mrow M 2 Vv).1 2 (0 + (nI k).toNatClampNeg) = Vv k := fun Vv k hk => by rw [mrow_s, nI_clamp (by omega), Nat.zero_add]
  have hbb : ∀ p, p < n → (mk (bq M n) n >>> (nI p &&& 31)) &&& 1 = bI (bq M n p) := fun p hp => by rw [shr1 (show p < 31 by omega), bt_mk _ (by omega) (by omega), decide_eq_true hp, Bool.true_and]; rfl
  have hAF : ∀ (Vv : Nat → Int32) k, k < 24 → (mrow M 2 Vv).1 2 (64 + (nI k).toNatClampNeg) = Vv (64 + k) := fun Vv k hk => by rw [mrow_s, nI_clamp (by omega)]
  have hAS : ∀ (Vv : Nat → Int32) k, k < 24 → (mrow M 2 Vv).1 2 (128 + (nI k).toNatClampNeg) = Vv (128 + k) := fun Vv k hk => by rw [mrow_s, nI_clamp (by omega)]
  have hAFq : ∀ (Vv : Nat → Int32) q k, k < 24 → (aM M Vv q).1 2 (64 + (nI k).toNatClampNeg) = Vv (64 + k) := fun Vv q k hk => by rw [aM_2, nI_clamp (by omega)]
  have hASq : ∀ (Vv : Nat → Int32) q k, k < 24 → (aM M Vv q).1 2 (128 + (nI k).toNatClampNeg) = Vv (128 + k) := fun Vv q k hk => by rw [aM_2, nI_clamp (by omega)]
  have hB3q : ∀ (Vv : Nat → Int32) q, (aM M Vv q).1 278 (0 + Int32.toNatClampNeg 3) = nI n := fun Vv q => by rw [aM_o (by decide)]; exact hT3
  obtain ⟨K, hKe⟩ : ∃ K, K = 2 ^ cnt (bq M n) n := ⟨_, rfl⟩
  have hK128 : K ≤ 128 := by rw [hKe]; exact Nat.le_trans (Nat.pow_le_pow_right (by decide) hb7) (by decide)
  have hoo : ∀ p, p < n → (mk (bOut M 1) n >>> (nI p &&& 31)) &&& 1 = bI (bOut M 1 p) := fun p hp => by rw [shr1 (show p < 31 by omega), bt_mk _ (by omega) (by omega), decide_eq_true hp, Bool.true_and]; rfl
  refine v_iconst hX (v := 0) 207 rfl (by decide) ?_
  refine v_istore hX 208 rfl (Nat.le_of_ble_eq_true rfl) rfl ?_
  have l6 : ∀ (k : Nat), k ≤ 24 → ∀ Vv : Nat → Int32, (∀ j, j < k → Vv (64 + j) = -6 ∧ Vv (128 + j) = -6) → V Y X (mrow M 2 Vv) 388 [some (.ref (Y.2.2.2.1 0)), some (.ref (Y.2.2.2.1 270)), some (.ref (Y.2.2.2.1 271)), some (.ref (Y.2.2.2.1 273)), some (.ref (Y.2.2.2.1 274)), some (.ref (Y.2.2.2.1 275)), some (.ref (Y.2.2.2.1 276)), some (.ref (Y.2.2.2.1 277)), some (.ref (Y.2.2.2.1 278)), some (.int (mk (bq M n) n)), some (.int (mk (pCl (cp M 1)) n)), some (.int (mk (bOut M 1) n)), some (.int (mk (bSd M 1 n) n)), none, none, some (.ref q1), some (.ref q2), some (.ref q3), some (.int (nI k)), none, none, none] [] := by
    refine upTo 24 (fun k hk0 ih6 => ?_)
    intro Vv h6
    refine v_iload hX 209 rfl rfl ?_
    refine v_bipush hX (v := 24) 210 rfl (by decide) ?_
    refine v_icmp_ge hX (tgt := 415) 211 rfl (by decide) (fun c392 => ?_) (fun c392 => ?_)
    · skip
      have hk24 : 24 = k := by have := of_le (a := 24) c392 (by omega) (by omega); omega
      subst hk24
      refine v_iconst hX (v := 0) 222 rfl (by decide) ?_
      refine v_istore hX 223 rfl (Nat.le_of_ble_eq_true rfl) rfl ?_
      have lk : ∀ (k : Nat), k ≤ K → ∀ Vv : Nat → Int32, okS M n k 0 Vv → V Y X (mrow M 2 Vv) 418 [some (.ref (Y.2.2.2.1 0)), some (.ref (Y.2.2.2.1 270)), some (.ref (Y.2.2.2.1 271)), some (.ref (Y.2.2.2.1 273)), some (.ref (Y.2.2.2.1 274)), some (.ref (Y.2.2.2.1 275)), some (.ref (Y.2.2.2.1 276)), some (.ref (Y.2.2.2.1 277)), some (.ref (Y.2.2.2.1 278)), some (.int (mk (bq M n) n)), some (.int (mk (pCl (cp M 1)) n)), some (.int (mk (bOut M 1) n)), some (.int (mk (bSd M 1 n) n)), none, none, some (.ref q1), some (.ref q2), some (.ref q3), some (.int (nI k)), none, none, none] [] := by
        refine upTo K (fun k hk0 ihk => ?_)
        intro Vv hV
        refine v_iload hX 224 rfl rfl ?_
        refine v_iconst hX (v := 1) 225 rfl (by decide) ?_
        refine v_iload hX 226 rfl rfl ?_
        refine v_callS hX 1 (l_bits) tw_417 tw_415 tw_416 tw_38 (by decide +kernel) ⟨⟨rfl, rfl⟩, Nat.le_of_ble_eq_true rfl, Nat.le_of_ble_eq_true rfl⟩ rfl (Nat.le_of_ble_eq_true rfl) rfl rfl 227 rfl ?_
        rw [cnt_bt hn]
        refine v_ishl hX 228 rfl ?_
        rw [shl2 _ hb7, ← hKe]
        refine v_icmp_ge hX (tgt := 615) 229 rfl (by decide) (fun c427 => ?_) (fun c427 => ?_)
        · skip
          have hkK : K = k := by have := of_le c427 (by omega) (by omega); omega
          subst hkK
          refine v_iconst hX (v := 0) 326 rfl (by decide) ?_
          refine v_istore hX 327 rfl (Nat.le_of_ble_eq_true rfl) rfl ?_
          have lv : ∀ (p : Nat), p ≤ n → ∀ q : (Nat → Int32) × (Nat → Int32), V Y X (aM M Vv q) 618 [some (.ref (Y.2.2.2.1 0)), some (.ref (Y.2.2.2.1 270)), some (.ref (Y.2.2.2.1 271)), some (.ref (Y.2.2.2.1 273)), some (.ref (Y.2.2.2.1 274)), some (.ref (Y.2.2.2.1 275)), some (.ref (Y.2.2.2.1 276)), some (.ref (Y.2.2.2.1 277)), some (.ref (Y.2.2.2.1 278)), some (.int (mk (bq M n) n)), some (.int (mk (pCl (cp M 1)) n)), some (.int (mk (bOut M 1) n)), some (.int (mk (bSd M 1 n) n)), none, none, some (.ref q1), some (.ref q2), some (.ref q3), some (.int (nI p)), none, none, none] [] := by
            refine upTo n (fun p hp0 ihv => ?_)
            intro q
            refine v_iload hX 328 rfl rfl ?_
            refine v_aload hX 329 rfl rfl ?_
            refine v_iconst hX (v := 3) 330 rfl (by decide) ?_
            refine v_ialg hX aC_278 (vp_in_nI (n := 3) (by decide) (by decide)) 331 rfl ?_
            rw [hB3q _ _]
            refine v_icmp_ge hX (tgt := 679) 332 rfl (by decide) (fun c624 => ?_) (fun c624 => ?_)
            · skip
              have hpn : n = p := by have := of_le c624 (by omega) (by omega); omega
              subst hpn
              refine v_iload hX 360 rfl rfl ?_
              refine v_aload_n hX 0 361 rfl rfl rfl ?_
              refine v_iconst hX (v := 0) 362 rfl (by decide) ?_
              refine v_callV hX 1 (by decide) rfl rfl (f_points (M := aM M Vv q) (w := 0) (by rw [aM_o (by decide)]; exact hz) hn (aM_w hn hw)) tw_421 tw_418 tw_419 tw_420 tw_39 (by decide +kernel) ⟨⟨rfl, rfl⟩, Nat.le_of_ble_eq_true rfl, Nat.le_of_ble_eq_true rfl⟩ rfl (Nat.le_of_ble_eq_true rfl) rfl rfl 363 rfl ?_
              rw [po_0, mk_congr (bS_cg (M := M) (n := n) (fun i hi => aM_cp (by omega)) (aM_o (by decide)))]
              refine v_icmp_ne hX (tgt := 693) 364 rfl (by decide) (fun c686 => absurd c686 (fun h => h rfl)) (fun c686 => ?_)
              refine v_iconst hX (v := 1) 365 rfl (by decide) ?_
              refine v_goto hX (tgt := 694) 366 rfl (by decide) ?_
              exact hret _ _ ⟨_, _, rfl⟩
            · skip
              have hp : p < n := of_nle c624 (by omega) (by omega)
              refine v_aload_n hX 0 333 rfl rfl rfl ?_
              refine v_iload hX 334 rfl rfl ?_
              obtain ⟨q4, hF⟩ := tr_fall (Y := Y) (q := q) hz hn hw hp hKe hV
              refine v_callV hX 1 (by decide) rfl rfl (hF) tw_456 tw_453 tw_454 tw_455 tw_39 (by decide +kernel) ⟨⟨rfl, rfl⟩, Nat.le_of_ble_eq_true rfl, Nat.le_of_ble_eq_true rfl⟩ rfl (Nat.le_of_ble_eq_true rfl) rfl rfl 335 rfl ?_
              refine v_aload hX 336 rfl rfl ?_
              refine v_iload hX 337 rfl rfl ?_
              refine v_ialg hX hC2 (vp_in_nI (by omega) (by decide)) 338 rfl ?_
              rw [hAFq _ _ _ (by omega)]
              refine v_icmp_ne hX (tgt := 671) 339 rfl (by decide) (fun c638 => absurd c638 (fun h => h rfl)) (fun c638 => ?_)
              refine v_aload_n hX 0 340 rfl rfl rfl ?_
              refine v_iload hX 341 rfl rfl ?_
              obtain ⟨q5, hF5⟩ := tr_stand (Y := Y) (q := q4) hz hn hw hp hKe hV
              refine v_callV hX 1 (by decide) rfl rfl (hF5) tw_482 tw_479 tw_480 tw_481 tw_39 (by decide +kernel) ⟨⟨rfl, rfl⟩, Nat.le_of_ble_eq_true rfl, Nat.le_of_ble_eq_true rfl⟩ rfl (Nat.le_of_ble_eq_true rfl) rfl rfl 342 rfl ?_
              have j668 : ∀ (x10 : Int32), x10 = (if bOut M 1 p = true then -5 else Vv (128 + p)) → V Y X (aM M Vv q5) 668 [some (.ref (Y.2.2.2.1 0)), some (.ref (Y.2.2.2.1 270)), some (.ref (Y.2.2.2.1 271)), some (.ref (Y.2.2.2.1 273)), some (.ref (Y.2.2.2.1 274)), some (.ref (Y.2.2.2.1 275)), some (.ref (Y.2.2.2.1 276)), some (.ref (Y.2.2.2.1 277)), some (.ref (Y.2.2.2.1 278)), some (.int (mk (bq M n) n)), some (.int (mk (pCl (cp M 1)) n)), some (.int (mk (bOut M 1) n)), some (.int (mk (bSd M 1 n) n)), none, none, some (.ref q1), some (.ref q2), some (.ref q3), some (.int (nI p)), none, none, none] [.int x10, .int (if bOut M 1 p = true then -5 else Vv (128 + p))] := by
                intro x10 hx10
                refine v_icmp_eq hX (tgt := 673) 355 rfl (by decide) (fun c668 => ?_) (fun c668 => absurd hx10.symm c668)
                refine v_iinc hX 358 rfl rfl (nI_inc p) (Nat.le_of_ble_eq_true rfl) rfl ?_
                refine v_goto hX (tgt := 618) 359 rfl (by decide) ?_
                refine V.subM (ihv hp q5) ?_ rfl ⟨rfl, rfl, rfl, rfl, rfl, rfl, rfl, rfl, rfl, rfl, rfl, rfl, rfl, rfl, rfl, rfl, rfl, trivial⟩
                rfl
              refine v_iload hX 343 rfl rfl ?_
              refine v_iload hX 344 rfl rfl ?_
              refine v_ishr hX 345 rfl ?_
              refine v_iconst hX (v := 1) 346 rfl (by decide) ?_
              refine v_iand hX 347 rfl ?_
              rw [hoo p hp]
              refine v_iconst hX (v := 1) 348 rfl (by decide) ?_
              refine v_icmp_ne hX (tgt := 663) 349 rfl (by decide) (fun c655 => ?_) (fun c655 => ?_)
              · skip
                have q655 : bOut M 1 p = false := by cases ho : bOut M 1 p; rfl; exact absurd (bI_1.mpr ho) c655
                refine v_aload hX 352 rfl rfl ?_
                refine v_iload hX 353 rfl rfl ?_
                refine v_ialg hX hC3 (vp_in_nI (by omega) (by decide)) 354 rfl ?_
                rw [hASq _ _ _ (by omega)]
                exact V.sub (j668 _ (if_neg (by rw [q655]; decide)).symm) rfl ⟨rfl, rfl, rfl, rfl, rfl, rfl, rfl, rfl, rfl, rfl, rfl, rfl, rfl, rfl, rfl, rfl, rfl, trivial⟩
              · skip
                have q655 : bOut M 1 p = true := bI_1.mp c655
                refine v_bipush hX (v := (-5)) 350 rfl (by decide) ?_
                refine v_goto hX (tgt := 668) 351 rfl (by decide) ?_
                exact V.sub (j668 _ (if_pos q655).symm) rfl ⟨rfl, rfl, rfl, rfl, rfl, rfl, rfl, rfl, rfl, rfl, rfl, rfl, rfl, rfl, rfl, rfl, rfl, trivial⟩
          refine V.subM (lv 0 (Nat.zero_le _) ((mrow M 2 Vv).1 28, (mrow M 2 Vv).1 29)) ?_ rfl ⟨rfl, rfl, rfl, rfl, rfl, rfl, rfl, rfl, rfl, rfl, rfl, rfl, rfl, rfl, rfl, rfl, rfl, trivial⟩
          exact aM_0
        · skip
          have hkK : k < K := of_nle c427 (by omega) (by omega)
          refine v_iconst hX (v := 0) 230 rfl (by decide) ?_
          refine v_istore hX 231 rfl (Nat.le_of_ble_eq_true rfl) rfl ?_
          refine v_iload hX 232 rfl rfl ?_
          refine v_istore hX 233 rfl (Nat.le_of_ble_eq_true rfl) rfl ?_
          refine v_iconst hX (v := 0) 234 rfl (by decide) ?_
          refine v_istore hX 235 rfl (Nat.le_of_ble_eq_true rfl) rfl ?_
          have ls : ∀ (p : Nat), p ≤ n → V Y X (mrow M 2 Vv) 440 [some (.ref (Y.2.2.2.1 0)), some (.ref (Y.2.2.2.1 270)), some (.ref (Y.2.2.2.1 271)), some (.ref (Y.2.2.2.1 273)), some (.ref (Y.2.2.2.1 274)), some (.ref (Y.2.2.2.1 275)), some (.ref (Y.2.2.2.1 276)), some (.ref (Y.2.2.2.1 277)), some (.ref (Y.2.2.2.1 278)), some (.int (mk (bq M n) n)), some (.int (mk (pCl (cp M 1)) n)), some (.int (mk (bOut M 1) n)), some (.int (mk (bSd M 1 n) n)), none, none, some (.ref q1), some (.ref q2), some (.ref q3), some (.int (nI k)), some (.int (mk (scK (bq M n) k) p)), some (.int (nI (k >>> cnt (bq M n) p))), some (.int (nI p))] [] := by
            refine upTo n (fun p hp0 ihs => ?_)
            refine v_iload hX 236 rfl rfl ?_
            refine v_aload hX 237 rfl rfl ?_
            refine v_iconst hX (v := 3) 238 rfl (by decide) ?_
            refine v_ialg hX aC_278 (vp_in_nI (n := 3) (by decide) (by decide)) 239 rfl ?_
            rw [hB3]
            refine v_icmp_ge hX (tgt := 484) 240 rfl (by decide) (fun c446 => ?_) (fun c446 => ?_)
            · skip
              have hpn : n = p := by have := of_le c446 (by omega) (by omega); omega
              subst hpn
              refine v_aload_n hX 1 262 rfl rfl rfl ?_
              refine v_aload_n hX 2 263 rfl rfl rfl ?_
              refine v_aload_n hX 3 264 rfl rfl rfl ?_
              refine v_aload hX 265 rfl rfl ?_
              refine v_aload hX 266 rfl rfl ?_
              refine v_aload hX 267 rfl rfl ?_
              refine v_aload hX 268 rfl rfl ?_
              refine v_aload hX 269 rfl rfl ?_
              refine v_iload hX 270 rfl rfl ?_
              obtain ⟨V2, hV2, hVk, hF⟩ := l_reasonsR (Y := Y) (M := M) (more := (mk (scK (bq M n) k) n)) (Vv := Vv) hn hw h9 hS hla (show dy ≤ 3000 by omega) hT0 hT1 hT2 hT3 hT4 h4 h2 hC1
              have hs0 : ∀ i, i < n → (V2 i = 0 ↔ sd (bOut M 1) (scK (bq M n) k) (cp M 1) n i = true) := fun i hi => by rw [hV2 i hi, sd_cg (o := bOut M 1) (P := cp M 1) (fun _ _ => rfl) (q' := scK (bq M n) k) (fun j hj => by rw [bt_mk _ (by omega) (by omega), decide_eq_true hj, Bool.true_and]) (fun _ _ => rfl) i hi]
              have hO : okS M n k 0 V2 := fun i hi => by rw [hVk _ (by omega), hVk _ (by omega)]; exact hV i hi
              refine v_callS hX 9 (hF) tw_360 tw_358 tw_359 tw_38 (by decide +kernel) ⟨⟨rfl, rfl⟩, Nat.le_of_ble_eq_true rfl, Nat.le_of_ble_eq_true rfl⟩ rfl (Nat.le_of_ble_eq_true rfl) rfl rfl 271 rfl ?_
              refine v_iconst hX (v := 0) 272 rfl (by decide) ?_
              refine v_istore hX 273 rfl (Nat.le_of_ble_eq_true rfl) rfl ?_
              have lt : ∀ (p : Nat), p ≤ n → ∀ V3 : Nat → Int32, (∀ i, i < n → V3 i = V2 i) → okS M n k p V3 → V Y X (mrow M 2 V3) 505 [some (.ref (Y.2.2.2.1 0)), some (.ref (Y.2.2.2.1 270)), some (.ref (Y.2.2.2.1 271)), some (.ref (Y.2.2.2.1 273)), some (.ref (Y.2.2.2.1 274)), some (.ref (Y.2.2.2.1 275)), some (.ref (Y.2.2.2.1 276)), some (.ref (Y.2.2.2.1 277)), some (.ref (Y.2.2.2.1 278)), some (.int (mk (bq M n) n)), some (.int (mk (pCl (cp M 1)) n)), some (.int (mk (bOut M 1) n)), some (.int (mk (bSd M 1 n) n)), none, none, some (.ref q1), some (.ref q2), some (.ref q3), some (.int (nI k)), some (.int (mk (scK (bq M n) k) n)), none, some (.int (nI p))] [] := by
                refine upTo n (fun p hp0 iht => ?_)
                intro V3 h3 hO3
                refine v_iload hX 274 rfl rfl ?_
                refine v_aload hX 275 rfl rfl ?_
                refine v_iconst hX (v := 3) 276 rfl (by decide) ?_
                refine v_ialg hX aC_278 (vp_in_nI (n := 3) (by decide) (by decide)) 277 rfl ?_
                rw [hB3]
                refine v_icmp_ge hX (tgt := 609) 278 rfl (by decide) (fun c511 => ?_) (fun c511 => ?_)
                · skip
                  have hpn : n = p := by have := of_le c511 (by omega) (by omega); omega
                  subst hpn
                  refine v_iinc hX 324 rfl rfl (nI_inc k) (Nat.le_of_ble_eq_true rfl) rfl ?_
                  refine v_goto hX (tgt := 418) 325 rfl (by decide) ?_
                  refine V.subM (ihk hkK V3 (okS_n hO3)) ?_ rfl ⟨rfl, rfl, rfl, rfl, rfl, rfl, rfl, rfl, rfl, rfl, rfl, rfl, rfl, rfl, rfl, rfl, rfl, trivial⟩
                  rfl
                · skip
                  have hp : p < n := of_nle c511 (by omega) (by omega)
                  refine v_aload hX 279 rfl rfl ?_
                  refine v_iload hX 280 rfl rfl ?_
                  refine v_ialg hX hC1 (vp_in_nI (by omega) (by decide)) 281 rfl ?_
                  rw [hAv _ _ (by omega), h3 p hp]
                  refine v_if_ne hX (tgt := 564) 282 rfl (by decide) (fun c519 => ?_) (fun c519 => ?_)
                  · skip
                    have q519 : sd (bOut M 1) (scK (bq M n) k) (cp M 1) n p = false := by cases ho : sd (bOut M 1) (scK (bq M n) k) (cp M 1) n p; rfl; exact absurd ((hs0 p hp).mpr ho) c519
                    refine v_aload hX 303 rfl rfl ?_
                    refine v_iload hX 304 rfl rfl ?_
                    have j602 : ∀ (x9 : Int32), x9 = (if V3 (64 + p) < 0 ∨ nI (cnt (scK (bq M n) k) n) < V3 (64 + p) then nI (cnt (scK (bq M n) k) n) else V3 (64 + p)) → V Y X (mrow M 2 V3) 602 [some (.ref (Y.2.2.2.1 0)), some (.ref (Y.2.2.2.1 270)), some (.ref (Y.2.2.2.1 271)), some (.ref (Y.2.2.2.1 273)), some (.ref (Y.2.2.2.1 274)), some (.ref (Y.2.2.2.1 275)), some (.ref (Y.2.2.2.1 276)), some (.ref (Y.2.2.2.1 277)), some (.ref (Y.2.2.2.1 278)), some (.int (mk (bq M n) n)), some (.int (mk (pCl (cp M 1)) n)), some (.int (mk (bOut M 1) n)), some (.int (mk (bSd M 1 n) n)), none, none, some (.ref q1), some (.ref q2), some (.ref q3), some (.int (nI k)), some (.int (mk (scK (bq M n) k) n)), none, some (.int (nI p))] [.int x9, .int (nI p), .ref q2] := by
                      intro x9 hx9
                      refine v_iasg hX hC2 (vp_in_nI (by omega) (by decide)) 321 rfl ?_
                      refine V.mem (M2 := mrow M 2 (upd V3 (64 + p) x9)) (by rw [nI_clamp (by omega), mset_mrow]) ?_
                      refine v_iinc hX 322 rfl rfl (nI_inc p) (Nat.le_of_ble_eq_true rfl) rfl ?_
                      refine v_goto hX (tgt := 505) 323 rfl (by decide) ?_
                      refine V.subM (iht hp (upd V3 (64 + p) x9) (fun i hi => by rw [upd_n (by omega)]; exact h3 i hi) (okS_fa hn hO3 hp q519 hx9 rfl)) ?_ rfl ⟨rfl, rfl, rfl, rfl, rfl, rfl, rfl, rfl, rfl, rfl, rfl, rfl, rfl, rfl, rfl, rfl, rfl, rfl, rfl, trivial⟩
                      rfl
                    refine v_aload hX 305 rfl rfl ?_
                    refine v_iload hX 306 rfl rfl ?_
                    refine v_ialg hX hC2 (vp_in_nI (by omega) (by decide)) 307 rfl ?_
                    rw [hAF _ _ (by omega)]
                    refine v_if_lt hX (tgt := 589) 308 rfl (by decide) (fun c573 => ?_) (fun c573 => ?_)
                    · skip
                      refine v_iload hX 315 rfl rfl ?_
                      refine v_callS hX 1 (l_bits) tw_417 tw_415 tw_416 tw_38 (by decide +kernel) ⟨⟨rfl, rfl⟩, Nat.le_of_ble_eq_true rfl, Nat.le_of_ble_eq_true rfl⟩ rfl (Nat.le_of_ble_eq_true rfl) rfl rfl 316 rfl ?_
                      rw [cnt_bt hn]
                      refine v_goto hX (tgt := 602) 317 rfl (by decide) ?_
                      exact V.sub (j602 _ (if_pos (Or.inl c573)).symm) rfl ⟨rfl, rfl, rfl, rfl, rfl, rfl, rfl, rfl, rfl, rfl, rfl, rfl, rfl, rfl, rfl, rfl, rfl, rfl, rfl, trivial⟩
                    · skip
                      refine v_iload hX 309 rfl rfl ?_
                      refine v_callS hX 1 (l_bits) tw_417 tw_415 tw_416 tw_38 (by decide +kernel) ⟨⟨rfl, rfl⟩, Nat.le_of_ble_eq_true rfl, Nat.le_of_ble_eq_true rfl⟩ rfl (Nat.le_of_ble_eq_true rfl) rfl rfl 310 rfl ?_
                      rw [cnt_bt hn]
                      refine v_aload hX 311 rfl rfl ?_
                      refine v_iload hX 312 rfl rfl ?_
                      refine v_ialg hX hC2 (vp_in_nI (by omega) (by decide)) 313 rfl ?_
                      rw [hAF _ _ (by omega)]
                      refine v_icmp_ge hX (tgt := 597) 314 rfl (by decide) (fun c586 => ?_) (fun c586 => ?_)
                      · skip
                        refine v_aload hX 318 rfl rfl ?_
                        refine v_iload hX 319 rfl rfl ?_
                        refine v_ialg hX hC2 (vp_in_nI (by omega) (by decide)) 320 rfl ?_
                        rw [hAF _ _ (by omega)]
                        exact V.sub (j602 _ (if_neg (fun h => h.elim c573 (fun g => Int32.not_lt.mpr c586 g))).symm) rfl ⟨rfl, rfl, rfl, rfl, rfl, rfl, rfl, rfl, rfl, rfl, rfl, rfl, rfl, rfl, rfl, rfl, rfl, rfl, rfl, trivial⟩
                      · skip
                        refine v_iload hX 315 rfl rfl ?_
                        refine v_callS hX 1 (l_bits) tw_417 tw_415 tw_416 tw_38 (by decide +kernel) ⟨⟨rfl, rfl⟩, Nat.le_of_ble_eq_true rfl, Nat.le_of_ble_eq_true rfl⟩ rfl (Nat.le_of_ble_eq_true rfl) rfl rfl 316 rfl ?_
                        rw [cnt_bt hn]
                        refine v_goto hX (tgt := 602) 317 rfl (by decide) ?_
                        exact V.sub (j602 _ (if_pos (Or.inr (Int32.not_le.mp c586))).symm) rfl ⟨rfl, rfl, rfl, rfl, rfl, rfl, rfl, rfl, rfl, rfl, rfl, rfl, rfl, rfl, rfl, rfl, rfl, rfl, rfl, trivial⟩
                  · skip
                    have q519 : sd (bOut M 1) (scK (bq M n) k) (cp M 1) n p = true := (hs0 p hp).mp c519
                    refine v_aload hX 283 rfl rfl ?_
                    refine v_iload hX 284 rfl rfl ?_
                    have j560 : ∀ (x8 : Int32), x8 = (if V3 (128 + p) < 0 ∨ nI (cnt (scK (bq M n) k) n) < V3 (128 + p) then nI (cnt (scK (bq M n) k) n) else V3 (128 + p)) → V Y X (mrow M 2 V3) 560 [some (.ref (Y.2.2.2.1 0)), some (.ref (Y.2.2.2.1 270)), some (.ref (Y.2.2.2.1 271)), some (.ref (Y.2.2.2.1 273)), some (.ref (Y.2.2.2.1 274)), some (.ref (Y.2.2.2.1 275)), some (.ref (Y.2.2.2.1 276)), some (.ref (Y.2.2.2.1 277)), some (.ref (Y.2.2.2.1 278)), some (.int (mk (bq M n) n)), some (.int (mk (pCl (cp M 1)) n)), some (.int (mk (bOut M 1) n)), some (.int (mk (bSd M 1 n) n)), none, none, some (.ref q1), some (.ref q2), some (.ref q3), some (.int (nI k)), some (.int (mk (scK (bq M n) k) n)), none, some (.int (nI p))] [.int x8, .int (nI p), .ref q3] := by
                      intro x8 hx8
                      refine v_iasg hX hC3 (vp_in_nI (by omega) (by decide)) 301 rfl ?_
                      refine V.mem (M2 := mrow M 2 (upd V3 (128 + p) x8)) (by rw [nI_clamp (by omega), mset_mrow]) ?_
                      refine v_goto hX (tgt := 603) 302 rfl (by decide) ?_
                      refine v_iinc hX 322 rfl rfl (nI_inc p) (Nat.le_of_ble_eq_true rfl) rfl ?_
                      refine v_goto hX (tgt := 505) 323 rfl (by decide) ?_
                      refine V.subM (iht hp (upd V3 (128 + p) x8) (fun i hi => by rw [upd_n (by omega)]; exact h3 i hi) (okS_st hn hO3 hp q519 hx8 rfl)) ?_ rfl ⟨rfl, rfl, rfl, rfl, rfl, rfl, rfl, rfl, rfl, rfl, rfl, rfl, rfl, rfl, rfl, rfl, rfl, rfl, rfl, trivial⟩
                      rfl
                    refine v_aload hX 285 rfl rfl ?_
                    refine v_iload hX 286 rfl rfl ?_
                    refine v_ialg hX hC3 (vp_in_nI (by omega) (by decide)) 287 rfl ?_
                    rw [hAS _ _ (by omega)]
                    refine v_if_lt hX (tgt := 547) 288 rfl (by decide) (fun c531 => ?_) (fun c531 => ?_)
                    · skip
                      refine v_iload hX 295 rfl rfl ?_
                      refine v_callS hX 1 (l_bits) tw_417 tw_415 tw_416 tw_38 (by decide +kernel) ⟨⟨rfl, rfl⟩, Nat.le_of_ble_eq_true rfl, Nat.le_of_ble_eq_true rfl⟩ rfl (Nat.le_of_ble_eq_true rfl) rfl rfl 296 rfl ?_
                      rw [cnt_bt hn]
                      refine v_goto hX (tgt := 560) 297 rfl (by decide) ?_
                      exact V.sub (j560 _ (if_pos (Or.inl c531)).symm) rfl ⟨rfl, rfl, rfl, rfl, rfl, rfl, rfl, rfl, rfl, rfl, rfl, rfl, rfl, rfl, rfl, rfl, rfl, rfl, rfl, trivial⟩
                    · skip
                      refine v_iload hX 289 rfl rfl ?_
                      refine v_callS hX 1 (l_bits) tw_417 tw_415 tw_416 tw_38 (by decide +kernel) ⟨⟨rfl, rfl⟩, Nat.le_of_ble_eq_true rfl, Nat.le_of_ble_eq_true rfl⟩ rfl (Nat.le_of_ble_eq_true rfl) rfl rfl 290 rfl ?_
                      rw [cnt_bt hn]
                      refine v_aload hX 291 rfl rfl ?_
                      refine v_iload hX 292 rfl rfl ?_
                      refine v_ialg hX hC3 (vp_in_nI (by omega) (by decide)) 293 rfl ?_
                      rw [hAS _ _ (by omega)]
                      refine v_icmp_ge hX (tgt := 555) 294 rfl (by decide) (fun c544 => ?_) (fun c544 => ?_)
                      · skip
                        refine v_aload hX 298 rfl rfl ?_
                        refine v_iload hX 299 rfl rfl ?_
                        refine v_ialg hX hC3 (vp_in_nI (by omega) (by decide)) 300 rfl ?_
                        rw [hAS _ _ (by omega)]
                        exact V.sub (j560 _ (if_neg (fun h => h.elim c531 (fun g => Int32.not_lt.mpr c544 g))).symm) rfl ⟨rfl, rfl, rfl, rfl, rfl, rfl, rfl, rfl, rfl, rfl, rfl, rfl, rfl, rfl, rfl, rfl, rfl, rfl, rfl, trivial⟩
                      · skip
                        refine v_iload hX 295 rfl rfl ?_
                        refine v_callS hX 1 (l_bits) tw_417 tw_415 tw_416 tw_38 (by decide +kernel) ⟨⟨rfl, rfl⟩, Nat.le_of_ble_eq_true rfl, Nat.le_of_ble_eq_true rfl⟩ rfl (Nat.le_of_ble_eq_true rfl) rfl rfl 296 rfl ?_
                        rw [cnt_bt hn]
                        refine v_goto hX (tgt := 560) 297 rfl (by decide) ?_
                        exact V.sub (j560 _ (if_pos (Or.inr (Int32.not_le.mp c544))).symm) rfl ⟨rfl, rfl, rfl, rfl, rfl, rfl, rfl, rfl, rfl, rfl, rfl, rfl, rfl, rfl, rfl, rfl, rfl, rfl, rfl, trivial⟩
              refine V.subM (lt 0 (Nat.zero_le _) V2 (fun _ _ => rfl) hO) ?_ rfl ⟨rfl, rfl, rfl, rfl, rfl, rfl, rfl, rfl, rfl, rfl, rfl, rfl, rfl, rfl, rfl, rfl, rfl, rfl, rfl, trivial⟩
              rfl
            · skip
              have hp : p < n := of_nle c446 (by omega) (by omega)
              have hlt : k >>> cnt (bq M n) p < 128 := shr_le (by omega)
              refine v_iload hX 241 rfl rfl ?_
              refine v_iload hX 242 rfl rfl ?_
              refine v_ishr hX 243 rfl ?_
              refine v_iconst hX (v := 1) 244 rfl (by decide) ?_
              refine v_iand hX 245 rfl ?_
              rw [hbb p hp]
              refine v_iconst hX (v := 1) 246 rfl (by decide) ?_
              refine v_icmp_ne hX (tgt := 478) 247 rfl (by decide) (fun c457 => ?_) (fun c457 => ?_)
              · skip
                have q457 : bq M n p = false := by cases ho : bq M n p; rfl; exact absurd (bI_1.mpr ho) c457
                refine v_iinc hX 260 rfl rfl (nI_inc p) (Nat.le_of_ble_eq_true rfl) rfl ?_
                refine v_goto hX (tgt := 440) 261 rfl (by decide) ?_
                refine V.subM (ihs hp) ?_ rfl ⟨rfl, rfl, rfl, rfl, rfl, rfl, rfl, rfl, rfl, rfl, rfl, rfl, rfl, rfl, rfl, rfl, rfl, (by first | rfl | (refine congrArg (fun z : Int32 => some (Value.int z)) ?_; first | exact scK_n q457 | (rw [cnt, if_neg (by rw [q457]; decide)]; rfl))), (by first | rfl | (refine congrArg (fun z : Int32 => some (Value.int z)) ?_; first | exact scK_n q457 | (rw [cnt, if_neg (by rw [q457]; decide)]; rfl))), rfl, trivial⟩
                rfl
              · skip
                have q457 : bq M n p = true := bI_1.mp c457
                refine v_iload hX 248 rfl rfl ?_
                refine v_iload hX 249 rfl rfl ?_
                refine v_iconst hX (v := 1) 250 rfl (by decide) ?_
                refine v_iand hX 251 rfl ?_
                rw [and1 _ hlt]
                refine v_iload hX 252 rfl rfl ?_
                refine v_ishl hX 253 rfl ?_
                refine v_ior hX 254 rfl ?_
                rw [scK_s (by omega) q457]
                refine v_istore hX 255 rfl (Nat.le_of_ble_eq_true rfl) rfl ?_
                refine v_iload hX 256 rfl rfl ?_
                refine v_iconst hX (v := 1) 257 rfl (by decide) ?_
                refine v_ishr hX 258 rfl ?_
                rw [shr2 _ hlt, shr_s]
                refine v_istore hX 259 rfl (Nat.le_of_ble_eq_true rfl) rfl ?_
                refine v_iinc hX 260 rfl rfl (nI_inc p) (Nat.le_of_ble_eq_true rfl) rfl ?_
                refine v_goto hX (tgt := 440) 261 rfl (by decide) ?_
                refine V.subM (ihs hp) ?_ rfl ⟨rfl, rfl, rfl, rfl, rfl, rfl, rfl, rfl, rfl, rfl, rfl, rfl, rfl, rfl, rfl, rfl, rfl, (by first | rfl | (refine congrArg (fun z : Int32 => some (Value.int z)) ?_; first | rfl | rw [cnt, if_pos q457])), (by first | rfl | (refine congrArg (fun z : Int32 => some (Value.int z)) ?_; first | rfl | rw [cnt, if_pos q457])), rfl, trivial⟩
                rfl
          refine V.subM (ls 0 (Nat.zero_le _)) ?_ rfl ⟨rfl, rfl, rfl, rfl, rfl, rfl, rfl, rfl, rfl, rfl, rfl, rfl, rfl, rfl, rfl, rfl, rfl, (by first | rfl | (refine congrArg (fun z : Int32 => some (Value.int z)) ?_; rfl)), (by first | rfl | (refine congrArg (fun z : Int32 => some (Value.int z)) ?_; rfl)), rfl, trivial⟩
          rfl
      refine V.subM (lk 0 (Nat.zero_le _) Vv (okS_0 hn h6)) ?_ rfl ⟨rfl, rfl, rfl, rfl, rfl, rfl, rfl, rfl, rfl, rfl, rfl, rfl, rfl, rfl, rfl, rfl, rfl, trivial⟩
      rfl
    · skip
      have hk24 : k < 24 := of_nle (a := 24) c392 (by omega) (by omega)
      refine v_aload hX 212 rfl rfl ?_
      refine v_iload hX 213 rfl rfl ?_
      refine v_bipush hX (v := (-6)) 214 rfl (by decide) ?_
      refine v_iasg hX hC2 (vp_in_nI (by omega) (by decide)) 215 rfl ?_
      refine V.mem (M2 := mrow M 2 (upd Vv (64 + k) (-6))) (by rw [nI_clamp (by omega), mset_mrow]) ?_
      refine v_aload hX 216 rfl rfl ?_
      refine v_iload hX 217 rfl rfl ?_
      refine v_bipush hX (v := (-6)) 218 rfl (by decide) ?_
      refine v_iasg hX hC3 (vp_in_nI (by omega) (by decide)) 219 rfl ?_
      refine V.mem (M2 := mrow M 2 (upd (upd Vv (64 + k) (-6)) (128 + k) (-6))) (by rw [nI_clamp (by omega), mset_mrow]) ?_
      refine v_iinc hX 220 rfl rfl (nI_inc k) (Nat.le_of_ble_eq_true rfl) rfl ?_
      refine v_goto hX (tgt := 388) 221 rfl (by decide) ?_
      refine V.subM (ih6 hk24 (upd (upd Vv (64 + k) (-6)) (128 + k) (-6)) (fill6 h6)) ?_ rfl ⟨rfl, rfl, rfl, rfl, rfl, rfl, rfl, rfl, rfl, rfl, rfl, rfl, rfl, rfl, rfl, rfl, rfl, trivial⟩
      rfl
  refine V.subM (l6 0 (Nat.zero_le _) V0 (fun j hj => absurd hj (Nat.not_lt_zero j))) ?_ rfl ⟨rfl, rfl, rfl, rfl, rfl, rfl, rfl, rfl, rfl, rfl, rfl, rfl, rfl, rfl, rfl, rfl, rfl, trivial⟩
  rfl
set_option maxRecDepth 100000 in
set_option maxHeartbeats 8000000 in
theorem l_tries {Y : Yt} {M : Mm} (h0 : Y.2.2.2.2.2 = []) {n la dy : Nat} (hz : M.1 1 1 = nI n) (hn : n ≤ 24) (hw : WF (cp M 1) n) (hS : LSt M (cp M 1) n) (h9 : sm9 (cp M 1) n) (hsd : ∀ i t, i < n → t < i → cp M 1 i 3 = nI t → ¬ cp M 1 i 0 = cp M 1 t 0) (hT0 : M.1 278 0 = M.1 1 4) (hT1 : M.1 278 1 = M.1 1 5) (hT2 : M.1 278 2 = M.1 1 2) (hT3 : M.1 278 3 = nI n) (hT4 : M.1 278 4 = M.1 1 3) (hla : la ≤ 60) (hdy : dy ≤ 999) (h4 : M.1 1 4 = nI la) (h2 : M.1 1 2 = nI dy) (h5 : 0 ≤ M.1 1 5) (hW : ∀ i, i < n → M.1 277 i = wv M n i) : FnA Y yL_tries wsL_tries { frames := 6, cells := 3, slots := 72, locals := 129 } [.ref (Y.2.2.2.1 0), .ref (Y.2.2.2.1 270), .ref (Y.2.2.2.1 271), .ref (Y.2.2.2.1 273), .ref (Y.2.2.2.1 274), .ref (Y.2.2.2.1 275), .ref (Y.2.2.2.1 276), .ref (Y.2.2.2.1 277), .ref (Y.2.2.2.1 278)] M (some (.int 1)) (fun M1 => ∃ q, M1 = wM M q) 3 72 := by
  refine FnA.of (cc := cL_tries) (ins := iL_tries) (maxL := 22) (ret := (some .boolean)) (by decide) dL_tries [some (.ref (Y.2.2.2.1 0)), some (.ref (Y.2.2.2.1 270)), some (.ref (Y.2.2.2.1 271)), some (.ref (Y.2.2.2.1 273)), some (.ref (Y.2.2.2.1 274)), some (.ref (Y.2.2.2.1 275)), some (.ref (Y.2.2.2.1 276)), some (.ref (Y.2.2.2.1 277)), some (.ref (Y.2.2.2.1 278)), none, none, none, none, none, none, none, none, none, none, none, none, none] (Nat.le_of_ble_eq_true rfl) rfl rfl ?_
  intro X hX hx0 hs0 hQ
  have hsl : sl Y = 0 := by unfold sl; rw [h0]; rfl
  refine l_tries_a hX hz hn hw hS h9 hsd hT0 hT1 hT2 hT3 hT4 hla hdy h4 h2 h5 hW ?_
  refine v_bipush hX (v := (-6)) 98 rfl (by decide) ?_
  refine v_istore hX 99 rfl (Nat.le_of_ble_eq_true rfl) rfl ?_
  refine v_bipush hX (v := (-6)) 100 rfl (by decide) ?_
  refine v_istore hX 101 rfl (Nat.le_of_ble_eq_true rfl) rfl ?_
  refine v_bipush hX (v := 24) 102 rfl (by decide) ?_
  refine v_newi hX (m0 := 24) (by decide) rfl (by decide) (by rw [hx0]; decide) (by rw [hs0]; decide) 103 rfl (fun q1 hX1 => ?_)
  refine v_astore hX1 104 rfl (Nat.le_of_ble_eq_true rfl) rfl ?_
  have hC1 : aC (pY Y q1 24) 2 0 q1 24 := by have h := aC.new (Y := Y) (q := q1) (m := 24) (by decide); rw [hsl] at h; exact h
  refine l_tries_b hX1 hC1 hz hn hw hS h9 hsd hT0 hT1 hT2 hT3 hT4 hla hdy h4 h2 h5 hW (fun M1 L1 hE => v_ireA hX1 (t := [(q1, 24)]) (by unfold pY; rw [h0]; rfl) h0 (vQA.xc hQ) (by rw [xce_xc, hx0]; decide) (by rw [xsl_xc, hs0]; decide) rfl rfl rfl (M0 := M) ⟨(M.1 28, M.1 29), wM_self.symm⟩ hE 200 rfl) (fun Vv hb7 => ?_)
  have hsl1 : sl (pY Y q1 24) = 1 := by unfold sl pY; rw [h0]; rfl
  refine v_bipush hX1 (v := 24) 201 rfl (by decide) ?_
  refine v_newi hX1 (m0 := 24) (by decide) rfl (by decide) (by rw [xce_xc, hx0]; decide) (by rw [xsl_xc, hs0]; decide) 202 rfl (fun q2 hX2 => ?_)
  rw [mrow_mrow]
  refine v_astore hX2 203 rfl (Nat.le_of_ble_eq_true rfl) rfl ?_
  have hsl2 : sl (pY (pY Y q1 24) q2 24) = 2 := by unfold sl pY; rw [h0]; rfl
  refine v_bipush hX2 (v := 24) 204 rfl (by decide) ?_
  refine v_newi hX2 (m0 := 24) (by decide) rfl (by decide) (by rw [xce_xc, xce_xc, hx0]; decide) (by rw [xsl_xc, xsl_xc, hs0]; decide) 205 rfl (fun q3 hX3 => ?_)
  rw [mrow_mrow]
  refine v_astore hX3 206 rfl (Nat.le_of_ble_eq_true rfl) rfl ?_
  have hC2 : aC (pY (pY Y q1 24) q2 24) 2 64 q2 24 := by have h := aC.new (Y := pY Y q1 24) (q := q2) (m := 24) (by decide); rw [hsl1] at h; exact h
  have hC3 : aC (pY (pY (pY Y q1 24) q2 24) q3 24) 2 128 q3 24 := by have h := aC.new (Y := pY (pY Y q1 24) q2 24) (q := q3) (m := 24) (by decide); rw [hsl2] at h; exact h
  exact l_tries_c hX3 hC1.push.push hC2.push hC3 hz hn hw hS h9 hsd hT0 hT1 hT2 hT3 hT4 hla hdy h4 h2 h5 hW hb7 (fun M1 L1 hE => by
    obtain ⟨V4, q4, rfl⟩ := hE
    exact v_ireA hX3 (t := [(q1, 24), (q2, 24), (q3, 24)]) (by unfold pY; rw [h0]; rfl) h0 (vQA.xc (vQA.xc (vQA.xc hQ))) (by rw [xce_xc, xce_xc, xce_xc, hx0]; decide) (by rw [xsl_xc, xsl_xc, xsl_xc, hs0]; decide) rfl rfl rfl (M0 := wM M q4) ⟨q4, rfl⟩ ⟨V4, aM_r⟩ 368 rfl)
