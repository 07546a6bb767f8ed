set_option maxRecDepth 100000 in
set_option maxHeartbeats 8000000 in
theorem l_points_b {Y : Yt} {X : XT} {M : Mm} (hX : vOK Y X iL_points 19 "PointAnswersLaw" { frames := 6, cells := 2, slots := 8, locals := 132 } (some .boolean)) {q1 q2 : Nat} (hC1 : aC Y 2 0 q1 6) (hC2 : aC Y 2 64 q2 2) {n la dy : Nat} (hz : M.1 1 1 = nI n) (hn : n ≤ 24) (hw : WF (cp M 1) n) (hS : LSt M (cp M 1) n) (h9 : sm9 (cp M 1) n) (hsd : ∀ i t, i < n → t < i → cp M 1 i 3 = nI t → ¬ cp M 1 i 0 = cp M 1 t 0) (hT0 : M.1 278 0 = M.1 1 4) (hT1 : M.1 278 1 = M.1 1 5) (hT2 : M.1 278 2 = M.1 1 2) (hT3 : M.1 278 3 = nI n) (hT4 : M.1 278 4 = M.1 1 3) (hla : la ≤ 60) (hdy : dy ≤ 999) (h4 : M.1 1 4 = nI la) (h2 : M.1 1 2 = nI dy) (h5 : 0 ≤ M.1 1 5) (hW : ∀ i, i < n → M.1 277 i = wv M n i) (hret : ∀ M1 L1, (∃ f, M1 = mrow M 2 f) → V Y X M1 863 L1 [.int 1]) : V Y X (pM M (fun _ => 0) (fun _ => 0)) 14 [some (.ref (Y.2.2.2.1 0)), some (.ref (Y.2.2.2.1 270)), some (.ref (Y.2.2.2.1 271)), some (.ref (Y.2.2.2.1 272)), some (.ref (Y.2.2.2.1 273)), some (.ref (Y.2.2.2.1 274)), some (.ref (Y.2.2.2.1 275)), some (.ref (Y.2.2.2.1 276)), some (.ref (Y.2.2.2.1 277)), some (.ref (Y.2.2.2.1 278)), some (.ref q1), some (.int 0), some (.ref q2), none, none, none, none, none, none] [] := by
  have hB0 : ∀ S U, (pM M S U).1 278 (0 + Int32.toNatClampNeg 0) = nI la := fun S U => by rw [pM_o (by decide)]; exact hT0.trans h4
  have hB1 : ∀ S U, (pM M S U).1 278 (0 + Int32.toNatClampNeg 1) = M.1 1 5 := fun S U => by rw [pM_o (by decide)]; exact hT1
  have hB2 : ∀ S U, (pM M S U).1 278 (0 + Int32.toNatClampNeg 2) = nI dy := fun S U => by rw [pM_o (by decide)]; exact hT2.trans h2
  have hB3 : ∀ S U, (pM M S U).1 278 (0 + Int32.toNatClampNeg 3) = nI n := fun S U => by rw [pM_o (by decide)]; exact hT3
  have hB4 : ∀ S U, (pM M S U).1 278 (0 + Int32.toNatClampNeg 4) = M.1 1 3 := fun S U => by rw [pM_o (by decide)]; exact hT4
  have hA0 : ∀ S U k, k < n → (pM M S U).1 270 (0 + (nI k).toNatClampNeg) = cp M 1 k 0 := fun S U k hk => by rw [pM_o (by decide), nI_clamp (by omega), Nat.zero_add]; exact (hS k hk).1
  have hA1 : ∀ S U k, k < n → (pM M S U).1 271 (0 + (nI k).toNatClampNeg) = cp M 1 k 1 := fun S U k hk => by rw [pM_o (by decide), nI_clamp (by omega), Nat.zero_add]; exact (hS k hk).2.1
  have hA2 : ∀ S U k, k < n → (pM M S U).1 272 (0 + (nI k).toNatClampNeg) = cp M 1 k 4 := fun S U k hk => by rw [pM_o (by decide), nI_clamp (by omega), Nat.zero_add]; exact (hS k hk).2.2.1
  have hA3 : ∀ S U k, k < n → (pM M S U).1 273 (0 + (nI k).toNatClampNeg) = cp M 1 k 5 := fun S U k hk => by rw [pM_o (by decide), nI_clamp (by omega), Nat.zero_add]; exact (hS k hk).2.2.2.1
  have hA4 : ∀ S U k, k < n → (pM M S U).1 274 (0 + (nI k).toNatClampNeg) = toV (cp M 1) k := fun S U k hk => by rw [pM_o (by decide), nI_clamp (by omega), Nat.zero_add]; exact (hS k hk).2.2.2.2.1
  have hA5 : ∀ S U k, k < n → (pM M S U).1 275 (0 + (nI k).toNatClampNeg) = cp M 1 k 2 := fun S U k hk => by rw [pM_o (by decide), nI_clamp (by omega), Nat.zero_add]; exact (hS k hk).2.2.2.2.2.1
  have hA6 : ∀ S U k, k < n → (pM M S U).1 276 (0 + (nI k).toNatClampNeg) = cp M 1 k 6 := fun S U k hk => by rw [pM_o (by decide), nI_clamp (by omega), Nat.zero_add]; exact (hS k hk).2.2.2.2.2.2
  have hAw : ∀ S U k, k < n → (pM M S U).1 277 (0 + (nI k).toNatClampNeg) = wv M n k := fun S U k hk => by rw [pM_o (by decide), nI_clamp (by omega), Nat.zero_add]; exact hW k hk
  have hS0 : ∀ S U, (pM M S U).1 2 (0 + Int32.toNatClampNeg 0) = S 0 := fun S U => pM_S (x := 0) (by decide)
  have hS1 : ∀ S U, (pM M S U).1 2 (0 + Int32.toNatClampNeg 1) = S 1 := fun S U => pM_S (x := 1) (by decide)
  have hS2 : ∀ S U, (pM M S U).1 2 (0 + Int32.toNatClampNeg 2) = S 2 := fun S U => pM_S (x := 2) (by decide)
  have hS3 : ∀ S U, (pM M S U).1 2 (0 + Int32.toNatClampNeg 3) = S 3 := fun S U => pM_S (x := 3) (by decide)
  have hU0 : ∀ S U, (pM M S U).1 2 (64 + Int32.toNatClampNeg 0) = U 0 := fun S U => pM_U (x := 0)
  have hU1 : ∀ S U, (pM M S U).1 2 (64 + Int32.toNatClampNeg 1) = U 1 := fun S U => pM_U (x := 1)
  have hzm : ∀ S U, (pM M S U).1 1 1 = nI n := fun S U => by rw [pM_o (by decide)]; exact hz
  have hwm : ∀ S U, WF (cp (pM M S U) 1) n := fun S U => by unfold pM; rw [cp_r2]; exact hw
  have hof : ∀ S U i w, ofR (pM M S U) n i w = ofR M n i w := fun S U i w => ofR_r2
  have hco : ∀ S U w, coR (pM M S U) n 0 w = coR M n 0 w := fun S U w => coR_r2
  have hpo : ∀ S U w, poR (pM M S U) n w = poR M n w := fun S U w => poR_r2
  have hsh : ∀ S U w, shF (pM M S U) n w = shF M n w := fun S U w => shF_r2
  refine v_iconst hX (v := 0) 8 rfl (by decide) ?_
  refine v_istore hX 9 rfl (Nat.le_of_ble_eq_true rfl) rfl ?_
  have lp : ∀ (p : Nat), p ≤ n → V Y X (pM M (sS M n p) (uS M n p)) 17 [some (.ref (Y.2.2.2.1 0)), some (.ref (Y.2.2.2.1 270)), some (.ref (Y.2.2.2.1 271)), some (.ref (Y.2.2.2.1 272)), some (.ref (Y.2.2.2.1 273)), some (.ref (Y.2.2.2.1 274)), some (.ref (Y.2.2.2.1 275)), some (.ref (Y.2.2.2.1 276)), some (.ref (Y.2.2.2.1 277)), some (.ref (Y.2.2.2.1 278)), some (.ref q1), some (.int (mk (pCl (cp M 1)) p)), some (.ref q2), some (.int (nI p)), none, none, none, none, none] [] := by
    refine upTo n (fun p hp0 ih => ?_)
    refine v_iload hX 10 rfl rfl ?_
    refine v_aload hX 11 rfl rfl ?_
    refine v_iconst hX (v := 3) 12 rfl (by decide) ?_
    refine v_ialg hX aC_278 (vp_in_nI (n := 3) (by decide) (by decide)) 13 rfl ?_
    rw [hB3]
    refine v_icmp_ge hX (tgt := 561) 14 rfl (by decide) (fun c23 => ?_) (fun c23 => ?_)
    · skip
      have hpn : n = p := by have := of_le c23 (by omega) (by omega); omega
      subst hpn
      refine v_aload hX 317 rfl rfl ?_
      refine v_iconst hX (v := 1) 318 rfl (by decide) ?_
      refine v_aload hX 319 rfl rfl ?_
      refine v_iconst hX (v := 0) 320 rfl (by decide) ?_
      refine v_ialg hX hC1 (vp_in_nI (n := 0) (by decide) (by decide)) 321 rfl ?_
      rw [hS0]
      show V _ _ _ _ _ (.int (mk (bSd M 1 n) n) :: _)
      refine v_iload hX 322 rfl rfl ?_
      refine v_iand hX 323 rfl ?_
      refine v_iasg hX hC1 (vp_in_nI (n := 1) (by decide) (by decide)) 324 rfl ?_
      refine V.mem (M2 := (pM M (sF M n) (uS M n n))) (by exact pM_sS (x := 1) (by decide)) ?_
      refine v_aload_n hX 0 325 rfl rfl rfl ?_
      refine v_iconst hX (v := 0) 326 rfl (by decide) ?_
      refine v_callV hX 1 (by decide) rfl rfl (f_count (hzm _ _) hn (hwm _ _)) tw_393 tw_390 tw_391 tw_392 tw_39 (by decide +kernel) ⟨⟨rfl, rfl⟩, Nat.le_of_ble_eq_true rfl, Nat.le_of_ble_eq_true rfl⟩ rfl (Nat.le_of_ble_eq_true rfl) rfl rfl 327 rfl ?_
      rw [hco]
      refine v_aload hX 328 rfl rfl ?_
      refine v_iconst hX (v := 2) 329 rfl (by decide) ?_
      refine v_ialg hX aC_278 (vp_in_nI (n := 2) (by decide) (by decide)) 330 rfl ?_
      rw [hB2]
      refine v_icmp_ne hX (tgt := 735) 331 rfl (by decide) (fun c581 => absurd c581 (fun h => h (kc_0.trans h2))) (fun c581 => ?_)
      refine v_aload_n hX 0 332 rfl rfl rfl ?_
      refine v_iconst hX (v := 1) 333 rfl (by decide) ?_
      refine v_callV hX 1 (by decide) rfl rfl (f_count (hzm _ _) hn (hwm _ _)) tw_393 tw_390 tw_391 tw_392 tw_39 (by decide +kernel) ⟨⟨rfl, rfl⟩, Nat.le_of_ble_eq_true rfl, Nat.le_of_ble_eq_true rfl⟩ rfl (Nat.le_of_ble_eq_true rfl) rfl rfl 334 rfl ?_
      rw [hco]
      refine v_aload hX 335 rfl rfl ?_
      refine v_iconst hX (v := 3) 336 rfl (by decide) ?_
      refine v_ialg hX aC_278 (vp_in_nI (n := 3) (by decide) (by decide)) 337 rfl ?_
      rw [hB3]
      refine v_icmp_ne hX (tgt := 735) 338 rfl (by decide) (fun c593 => absurd c593 (fun h => h (kc_1.trans hz))) (fun c593 => ?_)
      refine v_aload_n hX 0 339 rfl rfl rfl ?_
      refine v_iconst hX (v := 2) 340 rfl (by decide) ?_
      refine v_callV hX 1 (by decide) rfl rfl (f_count (hzm _ _) hn (hwm _ _)) tw_393 tw_390 tw_391 tw_392 tw_39 (by decide +kernel) ⟨⟨rfl, rfl⟩, Nat.le_of_ble_eq_true rfl, Nat.le_of_ble_eq_true rfl⟩ rfl (Nat.le_of_ble_eq_true rfl) rfl rfl 341 rfl ?_
      rw [hco]
      refine v_iload hX 342 rfl rfl ?_
      refine v_callS hX 1 (l_bits) tw_417 tw_415 tw_416 tw_38 (by decide +kernel) ⟨⟨rfl, rfl⟩, Nat.le_of_ble_eq_true rfl, Nat.le_of_ble_eq_true rfl⟩ rfl (Nat.le_of_ble_eq_true rfl) rfl rfl 343 rfl ?_
      rw [cnt_bt hn]
      refine v_icmp_ne hX (tgt := 735) 344 rfl (by decide) (fun c606 => absurd c606 (fun h => h (kc_2.trans (bc_mk hn)))) (fun c606 => ?_)
      refine v_aload_n hX 0 345 rfl rfl rfl ?_
      refine v_iconst hX (v := 3) 346 rfl (by decide) ?_
      refine v_callV hX 1 (by decide) rfl rfl (f_count (hzm _ _) hn (hwm _ _)) tw_393 tw_390 tw_391 tw_392 tw_39 (by decide +kernel) ⟨⟨rfl, rfl⟩, Nat.le_of_ble_eq_true rfl, Nat.le_of_ble_eq_true rfl⟩ rfl (Nat.le_of_ble_eq_true rfl) rfl rfl 347 rfl ?_
      rw [hco]
      refine v_aload hX 348 rfl rfl ?_
      refine v_iconst hX (v := 0) 349 rfl (by decide) ?_
      refine v_ialg hX hC1 (vp_in_nI (n := 0) (by decide) (by decide)) 350 rfl ?_
      rw [hS0]
      show V _ _ _ _ _ (.int (mk (bSd M 1 n) n) :: _)
      refine v_callS hX 1 (l_bits) tw_417 tw_415 tw_416 tw_38 (by decide +kernel) ⟨⟨rfl, rfl⟩, Nat.le_of_ble_eq_true rfl, Nat.le_of_ble_eq_true rfl⟩ rfl (Nat.le_of_ble_eq_true rfl) rfl rfl 351 rfl ?_
      rw [cnt_bt hn]
      refine v_icmp_ne hX (tgt := 735) 352 rfl (by decide) (fun c621 => absurd c621 (fun h => h (kc_3.trans (bc_mk hn)))) (fun c621 => ?_)
      refine v_aload_n hX 0 353 rfl rfl rfl ?_
      refine v_iconst hX (v := 4) 354 rfl (by decide) ?_
      refine v_callV hX 1 (by decide) rfl rfl (f_count (hzm _ _) hn (hwm _ _)) tw_393 tw_390 tw_391 tw_392 tw_39 (by decide +kernel) ⟨⟨rfl, rfl⟩, Nat.le_of_ble_eq_true rfl, Nat.le_of_ble_eq_true rfl⟩ rfl (Nat.le_of_ble_eq_true rfl) rfl rfl 355 rfl ?_
      rw [hco]
      refine v_aload hX 356 rfl rfl ?_
      refine v_iconst hX (v := 1) 357 rfl (by decide) ?_
      refine v_ialg hX hC1 (vp_in_nI (n := 1) (by decide) (by decide)) 358 rfl ?_
      rw [hS1]
      show V _ _ _ _ _ (.int (cs1 M n) :: _)
      rw [cs1_mk hn]
      refine v_callS hX 1 (l_bits) tw_417 tw_415 tw_416 tw_38 (by decide +kernel) ⟨⟨rfl, rfl⟩, Nat.le_of_ble_eq_true rfl, Nat.le_of_ble_eq_true rfl⟩ rfl (Nat.le_of_ble_eq_true rfl) rfl rfl 359 rfl ?_
      rw [cnt_bt hn]
      refine v_icmp_ne hX (tgt := 735) 360 rfl (by decide) (fun c636 => absurd c636 (fun h => h (co4_eq hn))) (fun c636 => ?_)
      refine v_aload_n hX 0 361 rfl rfl rfl ?_
      refine v_iconst hX (v := 5) 362 rfl (by decide) ?_
      refine v_callV hX 1 (by decide) rfl rfl (f_count (hzm _ _) hn (hwm _ _)) tw_393 tw_390 tw_391 tw_392 tw_39 (by decide +kernel) ⟨⟨rfl, rfl⟩, Nat.le_of_ble_eq_true rfl, Nat.le_of_ble_eq_true rfl⟩ rfl (Nat.le_of_ble_eq_true rfl) rfl rfl 363 rfl ?_
      rw [hco]
      refine v_aload hX 364 rfl rfl ?_
      refine v_iconst hX (v := 2) 365 rfl (by decide) ?_
      refine v_ialg hX hC1 (vp_in_nI (n := 2) (by decide) (by decide)) 366 rfl ?_
      rw [hS2]
      show V _ _ _ _ _ (.int (mk (bOut M 1) n) :: _)
      refine v_callS hX 1 (l_bits) tw_417 tw_415 tw_416 tw_38 (by decide +kernel) ⟨⟨rfl, rfl⟩, Nat.le_of_ble_eq_true rfl, Nat.le_of_ble_eq_true rfl⟩ rfl (Nat.le_of_ble_eq_true rfl) rfl rfl 367 rfl ?_
      rw [cnt_bt hn]
      refine v_icmp_ne hX (tgt := 735) 368 rfl (by decide) (fun c651 => absurd c651 (fun h => h (kc_5.trans (bc_mk hn)))) (fun c651 => ?_)
      refine v_aload_n hX 0 369 rfl rfl rfl ?_
      refine v_bipush hX (v := 6) 370 rfl (by decide) ?_
      refine v_callV hX 1 (by decide) rfl rfl (f_count (hzm _ _) hn (hwm _ _)) tw_393 tw_390 tw_391 tw_392 tw_39 (by decide +kernel) ⟨⟨rfl, rfl⟩, Nat.le_of_ble_eq_true rfl, Nat.le_of_ble_eq_true rfl⟩ rfl (Nat.le_of_ble_eq_true rfl) rfl rfl 371 rfl ?_
      rw [hco]
      refine v_aload hX 372 rfl rfl ?_
      refine v_iconst hX (v := 3) 373 rfl (by decide) ?_
      refine v_ialg hX hC1 (vp_in_nI (n := 3) (by decide) (by decide)) 374 rfl ?_
      rw [hS3]
      show V _ _ _ _ _ (.int (mk (anq M n) n) :: _)
      refine v_callS hX 1 (l_bits) tw_417 tw_415 tw_416 tw_38 (by decide +kernel) ⟨⟨rfl, rfl⟩, Nat.le_of_ble_eq_true rfl, Nat.le_of_ble_eq_true rfl⟩ rfl (Nat.le_of_ble_eq_true rfl) rfl rfl 375 rfl ?_
      rw [cnt_bt hn]
      refine v_icmp_ne hX (tgt := 735) 376 rfl (by decide) (fun c667 => absurd c667 (fun h => h (co6_eq hn))) (fun c667 => ?_)
      refine v_aload_n hX 0 377 rfl rfl rfl ?_
      refine v_bipush hX (v := 7) 378 rfl (by decide) ?_
      refine v_callV hX 1 (by decide) rfl rfl (f_count (hzm _ _) hn (hwm _ _)) tw_393 tw_390 tw_391 tw_392 tw_39 (by decide +kernel) ⟨⟨rfl, rfl⟩, Nat.le_of_ble_eq_true rfl, Nat.le_of_ble_eq_true rfl⟩ rfl (Nat.le_of_ble_eq_true rfl) rfl rfl 379 rfl ?_
      rw [hco]
      refine v_aload hX 380 rfl rfl ?_
      refine v_iconst hX (v := 0) 381 rfl (by decide) ?_
      refine v_ialg hX hC2 (vp_in_nI (n := 0) (by decide) (by decide)) 382 rfl ?_
      rw [hU0]
      show V _ _ _ _ _ (.int (sm (cp M 1) 0 (uX M n) n) :: _)
      refine v_icmp_ne hX (tgt := 735) 383 rfl (by decide) (fun c680 => absurd c680 (fun h => h kc_7)) (fun c680 => ?_)
      refine v_aload_n hX 0 384 rfl rfl rfl ?_
      refine v_bipush hX (v := 8) 385 rfl (by decide) ?_
      refine v_callV hX 1 (by decide) rfl rfl (f_count (hzm _ _) hn (hwm _ _)) tw_393 tw_390 tw_391 tw_392 tw_39 (by decide +kernel) ⟨⟨rfl, rfl⟩, Nat.le_of_ble_eq_true rfl, Nat.le_of_ble_eq_true rfl⟩ rfl (Nat.le_of_ble_eq_true rfl) rfl rfl 386 rfl ?_
      rw [hco]
      refine v_aload hX 387 rfl rfl ?_
      refine v_iconst hX (v := 1) 388 rfl (by decide) ?_
      refine v_ialg hX hC2 (vp_in_nI (n := 1) (by decide) (by decide)) 389 rfl ?_
      rw [hU1]
      show V _ _ _ _ _ (.int (sm (cp M 1) 1 (uX M n) n) :: _)
      refine v_icmp_ne hX (tgt := 735) 390 rfl (by decide) (fun c693 => absurd c693 (fun h => h kc_8)) (fun c693 => ?_)
      refine v_aload_n hX 0 391 rfl rfl rfl ?_
      refine v_bipush hX (v := 9) 392 rfl (by decide) ?_
      refine v_callV hX 1 (by decide) rfl rfl (f_count (hzm _ _) hn (hwm _ _)) tw_393 tw_390 tw_391 tw_392 tw_39 (by decide +kernel) ⟨⟨rfl, rfl⟩, Nat.le_of_ble_eq_true rfl, Nat.le_of_ble_eq_true rfl⟩ rfl (Nat.le_of_ble_eq_true rfl) rfl rfl 393 rfl ?_
      rw [hco]
      refine v_aload hX 394 rfl rfl ?_
      refine v_iconst hX (v := 4) 395 rfl (by decide) ?_
      refine v_ialg hX aC_278 (vp_in_nI (n := 4) (by decide) (by decide)) 396 rfl ?_
      rw [hB4]
      refine v_icmp_ne hX (tgt := 735) 397 rfl (by decide) (fun c706 => absurd c706 (fun h => h kc_9)) (fun c706 => ?_)
      refine v_aload hX 398 rfl rfl ?_
      refine v_iconst hX (v := 0) 399 rfl (by decide) ?_
      refine v_ialg hX hC2 (vp_in_nI (n := 0) (by decide) (by decide)) 400 rfl ?_
      rw [hU0]
      show V _ _ _ _ _ (.int (sm (cp M 1) 0 (uX M n) n) :: _)
      refine v_aload hX 401 rfl rfl ?_
      refine v_iconst hX (v := 1) 402 rfl (by decide) ?_
      refine v_ialg hX aC_278 (vp_in_nI (n := 1) (by decide) (by decide)) 403 rfl ?_
      rw [hB1]
      refine v_icmp_gt hX (tgt := 735) 404 rfl (by decide) (fun c717 => absurd c717 (uS_le hn hw h5 0)) (fun c717 => ?_)
      refine v_aload hX 405 rfl rfl ?_
      refine v_iconst hX (v := 1) 406 rfl (by decide) ?_
      refine v_ialg hX hC2 (vp_in_nI (n := 1) (by decide) (by decide)) 407 rfl ?_
      rw [hU1]
      show V _ _ _ _ _ (.int (sm (cp M 1) 1 (uX M n) n) :: _)
      refine v_aload hX 408 rfl rfl ?_
      refine v_iconst hX (v := 1) 409 rfl (by decide) ?_
      refine v_ialg hX aC_278 (vp_in_nI (n := 1) (by decide) (by decide)) 410 rfl ?_
      rw [hB1]
      refine v_icmp_gt hX (tgt := 735) 411 rfl (by decide) (fun c728 => absurd c728 (uS_le hn hw h5 1)) (fun c728 => ?_)
      refine v_iconst hX (v := 1) 412 rfl (by decide) ?_
      refine v_goto hX (tgt := 736) 413 rfl (by decide) ?_
      refine v_istore hX 415 rfl (Nat.le_of_ble_eq_true rfl) rfl ?_
      refine v_iconst hX (v := 0) 416 rfl (by decide) ?_
      refine v_istore hX 417 rfl (Nat.le_of_ble_eq_true rfl) rfl ?_
      have lk : ∀ (k : Nat), k ≤ 6 → V Y X (pM M (sF M n) (uS M n n)) 741 [some (.ref (Y.2.2.2.1 0)), some (.ref (Y.2.2.2.1 270)), some (.ref (Y.2.2.2.1 271)), some (.ref (Y.2.2.2.1 272)), some (.ref (Y.2.2.2.1 273)), some (.ref (Y.2.2.2.1 274)), some (.ref (Y.2.2.2.1 275)), some (.ref (Y.2.2.2.1 276)), some (.ref (Y.2.2.2.1 277)), some (.ref (Y.2.2.2.1 278)), some (.ref q1), some (.int (mk (pCl (cp M 1)) n)), some (.ref q2), some (.int 1), some (.int (nI k)), none, none, none, none] [] := by
        refine upTo 6 (fun k hk0 ihk => ?_)
        refine v_iload hX 418 rfl rfl ?_
        refine v_bipush hX (v := 6) 419 rfl (by decide) ?_
        refine v_icmp_ge hX (tgt := 780) 420 rfl (by decide) (fun c745 => ?_) (fun c745 => ?_)
        · skip
          refine v_iconst hX (v := 0) 436 rfl (by decide) ?_
          refine v_istore hX 437 rfl (Nat.le_of_ble_eq_true rfl) rfl ?_
          have ls : ∀ (k : Nat), k ≤ 2 → V Y X (pM M (sF M n) (uS M n n)) 783 [some (.ref (Y.2.2.2.1 0)), some (.ref (Y.2.2.2.1 270)), some (.ref (Y.2.2.2.1 271)), some (.ref (Y.2.2.2.1 272)), some (.ref (Y.2.2.2.1 273)), some (.ref (Y.2.2.2.1 274)), some (.ref (Y.2.2.2.1 275)), some (.ref (Y.2.2.2.1 276)), some (.ref (Y.2.2.2.1 277)), some (.ref (Y.2.2.2.1 278)), some (.ref q1), some (.int (mk (pCl (cp M 1)) n)), some (.ref q2), some (.int 1), some (.int (nI k)), none, none, none, none] [] := by
            refine upTo 2 (fun k hk0 ihs => ?_)
            refine v_iload hX 438 rfl rfl ?_
            refine v_iconst hX (v := 2) 439 rfl (by decide) ?_
            refine v_icmp_ge hX (tgt := 861) 440 rfl (by decide) (fun c786 => ?_) (fun c786 => ?_)
            · skip
              refine v_iload hX 478 rfl rfl ?_
              exact hret _ _ ⟨_, rfl⟩
            · skip
              have hk2 : k < 2 := of_nle (a := 2) c786 (by omega) (by omega)
              refine v_iload hX 441 rfl rfl ?_
              refine v_aload hX 442 rfl rfl ?_
              refine v_iconst hX (v := 4) 443 rfl (by decide) ?_
              refine v_iload hX 444 rfl rfl ?_
              refine v_iadd hX 445 rfl ?_
              rw [show (4 : Int32) + nI k = nI (4 + k) from nI_add 4 k]
              refine v_ialg hX hC1 (vp_in_nI (by omega) (by decide)) 446 rfl ?_
              rw [nI_clamp (by omega), pM_S (by omega), sF_45 hk2]
              refine v_iand hX 447 rfl ?_
              rw [mk_and _ _ (by omega)]
              refine v_callS hX 1 (l_bits) tw_417 tw_415 tw_416 tw_38 (by decide +kernel) ⟨⟨rfl, rfl⟩, Nat.le_of_ble_eq_true rfl, Nat.le_of_ble_eq_true rfl⟩ rfl (Nat.le_of_ble_eq_true rfl) rfl rfl 448 rfl ?_
              rw [cnt_bt hn]
              show V _ _ _ _ _ (.int (nI (cnt (clP (cp M 1) (nI k)) n)) :: _)
              refine v_istore hX 449 rfl (Nat.le_of_ble_eq_true rfl) rfl ?_
              refine v_iload hX 450 rfl rfl ?_
              refine v_if_eq hX (tgt := 852) 451 rfl (by decide) (fun c806 => absurd c806 (by decide)) (fun c806 => ?_)
              refine v_aload_n hX 0 452 rfl rfl rfl ?_
              refine v_iload hX 453 rfl rfl ?_
              refine v_callV hX 1 (by decide) rfl rfl (f_share (hzm _ _) hn (hwm _ _) (by rcases (show k = 0 ∨ k = 1 by omega) with rfl | rfl; exact Or.inl rfl; exact Or.inr rfl)) tw_429 tw_426 tw_427 tw_428 tw_39 (by decide +kernel) ⟨⟨rfl, rfl⟩, Nat.le_of_ble_eq_true rfl, Nat.le_of_ble_eq_true rfl⟩ rfl (Nat.le_of_ble_eq_true rfl) rfl rfl 454 rfl ?_
              rw [hsh]
              have j845 : ∀ (v : Int32), v = shF M n (nI k) → V Y X (pM M (sF M n) (uS M n n)) 845 [some (.ref (Y.2.2.2.1 0)), some (.ref (Y.2.2.2.1 270)), some (.ref (Y.2.2.2.1 271)), some (.ref (Y.2.2.2.1 272)), some (.ref (Y.2.2.2.1 273)), some (.ref (Y.2.2.2.1 274)), some (.ref (Y.2.2.2.1 275)), some (.ref (Y.2.2.2.1 276)), some (.ref (Y.2.2.2.1 277)), some (.ref (Y.2.2.2.1 278)), some (.ref q1), some (.int (mk (pCl (cp M 1)) n)), some (.ref q2), some (.int 1), some (.int (nI k)), some (.int (nI (cnt (clP (cp M 1) (nI k)) n))), none, none, none] [.int v, .int (shF M n (nI k))] := by
                intro v hv845
                refine v_icmp_ne hX (tgt := 852) 471 rfl (by decide) (fun c845 => absurd c845 (fun h => h hv845.symm)) (fun c845 => ?_)
                refine v_iconst hX (v := 1) 472 rfl (by decide) ?_
                refine v_goto hX (tgt := 853) 473 rfl (by decide) ?_
                refine v_istore hX 475 rfl (Nat.le_of_ble_eq_true rfl) rfl ?_
                refine v_iinc hX 476 rfl rfl (nI_inc k) (Nat.le_of_ble_eq_true rfl) rfl ?_
                refine v_goto hX (tgt := 783) 477 rfl (by decide) ?_
                refine V.subM (ihs hk2) ?_ rfl ⟨rfl, rfl, rfl, rfl, rfl, rfl, rfl, rfl, rfl, rfl, rfl, rfl, rfl, rfl, rfl, trivial⟩
                rfl
              refine v_iload hX 455 rfl rfl ?_
              refine v_if_ne hX (tgt := 825) 456 rfl (by decide) (fun c817 => ?_) (fun c817 => ?_)
              · skip
                have q817 : ¬ cnt (clP (cp M 1) (nI k)) n = 0 := fun e => c817 (by rw [e]; rfl)
                refine v_aload hX 459 rfl rfl ?_
                refine v_iconst hX (v := 1) 460 rfl (by decide) ?_
                refine v_ialg hX hC1 (vp_in_nI (n := 1) (by decide) (by decide)) 461 rfl ?_
                rw [hS1]
                show V _ _ _ _ _ (.int (cs1 M n) :: _)
                rw [cs1_mk hn]
                refine v_aload hX 462 rfl rfl ?_
                refine v_iconst hX (v := 4) 463 rfl (by decide) ?_
                refine v_iload hX 464 rfl rfl ?_
                refine v_iadd hX 465 rfl ?_
                rw [show (4 : Int32) + nI k = nI (4 + k) from nI_add 4 k]
                refine v_ialg hX hC1 (vp_in_nI (by omega) (by decide)) 466 rfl ?_
                rw [nI_clamp (by omega), pM_S (by omega), sF_45 hk2]
                refine v_iand hX 467 rfl ?_
                rw [mk_and _ _ (by omega)]
                refine v_callS hX 1 (l_bits) tw_417 tw_415 tw_416 tw_38 (by decide +kernel) ⟨⟨rfl, rfl⟩, Nat.le_of_ble_eq_true rfl, Nat.le_of_ble_eq_true rfl⟩ rfl (Nat.le_of_ble_eq_true rfl) rfl rfl 468 rfl ?_
                rw [cnt_bt hn, cnt_s1]
                refine v_iload hX 469 rfl rfl ?_
                refine v_callS hX 2 (l_share (show _ < 25 by have := cnt_le (fun i => clP (cp M 1) (nI k) i && bSd M 1 n i) n; omega) (show _ < 25 by have := cnt_le (clP (cp M 1) (nI k)) n; omega) q817 (cnt_mono (fun i g => by simp only [Bool.and_eq_true] at g; exact g.1))) tw_437 tw_435 tw_436 tw_38 (by decide +kernel) ⟨⟨rfl, rfl⟩, Nat.le_of_ble_eq_true rfl, Nat.le_of_ble_eq_true rfl⟩ rfl (Nat.le_of_ble_eq_true rfl) rfl rfl 470 rfl ?_
                exact V.sub (j845 _ (by unfold shF; exact (if_neg q817).symm)) rfl ⟨rfl, rfl, rfl, rfl, rfl, rfl, rfl, rfl, rfl, rfl, rfl, rfl, rfl, rfl, rfl, rfl, trivial⟩
              · skip
                have q817 : cnt (clP (cp M 1) (nI k)) n = 0 := by have hcl := cnt_le (clP (cp M 1) (nI k)) n; exact (nI_eq (b := 0) (by omega) (by omega)).mp c817
                refine v_bipush hX (v := (-6)) 457 rfl (by decide) ?_
                refine v_goto hX (tgt := 845) 458 rfl (by decide) ?_
                exact V.sub (j845 _ (by unfold shF; exact (if_pos q817).symm)) rfl ⟨rfl, rfl, rfl, rfl, rfl, rfl, rfl, rfl, rfl, rfl, rfl, rfl, rfl, rfl, rfl, rfl, trivial⟩
          refine V.subM (ls 0 (Nat.zero_le _)) ?_ rfl ⟨rfl, rfl, rfl, rfl, rfl, rfl, rfl, rfl, rfl, rfl, rfl, rfl, rfl, rfl, rfl, trivial⟩
          rfl
        · skip
          have hk6 : k < 6 := of_nle (a := 6) c745 (by omega) (by omega)
          refine v_iload hX 421 rfl rfl ?_
          refine v_if_eq hX (tgt := 771) 422 rfl (by decide) (fun c750 => absurd c750 (by decide)) (fun c750 => ?_)
          refine v_aload_n hX 0 423 rfl rfl rfl ?_
          refine v_iload hX 424 rfl rfl ?_
          refine v_callV hX 1 (by decide) rfl rfl (f_points (hzm _ _) hn (hwm _ _)) tw_421 tw_418 tw_419 tw_420 tw_39 (by decide +kernel) ⟨⟨rfl, rfl⟩, Nat.le_of_ble_eq_true rfl, Nat.le_of_ble_eq_true rfl⟩ rfl (Nat.le_of_ble_eq_true rfl) rfl rfl 425 rfl ?_
          rw [hpo]
          refine v_aload hX 426 rfl rfl ?_
          refine v_iload hX 427 rfl rfl ?_
          refine v_ialg hX hC1 (vp_in_nI (by omega) (by decide)) 428 rfl ?_
          rw [nI_clamp (by omega), pM_S (by omega)]
          refine v_icmp_ne hX (tgt := 771) 429 rfl (by decide) (fun c764 => absurd c764 (fun h => h (po_S hn hk6))) (fun c764 => ?_)
          refine v_iconst hX (v := 1) 430 rfl (by decide) ?_
          refine v_goto hX (tgt := 772) 431 rfl (by decide) ?_
          refine v_istore hX 433 rfl (Nat.le_of_ble_eq_true rfl) rfl ?_
          refine v_iinc hX 434 rfl rfl (nI_inc k) (Nat.le_of_ble_eq_true rfl) rfl ?_
          refine v_goto hX (tgt := 741) 435 rfl (by decide) ?_
          refine V.subM (ihk hk6) ?_ rfl ⟨rfl, rfl, rfl, rfl, rfl, rfl, rfl, rfl, rfl, rfl, rfl, rfl, rfl, rfl, rfl, trivial⟩
          rfl
      refine V.subM (lk 0 (Nat.zero_le _)) ?_ rfl ⟨rfl, rfl, rfl, rfl, rfl, rfl, rfl, rfl, rfl, rfl, rfl, rfl, rfl, rfl, rfl, trivial⟩
      rfl
    · skip
      have hp : p < n := of_nle c23 (by omega) (by omega)
      obtain ⟨s, hs, es⟩ : ∃ s, s < 2 ∧ cp M 1 p 0 = nI s := by rcases (hw p hp).1 with h | h; exact ⟨0, by decide, h⟩; exact ⟨1, by decide, h⟩
      refine v_iconst hX (v := 0) 15 rfl (by decide) ?_
      refine v_istore hX 16 rfl (Nat.le_of_ble_eq_true rfl) rfl ?_
      refine v_bipush hX (v := (-6)) 17 rfl (by decide) ?_
      refine v_istore hX 18 rfl (Nat.le_of_ble_eq_true rfl) rfl ?_
      refine v_aload hX 19 rfl rfl ?_
      refine v_iconst hX (v := 3) 20 rfl (by decide) ?_
      refine v_ialg hX aC_278 (vp_in_nI (n := 3) (by decide) (by decide)) 21 rfl ?_
      rw [hB3]
      refine v_iconst hX (v := 1) 22 rfl (by decide) ?_
      refine v_isub hX 23 rfl ?_
      refine v_istore hX 24 rfl (Nat.le_of_ble_eq_true rfl) rfl ?_
      have la : ∀ (m : Nat), m ≤ n → p + 1 ≤ m → V Y X (pM M (sS M n p) (uS M n p)) 41 [some (.ref (Y.2.2.2.1 0)), some (.ref (Y.2.2.2.1 270)), some (.ref (Y.2.2.2.1 271)), some (.ref (Y.2.2.2.1 272)), some (.ref (Y.2.2.2.1 273)), some (.ref (Y.2.2.2.1 274)), some (.ref (Y.2.2.2.1 275)), some (.ref (Y.2.2.2.1 276)), some (.ref (Y.2.2.2.1 277)), some (.ref (Y.2.2.2.1 278)), some (.ref q1), some (.int (mk (pCl (cp M 1)) p)), some (.ref q2), some (.int (nI p)), some (.int (ansM (cp M 1) n p m)), some (.int (ldn (lwq M n p) (n - m) m)), some (.int (nI m - 1)), none, none] [] := by
        refine downTo (fun m iha => ?_)
        intro hm hpm
        rcases Nat.eq_zero_or_pos m with h0 | h0
        · skip
          exfalso; omega
          skip
        · skip
          obtain ⟨m, rfl⟩ : ∃ m2, m = m2 + 1 := ⟨m - 1, by omega⟩
          rw [nI_pred]
          refine v_iload hX 25 rfl rfl ?_
          refine v_iload hX 26 rfl rfl ?_
          refine v_icmp_le hX (tgt := 104) 27 rfl (by decide) (fun c45 => ?_) (fun c45 => ?_)
          · skip
            have hmp : p = m := by have := of_le c45 (by omega) (by omega); omega
            subst hmp
            refine v_iconst hX (v := 0) 56 rfl (by decide) ?_
            refine v_istore hX 57 rfl (Nat.le_of_ble_eq_true rfl) rfl ?_
            refine v_iload hX 58 rfl rfl ?_
            refine v_istore hX 59 rfl (Nat.le_of_ble_eq_true rfl) rfl ?_
            have ld : ∀ (q : Nat), q ≤ p → ∀ (d : Nat), d + dpN (cp M 1) (q + 1) q = dpN (cp M 1) (p + 1) p → V Y X (pM M (sS M n p) (uS M n p)) 111 [some (.ref (Y.2.2.2.1 0)), some (.ref (Y.2.2.2.1 270)), some (.ref (Y.2.2.2.1 271)), some (.ref (Y.2.2.2.1 272)), some (.ref (Y.2.2.2.1 273)), some (.ref (Y.2.2.2.1 274)), some (.ref (Y.2.2.2.1 275)), some (.ref (Y.2.2.2.1 276)), some (.ref (Y.2.2.2.1 277)), some (.ref (Y.2.2.2.1 278)), some (.ref q1), some (.int (mk (pCl (cp M 1)) p)), some (.ref q2), some (.int (nI p)), some (.int (ansM (cp M 1) n p (p + 1))), some (.int (ldn (lwq M n p) (n - (p + 1)) (p + 1))), some (.int (nI d)), some (.int (nI q)), none] [] := by
              refine downTo (fun q ihd => ?_)
              intro hqp d hd
              refine v_aload hX 60 rfl rfl ?_
              refine v_iload hX 61 rfl rfl ?_
              refine v_ialg hX aC_274 (vp_in_nI (by omega) (by decide)) 62 rfl ?_
              rw [hA4 _ _ _ (by omega)]
              refine v_if_lt hX (tgt := 132) 63 rfl (by decide) (fun c116 => ?_) (fun c116 => ?_)
              · skip
                have q116 : cp M 1 q 3 = -6 := (toV_lt hw hn (by omega)).mp c116
                rw [dp_0 q116, Nat.add_zero] at hd
                subst hd
                have j177 : ∀ (v : Int32), v = dlR M 1 p → V Y X (pM M (sS M n p) (uS M n p)) 177 [some (.ref (Y.2.2.2.1 0)), some (.ref (Y.2.2.2.1 270)), some (.ref (Y.2.2.2.1 271)), some (.ref (Y.2.2.2.1 272)), some (.ref (Y.2.2.2.1 273)), some (.ref (Y.2.2.2.1 274)), some (.ref (Y.2.2.2.1 275)), some (.ref (Y.2.2.2.1 276)), some (.ref (Y.2.2.2.1 277)), some (.ref (Y.2.2.2.1 278)), some (.ref q1), some (.int (mk (pCl (cp M 1)) p)), some (.ref q2), some (.int (nI p)), some (.int (ansM (cp M 1) n p (p + 1))), some (.int (ldn (lwq M n p) (n - (p + 1)) (p + 1))), some (.int (nI (dpN (cp M 1) (p + 1) p))), none, none] [.int v] := by
                  intro v hv10
                  refine v_istore hX 98 rfl (Nat.le_of_ble_eq_true rfl) rfl ?_
                  refine v_aload_n hX 0 99 rfl rfl rfl ?_
                  refine v_iload hX 100 rfl rfl ?_
                  refine v_iconst hX (v := 0) 101 rfl (by decide) ?_
                  refine v_callV hX 2 (by decide) rfl rfl (f_of (hzm _ _) hn (hwm _ _) hp) tw_367 tw_364 tw_365 tw_366 tw_39 (by decide +kernel) ⟨⟨rfl, rfl⟩, Nat.le_of_ble_eq_true rfl, Nat.le_of_ble_eq_true rfl⟩ rfl (Nat.le_of_ble_eq_true rfl) rfl rfl 102 rfl ?_
                  rw [hof]
                  refine v_aload_n hX 1 103 rfl rfl rfl ?_
                  refine v_iload hX 104 rfl rfl ?_
                  refine v_ialg hX aC_270 (vp_in_nI (by omega) (by decide)) 105 rfl ?_
                  rw [hA0 _ _ _ (by omega)]
                  refine v_icmp_ne hX (tgt := 307) 106 rfl (by decide) (fun c190 => absurd c190 (fun h => h of_0)) (fun c190 => ?_)
                  refine v_aload_n hX 0 107 rfl rfl rfl ?_
                  refine v_iload hX 108 rfl rfl ?_
                  refine v_iconst hX (v := 1) 109 rfl (by decide) ?_
                  refine v_callV hX 2 (by decide) rfl rfl (f_of (hzm _ _) hn (hwm _ _) hp) tw_367 tw_364 tw_365 tw_366 tw_39 (by decide +kernel) ⟨⟨rfl, rfl⟩, Nat.le_of_ble_eq_true rfl, Nat.le_of_ble_eq_true rfl⟩ rfl (Nat.le_of_ble_eq_true rfl) rfl rfl 110 rfl ?_
                  rw [hof]
                  refine v_aload_n hX 2 111 rfl rfl rfl ?_
                  refine v_iload hX 112 rfl rfl ?_
                  refine v_ialg hX aC_271 (vp_in_nI (by omega) (by decide)) 113 rfl ?_
                  rw [hA1 _ _ _ (by omega)]
                  refine v_icmp_ne hX (tgt := 307) 114 rfl (by decide) (fun c204 => absurd c204 (fun h => h of_1)) (fun c204 => ?_)
                  refine v_aload_n hX 0 115 rfl rfl rfl ?_
                  refine v_iload hX 116 rfl rfl ?_
                  refine v_iconst hX (v := 2) 117 rfl (by decide) ?_
                  refine v_callV hX 2 (by decide) rfl rfl (f_of (hzm _ _) hn (hwm _ _) hp) tw_367 tw_364 tw_365 tw_366 tw_39 (by decide +kernel) ⟨⟨rfl, rfl⟩, Nat.le_of_ble_eq_true rfl, Nat.le_of_ble_eq_true rfl⟩ rfl (Nat.le_of_ble_eq_true rfl) rfl rfl 118 rfl ?_
                  rw [hof]
                  refine v_aload_n hX 3 119 rfl rfl rfl ?_
                  refine v_iload hX 120 rfl rfl ?_
                  refine v_ialg hX aC_272 (vp_in_nI (by omega) (by decide)) 121 rfl ?_
                  rw [hA2 _ _ _ (by omega)]
                  refine v_icmp_ne hX (tgt := 307) 122 rfl (by decide) (fun c218 => absurd c218 (fun h => h of_2)) (fun c218 => ?_)
                  refine v_aload_n hX 0 123 rfl rfl rfl ?_
                  refine v_iload hX 124 rfl rfl ?_
                  refine v_iconst hX (v := 3) 125 rfl (by decide) ?_
                  refine v_callV hX 2 (by decide) rfl rfl (f_of (hzm _ _) hn (hwm _ _) hp) tw_367 tw_364 tw_365 tw_366 tw_39 (by decide +kernel) ⟨⟨rfl, rfl⟩, Nat.le_of_ble_eq_true rfl, Nat.le_of_ble_eq_true rfl⟩ rfl (Nat.le_of_ble_eq_true rfl) rfl rfl 126 rfl ?_
                  rw [hof]
                  have j246 : ∀ (v3 : Int32), v3 = cp M 1 p 3 → V Y X (pM M (sS M n p) (uS M n p)) 246 [some (.ref (Y.2.2.2.1 0)), some (.ref (Y.2.2.2.1 270)), some (.ref (Y.2.2.2.1 271)), some (.ref (Y.2.2.2.1 272)), some (.ref (Y.2.2.2.1 273)), some (.ref (Y.2.2.2.1 274)), some (.ref (Y.2.2.2.1 275)), some (.ref (Y.2.2.2.1 276)), some (.ref (Y.2.2.2.1 277)), some (.ref (Y.2.2.2.1 278)), some (.ref q1), some (.int (mk (pCl (cp M 1)) p)), some (.ref q2), some (.int (nI p)), some (.int (ansM (cp M 1) n p (p + 1))), some (.int (ldn (lwq M n p) (n - (p + 1)) (p + 1))), some (.int (nI (dpN (cp M 1) (p + 1) p))), some (.int v), none] [.int v3, .int (ofR M n p 3)] := by
                    intro v3 hv3
                    refine v_icmp_ne hX (tgt := 307) 136 rfl (by decide) (fun c246 => absurd c246 (fun h => h (of_3.trans hv3.symm))) (fun c246 => ?_)
                    refine v_aload_n hX 0 137 rfl rfl rfl ?_
                    refine v_iload hX 138 rfl rfl ?_
                    refine v_iconst hX (v := 4) 139 rfl (by decide) ?_
                    refine v_callV hX 2 (by decide) rfl rfl (f_of (hzm _ _) hn (hwm _ _) hp) tw_367 tw_364 tw_365 tw_366 tw_39 (by decide +kernel) ⟨⟨rfl, rfl⟩, Nat.le_of_ble_eq_true rfl, Nat.le_of_ble_eq_true rfl⟩ rfl (Nat.le_of_ble_eq_true rfl) rfl rfl 140 rfl ?_
                    rw [hof]
                    refine v_aload hX 141 rfl rfl ?_
                    refine v_iload hX 142 rfl rfl ?_
                    refine v_ialg hX aC_275 (vp_in_nI (by omega) (by decide)) 143 rfl ?_
                    rw [hA5 _ _ _ (by omega)]
                    refine v_icmp_ne hX (tgt := 307) 144 rfl (by decide) (fun c261 => absurd c261 (fun h => h of_4)) (fun c261 => ?_)
                    refine v_aload_n hX 0 145 rfl rfl rfl ?_
                    refine v_iload hX 146 rfl rfl ?_
                    refine v_iconst hX (v := 5) 147 rfl (by decide) ?_
                    refine v_callV hX 2 (by decide) rfl rfl (f_of (hzm _ _) hn (hwm _ _) hp) tw_367 tw_364 tw_365 tw_366 tw_39 (by decide +kernel) ⟨⟨rfl, rfl⟩, Nat.le_of_ble_eq_true rfl, Nat.le_of_ble_eq_true rfl⟩ rfl (Nat.le_of_ble_eq_true rfl) rfl rfl 148 rfl ?_
                    rw [hof]
                    have j284 : ∀ (v5 : Int32), v5 = (if bSd M 1 n p = true then 1 else 0) → V Y X (pM M (sS M n p) (uS M n p)) 284 [some (.ref (Y.2.2.2.1 0)), some (.ref (Y.2.2.2.1 270)), some (.ref (Y.2.2.2.1 271)), some (.ref (Y.2.2.2.1 272)), some (.ref (Y.2.2.2.1 273)), some (.ref (Y.2.2.2.1 274)), some (.ref (Y.2.2.2.1 275)), some (.ref (Y.2.2.2.1 276)), some (.ref (Y.2.2.2.1 277)), some (.ref (Y.2.2.2.1 278)), some (.ref q1), some (.int (mk (pCl (cp M 1)) p)), some (.ref q2), some (.int (nI p)), some (.int (ansM (cp M 1) n p (p + 1))), some (.int (ldn (lwq M n p) (n - (p + 1)) (p + 1))), some (.int (nI (dpN (cp M 1) (p + 1) p))), some (.int v), none] [.int v5, .int (ofR M n p 5)] := by
                      intro v5 hv5
                      refine v_icmp_ne hX (tgt := 307) 156 rfl (by decide) (fun c284 => absurd c284 (fun h => h (of_5.trans hv5.symm))) (fun c284 => ?_)
                      refine v_aload_n hX 0 157 rfl rfl rfl ?_
                      refine v_iload hX 158 rfl rfl ?_
                      refine v_bipush hX (v := 6) 159 rfl (by decide) ?_
                      refine v_callV hX 2 (by decide) rfl rfl (f_of (hzm _ _) hn (hwm _ _) hp) tw_367 tw_364 tw_365 tw_366 tw_39 (by decide +kernel) ⟨⟨rfl, rfl⟩, Nat.le_of_ble_eq_true rfl, Nat.le_of_ble_eq_true rfl⟩ rfl (Nat.le_of_ble_eq_true rfl) rfl rfl 160 rfl ?_
                      rw [hof]
                      refine v_aload hX 161 rfl rfl ?_
                      refine v_iload hX 162 rfl rfl ?_
                      refine v_ialg hX aC_277 (vp_in_nI (by omega) (by decide)) 163 rfl ?_
                      rw [hAw _ _ _ (by omega)]
                      refine v_icmp_ne hX (tgt := 307) 164 rfl (by decide) (fun c300 => absurd c300 (fun h => h (of_6.trans (wv_all hp).1.symm))) (fun c300 => ?_)
                      refine v_iconst hX (v := 1) 165 rfl (by decide) ?_
                      refine v_goto hX (tgt := 308) 166 rfl (by decide) ?_
                      refine v_istore hX 168 rfl (Nat.le_of_ble_eq_true rfl) rfl ?_
                      refine v_iload hX 169 rfl rfl ?_
                      refine v_if_eq hX (tgt := 393) 170 rfl (by decide) (fun c312 => absurd c312 (by decide)) (fun c312 => ?_)
                      refine v_aload_n hX 0 171 rfl rfl rfl ?_
                      refine v_iload hX 172 rfl rfl ?_
                      refine v_bipush hX (v := 7) 173 rfl (by decide) ?_
                      refine v_callV hX 2 (by decide) rfl rfl (f_of (hzm _ _) hn (hwm _ _) hp) tw_367 tw_364 tw_365 tw_366 tw_39 (by decide +kernel) ⟨⟨rfl, rfl⟩, Nat.le_of_ble_eq_true rfl, Nat.le_of_ble_eq_true rfl⟩ rfl (Nat.le_of_ble_eq_true rfl) rfl rfl 174 rfl ?_
                      rw [hof]
                      refine v_iload hX 175 rfl rfl ?_
                      refine v_icmp_ne hX (tgt := 393) 176 rfl (by decide) (fun c325 => absurd c325 (fun h => h (of_7.trans (lwq_lo hw hn hp)))) (fun c325 => ?_)
                      refine v_aload_n hX 0 177 rfl rfl rfl ?_
                      refine v_iload hX 178 rfl rfl ?_
                      refine v_bipush hX (v := 8) 179 rfl (by decide) ?_
                      refine v_callV hX 2 (by decide) rfl rfl (f_of (hzm _ _) hn (hwm _ _) hp) tw_367 tw_364 tw_365 tw_366 tw_39 (by decide +kernel) ⟨⟨rfl, rfl⟩, Nat.le_of_ble_eq_true rfl, Nat.le_of_ble_eq_true rfl⟩ rfl (Nat.le_of_ble_eq_true rfl) rfl rfl 180 rfl ?_
                      rw [hof]
                      refine v_iload hX 181 rfl rfl ?_
                      refine v_icmp_ne hX (tgt := 393) 182 rfl (by decide) (fun c338 => absurd c338 (fun h => h (of_8.trans (ansM_e hw hn hp).symm))) (fun c338 => ?_)
                      refine v_aload_n hX 0 183 rfl rfl rfl ?_
                      refine v_iload hX 184 rfl rfl ?_
                      refine v_bipush hX (v := 9) 185 rfl (by decide) ?_
                      refine v_callV hX 2 (by decide) rfl rfl (f_of (hzm _ _) hn (hwm _ _) hp) tw_367 tw_364 tw_365 tw_366 tw_39 (by decide +kernel) ⟨⟨rfl, rfl⟩, Nat.le_of_ble_eq_true rfl, Nat.le_of_ble_eq_true rfl⟩ rfl (Nat.le_of_ble_eq_true rfl) rfl rfl 186 rfl ?_
                      rw [hof]
                      refine v_iload hX 187 rfl rfl ?_
                      refine v_icmp_ne hX (tgt := 393) 188 rfl (by decide) (fun c351 => absurd c351 (fun h => h of_9)) (fun c351 => ?_)
                      refine v_aload_n hX 0 189 rfl rfl rfl ?_
                      refine v_iload hX 190 rfl rfl ?_
                      refine v_bipush hX (v := 10) 191 rfl (by decide) ?_
                      refine v_callV hX 2 (by decide) rfl rfl (f_of (hzm _ _) hn (hwm _ _) hp) tw_367 tw_364 tw_365 tw_366 tw_39 (by decide +kernel) ⟨⟨rfl, rfl⟩, Nat.le_of_ble_eq_true rfl, Nat.le_of_ble_eq_true rfl⟩ rfl (Nat.le_of_ble_eq_true rfl) rfl rfl 192 rfl ?_
                      rw [hof]
                      refine v_iload hX 193 rfl rfl ?_
                      refine v_icmp_ne hX (tgt := 393) 194 rfl (by decide) (fun c364 => absurd c364 (fun h => h (of_10.trans hv10.symm))) (fun c364 => ?_)
                      have j389 : V Y X (pM M (sS M n p) (uS M n p)) 389 [some (.ref (Y.2.2.2.1 0)), some (.ref (Y.2.2.2.1 270)), some (.ref (Y.2.2.2.1 271)), some (.ref (Y.2.2.2.1 272)), some (.ref (Y.2.2.2.1 273)), some (.ref (Y.2.2.2.1 274)), some (.ref (Y.2.2.2.1 275)), some (.ref (Y.2.2.2.1 276)), some (.ref (Y.2.2.2.1 277)), some (.ref (Y.2.2.2.1 278)), some (.ref q1), some (.int (mk (pCl (cp M 1)) p)), some (.ref q2), some (.int (nI p)), none, none, none, none, none] [] := by
                        skip
                        refine v_iconst hX (v := 1) 208 rfl (by decide) ?_
                        refine v_goto hX (tgt := 394) 209 rfl (by decide) ?_
                        refine v_istore hX 211 rfl (Nat.le_of_ble_eq_true rfl) rfl ?_
                        refine v_iload hX 212 rfl rfl ?_
                        refine v_if_ne hX (tgt := 403) 213 rfl (by decide) (fun c398 => ?_) (fun c398 => absurd c398 (by decide))
                        have j421 : ∀ (v : Int32), v = (if pCl (cp M 1) p = true then ((1 : Int32) <<< (nI p &&& 31)) else 0) → V Y X (pM M (sS M n p) (uS M n p)) 421 [some (.ref (Y.2.2.2.1 0)), some (.ref (Y.2.2.2.1 270)), some (.ref (Y.2.2.2.1 271)), some (.ref (Y.2.2.2.1 272)), some (.ref (Y.2.2.2.1 273)), some (.ref (Y.2.2.2.1 274)), some (.ref (Y.2.2.2.1 275)), some (.ref (Y.2.2.2.1 276)), some (.ref (Y.2.2.2.1 277)), some (.ref (Y.2.2.2.1 278)), some (.ref q1), some (.int (mk (pCl (cp M 1)) p)), some (.ref q2), some (.int (nI p)), none, none, none, none, none] [.int v, .int (mk (pCl (cp M 1)) p)] := by
                          intro v hv421
                          refine v_ior hX 226 rfl ?_
                          rw [hv421, mkz1]
                          refine v_istore hX 227 rfl (Nat.le_of_ble_eq_true rfl) rfl ?_
                          refine v_aload hX 228 rfl rfl ?_
                          refine v_iconst hX (v := 0) 229 rfl (by decide) ?_
                          refine v_dup2 hX 230 rfl rfl rfl ?_
                          refine v_ialg hX hC1 (vp_in_nI (n := 0) (by decide) (by decide)) 231 rfl ?_
                          have j445 : ∀ (v : Int32), v = (if bSd M 1 n p = true then ((1 : Int32) <<< (nI p &&& 31)) else 0) → V Y X (pM M (sS M n p) (uS M n p)) 445 [some (.ref (Y.2.2.2.1 0)), some (.ref (Y.2.2.2.1 270)), some (.ref (Y.2.2.2.1 271)), some (.ref (Y.2.2.2.1 272)), some (.ref (Y.2.2.2.1 273)), some (.ref (Y.2.2.2.1 274)), some (.ref (Y.2.2.2.1 275)), some (.ref (Y.2.2.2.1 276)), some (.ref (Y.2.2.2.1 277)), some (.ref (Y.2.2.2.1 278)), some (.ref q1), some (.int (mk (pCl (cp M 1)) (p + 1))), some (.ref q2), some (.int (nI p)), none, none, none, none, none] [.int v, .int (mk (bSd M 1 n) p), .int 0, .ref q1] := by
                            intro v hv445
                            refine v_ior hX 241 rfl ?_
                            rw [hv445, mkz1]
                            refine v_iasg hX hC1 (vp_in_nI (n := 0) (by decide) (by decide)) 242 rfl ?_
                            refine V.mem (M2 := pM M (upd (sS M n p) 0 (mk (bSd M 1 n) (p + 1))) (uS M n p)) (by exact pM_sS (x := 0) (by decide)) ?_
                            refine v_aload hX 243 rfl rfl ?_
                            refine v_iconst hX (v := 2) 244 rfl (by decide) ?_
                            refine v_dup2 hX 245 rfl rfl rfl ?_
                            refine v_ialg hX hC1 (vp_in_nI (n := 2) (by decide) (by decide)) 246 rfl ?_
                            rw [hS2]
                            show V _ _ _ _ _ (.int (mk (bOut M 1) p) :: _)
                            have j477 : ∀ (v : Int32), v = (if bOut M 1 p = true then ((1 : Int32) <<< (nI p &&& 31)) else 0) → V Y X (pM M (upd (sS M n p) 0 (mk (bSd M 1 n) (p + 1))) (uS M n p)) 477 [some (.ref (Y.2.2.2.1 0)), some (.ref (Y.2.2.2.1 270)), some (.ref (Y.2.2.2.1 271)), some (.ref (Y.2.2.2.1 272)), some (.ref (Y.2.2.2.1 273)), some (.ref (Y.2.2.2.1 274)), some (.ref (Y.2.2.2.1 275)), some (.ref (Y.2.2.2.1 276)), some (.ref (Y.2.2.2.1 277)), some (.ref (Y.2.2.2.1 278)), some (.ref q1), some (.int (mk (pCl (cp M 1)) (p + 1))), some (.ref q2), some (.int (nI p)), none, none, none, none, none] [.int v, .int (mk (bOut M 1) p), .int 2, .ref q1] := by
                              intro v hv477
                              refine v_ior hX 261 rfl ?_
                              rw [hv477, mkz1]
                              refine v_iasg hX hC1 (vp_in_nI (n := 2) (by decide) (by decide)) 262 rfl ?_
                              refine V.mem (M2 := pM M (upd (upd (sS M n p) 0 (mk (bSd M 1 n) (p + 1))) 2 (mk (bOut M 1) (p + 1))) (uS M n p)) (by exact pM_sS (x := 2) (by decide)) ?_
                              refine v_aload hX 263 rfl rfl ?_
                              refine v_iconst hX (v := 3) 264 rfl (by decide) ?_
                              refine v_dup2 hX 265 rfl rfl rfl ?_
                              refine v_ialg hX hC1 (vp_in_nI (n := 3) (by decide) (by decide)) 266 rfl ?_
                              rw [hS3]
                              show V _ _ _ _ _ (.int (mk (anq M n) p) :: _)
                              have j501 : ∀ (v : Int32), v = (if anq M n p = true then ((1 : Int32) <<< (nI p &&& 31)) else 0) → V Y X (pM M (upd (upd (sS M n p) 0 (mk (bSd M 1 n) (p + 1))) 2 (mk (bOut M 1) (p + 1))) (uS M n p)) 501 [some (.ref (Y.2.2.2.1 0)), some (.ref (Y.2.2.2.1 270)), some (.ref (Y.2.2.2.1 271)), some (.ref (Y.2.2.2.1 272)), some (.ref (Y.2.2.2.1 273)), some (.ref (Y.2.2.2.1 274)), some (.ref (Y.2.2.2.1 275)), some (.ref (Y.2.2.2.1 276)), some (.ref (Y.2.2.2.1 277)), some (.ref (Y.2.2.2.1 278)), some (.ref q1), some (.int (mk (pCl (cp M 1)) (p + 1))), some (.ref q2), some (.int (nI p)), none, none, none, none, none] [.int v, .int (mk (anq M n) p), .int 3, .ref q1] := by
                                intro v hv501
                                refine v_ior hX 277 rfl ?_
                                rw [hv501, mkz1]
                                refine v_iasg hX hC1 (vp_in_nI (n := 3) (by decide) (by decide)) 278 rfl ?_
                                refine V.mem (M2 := pM M (upd (upd (upd (sS M n p) 0 (mk (bSd M 1 n) (p + 1))) 2 (mk (bOut M 1) (p + 1))) 3 (mk (anq M n) (p + 1))) (uS M n p)) (by exact pM_sS (x := 3) (by decide)) ?_
                                refine v_aload hX 279 rfl rfl ?_
                                refine v_iconst hX (v := 4) 280 rfl (by decide) ?_
                                refine v_aload_n hX 1 281 rfl rfl rfl ?_
                                refine v_iload hX 282 rfl rfl ?_
                                refine v_ialg hX aC_270 (vp_in_nI (by omega) (by decide)) 283 rfl ?_
                                rw [hA0 _ _ _ (by omega), es]
                                refine v_iadd hX 284 rfl ?_
                                rw [show (4 : Int32) + nI s = nI (4 + s) from nI_add 4 s]
                                refine v_dup2 hX 285 rfl rfl rfl ?_
                                refine v_ialg hX hC1 (vp_in_nI (by omega) (by decide)) 286 rfl ?_
                                rw [nI_clamp (by omega), pM_S (by omega), sS_45 hs]
                                refine v_iconst hX (v := 1) 287 rfl (by decide) ?_
                                refine v_iload hX 288 rfl rfl ?_
                                refine v_ishl hX 289 rfl ?_
                                refine v_ior hX 290 rfl ?_
                                rw [mk_t (show pSd (cp M 1) (nI s) p = true by unfold pSd; rw [es]; simp)]
                                refine v_iasg hX hC1 (vp_in_nI (by omega) (by decide)) 291 rfl ?_
                                refine V.mem (M2 := pM M (sS M n (p + 1)) (uS M n p)) (by rw [nI_clamp (by omega), pM_sS (by omega), sS_s hs es]) ?_
                                refine v_aload hX 292 rfl rfl ?_
                                refine v_aload_n hX 1 293 rfl rfl rfl ?_
                                refine v_iload hX 294 rfl rfl ?_
                                refine v_ialg hX aC_270 (vp_in_nI (by omega) (by decide)) 295 rfl ?_
                                rw [hA0 _ _ _ (by omega), es]
                                refine v_dup2 hX 296 rfl rfl rfl ?_
                                refine v_ialg hX hC2 (vp_in_nI hs (by decide)) 297 rfl ?_
                                rw [nI_clamp (by omega), pM_U]
                                have j553 : ∀ (v : Int32), v = (if wv M n p = 1 ∨ wv M n p = 2 then 0 else cp M 1 p 1) → V Y X (pM M (sS M n (p + 1)) (uS M n p)) 553 [some (.ref (Y.2.2.2.1 0)), some (.ref (Y.2.2.2.1 270)), some (.ref (Y.2.2.2.1 271)), some (.ref (Y.2.2.2.1 272)), some (.ref (Y.2.2.2.1 273)), some (.ref (Y.2.2.2.1 274)), some (.ref (Y.2.2.2.1 275)), some (.ref (Y.2.2.2.1 276)), some (.ref (Y.2.2.2.1 277)), some (.ref (Y.2.2.2.1 278)), some (.ref q1), some (.int (mk (pCl (cp M 1)) (p + 1))), some (.ref q2), some (.int (nI p)), none, none, none, none, none] [.int v, .int (uS M n p s), .int (nI s), .ref q2] := by
                                  intro v hv553
                                  refine v_iadd hX 313 rfl ?_
                                  refine v_iasg hX hC2 (vp_in_nI hs (by decide)) 314 rfl ?_
                                  refine V.mem (M2 := pM M (sS M n (p + 1)) (uS M n (p + 1))) (by rw [hv553, nI_clamp (by omega), pM_sU, uS_s hn hp hs es]) ?_
                                  refine v_iinc hX 315 rfl rfl (nI_inc p) (Nat.le_of_ble_eq_true rfl) rfl ?_
                                  refine v_goto hX (tgt := 17) 316 rfl (by decide) ?_
                                  refine V.subM (ih hp) ?_ rfl ⟨rfl, rfl, rfl, rfl, rfl, rfl, rfl, rfl, rfl, rfl, rfl, (by first | rfl | (refine congrArg (fun z : Int32 => some (Value.int z)) ?_; rfl)), rfl, rfl, trivial⟩
                                  rfl
                                refine v_aload hX 298 rfl rfl ?_
                                refine v_iload hX 299 rfl rfl ?_
                                refine v_ialg hX aC_277 (vp_in_nI (by omega) (by decide)) 300 rfl ?_
                                rw [hAw _ _ _ (by omega)]
                                refine v_iconst hX (v := 1) 301 rfl (by decide) ?_
                                refine v_icmp_eq hX (tgt := 545) 302 rfl (by decide) (fun c533 => ?_) (fun c533 => ?_)
                                · skip
                                  refine v_iconst hX (v := 0) 308 rfl (by decide) ?_
                                  refine v_goto hX (tgt := 553) 309 rfl (by decide) ?_
                                  exact V.sub (j553 _ (if_pos (Or.inl c533)).symm) rfl ⟨rfl, rfl, rfl, rfl, rfl, rfl, rfl, rfl, rfl, rfl, rfl, rfl, rfl, rfl, trivial⟩
                                · skip
                                  refine v_aload hX 303 rfl rfl ?_
                                  refine v_iload hX 304 rfl rfl ?_
                                  refine v_ialg hX aC_277 (vp_in_nI (by omega) (by decide)) 305 rfl ?_
                                  rw [hAw _ _ _ (by omega)]
                                  refine v_iconst hX (v := 2) 306 rfl (by decide) ?_
                                  refine v_icmp_ne hX (tgt := 549) 307 rfl (by decide) (fun c542 => ?_) (fun c542 => ?_)
                                  · skip
                                    refine v_aload_n hX 2 310 rfl rfl rfl ?_
                                    refine v_iload hX 311 rfl rfl ?_
                                    refine v_ialg hX aC_271 (vp_in_nI (by omega) (by decide)) 312 rfl ?_
                                    rw [hA1 _ _ _ (by omega)]
                                    exact V.sub (j553 _ (if_neg (fun h => h.elim c533 c542)).symm) rfl ⟨rfl, rfl, rfl, rfl, rfl, rfl, rfl, rfl, rfl, rfl, rfl, rfl, rfl, rfl, trivial⟩
                                  · skip
                                    refine v_iconst hX (v := 0) 308 rfl (by decide) ?_
                                    refine v_goto hX (tgt := 553) 309 rfl (by decide) ?_
                                    exact V.sub (j553 _ (if_pos (Or.inr c542)).symm) rfl ⟨rfl, rfl, rfl, rfl, rfl, rfl, rfl, rfl, rfl, rfl, rfl, rfl, rfl, rfl, trivial⟩
                              refine v_aload hX 267 rfl rfl ?_
                              refine v_iload hX 268 rfl rfl ?_
                              refine v_ialg hX aC_277 (vp_in_nI (by omega) (by decide)) 269 rfl ?_
                              rw [hAw _ _ _ (by omega)]
                              refine v_iconst hX (v := 5) 270 rfl (by decide) ?_
                              refine v_icmp_ne hX (tgt := 500) 271 rfl (by decide) (fun c490 => ?_) (fun c490 => ?_)
                              · skip
                                refine v_iconst hX (v := 0) 276 rfl (by decide) ?_
                                exact V.sub (j501 _ (if_neg (fun g => c490 ((wv_all hp).2.2.1.mp (show (!bOut M 1 p && !bSd M 1 n p) = true from g)))).symm) rfl ⟨rfl, rfl, rfl, rfl, rfl, rfl, rfl, rfl, rfl, rfl, rfl, rfl, rfl, rfl, trivial⟩
                              · skip
                                refine v_iconst hX (v := 1) 272 rfl (by decide) ?_
                                refine v_iload hX 273 rfl rfl ?_
                                refine v_ishl hX 274 rfl ?_
                                refine v_goto hX (tgt := 501) 275 rfl (by decide) ?_
                                exact V.sub (j501 _ (if_pos (show anq M n p = true from (wv_all hp).2.2.1.mpr c490)).symm) rfl ⟨rfl, rfl, rfl, rfl, rfl, rfl, rfl, rfl, rfl, rfl, rfl, rfl, rfl, rfl, trivial⟩
                            refine v_aload hX 247 rfl rfl ?_
                            refine v_iload hX 248 rfl rfl ?_
                            refine v_ialg hX aC_277 (vp_in_nI (by omega) (by decide)) 249 rfl ?_
                            rw [hAw _ _ _ (by omega)]
                            refine v_if_le hX (tgt := 476) 250 rfl (by decide) (fun c457 => ?_) (fun c457 => ?_)
                            · skip
                              refine v_iconst hX (v := 0) 260 rfl (by decide) ?_
                              exact V.sub (j477 _ (if_neg (fun g => ((wv_all hp).2.1.mp g).1 c457)).symm) rfl ⟨rfl, rfl, rfl, rfl, rfl, rfl, rfl, rfl, rfl, rfl, rfl, rfl, rfl, rfl, trivial⟩
                            · skip
                              refine v_aload hX 251 rfl rfl ?_
                              refine v_iload hX 252 rfl rfl ?_
                              refine v_ialg hX aC_277 (vp_in_nI (by omega) (by decide)) 253 rfl ?_
                              rw [hAw _ _ _ (by omega)]
                              refine v_iconst hX (v := 5) 254 rfl (by decide) ?_
                              refine v_icmp_ge hX (tgt := 476) 255 rfl (by decide) (fun c466 => ?_) (fun c466 => ?_)
                              · skip
                                refine v_iconst hX (v := 0) 260 rfl (by decide) ?_
                                exact V.sub (j477 _ (if_neg (fun g => ((wv_all hp).2.1.mp g).2 c466)).symm) rfl ⟨rfl, rfl, rfl, rfl, rfl, rfl, rfl, rfl, rfl, rfl, rfl, rfl, rfl, rfl, trivial⟩
                              · skip
                                refine v_iconst hX (v := 1) 256 rfl (by decide) ?_
                                refine v_iload hX 257 rfl rfl ?_
                                refine v_ishl hX 258 rfl ?_
                                refine v_goto hX (tgt := 477) 259 rfl (by decide) ?_
                                exact V.sub (j477 _ (if_pos ((wv_all hp).2.1.mpr ⟨c457, c466⟩)).symm) rfl ⟨rfl, rfl, rfl, rfl, rfl, rfl, rfl, rfl, rfl, rfl, rfl, rfl, rfl, rfl, trivial⟩
                          refine v_aload hX 232 rfl rfl ?_
                          refine v_iload hX 233 rfl rfl ?_
                          refine v_ialg hX aC_277 (vp_in_nI (by omega) (by decide)) 234 rfl ?_
                          rw [hAw _ _ _ (by omega)]
                          refine v_if_ne hX (tgt := 444) 235 rfl (by decide) (fun c434 => ?_) (fun c434 => ?_)
                          · skip
                            refine v_iconst hX (v := 0) 240 rfl (by decide) ?_
                            exact V.sub (j445 _ (if_neg (fun g => c434 ((wv_0 hp).mpr g))).symm) rfl ⟨rfl, rfl, rfl, rfl, rfl, rfl, rfl, rfl, rfl, rfl, rfl, rfl, rfl, rfl, trivial⟩
                          · skip
                            refine v_iconst hX (v := 1) 236 rfl (by decide) ?_
                            refine v_iload hX 237 rfl rfl ?_
                            refine v_ishl hX 238 rfl ?_
                            refine v_goto hX (tgt := 445) 239 rfl (by decide) ?_
                            exact V.sub (j445 _ (if_pos ((wv_0 hp).mp c434)).symm) rfl ⟨rfl, rfl, rfl, rfl, rfl, rfl, rfl, rfl, rfl, rfl, rfl, rfl, rfl, rfl, trivial⟩
                        refine v_iload hX 216 rfl rfl ?_
                        refine v_aload hX 217 rfl rfl ?_
                        refine v_iload hX 218 rfl rfl ?_
                        refine v_ialg hX aC_274 (vp_in_nI (by omega) (by decide)) 219 rfl ?_
                        rw [hA4 _ _ _ (by omega)]
                        refine v_if_ge hX (tgt := 420) 220 rfl (by decide) (fun c410 => ?_) (fun c410 => ?_)
                        · skip
                          refine v_iconst hX (v := 0) 225 rfl (by decide) ?_
                          exact V.sub (j421 _ (if_neg (fun g => toV_ge hw hn hp c410 (by unfold pCl at g; simpa using g))).symm) rfl ⟨rfl, rfl, rfl, rfl, rfl, rfl, rfl, rfl, rfl, rfl, rfl, rfl, rfl, rfl, trivial⟩
                        · skip
                          refine v_iconst hX (v := 1) 221 rfl (by decide) ?_
                          refine v_iload hX 222 rfl rfl ?_
                          refine v_ishl hX 223 rfl ?_
                          refine v_goto hX (tgt := 421) 224 rfl (by decide) ?_
                          exact V.sub (j421 _ (if_pos (by unfold pCl; rw [toV_ng hw hn hp c410]; rfl)).symm) rfl ⟨rfl, rfl, rfl, rfl, rfl, rfl, rfl, rfl, rfl, rfl, rfl, rfl, rfl, rfl, trivial⟩
                      refine v_aload hX 195 rfl rfl ?_
                      refine v_iload hX 196 rfl rfl ?_
                      refine v_ialg hX aC_274 (vp_in_nI (by omega) (by decide)) 197 rfl ?_
                      rw [hA4 _ _ _ (by omega)]
                      refine v_if_lt hX (tgt := 389) 198 rfl (by decide) (fun c372 => ?_) (fun c372 => ?_)
                      · skip
                        exact V.sub (j389) rfl ⟨rfl, rfl, rfl, rfl, rfl, rfl, rfl, rfl, rfl, rfl, rfl, rfl, rfl, rfl, trivial⟩
                      · skip
                        obtain ⟨t, ht, e3, et⟩ : ∃ t, t < p ∧ cp M 1 p 3 = nI t ∧ toV (cp M 1) p = nI t := by rcases toV_c hw hp with h | h; exact absurd ((toV_lt hw hn hp).mpr h.1) c372; exact h
                        refine v_aload_n hX 1 199 rfl rfl rfl ?_
                        refine v_iload hX 200 rfl rfl ?_
                        refine v_ialg hX aC_270 (vp_in_nI (by omega) (by decide)) 201 rfl ?_
                        rw [hA0 _ _ _ (by omega)]
                        refine v_aload_n hX 1 202 rfl rfl rfl ?_
                        refine v_aload hX 203 rfl rfl ?_
                        refine v_iload hX 204 rfl rfl ?_
                        refine v_ialg hX aC_274 (vp_in_nI (by omega) (by decide)) 205 rfl ?_
                        rw [hA4 _ _ _ (by omega), et]
                        refine v_ialg hX aC_270 (vp_in_nI (by omega) (by decide)) 206 rfl ?_
                        rw [hA0 _ _ _ (by omega)]
                        refine v_icmp_eq hX (tgt := 393) 207 rfl (by decide) (fun c386 => absurd c386 (hsd p t hp ht e3)) (fun c386 => ?_)
                        exact V.sub (j389) rfl ⟨rfl, rfl, rfl, rfl, rfl, rfl, rfl, rfl, rfl, rfl, rfl, rfl, rfl, rfl, trivial⟩
                    refine v_aload hX 149 rfl rfl ?_
                    refine v_iload hX 150 rfl rfl ?_
                    refine v_ialg hX aC_277 (vp_in_nI (by omega) (by decide)) 151 rfl ?_
                    rw [hAw _ _ _ (by omega)]
                    refine v_if_ne hX (tgt := 283) 152 rfl (by decide) (fun c276 => ?_) (fun c276 => ?_)
                    · skip
                      refine v_iconst hX (v := 0) 155 rfl (by decide) ?_
                      exact V.sub (j284 _ (if_neg (fun g => c276 ((wv_0 hp).mpr g))).symm) rfl ⟨rfl, rfl, rfl, rfl, rfl, rfl, rfl, rfl, rfl, rfl, rfl, rfl, rfl, rfl, rfl, rfl, rfl, rfl, trivial⟩
                    · skip
                      refine v_iconst hX (v := 1) 153 rfl (by decide) ?_
                      refine v_goto hX (tgt := 284) 154 rfl (by decide) ?_
                      exact V.sub (j284 _ (if_pos ((wv_0 hp).mp c276)).symm) rfl ⟨rfl, rfl, rfl, rfl, rfl, rfl, rfl, rfl, rfl, rfl, rfl, rfl, rfl, rfl, rfl, rfl, rfl, rfl, trivial⟩
                  refine v_aload hX 127 rfl rfl ?_
                  refine v_iload hX 128 rfl rfl ?_
                  refine v_ialg hX aC_274 (vp_in_nI (by omega) (by decide)) 129 rfl ?_
                  rw [hA4 _ _ _ (by omega)]
                  refine v_if_ge hX (tgt := 241) 130 rfl (by decide) (fun c233 => ?_) (fun c233 => ?_)
                  · skip
                    refine v_aload hX 133 rfl rfl ?_
                    refine v_iload hX 134 rfl rfl ?_
                    refine v_ialg hX aC_274 (vp_in_nI (by omega) (by decide)) 135 rfl ?_
                    rw [hA4 _ _ _ (by omega)]
                    exact V.sub (j246 _ (if_neg (toV_ge hw hn hp c233))) rfl ⟨rfl, rfl, rfl, rfl, rfl, rfl, rfl, rfl, rfl, rfl, rfl, rfl, rfl, rfl, rfl, rfl, rfl, rfl, trivial⟩
                  · skip
                    refine v_bipush hX (v := (-6)) 131 rfl (by decide) ?_
                    refine v_goto hX (tgt := 246) 132 rfl (by decide) ?_
                    exact V.sub (j246 _ (toV_ng hw hn hp c233).symm) rfl ⟨rfl, rfl, rfl, rfl, rfl, rfl, rfl, rfl, rfl, rfl, rfl, rfl, rfl, rfl, rfl, rfl, rfl, rfl, trivial⟩
                have hyt := yet_eq (la := la) (dy := dy) hw h9 hp hn hla hdy h4 h2
                refine v_aload hX 70 rfl rfl ?_
                refine v_iload hX 71 rfl rfl ?_
                refine v_ialg hX aC_274 (vp_in_nI (by omega) (by decide)) 72 rfl ?_
                rw [hA4 _ _ _ (by omega)]
                refine v_if_lt hX (tgt := 157) 73 rfl (by decide) (fun c137 => ?_) (fun c137 => ?_)
                · skip
                  refine v_bipush hX (v := (-6)) 85 rfl (by decide) ?_
                  refine v_goto hX (tgt := 177) 86 rfl (by decide) ?_
                  exact V.sub (j177 _ (by rw [hyt]; exact (if_pos (Or.inl c137)).symm)) rfl ⟨rfl, rfl, rfl, rfl, rfl, rfl, rfl, rfl, rfl, rfl, rfl, rfl, rfl, rfl, rfl, rfl, rfl, trivial⟩
                · skip
                  refine v_aload hX 74 rfl rfl ?_
                  refine v_iload hX 75 rfl rfl ?_
                  refine v_ialg hX aC_273 (vp_in_nI (by omega) (by decide)) 76 rfl ?_
                  rw [hA3 _ _ _ (by omega)]
                  refine v_aload hX 77 rfl rfl ?_
                  refine v_iconst hX (v := 0) 78 rfl (by decide) ?_
                  refine v_ialg hX aC_278 (vp_in_nI (n := 0) (by decide) (by decide)) 79 rfl ?_
                  rw [hB0]
                  refine v_iadd hX 80 rfl ?_
                  refine v_aload hX 81 rfl rfl ?_
                  refine v_iconst hX (v := 2) 82 rfl (by decide) ?_
                  refine v_ialg hX aC_278 (vp_in_nI (n := 2) (by decide) (by decide)) 83 rfl ?_
                  rw [hB2]
                  refine v_icmp_ge hX (tgt := 162) 84 rfl (by decide) (fun c154 => ?_) (fun c154 => ?_)
                  · skip
                    refine v_aload hX 87 rfl rfl ?_
                    refine v_iload hX 88 rfl rfl ?_
                    refine v_ialg hX aC_273 (vp_in_nI (by omega) (by decide)) 89 rfl ?_
                    rw [hA3 _ _ _ (by omega)]
                    refine v_aload hX 90 rfl rfl ?_
                    refine v_iconst hX (v := 0) 91 rfl (by decide) ?_
                    refine v_ialg hX aC_278 (vp_in_nI (n := 0) (by decide) (by decide)) 92 rfl ?_
                    rw [hB0]
                    refine v_iadd hX 93 rfl ?_
                    refine v_aload hX 94 rfl rfl ?_
                    refine v_iconst hX (v := 2) 95 rfl (by decide) ?_
                    refine v_ialg hX aC_278 (vp_in_nI (n := 2) (by decide) (by decide)) 96 rfl ?_
                    rw [hB2]
                    refine v_isub hX 97 rfl ?_
                    exact V.sub (j177 _ (by rw [hyt]; exact (if_neg (fun h => h.elim c137 (fun g => g c154))).symm)) rfl ⟨rfl, rfl, rfl, rfl, rfl, rfl, rfl, rfl, rfl, rfl, rfl, rfl, rfl, rfl, rfl, rfl, rfl, trivial⟩
                  · skip
                    refine v_bipush hX (v := (-6)) 85 rfl (by decide) ?_
                    refine v_goto hX (tgt := 177) 86 rfl (by decide) ?_
                    exact V.sub (j177 _ (by rw [hyt]; exact (if_pos (Or.inr c154)).symm)) rfl ⟨rfl, rfl, rfl, rfl, rfl, rfl, rfl, rfl, rfl, rfl, rfl, rfl, rfl, rfl, rfl, rfl, rfl, trivial⟩
              · skip
                obtain ⟨t, ht, e3, et⟩ : ∃ t, t < q ∧ cp M 1 q 3 = nI t ∧ toV (cp M 1) q = nI t := by rcases toV_c hw (show q < n by omega) with h | h; exact absurd ((toV_lt hw hn (by omega)).mpr h.1) c116; exact h
                rw [dp_s hw hn (by omega) ht e3] at hd
                refine v_iinc hX 64 rfl rfl (nI_inc d) (Nat.le_of_ble_eq_true rfl) rfl ?_
                refine v_aload hX 65 rfl rfl ?_
                refine v_iload hX 66 rfl rfl ?_
                refine v_ialg hX aC_274 (vp_in_nI (by omega) (by decide)) 67 rfl ?_
                rw [hA4 _ _ _ (by omega), et]
                refine v_istore hX 68 rfl (Nat.le_of_ble_eq_true rfl) rfl ?_
                refine v_goto hX (tgt := 111) 69 rfl (by decide) ?_
                refine V.subM (ihd t ht (by omega) (d + 1) (by omega)) ?_ rfl ⟨rfl, rfl, rfl, rfl, rfl, rfl, rfl, rfl, rfl, rfl, rfl, rfl, rfl, rfl, rfl, rfl, rfl, rfl, trivial⟩
                rfl
            refine V.subM (ld p (Nat.le_refl p) 0 (Nat.zero_add _)) ?_ rfl ⟨rfl, rfl, rfl, rfl, rfl, rfl, rfl, rfl, rfl, rfl, rfl, rfl, rfl, rfl, rfl, rfl, rfl, rfl, trivial⟩
            rfl
          · skip
            have hmp : p < m := of_nle c45 (by omega) (by omega)
            have j68 : ∀ (v : Int32), v = (if cp M 1 m 3 = nI p then (1 : Int32) <<< (nI m &&& 31) else 0) → V Y X (pM M (sS M n p) (uS M n p)) 68 [some (.ref (Y.2.2.2.1 0)), some (.ref (Y.2.2.2.1 270)), some (.ref (Y.2.2.2.1 271)), some (.ref (Y.2.2.2.1 272)), some (.ref (Y.2.2.2.1 273)), some (.ref (Y.2.2.2.1 274)), some (.ref (Y.2.2.2.1 275)), some (.ref (Y.2.2.2.1 276)), some (.ref (Y.2.2.2.1 277)), some (.ref (Y.2.2.2.1 278)), some (.ref q1), some (.int (mk (pCl (cp M 1)) p)), some (.ref q2), some (.int (nI p)), some (.int (ansM (cp M 1) n p (m + 1))), some (.int (ldn (lwq M n p) (n - (m + 1)) (m + 1))), some (.int (nI m)), none, none] [.int v, .int (ansM (cp M 1) n p (m + 1))] := by
              intro v hv68
              refine v_ior hX 39 rfl ?_
              rw [hv68, ansM_s hn (by omega)]
              refine v_istore hX 40 rfl (Nat.le_of_ble_eq_true rfl) rfl ?_
              have j96 : ∀ (v : Int32), v = ldn (lwq M n p) (n - m) m → V Y X (pM M (sS M n p) (uS M n p)) 96 [some (.ref (Y.2.2.2.1 0)), some (.ref (Y.2.2.2.1 270)), some (.ref (Y.2.2.2.1 271)), some (.ref (Y.2.2.2.1 272)), some (.ref (Y.2.2.2.1 273)), some (.ref (Y.2.2.2.1 274)), some (.ref (Y.2.2.2.1 275)), some (.ref (Y.2.2.2.1 276)), some (.ref (Y.2.2.2.1 277)), some (.ref (Y.2.2.2.1 278)), some (.ref q1), some (.int (mk (pCl (cp M 1)) p)), some (.ref q2), some (.int (nI p)), some (.int (ansM (cp M 1) n p m)), none, some (.int (nI m)), none, none] [.int v] := by
                intro v hv96
                refine v_istore hX 53 rfl (Nat.le_of_ble_eq_true rfl) rfl ?_
                refine v_iinc hX 54 rfl rfl (nI_dm m) (Nat.le_of_ble_eq_true rfl) rfl ?_
                refine v_goto hX (tgt := 41) 55 rfl (by decide) ?_
                refine V.subM (iha m (by omega) (by omega) (by omega)) ?_ rfl ⟨rfl, rfl, rfl, rfl, rfl, rfl, rfl, rfl, rfl, rfl, rfl, rfl, rfl, rfl, (by first | rfl | (refine congrArg (fun z : Int32 => some (Value.int z)) ?_; first | rfl | exact hv96)), (by first | rfl | (refine congrArg (fun z : Int32 => some (Value.int z)) ?_; first | rfl | exact hv96)), (by first | rfl | (refine congrArg (fun z : Int32 => some (Value.int z)) ?_; first | rfl | exact hv96)), trivial⟩
                rfl
              refine v_aload hX 41 rfl rfl ?_
              refine v_iload hX 42 rfl rfl ?_
              refine v_ialg hX aC_274 (vp_in_nI (by omega) (by decide)) 43 rfl ?_
              rw [hA4 _ _ _ (by omega)]
              refine v_iload hX 44 rfl rfl ?_
              refine v_icmp_ne hX (tgt := 94) 45 rfl (by decide) (fun c78 => ?_) (fun c78 => ?_)
              · skip
                have q78 : ¬ cp M 1 m 3 = nI p := fun g => c78 ((toV_eq hw hn (by omega) (by omega)).mpr g)
                refine v_iload hX 52 rfl rfl ?_
                exact V.sub (j96 _ (by rw [ldn_s (q := lwq M n p) (show m < n by omega)]; exact (if_neg (fun g => by unfold lwq pTo at g; simp only [Bool.and_eq_true, beq_iff_eq] at g; exact q78 g.1)).symm)) rfl ⟨rfl, rfl, rfl, rfl, rfl, rfl, rfl, rfl, rfl, rfl, rfl, rfl, rfl, rfl, rfl, rfl, trivial⟩
              · skip
                have q78 : cp M 1 m 3 = nI p := (toV_eq hw hn (by omega) (by omega)).mp c78
                refine v_aload hX 46 rfl rfl ?_
                refine v_iload hX 47 rfl rfl ?_
                refine v_ialg hX aC_277 (vp_in_nI (by omega) (by decide)) 48 rfl ?_
                rw [hAw _ _ _ (by omega)]
                refine v_if_ne hX (tgt := 94) 49 rfl (by decide) (fun c86 => ?_) (fun c86 => ?_)
                · skip
                  refine v_iload hX 52 rfl rfl ?_
                  exact V.sub (j96 _ (by rw [ldn_s (q := lwq M n p) (show m < n by omega)]; exact (if_neg (fun g => by unfold lwq pTo at g; simp only [Bool.and_eq_true, beq_iff_eq] at g; exact c86 ((wv_0 (by omega)).mpr g.2))).symm)) rfl ⟨rfl, rfl, rfl, rfl, rfl, rfl, rfl, rfl, rfl, rfl, rfl, rfl, rfl, rfl, rfl, rfl, trivial⟩
                · skip
                  refine v_iload hX 50 rfl rfl ?_
                  refine v_goto hX (tgt := 96) 51 rfl (by decide) ?_
                  exact V.sub (j96 _ (by rw [ldn_s (q := lwq M n p) (show m < n by omega)]; exact (if_pos (by unfold lwq pTo; rw [q78, (wv_0 (by omega)).mp c86]; simp)).symm)) rfl ⟨rfl, rfl, rfl, rfl, rfl, rfl, rfl, rfl, rfl, rfl, rfl, rfl, rfl, rfl, rfl, rfl, trivial⟩
            refine v_iload hX 28 rfl rfl ?_
            refine v_aload hX 29 rfl rfl ?_
            refine v_iload hX 30 rfl rfl ?_
            refine v_ialg hX aC_274 (vp_in_nI (by omega) (by decide)) 31 rfl ?_
            rw [hA4 _ _ _ (by omega)]
            refine v_iload hX 32 rfl rfl ?_
            refine v_icmp_ne hX (tgt := 67) 33 rfl (by decide) (fun c57 => ?_) (fun c57 => ?_)
            · skip
              have q57 : ¬ cp M 1 m 3 = nI p := fun g => c57 ((toV_eq hw hn (by omega) (by omega)).mpr g)
              refine v_iconst hX (v := 0) 38 rfl (by decide) ?_
              exact V.sub (j68 _ (if_neg q57).symm) rfl ⟨rfl, rfl, rfl, rfl, rfl, rfl, rfl, rfl, rfl, rfl, rfl, rfl, rfl, rfl, rfl, rfl, rfl, trivial⟩
            · skip
              have q57 : cp M 1 m 3 = nI p := (toV_eq hw hn (by omega) (by omega)).mp c57
              refine v_iconst hX (v := 1) 34 rfl (by decide) ?_
              refine v_iload hX 35 rfl rfl ?_
              refine v_ishl hX 36 rfl ?_
              refine v_goto hX (tgt := 68) 37 rfl (by decide) ?_
              exact V.sub (j68 _ (if_pos q57).symm) rfl ⟨rfl, rfl, rfl, rfl, rfl, rfl, rfl, rfl, rfl, rfl, rfl, rfl, rfl, rfl, rfl, rfl, rfl, trivial⟩
      refine V.subM (la n (Nat.le_refl n) (by omega)) ?_ rfl ⟨rfl, rfl, rfl, rfl, rfl, rfl, rfl, rfl, rfl, rfl, rfl, rfl, rfl, rfl, (by first | rfl | (refine congrArg (fun z : Int32 => some (Value.int z)) ?_; first | exact ansM_n.symm | (rw [Nat.sub_self]; rfl))), (by first | rfl | (refine congrArg (fun z : Int32 => some (Value.int z)) ?_; first | exact ansM_n.symm | (rw [Nat.sub_self]; rfl))), (by first | rfl | (refine congrArg (fun z : Int32 => some (Value.int z)) ?_; first | exact ansM_n.symm | (rw [Nat.sub_self]; rfl))), trivial⟩
      rfl
  refine V.subM (lp 0 (Nat.zero_le _)) ?_ rfl ⟨rfl, rfl, rfl, rfl, rfl, rfl, rfl, rfl, rfl, rfl, rfl, (by first | rfl | (refine congrArg (fun z : Int32 => some (Value.int z)) ?_; rfl)), rfl, rfl, trivial⟩
  rw [sS_0, uS_0]
set_option maxRecDepth 100000 in
set_option maxHeartbeats 8000000 in
theorem l_points {Y : Yt} {M : Mm} (h0 : Y.2.2.2.2.2 = []) {n la dy : Nat} (hz : M.1 1 1 = nI n) (hn : n ≤ 24) (hw : WF (cp M 1) n) (hS : LSt M (cp M 1) n) (h9 : sm9 (cp M 1) n) (hsd : ∀ i t, i < n → t < i → cp M 1 i 3 = nI t → ¬ cp M 1 i 0 = cp M 1 t 0) (hT0 : M.1 278 0 = M.1 1 4) (hT1 : M.1 278 1 = M.1 1 5) (hT2 : M.1 278 2 = M.1 1 2) (hT3 : M.1 278 3 = nI n) (hT4 : M.1 278 4 = M.1 1 3) (hla : la ≤ 60) (hdy : dy ≤ 999) (h4 : M.1 1 4 = nI la) (h2 : M.1 1 2 = nI dy) (h5 : 0 ≤ M.1 1 5) (hW : ∀ i, i < n → M.1 277 i = wv M n i) : FnA Y yL_points wsL_points { frames := 6, cells := 2, slots := 8, locals := 132 } [.ref (Y.2.2.2.1 0), .ref (Y.2.2.2.1 270), .ref (Y.2.2.2.1 271), .ref (Y.2.2.2.1 272), .ref (Y.2.2.2.1 273), .ref (Y.2.2.2.1 274), .ref (Y.2.2.2.1 275), .ref (Y.2.2.2.1 276), .ref (Y.2.2.2.1 277), .ref (Y.2.2.2.1 278)] M (some (.int 1)) (fun M1 => M1 = M) 2 8 := by
  refine FnA.of (cc := cL_points) (ins := iL_points) (maxL := 19) (ret := (some .boolean)) (by decide) dL_points [some (.ref (Y.2.2.2.1 0)), some (.ref (Y.2.2.2.1 270)), some (.ref (Y.2.2.2.1 271)), some (.ref (Y.2.2.2.1 272)), some (.ref (Y.2.2.2.1 273)), some (.ref (Y.2.2.2.1 274)), some (.ref (Y.2.2.2.1 275)), some (.ref (Y.2.2.2.1 276)), some (.ref (Y.2.2.2.1 277)), some (.ref (Y.2.2.2.1 278)), none, none, none, none, none, none, none, none, none] (Nat.le_of_ble_eq_true rfl) rfl rfl ?_
  intro X hX hx0 hs0 hQ
  refine v_bipush hX (v := 6) 0 rfl (by decide) ?_
  refine v_newi hX (m0 := 6) (by decide) rfl (by decide) (by rw [hx0]; decide) (by rw [hs0]; decide) 1 rfl (fun q1 hX1 => ?_)
  refine v_astore hX1 2 rfl (Nat.le_of_ble_eq_true rfl) rfl ?_
  refine v_iconst hX1 (v := 0) 3 rfl (by decide) ?_
  refine v_istore hX1 4 rfl (Nat.le_of_ble_eq_true rfl) rfl ?_
  refine v_iconst hX1 (v := 2) 5 rfl (by decide) ?_
  refine v_newi hX1 (m0 := 2) (by decide) rfl (by decide) (by rw [xce_xc, hx0]; decide) (by rw [xsl_xc, hs0]; decide) 6 rfl (fun q2 hX2 => ?_)
  refine v_astore hX2 7 rfl (Nat.le_of_ble_eq_true rfl) rfl ?_
  have hsl : sl Y = 0 := by unfold sl; rw [h0]; rfl
  have hsl1 : sl (pY Y q1 6) = 1 := by unfold sl pY; rw [h0]; rfl
  have hC1 : aC (pY (pY Y q1 6) q2 2) 2 0 q1 6 := by have h := aC.new (Y := Y) (q := q1) (m := 6) (by decide); rw [hsl] at h; exact h.push
  have hC2 : aC (pY (pY Y q1 6) q2 2) 2 64 q2 2 := by have h := aC.new (Y := pY Y q1 6) (q := q2) (m := 2) (by decide); rw [hsl1] at h; exact h
  rw [hsl1, hsl]
  refine V.mem pM_00 ?_
  exact l_points_b hX2 hC1 hC2 hz hn hw hS h9 hsd hT0 hT1 hT2 hT3 hT4 hla hdy h4 h2 h5 hW (fun M1 L1 hE => v_ireA hX2 (t := [(q1, 6), (q2, 2)]) (by unfold pY; rw [h0]; rfl) h0 (vQA.xc (vQA.xc hQ)) (by rw [xce_xc, xce_xc, hx0]; decide) (by rw [xsl_xc, xsl_xc, hs0]; decide) rfl rfl rfl rfl hE 479 rfl)
