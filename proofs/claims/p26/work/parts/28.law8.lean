set_option maxRecDepth 100000 in
set_option maxHeartbeats 8000000 in
theorem l_law_wd1 {Y : Yt} {X : XT} {M : Mm} (hX : vOK Y X iL_law 22 "PointAnswersLaw" room_1 (some .boolean)) {b e n la dy : Nat} (hk : ∀ N n2 la2 dy2, LI N n2 la2 dy2 → V Y X N 948 [some (.ref b), some (.ref (Y.2.2.2.1 0)), some (.ref (Y.2.2.2.1 270)), some (.ref (Y.2.2.2.1 271)), some (.ref (Y.2.2.2.1 272)), some (.ref (Y.2.2.2.1 273)), some (.ref (Y.2.2.2.1 274)), some (.ref (Y.2.2.2.1 275)), some (.ref (Y.2.2.2.1 276)), some (.ref (Y.2.2.2.1 277)), some (.ref (Y.2.2.2.1 278)), some (.int (nI e)), none, none, none, none, some (.int 1), none, none, none, none, none] []) (hL : LI M n la dy) {v : Int32} {kd a : Nat} (ha : a < n) (hg : cp M 1 a 6 = 0) : V Y X M 433 [some (.ref b), some (.ref (Y.2.2.2.1 0)), some (.ref (Y.2.2.2.1 270)), some (.ref (Y.2.2.2.1 271)), some (.ref (Y.2.2.2.1 272)), some (.ref (Y.2.2.2.1 273)), some (.ref (Y.2.2.2.1 274)), some (.ref (Y.2.2.2.1 275)), some (.ref (Y.2.2.2.1 276)), some (.ref (Y.2.2.2.1 277)), some (.ref (Y.2.2.2.1 278)), some (.int (nI e)), some (.int v), some (.int (nI kd)), some (.int (nI n)), some (.int (nI a)), some (.int 1), none, none, none, none, none] [] := by
  have hn : n ≤ 24 := hL.1.2.1
  have hw := hL.1.2.2.1
  have hS := hL.2.2.1
  have h2 : M.1 1 2 = nI dy := hL.1.2.2.2.2.2.2.2.2.1
  have hdy : dy ≤ 999 := hL.1.2.2.2.2.2.2.2.2.2.1
  have hT2 : M.1 278 2 = nI dy := hL.2.2.2.2.2.2.1.trans h2
  have hT3 : M.1 278 3 = nI n := hL.2.2.2.2.2.2.2.1
  have hT4 : M.1 278 4 = M.1 1 3 := hL.2.2.2.2.2.2.2.2
  refine v_aload hX 231 rfl rfl ?_
  refine v_iload hX 232 rfl rfl ?_
  refine v_ialg hX aC_276 (vp_in_nI (by omega) (by decide)) 233 rfl ?_
  rw [show M.1 276 (0 + (nI a).toNatClampNeg) = cp M 1 a 6 from by rw [nI_clamp (n := a) (by omega), Nat.zero_add]; exact (hS a ha).2.2.2.2.2.2]
  refine v_if_ne hX (tgt := 445) 234 rfl (by decide) (fun c438 => absurd c438 (fun h => h hg)) (fun c438 => ?_)
  refine v_iconst hX (v := 1) 235 rfl (by decide) ?_
  refine v_goto hX (tgt := 446) 236 rfl (by decide) ?_
  refine v_istore hX 238 rfl (Nat.le_of_ble_eq_true rfl) rfl ?_
  refine v_aload hX 239 rfl rfl ?_
  refine v_iload hX 240 rfl rfl ?_
  refine v_iconst hX (v := 1) 241 rfl (by decide) ?_
  refine v_iasg hX aC_276 (vp_in_nI (by omega) (by decide)) 242 rfl ?_
  rw [nI_clamp (n := a) (by omega), Nat.zero_add]
  refine v_aload_n hX 2 243 rfl rfl rfl ?_
  refine v_aload_n hX 3 244 rfl rfl rfl ?_
  refine v_aload hX 245 rfl rfl ?_
  refine v_aload hX 246 rfl rfl ?_
  refine v_aload hX 247 rfl rfl ?_
  refine v_aload hX 248 rfl rfl ?_
  refine v_aload hX 249 rfl rfl ?_
  refine v_aload hX 250 rfl rfl ?_
  refine v_iconst hX (v := 0) 251 rfl (by decide) ?_
  obtain ⟨g, hg9, hF⟩ := rs_g (Y := Y) (A := mset M 276 a 1) (M' := mset M (1 + 2 + a) 6 1) (wd_A hL ha hg).1 (wd_A hL ha hg).2 (wd_T hL)
  refine v_callS hX 9 (hF) tw_360 tw_358 tw_359 tw_38 (by decide +kernel) ⟨⟨rfl, rfl⟩, Nat.le_of_ble_eq_true rfl, Nat.le_of_ble_eq_true rfl⟩ rfl (Nat.le_of_ble_eq_true rfl) rfl rfl 252 rfl ?_
  refine v_iconst hX (v := 0) 253 rfl (by decide) ?_
  refine v_istore hX 254 rfl (Nat.le_of_ble_eq_true rfl) rfl ?_
  refine v_iconst hX (v := 0) 255 rfl (by decide) ?_
  refine v_istore hX 256 rfl (Nat.le_of_ble_eq_true rfl) rfl ?_
  have lp : ∀ (i : Nat), i ≤ n → V Y X (mput (mset M 276 a 1) 277 0 24 g) 478 [some (.ref b), some (.ref (Y.2.2.2.1 0)), some (.ref (Y.2.2.2.1 270)), some (.ref (Y.2.2.2.1 271)), some (.ref (Y.2.2.2.1 272)), some (.ref (Y.2.2.2.1 273)), some (.ref (Y.2.2.2.1 274)), some (.ref (Y.2.2.2.1 275)), some (.ref (Y.2.2.2.1 276)), some (.ref (Y.2.2.2.1 277)), some (.ref (Y.2.2.2.1 278)), some (.int (nI e)), some (.int v), some (.int (nI kd)), some (.int (nI n)), some (.int (nI a)), some (.int 1), some (.int 1), some (.int (nI (cnt (bSd (mset M (1 + 2 + a) 6 1) 1 n) i))), some (.int (nI i)), none, none] [] := by
    refine upTo n (fun i hi0 ih => ?_)
    refine v_iload hX 257 rfl rfl ?_
    refine v_iload hX 258 rfl rfl ?_
    refine v_icmp_ge hX (tgt := 509) 259 rfl (by decide) (fun c482 => ?_) (fun c482 => ?_)
    · skip
      have hin : n = i := by have := of_le c482 (by omega) (by omega); omega
      subst hin
      refine v_aload_n hX 1 272 rfl rfl rfl ?_
      refine v_iload hX 273 rfl rfl ?_
      obtain ⟨N, hF2, hNL⟩ := c_wd (Y := Y) (g := g) hL ha hg
      refine v_callV hX 1 (by decide) rfl rfl (hF2) tw_279 tw_276 tw_277 tw_278 tw_39 (by decide +kernel) ⟨⟨rfl, rfl⟩, Nat.le_of_ble_eq_true rfl, Nat.le_of_ble_eq_true rfl⟩ rfl (Nat.le_of_ble_eq_true rfl) rfl rfl 274 rfl ?_
      refine v_iload hX 275 rfl rfl ?_
      refine v_if_eq hX (tgt := 525) 276 rfl (by decide) (fun c517 => absurd c517 (by decide)) (fun c517 => ?_)
      refine v_iload hX 277 rfl rfl ?_
      refine v_goto hX (tgt := 527) 278 rfl (by decide) ?_
      refine v_icmp_ne hX (tgt := 534) 280 rfl (by decide) (fun c527 => absurd c527 (fun h => h rfl)) (fun c527 => ?_)
      refine v_iconst hX (v := 1) 281 rfl (by decide) ?_
      refine v_goto hX (tgt := 535) 282 rfl (by decide) ?_
      refine v_istore hX 284 rfl (Nat.le_of_ble_eq_true rfl) rfl ?_
      refine v_goto hX (tgt := 948) 285 rfl (by decide) ?_
      exact V.sub (hk _ _ _ _ hNL) rfl ⟨rfl, rfl, rfl, rfl, rfl, rfl, rfl, rfl, rfl, rfl, rfl, rfl, rfl, trivial⟩
    · skip
      have hi : i < n := of_nle c482 (by omega) (by omega)
      refine v_iload hX 260 rfl rfl ?_
      refine v_aload hX 261 rfl rfl ?_
      refine v_iload hX 262 rfl rfl ?_
      have j500 : ∀ (x5 : Int32), nI (cnt (bSd (mset M (1 + 2 + a) 6 1) 1 n) i) + x5 = nI (cnt (bSd (mset M (1 + 2 + a) 6 1) 1 n) (i + 1)) → V Y X (mput (mset M 276 a 1) 277 0 24 g) 500 [some (.ref b), some (.ref (Y.2.2.2.1 0)), some (.ref (Y.2.2.2.1 270)), some (.ref (Y.2.2.2.1 271)), some (.ref (Y.2.2.2.1 272)), some (.ref (Y.2.2.2.1 273)), some (.ref (Y.2.2.2.1 274)), some (.ref (Y.2.2.2.1 275)), some (.ref (Y.2.2.2.1 276)), some (.ref (Y.2.2.2.1 277)), some (.ref (Y.2.2.2.1 278)), some (.int (nI e)), some (.int v), some (.int (nI kd)), some (.int (nI n)), some (.int (nI a)), some (.int 1), some (.int 1), none, some (.int (nI i)), none, none] [.int x5, .int (nI (cnt (bSd (mset M (1 + 2 + a) 6 1) 1 n) i))] := by
        intro x5 hx5
        refine v_iadd hX 268 rfl ?_
        rw [hx5]
        refine v_istore hX 269 rfl (Nat.le_of_ble_eq_true rfl) rfl ?_
        refine v_iinc hX 270 rfl rfl (nI_inc i) (Nat.le_of_ble_eq_true rfl) rfl ?_
        refine v_goto hX (tgt := 478) 271 rfl (by decide) ?_
        refine V.subM (ih hi) ?_ rfl ⟨rfl, rfl, rfl, rfl, rfl, rfl, rfl, rfl, rfl, rfl, rfl, rfl, rfl, rfl, rfl, rfl, rfl, rfl, (by first | rfl | (refine congrArg (fun z : Int32 => some (Value.int z)) ?_; rfl)), rfl, trivial⟩
        rfl
      refine v_ialg hX aC_277 (vp_in_nI (by omega) (by decide)) 263 rfl ?_
      rw [nI_clamp (n := i) (by omega), Nat.zero_add]
      refine v_if_ne hX (tgt := 499) 264 rfl (by decide) (fun c492 => ?_) (fun c492 => ?_)
      · skip
        refine v_iconst hX (v := 0) 267 rfl (by decide) ?_
        exact V.sub (j500 _ (by rw [cnt, if_neg (fun h => c492 ((c_ws (A := mset M 276 a 1) (M' := (mset M (1 + 2 + a) 6 1)) hn hg9 hi).mpr h))]; exact Int32.add_zero _)) rfl ⟨rfl, rfl, rfl, rfl, rfl, rfl, rfl, rfl, rfl, rfl, rfl, rfl, rfl, rfl, rfl, rfl, rfl, rfl, rfl, trivial⟩
      · skip
        refine v_iconst hX (v := 1) 265 rfl (by decide) ?_
        refine v_goto hX (tgt := 500) 266 rfl (by decide) ?_
        exact V.sub (j500 _ (by rw [cnt, if_pos ((c_ws (A := mset M 276 a 1) (M' := (mset M (1 + 2 + a) 6 1)) hn hg9 hi).mp c492)]; exact nI_add _ 1)) rfl ⟨rfl, rfl, rfl, rfl, rfl, rfl, rfl, rfl, rfl, rfl, rfl, rfl, rfl, rfl, rfl, rfl, rfl, rfl, rfl, trivial⟩
  refine V.subM (lp 0 (Nat.zero_le _)) ?_ rfl ⟨rfl, rfl, rfl, rfl, rfl, rfl, rfl, rfl, rfl, rfl, rfl, rfl, rfl, rfl, rfl, rfl, rfl, rfl, (by first | rfl | (refine congrArg (fun z : Int32 => some (Value.int z)) ?_; rfl)), rfl, trivial⟩
  rfl
set_option maxRecDepth 100000 in
set_option maxHeartbeats 8000000 in
theorem l_law_wd0 {Y : Yt} {X : XT} {M : Mm} (hX : vOK Y X iL_law 22 "PointAnswersLaw" room_1 (some .boolean)) {b e n la dy : Nat} (hk : ∀ N n2 la2 dy2, LI N n2 la2 dy2 → V Y X N 948 [some (.ref b), some (.ref (Y.2.2.2.1 0)), some (.ref (Y.2.2.2.1 270)), some (.ref (Y.2.2.2.1 271)), some (.ref (Y.2.2.2.1 272)), some (.ref (Y.2.2.2.1 273)), some (.ref (Y.2.2.2.1 274)), some (.ref (Y.2.2.2.1 275)), some (.ref (Y.2.2.2.1 276)), some (.ref (Y.2.2.2.1 277)), some (.ref (Y.2.2.2.1 278)), some (.int (nI e)), none, none, none, none, some (.int 1), none, none, none, none, none] []) (hL : LI M n la dy) {v : Int32} {kd a : Nat} (ha : a < n) (hg : ¬ cp M 1 a 6 = 0) : V Y X M 433 [some (.ref b), some (.ref (Y.2.2.2.1 0)), some (.ref (Y.2.2.2.1 270)), some (.ref (Y.2.2.2.1 271)), some (.ref (Y.2.2.2.1 272)), some (.ref (Y.2.2.2.1 273)), some (.ref (Y.2.2.2.1 274)), some (.ref (Y.2.2.2.1 275)), some (.ref (Y.2.2.2.1 276)), some (.ref (Y.2.2.2.1 277)), some (.ref (Y.2.2.2.1 278)), some (.int (nI e)), some (.int v), some (.int (nI kd)), some (.int (nI n)), some (.int (nI a)), some (.int 1), none, none, none, none, none] [] := by
  have hn : n ≤ 24 := hL.1.2.1
  have hw := hL.1.2.2.1
  have hS := hL.2.2.1
  have h2 : M.1 1 2 = nI dy := hL.1.2.2.2.2.2.2.2.2.1
  have hdy : dy ≤ 999 := hL.1.2.2.2.2.2.2.2.2.2.1
  have hT2 : M.1 278 2 = nI dy := hL.2.2.2.2.2.2.1.trans h2
  have hT3 : M.1 278 3 = nI n := hL.2.2.2.2.2.2.2.1
  have hT4 : M.1 278 4 = M.1 1 3 := hL.2.2.2.2.2.2.2.2
  refine v_aload hX 231 rfl rfl ?_
  refine v_iload hX 232 rfl rfl ?_
  refine v_ialg hX aC_276 (vp_in_nI (by omega) (by decide)) 233 rfl ?_
  rw [show M.1 276 (0 + (nI a).toNatClampNeg) = cp M 1 a 6 from by rw [nI_clamp (n := a) (by omega), Nat.zero_add]; exact (hS a ha).2.2.2.2.2.2]
  refine v_if_ne hX (tgt := 445) 234 rfl (by decide) (fun c438 => ?_) (fun c438 => absurd c438 hg)
  refine v_iconst hX (v := 0) 237 rfl (by decide) ?_
  refine v_istore hX 238 rfl (Nat.le_of_ble_eq_true rfl) rfl ?_
  refine v_aload hX 239 rfl rfl ?_
  refine v_iload hX 240 rfl rfl ?_
  refine v_iconst hX (v := 1) 241 rfl (by decide) ?_
  refine v_iasg hX aC_276 (vp_in_nI (by omega) (by decide)) 242 rfl ?_
  rw [nI_clamp (n := a) (by omega), Nat.zero_add]
  rw [wd_no hL ha hg]
  refine v_aload_n hX 2 243 rfl rfl rfl ?_
  refine v_aload_n hX 3 244 rfl rfl rfl ?_
  refine v_aload hX 245 rfl rfl ?_
  refine v_aload hX 246 rfl rfl ?_
  refine v_aload hX 247 rfl rfl ?_
  refine v_aload hX 248 rfl rfl ?_
  refine v_aload hX 249 rfl rfl ?_
  refine v_aload hX 250 rfl rfl ?_
  refine v_iconst hX (v := 0) 251 rfl (by decide) ?_
  obtain ⟨g, hg9, hF⟩ := rs_g (Y := Y) (A := M) (M' := M) hL.1 hL.2.2.1 hL.2.2.2.2
  refine v_callS hX 9 (hF) tw_360 tw_358 tw_359 tw_38 (by decide +kernel) ⟨⟨rfl, rfl⟩, Nat.le_of_ble_eq_true rfl, Nat.le_of_ble_eq_true rfl⟩ rfl (Nat.le_of_ble_eq_true rfl) rfl rfl 252 rfl ?_
  refine v_iconst hX (v := 0) 253 rfl (by decide) ?_
  refine v_istore hX 254 rfl (Nat.le_of_ble_eq_true rfl) rfl ?_
  refine v_iconst hX (v := 0) 255 rfl (by decide) ?_
  refine v_istore hX 256 rfl (Nat.le_of_ble_eq_true rfl) rfl ?_
  have lp : ∀ (i : Nat), i ≤ n → V Y X (mput M 277 0 24 g) 478 [some (.ref b), some (.ref (Y.2.2.2.1 0)), some (.ref (Y.2.2.2.1 270)), some (.ref (Y.2.2.2.1 271)), some (.ref (Y.2.2.2.1 272)), some (.ref (Y.2.2.2.1 273)), some (.ref (Y.2.2.2.1 274)), some (.ref (Y.2.2.2.1 275)), some (.ref (Y.2.2.2.1 276)), some (.ref (Y.2.2.2.1 277)), some (.ref (Y.2.2.2.1 278)), some (.int (nI e)), some (.int v), some (.int (nI kd)), some (.int (nI n)), some (.int (nI a)), some (.int 1), some (.int 0), some (.int (nI (cnt (bSd M 1 n) i))), some (.int (nI i)), none, none] [] := by
    refine upTo n (fun i hi0 ih => ?_)
    refine v_iload hX 257 rfl rfl ?_
    refine v_iload hX 258 rfl rfl ?_
    refine v_icmp_ge hX (tgt := 509) 259 rfl (by decide) (fun c482 => ?_) (fun c482 => ?_)
    · skip
      have hin : n = i := by have := of_le c482 (by omega) (by omega); omega
      subst hin
      refine v_aload_n hX 1 272 rfl rfl rfl ?_
      refine v_iload hX 273 rfl rfl ?_
      obtain ⟨N, hF2, hNL⟩ := c_wd_no (Y := Y) (g := g) hL ha hg
      refine v_callV hX 1 (by decide) rfl rfl (hF2) tw_279 tw_276 tw_277 tw_278 tw_39 (by decide +kernel) ⟨⟨rfl, rfl⟩, Nat.le_of_ble_eq_true rfl, Nat.le_of_ble_eq_true rfl⟩ rfl (Nat.le_of_ble_eq_true rfl) rfl rfl 274 rfl ?_
      refine v_iload hX 275 rfl rfl ?_
      refine v_if_eq hX (tgt := 525) 276 rfl (by decide) (fun c517 => ?_) (fun c517 => absurd rfl c517)
      refine v_bipush hX (v := (-5)) 279 rfl (by decide) ?_
      refine v_icmp_ne hX (tgt := 534) 280 rfl (by decide) (fun c527 => absurd c527 (fun h => h rfl)) (fun c527 => ?_)
      refine v_iconst hX (v := 1) 281 rfl (by decide) ?_
      refine v_goto hX (tgt := 535) 282 rfl (by decide) ?_
      refine v_istore hX 284 rfl (Nat.le_of_ble_eq_true rfl) rfl ?_
      refine v_goto hX (tgt := 948) 285 rfl (by decide) ?_
      exact V.sub (hk _ _ _ _ hNL) rfl ⟨rfl, rfl, rfl, rfl, rfl, rfl, rfl, rfl, rfl, rfl, rfl, rfl, rfl, trivial⟩
    · skip
      have hi : i < n := of_nle c482 (by omega) (by omega)
      refine v_iload hX 260 rfl rfl ?_
      refine v_aload hX 261 rfl rfl ?_
      refine v_iload hX 262 rfl rfl ?_
      have j500 : ∀ (x5 : Int32), nI (cnt (bSd M 1 n) i) + x5 = nI (cnt (bSd M 1 n) (i + 1)) → V Y X (mput M 277 0 24 g) 500 [some (.ref b), some (.ref (Y.2.2.2.1 0)), some (.ref (Y.2.2.2.1 270)), some (.ref (Y.2.2.2.1 271)), some (.ref (Y.2.2.2.1 272)), some (.ref (Y.2.2.2.1 273)), some (.ref (Y.2.2.2.1 274)), some (.ref (Y.2.2.2.1 275)), some (.ref (Y.2.2.2.1 276)), some (.ref (Y.2.2.2.1 277)), some (.ref (Y.2.2.2.1 278)), some (.int (nI e)), some (.int v), some (.int (nI kd)), some (.int (nI n)), some (.int (nI a)), some (.int 1), some (.int 0), none, some (.int (nI i)), none, none] [.int x5, .int (nI (cnt (bSd M 1 n) i))] := by
        intro x5 hx5
        refine v_iadd hX 268 rfl ?_
        rw [hx5]
        refine v_istore hX 269 rfl (Nat.le_of_ble_eq_true rfl) rfl ?_
        refine v_iinc hX 270 rfl rfl (nI_inc i) (Nat.le_of_ble_eq_true rfl) rfl ?_
        refine v_goto hX (tgt := 478) 271 rfl (by decide) ?_
        refine V.subM (ih hi) ?_ rfl ⟨rfl, rfl, rfl, rfl, rfl, rfl, rfl, rfl, rfl, rfl, rfl, rfl, rfl, rfl, rfl, rfl, rfl, rfl, (by first | rfl | (refine congrArg (fun z : Int32 => some (Value.int z)) ?_; rfl)), rfl, trivial⟩
        rfl
      refine v_ialg hX aC_277 (vp_in_nI (by omega) (by decide)) 263 rfl ?_
      rw [nI_clamp (n := i) (by omega), Nat.zero_add]
      refine v_if_ne hX (tgt := 499) 264 rfl (by decide) (fun c492 => ?_) (fun c492 => ?_)
      · skip
        refine v_iconst hX (v := 0) 267 rfl (by decide) ?_
        exact V.sub (j500 _ (by rw [cnt, if_neg (fun h => c492 ((c_ws (A := M) (M' := M) hn hg9 hi).mpr h))]; exact Int32.add_zero _)) rfl ⟨rfl, rfl, rfl, rfl, rfl, rfl, rfl, rfl, rfl, rfl, rfl, rfl, rfl, rfl, rfl, rfl, rfl, rfl, rfl, trivial⟩
      · skip
        refine v_iconst hX (v := 1) 265 rfl (by decide) ?_
        refine v_goto hX (tgt := 500) 266 rfl (by decide) ?_
        exact V.sub (j500 _ (by rw [cnt, if_pos ((c_ws (A := M) (M' := M) hn hg9 hi).mp c492)]; exact nI_add _ 1)) rfl ⟨rfl, rfl, rfl, rfl, rfl, rfl, rfl, rfl, rfl, rfl, rfl, rfl, rfl, rfl, rfl, rfl, rfl, rfl, rfl, trivial⟩
  refine V.subM (lp 0 (Nat.zero_le _)) ?_ rfl ⟨rfl, rfl, rfl, rfl, rfl, rfl, rfl, rfl, rfl, rfl, rfl, rfl, rfl, rfl, rfl, rfl, rfl, rfl, (by first | rfl | (refine congrArg (fun z : Int32 => some (Value.int z)) ?_; rfl)), rfl, trivial⟩
  rfl
set_option maxRecDepth 100000 in
set_option maxHeartbeats 8000000 in
theorem l_law_wd {Y : Yt} {X : XT} {M : Mm} (hX : vOK Y X iL_law 22 "PointAnswersLaw" room_1 (some .boolean)) {b e n la dy : Nat} (hk : ∀ N n2 la2 dy2, LI N n2 la2 dy2 → V Y X N 948 [some (.ref b), some (.ref (Y.2.2.2.1 0)), some (.ref (Y.2.2.2.1 270)), some (.ref (Y.2.2.2.1 271)), some (.ref (Y.2.2.2.1 272)), some (.ref (Y.2.2.2.1 273)), some (.ref (Y.2.2.2.1 274)), some (.ref (Y.2.2.2.1 275)), some (.ref (Y.2.2.2.1 276)), some (.ref (Y.2.2.2.1 277)), some (.ref (Y.2.2.2.1 278)), some (.int (nI e)), none, none, none, none, some (.int 1), none, none, none, none, none] []) (hL : LI M n la dy) {v : Int32} {kd a : Nat} (ha : a < n) (hk5 : V Y X M 540 [some (.ref b), some (.ref (Y.2.2.2.1 0)), some (.ref (Y.2.2.2.1 270)), some (.ref (Y.2.2.2.1 271)), some (.ref (Y.2.2.2.1 272)), some (.ref (Y.2.2.2.1 273)), some (.ref (Y.2.2.2.1 274)), some (.ref (Y.2.2.2.1 275)), some (.ref (Y.2.2.2.1 276)), some (.ref (Y.2.2.2.1 277)), some (.ref (Y.2.2.2.1 278)), some (.int (nI e)), some (.int v), some (.int (nI kd)), some (.int (nI n)), some (.int (nI a)), some (.int 1), none, none, none, none, none] []) : V Y X M 421 [some (.ref b), some (.ref (Y.2.2.2.1 0)), some (.ref (Y.2.2.2.1 270)), some (.ref (Y.2.2.2.1 271)), some (.ref (Y.2.2.2.1 272)), some (.ref (Y.2.2.2.1 273)), some (.ref (Y.2.2.2.1 274)), some (.ref (Y.2.2.2.1 275)), some (.ref (Y.2.2.2.1 276)), some (.ref (Y.2.2.2.1 277)), some (.ref (Y.2.2.2.1 278)), some (.int (nI e)), some (.int v), some (.int (nI kd)), some (.int (nI n)), some (.int (nI a)), some (.int 1), none, none, none, none, none] [] := by
  have hn : n ≤ 24 := hL.1.2.1
  have hw := hL.1.2.2.1
  have hS := hL.2.2.1
  have h2 : M.1 1 2 = nI dy := hL.1.2.2.2.2.2.2.2.2.1
  have hdy : dy ≤ 999 := hL.1.2.2.2.2.2.2.2.2.2.1
  have hT2 : M.1 278 2 = nI dy := hL.2.2.2.2.2.2.1.trans h2
  have hT3 : M.1 278 3 = nI n := hL.2.2.2.2.2.2.2.1
  have hT4 : M.1 278 4 = M.1 1 3 := hL.2.2.2.2.2.2.2.2
  refine v_iload hX 225 rfl rfl ?_
  refine v_bipush hX (v := 9) 226 rfl (by decide) ?_
  refine v_ishr hX 227 rfl ?_
  refine v_iconst hX (v := 2) 228 rfl (by decide) ?_
  refine v_callS hX 2 (l_low (n := 2) (by decide) (by decide)) tw_356 tw_354 tw_355 tw_38 (by decide +kernel) ⟨⟨rfl, rfl⟩, Nat.le_of_ble_eq_true rfl, Nat.le_of_ble_eq_true rfl⟩ rfl (Nat.le_of_ble_eq_true rfl) rfl rfl 229 rfl ?_
  refine v_if_ne hX (tgt := 540) 230 rfl (by decide) (fun c430 => ?_) (fun c430 => ?_)
  · skip
    exact V.sub hk5 rfl ⟨rfl, rfl, rfl, rfl, rfl, rfl, rfl, rfl, rfl, rfl, rfl, rfl, rfl, rfl, rfl, rfl, rfl, trivial⟩
  · skip
    by_cases hg : cp M 1 a 6 = 0
    · exact V.sub (l_law_wd1 hX hk hL ha hg) rfl ⟨rfl, rfl, rfl, rfl, rfl, rfl, rfl, rfl, rfl, rfl, rfl, rfl, rfl, rfl, rfl, rfl, rfl, trivial⟩
    · exact V.sub (l_law_wd0 hX hk hL ha hg) rfl ⟨rfl, rfl, rfl, rfl, rfl, rfl, rfl, rfl, rfl, rfl, rfl, rfl, rfl, rfl, rfl, rfl, rfl, trivial⟩
set_option maxRecDepth 100000 in
set_option maxHeartbeats 8000000 in
theorem l_law_rn1 {Y : Yt} {X : XT} {M : Mm} (hX : vOK Y X iL_law 22 "PointAnswersLaw" room_1 (some .boolean)) {b e n la dy : Nat} (hk : ∀ N n2 la2 dy2, LI N n2 la2 dy2 → V Y X N 948 [some (.ref b), some (.ref (Y.2.2.2.1 0)), some (.ref (Y.2.2.2.1 270)), some (.ref (Y.2.2.2.1 271)), some (.ref (Y.2.2.2.1 272)), some (.ref (Y.2.2.2.1 273)), some (.ref (Y.2.2.2.1 274)), some (.ref (Y.2.2.2.1 275)), some (.ref (Y.2.2.2.1 276)), some (.ref (Y.2.2.2.1 277)), some (.ref (Y.2.2.2.1 278)), some (.int (nI e)), none, none, none, none, some (.int 1), none, none, none, none, none] []) (hL : LI M n la dy) {v : Int32} {kd a : Nat} (ha : a < n) (hg : ¬ (cp M 1 a 3 = -6 ∨ ¬ cp M 1 a 6 = 0)) : V Y X M 552 [some (.ref b), some (.ref (Y.2.2.2.1 0)), some (.ref (Y.2.2.2.1 270)), some (.ref (Y.2.2.2.1 271)), some (.ref (Y.2.2.2.1 272)), some (.ref (Y.2.2.2.1 273)), some (.ref (Y.2.2.2.1 274)), some (.ref (Y.2.2.2.1 275)), some (.ref (Y.2.2.2.1 276)), some (.ref (Y.2.2.2.1 277)), some (.ref (Y.2.2.2.1 278)), some (.int (nI e)), some (.int v), some (.int (nI kd)), some (.int (nI n)), some (.int (nI a)), some (.int 1), none, none, none, none, none] [] := by
  have hn : n ≤ 24 := hL.1.2.1
  have hw := hL.1.2.2.1
  have hS := hL.2.2.1
  have h2 : M.1 1 2 = nI dy := hL.1.2.2.2.2.2.2.2.2.1
  have hdy : dy ≤ 999 := hL.1.2.2.2.2.2.2.2.2.2.1
  have hT2 : M.1 278 2 = nI dy := hL.2.2.2.2.2.2.1.trans h2
  have hT3 : M.1 278 3 = nI n := hL.2.2.2.2.2.2.2.1
  have hT4 : M.1 278 4 = M.1 1 3 := hL.2.2.2.2.2.2.2.2
  refine v_aload hX 291 rfl rfl ?_
  refine v_iload hX 292 rfl rfl ?_
  refine v_ialg hX aC_274 (vp_in_nI (by omega) (by decide)) 293 rfl ?_
  rw [show M.1 274 (0 + (nI a).toNatClampNeg) = toV (cp M 1) a from by rw [nI_clamp (n := a) (by omega), Nat.zero_add]; exact (hS a ha).2.2.2.2.1]
  refine v_if_lt hX (tgt := 572) 294 rfl (by decide) (fun c557 => absurd c557 (fun h => hg (Or.inl ((toV_lt hw hn ha).mp h)))) (fun c557 => ?_)
  refine v_aload hX 295 rfl rfl ?_
  refine v_iload hX 296 rfl rfl ?_
  refine v_ialg hX aC_276 (vp_in_nI (by omega) (by decide)) 297 rfl ?_
  rw [show M.1 276 (0 + (nI a).toNatClampNeg) = cp M 1 a 6 from by rw [nI_clamp (n := a) (by omega), Nat.zero_add]; exact (hS a ha).2.2.2.2.2.2]
  refine v_if_ne hX (tgt := 572) 298 rfl (by decide) (fun c565 => absurd c565 (fun h => hg (Or.inr h))) (fun c565 => ?_)
  refine v_iconst hX (v := 1) 299 rfl (by decide) ?_
  refine v_goto hX (tgt := 573) 300 rfl (by decide) ?_
  refine v_istore hX 302 rfl (Nat.le_of_ble_eq_true rfl) rfl ?_
  refine v_aload_n hX 1 303 rfl rfl rfl ?_
  refine v_iload hX 304 rfl rfl ?_
  obtain ⟨N, hF, hNr, hNL⟩ := c_rn (Y := Y) hL ha hg
  refine v_callV hX 1 (by decide) rfl rfl (hF) tw_328 tw_325 tw_326 tw_327 tw_39 (by decide +kernel) ⟨⟨rfl, rfl⟩, Nat.le_of_ble_eq_true rfl, Nat.le_of_ble_eq_true rfl⟩ rfl (Nat.le_of_ble_eq_true rfl) rfl rfl 305 rfl ?_
  refine v_iload hX 306 rfl rfl ?_
  refine v_if_eq hX (tgt := 599) 307 rfl (by decide) (fun c583 => absurd c583 (by decide)) (fun c583 => ?_)
  refine v_aload hX 308 rfl rfl ?_
  refine v_iconst hX (v := 2) 309 rfl (by decide) ?_
  refine v_ialg hX aC_278 (vp_in_nI (n := 2) (by decide) (by decide)) 310 rfl ?_
  rw [show N.1 278 (0 + Int32.toNatClampNeg 2) = nI dy from (congrFun (hNr 278 (by decide)) 2).trans hT2]
  refine v_aload hX 311 rfl rfl ?_
  refine v_iload hX 312 rfl rfl ?_
  refine v_ialg hX aC_273 (vp_in_nI (by omega) (by decide)) 313 rfl ?_
  rw [show N.1 273 (0 + (nI a).toNatClampNeg) = cp M 1 a 5 from by rw [nI_clamp (n := a) (by omega), Nat.zero_add, hNr 273 (by decide)]; exact (hS a ha).2.2.2.1]
  refine v_isub hX 314 rfl ?_
  refine v_goto hX (tgt := 601) 315 rfl (by decide) ?_
  refine v_icmp_ne hX (tgt := 608) 317 rfl (by decide) (fun c601 => absurd c601 (fun h => h rfl)) (fun c601 => ?_)
  refine v_iconst hX (v := 1) 318 rfl (by decide) ?_
  refine v_goto hX (tgt := 609) 319 rfl (by decide) ?_
  refine v_istore hX 321 rfl (Nat.le_of_ble_eq_true rfl) rfl ?_
  refine v_aload hX 322 rfl rfl ?_
  refine v_iload hX 323 rfl rfl ?_
  refine v_iload hX 324 rfl rfl ?_
  refine v_if_eq hX (tgt := 627) 325 rfl (by decide) (fun c617 => absurd c617 (by decide)) (fun c617 => ?_)
  refine v_aload hX 326 rfl rfl ?_
  refine v_iconst hX (v := 2) 327 rfl (by decide) ?_
  refine v_ialg hX aC_278 (vp_in_nI (n := 2) (by decide) (by decide)) 328 rfl ?_
  rw [show N.1 278 (0 + Int32.toNatClampNeg 2) = nI dy from (congrFun (hNr 278 (by decide)) 2).trans hT2]
  refine v_goto hX (tgt := 632) 329 rfl (by decide) ?_
  refine v_iasg hX aC_273 (vp_in_nI (by omega) (by decide)) 333 rfl ?_
  rw [nI_clamp (n := a) (by omega), Nat.zero_add]
  refine v_goto hX (tgt := 948) 334 rfl (by decide) ?_
  exact V.sub (hk _ _ _ _ hNL) rfl ⟨rfl, rfl, rfl, rfl, rfl, rfl, rfl, rfl, rfl, rfl, rfl, rfl, rfl, trivial⟩
set_option maxRecDepth 100000 in
set_option maxHeartbeats 8000000 in
theorem l_law_rn0 {Y : Yt} {X : XT} {M : Mm} (hX : vOK Y X iL_law 22 "PointAnswersLaw" room_1 (some .boolean)) {b e n la dy : Nat} (hk : ∀ N n2 la2 dy2, LI N n2 la2 dy2 → V Y X N 948 [some (.ref b), some (.ref (Y.2.2.2.1 0)), some (.ref (Y.2.2.2.1 270)), some (.ref (Y.2.2.2.1 271)), some (.ref (Y.2.2.2.1 272)), some (.ref (Y.2.2.2.1 273)), some (.ref (Y.2.2.2.1 274)), some (.ref (Y.2.2.2.1 275)), some (.ref (Y.2.2.2.1 276)), some (.ref (Y.2.2.2.1 277)), some (.ref (Y.2.2.2.1 278)), some (.int (nI e)), none, none, none, none, some (.int 1), none, none, none, none, none] []) (hL : LI M n la dy) {v : Int32} {kd a : Nat} (ha : a < n) (hg : cp M 1 a 3 = -6 ∨ ¬ cp M 1 a 6 = 0) : V Y X M 552 [some (.ref b), some (.ref (Y.2.2.2.1 0)), some (.ref (Y.2.2.2.1 270)), some (.ref (Y.2.2.2.1 271)), some (.ref (Y.2.2.2.1 272)), some (.ref (Y.2.2.2.1 273)), some (.ref (Y.2.2.2.1 274)), some (.ref (Y.2.2.2.1 275)), some (.ref (Y.2.2.2.1 276)), some (.ref (Y.2.2.2.1 277)), some (.ref (Y.2.2.2.1 278)), some (.int (nI e)), some (.int v), some (.int (nI kd)), some (.int (nI n)), some (.int (nI a)), some (.int 1), none, none, none, none, none] [] := by
  have hn : n ≤ 24 := hL.1.2.1
  have hw := hL.1.2.2.1
  have hS := hL.2.2.1
  have h2 : M.1 1 2 = nI dy := hL.1.2.2.2.2.2.2.2.2.1
  have hdy : dy ≤ 999 := hL.1.2.2.2.2.2.2.2.2.2.1
  have hT2 : M.1 278 2 = nI dy := hL.2.2.2.2.2.2.1.trans h2
  have hT3 : M.1 278 3 = nI n := hL.2.2.2.2.2.2.2.1
  have hT4 : M.1 278 4 = M.1 1 3 := hL.2.2.2.2.2.2.2.2
  have j572 : V Y X M 572 [some (.ref b), some (.ref (Y.2.2.2.1 0)), some (.ref (Y.2.2.2.1 270)), some (.ref (Y.2.2.2.1 271)), some (.ref (Y.2.2.2.1 272)), some (.ref (Y.2.2.2.1 273)), some (.ref (Y.2.2.2.1 274)), some (.ref (Y.2.2.2.1 275)), some (.ref (Y.2.2.2.1 276)), some (.ref (Y.2.2.2.1 277)), some (.ref (Y.2.2.2.1 278)), some (.int (nI e)), some (.int v), some (.int (nI kd)), some (.int (nI n)), some (.int (nI a)), some (.int 1), none, none, none, none, none] [] := by
    skip
    refine v_iconst hX (v := 0) 301 rfl (by decide) ?_
    refine v_istore hX 302 rfl (Nat.le_of_ble_eq_true rfl) rfl ?_
    refine v_aload_n hX 1 303 rfl rfl rfl ?_
    refine v_iload hX 304 rfl rfl ?_
    obtain ⟨N, hF, hNr, hNL⟩ := c_rn_no (Y := Y) hL ha hg
    refine v_callV hX 1 (by decide) rfl rfl (hF) tw_328 tw_325 tw_326 tw_327 tw_39 (by decide +kernel) ⟨⟨rfl, rfl⟩, Nat.le_of_ble_eq_true rfl, Nat.le_of_ble_eq_true rfl⟩ rfl (Nat.le_of_ble_eq_true rfl) rfl rfl 305 rfl ?_
    refine v_iload hX 306 rfl rfl ?_
    refine v_if_eq hX (tgt := 599) 307 rfl (by decide) (fun c583 => ?_) (fun c583 => absurd rfl c583)
    refine v_bipush hX (v := (-5)) 316 rfl (by decide) ?_
    refine v_icmp_ne hX (tgt := 608) 317 rfl (by decide) (fun c601 => absurd c601 (fun h => h rfl)) (fun c601 => ?_)
    refine v_iconst hX (v := 1) 318 rfl (by decide) ?_
    refine v_goto hX (tgt := 609) 319 rfl (by decide) ?_
    refine v_istore hX 321 rfl (Nat.le_of_ble_eq_true rfl) rfl ?_
    refine v_aload hX 322 rfl rfl ?_
    refine v_iload hX 323 rfl rfl ?_
    refine v_iload hX 324 rfl rfl ?_
    refine v_if_eq hX (tgt := 627) 325 rfl (by decide) (fun c617 => ?_) (fun c617 => absurd rfl c617)
    refine v_aload hX 330 rfl rfl ?_
    refine v_iload hX 331 rfl rfl ?_
    refine v_ialg hX aC_273 (vp_in_nI (by omega) (by decide)) 332 rfl ?_
    rw [show N.1 273 (0 + (nI a).toNatClampNeg) = cp M 1 a 5 from by rw [nI_clamp (n := a) (by omega), Nat.zero_add, hNr 273 (by decide)]; exact (hS a ha).2.2.2.1]
    refine v_iasg hX aC_273 (vp_in_nI (by omega) (by decide)) 333 rfl ?_
    rw [nI_clamp (n := a) (by omega), Nat.zero_add]
    refine v_goto hX (tgt := 948) 334 rfl (by decide) ?_
    exact V.sub (hk _ _ _ _ hNL) rfl ⟨rfl, rfl, rfl, rfl, rfl, rfl, rfl, rfl, rfl, rfl, rfl, rfl, rfl, trivial⟩
  refine v_aload hX 291 rfl rfl ?_
  refine v_iload hX 292 rfl rfl ?_
  refine v_ialg hX aC_274 (vp_in_nI (by omega) (by decide)) 293 rfl ?_
  rw [show M.1 274 (0 + (nI a).toNatClampNeg) = toV (cp M 1) a from by rw [nI_clamp (n := a) (by omega), Nat.zero_add]; exact (hS a ha).2.2.2.2.1]
  refine v_if_lt hX (tgt := 572) 294 rfl (by decide) (fun c557 => ?_) (fun c557 => ?_)
  · skip
    exact V.sub (j572) rfl ⟨rfl, rfl, rfl, rfl, rfl, rfl, rfl, rfl, rfl, rfl, rfl, rfl, rfl, rfl, rfl, rfl, rfl, trivial⟩
  · skip
    refine v_aload hX 295 rfl rfl ?_
    refine v_iload hX 296 rfl rfl ?_
    refine v_ialg hX aC_276 (vp_in_nI (by omega) (by decide)) 297 rfl ?_
    rw [show M.1 276 (0 + (nI a).toNatClampNeg) = cp M 1 a 6 from by rw [nI_clamp (n := a) (by omega), Nat.zero_add]; exact (hS a ha).2.2.2.2.2.2]
    refine v_if_ne hX (tgt := 572) 298 rfl (by decide) (fun c565 => ?_) (fun c565 => absurd c565 (fun h => hg.elim (fun q => c557 ((toV_lt hw hn ha).mpr q)) (fun q => q h)))
    exact V.sub (j572) rfl ⟨rfl, rfl, rfl, rfl, rfl, rfl, rfl, rfl, rfl, rfl, rfl, rfl, rfl, rfl, rfl, rfl, rfl, trivial⟩
set_option maxRecDepth 100000 in
set_option maxHeartbeats 8000000 in
theorem l_law_ov {Y : Yt} {X : XT} {M : Mm} (hX : vOK Y X iL_law 22 "PointAnswersLaw" room_1 (some .boolean)) {b e n la dy : Nat} (hk : ∀ N n2 la2 dy2, LI N n2 la2 dy2 → V Y X N 948 [some (.ref b), some (.ref (Y.2.2.2.1 0)), some (.ref (Y.2.2.2.1 270)), some (.ref (Y.2.2.2.1 271)), some (.ref (Y.2.2.2.1 272)), some (.ref (Y.2.2.2.1 273)), some (.ref (Y.2.2.2.1 274)), some (.ref (Y.2.2.2.1 275)), some (.ref (Y.2.2.2.1 276)), some (.ref (Y.2.2.2.1 277)), some (.ref (Y.2.2.2.1 278)), some (.int (nI e)), none, none, none, none, some (.int 1), none, none, none, none, none] []) (hL : LI M n la dy) {v : Int32} : V Y X M 643 [some (.ref b), some (.ref (Y.2.2.2.1 0)), some (.ref (Y.2.2.2.1 270)), some (.ref (Y.2.2.2.1 271)), some (.ref (Y.2.2.2.1 272)), some (.ref (Y.2.2.2.1 273)), some (.ref (Y.2.2.2.1 274)), some (.ref (Y.2.2.2.1 275)), some (.ref (Y.2.2.2.1 276)), some (.ref (Y.2.2.2.1 277)), some (.ref (Y.2.2.2.1 278)), some (.int (nI e)), some (.int v), none, some (.int (nI n)), none, some (.int 1), none, none, none, none, none] [] := by
  have hn : n ≤ 24 := hL.1.2.1
  have hw := hL.1.2.2.1
  have hS := hL.2.2.1
  have h2 : M.1 1 2 = nI dy := hL.1.2.2.2.2.2.2.2.2.1
  have hdy : dy ≤ 999 := hL.1.2.2.2.2.2.2.2.2.2.1
  have hT2 : M.1 278 2 = nI dy := hL.2.2.2.2.2.2.1.trans h2
  have hT3 : M.1 278 3 = nI n := hL.2.2.2.2.2.2.2.1
  have hT4 : M.1 278 4 = M.1 1 3 := hL.2.2.2.2.2.2.2.2
  refine v_iload hX 338 rfl rfl ?_
  refine v_bipush hX (v := 9) 339 rfl (by decide) ?_
  refine v_ishr hX 340 rfl ?_
  obtain ⟨v9, hv9⟩ : ∃ z9, z9 = v >>> ((9 : Int32) &&& 31) := ⟨_, rfl⟩
  rw [← hv9]
  refine v_bipush hX (v := 10) 341 rfl (by decide) ?_
  refine v_callS hX 2 (l_low (n := 10) (by decide) (by decide)) tw_356 tw_354 tw_355 tw_38 (by decide +kernel) ⟨⟨rfl, rfl⟩, Nat.le_of_ble_eq_true rfl, Nat.le_of_ble_eq_true rfl⟩ rfl (Nat.le_of_ble_eq_true rfl) rfl rfl 342 rfl ?_
  obtain ⟨w, hw10, hwe⟩ : ∃ z9, z9 < 10 ∧ lo0 v9 10 = z9 := ⟨_, lo0_lt (by decide), rfl⟩
  rw [hwe]
  refine v_istore hX 343 rfl (Nat.le_of_ble_eq_true rfl) rfl ?_
  refine v_aload hX 344 rfl rfl ?_
  refine v_iconst hX (v := 4) 345 rfl (by decide) ?_
  refine v_dup2 hX 346 rfl rfl rfl ?_
  refine v_ialg hX aC_278 (vp_in_nI (n := 4) (by decide) (by decide)) 347 rfl ?_
  rw [show M.1 278 (0 + Int32.toNatClampNeg 4) = M.1 1 3 from hT4]
  refine v_iconst hX (v := 1) 348 rfl (by decide) ?_
  refine v_iload hX 349 rfl rfl ?_
  refine v_ishl hX 350 rfl ?_
  refine v_ixor hX 351 rfl ?_
  refine v_iasg hX aC_278 (vp_in_nI (n := 4) (by decide) (by decide)) 352 rfl ?_
  refine V.mem (M2 := mset M 278 4 (M.1 1 3 ^^^ ((1 : Int32) <<< (nI w &&& 31)))) rfl ?_
  refine v_aload_n hX 1 353 rfl rfl rfl ?_
  refine v_iload hX 354 rfl rfl ?_
  obtain ⟨N, hF, hN4, hNL⟩ := c_ov (Y := Y) hL hw10
  refine v_callV hX 1 (by decide) rfl rfl (hF) tw_336 tw_333 tw_334 tw_335 tw_39 (by decide +kernel) ⟨⟨rfl, rfl⟩, Nat.le_of_ble_eq_true rfl, Nat.le_of_ble_eq_true rfl⟩ rfl (Nat.le_of_ble_eq_true rfl) rfl rfl 355 rfl ?_
  refine v_aload hX 356 rfl rfl ?_
  refine v_iconst hX (v := 4) 357 rfl (by decide) ?_
  refine v_ialg hX aC_278 (vp_in_nI (n := 4) (by decide) (by decide)) 358 rfl ?_
  rw [show N.1 278 (0 + Int32.toNatClampNeg 4) = (M.1 1 3 ^^^ ((1 : Int32) <<< (nI w &&& 31))) from hN4]
  refine v_iload hX 359 rfl rfl ?_
  refine v_ishr hX 360 rfl ?_
  refine v_iconst hX (v := 1) 361 rfl (by decide) ?_
  refine v_iand hX 362 rfl ?_
  rw [shr1 (show w < 31 by omega), ← hasv_nI _ (show w < 32 by omega)]
  refine v_icmp_ne hX (tgt := 688) 363 rfl (by decide) (fun c681 => absurd c681 (fun h => h rfl)) (fun c681 => ?_)
  refine v_iconst hX (v := 1) 364 rfl (by decide) ?_
  refine v_goto hX (tgt := 689) 365 rfl (by decide) ?_
  refine v_istore hX 367 rfl (Nat.le_of_ble_eq_true rfl) rfl ?_
  refine v_goto hX (tgt := 948) 368 rfl (by decide) ?_
  exact V.sub (hk _ _ _ _ hNL) rfl ⟨rfl, rfl, rfl, rfl, rfl, rfl, rfl, rfl, rfl, rfl, rfl, rfl, rfl, trivial⟩
set_option maxRecDepth 100000 in
set_option maxHeartbeats 8000000 in
theorem l_law_ps1 {Y : Yt} {X : XT} {M : Mm} (hX : vOK Y X iL_law 22 "PointAnswersLaw" room_1 (some .boolean)) {b e n la dy : Nat} (hk : ∀ N n2 la2 dy2, LI N n2 la2 dy2 → V Y X N 948 [some (.ref b), some (.ref (Y.2.2.2.1 0)), some (.ref (Y.2.2.2.1 270)), some (.ref (Y.2.2.2.1 271)), some (.ref (Y.2.2.2.1 272)), some (.ref (Y.2.2.2.1 273)), some (.ref (Y.2.2.2.1 274)), some (.ref (Y.2.2.2.1 275)), some (.ref (Y.2.2.2.1 276)), some (.ref (Y.2.2.2.1 277)), some (.ref (Y.2.2.2.1 278)), some (.int (nI e)), none, none, none, none, some (.int 1), none, none, none, none, none] []) (hL : LI M n la dy) {v : Int32} {d : Nat} (hd : 1 ≤ d ∧ d ≤ 99) (hd9 : dy + d ≤ 999) : V Y X M 732 [some (.ref b), some (.ref (Y.2.2.2.1 0)), some (.ref (Y.2.2.2.1 270)), some (.ref (Y.2.2.2.1 271)), some (.ref (Y.2.2.2.1 272)), some (.ref (Y.2.2.2.1 273)), some (.ref (Y.2.2.2.1 274)), some (.ref (Y.2.2.2.1 275)), some (.ref (Y.2.2.2.1 276)), some (.ref (Y.2.2.2.1 277)), some (.ref (Y.2.2.2.1 278)), some (.int (nI e)), some (.int v), none, some (.int (nI n)), none, some (.int 1), some (.int (nI d)), none, none, none, none] [] := by
  have hn : n ≤ 24 := hL.1.2.1
  have hw := hL.1.2.2.1
  have hS := hL.2.2.1
  have h2 : M.1 1 2 = nI dy := hL.1.2.2.2.2.2.2.2.2.1
  have hdy : dy ≤ 999 := hL.1.2.2.2.2.2.2.2.2.2.1
  have hT2 : M.1 278 2 = nI dy := hL.2.2.2.2.2.2.1.trans h2
  have hT3 : M.1 278 3 = nI n := hL.2.2.2.2.2.2.2.1
  have hT4 : M.1 278 4 = M.1 1 3 := hL.2.2.2.2.2.2.2.2
  refine v_aload hX 388 rfl rfl ?_
  refine v_iconst hX (v := 2) 389 rfl (by decide) ?_
  refine v_ialg hX aC_278 (vp_in_nI (n := 2) (by decide) (by decide)) 390 rfl ?_
  rw [show M.1 278 (0 + Int32.toNatClampNeg 2) = nI dy from hT2]
  refine v_iload hX 391 rfl rfl ?_
  refine v_iadd hX 392 rfl ?_
  rw [nI_add]
  refine v_sipush hX (v := 999) 393 rfl (by decide) ?_
  refine v_icmp_gt hX (tgt := 749) 394 rfl (by decide) (fun c742 => absurd c742 (nI_nlt (a := 999) hd9 (by decide))) (fun c742 => ?_)
  refine v_iconst hX (v := 1) 395 rfl (by decide) ?_
  refine v_goto hX (tgt := 750) 396 rfl (by decide) ?_
  refine v_istore hX 398 rfl (Nat.le_of_ble_eq_true rfl) rfl ?_
  refine v_aload hX 399 rfl rfl ?_
  refine v_iconst hX (v := 2) 400 rfl (by decide) ?_
  refine v_dup2 hX 401 rfl rfl rfl ?_
  refine v_ialg hX aC_278 (vp_in_nI (n := 2) (by decide) (by decide)) 402 rfl ?_
  rw [show M.1 278 (0 + Int32.toNatClampNeg 2) = nI dy from hT2]
  refine v_iload hX 403 rfl rfl ?_
  refine v_if_eq hX (tgt := 767) 404 rfl (by decide) (fun c759 => absurd c759 (by decide)) (fun c759 => ?_)
  refine v_iload hX 405 rfl rfl ?_
  refine v_goto hX (tgt := 768) 406 rfl (by decide) ?_
  refine v_iadd hX 408 rfl ?_
  rw [nI_add]
  refine v_iasg hX aC_278 (vp_in_nI (n := 2) (by decide) (by decide)) 409 rfl ?_
  refine V.mem (M2 := mset M 278 2 (nI (dy + d))) rfl ?_
  refine v_aload_n hX 2 410 rfl rfl rfl ?_
  refine v_aload_n hX 3 411 rfl rfl rfl ?_
  refine v_aload hX 412 rfl rfl ?_
  refine v_aload hX 413 rfl rfl ?_
  refine v_aload hX 414 rfl rfl ?_
  refine v_aload hX 415 rfl rfl ?_
  refine v_aload hX 416 rfl rfl ?_
  refine v_aload hX 417 rfl rfl ?_
  refine v_iconst hX (v := 0) 418 rfl (by decide) ?_
  obtain ⟨g, hg9, hF⟩ := rs_g (Y := Y) (A := mset M 278 2 (nI (dy + d))) (M' := mset M 1 2 (nI (dy + d))) (ps_A hL hd9).1 (ps_A hL hd9).2.1 (ps_A hL hd9).2.2
  refine v_callS hX 9 (hF) tw_360 tw_358 tw_359 tw_38 (by decide +kernel) ⟨⟨rfl, rfl⟩, Nat.le_of_ble_eq_true rfl, Nat.le_of_ble_eq_true rfl⟩ rfl (Nat.le_of_ble_eq_true rfl) rfl rfl 419 rfl ?_
  refine v_iconst hX (v := 0) 420 rfl (by decide) ?_
  refine v_istore hX 421 rfl (Nat.le_of_ble_eq_true rfl) rfl ?_
  refine v_iconst hX (v := 0) 422 rfl (by decide) ?_
  refine v_istore hX 423 rfl (Nat.le_of_ble_eq_true rfl) rfl ?_
  have lp : ∀ (i : Nat), i ≤ n → V Y X (mput (mset M 278 2 (nI (dy + d))) 277 0 24 g) 794 [some (.ref b), some (.ref (Y.2.2.2.1 0)), some (.ref (Y.2.2.2.1 270)), some (.ref (Y.2.2.2.1 271)), some (.ref (Y.2.2.2.1 272)), some (.ref (Y.2.2.2.1 273)), some (.ref (Y.2.2.2.1 274)), some (.ref (Y.2.2.2.1 275)), some (.ref (Y.2.2.2.1 276)), some (.ref (Y.2.2.2.1 277)), some (.ref (Y.2.2.2.1 278)), some (.int (nI e)), some (.int v), none, some (.int (nI n)), none, some (.int 1), some (.int (nI d)), some (.int 1), some (.int (nI (cnt (bSd (mset M 1 2 (nI (dy + d))) 1 n) i))), some (.int (nI i)), none] [] := by
    refine upTo n (fun i hi0 ih => ?_)
    refine v_iload hX 424 rfl rfl ?_
    refine v_iload hX 425 rfl rfl ?_
    refine v_icmp_ge hX (tgt := 825) 426 rfl (by decide) (fun c798 => ?_) (fun c798 => ?_)
    · skip
      have hin : n = i := by have := of_le c798 (by omega) (by omega); omega
      subst hin
      refine v_aload_n hX 1 439 rfl rfl rfl ?_
      refine v_iload hX 440 rfl rfl ?_
      obtain ⟨N, hF2, hNL⟩ := c_ps (Y := Y) (g := g) hL hd hd9
      refine v_callV hX 1 (by decide) rfl rfl (hF2) tw_344 tw_341 tw_342 tw_343 tw_39 (by decide +kernel) ⟨⟨rfl, rfl⟩, Nat.le_of_ble_eq_true rfl, Nat.le_of_ble_eq_true rfl⟩ rfl (Nat.le_of_ble_eq_true rfl) rfl rfl 441 rfl ?_
      refine v_iload hX 442 rfl rfl ?_
      refine v_if_eq hX (tgt := 841) 443 rfl (by decide) (fun c833 => absurd c833 (by decide)) (fun c833 => ?_)
      refine v_iload hX 444 rfl rfl ?_
      refine v_goto hX (tgt := 843) 445 rfl (by decide) ?_
      refine v_icmp_ne hX (tgt := 850) 447 rfl (by decide) (fun c843 => absurd c843 (fun h => h rfl)) (fun c843 => ?_)
      refine v_iconst hX (v := 1) 448 rfl (by decide) ?_
      refine v_goto hX (tgt := 851) 449 rfl (by decide) ?_
      refine v_istore hX 451 rfl (Nat.le_of_ble_eq_true rfl) rfl ?_
      refine v_goto hX (tgt := 948) 452 rfl (by decide) ?_
      exact V.sub (hk _ _ _ _ hNL) rfl ⟨rfl, rfl, rfl, rfl, rfl, rfl, rfl, rfl, rfl, rfl, rfl, rfl, rfl, trivial⟩
    · skip
      have hi : i < n := of_nle c798 (by omega) (by omega)
      refine v_iload hX 427 rfl rfl ?_
      refine v_aload hX 428 rfl rfl ?_
      refine v_iload hX 429 rfl rfl ?_
      have j816 : ∀ (x5 : Int32), nI (cnt (bSd (mset M 1 2 (nI (dy + d))) 1 n) i) + x5 = nI (cnt (bSd (mset M 1 2 (nI (dy + d))) 1 n) (i + 1)) → V Y X (mput (mset M 278 2 (nI (dy + d))) 277 0 24 g) 816 [some (.ref b), some (.ref (Y.2.2.2.1 0)), some (.ref (Y.2.2.2.1 270)), some (.ref (Y.2.2.2.1 271)), some (.ref (Y.2.2.2.1 272)), some (.ref (Y.2.2.2.1 273)), some (.ref (Y.2.2.2.1 274)), some (.ref (Y.2.2.2.1 275)), some (.ref (Y.2.2.2.1 276)), some (.ref (Y.2.2.2.1 277)), some (.ref (Y.2.2.2.1 278)), some (.int (nI e)), some (.int v), none, some (.int (nI n)), none, some (.int 1), some (.int (nI d)), some (.int 1), none, some (.int (nI i)), none] [.int x5, .int (nI (cnt (bSd (mset M 1 2 (nI (dy + d))) 1 n) i))] := by
        intro x5 hx5
        refine v_iadd hX 435 rfl ?_
        rw [hx5]
        refine v_istore hX 436 rfl (Nat.le_of_ble_eq_true rfl) rfl ?_
        refine v_iinc hX 437 rfl rfl (nI_inc i) (Nat.le_of_ble_eq_true rfl) rfl ?_
        refine v_goto hX (tgt := 794) 438 rfl (by decide) ?_
        refine V.subM (ih hi) ?_ rfl ⟨rfl, rfl, rfl, rfl, rfl, rfl, rfl, rfl, rfl, rfl, rfl, rfl, rfl, rfl, rfl, rfl, rfl, (by first | rfl | (refine congrArg (fun z : Int32 => some (Value.int z)) ?_; rfl)), rfl, trivial⟩
        rfl
      refine v_ialg hX aC_277 (vp_in_nI (by omega) (by decide)) 430 rfl ?_
      rw [nI_clamp (n := i) (by omega), Nat.zero_add]
      refine v_if_ne hX (tgt := 815) 431 rfl (by decide) (fun c808 => ?_) (fun c808 => ?_)
      · skip
        refine v_iconst hX (v := 0) 434 rfl (by decide) ?_
        exact V.sub (j816 _ (by rw [cnt, if_neg (fun h => c808 ((c_ws (A := mset M 278 2 (nI (dy + d))) (M' := (mset M 1 2 (nI (dy + d)))) hn hg9 hi).mpr h))]; exact Int32.add_zero _)) rfl ⟨rfl, rfl, rfl, rfl, rfl, rfl, rfl, rfl, rfl, rfl, rfl, rfl, rfl, rfl, rfl, rfl, rfl, rfl, trivial⟩
      · skip
        refine v_iconst hX (v := 1) 432 rfl (by decide) ?_
        refine v_goto hX (tgt := 816) 433 rfl (by decide) ?_
        exact V.sub (j816 _ (by rw [cnt, if_pos ((c_ws (A := mset M 278 2 (nI (dy + d))) (M' := (mset M 1 2 (nI (dy + d)))) hn hg9 hi).mp c808)]; exact nI_add _ 1)) rfl ⟨rfl, rfl, rfl, rfl, rfl, rfl, rfl, rfl, rfl, rfl, rfl, rfl, rfl, rfl, rfl, rfl, rfl, rfl, trivial⟩
  refine V.subM (lp 0 (Nat.zero_le _)) ?_ rfl ⟨rfl, rfl, rfl, rfl, rfl, rfl, rfl, rfl, rfl, rfl, rfl, rfl, rfl, rfl, rfl, rfl, rfl, (by first | rfl | (refine congrArg (fun z : Int32 => some (Value.int z)) ?_; rfl)), rfl, trivial⟩
  rfl
set_option maxRecDepth 100000 in
set_option maxHeartbeats 8000000 in
theorem l_law_ps0 {Y : Yt} {X : XT} {M : Mm} (hX : vOK Y X iL_law 22 "PointAnswersLaw" room_1 (some .boolean)) {b e n la dy : Nat} (hk : ∀ N n2 la2 dy2, LI N n2 la2 dy2 → V Y X N 948 [some (.ref b), some (.ref (Y.2.2.2.1 0)), some (.ref (Y.2.2.2.1 270)), some (.ref (Y.2.2.2.1 271)), some (.ref (Y.2.2.2.1 272)), some (.ref (Y.2.2.2.1 273)), some (.ref (Y.2.2.2.1 274)), some (.ref (Y.2.2.2.1 275)), some (.ref (Y.2.2.2.1 276)), some (.ref (Y.2.2.2.1 277)), some (.ref (Y.2.2.2.1 278)), some (.int (nI e)), none, none, none, none, some (.int 1), none, none, none, none, none] []) (hL : LI M n la dy) {v : Int32} {d : Nat} (hd : 1 ≤ d ∧ d ≤ 99) (hd9 : ¬ dy + d ≤ 999) : V Y X M 732 [some (.ref b), some (.ref (Y.2.2.2.1 0)), some (.ref (Y.2.2.2.1 270)), some (.ref (Y.2.2.2.1 271)), some (.ref (Y.2.2.2.1 272)), some (.ref (Y.2.2.2.1 273)), some (.ref (Y.2.2.2.1 274)), some (.ref (Y.2.2.2.1 275)), some (.ref (Y.2.2.2.1 276)), some (.ref (Y.2.2.2.1 277)), some (.ref (Y.2.2.2.1 278)), some (.int (nI e)), some (.int v), none, some (.int (nI n)), none, some (.int 1), some (.int (nI d)), none, none, none, none] [] := by
  have hn : n ≤ 24 := hL.1.2.1
  have hw := hL.1.2.2.1
  have hS := hL.2.2.1
  have h2 : M.1 1 2 = nI dy := hL.1.2.2.2.2.2.2.2.2.1
  have hdy : dy ≤ 999 := hL.1.2.2.2.2.2.2.2.2.2.1
  have hT2 : M.1 278 2 = nI dy := hL.2.2.2.2.2.2.1.trans h2
  have hT3 : M.1 278 3 = nI n := hL.2.2.2.2.2.2.2.1
  have hT4 : M.1 278 4 = M.1 1 3 := hL.2.2.2.2.2.2.2.2
  refine v_aload hX 388 rfl rfl ?_
  refine v_iconst hX (v := 2) 389 rfl (by decide) ?_
  refine v_ialg hX aC_278 (vp_in_nI (n := 2) (by decide) (by decide)) 390 rfl ?_
  rw [show M.1 278 (0 + Int32.toNatClampNeg 2) = nI dy from hT2]
  refine v_iload hX 391 rfl rfl ?_
  refine v_iadd hX 392 rfl ?_
  rw [nI_add]
  refine v_sipush hX (v := 999) 393 rfl (by decide) ?_
  refine v_icmp_gt hX (tgt := 749) 394 rfl (by decide) (fun c742 => ?_) (fun c742 => absurd (nI_lt (a := 999) (by omega) (by omega)) c742)
  refine v_iconst hX (v := 0) 397 rfl (by decide) ?_
  refine v_istore hX 398 rfl (Nat.le_of_ble_eq_true rfl) rfl ?_
  refine v_aload hX 399 rfl rfl ?_
  refine v_iconst hX (v := 2) 400 rfl (by decide) ?_
  refine v_dup2 hX 401 rfl rfl rfl ?_
  refine v_ialg hX aC_278 (vp_in_nI (n := 2) (by decide) (by decide)) 402 rfl ?_
  rw [show M.1 278 (0 + Int32.toNatClampNeg 2) = nI dy from hT2]
  refine v_iload hX 403 rfl rfl ?_
  refine v_if_eq hX (tgt := 767) 404 rfl (by decide) (fun c759 => ?_) (fun c759 => absurd rfl c759)
  refine v_iconst hX (v := 0) 407 rfl (by decide) ?_
  refine v_iadd hX 408 rfl ?_
  rw [Int32.add_zero]
  refine v_iasg hX aC_278 (vp_in_nI (n := 2) (by decide) (by decide)) 409 rfl ?_
  refine V.mem (M2 := M) (ps_no hL) ?_
  refine v_aload_n hX 2 410 rfl rfl rfl ?_
  refine v_aload_n hX 3 411 rfl rfl rfl ?_
  refine v_aload hX 412 rfl rfl ?_
  refine v_aload hX 413 rfl rfl ?_
  refine v_aload hX 414 rfl rfl ?_
  refine v_aload hX 415 rfl rfl ?_
  refine v_aload hX 416 rfl rfl ?_
  refine v_aload hX 417 rfl rfl ?_
  refine v_iconst hX (v := 0) 418 rfl (by decide) ?_
  obtain ⟨g, hg9, hF⟩ := rs_g (Y := Y) (A := M) (M' := M) hL.1 hL.2.2.1 hL.2.2.2.2
  refine v_callS hX 9 (hF) tw_360 tw_358 tw_359 tw_38 (by decide +kernel) ⟨⟨rfl, rfl⟩, Nat.le_of_ble_eq_true rfl, Nat.le_of_ble_eq_true rfl⟩ rfl (Nat.le_of_ble_eq_true rfl) rfl rfl 419 rfl ?_
  refine v_iconst hX (v := 0) 420 rfl (by decide) ?_
  refine v_istore hX 421 rfl (Nat.le_of_ble_eq_true rfl) rfl ?_
  refine v_iconst hX (v := 0) 422 rfl (by decide) ?_
  refine v_istore hX 423 rfl (Nat.le_of_ble_eq_true rfl) rfl ?_
  have lp : ∀ (i : Nat), i ≤ n → V Y X (mput M 277 0 24 g) 794 [some (.ref b), some (.ref (Y.2.2.2.1 0)), some (.ref (Y.2.2.2.1 270)), some (.ref (Y.2.2.2.1 271)), some (.ref (Y.2.2.2.1 272)), some (.ref (Y.2.2.2.1 273)), some (.ref (Y.2.2.2.1 274)), some (.ref (Y.2.2.2.1 275)), some (.ref (Y.2.2.2.1 276)), some (.ref (Y.2.2.2.1 277)), some (.ref (Y.2.2.2.1 278)), some (.int (nI e)), some (.int v), none, some (.int (nI n)), none, some (.int 1), some (.int (nI d)), some (.int 0), some (.int (nI (cnt (bSd M 1 n) i))), some (.int (nI i)), none] [] := by
    refine upTo n (fun i hi0 ih => ?_)
    refine v_iload hX 424 rfl rfl ?_
    refine v_iload hX 425 rfl rfl ?_
    refine v_icmp_ge hX (tgt := 825) 426 rfl (by decide) (fun c798 => ?_) (fun c798 => ?_)
    · skip
      have hin : n = i := by have := of_le c798 (by omega) (by omega); omega
      subst hin
      refine v_aload_n hX 1 439 rfl rfl rfl ?_
      refine v_iload hX 440 rfl rfl ?_
      obtain ⟨N, hF2, hNL⟩ := c_ps_no (Y := Y) (g := g) hL hd hd9
      refine v_callV hX 1 (by decide) rfl rfl (hF2) tw_344 tw_341 tw_342 tw_343 tw_39 (by decide +kernel) ⟨⟨rfl, rfl⟩, Nat.le_of_ble_eq_true rfl, Nat.le_of_ble_eq_true rfl⟩ rfl (Nat.le_of_ble_eq_true rfl) rfl rfl 441 rfl ?_
      refine v_iload hX 442 rfl rfl ?_
      refine v_if_eq hX (tgt := 841) 443 rfl (by decide) (fun c833 => ?_) (fun c833 => absurd rfl c833)
      refine v_bipush hX (v := (-5)) 446 rfl (by decide) ?_
      refine v_icmp_ne hX (tgt := 850) 447 rfl (by decide) (fun c843 => absurd c843 (fun h => h rfl)) (fun c843 => ?_)
      refine v_iconst hX (v := 1) 448 rfl (by decide) ?_
      refine v_goto hX (tgt := 851) 449 rfl (by decide) ?_
      refine v_istore hX 451 rfl (Nat.le_of_ble_eq_true rfl) rfl ?_
      refine v_goto hX (tgt := 948) 452 rfl (by decide) ?_
      exact V.sub (hk _ _ _ _ hNL) rfl ⟨rfl, rfl, rfl, rfl, rfl, rfl, rfl, rfl, rfl, rfl, rfl, rfl, rfl, trivial⟩
    · skip
      have hi : i < n := of_nle c798 (by omega) (by omega)
      refine v_iload hX 427 rfl rfl ?_
      refine v_aload hX 428 rfl rfl ?_
      refine v_iload hX 429 rfl rfl ?_
      have j816 : ∀ (x5 : Int32), nI (cnt (bSd M 1 n) i) + x5 = nI (cnt (bSd M 1 n) (i + 1)) → V Y X (mput M 277 0 24 g) 816 [some (.ref b), some (.ref (Y.2.2.2.1 0)), some (.ref (Y.2.2.2.1 270)), some (.ref (Y.2.2.2.1 271)), some (.ref (Y.2.2.2.1 272)), some (.ref (Y.2.2.2.1 273)), some (.ref (Y.2.2.2.1 274)), some (.ref (Y.2.2.2.1 275)), some (.ref (Y.2.2.2.1 276)), some (.ref (Y.2.2.2.1 277)), some (.ref (Y.2.2.2.1 278)), some (.int (nI e)), some (.int v), none, some (.int (nI n)), none, some (.int 1), some (.int (nI d)), some (.int 0), none, some (.int (nI i)), none] [.int x5, .int (nI (cnt (bSd M 1 n) i))] := by
        intro x5 hx5
        refine v_iadd hX 435 rfl ?_
        rw [hx5]
        refine v_istore hX 436 rfl (Nat.le_of_ble_eq_true rfl) rfl ?_
        refine v_iinc hX 437 rfl rfl (nI_inc i) (Nat.le_of_ble_eq_true rfl) rfl ?_
        refine v_goto hX (tgt := 794) 438 rfl (by decide) ?_
        refine V.subM (ih hi) ?_ rfl ⟨rfl, rfl, rfl, rfl, rfl, rfl, rfl, rfl, rfl, rfl, rfl, rfl, rfl, rfl, rfl, rfl, rfl, (by first | rfl | (refine congrArg (fun z : Int32 => some (Value.int z)) ?_; rfl)), rfl, trivial⟩
        rfl
      refine v_ialg hX aC_277 (vp_in_nI (by omega) (by decide)) 430 rfl ?_
      rw [nI_clamp (n := i) (by omega), Nat.zero_add]
      refine v_if_ne hX (tgt := 815) 431 rfl (by decide) (fun c808 => ?_) (fun c808 => ?_)
      · skip
        refine v_iconst hX (v := 0) 434 rfl (by decide) ?_
        exact V.sub (j816 _ (by rw [cnt, if_neg (fun h => c808 ((c_ws (A := M) (M' := M) hn hg9 hi).mpr h))]; exact Int32.add_zero _)) rfl ⟨rfl, rfl, rfl, rfl, rfl, rfl, rfl, rfl, rfl, rfl, rfl, rfl, rfl, rfl, rfl, rfl, rfl, rfl, trivial⟩
      · skip
        refine v_iconst hX (v := 1) 432 rfl (by decide) ?_
        refine v_goto hX (tgt := 816) 433 rfl (by decide) ?_
        exact V.sub (j816 _ (by rw [cnt, if_pos ((c_ws (A := M) (M' := M) hn hg9 hi).mp c808)]; exact nI_add _ 1)) rfl ⟨rfl, rfl, rfl, rfl, rfl, rfl, rfl, rfl, rfl, rfl, rfl, rfl, rfl, rfl, rfl, rfl, rfl, rfl, trivial⟩
  refine V.subM (lp 0 (Nat.zero_le _)) ?_ rfl ⟨rfl, rfl, rfl, rfl, rfl, rfl, rfl, rfl, rfl, rfl, rfl, rfl, rfl, rfl, rfl, rfl, rfl, (by first | rfl | (refine congrArg (fun z : Int32 => some (Value.int z)) ?_; rfl)), rfl, trivial⟩
  rfl
set_option maxRecDepth 100000 in
set_option maxHeartbeats 8000000 in
theorem l_law_ps {Y : Yt} {X : XT} {M : Mm} (hX : vOK Y X iL_law 22 "PointAnswersLaw" room_1 (some .boolean)) {b e n la dy : Nat} (hk : ∀ N n2 la2 dy2, LI N n2 la2 dy2 → V Y X N 948 [some (.ref b), some (.ref (Y.2.2.2.1 0)), some (.ref (Y.2.2.2.1 270)), some (.ref (Y.2.2.2.1 271)), some (.ref (Y.2.2.2.1 272)), some (.ref (Y.2.2.2.1 273)), some (.ref (Y.2.2.2.1 274)), some (.ref (Y.2.2.2.1 275)), some (.ref (Y.2.2.2.1 276)), some (.ref (Y.2.2.2.1 277)), some (.ref (Y.2.2.2.1 278)), some (.int (nI e)), none, none, none, none, some (.int 1), none, none, none, none, none] []) (hL : LI M n la dy) {v : Int32} : V Y X M 701 [some (.ref b), some (.ref (Y.2.2.2.1 0)), some (.ref (Y.2.2.2.1 270)), some (.ref (Y.2.2.2.1 271)), some (.ref (Y.2.2.2.1 272)), some (.ref (Y.2.2.2.1 273)), some (.ref (Y.2.2.2.1 274)), some (.ref (Y.2.2.2.1 275)), some (.ref (Y.2.2.2.1 276)), some (.ref (Y.2.2.2.1 277)), some (.ref (Y.2.2.2.1 278)), some (.int (nI e)), some (.int v), none, some (.int (nI n)), none, some (.int 1), none, none, none, none, none] [] := by
  have hn : n ≤ 24 := hL.1.2.1
  have hw := hL.1.2.2.1
  have hS := hL.2.2.1
  have h2 : M.1 1 2 = nI dy := hL.1.2.2.2.2.2.2.2.2.1
  have hdy : dy ≤ 999 := hL.1.2.2.2.2.2.2.2.2.2.1
  have hT2 : M.1 278 2 = nI dy := hL.2.2.2.2.2.2.1.trans h2
  have hT3 : M.1 278 3 = nI n := hL.2.2.2.2.2.2.2.1
  have hT4 : M.1 278 4 = M.1 1 3 := hL.2.2.2.2.2.2.2.2
  refine v_iconst hX (v := 1) 372 rfl (by decide) ?_
  refine v_iload hX 373 rfl rfl ?_
  refine v_bipush hX (v := 9) 374 rfl (by decide) ?_
  refine v_ishr hX 375 rfl ?_
  obtain ⟨v9, hv9⟩ : ∃ z9, z9 = v >>> ((9 : Int32) &&& 31) := ⟨_, rfl⟩
  rw [← hv9]
  refine v_iload hX 376 rfl rfl ?_
  refine v_bipush hX (v := 18) 377 rfl (by decide) ?_
  refine v_ishr hX 378 rfl ?_
  obtain ⟨v18, hv18⟩ : ∃ z9, z9 = v >>> ((18 : Int32) &&& 31) := ⟨_, rfl⟩
  rw [← hv18]
  refine v_iconst hX (v := 4) 379 rfl (by decide) ?_
  refine v_callS hX 2 (l_low (n := 4) (by decide) (by decide)) tw_356 tw_354 tw_355 tw_38 (by decide +kernel) ⟨⟨rfl, rfl⟩, Nat.le_of_ble_eq_true rfl, Nat.le_of_ble_eq_true rfl⟩ rfl (Nat.le_of_ble_eq_true rfl) rfl rfl 380 rfl ?_
  have j726 : ∀ (x2 : Int32) (g2 : Nat), x2 = nI g2 → (0 < g2 ∧ g2 ≤ 30) → V Y X M 726 [some (.ref b), some (.ref (Y.2.2.2.1 0)), some (.ref (Y.2.2.2.1 270)), some (.ref (Y.2.2.2.1 271)), some (.ref (Y.2.2.2.1 272)), some (.ref (Y.2.2.2.1 273)), some (.ref (Y.2.2.2.1 274)), some (.ref (Y.2.2.2.1 275)), some (.ref (Y.2.2.2.1 276)), some (.ref (Y.2.2.2.1 277)), some (.ref (Y.2.2.2.1 278)), some (.int (nI e)), some (.int v), none, some (.int (nI n)), none, some (.int 1), none, none, none, none, none] [.int x2, .int v9, .int 1] := by
    intro x2 g2 hx2 hg2
    subst hx2
    refine v_callS hX 2 (l_low (n := g2) (by omega) (by omega)) tw_356 tw_354 tw_355 tw_38 (by decide +kernel) ⟨⟨rfl, rfl⟩, Nat.le_of_ble_eq_true rfl, Nat.le_of_ble_eq_true rfl⟩ rfl (Nat.le_of_ble_eq_true rfl) rfl rfl 385 rfl ?_
    refine v_iadd hX 386 rfl ?_
    obtain ⟨d, hd, hde⟩ : ∃ z9, (1 ≤ z9 ∧ z9 ≤ 99) ∧ (1 : Int32) + nI (lo0 v9 g2) = nI z9 := ⟨1 + lo0 v9 g2, by have := lo0_lt (v := v9) hg2.1; omega, nI_add 1 _⟩
    rw [hde]
    refine v_istore hX 387 rfl (Nat.le_of_ble_eq_true rfl) rfl ?_
    by_cases hd9 : dy + d ≤ 999
    · exact V.sub (l_law_ps1 hX hk hL hd hd9) rfl ⟨rfl, rfl, rfl, rfl, rfl, rfl, rfl, rfl, rfl, rfl, rfl, rfl, rfl, rfl, rfl, rfl, trivial⟩
    · exact V.sub (l_law_ps0 hX hk hL hd hd9) rfl ⟨rfl, rfl, rfl, rfl, rfl, rfl, rfl, rfl, rfl, rfl, rfl, rfl, rfl, rfl, rfl, rfl, trivial⟩
  refine v_if_ne hX (tgt := 724) 381 rfl (by decide) (fun c716 => ?_) (fun c716 => ?_)
  · skip
    refine v_bipush hX (v := 7) 384 rfl (by decide) ?_
    exact V.sub (j726 _ 7 rfl (by decide)) rfl ⟨rfl, rfl, rfl, rfl, rfl, rfl, rfl, rfl, rfl, rfl, rfl, rfl, rfl, rfl, rfl, trivial⟩
  · skip
    refine v_bipush hX (v := 30) 382 rfl (by decide) ?_
    refine v_goto hX (tgt := 726) 383 rfl (by decide) ?_
    exact V.sub (j726 _ 30 rfl (by decide)) rfl ⟨rfl, rfl, rfl, rfl, rfl, rfl, rfl, rfl, rfl, rfl, rfl, rfl, rfl, rfl, rfl, trivial⟩
set_option maxRecDepth 100000 in
set_option maxHeartbeats 8000000 in
theorem l_law_st0 {Y : Yt} {X : XT} {M : Mm} (hX : vOK Y X iL_law 22 "PointAnswersLaw" room_1 (some .boolean)) {b e n la dy : Nat} (hk : ∀ N n2 la2 dy2, LI N n2 la2 dy2 → V Y X N 948 [some (.ref b), some (.ref (Y.2.2.2.1 0)), some (.ref (Y.2.2.2.1 270)), some (.ref (Y.2.2.2.1 271)), some (.ref (Y.2.2.2.1 272)), some (.ref (Y.2.2.2.1 273)), some (.ref (Y.2.2.2.1 274)), some (.ref (Y.2.2.2.1 275)), some (.ref (Y.2.2.2.1 276)), some (.ref (Y.2.2.2.1 277)), some (.ref (Y.2.2.2.1 278)), some (.int (nI e)), none, none, none, none, some (.int 1), none, none, none, none, none] []) (hL : LI M n la dy) {v : Int32} {v1 : Nat} (hv1 : 1 ≤ v1 ∧ v1 ≤ 60) : V Y X M 916 [some (.ref b), some (.ref (Y.2.2.2.1 0)), some (.ref (Y.2.2.2.1 270)), some (.ref (Y.2.2.2.1 271)), some (.ref (Y.2.2.2.1 272)), some (.ref (Y.2.2.2.1 273)), some (.ref (Y.2.2.2.1 274)), some (.ref (Y.2.2.2.1 275)), some (.ref (Y.2.2.2.1 276)), some (.ref (Y.2.2.2.1 277)), some (.ref (Y.2.2.2.1 278)), some (.int (nI e)), some (.int v), none, some (.int (nI n)), none, some (.int 1), some (.int 0), none, none, none, none] [.int (nI v1)] := by
  have hn : n ≤ 24 := hL.1.2.1
  have hw := hL.1.2.2.1
  have hS := hL.2.2.1
  have h2 : M.1 1 2 = nI dy := hL.1.2.2.2.2.2.2.2.2.1
  have hdy : dy ≤ 999 := hL.1.2.2.2.2.2.2.2.2.2.1
  have hT2 : M.1 278 2 = nI dy := hL.2.2.2.2.2.2.1.trans h2
  have hT3 : M.1 278 3 = nI n := hL.2.2.2.2.2.2.2.1
  have hT4 : M.1 278 4 = M.1 1 3 := hL.2.2.2.2.2.2.2.2
  refine v_istore hX 484 rfl (Nat.le_of_ble_eq_true rfl) rfl ?_
  refine v_aload_n hX 1 485 rfl rfl rfl ?_
  refine v_iload hX 486 rfl rfl ?_
  refine v_iload hX 487 rfl rfl ?_
  obtain ⟨N, hF, hNr, hNL⟩ := c_s0 (Y := Y) hL hv1
  refine v_callV hX 2 (by decide) rfl rfl (hF) tw_216 tw_213 tw_214 tw_215 tw_39 (by decide +kernel) ⟨⟨rfl, rfl⟩, Nat.le_of_ble_eq_true rfl, Nat.le_of_ble_eq_true rfl⟩ rfl (Nat.le_of_ble_eq_true rfl) rfl rfl 488 rfl ?_
  refine v_aload hX 489 rfl rfl ?_
  refine v_iload hX 490 rfl rfl ?_
  refine v_ialg hX aC_278 (vp_in_nI (n := 0) (by decide) (by decide)) 491 rfl ?_
  rw [show N.1 278 (0 + Int32.toNatClampNeg 0) = M.1 278 0 from congrFun (hNr 278 (by decide)) 0]
  refine v_icmp_ne hX (tgt := 938) 492 rfl (by decide) (fun c931 => absurd c931 (fun h => h rfl)) (fun c931 => ?_)
  refine v_iconst hX (v := 1) 493 rfl (by decide) ?_
  refine v_goto hX (tgt := 939) 494 rfl (by decide) ?_
  refine v_istore hX 496 rfl (Nat.le_of_ble_eq_true rfl) rfl ?_
  refine v_aload hX 497 rfl rfl ?_
  refine v_iload hX 498 rfl rfl ?_
  refine v_iload hX 499 rfl rfl ?_
  refine v_iasg hX aC_278 (vp_in_nI (n := 0) (by decide) (by decide)) 500 rfl ?_
  refine V.mem (M2 := mset N 278 0 (nI v1)) rfl ?_
  exact V.sub (hk _ _ _ _ hNL) rfl ⟨rfl, rfl, rfl, rfl, rfl, rfl, rfl, rfl, rfl, rfl, rfl, rfl, rfl, trivial⟩
set_option maxRecDepth 100000 in
set_option maxHeartbeats 8000000 in
theorem l_law_st1 {Y : Yt} {X : XT} {M : Mm} (hX : vOK Y X iL_law 22 "PointAnswersLaw" room_1 (some .boolean)) {b e n la dy : Nat} (hk : ∀ N n2 la2 dy2, LI N n2 la2 dy2 → V Y X N 948 [some (.ref b), some (.ref (Y.2.2.2.1 0)), some (.ref (Y.2.2.2.1 270)), some (.ref (Y.2.2.2.1 271)), some (.ref (Y.2.2.2.1 272)), some (.ref (Y.2.2.2.1 273)), some (.ref (Y.2.2.2.1 274)), some (.ref (Y.2.2.2.1 275)), some (.ref (Y.2.2.2.1 276)), some (.ref (Y.2.2.2.1 277)), some (.ref (Y.2.2.2.1 278)), some (.int (nI e)), none, none, none, none, some (.int 1), none, none, none, none, none] []) (hL : LI M n la dy) {v : Int32} {v1 : Nat} (hv1 : 1 ≤ v1 ∧ v1 ≤ 99) : V Y X M 916 [some (.ref b), some (.ref (Y.2.2.2.1 0)), some (.ref (Y.2.2.2.1 270)), some (.ref (Y.2.2.2.1 271)), some (.ref (Y.2.2.2.1 272)), some (.ref (Y.2.2.2.1 273)), some (.ref (Y.2.2.2.1 274)), some (.ref (Y.2.2.2.1 275)), some (.ref (Y.2.2.2.1 276)), some (.ref (Y.2.2.2.1 277)), some (.ref (Y.2.2.2.1 278)), some (.int (nI e)), some (.int v), none, some (.int (nI n)), none, some (.int 1), some (.int 1), none, none, none, none] [.int (nI v1)] := by
  have hn : n ≤ 24 := hL.1.2.1
  have hw := hL.1.2.2.1
  have hS := hL.2.2.1
  have h2 : M.1 1 2 = nI dy := hL.1.2.2.2.2.2.2.2.2.1
  have hdy : dy ≤ 999 := hL.1.2.2.2.2.2.2.2.2.2.1
  have hT2 : M.1 278 2 = nI dy := hL.2.2.2.2.2.2.1.trans h2
  have hT3 : M.1 278 3 = nI n := hL.2.2.2.2.2.2.2.1
  have hT4 : M.1 278 4 = M.1 1 3 := hL.2.2.2.2.2.2.2.2
  refine v_istore hX 484 rfl (Nat.le_of_ble_eq_true rfl) rfl ?_
  refine v_aload_n hX 1 485 rfl rfl rfl ?_
  refine v_iload hX 486 rfl rfl ?_
  refine v_iload hX 487 rfl rfl ?_
  obtain ⟨N, hF, hNr, hNL⟩ := c_s1 (Y := Y) hL hv1
  refine v_callV hX 2 (by decide) rfl rfl (hF) tw_216 tw_213 tw_214 tw_215 tw_39 (by decide +kernel) ⟨⟨rfl, rfl⟩, Nat.le_of_ble_eq_true rfl, Nat.le_of_ble_eq_true rfl⟩ rfl (Nat.le_of_ble_eq_true rfl) rfl rfl 488 rfl ?_
  refine v_aload hX 489 rfl rfl ?_
  refine v_iload hX 490 rfl rfl ?_
  refine v_ialg hX aC_278 (vp_in_nI (n := 1) (by decide) (by decide)) 491 rfl ?_
  rw [show N.1 278 (0 + Int32.toNatClampNeg 1) = M.1 278 1 from congrFun (hNr 278 (by decide)) 1]
  refine v_icmp_ne hX (tgt := 938) 492 rfl (by decide) (fun c931 => absurd c931 (fun h => h rfl)) (fun c931 => ?_)
  refine v_iconst hX (v := 1) 493 rfl (by decide) ?_
  refine v_goto hX (tgt := 939) 494 rfl (by decide) ?_
  refine v_istore hX 496 rfl (Nat.le_of_ble_eq_true rfl) rfl ?_
  refine v_aload hX 497 rfl rfl ?_
  refine v_iload hX 498 rfl rfl ?_
  refine v_iload hX 499 rfl rfl ?_
  refine v_iasg hX aC_278 (vp_in_nI (n := 1) (by decide) (by decide)) 500 rfl ?_
  refine V.mem (M2 := mset N 278 1 (nI v1)) rfl ?_
  exact V.sub (hk _ _ _ _ hNL) rfl ⟨rfl, rfl, rfl, rfl, rfl, rfl, rfl, rfl, rfl, rfl, rfl, rfl, rfl, trivial⟩
set_option maxRecDepth 100000 in
set_option maxHeartbeats 8000000 in
theorem l_law_st {Y : Yt} {X : XT} {M : Mm} (hX : vOK Y X iL_law 22 "PointAnswersLaw" room_1 (some .boolean)) {b e n la dy : Nat} (hk : ∀ N n2 la2 dy2, LI N n2 la2 dy2 → V Y X N 948 [some (.ref b), some (.ref (Y.2.2.2.1 0)), some (.ref (Y.2.2.2.1 270)), some (.ref (Y.2.2.2.1 271)), some (.ref (Y.2.2.2.1 272)), some (.ref (Y.2.2.2.1 273)), some (.ref (Y.2.2.2.1 274)), some (.ref (Y.2.2.2.1 275)), some (.ref (Y.2.2.2.1 276)), some (.ref (Y.2.2.2.1 277)), some (.ref (Y.2.2.2.1 278)), some (.int (nI e)), none, none, none, none, some (.int 1), none, none, none, none, none] []) (hL : LI M n la dy) {v : Int32} : V Y X M 856 [some (.ref b), some (.ref (Y.2.2.2.1 0)), some (.ref (Y.2.2.2.1 270)), some (.ref (Y.2.2.2.1 271)), some (.ref (Y.2.2.2.1 272)), some (.ref (Y.2.2.2.1 273)), some (.ref (Y.2.2.2.1 274)), some (.ref (Y.2.2.2.1 275)), some (.ref (Y.2.2.2.1 276)), some (.ref (Y.2.2.2.1 277)), some (.ref (Y.2.2.2.1 278)), some (.int (nI e)), some (.int v), none, some (.int (nI n)), none, some (.int 1), none, none, none, none, none] [] := by
  have hn : n ≤ 24 := hL.1.2.1
  have hw := hL.1.2.2.1
  have hS := hL.2.2.1
  have h2 : M.1 1 2 = nI dy := hL.1.2.2.2.2.2.2.2.2.1
  have hdy : dy ≤ 999 := hL.1.2.2.2.2.2.2.2.2.2.1
  have hT2 : M.1 278 2 = nI dy := hL.2.2.2.2.2.2.1.trans h2
  have hT3 : M.1 278 3 = nI n := hL.2.2.2.2.2.2.2.1
  have hT4 : M.1 278 4 = M.1 1 3 := hL.2.2.2.2.2.2.2.2
  refine v_iload hX 453 rfl rfl ?_
  refine v_bipush hX (v := 9) 454 rfl (by decide) ?_
  refine v_ishr hX 455 rfl ?_
  obtain ⟨v9, hv9⟩ : ∃ z9, z9 = v >>> ((9 : Int32) &&& 31) := ⟨_, rfl⟩
  rw [← hv9]
  refine v_iconst hX (v := 2) 456 rfl (by decide) ?_
  refine v_callS hX 2 (l_low (n := 2) (by decide) (by decide)) tw_356 tw_354 tw_355 tw_38 (by decide +kernel) ⟨⟨rfl, rfl⟩, Nat.le_of_ble_eq_true rfl, Nat.le_of_ble_eq_true rfl⟩ rfl (Nat.le_of_ble_eq_true rfl) rfl rfl 457 rfl ?_
  refine v_istore hX 458 rfl (Nat.le_of_ble_eq_true rfl) rfl ?_
  have hk2 : nI (lo0 v9 2) = 0 ∨ nI (lo0 v9 2) = 1 := by
    have h := lo0_lt (v := v9) (n := 2) (by decide)
    have h2 : lo0 v9 2 = 0 ∨ lo0 v9 2 = 1 := by omega
    rcases h2 with h2 | h2 <;> rw [h2]
    · exact Or.inl rfl
    · exact Or.inr rfl
  rcases hk2 with hk2 | hk2
  · skip
    rw [hk2]
    refine v_iload hX 459 rfl rfl ?_
    refine v_if_ne hX (tgt := 887) 460 rfl (by decide) (fun c869 => absurd c869 (fun h => h rfl)) (fun c869 => ?_)
    refine v_iconst hX (v := 1) 461 rfl (by decide) ?_
    refine v_iload hX 462 rfl rfl ?_
    refine v_bipush hX (v := 10) 463 rfl (by decide) ?_
    refine v_ishr hX 464 rfl ?_
    obtain ⟨v10, hv10⟩ : ∃ z9, z9 = v >>> ((10 : Int32) &&& 31) := ⟨_, rfl⟩
    rw [← hv10]
    refine v_bipush hX (v := 60) 465 rfl (by decide) ?_
    refine v_callS hX 2 (l_low (n := 60) (by decide) (by decide)) tw_356 tw_354 tw_355 tw_38 (by decide +kernel) ⟨⟨rfl, rfl⟩, Nat.le_of_ble_eq_true rfl, Nat.le_of_ble_eq_true rfl⟩ rfl (Nat.le_of_ble_eq_true rfl) rfl rfl 466 rfl ?_
    refine v_iadd hX 467 rfl ?_
    obtain ⟨v1, hv1, hv1e⟩ : ∃ z9, (1 ≤ z9 ∧ z9 ≤ 60) ∧ (1 : Int32) + nI (lo0 v10 60) = nI z9 := ⟨1 + lo0 v10 60, by have := lo0_lt (v := v10) (n := 60) (by omega); omega, nI_add 1 _⟩
    rw [hv1e]
    refine v_goto hX (tgt := 916) 468 rfl (by decide) ?_
    exact V.sub (l_law_st0 hX hk hL hv1) rfl ⟨rfl, rfl, rfl, rfl, rfl, rfl, rfl, rfl, rfl, rfl, rfl, rfl, rfl, rfl, rfl, rfl, trivial⟩
  · skip
    rw [hk2]
    refine v_iload hX 459 rfl rfl ?_
    refine v_if_ne hX (tgt := 887) 460 rfl (by decide) (fun c869 => ?_) (fun c869 => absurd c869 (by decide))
    refine v_iconst hX (v := 1) 469 rfl (by decide) ?_
    refine v_iload hX 470 rfl rfl ?_
    refine v_bipush hX (v := 10) 471 rfl (by decide) ?_
    refine v_ishr hX 472 rfl ?_
    obtain ⟨v10, hv10⟩ : ∃ z9, z9 = v >>> ((10 : Int32) &&& 31) := ⟨_, rfl⟩
    rw [← hv10]
    refine v_iload hX 473 rfl rfl ?_
    refine v_bipush hX (v := 19) 474 rfl (by decide) ?_
    refine v_ishr hX 475 rfl ?_
    obtain ⟨v19, hv19⟩ : ∃ z9, z9 = v >>> ((19 : Int32) &&& 31) := ⟨_, rfl⟩
    rw [← hv19]
    refine v_iconst hX (v := 2) 476 rfl (by decide) ?_
    refine v_callS hX 2 (l_low (n := 2) (by decide) (by decide)) tw_356 tw_354 tw_355 tw_38 (by decide +kernel) ⟨⟨rfl, rfl⟩, Nat.le_of_ble_eq_true rfl, Nat.le_of_ble_eq_true rfl⟩ rfl (Nat.le_of_ble_eq_true rfl) rfl rfl 477 rfl ?_
    have j912 : ∀ (x2 : Int32) (g2 : Nat), x2 = nI g2 → (0 < g2 ∧ g2 ≤ 99) → V Y X M 912 [some (.ref b), some (.ref (Y.2.2.2.1 0)), some (.ref (Y.2.2.2.1 270)), some (.ref (Y.2.2.2.1 271)), some (.ref (Y.2.2.2.1 272)), some (.ref (Y.2.2.2.1 273)), some (.ref (Y.2.2.2.1 274)), some (.ref (Y.2.2.2.1 275)), some (.ref (Y.2.2.2.1 276)), some (.ref (Y.2.2.2.1 277)), some (.ref (Y.2.2.2.1 278)), some (.int (nI e)), some (.int v), none, some (.int (nI n)), none, some (.int 1), some (.int 1), none, none, none, none] [.int x2, .int v10, .int 1] := by
      intro x2 g2 hx2 hg2
      subst hx2
      refine v_callS hX 2 (l_low (n := g2) (by omega) (by omega)) tw_356 tw_354 tw_355 tw_38 (by decide +kernel) ⟨⟨rfl, rfl⟩, Nat.le_of_ble_eq_true rfl, Nat.le_of_ble_eq_true rfl⟩ rfl (Nat.le_of_ble_eq_true rfl) rfl rfl 482 rfl ?_
      refine v_iadd hX 483 rfl ?_
      obtain ⟨v1, hv1, hv1e⟩ : ∃ z9, (1 ≤ z9 ∧ z9 ≤ 99) ∧ (1 : Int32) + nI (lo0 v10 g2) = nI z9 := ⟨1 + lo0 v10 g2, by have := lo0_lt (v := v10) hg2.1; omega, nI_add 1 _⟩
      rw [hv1e]
      exact V.sub (l_law_st1 hX hk hL hv1) rfl ⟨rfl, rfl, rfl, rfl, rfl, rfl, rfl, rfl, rfl, rfl, rfl, rfl, rfl, rfl, rfl, rfl, trivial⟩
    refine v_if_ne hX (tgt := 910) 478 rfl (by decide) (fun c902 => ?_) (fun c902 => ?_)
    · skip
      refine v_bipush hX (v := 30) 481 rfl (by decide) ?_
      exact V.sub (j912 _ 30 rfl (by decide)) rfl ⟨rfl, rfl, rfl, rfl, rfl, rfl, rfl, rfl, rfl, rfl, rfl, rfl, rfl, rfl, rfl, rfl, trivial⟩
    · skip
      refine v_bipush hX (v := 99) 479 rfl (by decide) ?_
      refine v_goto hX (tgt := 912) 480 rfl (by decide) ?_
      exact V.sub (j912 _ 99 rfl (by decide)) rfl ⟨rfl, rfl, rfl, rfl, rfl, rfl, rfl, rfl, rfl, rfl, rfl, rfl, rfl, rfl, rfl, rfl, trivial⟩
