set_option maxRecDepth 100000 in
set_option maxHeartbeats 8000000 in
theorem l_law_disp {Y : Yt} {X : XT} {M : Mm} (hX : vOK Y X iL_law 22 "PointAnswersLaw" room_1 (some .boolean)) {b e n la dy : Nat} (hk : ∀ N n2 la2 dy2, LI N n2 la2 dy2 → V Y X N 948 [some (.ref b), some (.ref (Y.2.2.2.1 0)), some (.ref (Y.2.2.2.1 270)), some (.ref (Y.2.2.2.1 271)), some (.ref (Y.2.2.2.1 272)), some (.ref (Y.2.2.2.1 273)), some (.ref (Y.2.2.2.1 274)), some (.ref (Y.2.2.2.1 275)), some (.ref (Y.2.2.2.1 276)), some (.ref (Y.2.2.2.1 277)), some (.ref (Y.2.2.2.1 278)), some (.int (nI e)), none, none, none, none, some (.int 1), none, none, none, none, none] []) (hL : LI M n la dy) {N : Nat} {xs : Nat → Int32} (he : e < 52) (hsc : scp X b N xs) (hN : N < 2 ^ 31) : V Y X M 81 [some (.ref b), some (.ref (Y.2.2.2.1 0)), some (.ref (Y.2.2.2.1 270)), some (.ref (Y.2.2.2.1 271)), some (.ref (Y.2.2.2.1 272)), some (.ref (Y.2.2.2.1 273)), some (.ref (Y.2.2.2.1 274)), some (.ref (Y.2.2.2.1 275)), some (.ref (Y.2.2.2.1 276)), some (.ref (Y.2.2.2.1 277)), some (.ref (Y.2.2.2.1 278)), some (.int (nI e)), none, none, none, none, none, none, none, none, none, none] [] := by
  have hn : n ≤ 24 := hL.1.2.1
  have hw := hL.1.2.2.1
  have hS := hL.2.2.1
  have h2 : M.1 1 2 = nI dy := hL.1.2.2.2.2.2.2.2.2.1
  have hdy : dy ≤ 999 := hL.1.2.2.2.2.2.2.2.2.2.1
  have hT2 : M.1 278 2 = nI dy := hL.2.2.2.2.2.2.1.trans h2
  have hT3 : M.1 278 3 = nI n := hL.2.2.2.2.2.2.2.1
  have hT4 : M.1 278 4 = M.1 1 3 := hL.2.2.2.2.2.2.2.2
  refine v_aload_n hX 0 44 rfl rfl rfl ?_
  refine v_iload hX 45 rfl rfl ?_
  refine v_callSS hX 2 hsc (l_cell (M := M) (N := N) (k := e) (xs := xs) hN (by omega)) tw_351 tw_349 tw_350 tw_38 (by decide +kernel) ⟨⟨rfl, rfl⟩, Nat.le_of_ble_eq_true rfl, Nat.le_of_ble_eq_true rfl⟩ rfl (Nat.le_of_ble_eq_true rfl) rfl rfl 46 rfl ?_
  obtain ⟨v, hv⟩ : ∃ z9, z9 = (if e < N then xs e else 32452867 * nI e + 15485863) := ⟨_, rfl⟩
  rw [← hv]
  refine v_istore hX 47 rfl (Nat.le_of_ble_eq_true rfl) rfl ?_
  refine v_iload hX 48 rfl rfl ?_
  refine v_bipush hX (v := 16) 49 rfl (by decide) ?_
  refine v_callS hX 2 (l_low (n := 16) (by decide) (by decide)) tw_356 tw_354 tw_355 tw_38 (by decide +kernel) ⟨⟨rfl, rfl⟩, Nat.le_of_ble_eq_true rfl, Nat.le_of_ble_eq_true rfl⟩ rfl (Nat.le_of_ble_eq_true rfl) rfl rfl 50 rfl ?_
  obtain ⟨kd, hkd, hkde⟩ : ∃ z9, z9 < 16 ∧ lo0 v 16 = z9 := ⟨_, lo0_lt (by decide), rfl⟩
  rw [hkde]
  refine v_istore hX 51 rfl (Nat.le_of_ble_eq_true rfl) rfl ?_
  have j122 : ∀ (x0 : Int32) (a : Nat), x0 = nI a → (0 < n → a < n) → V Y X M 122 [some (.ref b), some (.ref (Y.2.2.2.1 0)), some (.ref (Y.2.2.2.1 270)), some (.ref (Y.2.2.2.1 271)), some (.ref (Y.2.2.2.1 272)), some (.ref (Y.2.2.2.1 273)), some (.ref (Y.2.2.2.1 274)), some (.ref (Y.2.2.2.1 275)), some (.ref (Y.2.2.2.1 276)), some (.ref (Y.2.2.2.1 277)), some (.ref (Y.2.2.2.1 278)), some (.int (nI e)), some (.int v), some (.int (nI kd)), some (.int (nI n)), none, none, none, none, none, none, none] [.int x0] := by
    intro x0 a hx0 ha0
    subst hx0
    refine v_istore hX 65 rfl (Nat.le_of_ble_eq_true rfl) rfl ?_
    refine v_iconst hX (v := 1) 66 rfl (by decide) ?_
    refine v_istore hX 67 rfl (Nat.le_of_ble_eq_true rfl) rfl ?_
    have j636 : V Y X M 636 [some (.ref b), some (.ref (Y.2.2.2.1 0)), some (.ref (Y.2.2.2.1 270)), some (.ref (Y.2.2.2.1 271)), some (.ref (Y.2.2.2.1 272)), some (.ref (Y.2.2.2.1 273)), some (.ref (Y.2.2.2.1 274)), some (.ref (Y.2.2.2.1 275)), some (.ref (Y.2.2.2.1 276)), some (.ref (Y.2.2.2.1 277)), some (.ref (Y.2.2.2.1 278)), some (.int (nI e)), some (.int v), some (.int (nI kd)), some (.int (nI n)), some (.int (nI a)), some (.int 1), none, none, none, none, none] [] := by
      skip
      refine v_iload hX 335 rfl rfl ?_
      refine v_bipush hX (v := 13) 336 rfl (by decide) ?_
      refine v_icmp_ge hX (tgt := 694) 337 rfl (by decide) (fun c640 => ?_) (fun c640 => ?_)
      · skip
        refine v_iload hX 369 rfl rfl ?_
        refine v_bipush hX (v := 15) 370 rfl (by decide) ?_
        refine v_icmp_ge hX (tgt := 856) 371 rfl (by decide) (fun c698 => ?_) (fun c698 => ?_)
        · skip
          exact V.sub (l_law_st hX hk hL) rfl ⟨rfl, rfl, rfl, rfl, rfl, rfl, rfl, rfl, rfl, rfl, rfl, rfl, rfl, rfl, rfl, trivial⟩
        · skip
          exact V.sub (l_law_ps hX hk hL) rfl ⟨rfl, rfl, rfl, rfl, rfl, rfl, rfl, rfl, rfl, rfl, rfl, rfl, rfl, rfl, rfl, trivial⟩
      · skip
        exact V.sub (l_law_ov hX hk hL) rfl ⟨rfl, rfl, rfl, rfl, rfl, rfl, rfl, rfl, rfl, rfl, rfl, rfl, rfl, rfl, rfl, trivial⟩
    have j540 : V Y X M 540 [some (.ref b), some (.ref (Y.2.2.2.1 0)), some (.ref (Y.2.2.2.1 270)), some (.ref (Y.2.2.2.1 271)), some (.ref (Y.2.2.2.1 272)), some (.ref (Y.2.2.2.1 273)), some (.ref (Y.2.2.2.1 274)), some (.ref (Y.2.2.2.1 275)), some (.ref (Y.2.2.2.1 276)), some (.ref (Y.2.2.2.1 277)), some (.ref (Y.2.2.2.1 278)), some (.int (nI e)), some (.int v), some (.int (nI kd)), some (.int (nI n)), some (.int (nI a)), some (.int 1), none, none, none, none, none] [] := by
      skip
      refine v_iload hX 286 rfl rfl ?_
      refine v_bipush hX (v := 10) 287 rfl (by decide) ?_
      refine v_icmp_ne hX (tgt := 636) 288 rfl (by decide) (fun c544 => ?_) (fun c544 => ?_)
      · skip
        exact V.sub (j636) rfl ⟨rfl, rfl, rfl, rfl, rfl, rfl, rfl, rfl, rfl, rfl, rfl, rfl, rfl, rfl, rfl, rfl, rfl, trivial⟩
      · skip
        refine v_iload hX 289 rfl rfl ?_
        refine v_if_le hX (tgt := 636) 290 rfl (by decide) (fun c549 => ?_) (fun c549 => ?_)
        · skip
          exact V.sub (j636) rfl ⟨rfl, rfl, rfl, rfl, rfl, rfl, rfl, rfl, rfl, rfl, rfl, rfl, rfl, rfl, rfl, rfl, rfl, trivial⟩
        · skip
          by_cases hg : cp M 1 a 3 = -6 ∨ ¬ cp M 1 a 6 = 0
          · exact V.sub (l_law_rn0 hX hk hL (ha0 (Nat.pos_of_ne_zero (fun g => c549 (by rw [g]; decide)))) hg) rfl ⟨rfl, rfl, rfl, rfl, rfl, rfl, rfl, rfl, rfl, rfl, rfl, rfl, rfl, rfl, rfl, rfl, rfl, trivial⟩
          · exact V.sub (l_law_rn1 hX hk hL (ha0 (Nat.pos_of_ne_zero (fun g => c549 (by rw [g]; decide)))) hg) rfl ⟨rfl, rfl, rfl, rfl, rfl, rfl, rfl, rfl, rfl, rfl, rfl, rfl, rfl, rfl, rfl, rfl, rfl, trivial⟩
    have j409 : V Y X M 409 [some (.ref b), some (.ref (Y.2.2.2.1 0)), some (.ref (Y.2.2.2.1 270)), some (.ref (Y.2.2.2.1 271)), some (.ref (Y.2.2.2.1 272)), some (.ref (Y.2.2.2.1 273)), some (.ref (Y.2.2.2.1 274)), some (.ref (Y.2.2.2.1 275)), some (.ref (Y.2.2.2.1 276)), some (.ref (Y.2.2.2.1 277)), some (.ref (Y.2.2.2.1 278)), some (.int (nI e)), some (.int v), some (.int (nI kd)), some (.int (nI n)), some (.int (nI a)), some (.int 1), none, none, none, none, none] [] := by
      skip
      refine v_iload hX 220 rfl rfl ?_
      refine v_bipush hX (v := 9) 221 rfl (by decide) ?_
      refine v_icmp_ne hX (tgt := 540) 222 rfl (by decide) (fun c413 => ?_) (fun c413 => ?_)
      · skip
        exact V.sub (j540) rfl ⟨rfl, rfl, rfl, rfl, rfl, rfl, rfl, rfl, rfl, rfl, rfl, rfl, rfl, rfl, rfl, rfl, rfl, trivial⟩
      · skip
        refine v_iload hX 223 rfl rfl ?_
        refine v_if_le hX (tgt := 540) 224 rfl (by decide) (fun c418 => ?_) (fun c418 => ?_)
        · skip
          exact V.sub (j540) rfl ⟨rfl, rfl, rfl, rfl, rfl, rfl, rfl, rfl, rfl, rfl, rfl, rfl, rfl, rfl, rfl, rfl, rfl, trivial⟩
        · skip
          exact V.sub (l_law_wd hX hk hL (ha0 (Nat.pos_of_ne_zero (fun g => c418 (by rw [g]; decide)))) j540) rfl ⟨rfl, rfl, rfl, rfl, rfl, rfl, rfl, rfl, rfl, rfl, rfl, rfl, rfl, rfl, rfl, rfl, rfl, trivial⟩
    refine v_iload hX 68 rfl rfl ?_
    refine v_bipush hX (v := 9) 69 rfl (by decide) ?_
    refine v_icmp_ge hX (tgt := 409) 70 rfl (by decide) (fun c131 => ?_) (fun c131 => ?_)
    · skip
      exact V.sub (j409) rfl ⟨rfl, rfl, rfl, rfl, rfl, rfl, rfl, rfl, rfl, rfl, rfl, rfl, rfl, rfl, rfl, rfl, rfl, trivial⟩
    · skip
      refine v_iload hX 71 rfl rfl ?_
      refine v_bipush hX (v := 24) 72 rfl (by decide) ?_
      refine v_icmp_ge hX (tgt := 409) 73 rfl (by decide) (fun c138 => ?_) (fun c138 => ?_)
      · skip
        exact V.sub (j409) rfl ⟨rfl, rfl, rfl, rfl, rfl, rfl, rfl, rfl, rfl, rfl, rfl, rfl, rfl, rfl, rfl, rfl, rfl, trivial⟩
      · skip
        exact V.sub (l_law_new hX hk hL (of_nle (a := 24) c138 (by omega) (by omega)) (of_nle (a := 9) c131 (by omega) (by omega)) ha0) rfl ⟨rfl, rfl, rfl, rfl, rfl, rfl, rfl, rfl, rfl, rfl, rfl, rfl, rfl, rfl, rfl, rfl, rfl, trivial⟩
  refine v_aload hX 52 rfl rfl ?_
  refine v_iconst hX (v := 3) 53 rfl (by decide) ?_
  refine v_ialg hX aC_278 (vp_in_nI (n := 3) (by decide) (by decide)) 54 rfl ?_
  rw [show M.1 278 (0 + Int32.toNatClampNeg 3) = nI n from hT3]
  refine v_istore hX 55 rfl (Nat.le_of_ble_eq_true rfl) rfl ?_
  refine v_iload hX 56 rfl rfl ?_
  refine v_if_ne hX (tgt := 113) 57 rfl (by decide) (fun c106 => ?_) (fun c106 => ?_)
  · skip
    have hn0 : 0 < n := Nat.pos_of_ne_zero (fun g => c106 (by rw [g]; rfl))
    refine v_iload hX 60 rfl rfl ?_
    refine v_iconst hX (v := 4) 61 rfl (by decide) ?_
    refine v_ishr hX 62 rfl ?_
    refine v_iload hX 63 rfl rfl ?_
    refine v_callS hX 2 (l_low (n := n) hn0 (by omega)) tw_356 tw_354 tw_355 tw_38 (by decide +kernel) ⟨⟨rfl, rfl⟩, Nat.le_of_ble_eq_true rfl, Nat.le_of_ble_eq_true rfl⟩ rfl (Nat.le_of_ble_eq_true rfl) rfl rfl 64 rfl ?_
    exact V.sub (j122 _ (lo0 (v >>> ((4 : Int32) &&& 31)) n) rfl (fun _ => lo0_lt hn0)) rfl ⟨rfl, rfl, rfl, rfl, rfl, rfl, rfl, rfl, rfl, rfl, rfl, rfl, rfl, rfl, rfl, trivial⟩
  · skip
    refine v_iconst hX (v := 0) 58 rfl (by decide) ?_
    refine v_goto hX (tgt := 122) 59 rfl (by decide) ?_
    exact V.sub (j122 _ 0 rfl (fun g => absurd c106 (nI_ne0 g (by omega)))) rfl ⟨rfl, rfl, rfl, rfl, rfl, rfl, rfl, rfl, rfl, rfl, rfl, rfl, rfl, rfl, rfl, trivial⟩
theorem po_LI {Y : Yt} {M : Mm} {n la dy : Nat} (h0 : Y.2.2.2.2.2 = []) (hL : LI M n la dy) (hW : ∀ i, i < n → M.1 277 i = wv M n i) : FnA Y yL_points wsL_points { frames := 6, cells := 2, slots := 8, locals := 132 } [.ref (Y.2.2.2.1 0), .ref (Y.2.2.2.1 270), .ref (Y.2.2.2.1 271), .ref (Y.2.2.2.1 272), .ref (Y.2.2.2.1 273), .ref (Y.2.2.2.1 274), .ref (Y.2.2.2.1 275), .ref (Y.2.2.2.1 276), .ref (Y.2.2.2.1 277), .ref (Y.2.2.2.1 278)] M (some (.int 1)) (fun M1 => M1 = M) 2 8 := by
  obtain ⟨⟨hz, hn, hw, h9, h5d, hsd, h4, hla, h2, hdy, h5⟩, hh, hS, h6, hT0, hT1, hT2, hT3, hT4⟩ := hL
  exact l_points h0 hz hn hw hS h9 hsd hT0 hT1 hT2 hT3 hT4 hla hdy h4 h2 h5 hW
theorem tr_LI {Y : Yt} {M : Mm} {n la dy : Nat} (h0 : Y.2.2.2.2.2 = []) (hL : LI M n la dy) (hW : ∀ i, i < n → M.1 277 i = wv M n i) : FnA Y yL_tries wsL_tries { frames := 6, cells := 3, slots := 72, locals := 129 } [.ref (Y.2.2.2.1 0), .ref (Y.2.2.2.1 270), .ref (Y.2.2.2.1 271), .ref (Y.2.2.2.1 273), .ref (Y.2.2.2.1 274), .ref (Y.2.2.2.1 275), .ref (Y.2.2.2.1 276), .ref (Y.2.2.2.1 277), .ref (Y.2.2.2.1 278)] M (some (.int 1)) (fun M1 => ∃ q, M1 = wM M q) 3 72 := by
  obtain ⟨⟨hz, hn, hw, h9, h5d, hsd, h4, hla, h2, hdy, h5⟩, hh, hS, h6, hT0, hT1, hT2, hT3, hT4⟩ := hL
  exact l_tries h0 hz hn hw hS h9 hsd hT0 hT1 hT2 hT3 hT4 hla hdy h4 h2 h5 hW
theorem da_LI {Y : Yt} {M : Mm} {n la dy : Nat} (h0 : Y.2.2.2.2.2 = []) (hL : LI M n la dy) (hW : ∀ i, i < n → M.1 277 i = wv M n i) : FnA Y yL_days wsL_days { frames := 5, cells := 1, slots := 24, locals := 111 } [.ref (Y.2.2.2.1 0), .ref (Y.2.2.2.1 270), .ref (Y.2.2.2.1 271), .ref (Y.2.2.2.1 273), .ref (Y.2.2.2.1 274), .ref (Y.2.2.2.1 275), .ref (Y.2.2.2.1 276), .ref (Y.2.2.2.1 277), .ref (Y.2.2.2.1 278)] M (some (.int 1)) (fun M1 => M1 = M) 1 24 := by
  obtain ⟨⟨hz, hn, hw, h9, h5d, hsd, h4, hla, h2, hdy, h5⟩, hh, hS, h6, hT0, hT1, hT2, hT3, hT4⟩ := hL
  exact l_days h0 hz hn hw hS h9 hsd hT0 hT1 hT2 hT3 hT4 hla hdy h4 h2 h5 hW h5d
theorem W_put {M : Mm} {n : Nat} {g : Nat → Int32} (hn : n ≤ 24) (hg : ∀ i, i < n → g i = wv M n i) : ∀ i, i < n → (mput M 277 0 24 g).1 277 i = wv (mput M 277 0 24 g) n i := by
  intro i hi
  have h := mput_at (M := M) (r := 277) (o := 0) (n := 24) (k := i) (g := g) (by omega)
  rw [Nat.zero_add] at h
  rw [h, hg i hi]
  exact (wv_cg (M := M) (M' := mput M 277 0 24 g) (fun i hi => by funext j; show (mput M 277 0 24 g).1 (1 + 2 + i) j = M.1 (1 + 2 + i) j; rw [mput_o (by omega)]) (mput_o (by decide)) i hi).symm
theorem W_wM {M : Mm} {n : Nat} {q : (Nat → Int32) × (Nat → Int32)} (hn : n ≤ 24) (hW : ∀ i, i < n → M.1 277 i = wv M n i) : ∀ i, i < n → (wM M q).1 277 i = wv (wM M q) n i := by
  intro i hi
  rw [wM_n (by decide), hW i hi]
  exact (wv_cg (M := M) (M' := wM M q) (fun i hi => by funext j; show (wM M q).1 (1 + 2 + i) j = M.1 (1 + 2 + i) j; rw [wM_n]; omega) (wM_n (by decide)) i hi).symm
set_option maxRecDepth 100000 in
set_option maxHeartbeats 8000000 in
theorem l_law_end {Y : Yt} {X : XT} {M : Mm} (hX : vOK Y X iL_law 22 "PointAnswersLaw" room_1 (some .boolean)) {b e n la dy : Nat} (h0 : Y.2.2.2.2.2 = []) (he : e < 52) (hxc : xce X + 6 ≤ 600000) (hxs : xsl X + 104 ≤ 7302250) (hL : LI M n la dy) (hk : ∀ c d N, c ≤ 6 → d ≤ 104 → LI N n la dy → V Y (xc X c d) N 1047 [some (.ref b), some (.ref (Y.2.2.2.1 0)), some (.ref (Y.2.2.2.1 270)), some (.ref (Y.2.2.2.1 271)), some (.ref (Y.2.2.2.1 272)), some (.ref (Y.2.2.2.1 273)), some (.ref (Y.2.2.2.1 274)), some (.ref (Y.2.2.2.1 275)), some (.ref (Y.2.2.2.1 276)), some (.ref (Y.2.2.2.1 277)), some (.ref (Y.2.2.2.1 278)), some (.int (nI e)), none, none, none, none, none, none, none, none, none, none] []) : V Y X M 948 [some (.ref b), some (.ref (Y.2.2.2.1 0)), some (.ref (Y.2.2.2.1 270)), some (.ref (Y.2.2.2.1 271)), some (.ref (Y.2.2.2.1 272)), some (.ref (Y.2.2.2.1 273)), some (.ref (Y.2.2.2.1 274)), some (.ref (Y.2.2.2.1 275)), some (.ref (Y.2.2.2.1 276)), some (.ref (Y.2.2.2.1 277)), some (.ref (Y.2.2.2.1 278)), some (.int (nI e)), none, none, none, none, some (.int 1), none, none, none, none, none] [] := by
  have hn : n ≤ 24 := hL.1.2.1
  refine v_aload_n hX 2 501 rfl rfl rfl ?_
  refine v_aload_n hX 3 502 rfl rfl rfl ?_
  refine v_aload hX 503 rfl rfl ?_
  refine v_aload hX 504 rfl rfl ?_
  refine v_aload hX 505 rfl rfl ?_
  refine v_aload hX 506 rfl rfl ?_
  refine v_aload hX 507 rfl rfl ?_
  refine v_aload hX 508 rfl rfl ?_
  refine v_iconst hX (v := 0) 509 rfl (by decide) ?_
  obtain ⟨g, hg9, hF⟩ := rs_g (Y := Y) (A := M) (M' := M) hL.1 hL.2.2.1 hL.2.2.2.2
  refine v_callS hX 9 (hF) tw_360 tw_358 tw_359 tw_38 (by decide +kernel) ⟨⟨rfl, rfl⟩, Nat.le_of_ble_eq_true rfl, Nat.le_of_ble_eq_true rfl⟩ rfl (Nat.le_of_ble_eq_true rfl) rfl rfl 510 rfl ?_
  have hL := hL.put (g := g)
  have hW := W_put hn hg9
  refine v_iload hX 511 rfl rfl ?_
  refine v_if_eq hX (tgt := 1045) 512 rfl (by decide) (fun c968 => absurd c968 (by decide)) (fun c968 => ?_)
  refine v_aload_n hX 1 513 rfl rfl rfl ?_
  refine v_aload_n hX 2 514 rfl rfl rfl ?_
  refine v_aload_n hX 3 515 rfl rfl rfl ?_
  refine v_aload hX 516 rfl rfl ?_
  refine v_aload hX 517 rfl rfl ?_
  refine v_aload hX 518 rfl rfl ?_
  refine v_aload hX 519 rfl rfl ?_
  refine v_aload hX 520 rfl rfl ?_
  refine v_aload hX 521 rfl rfl ?_
  refine v_aload hX 522 rfl rfl ?_
  refine v_callSA hX 10 (po_LI h0 hL hW) tw_363 tw_361 tw_362 tw_38 (by decide +kernel) ⟨⟨rfl, rfl⟩, Nat.le_of_ble_eq_true rfl, Nat.le_of_ble_eq_true rfl⟩ ⟨(by have e1 : room_1.cells = 600000 := rfl; have e2 : room_1.slots = 7302250 := rfl; have h1 := hxc; have h2 := hxs; (try simp only [xce_xc, xsl_xc]); omega), (by have e1 : room_1.cells = 600000 := rfl; have e2 : room_1.slots = 7302250 := rfl; have h1 := hxc; have h2 := hxs; (try simp only [xce_xc, xsl_xc]); omega)⟩ rfl (Nat.le_of_ble_eq_true rfl) rfl rfl 523 rfl (fun M9 hM9 => ?_)
  have hM9 : M9 = _ := hM9
  subst hM9
  have hX := hX.xc (a := 2) (b := 8) (by have e1 : room_1.cells = 600000 := rfl; have e2 : room_1.slots = 7302250 := rfl; have h1 := hxc; have h2 := hxs; (try simp only [xce_xc, xsl_xc]); omega) (by have e1 : room_1.cells = 600000 := rfl; have e2 : room_1.slots = 7302250 := rfl; have h1 := hxc; have h2 := hxs; (try simp only [xce_xc, xsl_xc]); omega)
  refine v_if_eq hX (tgt := 1045) 524 rfl (by decide) (fun c991 => absurd c991 (by decide)) (fun c991 => ?_)
  refine v_iload hX 525 rfl rfl ?_
  refine v_bipush hX (v := 6) 526 rfl (by decide) ?_
  refine v_irem hX (by decide) (nI_mod (a := e) (b := 6) (by omega) (by decide)) 527 rfl ?_
  refine v_iconst hX (v := 5) 528 rfl (by decide) ?_
  refine v_icmp_ne hX (tgt := 1047) 529 rfl (by decide) (fun c1000 => ?_) (fun c1000 => ?_)
  · skip
    exact V.sub (hk 2 8 _ (by decide) (by decide) hL) rfl ⟨rfl, rfl, rfl, rfl, rfl, rfl, rfl, rfl, rfl, rfl, rfl, rfl, trivial⟩
  · skip
    refine v_aload_n hX 1 530 rfl rfl rfl ?_
    refine v_aload_n hX 2 531 rfl rfl rfl ?_
    refine v_aload_n hX 3 532 rfl rfl rfl ?_
    refine v_aload hX 533 rfl rfl ?_
    refine v_aload hX 534 rfl rfl ?_
    refine v_aload hX 535 rfl rfl ?_
    refine v_aload hX 536 rfl rfl ?_
    refine v_aload hX 537 rfl rfl ?_
    refine v_aload hX 538 rfl rfl ?_
    refine v_callSA hX 9 (tr_LI h0 hL hW) tw_443 tw_441 tw_442 tw_38 (by decide +kernel) ⟨⟨rfl, rfl⟩, Nat.le_of_ble_eq_true rfl, Nat.le_of_ble_eq_true rfl⟩ ⟨(by have e1 : room_1.cells = 600000 := rfl; have e2 : room_1.slots = 7302250 := rfl; have h1 := hxc; have h2 := hxs; (try simp only [xce_xc, xsl_xc]); omega), (by have e1 : room_1.cells = 600000 := rfl; have e2 : room_1.slots = 7302250 := rfl; have h1 := hxc; have h2 := hxs; (try simp only [xce_xc, xsl_xc]); omega)⟩ rfl (Nat.le_of_ble_eq_true rfl) rfl rfl 539 rfl (fun M9 hM9 => ?_)
    obtain ⟨q, rfl⟩ := hM9
    have hX := hX.xc (a := 3) (b := 72) (by have e1 : room_1.cells = 600000 := rfl; have e2 : room_1.slots = 7302250 := rfl; have h1 := hxc; have h2 := hxs; (try simp only [xce_xc, xsl_xc]); omega) (by have e1 : room_1.cells = 600000 := rfl; have e2 : room_1.slots = 7302250 := rfl; have h1 := hxc; have h2 := hxs; (try simp only [xce_xc, xsl_xc]); omega)
    have hW := W_wM (q := q) hn hW
    have hL := hL.wM (q := q)
    refine v_if_eq hX (tgt := 1045) 540 rfl (by decide) (fun c1021 => absurd c1021 (by decide)) (fun c1021 => ?_)
    refine v_aload_n hX 1 541 rfl rfl rfl ?_
    refine v_aload_n hX 2 542 rfl rfl rfl ?_
    refine v_aload_n hX 3 543 rfl rfl rfl ?_
    refine v_aload hX 544 rfl rfl ?_
    refine v_aload hX 545 rfl rfl ?_
    refine v_aload hX 546 rfl rfl ?_
    refine v_aload hX 547 rfl rfl ?_
    refine v_aload hX 548 rfl rfl ?_
    refine v_aload hX 549 rfl rfl ?_
    refine v_callSA hX 9 (da_LI h0 hL hW) tw_489 tw_487 tw_488 tw_38 (by decide +kernel) ⟨⟨rfl, rfl⟩, Nat.le_of_ble_eq_true rfl, Nat.le_of_ble_eq_true rfl⟩ ⟨(by have e1 : room_1.cells = 600000 := rfl; have e2 : room_1.slots = 7302250 := rfl; have h1 := hxc; have h2 := hxs; (try simp only [xce_xc, xsl_xc]); omega), (by have e1 : room_1.cells = 600000 := rfl; have e2 : room_1.slots = 7302250 := rfl; have h1 := hxc; have h2 := hxs; (try simp only [xce_xc, xsl_xc]); omega)⟩ rfl (Nat.le_of_ble_eq_true rfl) rfl rfl 550 rfl (fun M9 hM9 => ?_)
    have hM9 : M9 = _ := hM9
    subst hM9
    have hX := hX.xc (a := 1) (b := 24) (by have e1 : room_1.cells = 600000 := rfl; have e2 : room_1.slots = 7302250 := rfl; have h1 := hxc; have h2 := hxs; (try simp only [xce_xc, xsl_xc]); omega) (by have e1 : room_1.cells = 600000 := rfl; have e2 : room_1.slots = 7302250 := rfl; have h1 := hxc; have h2 := hxs; (try simp only [xce_xc, xsl_xc]); omega)
    refine v_if_ne hX (tgt := 1047) 551 rfl (by decide) (fun c1042 => ?_) (fun c1042 => absurd c1042 (by decide))
    rw [xc_xc, xc_xc]
    exact V.sub (hk 6 104 _ (by decide) (by decide) hL) rfl ⟨rfl, rfl, rfl, rfl, rfl, rfl, rfl, rfl, rfl, rfl, rfl, rfl, trivial⟩
set_option maxRecDepth 100000 in
set_option maxHeartbeats 8000000 in
theorem l_law_loop {Y : Yt} {X : XT} {b N : Nat} {xs : Nat → Int32} (hX : vOK Y X iL_law 22 "PointAnswersLaw" room_1 (some .boolean)) (h0 : Y.2.2.2.2.2 = []) (hsc : scp X b N xs) (hN : N < 2 ^ 31) (hxc : xce X + 312 ≤ 600000) (hxs : xsl X + 5408 ≤ 7302250) (hend : ∀ a9 b9 M, a9 ≤ 312 → b9 ≤ 5408 → V Y (xc X a9 b9) M 1053 [some (.ref b), some (.ref (Y.2.2.2.1 0)), some (.ref (Y.2.2.2.1 270)), some (.ref (Y.2.2.2.1 271)), some (.ref (Y.2.2.2.1 272)), some (.ref (Y.2.2.2.1 273)), some (.ref (Y.2.2.2.1 274)), some (.ref (Y.2.2.2.1 275)), some (.ref (Y.2.2.2.1 276)), some (.ref (Y.2.2.2.1 277)), some (.ref (Y.2.2.2.1 278)), some (.int (nI 52)), none, none, none, none, none, none, none, none, none, none] []) : ∀ e, e ≤ 52 → ∀ a9 b9 M n la dy, a9 ≤ 6 * e → b9 ≤ 104 * e → LI M n la dy → V Y (xc X a9 b9) M 74 [some (.ref b), some (.ref (Y.2.2.2.1 0)), some (.ref (Y.2.2.2.1 270)), some (.ref (Y.2.2.2.1 271)), some (.ref (Y.2.2.2.1 272)), some (.ref (Y.2.2.2.1 273)), some (.ref (Y.2.2.2.1 274)), some (.ref (Y.2.2.2.1 275)), some (.ref (Y.2.2.2.1 276)), some (.ref (Y.2.2.2.1 277)), some (.ref (Y.2.2.2.1 278)), some (.int (nI e)), none, none, none, none, none, none, none, none, none, none] [] := by
  have e1 : room_1.cells = 600000 := rfl
  have e2 : room_1.slots = 7302250 := rfl
  refine upTo 52 (fun e he0 ih => ?_)
  intro a9 b9 M n la dy ha hb hL
  have hX2 := hX.xc (a := a9) (b := b9) (by omega) (by omega)
  refine v_iload hX2 41 rfl rfl ?_
  refine v_bipush hX2 (v := 52) 42 rfl (by decide) ?_
  refine v_icmp_ge hX2 (tgt := 1053) 43 rfl (by decide) (fun c => ?_) (fun c => ?_)
  · have h52 : 52 = e := by have := of_le (a := 52) c (by omega) (by omega); omega
    subst h52
    exact hend a9 b9 M (by omega) (by omega)
  · have he : e < 52 := of_nle (a := 52) c (by omega) (by omega)
    refine l_law_disp hX2 (fun M2 n2 la2 dy2 hL2 => ?_) hL he hsc.xc hN
    refine l_law_end hX2 h0 he (by rw [xce_xc]; omega) (by rw [xsl_xc]; omega) hL2 (fun c9 d9 M3 hc hd hL3 => ?_)
    rw [xc_xc]
    have hX3 := hX.xc (a := a9 + c9) (b := b9 + d9) (by omega) (by omega)
    refine v_iinc hX3 554 rfl rfl (nI_inc e) (Nat.le_of_ble_eq_true rfl) rfl ?_
    refine v_goto hX3 (tgt := 74) 555 rfl (by decide) ?_
    exact V.sub (ih he (a9 + c9) (b9 + d9) M3 n2 la2 dy2 (by omega) (by omega) hL3) rfl ⟨rfl, rfl, rfl, rfl, rfl, rfl, rfl, rfl, rfl, rfl, rfl, rfl, trivial⟩
