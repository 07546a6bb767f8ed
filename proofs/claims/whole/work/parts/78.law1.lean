set_option maxRecDepth 100000 in
set_option maxHeartbeats 4000000 in
theorem l_0 {Y : Yt} {X : XT} {M : Mm} {b L i : Nat} {xs : Nat → Int32} (hX : vOK Y X iL_law 4 "PointAnswersLaw" room_1 (some .boolean)) (hs : sc X b L xs) (hL : L ≤ 2048) (hi : i + 4 ≤ L) (h : Sim M) (kk : ∀ M2, Sim M2 → V Y X M2 699 [some (.ref b), some (.ref (Y.2.2.2 0)), some (.ref (Y.2.2.2 270)), some (.int (nI i))] []) : V Y X M 140 [some (.ref b), some (.ref (Y.2.2.2 0)), some (.ref (Y.2.2.2 270)), some (.int (nI i))] [] := by
  obtain ⟨r, M1, M2, F1, F2, S2⟩ := p_set (Y := Y) h (xs (nI i + 1).toNatClampNeg) (xs (nI i + 2).toNatClampNeg)
  have hi1 : vp_in (nI i + 1) L := by
    rw [show nI i + 1 = nI (i + 1) from nI_add i 1]
    exact vp_in_nI (by omega) (by omega)
  have hi2 : vp_in (nI i + 2) L := by
    rw [show nI i + 2 = nI (i + 2) from nI_add i 2]
    exact vp_in_nI (by omega) (by omega)
  have hi3 : vp_in (nI i + 3) L := by
    rw [show nI i + 3 = nI (i + 3) from nI_add i 3]
    exact vp_in_nI (by omega) (by omega)
  refine v_aload_n hX 1 22 rfl rfl rfl ?_
  refine v_aload_n hX 0 23 rfl rfl rfl ?_
  refine v_iload_n hX 3 24 rfl rfl rfl ?_
  refine v_iconst hX (v := 1) 25 rfl (by decide) ?_
  refine v_iadd hX 26 rfl ?_
  refine v_sld hX hs hi1 27 rfl ?_
  refine v_aload_n hX 0 28 rfl rfl rfl ?_
  refine v_iload_n hX 3 29 rfl rfl rfl ?_
  refine v_iconst hX (v := 2) 30 rfl (by decide) ?_
  refine v_iadd hX 31 rfl ?_
  refine v_sld hX hs hi2 32 rfl ?_
  refine v_callV hX 2 (by decide) rfl rfl F1 tw_283 tw_280 tw_281 tw_282 tw_92 (by decide +kernel) ⟨⟨rfl, rfl⟩, (Nat.le_of_ble_eq_true rfl), (Nat.le_of_ble_eq_true rfl)⟩ rfl (Nat.le_of_ble_eq_true rfl) rfl rfl 33 rfl ?_
  refine v_aload_n hX 2 34 rfl rfl rfl ?_
  refine v_aload_n hX 0 35 rfl rfl rfl ?_
  refine v_iload_n hX 3 36 rfl rfl rfl ?_
  refine v_iconst hX (v := 1) 37 rfl (by decide) ?_
  refine v_iadd hX 38 rfl ?_
  refine v_sld hX hs hi1 39 rfl ?_
  refine v_aload_n hX 0 40 rfl rfl rfl ?_
  refine v_iload_n hX 3 41 rfl rfl rfl ?_
  refine v_iconst hX (v := 2) 42 rfl (by decide) ?_
  refine v_iadd hX 43 rfl ?_
  refine v_sld hX hs hi2 44 rfl ?_
  refine v_callV hX 2 (by decide) rfl rfl F2 tw_715 tw_712 tw_713 tw_714 tw_99 (by decide +kernel) ⟨⟨rfl, rfl⟩, (Nat.le_of_ble_eq_true rfl), (Nat.le_of_ble_eq_true rfl)⟩ rfl (Nat.le_of_ble_eq_true rfl) rfl rfl 45 rfl ?_
  exact v_icmp_eq hX (tgt := 699) 46 rfl (by decide) (fun _ => kk M2 S2) (fun c => absurd rfl c)
set_option maxRecDepth 100000 in
set_option maxHeartbeats 4000000 in
theorem l_1 {Y : Yt} {X : XT} {M : Mm} {b L i : Nat} {xs : Nat → Int32} (hX : vOK Y X iL_law 4 "PointAnswersLaw" room_1 (some .boolean)) (hs : sc X b L xs) (hL : L ≤ 2048) (hi : i + 4 ≤ L) (h : Sim M) (kk : ∀ M2, Sim M2 → V Y X M2 699 [some (.ref b), some (.ref (Y.2.2.2 0)), some (.ref (Y.2.2.2 270)), some (.int (nI i))] []) : V Y X M 173 [some (.ref b), some (.ref (Y.2.2.2 0)), some (.ref (Y.2.2.2 270)), some (.int (nI i))] [] := by
  obtain ⟨r, M1, M2, F1, F2, S2⟩ := p_claim (Y := Y) h (xs (nI i + 1).toNatClampNeg) (xs (nI i + 2).toNatClampNeg) (xs (nI i + 3).toNatClampNeg)
  have hi1 : vp_in (nI i + 1) L := by
    rw [show nI i + 1 = nI (i + 1) from nI_add i 1]
    exact vp_in_nI (by omega) (by omega)
  have hi2 : vp_in (nI i + 2) L := by
    rw [show nI i + 2 = nI (i + 2) from nI_add i 2]
    exact vp_in_nI (by omega) (by omega)
  have hi3 : vp_in (nI i + 3) L := by
    rw [show nI i + 3 = nI (i + 3) from nI_add i 3]
    exact vp_in_nI (by omega) (by omega)
  refine v_aload_n hX 1 49 rfl rfl rfl ?_
  refine v_aload_n hX 0 50 rfl rfl rfl ?_
  refine v_iload_n hX 3 51 rfl rfl rfl ?_
  refine v_iconst hX (v := 1) 52 rfl (by decide) ?_
  refine v_iadd hX 53 rfl ?_
  refine v_sld hX hs hi1 54 rfl ?_
  refine v_aload_n hX 0 55 rfl rfl rfl ?_
  refine v_iload_n hX 3 56 rfl rfl rfl ?_
  refine v_iconst hX (v := 2) 57 rfl (by decide) ?_
  refine v_iadd hX 58 rfl ?_
  refine v_sld hX hs hi2 59 rfl ?_
  refine v_aload_n hX 0 60 rfl rfl rfl ?_
  refine v_iload_n hX 3 61 rfl rfl rfl ?_
  refine v_iconst hX (v := 3) 62 rfl (by decide) ?_
  refine v_iadd hX 63 rfl ?_
  refine v_sld hX hs hi3 64 rfl ?_
  refine v_callV hX 3 (by decide) rfl rfl F1 tw_319 tw_316 tw_317 tw_318 tw_92 (by decide +kernel) ⟨⟨rfl, rfl⟩, (Nat.le_of_ble_eq_true rfl), (Nat.le_of_ble_eq_true rfl)⟩ rfl (Nat.le_of_ble_eq_true rfl) rfl rfl 65 rfl ?_
  refine v_aload_n hX 2 66 rfl rfl rfl ?_
  refine v_aload_n hX 0 67 rfl rfl rfl ?_
  refine v_iload_n hX 3 68 rfl rfl rfl ?_
  refine v_iconst hX (v := 1) 69 rfl (by decide) ?_
  refine v_iadd hX 70 rfl ?_
  refine v_sld hX hs hi1 71 rfl ?_
  refine v_aload_n hX 0 72 rfl rfl rfl ?_
  refine v_iload_n hX 3 73 rfl rfl rfl ?_
  refine v_iconst hX (v := 2) 74 rfl (by decide) ?_
  refine v_iadd hX 75 rfl ?_
  refine v_sld hX hs hi2 76 rfl ?_
  refine v_aload_n hX 0 77 rfl rfl rfl ?_
  refine v_iload_n hX 3 78 rfl rfl rfl ?_
  refine v_iconst hX (v := 3) 79 rfl (by decide) ?_
  refine v_iadd hX 80 rfl ?_
  refine v_sld hX hs hi3 81 rfl ?_
  refine v_callV hX 3 (by decide) rfl rfl F2 tw_722 tw_719 tw_720 tw_721 tw_99 (by decide +kernel) ⟨⟨rfl, rfl⟩, (Nat.le_of_ble_eq_true rfl), (Nat.le_of_ble_eq_true rfl)⟩ rfl (Nat.le_of_ble_eq_true rfl) rfl rfl 82 rfl ?_
  exact v_icmp_eq hX (tgt := 699) 83 rfl (by decide) (fun _ => kk M2 S2) (fun c => absurd rfl c)
set_option maxRecDepth 100000 in
set_option maxHeartbeats 4000000 in
theorem l_2 {Y : Yt} {X : XT} {M : Mm} {b L i : Nat} {xs : Nat → Int32} (hX : vOK Y X iL_law 4 "PointAnswersLaw" room_1 (some .boolean)) (hs : sc X b L xs) (hL : L ≤ 2048) (hi : i + 4 ≤ L) (h : Sim M) (kk : ∀ M2, Sim M2 → V Y X M2 699 [some (.ref b), some (.ref (Y.2.2.2 0)), some (.ref (Y.2.2.2 270)), some (.int (nI i))] []) : V Y X M 216 [some (.ref b), some (.ref (Y.2.2.2 0)), some (.ref (Y.2.2.2 270)), some (.int (nI i))] [] := by
  obtain ⟨r, M1, M2, F1, F2, S2⟩ := p_answer (Y := Y) h (xs (nI i + 1).toNatClampNeg) (xs (nI i + 2).toNatClampNeg) (xs (nI i + 3).toNatClampNeg)
  have hi1 : vp_in (nI i + 1) L := by
    rw [show nI i + 1 = nI (i + 1) from nI_add i 1]
    exact vp_in_nI (by omega) (by omega)
  have hi2 : vp_in (nI i + 2) L := by
    rw [show nI i + 2 = nI (i + 2) from nI_add i 2]
    exact vp_in_nI (by omega) (by omega)
  have hi3 : vp_in (nI i + 3) L := by
    rw [show nI i + 3 = nI (i + 3) from nI_add i 3]
    exact vp_in_nI (by omega) (by omega)
  refine v_aload_n hX 1 86 rfl rfl rfl ?_
  refine v_aload_n hX 0 87 rfl rfl rfl ?_
  refine v_iload_n hX 3 88 rfl rfl rfl ?_
  refine v_iconst hX (v := 1) 89 rfl (by decide) ?_
  refine v_iadd hX 90 rfl ?_
  refine v_sld hX hs hi1 91 rfl ?_
  refine v_aload_n hX 0 92 rfl rfl rfl ?_
  refine v_iload_n hX 3 93 rfl rfl rfl ?_
  refine v_iconst hX (v := 2) 94 rfl (by decide) ?_
  refine v_iadd hX 95 rfl ?_
  refine v_sld hX hs hi2 96 rfl ?_
  refine v_aload_n hX 0 97 rfl rfl rfl ?_
  refine v_iload_n hX 3 98 rfl rfl rfl ?_
  refine v_iconst hX (v := 3) 99 rfl (by decide) ?_
  refine v_iadd hX 100 rfl ?_
  refine v_sld hX hs hi3 101 rfl ?_
  refine v_callV hX 3 (by decide) rfl rfl F1 tw_338 tw_335 tw_336 tw_337 tw_92 (by decide +kernel) ⟨⟨rfl, rfl⟩, (Nat.le_of_ble_eq_true rfl), (Nat.le_of_ble_eq_true rfl)⟩ rfl (Nat.le_of_ble_eq_true rfl) rfl rfl 102 rfl ?_
  refine v_aload_n hX 2 103 rfl rfl rfl ?_
  refine v_aload_n hX 0 104 rfl rfl rfl ?_
  refine v_iload_n hX 3 105 rfl rfl rfl ?_
  refine v_iconst hX (v := 1) 106 rfl (by decide) ?_
  refine v_iadd hX 107 rfl ?_
  refine v_sld hX hs hi1 108 rfl ?_
  refine v_aload_n hX 0 109 rfl rfl rfl ?_
  refine v_iload_n hX 3 110 rfl rfl rfl ?_
  refine v_iconst hX (v := 2) 111 rfl (by decide) ?_
  refine v_iadd hX 112 rfl ?_
  refine v_sld hX hs hi2 113 rfl ?_
  refine v_aload_n hX 0 114 rfl rfl rfl ?_
  refine v_iload_n hX 3 115 rfl rfl rfl ?_
  refine v_iconst hX (v := 3) 116 rfl (by decide) ?_
  refine v_iadd hX 117 rfl ?_
  refine v_sld hX hs hi3 118 rfl ?_
  refine v_callV hX 3 (by decide) rfl rfl F2 tw_741 tw_738 tw_739 tw_740 tw_99 (by decide +kernel) ⟨⟨rfl, rfl⟩, (Nat.le_of_ble_eq_true rfl), (Nat.le_of_ble_eq_true rfl)⟩ rfl (Nat.le_of_ble_eq_true rfl) rfl rfl 119 rfl ?_
  exact v_icmp_eq hX (tgt := 699) 120 rfl (by decide) (fun _ => kk M2 S2) (fun c => absurd rfl c)
set_option maxRecDepth 100000 in
set_option maxHeartbeats 4000000 in
theorem l_3 {Y : Yt} {X : XT} {M : Mm} {b L i : Nat} {xs : Nat → Int32} (hX : vOK Y X iL_law 4 "PointAnswersLaw" room_1 (some .boolean)) (hs : sc X b L xs) (hL : L ≤ 2048) (hi : i + 4 ≤ L) (h : Sim M) (kk : ∀ M2, Sim M2 → V Y X M2 699 [some (.ref b), some (.ref (Y.2.2.2 0)), some (.ref (Y.2.2.2 270)), some (.int (nI i))] []) : V Y X M 259 [some (.ref b), some (.ref (Y.2.2.2 0)), some (.ref (Y.2.2.2 270)), some (.int (nI i))] [] := by
  obtain ⟨r, M1, M2, F1, F2, S2⟩ := p_withdraw (Y := Y) h (xs (nI i + 1).toNatClampNeg)
  have hi1 : vp_in (nI i + 1) L := by
    rw [show nI i + 1 = nI (i + 1) from nI_add i 1]
    exact vp_in_nI (by omega) (by omega)
  have hi2 : vp_in (nI i + 2) L := by
    rw [show nI i + 2 = nI (i + 2) from nI_add i 2]
    exact vp_in_nI (by omega) (by omega)
  have hi3 : vp_in (nI i + 3) L := by
    rw [show nI i + 3 = nI (i + 3) from nI_add i 3]
    exact vp_in_nI (by omega) (by omega)
  refine v_aload_n hX 1 123 rfl rfl rfl ?_
  refine v_aload_n hX 0 124 rfl rfl rfl ?_
  refine v_iload_n hX 3 125 rfl rfl rfl ?_
  refine v_iconst hX (v := 1) 126 rfl (by decide) ?_
  refine v_iadd hX 127 rfl ?_
  refine v_sld hX hs hi1 128 rfl ?_
  refine v_callV hX 1 (by decide) rfl rfl F1 tw_346 tw_343 tw_344 tw_345 tw_92 (by decide +kernel) ⟨⟨rfl, rfl⟩, (Nat.le_of_ble_eq_true rfl), (Nat.le_of_ble_eq_true rfl)⟩ rfl (Nat.le_of_ble_eq_true rfl) rfl rfl 129 rfl ?_
  refine v_aload_n hX 2 130 rfl rfl rfl ?_
  refine v_aload_n hX 0 131 rfl rfl rfl ?_
  refine v_iload_n hX 3 132 rfl rfl rfl ?_
  refine v_iconst hX (v := 1) 133 rfl (by decide) ?_
  refine v_iadd hX 134 rfl ?_
  refine v_sld hX hs hi1 135 rfl ?_
  refine v_callV hX 1 (by decide) rfl rfl F2 tw_761 tw_758 tw_759 tw_760 tw_99 (by decide +kernel) ⟨⟨rfl, rfl⟩, (Nat.le_of_ble_eq_true rfl), (Nat.le_of_ble_eq_true rfl)⟩ rfl (Nat.le_of_ble_eq_true rfl) rfl rfl 136 rfl ?_
  exact v_icmp_eq hX (tgt := 699) 137 rfl (by decide) (fun _ => kk M2 S2) (fun c => absurd rfl c)
set_option maxRecDepth 100000 in
set_option maxHeartbeats 4000000 in
theorem l_4 {Y : Yt} {X : XT} {M : Mm} {b L i : Nat} {xs : Nat → Int32} (hX : vOK Y X iL_law 4 "PointAnswersLaw" room_1 (some .boolean)) (hs : sc X b L xs) (hL : L ≤ 2048) (hi : i + 4 ≤ L) (h : Sim M) (kk : ∀ M2, Sim M2 → V Y X M2 699 [some (.ref b), some (.ref (Y.2.2.2 0)), some (.ref (Y.2.2.2 270)), some (.int (nI i))] []) : V Y X M 282 [some (.ref b), some (.ref (Y.2.2.2 0)), some (.ref (Y.2.2.2 270)), some (.int (nI i))] [] := by
  obtain ⟨r, M1, M2, F1, F2, S2⟩ := p_renew (Y := Y) h (xs (nI i + 1).toNatClampNeg)
  have hi1 : vp_in (nI i + 1) L := by
    rw [show nI i + 1 = nI (i + 1) from nI_add i 1]
    exact vp_in_nI (by omega) (by omega)
  have hi2 : vp_in (nI i + 2) L := by
    rw [show nI i + 2 = nI (i + 2) from nI_add i 2]
    exact vp_in_nI (by omega) (by omega)
  have hi3 : vp_in (nI i + 3) L := by
    rw [show nI i + 3 = nI (i + 3) from nI_add i 3]
    exact vp_in_nI (by omega) (by omega)
  refine v_aload_n hX 1 140 rfl rfl rfl ?_
  refine v_aload_n hX 0 141 rfl rfl rfl ?_
  refine v_iload_n hX 3 142 rfl rfl rfl ?_
  refine v_iconst hX (v := 1) 143 rfl (by decide) ?_
  refine v_iadd hX 144 rfl ?_
  refine v_sld hX hs hi1 145 rfl ?_
  refine v_callV hX 1 (by decide) rfl rfl F1 tw_395 tw_392 tw_393 tw_394 tw_92 (by decide +kernel) ⟨⟨rfl, rfl⟩, (Nat.le_of_ble_eq_true rfl), (Nat.le_of_ble_eq_true rfl)⟩ rfl (Nat.le_of_ble_eq_true rfl) rfl rfl 146 rfl ?_
  refine v_aload_n hX 2 147 rfl rfl rfl ?_
  refine v_aload_n hX 0 148 rfl rfl rfl ?_
  refine v_iload_n hX 3 149 rfl rfl rfl ?_
  refine v_iconst hX (v := 1) 150 rfl (by decide) ?_
  refine v_iadd hX 151 rfl ?_
  refine v_sld hX hs hi1 152 rfl ?_
  refine v_callV hX 1 (by decide) rfl rfl F2 tw_800 tw_797 tw_798 tw_799 tw_99 (by decide +kernel) ⟨⟨rfl, rfl⟩, (Nat.le_of_ble_eq_true rfl), (Nat.le_of_ble_eq_true rfl)⟩ rfl (Nat.le_of_ble_eq_true rfl) rfl rfl 153 rfl ?_
  exact v_icmp_eq hX (tgt := 699) 154 rfl (by decide) (fun _ => kk M2 S2) (fun c => absurd rfl c)
set_option maxRecDepth 100000 in
set_option maxHeartbeats 4000000 in
theorem l_5 {Y : Yt} {X : XT} {M : Mm} {b L i : Nat} {xs : Nat → Int32} (hX : vOK Y X iL_law 4 "PointAnswersLaw" room_1 (some .boolean)) (hs : sc X b L xs) (hL : L ≤ 2048) (hi : i + 4 ≤ L) (h : Sim M) (kk : ∀ M2, Sim M2 → V Y X M2 699 [some (.ref b), some (.ref (Y.2.2.2 0)), some (.ref (Y.2.2.2 270)), some (.int (nI i))] []) : V Y X M 305 [some (.ref b), some (.ref (Y.2.2.2 0)), some (.ref (Y.2.2.2 270)), some (.int (nI i))] [] := by
  obtain ⟨r, M1, M2, F1, F2, S2⟩ := p_overrule (Y := Y) h (xs (nI i + 1).toNatClampNeg)
  have hi1 : vp_in (nI i + 1) L := by
    rw [show nI i + 1 = nI (i + 1) from nI_add i 1]
    exact vp_in_nI (by omega) (by omega)
  have hi2 : vp_in (nI i + 2) L := by
    rw [show nI i + 2 = nI (i + 2) from nI_add i 2]
    exact vp_in_nI (by omega) (by omega)
  have hi3 : vp_in (nI i + 3) L := by
    rw [show nI i + 3 = nI (i + 3) from nI_add i 3]
    exact vp_in_nI (by omega) (by omega)
  refine v_aload_n hX 1 157 rfl rfl rfl ?_
  refine v_aload_n hX 0 158 rfl rfl rfl ?_
  refine v_iload_n hX 3 159 rfl rfl rfl ?_
  refine v_iconst hX (v := 1) 160 rfl (by decide) ?_
  refine v_iadd hX 161 rfl ?_
  refine v_sld hX hs hi1 162 rfl ?_
  refine v_callV hX 1 (by decide) rfl rfl F1 tw_403 tw_400 tw_401 tw_402 tw_92 (by decide +kernel) ⟨⟨rfl, rfl⟩, (Nat.le_of_ble_eq_true rfl), (Nat.le_of_ble_eq_true rfl)⟩ rfl (Nat.le_of_ble_eq_true rfl) rfl rfl 163 rfl ?_
  refine v_aload_n hX 2 164 rfl rfl rfl ?_
  refine v_aload_n hX 0 165 rfl rfl rfl ?_
  refine v_iload_n hX 3 166 rfl rfl rfl ?_
  refine v_iconst hX (v := 1) 167 rfl (by decide) ?_
  refine v_iadd hX 168 rfl ?_
  refine v_sld hX hs hi1 169 rfl ?_
  refine v_callV hX 1 (by decide) rfl rfl F2 tw_808 tw_805 tw_806 tw_807 tw_99 (by decide +kernel) ⟨⟨rfl, rfl⟩, (Nat.le_of_ble_eq_true rfl), (Nat.le_of_ble_eq_true rfl)⟩ rfl (Nat.le_of_ble_eq_true rfl) rfl rfl 170 rfl ?_
  exact v_icmp_eq hX (tgt := 699) 171 rfl (by decide) (fun _ => kk M2 S2) (fun c => absurd rfl c)
set_option maxRecDepth 100000 in
set_option maxHeartbeats 4000000 in
theorem l_6 {Y : Yt} {X : XT} {M : Mm} {b L i : Nat} {xs : Nat → Int32} (hX : vOK Y X iL_law 4 "PointAnswersLaw" room_1 (some .boolean)) (hs : sc X b L xs) (hL : L ≤ 2048) (hi : i + 4 ≤ L) (h : Sim M) (kk : ∀ M2, Sim M2 → V Y X M2 699 [some (.ref b), some (.ref (Y.2.2.2 0)), some (.ref (Y.2.2.2 270)), some (.int (nI i))] []) : V Y X M 328 [some (.ref b), some (.ref (Y.2.2.2 0)), some (.ref (Y.2.2.2 270)), some (.int (nI i))] [] := by
  obtain ⟨r, M1, M2, F1, F2, S2⟩ := p_pass (Y := Y) h (xs (nI i + 1).toNatClampNeg)
  have hi1 : vp_in (nI i + 1) L := by
    rw [show nI i + 1 = nI (i + 1) from nI_add i 1]
    exact vp_in_nI (by omega) (by omega)
  have hi2 : vp_in (nI i + 2) L := by
    rw [show nI i + 2 = nI (i + 2) from nI_add i 2]
    exact vp_in_nI (by omega) (by omega)
  have hi3 : vp_in (nI i + 3) L := by
    rw [show nI i + 3 = nI (i + 3) from nI_add i 3]
    exact vp_in_nI (by omega) (by omega)
  refine v_aload_n hX 1 174 rfl rfl rfl ?_
  refine v_aload_n hX 0 175 rfl rfl rfl ?_
  refine v_iload_n hX 3 176 rfl rfl rfl ?_
  refine v_iconst hX (v := 1) 177 rfl (by decide) ?_
  refine v_iadd hX 178 rfl ?_
  refine v_sld hX hs hi1 179 rfl ?_
  refine v_callV hX 1 (by decide) rfl rfl F1 tw_411 tw_408 tw_409 tw_410 tw_92 (by decide +kernel) ⟨⟨rfl, rfl⟩, (Nat.le_of_ble_eq_true rfl), (Nat.le_of_ble_eq_true rfl)⟩ rfl (Nat.le_of_ble_eq_true rfl) rfl rfl 180 rfl ?_
  refine v_aload_n hX 2 181 rfl rfl rfl ?_
  refine v_aload_n hX 0 182 rfl rfl rfl ?_
  refine v_iload_n hX 3 183 rfl rfl rfl ?_
  refine v_iconst hX (v := 1) 184 rfl (by decide) ?_
  refine v_iadd hX 185 rfl ?_
  refine v_sld hX hs hi1 186 rfl ?_
  refine v_callV hX 1 (by decide) rfl rfl F2 tw_816 tw_813 tw_814 tw_815 tw_99 (by decide +kernel) ⟨⟨rfl, rfl⟩, (Nat.le_of_ble_eq_true rfl), (Nat.le_of_ble_eq_true rfl)⟩ rfl (Nat.le_of_ble_eq_true rfl) rfl rfl 187 rfl ?_
  exact v_icmp_eq hX (tgt := 699) 188 rfl (by decide) (fun _ => kk M2 S2) (fun c => absurd rfl c)
set_option maxRecDepth 100000 in
set_option maxHeartbeats 4000000 in
theorem l_7 {Y : Yt} {X : XT} {M : Mm} {b L i : Nat} {xs : Nat → Int32} (hX : vOK Y X iL_law 4 "PointAnswersLaw" room_1 (some .boolean)) (hs : sc X b L xs) (hL : L ≤ 2048) (hi : i + 4 ≤ L) (h : Sim M) (kk : ∀ M2, Sim M2 → V Y X M2 699 [some (.ref b), some (.ref (Y.2.2.2 0)), some (.ref (Y.2.2.2 270)), some (.int (nI i))] []) : V Y X M 351 [some (.ref b), some (.ref (Y.2.2.2 0)), some (.ref (Y.2.2.2 270)), some (.int (nI i))] [] := by
  obtain ⟨r, M1, M2, F1, F2, S2⟩ := p_of (Y := Y) h (xs (nI i + 1).toNatClampNeg) (xs (nI i + 2).toNatClampNeg)
  have hi1 : vp_in (nI i + 1) L := by
    rw [show nI i + 1 = nI (i + 1) from nI_add i 1]
    exact vp_in_nI (by omega) (by omega)
  have hi2 : vp_in (nI i + 2) L := by
    rw [show nI i + 2 = nI (i + 2) from nI_add i 2]
    exact vp_in_nI (by omega) (by omega)
  have hi3 : vp_in (nI i + 3) L := by
    rw [show nI i + 3 = nI (i + 3) from nI_add i 3]
    exact vp_in_nI (by omega) (by omega)
  refine v_aload_n hX 1 191 rfl rfl rfl ?_
  refine v_aload_n hX 0 192 rfl rfl rfl ?_
  refine v_iload_n hX 3 193 rfl rfl rfl ?_
  refine v_iconst hX (v := 1) 194 rfl (by decide) ?_
  refine v_iadd hX 195 rfl ?_
  refine v_sld hX hs hi1 196 rfl ?_
  refine v_aload_n hX 0 197 rfl rfl rfl ?_
  refine v_iload_n hX 3 198 rfl rfl rfl ?_
  refine v_iconst hX (v := 2) 199 rfl (by decide) ?_
  refine v_iadd hX 200 rfl ?_
  refine v_sld hX hs hi2 201 rfl ?_
  refine v_callV hX 2 (by decide) rfl rfl F1 tw_419 tw_416 tw_417 tw_418 tw_92 (by decide +kernel) ⟨⟨rfl, rfl⟩, (Nat.le_of_ble_eq_true rfl), (Nat.le_of_ble_eq_true rfl)⟩ rfl (Nat.le_of_ble_eq_true rfl) rfl rfl 202 rfl ?_
  refine v_aload_n hX 2 203 rfl rfl rfl ?_
  refine v_aload_n hX 0 204 rfl rfl rfl ?_
  refine v_iload_n hX 3 205 rfl rfl rfl ?_
  refine v_iconst hX (v := 1) 206 rfl (by decide) ?_
  refine v_iadd hX 207 rfl ?_
  refine v_sld hX hs hi1 208 rfl ?_
  refine v_aload_n hX 0 209 rfl rfl rfl ?_
  refine v_iload_n hX 3 210 rfl rfl rfl ?_
  refine v_iconst hX (v := 2) 211 rfl (by decide) ?_
  refine v_iadd hX 212 rfl ?_
  refine v_sld hX hs hi2 213 rfl ?_
  refine v_callV hX 2 (by decide) rfl rfl F2 tw_824 tw_821 tw_822 tw_823 tw_99 (by decide +kernel) ⟨⟨rfl, rfl⟩, (Nat.le_of_ble_eq_true rfl), (Nat.le_of_ble_eq_true rfl)⟩ rfl (Nat.le_of_ble_eq_true rfl) rfl rfl 214 rfl ?_
  exact v_icmp_eq hX (tgt := 699) 215 rfl (by decide) (fun _ => kk M2 S2) (fun c => absurd rfl c)
set_option maxRecDepth 100000 in
set_option maxHeartbeats 4000000 in
theorem l_8 {Y : Yt} {X : XT} {M : Mm} {b L i : Nat} {xs : Nat → Int32} (hX : vOK Y X iL_law 4 "PointAnswersLaw" room_1 (some .boolean)) (hs : sc X b L xs) (hL : L ≤ 2048) (hi : i + 4 ≤ L) (h : Sim M) (kk : ∀ M2, Sim M2 → V Y X M2 699 [some (.ref b), some (.ref (Y.2.2.2 0)), some (.ref (Y.2.2.2 270)), some (.int (nI i))] []) : V Y X M 384 [some (.ref b), some (.ref (Y.2.2.2 0)), some (.ref (Y.2.2.2 270)), some (.int (nI i))] [] := by
  obtain ⟨r, M1, M2, F1, F2, S2⟩ := p_count (Y := Y) h (xs (nI i + 1).toNatClampNeg)
  have hi1 : vp_in (nI i + 1) L := by
    rw [show nI i + 1 = nI (i + 1) from nI_add i 1]
    exact vp_in_nI (by omega) (by omega)
  have hi2 : vp_in (nI i + 2) L := by
    rw [show nI i + 2 = nI (i + 2) from nI_add i 2]
    exact vp_in_nI (by omega) (by omega)
  have hi3 : vp_in (nI i + 3) L := by
    rw [show nI i + 3 = nI (i + 3) from nI_add i 3]
    exact vp_in_nI (by omega) (by omega)
  refine v_aload_n hX 1 218 rfl rfl rfl ?_
  refine v_aload_n hX 0 219 rfl rfl rfl ?_
  refine v_iload_n hX 3 220 rfl rfl rfl ?_
  refine v_iconst hX (v := 1) 221 rfl (by decide) ?_
  refine v_iadd hX 222 rfl ?_
  refine v_sld hX hs hi1 223 rfl ?_
  refine v_callV hX 1 (by decide) rfl rfl F1 tw_445 tw_442 tw_443 tw_444 tw_92 (by decide +kernel) ⟨⟨rfl, rfl⟩, (Nat.le_of_ble_eq_true rfl), (Nat.le_of_ble_eq_true rfl)⟩ rfl (Nat.le_of_ble_eq_true rfl) rfl rfl 224 rfl ?_
  refine v_aload_n hX 2 225 rfl rfl rfl ?_
  refine v_aload_n hX 0 226 rfl rfl rfl ?_
  refine v_iload_n hX 3 227 rfl rfl rfl ?_
  refine v_iconst hX (v := 1) 228 rfl (by decide) ?_
  refine v_iadd hX 229 rfl ?_
  refine v_sld hX hs hi1 230 rfl ?_
  refine v_callV hX 1 (by decide) rfl rfl F2 tw_844 tw_841 tw_842 tw_843 tw_99 (by decide +kernel) ⟨⟨rfl, rfl⟩, (Nat.le_of_ble_eq_true rfl), (Nat.le_of_ble_eq_true rfl)⟩ rfl (Nat.le_of_ble_eq_true rfl) rfl rfl 231 rfl ?_
  exact v_icmp_eq hX (tgt := 699) 232 rfl (by decide) (fun _ => kk M2 S2) (fun c => absurd rfl c)
set_option maxRecDepth 100000 in
set_option maxHeartbeats 4000000 in
theorem l_9 {Y : Yt} {X : XT} {M : Mm} {b L i : Nat} {xs : Nat → Int32} (hX : vOK Y X iL_law 4 "PointAnswersLaw" room_1 (some .boolean)) (hs : sc X b L xs) (hL : L ≤ 2048) (hi : i + 4 ≤ L) (h : Sim M) (kk : ∀ M2, Sim M2 → V Y X M2 699 [some (.ref b), some (.ref (Y.2.2.2 0)), some (.ref (Y.2.2.2 270)), some (.int (nI i))] []) : V Y X M 407 [some (.ref b), some (.ref (Y.2.2.2 0)), some (.ref (Y.2.2.2 270)), some (.int (nI i))] [] := by
  obtain ⟨r, M1, M2, F1, F2, S2⟩ := p_points (Y := Y) h (xs (nI i + 1).toNatClampNeg)
  have hi1 : vp_in (nI i + 1) L := by
    rw [show nI i + 1 = nI (i + 1) from nI_add i 1]
    exact vp_in_nI (by omega) (by omega)
  have hi2 : vp_in (nI i + 2) L := by
    rw [show nI i + 2 = nI (i + 2) from nI_add i 2]
    exact vp_in_nI (by omega) (by omega)
  have hi3 : vp_in (nI i + 3) L := by
    rw [show nI i + 3 = nI (i + 3) from nI_add i 3]
    exact vp_in_nI (by omega) (by omega)
  refine v_aload_n hX 1 235 rfl rfl rfl ?_
  refine v_aload_n hX 0 236 rfl rfl rfl ?_
  refine v_iload_n hX 3 237 rfl rfl rfl ?_
  refine v_iconst hX (v := 1) 238 rfl (by decide) ?_
  refine v_iadd hX 239 rfl ?_
  refine v_sld hX hs hi1 240 rfl ?_
  refine v_callV hX 1 (by decide) rfl rfl F1 tw_470 tw_467 tw_468 tw_469 tw_92 (by decide +kernel) ⟨⟨rfl, rfl⟩, (Nat.le_of_ble_eq_true rfl), (Nat.le_of_ble_eq_true rfl)⟩ rfl (Nat.le_of_ble_eq_true rfl) rfl rfl 241 rfl ?_
  refine v_aload_n hX 2 242 rfl rfl rfl ?_
  refine v_aload_n hX 0 243 rfl rfl rfl ?_
  refine v_iload_n hX 3 244 rfl rfl rfl ?_
  refine v_iconst hX (v := 1) 245 rfl (by decide) ?_
  refine v_iadd hX 246 rfl ?_
  refine v_sld hX hs hi1 247 rfl ?_
  refine v_callV hX 1 (by decide) rfl rfl F2 tw_860 tw_857 tw_858 tw_859 tw_99 (by decide +kernel) ⟨⟨rfl, rfl⟩, (Nat.le_of_ble_eq_true rfl), (Nat.le_of_ble_eq_true rfl)⟩ rfl (Nat.le_of_ble_eq_true rfl) rfl rfl 248 rfl ?_
  exact v_icmp_eq hX (tgt := 699) 249 rfl (by decide) (fun _ => kk M2 S2) (fun c => absurd rfl c)
set_option maxRecDepth 100000 in
set_option maxHeartbeats 4000000 in
theorem l_10 {Y : Yt} {X : XT} {M : Mm} {b L i : Nat} {xs : Nat → Int32} (hX : vOK Y X iL_law 4 "PointAnswersLaw" room_1 (some .boolean)) (hs : sc X b L xs) (hL : L ≤ 2048) (hi : i + 4 ≤ L) (h : Sim M) (kk : ∀ M2, Sim M2 → V Y X M2 699 [some (.ref b), some (.ref (Y.2.2.2 0)), some (.ref (Y.2.2.2 270)), some (.int (nI i))] []) : V Y X M 430 [some (.ref b), some (.ref (Y.2.2.2 0)), some (.ref (Y.2.2.2 270)), some (.int (nI i))] [] := by
  obtain ⟨r, M1, M2, F1, F2, S2⟩ := p_share (Y := Y) h (xs (nI i + 1).toNatClampNeg)
  have hi1 : vp_in (nI i + 1) L := by
    rw [show nI i + 1 = nI (i + 1) from nI_add i 1]
    exact vp_in_nI (by omega) (by omega)
  have hi2 : vp_in (nI i + 2) L := by
    rw [show nI i + 2 = nI (i + 2) from nI_add i 2]
    exact vp_in_nI (by omega) (by omega)
  have hi3 : vp_in (nI i + 3) L := by
    rw [show nI i + 3 = nI (i + 3) from nI_add i 3]
    exact vp_in_nI (by omega) (by omega)
  refine v_aload_n hX 1 252 rfl rfl rfl ?_
  refine v_aload_n hX 0 253 rfl rfl rfl ?_
  refine v_iload_n hX 3 254 rfl rfl rfl ?_
  refine v_iconst hX (v := 1) 255 rfl (by decide) ?_
  refine v_iadd hX 256 rfl ?_
  refine v_sld hX hs hi1 257 rfl ?_
  refine v_callV hX 1 (by decide) rfl rfl F1 tw_478 tw_475 tw_476 tw_477 tw_92 (by decide +kernel) ⟨⟨rfl, rfl⟩, (Nat.le_of_ble_eq_true rfl), (Nat.le_of_ble_eq_true rfl)⟩ rfl (Nat.le_of_ble_eq_true rfl) rfl rfl 258 rfl ?_
  refine v_aload_n hX 2 259 rfl rfl rfl ?_
  refine v_aload_n hX 0 260 rfl rfl rfl ?_
  refine v_iload_n hX 3 261 rfl rfl rfl ?_
  refine v_iconst hX (v := 1) 262 rfl (by decide) ?_
  refine v_iadd hX 263 rfl ?_
  refine v_sld hX hs hi1 264 rfl ?_
  refine v_callV hX 1 (by decide) rfl rfl F2 tw_868 tw_865 tw_866 tw_867 tw_99 (by decide +kernel) ⟨⟨rfl, rfl⟩, (Nat.le_of_ble_eq_true rfl), (Nat.le_of_ble_eq_true rfl)⟩ rfl (Nat.le_of_ble_eq_true rfl) rfl rfl 265 rfl ?_
  exact v_icmp_eq hX (tgt := 699) 266 rfl (by decide) (fun _ => kk M2 S2) (fun c => absurd rfl c)
set_option maxRecDepth 100000 in
set_option maxHeartbeats 4000000 in
theorem l_11 {Y : Yt} {X : XT} {M : Mm} {b L i : Nat} {xs : Nat → Int32} (hX : vOK Y X iL_law 4 "PointAnswersLaw" room_1 (some .boolean)) (hs : sc X b L xs) (hL : L ≤ 2048) (hi : i + 4 ≤ L) (h : Sim M) (kk : ∀ M2, Sim M2 → V Y X M2 699 [some (.ref b), some (.ref (Y.2.2.2 0)), some (.ref (Y.2.2.2 270)), some (.int (nI i))] []) : V Y X M 453 [some (.ref b), some (.ref (Y.2.2.2 0)), some (.ref (Y.2.2.2 270)), some (.int (nI i))] [] := by
  obtain ⟨r, M1, M2, F1, F2, S2⟩ := p_toFall (Y := Y) h (xs (nI i + 1).toNatClampNeg)
  have hi1 : vp_in (nI i + 1) L := by
    rw [show nI i + 1 = nI (i + 1) from nI_add i 1]
    exact vp_in_nI (by omega) (by omega)
  have hi2 : vp_in (nI i + 2) L := by
    rw [show nI i + 2 = nI (i + 2) from nI_add i 2]
    exact vp_in_nI (by omega) (by omega)
  have hi3 : vp_in (nI i + 3) L := by
    rw [show nI i + 3 = nI (i + 3) from nI_add i 3]
    exact vp_in_nI (by omega) (by omega)
  refine v_aload_n hX 1 269 rfl rfl rfl ?_
  refine v_aload_n hX 0 270 rfl rfl rfl ?_
  refine v_iload_n hX 3 271 rfl rfl rfl ?_
  refine v_iconst hX (v := 1) 272 rfl (by decide) ?_
  refine v_iadd hX 273 rfl ?_
  refine v_sld hX hs hi1 274 rfl ?_
  refine v_callV hX 1 (by decide) rfl rfl F1 tw_487 tw_484 tw_485 tw_486 tw_92 (by decide +kernel) ⟨⟨rfl, rfl⟩, (Nat.le_of_ble_eq_true rfl), (Nat.le_of_ble_eq_true rfl)⟩ rfl (Nat.le_of_ble_eq_true rfl) rfl rfl 275 rfl ?_
  refine v_aload_n hX 2 276 rfl rfl rfl ?_
  refine v_aload_n hX 0 277 rfl rfl rfl ?_
  refine v_iload_n hX 3 278 rfl rfl rfl ?_
  refine v_iconst hX (v := 1) 279 rfl (by decide) ?_
  refine v_iadd hX 280 rfl ?_
  refine v_sld hX hs hi1 281 rfl ?_
  refine v_callV hX 1 (by decide) rfl rfl F2 tw_877 tw_874 tw_875 tw_876 tw_99 (by decide +kernel) ⟨⟨rfl, rfl⟩, (Nat.le_of_ble_eq_true rfl), (Nat.le_of_ble_eq_true rfl)⟩ rfl (Nat.le_of_ble_eq_true rfl) rfl rfl 282 rfl ?_
  exact v_icmp_eq hX (tgt := 699) 283 rfl (by decide) (fun _ => kk M2 S2) (fun c => absurd rfl c)
set_option maxRecDepth 100000 in
set_option maxHeartbeats 4000000 in
theorem l_12 {Y : Yt} {X : XT} {M : Mm} {b L i : Nat} {xs : Nat → Int32} (hX : vOK Y X iL_law 4 "PointAnswersLaw" room_1 (some .boolean)) (hs : sc X b L xs) (hL : L ≤ 2048) (hi : i + 4 ≤ L) (h : Sim M) (kk : ∀ M2, Sim M2 → V Y X M2 699 [some (.ref b), some (.ref (Y.2.2.2 0)), some (.ref (Y.2.2.2 270)), some (.int (nI i))] []) : V Y X M 476 [some (.ref b), some (.ref (Y.2.2.2 0)), some (.ref (Y.2.2.2 270)), some (.int (nI i))] [] := by
  obtain ⟨r, M1, M2, F1, F2, S2⟩ := p_toStand (Y := Y) h (xs (nI i + 1).toNatClampNeg)
  have hi1 : vp_in (nI i + 1) L := by
    rw [show nI i + 1 = nI (i + 1) from nI_add i 1]
    exact vp_in_nI (by omega) (by omega)
  have hi2 : vp_in (nI i + 2) L := by
    rw [show nI i + 2 = nI (i + 2) from nI_add i 2]
    exact vp_in_nI (by omega) (by omega)
  have hi3 : vp_in (nI i + 3) L := by
    rw [show nI i + 3 = nI (i + 3) from nI_add i 3]
    exact vp_in_nI (by omega) (by omega)
  refine v_aload_n hX 1 286 rfl rfl rfl ?_
  refine v_aload_n hX 0 287 rfl rfl rfl ?_
  refine v_iload_n hX 3 288 rfl rfl rfl ?_
  refine v_iconst hX (v := 1) 289 rfl (by decide) ?_
  refine v_iadd hX 290 rfl ?_
  refine v_sld hX hs hi1 291 rfl ?_
  refine v_callV hX 1 (by decide) rfl rfl F1 tw_516 tw_513 tw_514 tw_515 tw_92 (by decide +kernel) ⟨⟨rfl, rfl⟩, (Nat.le_of_ble_eq_true rfl), (Nat.le_of_ble_eq_true rfl)⟩ rfl (Nat.le_of_ble_eq_true rfl) rfl rfl 292 rfl ?_
  refine v_aload_n hX 2 293 rfl rfl rfl ?_
  refine v_aload_n hX 0 294 rfl rfl rfl ?_
  refine v_iload_n hX 3 295 rfl rfl rfl ?_
  refine v_iconst hX (v := 1) 296 rfl (by decide) ?_
  refine v_iadd hX 297 rfl ?_
  refine v_sld hX hs hi1 298 rfl ?_
  refine v_callV hX 1 (by decide) rfl rfl F2 tw_885 tw_882 tw_883 tw_884 tw_99 (by decide +kernel) ⟨⟨rfl, rfl⟩, (Nat.le_of_ble_eq_true rfl), (Nat.le_of_ble_eq_true rfl)⟩ rfl (Nat.le_of_ble_eq_true rfl) rfl rfl 299 rfl ?_
  exact v_icmp_eq hX (tgt := 699) 300 rfl (by decide) (fun _ => kk M2 S2) (fun c => absurd rfl c)
set_option maxRecDepth 100000 in
set_option maxHeartbeats 4000000 in
theorem l_13 {Y : Yt} {X : XT} {M : Mm} {b L i : Nat} {xs : Nat → Int32} (hX : vOK Y X iL_law 4 "PointAnswersLaw" room_1 (some .boolean)) (hs : sc X b L xs) (hL : L ≤ 2048) (hi : i + 4 ≤ L) (h : Sim M) (kk : ∀ M2, Sim M2 → V Y X M2 699 [some (.ref b), some (.ref (Y.2.2.2 0)), some (.ref (Y.2.2.2 270)), some (.int (nI i))] []) : V Y X M 499 [some (.ref b), some (.ref (Y.2.2.2 0)), some (.ref (Y.2.2.2 270)), some (.int (nI i))] [] := by
  obtain ⟨r, M1, M2, F1, F2, S2⟩ := p_best (Y := Y) h (xs (nI i + 1).toNatClampNeg)
  have hi1 : vp_in (nI i + 1) L := by
    rw [show nI i + 1 = nI (i + 1) from nI_add i 1]
    exact vp_in_nI (by omega) (by omega)
  have hi2 : vp_in (nI i + 2) L := by
    rw [show nI i + 2 = nI (i + 2) from nI_add i 2]
    exact vp_in_nI (by omega) (by omega)
  have hi3 : vp_in (nI i + 3) L := by
    rw [show nI i + 3 = nI (i + 3) from nI_add i 3]
    exact vp_in_nI (by omega) (by omega)
  refine v_aload_n hX 1 303 rfl rfl rfl ?_
  refine v_aload_n hX 0 304 rfl rfl rfl ?_
  refine v_iload_n hX 3 305 rfl rfl rfl ?_
  refine v_iconst hX (v := 1) 306 rfl (by decide) ?_
  refine v_iadd hX 307 rfl ?_
  refine v_sld hX hs hi1 308 rfl ?_
  refine v_callV hX 1 (by decide) rfl rfl F1 tw_524 tw_521 tw_522 tw_523 tw_92 (by decide +kernel) ⟨⟨rfl, rfl⟩, (Nat.le_of_ble_eq_true rfl), (Nat.le_of_ble_eq_true rfl)⟩ rfl (Nat.le_of_ble_eq_true rfl) rfl rfl 309 rfl ?_
  refine v_aload_n hX 2 310 rfl rfl rfl ?_
  refine v_aload_n hX 0 311 rfl rfl rfl ?_
  refine v_iload_n hX 3 312 rfl rfl rfl ?_
  refine v_iconst hX (v := 1) 313 rfl (by decide) ?_
  refine v_iadd hX 314 rfl ?_
  refine v_sld hX hs hi1 315 rfl ?_
  refine v_callV hX 1 (by decide) rfl rfl F2 tw_889 tw_886 tw_887 tw_888 tw_99 (by decide +kernel) ⟨⟨rfl, rfl⟩, (Nat.le_of_ble_eq_true rfl), (Nat.le_of_ble_eq_true rfl)⟩ rfl (Nat.le_of_ble_eq_true rfl) rfl rfl 316 rfl ?_
  exact v_icmp_eq hX (tgt := 699) 317 rfl (by decide) (fun _ => kk M2 S2) (fun c => absurd rfl c)
set_option maxRecDepth 100000 in
set_option maxHeartbeats 4000000 in
theorem l_14 {Y : Yt} {X : XT} {M : Mm} {b L i : Nat} {xs : Nat → Int32} (hX : vOK Y X iL_law 4 "PointAnswersLaw" room_1 (some .boolean)) (hs : sc X b L xs) (hL : L ≤ 2048) (hi : i + 4 ≤ L) (h : Sim M) (kk : ∀ M2, Sim M2 → V Y X M2 699 [some (.ref b), some (.ref (Y.2.2.2 0)), some (.ref (Y.2.2.2 270)), some (.int (nI i))] []) : V Y X M 522 [some (.ref b), some (.ref (Y.2.2.2 0)), some (.ref (Y.2.2.2 270)), some (.int (nI i))] [] := by
  obtain ⟨r, M1, M2, F1, F2, S2⟩ := p_changesIn (Y := Y) h 
  have hi1 : vp_in (nI i + 1) L := by
    rw [show nI i + 1 = nI (i + 1) from nI_add i 1]
    exact vp_in_nI (by omega) (by omega)
  have hi2 : vp_in (nI i + 2) L := by
    rw [show nI i + 2 = nI (i + 2) from nI_add i 2]
    exact vp_in_nI (by omega) (by omega)
  have hi3 : vp_in (nI i + 3) L := by
    rw [show nI i + 3 = nI (i + 3) from nI_add i 3]
    exact vp_in_nI (by omega) (by omega)
  refine v_aload_n hX 1 320 rfl rfl rfl ?_
  refine v_callV hX 0 (by decide) rfl rfl F1 tw_530 tw_527 tw_528 tw_529 tw_92 (by decide +kernel) ⟨⟨rfl, rfl⟩, (Nat.le_of_ble_eq_true rfl), (Nat.le_of_ble_eq_true rfl)⟩ rfl (Nat.le_of_ble_eq_true rfl) rfl rfl 321 rfl ?_
  refine v_aload_n hX 2 322 rfl rfl rfl ?_
  refine v_callV hX 0 (by decide) rfl rfl F2 tw_897 tw_894 tw_895 tw_896 tw_99 (by decide +kernel) ⟨⟨rfl, rfl⟩, (Nat.le_of_ble_eq_true rfl), (Nat.le_of_ble_eq_true rfl)⟩ rfl (Nat.le_of_ble_eq_true rfl) rfl rfl 323 rfl ?_
  exact v_icmp_eq hX (tgt := 699) 324 rfl (by decide) (fun _ => kk M2 S2) (fun c => absurd rfl c)
set_option maxRecDepth 100000 in
set_option maxHeartbeats 4000000 in
theorem l_15 {Y : Yt} {X : XT} {M : Mm} {b L i : Nat} {xs : Nat → Int32} (hX : vOK Y X iL_law 4 "PointAnswersLaw" room_1 (some .boolean)) (hs : sc X b L xs) (hL : L ≤ 2048) (hi : i + 4 ≤ L) (h : Sim M) (kk : ∀ M2, Sim M2 → V Y X M2 699 [some (.ref b), some (.ref (Y.2.2.2 0)), some (.ref (Y.2.2.2 270)), some (.int (nI i))] []) : V Y X M 535 [some (.ref b), some (.ref (Y.2.2.2 0)), some (.ref (Y.2.2.2 270)), some (.int (nI i))] [] := by
  obtain ⟨r, M1, M2, F1, F2, S2⟩ := p_leastPages (Y := Y) h 
  have hi1 : vp_in (nI i + 1) L := by
    rw [show nI i + 1 = nI (i + 1) from nI_add i 1]
    exact vp_in_nI (by omega) (by omega)
  have hi2 : vp_in (nI i + 2) L := by
    rw [show nI i + 2 = nI (i + 2) from nI_add i 2]
    exact vp_in_nI (by omega) (by omega)
  have hi3 : vp_in (nI i + 3) L := by
    rw [show nI i + 3 = nI (i + 3) from nI_add i 3]
    exact vp_in_nI (by omega) (by omega)
  refine v_aload_n hX 1 327 rfl rfl rfl ?_
  refine v_callV hX 0 (by decide) rfl rfl F1 tw_536 tw_533 tw_534 tw_535 tw_92 (by decide +kernel) ⟨⟨rfl, rfl⟩, (Nat.le_of_ble_eq_true rfl), (Nat.le_of_ble_eq_true rfl)⟩ rfl (Nat.le_of_ble_eq_true rfl) rfl rfl 328 rfl ?_
  refine v_aload_n hX 2 329 rfl rfl rfl ?_
  refine v_callV hX 0 (by decide) rfl rfl F2 tw_901 tw_898 tw_899 tw_900 tw_99 (by decide +kernel) ⟨⟨rfl, rfl⟩, (Nat.le_of_ble_eq_true rfl), (Nat.le_of_ble_eq_true rfl)⟩ rfl (Nat.le_of_ble_eq_true rfl) rfl rfl 330 rfl ?_
  exact v_icmp_eq hX (tgt := 699) 331 rfl (by decide) (fun _ => kk M2 S2) (fun c => absurd rfl c)
set_option maxRecDepth 100000 in
set_option maxHeartbeats 4000000 in
theorem l_16 {Y : Yt} {X : XT} {M : Mm} {b L i : Nat} {xs : Nat → Int32} (hX : vOK Y X iL_law 4 "PointAnswersLaw" room_1 (some .boolean)) (hs : sc X b L xs) (hL : L ≤ 2048) (hi : i + 4 ≤ L) (h : Sim M) (kk : ∀ M2, Sim M2 → V Y X M2 699 [some (.ref b), some (.ref (Y.2.2.2 0)), some (.ref (Y.2.2.2 270)), some (.int (nI i))] []) : V Y X M 548 [some (.ref b), some (.ref (Y.2.2.2 0)), some (.ref (Y.2.2.2 270)), some (.int (nI i))] [] := by
  obtain ⟨r, M1, M2, F1, F2, S2⟩ := p_put (Y := Y) h ((((xs (nI i + 1).toNatClampNeg)).toInt64 <<< ((32 : Int32).toInt64 &&& 63)) ||| (((xs (nI i + 2).toNatClampNeg)).toInt64 &&& 4294967295))
  have hi1 : vp_in (nI i + 1) L := by
    rw [show nI i + 1 = nI (i + 1) from nI_add i 1]
    exact vp_in_nI (by omega) (by omega)
  have hi2 : vp_in (nI i + 2) L := by
    rw [show nI i + 2 = nI (i + 2) from nI_add i 2]
    exact vp_in_nI (by omega) (by omega)
  have hi3 : vp_in (nI i + 3) L := by
    rw [show nI i + 3 = nI (i + 3) from nI_add i 3]
    exact vp_in_nI (by omega) (by omega)
  refine v_aload_n hX 1 334 rfl rfl rfl ?_
  refine v_aload_n hX 0 335 rfl rfl rfl ?_
  refine v_iload_n hX 3 336 rfl rfl rfl ?_
  refine v_iconst hX (v := 1) 337 rfl (by decide) ?_
  refine v_iadd hX 338 rfl ?_
  refine v_sld hX hs hi1 339 rfl ?_
  refine v_i2l hX 340 rfl rfl ?_
  refine v_bipush hX (v := 32) 341 rfl (by decide) ?_
  refine v_lshl hX 342 rfl rfl ?_
  refine v_aload_n hX 0 343 rfl rfl rfl ?_
  refine v_iload_n hX 3 344 rfl rfl rfl ?_
  refine v_iconst hX (v := 2) 345 rfl (by decide) ?_
  refine v_iadd hX 346 rfl ?_
  refine v_sld hX hs hi2 347 rfl ?_
  refine v_i2l hX 348 rfl rfl ?_
  refine v_ldc2 hX tw_955 349 rfl ?_
  refine v_land hX 350 rfl ?_
  refine v_lor hX 351 rfl ?_
  refine v_callV hX 1 (by decide) rfl rfl F1 tw_543 tw_540 tw_541 tw_542 tw_92 (by decide +kernel) ⟨⟨rfl, rfl⟩, (Nat.le_of_ble_eq_true rfl), (Nat.le_of_ble_eq_true rfl)⟩ rfl (Nat.le_of_ble_eq_true rfl) rfl rfl 352 rfl ?_
  refine v_aload_n hX 2 353 rfl rfl rfl ?_
  refine v_aload_n hX 0 354 rfl rfl rfl ?_
  refine v_iload_n hX 3 355 rfl rfl rfl ?_
  refine v_iconst hX (v := 1) 356 rfl (by decide) ?_
  refine v_iadd hX 357 rfl ?_
  refine v_sld hX hs hi1 358 rfl ?_
  refine v_i2l hX 359 rfl rfl ?_
  refine v_bipush hX (v := 32) 360 rfl (by decide) ?_
  refine v_lshl hX 361 rfl rfl ?_
  refine v_aload_n hX 0 362 rfl rfl rfl ?_
  refine v_iload_n hX 3 363 rfl rfl rfl ?_
  refine v_iconst hX (v := 2) 364 rfl (by decide) ?_
  refine v_iadd hX 365 rfl ?_
  refine v_sld hX hs hi2 366 rfl ?_
  refine v_i2l hX 367 rfl rfl ?_
  refine v_ldc2 hX tw_955 368 rfl ?_
  refine v_land hX 369 rfl ?_
  refine v_lor hX 370 rfl ?_
  refine v_callV hX 1 (by decide) rfl rfl F2 tw_905 tw_902 tw_903 tw_904 tw_99 (by decide +kernel) ⟨⟨rfl, rfl⟩, (Nat.le_of_ble_eq_true rfl), (Nat.le_of_ble_eq_true rfl)⟩ rfl (Nat.le_of_ble_eq_true rfl) rfl rfl 371 rfl ?_
  exact v_icmp_eq hX (tgt := 699) 372 rfl (by decide) (fun _ => kk M2 S2) (fun c => absurd rfl c)
set_option maxRecDepth 100000 in
set_option maxHeartbeats 4000000 in
theorem l_17 {Y : Yt} {X : XT} {M : Mm} {b L i : Nat} {xs : Nat → Int32} (hX : vOK Y X iL_law 4 "PointAnswersLaw" room_1 (some .boolean)) (hs : sc X b L xs) (hL : L ≤ 2048) (hi : i + 4 ≤ L) (h : Sim M) (kk : ∀ M2, Sim M2 → V Y X M2 699 [some (.ref b), some (.ref (Y.2.2.2 0)), some (.ref (Y.2.2.2 270)), some (.int (nI i))] []) : V Y X M 601 [some (.ref b), some (.ref (Y.2.2.2 0)), some (.ref (Y.2.2.2 270)), some (.int (nI i))] [] := by
  obtain ⟨r, M1, M2, F1, F2, S2⟩ := p_wipe (Y := Y) h 
  have hi1 : vp_in (nI i + 1) L := by
    rw [show nI i + 1 = nI (i + 1) from nI_add i 1]
    exact vp_in_nI (by omega) (by omega)
  have hi2 : vp_in (nI i + 2) L := by
    rw [show nI i + 2 = nI (i + 2) from nI_add i 2]
    exact vp_in_nI (by omega) (by omega)
  have hi3 : vp_in (nI i + 3) L := by
    rw [show nI i + 3 = nI (i + 3) from nI_add i 3]
    exact vp_in_nI (by omega) (by omega)
  refine v_aload_n hX 1 375 rfl rfl rfl ?_
  refine v_callV hX 0 (by decide) rfl rfl F1 tw_559 tw_556 tw_557 tw_558 tw_92 (by decide +kernel) ⟨⟨rfl, rfl⟩, (Nat.le_of_ble_eq_true rfl), (Nat.le_of_ble_eq_true rfl)⟩ rfl (Nat.le_of_ble_eq_true rfl) rfl rfl 376 rfl ?_
  refine v_aload_n hX 2 377 rfl rfl rfl ?_
  refine v_callV hX 0 (by decide) rfl rfl F2 tw_910 tw_907 tw_908 tw_909 tw_99 (by decide +kernel) ⟨⟨rfl, rfl⟩, (Nat.le_of_ble_eq_true rfl), (Nat.le_of_ble_eq_true rfl)⟩ rfl (Nat.le_of_ble_eq_true rfl) rfl rfl 378 rfl ?_
  exact v_icmp_eq hX (tgt := 699) 379 rfl (by decide) (fun _ => kk M2 S2) (fun c => absurd rfl c)
set_option maxRecDepth 100000 in
set_option maxHeartbeats 4000000 in
theorem l_18 {Y : Yt} {X : XT} {M : Mm} {b L i : Nat} {xs : Nat → Int32} (hX : vOK Y X iL_law 4 "PointAnswersLaw" room_1 (some .boolean)) (hs : sc X b L xs) (hL : L ≤ 2048) (hi : i + 4 ≤ L) (h : Sim M) (kk : ∀ M2, Sim M2 → V Y X M2 699 [some (.ref b), some (.ref (Y.2.2.2 0)), some (.ref (Y.2.2.2 270)), some (.int (nI i))] []) : V Y X M 614 [some (.ref b), some (.ref (Y.2.2.2 0)), some (.ref (Y.2.2.2 270)), some (.int (nI i))] [] := by
  obtain ⟨r, M1, M2, F1, F2, S2⟩ := p_fault (Y := Y) h 
  have hi1 : vp_in (nI i + 1) L := by
    rw [show nI i + 1 = nI (i + 1) from nI_add i 1]
    exact vp_in_nI (by omega) (by omega)
  have hi2 : vp_in (nI i + 2) L := by
    rw [show nI i + 2 = nI (i + 2) from nI_add i 2]
    exact vp_in_nI (by omega) (by omega)
  have hi3 : vp_in (nI i + 3) L := by
    rw [show nI i + 3 = nI (i + 3) from nI_add i 3]
    exact vp_in_nI (by omega) (by omega)
  refine v_aload_n hX 1 382 rfl rfl rfl ?_
  refine v_callV hX 0 (by decide) rfl rfl F1 tw_567 tw_564 tw_565 tw_566 tw_92 (by decide +kernel) ⟨⟨rfl, rfl⟩, (Nat.le_of_ble_eq_true rfl), (Nat.le_of_ble_eq_true rfl)⟩ rfl (Nat.le_of_ble_eq_true rfl) rfl rfl 383 rfl ?_
  refine v_aload_n hX 2 384 rfl rfl rfl ?_
  refine v_callV hX 0 (by decide) rfl rfl F2 tw_914 tw_911 tw_912 tw_913 tw_99 (by decide +kernel) ⟨⟨rfl, rfl⟩, (Nat.le_of_ble_eq_true rfl), (Nat.le_of_ble_eq_true rfl)⟩ rfl (Nat.le_of_ble_eq_true rfl) rfl rfl 385 rfl ?_
  exact v_icmp_eq hX (tgt := 699) 386 rfl (by decide) (fun _ => kk M2 S2) (fun c => absurd rfl c)
set_option maxRecDepth 100000 in
set_option maxHeartbeats 4000000 in
theorem l_19 {Y : Yt} {X : XT} {M : Mm} {b L i : Nat} {xs : Nat → Int32} (hX : vOK Y X iL_law 4 "PointAnswersLaw" room_1 (some .boolean)) (hs : sc X b L xs) (hL : L ≤ 2048) (hi : i + 4 ≤ L) (h : Sim M) (kk : ∀ M2, Sim M2 → V Y X M2 699 [some (.ref b), some (.ref (Y.2.2.2 0)), some (.ref (Y.2.2.2 270)), some (.int (nI i))] []) : V Y X M 627 [some (.ref b), some (.ref (Y.2.2.2 0)), some (.ref (Y.2.2.2 270)), some (.int (nI i))] [] := by
  obtain ⟨r, M1, M2, F1, F2, S2⟩ := p_carryOut (Y := Y) h 
  have hi1 : vp_in (nI i + 1) L := by
    rw [show nI i + 1 = nI (i + 1) from nI_add i 1]
    exact vp_in_nI (by omega) (by omega)
  have hi2 : vp_in (nI i + 2) L := by
    rw [show nI i + 2 = nI (i + 2) from nI_add i 2]
    exact vp_in_nI (by omega) (by omega)
  have hi3 : vp_in (nI i + 3) L := by
    rw [show nI i + 3 = nI (i + 3) from nI_add i 3]
    exact vp_in_nI (by omega) (by omega)
  refine v_aload_n hX 1 389 rfl rfl rfl ?_
  refine v_callV hX 0 (by decide) rfl rfl F1 tw_611 tw_608 tw_609 tw_610 tw_92 (by decide +kernel) ⟨⟨rfl, rfl⟩, (Nat.le_of_ble_eq_true rfl), (Nat.le_of_ble_eq_true rfl)⟩ rfl (Nat.le_of_ble_eq_true rfl) rfl rfl 390 rfl ?_
  refine v_aload_n hX 2 391 rfl rfl rfl ?_
  refine v_callV hX 0 (by decide) rfl rfl F2 tw_946 tw_943 tw_944 tw_945 tw_99 (by decide +kernel) ⟨⟨rfl, rfl⟩, (Nat.le_of_ble_eq_true rfl), (Nat.le_of_ble_eq_true rfl)⟩ rfl (Nat.le_of_ble_eq_true rfl) rfl rfl 392 rfl ?_
  exact v_icmp_eq hX (tgt := 699) 393 rfl (by decide) (fun _ => kk M2 S2) (fun c => absurd rfl c)
set_option maxRecDepth 100000 in
set_option maxHeartbeats 4000000 in
theorem l_20 {Y : Yt} {X : XT} {M : Mm} {b L i : Nat} {xs : Nat → Int32} (hX : vOK Y X iL_law 4 "PointAnswersLaw" room_1 (some .boolean)) (hs : sc X b L xs) (hL : L ≤ 2048) (hi : i + 4 ≤ L) (h : Sim M) (kk : ∀ M2, Sim M2 → V Y X M2 699 [some (.ref b), some (.ref (Y.2.2.2 0)), some (.ref (Y.2.2.2 270)), some (.int (nI i))] []) : V Y X M 640 [some (.ref b), some (.ref (Y.2.2.2 0)), some (.ref (Y.2.2.2 270)), some (.int (nI i))] [] := by
  obtain ⟨r, M1, M2, F1, F2, S2⟩ := p_undo (Y := Y) h 
  have hi1 : vp_in (nI i + 1) L := by
    rw [show nI i + 1 = nI (i + 1) from nI_add i 1]
    exact vp_in_nI (by omega) (by omega)
  have hi2 : vp_in (nI i + 2) L := by
    rw [show nI i + 2 = nI (i + 2) from nI_add i 2]
    exact vp_in_nI (by omega) (by omega)
  have hi3 : vp_in (nI i + 3) L := by
    rw [show nI i + 3 = nI (i + 3) from nI_add i 3]
    exact vp_in_nI (by omega) (by omega)
  refine v_aload_n hX 1 396 rfl rfl rfl ?_
  refine v_callV hX 0 (by decide) rfl rfl F1 tw_622 tw_619 tw_620 tw_621 tw_92 (by decide +kernel) ⟨⟨rfl, rfl⟩, (Nat.le_of_ble_eq_true rfl), (Nat.le_of_ble_eq_true rfl)⟩ rfl (Nat.le_of_ble_eq_true rfl) rfl rfl 397 rfl ?_
  refine v_aload_n hX 2 398 rfl rfl rfl ?_
  refine v_callV hX 0 (by decide) rfl rfl F2 tw_696 tw_693 tw_694 tw_695 tw_99 (by decide +kernel) ⟨⟨rfl, rfl⟩, (Nat.le_of_ble_eq_true rfl), (Nat.le_of_ble_eq_true rfl)⟩ rfl (Nat.le_of_ble_eq_true rfl) rfl rfl 399 rfl ?_
  exact v_icmp_eq hX (tgt := 699) 400 rfl (by decide) (fun _ => kk M2 S2) (fun c => absurd rfl c)
set_option maxRecDepth 100000 in
set_option maxHeartbeats 4000000 in
theorem l_21 {Y : Yt} {X : XT} {M : Mm} {b L i : Nat} {xs : Nat → Int32} (hX : vOK Y X iL_law 4 "PointAnswersLaw" room_1 (some .boolean)) (hs : sc X b L xs) (hL : L ≤ 2048) (hi : i + 4 ≤ L) (h : Sim M) (kk : ∀ M2, Sim M2 → V Y X M2 699 [some (.ref b), some (.ref (Y.2.2.2 0)), some (.ref (Y.2.2.2 270)), some (.int (nI i))] []) : V Y X M 653 [some (.ref b), some (.ref (Y.2.2.2 0)), some (.ref (Y.2.2.2 270)), some (.int (nI i))] [] := by
  obtain ⟨r, M1, M2, F1, F2, S2⟩ := p_save (Y := Y) h (xs (nI i + 1).toNatClampNeg)
  have hi1 : vp_in (nI i + 1) L := by
    rw [show nI i + 1 = nI (i + 1) from nI_add i 1]
    exact vp_in_nI (by omega) (by omega)
  have hi2 : vp_in (nI i + 2) L := by
    rw [show nI i + 2 = nI (i + 2) from nI_add i 2]
    exact vp_in_nI (by omega) (by omega)
  have hi3 : vp_in (nI i + 3) L := by
    rw [show nI i + 3 = nI (i + 3) from nI_add i 3]
    exact vp_in_nI (by omega) (by omega)
  refine v_aload_n hX 1 403 rfl rfl rfl ?_
  refine v_aload_n hX 0 404 rfl rfl rfl ?_
  refine v_iload_n hX 3 405 rfl rfl rfl ?_
  refine v_iconst hX (v := 1) 406 rfl (by decide) ?_
  refine v_iadd hX 407 rfl ?_
  refine v_sld hX hs hi1 408 rfl ?_
  refine v_callV hX 1 (by decide) rfl rfl F1 tw_630 tw_627 tw_628 tw_629 tw_92 (by decide +kernel) ⟨⟨rfl, rfl⟩, (Nat.le_of_ble_eq_true rfl), (Nat.le_of_ble_eq_true rfl)⟩ rfl (Nat.le_of_ble_eq_true rfl) rfl rfl 409 rfl ?_
  refine v_aload_n hX 2 410 rfl rfl rfl ?_
  refine v_aload_n hX 0 411 rfl rfl rfl ?_
  refine v_iload_n hX 3 412 rfl rfl rfl ?_
  refine v_iconst hX (v := 1) 413 rfl (by decide) ?_
  refine v_iadd hX 414 rfl ?_
  refine v_sld hX hs hi1 415 rfl ?_
  refine v_callV hX 1 (by decide) rfl rfl F2 tw_700 tw_697 tw_698 tw_699 tw_99 (by decide +kernel) ⟨⟨rfl, rfl⟩, (Nat.le_of_ble_eq_true rfl), (Nat.le_of_ble_eq_true rfl)⟩ rfl (Nat.le_of_ble_eq_true rfl) rfl rfl 416 rfl ?_
  exact v_icmp_eq hX (tgt := 699) 417 rfl (by decide) (fun _ => kk M2 S2) (fun c => absurd rfl c)
set_option maxRecDepth 100000 in
set_option maxHeartbeats 4000000 in
theorem l_22 {Y : Yt} {X : XT} {M : Mm} {b L i : Nat} {xs : Nat → Int32} (hX : vOK Y X iL_law 4 "PointAnswersLaw" room_1 (some .boolean)) (hs : sc X b L xs) (hL : L ≤ 2048) (hi : i + 4 ≤ L) (h : Sim M) (kk : ∀ M2, Sim M2 → V Y X M2 699 [some (.ref b), some (.ref (Y.2.2.2 0)), some (.ref (Y.2.2.2 270)), some (.int (nI i))] []) : V Y X M 676 [some (.ref b), some (.ref (Y.2.2.2 0)), some (.ref (Y.2.2.2 270)), some (.int (nI i))] [] := by
  obtain ⟨r, M1, M2, F1, F2, S2⟩ := p_restore (Y := Y) h (xs (nI i + 1).toNatClampNeg)
  have hi1 : vp_in (nI i + 1) L := by
    rw [show nI i + 1 = nI (i + 1) from nI_add i 1]
    exact vp_in_nI (by omega) (by omega)
  have hi2 : vp_in (nI i + 2) L := by
    rw [show nI i + 2 = nI (i + 2) from nI_add i 2]
    exact vp_in_nI (by omega) (by omega)
  have hi3 : vp_in (nI i + 3) L := by
    rw [show nI i + 3 = nI (i + 3) from nI_add i 3]
    exact vp_in_nI (by omega) (by omega)
  refine v_aload_n hX 1 420 rfl rfl rfl ?_
  refine v_aload_n hX 0 421 rfl rfl rfl ?_
  refine v_iload_n hX 3 422 rfl rfl rfl ?_
  refine v_iconst hX (v := 1) 423 rfl (by decide) ?_
  refine v_iadd hX 424 rfl ?_
  refine v_sld hX hs hi1 425 rfl ?_
  refine v_callV hX 1 (by decide) rfl rfl F1 tw_639 tw_636 tw_637 tw_638 tw_92 (by decide +kernel) ⟨⟨rfl, rfl⟩, (Nat.le_of_ble_eq_true rfl), (Nat.le_of_ble_eq_true rfl)⟩ rfl (Nat.le_of_ble_eq_true rfl) rfl rfl 426 rfl ?_
  refine v_aload_n hX 2 427 rfl rfl rfl ?_
  refine v_aload_n hX 0 428 rfl rfl rfl ?_
  refine v_iload_n hX 3 429 rfl rfl rfl ?_
  refine v_iconst hX (v := 1) 430 rfl (by decide) ?_
  refine v_iadd hX 431 rfl ?_
  refine v_sld hX hs hi1 432 rfl ?_
  refine v_callV hX 1 (by decide) rfl rfl F2 tw_707 tw_704 tw_705 tw_706 tw_99 (by decide +kernel) ⟨⟨rfl, rfl⟩, (Nat.le_of_ble_eq_true rfl), (Nat.le_of_ble_eq_true rfl)⟩ rfl (Nat.le_of_ble_eq_true rfl) rfl rfl 433 rfl ?_
  exact v_icmp_eq hX (tgt := 699) 434 rfl (by decide) (fun _ => kk M2 S2) (fun c => absurd rfl c)
