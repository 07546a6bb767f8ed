theorem f_sa {Y : Yt} {M : Mm} {s q : Nat → Int32} {l a : Nat} (h : RdOK M s l) (ha : a ≤ l) : Fn Y yX3_signAt wsX3_signAt { frames := 0, cells := 0, slots := 0, locals := 0 } [.ref (Y.2.2.2 30), .int (nI a)] (mrow M 32 q) (some (.int (chA s l a))) (mrow M 32 q) := by
  have h2 := h.row (q := q)
  have h3 := f_signAt (Y := Y) (M := mrow M 32 q) (a := a) (by have := h.2.2.1; omega) h2.2.2.1 h2.2.1 h2.2.2.2
  rw [h2.1] at h3
  exact h3
set_option maxRecDepth 100000 in
set_option maxHeartbeats 4000000 in
theorem f_td {Y : Yt} {M : Mm} {lo hi : Int32} {s q : Nat → Int32} {l a : Nat} (h : RdOK M s l) (h0 : q 0 = nI a) (ha : a ≤ l) : Fn Y yX5_takeDigit wsX5_takeDigit { frames := 1, cells := 0, slots := 0, locals := 21 } [.ref (Y.2.2.2 32), .ref (Y.2.2.2 30), .int lo, .int hi] (mrow M 32 q) (some (.int (td s l lo hi a q).1)) ((mrow M 32 (td s l lo hi a q).2.2)) := by
  refine Fn.of (cc := cX5_takeDigit) (ins := iX5_takeDigit) (maxL := 5) (ret := (some .boolean)) (by decide) dX5_takeDigit [some (.ref (Y.2.2.2 32)), some (.ref (Y.2.2.2 30)), some (.int lo), some (.int hi), none] (Nat.le_of_ble_eq_true rfl) rfl rfl ?_
  intro X hX hQ
  refine v_aload_n hX 1 0 rfl rfl rfl ?_
  refine v_aload_n hX 0 1 rfl rfl rfl ?_
  refine g_5_0 hX 2  tw_218 rfl ?_
  rw [mrow_s]
  rw [h0]
  refine v_callVN hX 1 (by decide) rfl rfl (f_sa h ha) tw_583 (List.mem_of_getElem? (i := 48) rfl) tw_96 tw_582 tw_43 (by decide +kernel) ⟨⟨rfl, rfl⟩, Nat.le_of_ble_eq_true rfl, Nat.le_of_ble_eq_true rfl⟩ rfl (Nat.le_of_ble_eq_true rfl) rfl rfl 3 rfl ?_
  refine v_istore hX 4 rfl (Nat.le_of_ble_eq_true rfl) rfl ?_
  refine v_iload hX 5 rfl rfl ?_
  refine v_iload_n hX 2 6 rfl rfl rfl ?_
  refine v_icmp_lt hX (tgt := 22) 7 rfl (by decide) (fun c13 => ?_) (fun c13 => ?_)
  · skip
    refine v_iconst hX (v := 0) 11 rfl (by decide) ?_
    refine v_iret hX hQ rfl rfl ?_ ?_ 12 rfl
    · unfold td; first | rw [if_pos (Or.inl c13)] | rw [if_pos (Or.inr c19)]
    · unfold td; first | rw [if_pos (Or.inl c13)] | rw [if_pos (Or.inr c19)]
  · skip
    refine v_iload hX 8 rfl rfl ?_
    refine v_iload_n hX 3 9 rfl rfl rfl ?_
    refine v_icmp_le hX (tgt := 24) 10 rfl (by decide) (fun c19 => ?_) (fun c19 => ?_)
    · skip
      refine v_aload_n hX 0 13 rfl rfl rfl ?_
      refine v_iload hX 14 rfl rfl ?_
      refine v_bipush hX (v := 48) 15 rfl (by decide) ?_
      refine v_isub hX 16 rfl ?_
      refine p_5_1 hX 17   tw_219 rfl ?_
      refine V.mem mset_mrow ?_
      refine v_aload_n hX 0 18 rfl rfl rfl ?_
      refine v_dup hX 19 rfl rfl ?_
      refine g_5_0 hX 20  tw_218 rfl ?_
      rw [mrow_s]
      refine v_iconst hX (v := 1) 21 rfl (by decide) ?_
      refine v_iadd hX 22 rfl ?_
      refine p_5_0 hX 23   tw_218 rfl ?_
      refine V.mem mset_mrow ?_
      refine v_iconst hX (v := 1) 24 rfl (by decide) ?_
      refine v_iret hX hQ rfl rfl ?_ ?_ 25 rfl
      · unfold td; rw [if_neg (fun g => g.elim c13 (fun g => g c19))]
      · unfold td; rw [if_neg (fun g => g.elim c13 (fun g => g c19))]; show mrow M 32 (upd (upd q 1 _) 0 _) = _; rw [upd_n (show (0 : Nat) ≠ 1 by decide), h0, nI_1]
    · skip
      refine v_iconst hX (v := 0) 11 rfl (by decide) ?_
      refine v_iret hX hQ rfl rfl ?_ ?_ 12 rfl
      · unfold td; first | rw [if_pos (Or.inl c13)] | rw [if_pos (Or.inr c19)]
      · unfold td; first | rw [if_pos (Or.inl c13)] | rw [if_pos (Or.inr c19)]
set_option maxRecDepth 100000 in
set_option maxHeartbeats 4000000 in
theorem f_tk {Y : Yt} {M : Mm} {c : Int32} {s q : Nat → Int32} {l a : Nat} (h : RdOK M s l) (h0 : q 0 = nI a) (ha : a ≤ l) : Fn Y yX5_take wsX5_take { frames := 1, cells := 0, slots := 0, locals := 21 } [.ref (Y.2.2.2 32), .ref (Y.2.2.2 30), .int c] (mrow M 32 q) (some (.int (tkc s l c a q).1)) ((mrow M 32 (tkc s l c a q).2.2)) := by
  refine Fn.of (cc := cX5_take) (ins := iX5_take) (maxL := 3) (ret := (some .boolean)) (by decide) dX5_take [some (.ref (Y.2.2.2 32)), some (.ref (Y.2.2.2 30)), some (.int c)] (Nat.le_of_ble_eq_true rfl) rfl rfl ?_
  intro X hX hQ
  refine v_aload_n hX 1 0 rfl rfl rfl ?_
  refine v_aload_n hX 0 1 rfl rfl rfl ?_
  refine g_5_0 hX 2  tw_218 rfl ?_
  rw [mrow_s]
  rw [h0]
  refine v_callVN hX 1 (by decide) rfl rfl (f_sa h ha) tw_583 (List.mem_of_getElem? (i := 48) rfl) tw_96 tw_582 tw_43 (by decide +kernel) ⟨⟨rfl, rfl⟩, Nat.le_of_ble_eq_true rfl, Nat.le_of_ble_eq_true rfl⟩ rfl (Nat.le_of_ble_eq_true rfl) rfl rfl 3 rfl ?_
  refine v_iload_n hX 2 4 rfl rfl rfl ?_
  refine v_icmp_eq hX (tgt := 14) 5 rfl (by decide) (fun c9 => ?_) (fun c9 => ?_)
  · skip
    refine v_aload_n hX 0 8 rfl rfl rfl ?_
    refine v_dup hX 9 rfl rfl ?_
    refine g_5_0 hX 10  tw_218 rfl ?_
    rw [mrow_s]
    refine v_iconst hX (v := 1) 11 rfl (by decide) ?_
    refine v_iadd hX 12 rfl ?_
    refine p_5_0 hX 13   tw_218 rfl ?_
    refine V.mem mset_mrow ?_
    refine v_iconst hX (v := 1) 14 rfl (by decide) ?_
    refine v_iret hX hQ rfl rfl ?_ ?_ 15 rfl
    · unfold tkc; rw [if_pos c9]
    · unfold tkc; rw [if_pos c9, h0, nI_1]
  · skip
    refine v_iconst hX (v := 0) 6 rfl (by decide) ?_
    refine v_iret hX hQ rfl rfl ?_ ?_ 7 rfl
    · unfold tkc; rw [if_neg c9]
    · unfold tkc; rw [if_neg c9]
set_option maxRecDepth 100000 in
set_option maxHeartbeats 4000000 in
theorem f_rdg {Y : Yt} {M : Mm} {lo hi : Int32} {s q : Nat → Int32} {l a : Nat} (h : RdOK M s l) (h0 : q 0 = nI a) (ha : a ≤ l) : Fn Y yX5_readDigit wsX5_readDigit { frames := 2, cells := 0, slots := 0, locals := 45 } [.ref (Y.2.2.2 32), .ref (Y.2.2.2 30), .int lo, .int hi] (mrow M 32 q) (some (.int (rdg s l lo hi a q).1)) ((mrow M 32 (rdg s l lo hi a q).2.2)) := by
  refine Fn.of (cc := cX5_readDigit) (ins := iX5_readDigit) (maxL := 4) (ret := (some .boolean)) (by decide) dX5_readDigit [some (.ref (Y.2.2.2 32)), some (.ref (Y.2.2.2 30)), some (.int lo), some (.int hi)] (Nat.le_of_ble_eq_true rfl) rfl rfl ?_
  intro X hX hQ
  refine v_aload_n hX 0 0 rfl rfl rfl ?_
  refine v_aload_n hX 1 1 rfl rfl rfl ?_
  refine v_iload_n hX 2 2 rfl rfl rfl ?_
  refine v_iload_n hX 3 3 rfl rfl rfl ?_
  refine v_callV hX 3 (by decide) rfl rfl (f_td h h0 ha) tw_591 tw_588 tw_590 tw_45 tw_97 (by decide +kernel) ⟨⟨rfl, rfl⟩, Nat.le_of_ble_eq_true rfl, Nat.le_of_ble_eq_true rfl⟩ rfl (Nat.le_of_ble_eq_true rfl) rfl rfl 4 rfl ?_
  refine v_if_ne hX (tgt := 12) 5 rfl (by decide) (fun c7 => ?_) (fun c7 => ?_)
  · skip
    refine v_aload_n hX 0 8 rfl rfl rfl ?_
    refine v_aload_n hX 0 9 rfl rfl rfl ?_
    refine g_5_1 hX 10  tw_219 rfl ?_
    rw [mrow_s]
    refine p_5_3 hX 11   tw_222 rfl ?_
    refine V.mem mset_mrow ?_
    refine v_iconst hX (v := 1) 12 rfl (by decide) ?_
    refine v_iret hX hQ rfl rfl ?_ ?_ 13 rfl
    · unfold rdg; rw [if_neg c7]
    · unfold rdg; rw [if_neg c7]
  · skip
    refine v_iconst hX (v := 0) 6 rfl (by decide) ?_
    refine v_iret hX hQ rfl rfl ?_ ?_ 7 rfl
    · unfold rdg; rw [if_pos c7]
    · unfold rdg; rw [if_pos c7]
set_option maxRecDepth 100000 in
set_option maxHeartbeats 4000000 in
theorem f_rnm {Y : Yt} {M : Mm} {s q : Nat → Int32} {l a : Nat} (h : RdOK M s l) (h0 : q 0 = nI a) (ha : a ≤ l) : Fn Y yX5_readNumber wsX5_readNumber { frames := 3, cells := 0, slots := 0, locals := 68 } [.ref (Y.2.2.2 32), .ref (Y.2.2.2 30)] (mrow M 32 q) (some (.int (rnm s l a q).1)) ((mrow M 32 (rnm s l a q).2.2)) := by
  refine Fn.of (cc := cX5_readNumber) (ins := iX5_readNumber) (maxL := 2) (ret := (some .boolean)) (by decide) dX5_readNumber [some (.ref (Y.2.2.2 32)), some (.ref (Y.2.2.2 30))] (Nat.le_of_ble_eq_true rfl) rfl rfl ?_
  intro X hX hQ
  refine v_aload_n hX 0 0 rfl rfl rfl ?_
  refine v_aload_n hX 1 1 rfl rfl rfl ?_
  refine v_bipush hX (v := 48) 2 rfl (by decide) ?_
  refine v_bipush hX (v := 57) 3 rfl (by decide) ?_
  refine v_callV hX 3 (by decide) rfl rfl (f_rdg h h0 ha) tw_587 tw_584 tw_586 tw_44 tw_97 (by decide +kernel) ⟨⟨rfl, rfl⟩, Nat.le_of_ble_eq_true rfl, Nat.le_of_ble_eq_true rfl⟩ rfl (Nat.le_of_ble_eq_true rfl) rfl rfl 4 rfl ?_
  have hk := rdg_ok (s := s) (lo := 48) (hi := 57) (by decide) h0 ha
  refine v_if_ne hX (tgt := 14) 5 rfl (by decide) (fun c9 => ?_) (fun c9 => ?_)
  · skip
    refine v_aload_n hX 0 8 rfl rfl rfl ?_
    refine g_5_3 hX 9  tw_222 rfl ?_
    rw [mrow_s]
    refine v_if_le hX (tgt := 49) 10 rfl (by decide) (fun c18 => ?_) (fun c18 => ?_)
    · skip
      refine v_iconst hX (v := 1) 26 rfl (by decide) ?_
      refine v_iret hX hQ rfl rfl ?_ ?_ 27 rfl
      · unfold rnm; first | (rw [if_neg c9, if_pos c18]; done) | (unfold rnm2; rw [if_neg c9, if_neg c18, if_pos c30]; done) | (unfold rnm2; rw [if_neg c9, if_neg c18, if_neg c30])
      · unfold rnm; first | (rw [if_neg c9, if_pos c18]; done) | (unfold rnm2; rw [if_neg c9, if_neg c18, if_pos c30]; done) | (unfold rnm2; rw [if_neg c9, if_neg c18, if_neg c30])
    · skip
      refine v_aload_n hX 0 11 rfl rfl rfl ?_
      refine v_aload_n hX 1 12 rfl rfl rfl ?_
      refine v_bipush hX (v := 48) 13 rfl (by decide) ?_
      refine v_bipush hX (v := 57) 14 rfl (by decide) ?_
      refine v_callV hX 3 (by decide) rfl rfl (f_td h hk.1 hk.2) tw_591 tw_588 tw_590 tw_45 tw_97 (by decide +kernel) ⟨⟨rfl, rfl⟩, Nat.le_of_ble_eq_true rfl, Nat.le_of_ble_eq_true rfl⟩ rfl (Nat.le_of_ble_eq_true rfl) rfl rfl 15 rfl ?_
      refine v_if_eq hX (tgt := 49) 16 rfl (by decide) (fun c30 => ?_) (fun c30 => ?_)
      · skip
        refine v_iconst hX (v := 1) 26 rfl (by decide) ?_
        refine v_iret hX hQ rfl rfl ?_ ?_ 27 rfl
        · unfold rnm; first | (rw [if_neg c9, if_pos c18]; done) | (unfold rnm2; rw [if_neg c9, if_neg c18, if_pos c30]; done) | (unfold rnm2; rw [if_neg c9, if_neg c18, if_neg c30])
        · unfold rnm; first | (rw [if_neg c9, if_pos c18]; done) | (unfold rnm2; rw [if_neg c9, if_neg c18, if_pos c30]; done) | (unfold rnm2; rw [if_neg c9, if_neg c18, if_neg c30])
      · skip
        refine v_aload_n hX 0 17 rfl rfl rfl ?_
        refine v_bipush hX (v := 10) 18 rfl (by decide) ?_
        refine v_aload_n hX 0 19 rfl rfl rfl ?_
        refine g_5_3 hX 20  tw_222 rfl ?_
        rw [mrow_s]
        refine v_imul hX 21 rfl ?_
        refine v_aload_n hX 0 22 rfl rfl rfl ?_
        refine g_5_1 hX 23  tw_219 rfl ?_
        rw [mrow_s]
        refine v_iadd hX 24 rfl ?_
        refine p_5_3 hX 25   tw_222 rfl ?_
        refine V.mem mset_mrow ?_
        refine v_iconst hX (v := 1) 26 rfl (by decide) ?_
        refine v_iret hX hQ rfl rfl ?_ ?_ 27 rfl
        · unfold rnm; first | (rw [if_neg c9, if_pos c18]; done) | (unfold rnm2; rw [if_neg c9, if_neg c18, if_pos c30]; done) | (unfold rnm2; rw [if_neg c9, if_neg c18, if_neg c30])
        · unfold rnm; first | (rw [if_neg c9, if_pos c18]; done) | (unfold rnm2; rw [if_neg c9, if_neg c18, if_pos c30]; done) | (unfold rnm2; rw [if_neg c9, if_neg c18, if_neg c30])
  · skip
    refine v_iconst hX (v := 0) 6 rfl (by decide) ?_
    refine v_iret hX hQ rfl rfl ?_ ?_ 7 rfl
    · unfold rnm; rw [if_pos c9]
    · unfold rnm; rw [if_pos c9]
set_option maxRecDepth 100000 in
set_option maxHeartbeats 4000000 in
theorem f_rcs {Y : Yt} {M : Mm} {s q : Nat → Int32} {l a : Nat} (h : RdOK M s l) (h0 : q 0 = nI a) (ha : a ≤ l) : Fn Y yX5_readCites wsX5_readCites { frames := 2, cells := 0, slots := 0, locals := 45 } [.ref (Y.2.2.2 32), .ref (Y.2.2.2 30)] (mrow M 32 q) (some (.int (rcs s l a q).1)) ((mrow M 32 (rcs s l a q).2.2)) := by
  refine Fn.of (cc := cX5_readCites) (ins := iX5_readCites) (maxL := 3) (ret := (some .boolean)) (by decide) dX5_readCites [some (.ref (Y.2.2.2 32)), some (.ref (Y.2.2.2 30)), none] (Nat.le_of_ble_eq_true rfl) rfl rfl ?_
  intro X hX hQ
  refine v_aload_n hX 0 0 rfl rfl rfl ?_
  refine v_iconst hX (v := 0) 1 rfl (by decide) ?_
  refine p_5_5 hX 2   tw_226 rfl ?_
  refine V.mem mset_mrow ?_
  refine v_aload_n hX 0 3 rfl rfl rfl ?_
  refine v_aload_n hX 1 4 rfl rfl rfl ?_
  refine v_bipush hX (v := 43) 5 rfl (by decide) ?_
  refine v_callV hX 2 (by decide) rfl rfl (f_tk h (show (upd q 5 0) 0 = nI a by rw [upd_n (by decide)]; exact h0) ha) tw_599 tw_596 tw_598 tw_47 tw_97 (by decide +kernel) ⟨⟨rfl, rfl⟩, Nat.le_of_ble_eq_true rfl, Nat.le_of_ble_eq_true rfl⟩ rfl (Nat.le_of_ble_eq_true rfl) rfl rfl 6 rfl ?_
  have hk := tkc_ok (s := s) (c := 43) (q := upd q 5 0) (by decide) (show (upd q 5 0) 0 = nI a by rw [upd_n (by decide)]; exact h0) ha
  refine v_if_ne hX (tgt := 17) 7 rfl (by decide) (fun c12 => ?_) (fun c12 => ?_)
  · skip
    refine v_iconst hX (v := 0) 10 rfl (by decide) ?_
    refine v_istore_n hX 2 11 rfl rfl (Nat.le_of_ble_eq_true rfl) rfl ?_
    have lp : ∀ (k : Nat), k ≤ 80 → ∀ (p : Nat) (w : Nat → Int32), w 0 = nI p → p ≤ l → rcl s l (80 - k) p w = rcl s l 80 (tkc s l 43 a (upd q 5 0)).2.1 (tkc s l 43 a (upd q 5 0)).2.2 → V Y X (mrow M 32 w) 19 [some (.ref (Y.2.2.2 32)), some (.ref (Y.2.2.2 30)), some (.int (nI k))] [] := by
      refine upTo 80 (fun k hk ih => ?_)
      intro p w hw0 hp he
      refine v_iload_n hX 2 12 rfl rfl rfl ?_
      refine v_bipush hX (v := 80) 13 rfl (by decide) ?_
      refine v_icmp_ge hX (tgt := 58) 14 rfl (by decide) (fun c22 => ?_) (fun c22 => ?_)
      · skip
        have hk2 : k = 80 := by have := of_le (a := 80) c22 (by omega) (by omega); omega
        subst hk2
        have he2 : (p, w) = rcl s l 80 (tkc s l 43 a (upd q 5 0)).2.1 (tkc s l 43 a (upd q 5 0)).2.2 := he
        refine v_aload_n hX 0 32 rfl rfl rfl ?_
        refine g_5_5 hX 33  tw_226 rfl ?_
        rw [mrow_s]
        refine v_if_eq hX (tgt := 69) 34 rfl (by decide) (fun c62 => ?_) (fun c62 => ?_)
        · skip
          refine v_iconst hX (v := 0) 37 rfl (by decide) ?_
          refine v_iret hX hQ rfl (by first | rfl) ?_ ?_ 38 rfl
          · unfold rcs; rw [if_neg c12]; first | (rw [← he2]; simp only [c12, c22, c62, if_true, if_false]; done) | (rw [← he]; simp only [c12, c22, c62, if_true, if_false]; done)
          · unfold rcs; rw [if_neg c12]; first | (rw [← he2]; done) | (rw [← he])
        · skip
          refine v_iconst hX (v := 1) 35 rfl (by decide) ?_
          refine v_goto hX (tgt := 70) 36 rfl (by decide) ?_
          refine v_iret hX hQ rfl (by first | rfl) ?_ ?_ 38 rfl
          · unfold rcs; rw [if_neg c12]; first | (rw [← he2]; simp only [c12, c22, c62, if_true, if_false]; done) | (rw [← he]; simp only [c12, c22, c62, if_true, if_false]; done)
          · unfold rcs; rw [if_neg c12]; first | (rw [← he2]; done) | (rw [← he])
      · skip
        have hk2 : k < 80 := of_nle (a := 80) c22 (by omega) (by omega)
        obtain ⟨f, hf⟩ : ∃ f, 80 - k = f + 1 := ⟨79 - k, by omega⟩
        rw [hf, rcl] at he
        refine v_aload_n hX 0 15 rfl rfl rfl ?_
        refine v_aload_n hX 1 16 rfl rfl rfl ?_
        refine v_bipush hX (v := 48) 17 rfl (by decide) ?_
        refine v_bipush hX (v := 57) 18 rfl (by decide) ?_
        refine v_callV hX 3 (by decide) rfl rfl (f_td h hw0 hp) tw_591 tw_588 tw_590 tw_45 tw_97 (by decide +kernel) ⟨⟨rfl, rfl⟩, Nat.le_of_ble_eq_true rfl, Nat.le_of_ble_eq_true rfl⟩ rfl (Nat.le_of_ble_eq_true rfl) rfl rfl 19 rfl ?_
        refine v_if_eq hX (tgt := 58) 20 rfl (by decide) (fun c34 => ?_) (fun c34 => ?_)
        · skip
          rw [if_pos c34] at he
          refine v_aload_n hX 0 32 rfl rfl rfl ?_
          refine g_5_5 hX 33  tw_226 rfl ?_
          rw [mrow_s]
          refine v_if_eq hX (tgt := 69) 34 rfl (by decide) (fun c62 => ?_) (fun c62 => ?_)
          · skip
            refine v_iconst hX (v := 0) 37 rfl (by decide) ?_
            refine v_iret hX hQ rfl (by first | rfl) ?_ ?_ 38 rfl
            · unfold rcs; rw [if_neg c12]; first | (rw [← he2]; simp only [c12, c22, c34, c62, if_true, if_false]; done) | (rw [← he]; simp only [c12, c22, c34, c62, if_true, if_false]; done)
            · unfold rcs; rw [if_neg c12]; first | (rw [← he2]; done) | (rw [← he])
          · skip
            refine v_iconst hX (v := 1) 35 rfl (by decide) ?_
            refine v_goto hX (tgt := 70) 36 rfl (by decide) ?_
            refine v_iret hX hQ rfl (by first | rfl) ?_ ?_ 38 rfl
            · unfold rcs; rw [if_neg c12]; first | (rw [← he2]; simp only [c12, c22, c34, c62, if_true, if_false]; done) | (rw [← he]; simp only [c12, c22, c34, c62, if_true, if_false]; done)
            · unfold rcs; rw [if_neg c12]; first | (rw [← he2]; done) | (rw [← he])
        · skip
          rw [if_neg c34] at he
          have hd := td_ok (s := s) (lo := 48) (hi := 57) (by decide) hw0 hp
          refine v_aload_n hX 0 21 rfl rfl rfl ?_
          refine v_dup hX 22 rfl rfl ?_
          refine g_5_5 hX 23  tw_226 rfl ?_
          rw [mrow_s]
          refine v_iconst hX (v := 1) 24 rfl (by decide) ?_
          refine v_aload_n hX 0 25 rfl rfl rfl ?_
          refine g_5_1 hX 26  tw_219 rfl ?_
          rw [mrow_s]
          refine v_ishl hX 27 rfl ?_
          refine v_ior hX 28 rfl ?_
          refine p_5_5 hX 29   tw_226 rfl ?_
          refine V.mem mset_mrow ?_
          refine v_iinc hX 30 rfl rfl (nI_inc k) (Nat.le_of_ble_eq_true rfl) rfl ?_
          refine v_goto hX (tgt := 19) 31 rfl (by decide) ?_
          exact V.sub (ih hk2 _ _ (by rw [upd_n (by decide)]; exact hd.1) hd.2 (by rw [show 80 - (k + 1) = f by omega]; exact he)) rfl ⟨rfl, rfl, rfl, trivial⟩
    exact V.sub (lp 0 (Nat.zero_le _) _ _ hk.1 hk.2 rfl) rfl ⟨rfl, rfl, rfl, trivial⟩
  · skip
    refine v_iconst hX (v := 1) 8 rfl (by decide) ?_
    refine v_iret hX hQ rfl rfl ?_ ?_ 9 rfl
    · unfold rcs; rw [if_pos c12]
    · unfold rcs; rw [if_pos c12]
set_option maxRecDepth 100000 in
set_option maxHeartbeats 4000000 in
theorem f_rpp {Y : Yt} {M : Mm} {s q : Nat → Int32} {l a : Nat} (h : RdOK M s l) (h0 : q 0 = nI a) (ha : a ≤ l) : Fn Y yX5_readPaper wsX5_readPaper { frames := 3, cells := 0, slots := 0, locals := 67 } [.ref (Y.2.2.2 32), .ref (Y.2.2.2 30)] (mrow M 32 q) (some (.int (rpp s l a q).1)) ((mrow M 32 (rpp s l a q).2.2)) := by
  refine Fn.of (cc := cX5_readPaper) (ins := iX5_readPaper) (maxL := 2) (ret := (some .boolean)) (by decide) dX5_readPaper [some (.ref (Y.2.2.2 32)), some (.ref (Y.2.2.2 30))] (Nat.le_of_ble_eq_true rfl) rfl rfl ?_
  intro X hX hQ
  refine v_aload_n hX 0 0 rfl rfl rfl ?_
  refine v_aload_n hX 1 1 rfl rfl rfl ?_
  refine v_bipush hX (v := 47) 2 rfl (by decide) ?_
  refine v_callV hX 2 (by decide) rfl rfl (f_tk h h0 ha) tw_599 tw_596 tw_598 tw_47 tw_97 (by decide +kernel) ⟨⟨rfl, rfl⟩, Nat.le_of_ble_eq_true rfl, Nat.le_of_ble_eq_true rfl⟩ rfl (Nat.le_of_ble_eq_true rfl) rfl rfl 3 rfl ?_
  have hk := tkc_ok (s := s) (c := 47) (by decide) h0 ha
  refine v_if_eq hX (tgt := 22) 4 rfl (by decide) (fun c7 => ?_) (fun c7 => ?_)
  · skip
    refine v_iconst hX (v := 0) 11 rfl (by decide) ?_
    refine v_iret hX hQ rfl rfl ?_ ?_ 12 rfl
    · unfold rpp; first | (rw [if_pos c7]; done) | rw [if_neg c7, if_pos c19]
    · unfold rpp; first | (rw [if_pos c7]; done) | rw [if_neg c7, if_pos c19]
  · skip
    refine v_aload_n hX 0 5 rfl rfl rfl ?_
    refine v_aload_n hX 1 6 rfl rfl rfl ?_
    refine v_bipush hX (v := 49) 7 rfl (by decide) ?_
    refine v_bipush hX (v := 57) 8 rfl (by decide) ?_
    refine v_callV hX 3 (by decide) rfl rfl (f_td h hk.1 hk.2) tw_591 tw_588 tw_590 tw_45 tw_97 (by decide +kernel) ⟨⟨rfl, rfl⟩, Nat.le_of_ble_eq_true rfl, Nat.le_of_ble_eq_true rfl⟩ rfl (Nat.le_of_ble_eq_true rfl) rfl rfl 9 rfl ?_
    have hk2 := td_ok (s := s) (lo := 49) (hi := 57) (by decide) hk.1 hk.2
    refine v_if_ne hX (tgt := 24) 10 rfl (by decide) (fun c19 => ?_) (fun c19 => ?_)
    · skip
      refine v_aload_n hX 0 13 rfl rfl rfl ?_
      refine v_aload_n hX 0 14 rfl rfl rfl ?_
      refine g_5_1 hX 15  tw_219 rfl ?_
      rw [mrow_s]
      refine p_5_4 hX 16   tw_224 rfl ?_
      refine V.mem mset_mrow ?_
      refine v_aload_n hX 0 17 rfl rfl rfl ?_
      refine v_aload_n hX 1 18 rfl rfl rfl ?_
      refine v_callV hX 1 (by decide) rfl rfl (f_rcs h (by rw [upd_n (by decide)]; exact hk2.1) hk2.2) tw_603 tw_600 tw_602 tw_48 tw_97 (by decide +kernel) ⟨⟨rfl, rfl⟩, Nat.le_of_ble_eq_true rfl, Nat.le_of_ble_eq_true rfl⟩ rfl (Nat.le_of_ble_eq_true rfl) rfl rfl 19 rfl ?_
      refine v_iret hX hQ rfl (nar_b rcs_01) ?_ ?_ 20 rfl
      · unfold rpp; rw [if_neg c7, if_neg c19]
      · unfold rpp; rw [if_neg c7, if_neg c19]
    · skip
      refine v_iconst hX (v := 0) 11 rfl (by decide) ?_
      refine v_iret hX hQ rfl rfl ?_ ?_ 12 rfl
      · unfold rpp; first | (rw [if_pos c7]; done) | rw [if_neg c7, if_pos c19]
      · unfold rpp; first | (rw [if_pos c7]; done) | rw [if_neg c7, if_pos c19]
set_option maxRecDepth 100000 in
set_option maxHeartbeats 4000000 in
theorem f_ror {Y : Yt} {M : Mm} {s q : Nat → Int32} {l a : Nat} (h : RdOK M s l) (h0 : q 0 = nI a) (ha : a ≤ l) : Fn Y yX5_readOrder wsX5_readOrder { frames := 4, cells := 0, slots := 0, locals := 89 } [.ref (Y.2.2.2 32), .ref (Y.2.2.2 30)] (mrow M 32 q) (some (.int (ror s l a q).1)) ((mrow M 32 (ror s l a q).2.2)) := by
  refine Fn.of (cc := cX5_readOrder) (ins := iX5_readOrder) (maxL := 2) (ret := (some .boolean)) (by decide) dX5_readOrder [some (.ref (Y.2.2.2 32)), some (.ref (Y.2.2.2 30))] (Nat.le_of_ble_eq_true rfl) rfl rfl ?_
  intro X hX hQ
  refine v_aload_n hX 0 0 rfl rfl rfl ?_
  refine v_aload_n hX 1 1 rfl rfl rfl ?_
  refine v_aload_n hX 0 2 rfl rfl rfl ?_
  refine g_5_0 hX 3  tw_218 rfl ?_
  rw [mrow_s]
  rw [h0]
  refine v_callVN hX 1 (by decide) rfl rfl (f_sa h ha) tw_583 (List.mem_of_getElem? (i := 48) rfl) tw_96 tw_582 tw_43 (by decide +kernel) ⟨⟨rfl, rfl⟩, Nat.le_of_ble_eq_true rfl, Nat.le_of_ble_eq_true rfl⟩ rfl (Nat.le_of_ble_eq_true rfl) rfl rfl 4 rfl ?_
  refine p_5_2 hX 5  (chA_c h).1 (chA_c h).2 tw_220 rfl ?_
  refine V.mem mset_mrow ?_
  refine v_aload_n hX 0 6 rfl rfl rfl ?_
  refine g_5_2 hX 7  tw_220 rfl ?_
  rw [mrow_s, upd_s]
  rcases ord7 (chA s l a) with hc | hc | hc | hc | hc | hc | hc
  · skip
    have hl1 : a + 1 ≤ l := chA_lt (s := s) (show ¬ chA s l a = 0 by rw [hc]; decide)
    have hu : (upd (upd q 2 (chA s l a)) 0 (nI (a + 1))) 0 = nI (a + 1) := upd_s
    have hro : ror s l a q = thn (rdg s l 48 49 (a + 1) (upd (upd q 2 (chA s l a)) 0 (nI (a + 1)))) (rpp s l (rdg s l 48 49 (a + 1) (upd (upd q 2 (chA s l a)) 0 (nI (a + 1)))).2.1 (rdg s l 48 49 (a + 1) (upd (upd q 2 (chA s l a)) 0 (nI (a + 1)))).2.2) := by unfold ror; rw [if_pos hc]
    refine v_lookup hX (off := 60) (tgt := 76) 8 rfl (by decide) (by rw [hc]; decide) (by decide) ?_
    refine v_aload_n hX 0 9 rfl rfl rfl ?_
    refine v_dup hX 10 rfl rfl ?_
    refine g_5_0 hX 11  tw_218 rfl ?_
    rw [mrow_s]
    refine v_iconst hX (v := 1) 12 rfl (by decide) ?_
    refine v_iadd hX 13 rfl ?_
    refine p_5_0 hX 14   tw_218 rfl ?_
    refine V.mem mset_mrow ?_
    rw [upd_n (show (0 : Nat) ≠ 2 by decide), h0, nI_1]
    refine v_aload_n hX 0 15 rfl rfl rfl ?_
    refine v_aload_n hX 1 16 rfl rfl rfl ?_
    refine v_bipush hX (v := 48) 17 rfl (by decide) ?_
    refine v_bipush hX (v := 49) 18 rfl (by decide) ?_
    refine v_callV hX 3 (by decide) rfl rfl (f_rdg h hu hl1) tw_587 tw_584 tw_586 tw_44 tw_97 (by decide +kernel) ⟨⟨rfl, rfl⟩, Nat.le_of_ble_eq_true rfl, Nat.le_of_ble_eq_true rfl⟩ rfl (Nat.le_of_ble_eq_true rfl) rfl rfl 19 rfl ?_
    have hk := rdg_ok (s := s) (lo := 48) (hi := 49) (by decide) hu hl1
    refine v_if_eq hX (tgt := 110) 20 rfl (by decide) (fun c95 => ?_) (fun c95 => ?_)
    · skip
      refine v_iconst hX (v := 0) 27 rfl (by decide) ?_
      refine v_iret hX hQ rfl rfl ?_ ?_ 28 rfl
      · rw [hro]; unfold thn; first | (rw [if_pos c95]; done) | (rw [if_neg c95, if_pos c103]; done) | (rw [if_neg c95, if_neg c103])
      · rw [hro]; unfold thn; first | (rw [if_pos c95]; done) | (rw [if_neg c95]; done)
    · skip
      refine v_aload_n hX 0 21 rfl rfl rfl ?_
      refine v_aload_n hX 1 22 rfl rfl rfl ?_
      refine v_callV hX 1 (by decide) rfl rfl (f_rpp h hk.1 hk.2) tw_595 tw_592 tw_594 tw_46 tw_97 (by decide +kernel) ⟨⟨rfl, rfl⟩, Nat.le_of_ble_eq_true rfl, Nat.le_of_ble_eq_true rfl⟩ rfl (Nat.le_of_ble_eq_true rfl) rfl rfl 23 rfl ?_
      refine v_if_eq hX (tgt := 110) 24 rfl (by decide) (fun c103 => ?_) (fun c103 => ?_)
      · skip
        refine v_iconst hX (v := 0) 27 rfl (by decide) ?_
        refine v_iret hX hQ rfl rfl ?_ ?_ 28 rfl
        · rw [hro]; unfold thn; first | (rw [if_pos c95]; done) | (rw [if_neg c95, if_pos c103]; done) | (rw [if_neg c95, if_neg c103])
        · rw [hro]; unfold thn; first | (rw [if_pos c95]; done) | (rw [if_neg c95]; done)
      · skip
        refine v_iconst hX (v := 1) 25 rfl (by decide) ?_
        refine v_goto hX (tgt := 111) 26 rfl (by decide) ?_
        refine v_iret hX hQ rfl rfl ?_ ?_ 28 rfl
        · rw [hro]; unfold thn; first | (rw [if_pos c95]; done) | (rw [if_neg c95, if_pos c103]; done) | (rw [if_neg c95, if_neg c103])
        · rw [hro]; unfold thn; first | (rw [if_pos c95]; done) | (rw [if_neg c95]; done)
  · skip
    have hl1 : a + 1 ≤ l := chA_lt (s := s) (show ¬ chA s l a = 0 by rw [hc]; decide)
    have hu : (upd (upd q 2 (chA s l a)) 0 (nI (a + 1))) 0 = nI (a + 1) := upd_s
    have hro : ror s l a q = thn (rnm s l (a + 1) (upd (upd q 2 (chA s l a)) 0 (nI (a + 1)))) (rpp s l (rnm s l (a + 1) (upd (upd q 2 (chA s l a)) 0 (nI (a + 1)))).2.1 (rnm s l (a + 1) (upd (upd q 2 (chA s l a)) 0 (nI (a + 1)))).2.2) := by unfold ror; rw [if_neg (by rw [hc]; decide), if_pos hc]
    refine v_lookup hX (off := 96) (tgt := 112) 8 rfl (by decide) (by rw [hc]; decide) (by decide) ?_
    refine v_aload_n hX 0 29 rfl rfl rfl ?_
    refine v_dup hX 30 rfl rfl ?_
    refine g_5_0 hX 31  tw_218 rfl ?_
    rw [mrow_s]
    refine v_iconst hX (v := 1) 32 rfl (by decide) ?_
    refine v_iadd hX 33 rfl ?_
    refine p_5_0 hX 34   tw_218 rfl ?_
    refine V.mem mset_mrow ?_
    rw [upd_n (show (0 : Nat) ≠ 2 by decide), h0, nI_1]
    refine v_aload_n hX 0 35 rfl rfl rfl ?_
    refine v_aload_n hX 1 36 rfl rfl rfl ?_
    refine v_callV hX 1 (by decide) rfl rfl (f_rnm h hu hl1) tw_607 tw_604 tw_606 tw_49 tw_97 (by decide +kernel) ⟨⟨rfl, rfl⟩, Nat.le_of_ble_eq_true rfl, Nat.le_of_ble_eq_true rfl⟩ rfl (Nat.le_of_ble_eq_true rfl) rfl rfl 37 rfl ?_
    have hk := rnm_ok (s := s) hu hl1
    refine v_if_eq hX (tgt := 142) 38 rfl (by decide) (fun c127 => ?_) (fun c127 => ?_)
    · skip
      refine v_iconst hX (v := 0) 45 rfl (by decide) ?_
      refine v_iret hX hQ rfl rfl ?_ ?_ 46 rfl
      · rw [hro]; unfold thn; first | (rw [if_pos c127]; done) | (rw [if_neg c127, if_pos c135]; done) | (rw [if_neg c127, if_neg c135])
      · rw [hro]; unfold thn; first | (rw [if_pos c127]; done) | (rw [if_neg c127]; done)
    · skip
      refine v_aload_n hX 0 39 rfl rfl rfl ?_
      refine v_aload_n hX 1 40 rfl rfl rfl ?_
      refine v_callV hX 1 (by decide) rfl rfl (f_rpp h hk.1 hk.2) tw_595 tw_592 tw_594 tw_46 tw_97 (by decide +kernel) ⟨⟨rfl, rfl⟩, Nat.le_of_ble_eq_true rfl, Nat.le_of_ble_eq_true rfl⟩ rfl (Nat.le_of_ble_eq_true rfl) rfl rfl 41 rfl ?_
      refine v_if_eq hX (tgt := 142) 42 rfl (by decide) (fun c135 => ?_) (fun c135 => ?_)
      · skip
        refine v_iconst hX (v := 0) 45 rfl (by decide) ?_
        refine v_iret hX hQ rfl rfl ?_ ?_ 46 rfl
        · rw [hro]; unfold thn; first | (rw [if_pos c127]; done) | (rw [if_neg c127, if_pos c135]; done) | (rw [if_neg c127, if_neg c135])
        · rw [hro]; unfold thn; first | (rw [if_pos c127]; done) | (rw [if_neg c127]; done)
      · skip
        refine v_iconst hX (v := 1) 43 rfl (by decide) ?_
        refine v_goto hX (tgt := 143) 44 rfl (by decide) ?_
        refine v_iret hX hQ rfl rfl ?_ ?_ 46 rfl
        · rw [hro]; unfold thn; first | (rw [if_pos c127]; done) | (rw [if_neg c127, if_pos c135]; done) | (rw [if_neg c127, if_neg c135])
        · rw [hro]; unfold thn; first | (rw [if_pos c127]; done) | (rw [if_neg c127]; done)
  · skip
    have hl1 : a + 1 ≤ l := chA_lt (s := s) (show ¬ chA s l a = 0 by rw [hc]; decide)
    have hu : (upd (upd q 2 (chA s l a)) 0 (nI (a + 1))) 0 = nI (a + 1) := upd_s
    have hro : ror s l a q = rnm s l (a + 1) (upd (upd q 2 (chA s l a)) 0 (nI (a + 1))) := by unfold ror; rw [if_neg (by rw [hc]; decide), if_neg (by rw [hc]; decide), if_pos (Or.inl hc)]
    refine v_lookup hX (off := 128) (tgt := 144) 8 rfl (by decide) (by rw [hc]; decide) (by decide) ?_
    refine v_aload_n hX 0 47 rfl rfl rfl ?_
    refine v_dup hX 48 rfl rfl ?_
    refine g_5_0 hX 49  tw_218 rfl ?_
    rw [mrow_s]
    refine v_iconst hX (v := 1) 50 rfl (by decide) ?_
    refine v_iadd hX 51 rfl ?_
    refine p_5_0 hX 52   tw_218 rfl ?_
    refine V.mem mset_mrow ?_
    rw [upd_n (show (0 : Nat) ≠ 2 by decide), h0, nI_1]
    refine v_aload_n hX 0 53 rfl rfl rfl ?_
    refine v_aload_n hX 1 54 rfl rfl rfl ?_
    refine v_callV hX 1 (by decide) rfl rfl (f_rnm h hu hl1) tw_607 tw_604 tw_606 tw_49 tw_97 (by decide +kernel) ⟨⟨rfl, rfl⟩, Nat.le_of_ble_eq_true rfl, Nat.le_of_ble_eq_true rfl⟩ rfl (Nat.le_of_ble_eq_true rfl) rfl rfl 55 rfl ?_
    refine v_iret hX hQ rfl (nar_b rnm_01) ?_ ?_ 56 rfl
    · rw [hro]
    · rw [hro]
  · skip
    have hl1 : a + 1 ≤ l := chA_lt (s := s) (show ¬ chA s l a = 0 by rw [hc]; decide)
    have hu : (upd (upd q 2 (chA s l a)) 0 (nI (a + 1))) 0 = nI (a + 1) := upd_s
    have hro : ror s l a q = rnm s l (a + 1) (upd (upd q 2 (chA s l a)) 0 (nI (a + 1))) := by unfold ror; rw [if_neg (by rw [hc]; decide), if_neg (by rw [hc]; decide), if_pos (Or.inr (Or.inl hc))]
    refine v_lookup hX (off := 128) (tgt := 144) 8 rfl (by decide) (by rw [hc]; decide) (by decide) ?_
    refine v_aload_n hX 0 47 rfl rfl rfl ?_
    refine v_dup hX 48 rfl rfl ?_
    refine g_5_0 hX 49  tw_218 rfl ?_
    rw [mrow_s]
    refine v_iconst hX (v := 1) 50 rfl (by decide) ?_
    refine v_iadd hX 51 rfl ?_
    refine p_5_0 hX 52   tw_218 rfl ?_
    refine V.mem mset_mrow ?_
    rw [upd_n (show (0 : Nat) ≠ 2 by decide), h0, nI_1]
    refine v_aload_n hX 0 53 rfl rfl rfl ?_
    refine v_aload_n hX 1 54 rfl rfl rfl ?_
    refine v_callV hX 1 (by decide) rfl rfl (f_rnm h hu hl1) tw_607 tw_604 tw_606 tw_49 tw_97 (by decide +kernel) ⟨⟨rfl, rfl⟩, Nat.le_of_ble_eq_true rfl, Nat.le_of_ble_eq_true rfl⟩ rfl (Nat.le_of_ble_eq_true rfl) rfl rfl 55 rfl ?_
    refine v_iret hX hQ rfl (nar_b rnm_01) ?_ ?_ 56 rfl
    · rw [hro]
    · rw [hro]
  · skip
    have hl1 : a + 1 ≤ l := chA_lt (s := s) (show ¬ chA s l a = 0 by rw [hc]; decide)
    have hu : (upd (upd q 2 (chA s l a)) 0 (nI (a + 1))) 0 = nI (a + 1) := upd_s
    have hro : ror s l a q = rnm s l (a + 1) (upd (upd q 2 (chA s l a)) 0 (nI (a + 1))) := by unfold ror; rw [if_neg (by rw [hc]; decide), if_neg (by rw [hc]; decide), if_pos (Or.inr (Or.inr hc))]
    refine v_lookup hX (off := 128) (tgt := 144) 8 rfl (by decide) (by rw [hc]; decide) (by decide) ?_
    refine v_aload_n hX 0 47 rfl rfl rfl ?_
    refine v_dup hX 48 rfl rfl ?_
    refine g_5_0 hX 49  tw_218 rfl ?_
    rw [mrow_s]
    refine v_iconst hX (v := 1) 50 rfl (by decide) ?_
    refine v_iadd hX 51 rfl ?_
    refine p_5_0 hX 52   tw_218 rfl ?_
    refine V.mem mset_mrow ?_
    rw [upd_n (show (0 : Nat) ≠ 2 by decide), h0, nI_1]
    refine v_aload_n hX 0 53 rfl rfl rfl ?_
    refine v_aload_n hX 1 54 rfl rfl rfl ?_
    refine v_callV hX 1 (by decide) rfl rfl (f_rnm h hu hl1) tw_607 tw_604 tw_606 tw_49 tw_97 (by decide +kernel) ⟨⟨rfl, rfl⟩, Nat.le_of_ble_eq_true rfl, Nat.le_of_ble_eq_true rfl⟩ rfl (Nat.le_of_ble_eq_true rfl) rfl rfl 55 rfl ?_
    refine v_iret hX hQ rfl (nar_b rnm_01) ?_ ?_ 56 rfl
    · rw [hro]
    · rw [hro]
  · skip
    have hl1 : a + 1 ≤ l := chA_lt (s := s) (show ¬ chA s l a = 0 by rw [hc]; decide)
    have hu : (upd (upd q 2 (chA s l a)) 0 (nI (a + 1))) 0 = nI (a + 1) := upd_s
    have hro : ror s l a q = rdg s l 48 57 (a + 1) (upd (upd q 2 (chA s l a)) 0 (nI (a + 1))) := by unfold ror; rw [if_neg (by rw [hc]; decide), if_neg (by rw [hc]; decide), if_neg (by rw [hc]; decide), if_pos hc]
    refine v_lookup hX (off := 144) (tgt := 160) 8 rfl (by decide) (by rw [hc]; decide) (by decide) ?_
    refine v_aload_n hX 0 57 rfl rfl rfl ?_
    refine v_dup hX 58 rfl rfl ?_
    refine g_5_0 hX 59  tw_218 rfl ?_
    rw [mrow_s]
    refine v_iconst hX (v := 1) 60 rfl (by decide) ?_
    refine v_iadd hX 61 rfl ?_
    refine p_5_0 hX 62   tw_218 rfl ?_
    refine V.mem mset_mrow ?_
    rw [upd_n (show (0 : Nat) ≠ 2 by decide), h0, nI_1]
    refine v_aload_n hX 0 63 rfl rfl rfl ?_
    refine v_aload_n hX 1 64 rfl rfl rfl ?_
    refine v_bipush hX (v := 48) 65 rfl (by decide) ?_
    refine v_bipush hX (v := 57) 66 rfl (by decide) ?_
    refine v_callV hX 3 (by decide) rfl rfl (f_rdg h hu hl1) tw_587 tw_584 tw_586 tw_44 tw_97 (by decide +kernel) ⟨⟨rfl, rfl⟩, Nat.le_of_ble_eq_true rfl, Nat.le_of_ble_eq_true rfl⟩ rfl (Nat.le_of_ble_eq_true rfl) rfl rfl 67 rfl ?_
    refine v_iret hX hQ rfl (nar_b rdg_01) ?_ ?_ 68 rfl
    · rw [hro]
    · rw [hro]
  · skip
    have hro : ror s l a q = (0, a, upd q 2 (chA s l a)) := by unfold ror; rw [if_neg hc.1, if_neg hc.2.1, if_neg (fun g => g.elim hc.2.2.1 (fun g => g.elim hc.2.2.2.1 hc.2.2.2.2.1)), if_neg hc.2.2.2.2.2]
    refine v_lookup hX (off := 164) (tgt := 180) 8 rfl (by decide) ((lv_osw hc.2.1 rfl).trans ((lv_osw hc.1 rfl).trans ((lv_osw hc.2.2.2.2.2 rfl).trans ((lv_osw hc.2.2.2.1 rfl).trans ((lv_osw hc.2.2.2.2.1 rfl).trans ((lv_osw hc.2.2.1 rfl).trans rfl)))))) (by decide) ?_
    refine v_iconst hX (v := 0) 69 rfl (by decide) ?_
    refine v_iret hX hQ rfl rfl ?_ ?_ 70 rfl
    · rw [hro]
    · rw [hro]
set_option maxRecDepth 100000 in
set_option maxHeartbeats 4000000 in
theorem f_rewind {Y : Yt} {M : Mm} {q : Nat → Int32} : Fn Y yX5_rewind wsX5_rewind { frames := 0, cells := 0, slots := 0, locals := 0 } [.ref (Y.2.2.2 32)] (mrow M 32 q) none ((mrow M 32 (upd q 0 0))) := by
  refine Fn.of (cc := cX5_rewind) (ins := iX5_rewind) (maxL := 1) (ret := none) (by decide) dX5_rewind [some (.ref (Y.2.2.2 32))] (Nat.le_of_ble_eq_true rfl) rfl rfl ?_
  intro X hX hQ
  refine v_aload_n hX 0 0 rfl rfl rfl ?_
  refine v_iconst hX (v := 0) 1 rfl (by decide) ?_
  refine p_5_0 hX 2   tw_218 rfl ?_
  refine V.mem mset_mrow ?_
  refine v_vret hX hQ rfl rfl ?_ 3 rfl
  rfl
set_option maxRecDepth 100000 in
set_option maxHeartbeats 4000000 in
theorem f_firstFault {Y : Yt} {M : Mm} {s q : Nat → Int32} {l : Nat} (h : RdOK M s l) : Fn Y yX5_firstFault wsX5_firstFault { frames := 5, cells := 0, slots := 0, locals := 110 } [.ref (Y.2.2.2 32), .ref (Y.2.2.2 30)] (mrow M 32 q) (some (.int (ffl s l 80 0 (upd q 0 0)).1)) ((mrow M 32 (ffl s l 80 0 (upd q 0 0)).2)) := by
  refine Fn.of (cc := cX5_firstFault) (ins := iX5_firstFault) (maxL := 3) (ret := (some .int)) (by decide) dX5_firstFault [some (.ref (Y.2.2.2 32)), some (.ref (Y.2.2.2 30)), none] (Nat.le_of_ble_eq_true rfl) rfl rfl ?_
  intro X hX hQ
  refine v_aload_n hX 0 0 rfl rfl rfl ?_
  refine v_callV hX 0 (by decide) rfl rfl (f_rewind) tw_575 tw_572 tw_574 tw_41 tw_97 (by decide +kernel) ⟨⟨rfl, rfl⟩, Nat.le_of_ble_eq_true rfl, Nat.le_of_ble_eq_true rfl⟩ rfl (Nat.le_of_ble_eq_true rfl) rfl rfl 1 rfl ?_
  refine v_iconst hX (v := 0) 2 rfl (by decide) ?_
  refine v_istore_n hX 2 3 rfl rfl (Nat.le_of_ble_eq_true rfl) rfl ?_
  have lp : ∀ (k : Nat), k ≤ 80 → ∀ (p : Nat) (w : Nat → Int32), w 0 = nI p → p ≤ l → ffl s l (80 - k) p w = ffl s l 80 0 (upd q 0 0) → V Y X (mrow M 32 w) 6 [some (.ref (Y.2.2.2 32)), some (.ref (Y.2.2.2 30)), some (.int (nI k))] [] := by
    refine upTo 80 (fun k hk ih => ?_)
    intro p w hw0 hp he
    refine v_iload_n hX 2 4 rfl rfl rfl ?_
    refine v_bipush hX (v := 80) 5 rfl (by decide) ?_
    refine v_icmp_ge hX (tgt := 60) 6 rfl (by decide) (fun c9 => ?_) (fun c9 => ?_)
    · skip
      have hk2 : k = 80 := by have := of_le (a := 80) c9 (by omega) (by omega); omega
      subst hk2
      have he2 : (nI p, w) = ffl s l 80 0 (upd q 0 0) := he
      refine v_aload_n hX 0 31 rfl rfl rfl ?_
      refine g_5_0 hX 32  tw_218 rfl ?_
      rw [mrow_s, hw0]
      refine v_iret hX hQ rfl rfl ?_ ?_ 33 rfl
      · rw [← he2]
      · rw [← he2]
    · skip
      have hk2 : k < 80 := of_nle (a := 80) c9 (by omega) (by omega)
      obtain ⟨f, hf⟩ : ∃ f, 80 - k = f + 1 := ⟨79 - k, by omega⟩
      rw [hf, ffl] at he
      have hr := ror_ok (s := s) hw0 hp
      refine v_aload_n hX 0 7 rfl rfl rfl ?_
      refine v_aload_n hX 1 8 rfl rfl rfl ?_
      refine v_callV hX 1 (by decide) rfl rfl (f_ror h hw0 hp) tw_579 tw_576 tw_578 tw_42 tw_97 (by decide +kernel) ⟨⟨rfl, rfl⟩, Nat.le_of_ble_eq_true rfl, Nat.le_of_ble_eq_true rfl⟩ rfl (Nat.le_of_ble_eq_true rfl) rfl rfl 9 rfl ?_
      refine v_if_ne hX (tgt := 25) 10 rfl (by decide) (fun c17 => ?_) (fun c17 => ?_)
      · skip
        rw [if_neg c17] at he
        refine v_aload_n hX 0 14 rfl rfl rfl ?_
        refine g_5_0 hX 15  tw_218 rfl ?_
        rw [mrow_s, hr.1]
        refine v_aload_n hX 1 16 rfl rfl rfl ?_
        refine gN_3_1 hX 17  (List.mem_of_getElem? (i := 18) rfl) rfl ?_
        rw [mrow_n (by decide), h.2.1]
        refine v_icmp_lt hX (tgt := 39) 18 rfl (by decide) (fun c33 => ?_) (fun c33 => ?_)
        · skip
          rw [if_neg (fun g => g c33)] at he
          refine v_aload_n hX 0 21 rfl rfl rfl ?_
          refine v_aload_n hX 1 22 rfl rfl rfl ?_
          refine v_bipush hX (v := 59) 23 rfl (by decide) ?_
          refine v_callV hX 2 (by decide) rfl rfl (f_tk h hr.1 hr.2) tw_599 tw_596 tw_598 tw_47 tw_97 (by decide +kernel) ⟨⟨rfl, rfl⟩, Nat.le_of_ble_eq_true rfl, Nat.le_of_ble_eq_true rfl⟩ rfl (Nat.le_of_ble_eq_true rfl) rfl rfl 24 rfl ?_
          have ht := tkc_ok (s := s) (c := 59) (by decide) hr.1 hr.2
          refine v_if_ne hX (tgt := 54) 25 rfl (by decide) (fun c46 => ?_) (fun c46 => ?_)
          · skip
            rw [if_neg c46] at he
            refine v_iinc hX 29 rfl rfl (nI_inc k) (Nat.le_of_ble_eq_true rfl) rfl ?_
            refine v_goto hX (tgt := 6) 30 rfl (by decide) ?_
            exact V.sub (ih hk2 _ _ ht.1 ht.2 (by rw [show 80 - (k + 1) = f by omega]; exact he)) rfl ⟨rfl, rfl, rfl, trivial⟩
          · skip
            rw [if_pos c46] at he
            refine v_aload_n hX 0 26 rfl rfl rfl ?_
            refine g_5_0 hX 27  tw_218 rfl ?_
            rw [mrow_s, ht.1]
            refine v_iret hX hQ rfl rfl ?_ ?_ 28 rfl
            · rw [← he]
            · rw [← he]
        · skip
          rw [if_pos c33] at he
          refine v_bipush hX (v := (-6)) 19 rfl (by decide) ?_
          refine v_iret hX hQ rfl rfl ?_ ?_ 20 rfl
          · rw [← he]
          · rw [← he]
      · skip
        rw [if_pos c17] at he
        refine v_aload_n hX 0 11 rfl rfl rfl ?_
        refine g_5_0 hX 12  tw_218 rfl ?_
        rw [mrow_s, hr.1]
        refine v_iret hX hQ rfl rfl ?_ ?_ 13 rfl
        · rw [← he]
        · rw [← he]
  exact V.sub (lp 0 (Nat.zero_le _) 0 _ upd_s (Nat.zero_le _) rfl) rfl ⟨rfl, rfl, rfl, trivial⟩
