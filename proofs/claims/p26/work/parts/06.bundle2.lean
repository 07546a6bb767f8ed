set_option maxRecDepth 100000 in
set_option maxHeartbeats 4000000 in
theorem f_bitCount {Y : Yt} {M : Mm} {x : Int32} : Fn Y yJ6_bitCount_0f7a4 wsJ6_bitCount_0f7a4 { frames := 0, cells := 0, slots := 0, locals := 0 } [.int x] M (some (.int (bc x))) M := by
  refine Fn.of (cc := cJ6_bitCount_0f7a4) (ins := iJ6_bitCount_0f7a4) (maxL := 1) (ret := (some .int)) (by decide) dJ6_bitCount_0f7a4 [some (.int x)] (Nat.le_of_ble_eq_true rfl) rfl rfl ?_
  intro X hX hQ
  refine v_iload_n hX 0 0 rfl rfl rfl ?_
  refine v_iload_n hX 0 1 rfl rfl rfl ?_
  refine v_iconst hX (v := 1) 2 rfl (by decide) ?_
  refine v_iushr hX 3 rfl rfl ?_
  refine v_ldcw hX tw_322 4 rfl ?_
  refine v_iand hX 5 rfl ?_
  refine v_isub hX 6 rfl ?_
  refine v_istore_n hX 0 7 rfl rfl (Nat.le_of_ble_eq_true rfl) rfl ?_
  refine v_iload_n hX 0 8 rfl rfl rfl ?_
  refine v_ldcw hX tw_323 9 rfl ?_
  refine v_iand hX 10 rfl ?_
  refine v_iload_n hX 0 11 rfl rfl rfl ?_
  refine v_iconst hX (v := 2) 12 rfl (by decide) ?_
  refine v_iushr hX 13 rfl rfl ?_
  refine v_ldcw hX tw_323 14 rfl ?_
  refine v_iand hX 15 rfl ?_
  refine v_iadd hX 16 rfl ?_
  refine v_istore_n hX 0 17 rfl rfl (Nat.le_of_ble_eq_true rfl) rfl ?_
  refine v_iload_n hX 0 18 rfl rfl rfl ?_
  refine v_iload_n hX 0 19 rfl rfl rfl ?_
  refine v_iconst hX (v := 4) 20 rfl (by decide) ?_
  refine v_iushr hX 21 rfl rfl ?_
  refine v_iadd hX 22 rfl ?_
  refine v_ldcw hX tw_324 23 rfl ?_
  refine v_iand hX 24 rfl ?_
  refine v_istore_n hX 0 25 rfl rfl (Nat.le_of_ble_eq_true rfl) rfl ?_
  refine v_iload_n hX 0 26 rfl rfl rfl ?_
  refine v_iload_n hX 0 27 rfl rfl rfl ?_
  refine v_bipush hX (v := 8) 28 rfl (by decide) ?_
  refine v_iushr hX 29 rfl rfl ?_
  refine v_iadd hX 30 rfl ?_
  refine v_istore_n hX 0 31 rfl rfl (Nat.le_of_ble_eq_true rfl) rfl ?_
  refine v_iload_n hX 0 32 rfl rfl rfl ?_
  refine v_iload_n hX 0 33 rfl rfl rfl ?_
  refine v_bipush hX (v := 16) 34 rfl (by decide) ?_
  refine v_iushr hX 35 rfl rfl ?_
  refine v_iadd hX 36 rfl ?_
  refine v_istore_n hX 0 37 rfl rfl (Nat.le_of_ble_eq_true rfl) rfl ?_
  refine v_iload_n hX 0 38 rfl rfl rfl ?_
  refine v_bipush hX (v := 63) 39 rfl (by decide) ?_
  refine v_iand hX 40 rfl ?_
  refine v_iret hX hQ rfl rfl ?_ ?_ 41 rfl
  · rfl
  · rfl
set_option maxRecDepth 100000 in
set_option maxHeartbeats 4000000 in
theorem f_takeBack_no {Y : Yt} {M : Mm} {b n : Nat} {x : Int32} (hb : isB b) (hz : M.1 b 1 = nI n) (hn : n ≤ 24) (hx : x < 0 ∨ nI n ≤ x) : Fn Y yX0_takeBack wsX0_takeBack { frames := 4, cells := 0, slots := 0, locals := 88 } [.ref (Y.2.2.2.1 b), .int x] M (some (.int (-1))) M := by
  refine Fn.of (cc := cX0_takeBack) (ins := iX0_takeBack) (maxL := 3) (ret := (some .int)) (by decide) dX0_takeBack [some (.ref (Y.2.2.2.1 b)), some (.int x), none] (Nat.le_of_ble_eq_true rfl) rfl rfl ?_
  intro X hX hQ
  refine v_aload_n hX 0 0 rfl rfl rfl ?_
  refine v_iload_n hX 1 1 rfl rfl rfl ?_
  refine v_callV hX 1 (by have := isB_lt hb; omega) (cG_B hb) rfl (f_find_out hb hz hx) tw_232 tw_229 tw_231 tw_3 tw_40 (by decide +kernel) ⟨⟨rfl, rfl⟩, Nat.le_of_ble_eq_true rfl, Nat.le_of_ble_eq_true rfl⟩ rfl (Nat.le_of_ble_eq_true rfl) rfl rfl 2 rfl ?_
  refine v_astore_nN hX 2 3 rfl rfl (Nat.le_of_ble_eq_true rfl) rfl ?_
  refine v_aload_nN hX 2 4 rfl rfl rfl ?_
  refine v_ifnonnullN hX 5 rfl ?_
  refine v_iconst hX (v := (-1)) 6 rfl (by decide) ?_
  refine v_iret hX hQ rfl rfl ?_ ?_ 7 rfl
  · rfl
  · rfl
set_option maxRecDepth 100000 in
set_option maxHeartbeats 4000000 in
theorem f_takeBack {Y : Yt} {M : Mm} {b n i : Nat} (hb : isB b) (hz : M.1 b 1 = nI n) (hn : n ≤ 24) (hi : i < n) (hw : WF (cp M b) n) : Fn Y yX0_takeBack wsX0_takeBack { frames := 4, cells := 0, slots := 0, locals := 88 } [.ref (Y.2.2.2.1 b), .int (nI i)] M (some (.int (tbR M b n i))) ((tbM M b i)) := by
  refine Fn.of (cc := cX0_takeBack) (ins := iX0_takeBack) (maxL := 3) (ret := (some .int)) (by decide) dX0_takeBack [some (.ref (Y.2.2.2.1 b)), some (.int (nI i)), none] (Nat.le_of_ble_eq_true rfl) rfl rfl ?_
  intro X hX hQ
  refine v_aload_n hX 0 0 rfl rfl rfl ?_
  refine v_iload_n hX 1 1 rfl rfl rfl ?_
  refine v_callV hX 1 (by have := isB_lt hb; omega) (cG_B hb) rfl (f_find_in hb hz hn hi) tw_232 tw_229 tw_231 tw_3 tw_40 (by decide +kernel) ⟨⟨rfl, rfl⟩, Nat.le_of_ble_eq_true rfl, Nat.le_of_ble_eq_true rfl⟩ rfl (Nat.le_of_ble_eq_true rfl) rfl rfl 2 rfl ?_
  refine v_astore_n hX 2 3 rfl rfl (Nat.le_of_ble_eq_true rfl) rfl ?_
  refine v_aload_n hX 2 4 rfl rfl rfl ?_
  refine v_ifnonnull hX (tgt := 12) 5 rfl (by decide) ?_
  refine v_aload_n hX 2 8 rfl rfl rfl ?_
  refine gN_4_6 hX 9 hb (by omega) (List.mem_of_getElem? (i := 12) rfl) rfl ?_
  refine v_if_eq hX (tgt := 22) 10 rfl (by decide) (fun c16 => ?_) (fun c16 => ?_)
  · skip
    refine v_aload_n hX 2 13 rfl rfl rfl ?_
    refine v_iconst hX (v := 1) 14 rfl (by decide) ?_
    refine pN_4_6 hX 15 hb (by omega) rfl rfl (List.mem_of_getElem? (i := 12) rfl) rfl ?_
    refine v_aload_n hX 0 16 rfl rfl rfl ?_
    have hz2 : (mset M (b + 2 + i) 6 1).1 b 1 = nI n := by rw [mset_n (by omega)]; exact hz
    refine v_callV hX 0 (by have := isB_lt hb; omega) (cG_B hb) rfl (f_standing hb hz2 hn (WF_wd (Or.inr rfl) hw)) tw_287 tw_284 tw_286 tw_13 tw_40 (by decide +kernel) ⟨⟨rfl, rfl⟩, Nat.le_of_ble_eq_true rfl, Nat.le_of_ble_eq_true rfl⟩ rfl (Nat.le_of_ble_eq_true rfl) rfl rfl 17 rfl ?_
    refine v_callS hX 1 (f_bitCount) tw_321 tw_319 tw_320 tw_46 (by decide +kernel) ⟨⟨rfl, rfl⟩, Nat.le_of_ble_eq_true rfl, Nat.le_of_ble_eq_true rfl⟩ rfl (Nat.le_of_ble_eq_true rfl) rfl rfl 18 rfl ?_
    refine v_iret hX hQ rfl rfl ?_ ?_ 19 rfl
    · simp (decide := true) only [tbR, c16, not_true_eq_false, not_false_eq_true, and_true, true_and, and_false, false_and, or_true, true_or, or_false, false_or, and_self, or_self, if_true, if_false, ite_true, ite_false, reduceIte, eq_self, ne_eq]
    · simp (decide := true) only [tbM, c16, not_true_eq_false, not_false_eq_true, and_true, true_and, and_false, false_and, or_true, true_or, or_false, false_or, and_self, or_self, if_true, if_false, ite_true, ite_false, reduceIte, eq_self, ne_eq]
  · skip
    refine v_bipush hX (v := (-5)) 11 rfl (by decide) ?_
    refine v_iret hX hQ rfl rfl ?_ ?_ 12 rfl
    · simp (decide := true) only [tbR, c16, not_true_eq_false, not_false_eq_true, and_true, true_and, and_false, false_and, or_true, true_or, or_false, false_or, and_self, or_self, if_true, if_false, ite_true, ite_false, reduceIte, eq_self, ne_eq]
    · simp (decide := true) only [tbM, c16, not_true_eq_false, not_false_eq_true, and_true, true_and, and_false, false_and, or_true, true_or, or_false, false_or, and_self, or_self, if_true, if_false, ite_true, ite_false, reduceIte, eq_self, ne_eq]
set_option maxRecDepth 100000 in
set_option maxHeartbeats 4000000 in
theorem f_prolong_no {Y : Yt} {M : Mm} {b n : Nat} {x : Int32} (hb : isB b) (hz : M.1 b 1 = nI n) (hn : n ≤ 24) (hx : x < 0 ∨ nI n ≤ x) : Fn Y yX0_prolong wsX0_prolong { frames := 1, cells := 0, slots := 0, locals := 21 } [.ref (Y.2.2.2.1 b), .int x] M (some (.int (-1))) M := by
  refine Fn.of (cc := cX0_prolong) (ins := iX0_prolong) (maxL := 4) (ret := (some .int)) (by decide) dX0_prolong [some (.ref (Y.2.2.2.1 b)), some (.int x), none, none] (Nat.le_of_ble_eq_true rfl) rfl rfl ?_
  intro X hX hQ
  refine v_aload_n hX 0 0 rfl rfl rfl ?_
  refine v_iload_n hX 1 1 rfl rfl rfl ?_
  refine v_callV hX 1 (by have := isB_lt hb; omega) (cG_B hb) rfl (f_find_out hb hz hx) tw_232 tw_229 tw_231 tw_3 tw_40 (by decide +kernel) ⟨⟨rfl, rfl⟩, Nat.le_of_ble_eq_true rfl, Nat.le_of_ble_eq_true rfl⟩ rfl (Nat.le_of_ble_eq_true rfl) rfl rfl 2 rfl ?_
  refine v_astore_nN hX 2 3 rfl rfl (Nat.le_of_ble_eq_true rfl) rfl ?_
  refine v_aload_nN hX 2 4 rfl rfl rfl ?_
  refine v_ifnonnullN hX 5 rfl ?_
  refine v_iconst hX (v := (-1)) 6 rfl (by decide) ?_
  refine v_iret hX hQ rfl rfl ?_ ?_ 7 rfl
  · rfl
  · rfl
set_option maxRecDepth 100000 in
set_option maxHeartbeats 4000000 in
theorem f_prolong {Y : Yt} {M : Mm} {b n i : Nat} (hb : isB b) (hz : M.1 b 1 = nI n) (hn : n ≤ 24) (hi : i < n) : Fn Y yX0_prolong wsX0_prolong { frames := 1, cells := 0, slots := 0, locals := 21 } [.ref (Y.2.2.2.1 b), .int (nI i)] M (some (.int (prR M b i))) ((prM M b i)) := by
  refine Fn.of (cc := cX0_prolong) (ins := iX0_prolong) (maxL := 4) (ret := (some .int)) (by decide) dX0_prolong [some (.ref (Y.2.2.2.1 b)), some (.int (nI i)), none, none] (Nat.le_of_ble_eq_true rfl) rfl rfl ?_
  intro X hX hQ
  refine v_aload_n hX 0 0 rfl rfl rfl ?_
  refine v_iload_n hX 1 1 rfl rfl rfl ?_
  refine v_callV hX 1 (by have := isB_lt hb; omega) (cG_B hb) rfl (f_find_in hb hz hn hi) tw_232 tw_229 tw_231 tw_3 tw_40 (by decide +kernel) ⟨⟨rfl, rfl⟩, Nat.le_of_ble_eq_true rfl, Nat.le_of_ble_eq_true rfl⟩ rfl (Nat.le_of_ble_eq_true rfl) rfl rfl 2 rfl ?_
  refine v_astore_n hX 2 3 rfl rfl (Nat.le_of_ble_eq_true rfl) rfl ?_
  refine v_aload_n hX 2 4 rfl rfl rfl ?_
  refine v_ifnonnull hX (tgt := 12) 5 rfl (by decide) ?_
  refine v_aload_n hX 2 8 rfl rfl rfl ?_
  refine gN_4_3 hX 9 hb (by omega) (List.mem_of_getElem? (i := 7) rfl) rfl ?_
  refine v_bipush hX (v := (-6)) 10 rfl (by decide) ?_
  refine v_icmp_eq hX (tgt := 28) 11 rfl (by decide) (fun c18 => ?_) (fun c18 => ?_)
  · skip
    refine v_bipush hX (v := (-5)) 15 rfl (by decide) ?_
    refine v_iret hX hQ rfl rfl ?_ ?_ 16 rfl
    · simp (decide := true) only [prR, c18, not_true_eq_false, not_false_eq_true, and_true, true_and, and_false, false_and, or_true, true_or, or_false, false_or, and_self, or_self, if_true, if_false, ite_true, ite_false, reduceIte, eq_self, ne_eq]
    · simp (decide := true) only [prM, c18, not_true_eq_false, not_false_eq_true, and_true, true_and, and_false, false_and, or_true, true_or, or_false, false_or, and_self, or_self, if_true, if_false, ite_true, ite_false, reduceIte, eq_self, ne_eq]
  · skip
    refine v_aload_n hX 2 12 rfl rfl rfl ?_
    refine gN_4_6 hX 13 hb (by omega) (List.mem_of_getElem? (i := 12) rfl) rfl ?_
    refine v_if_eq hX (tgt := 31) 14 rfl (by decide) (fun c25 => ?_) (fun c25 => ?_)
    · skip
      refine v_aload_n hX 0 17 rfl rfl rfl ?_
      refine g_0_2 hX 18 hb tw_107 rfl ?_
      refine v_aload_n hX 2 19 rfl rfl rfl ?_
      refine gN_4_5 hX 20 hb (by omega) (List.mem_of_getElem? (i := 11) rfl) rfl ?_
      refine v_isub hX 21 rfl ?_
      refine v_istore_n hX 3 22 rfl rfl (Nat.le_of_ble_eq_true rfl) rfl ?_
      refine v_aload_n hX 2 23 rfl rfl rfl ?_
      refine v_aload_n hX 0 24 rfl rfl rfl ?_
      refine g_0_2 hX 25 hb tw_107 rfl ?_
      refine pN_4_5 hX 26 hb (by omega)  (List.mem_of_getElem? (i := 11) rfl) rfl ?_
      refine v_iload_n hX 3 27 rfl rfl rfl ?_
      refine v_iret hX hQ rfl rfl ?_ ?_ 28 rfl
      · simp (decide := true) only [prR, c18, c25, not_true_eq_false, not_false_eq_true, and_true, true_and, and_false, false_and, or_true, true_or, or_false, false_or, and_self, or_self, if_true, if_false, ite_true, ite_false, reduceIte, eq_self, ne_eq]
      · simp (decide := true) only [prM, c18, c25, not_true_eq_false, not_false_eq_true, and_true, true_and, and_false, false_and, or_true, true_or, or_false, false_or, and_self, or_self, if_true, if_false, ite_true, ite_false, reduceIte, eq_self, ne_eq]
    · skip
      refine v_bipush hX (v := (-5)) 15 rfl (by decide) ?_
      refine v_iret hX hQ rfl rfl ?_ ?_ 16 rfl
      · simp (decide := true) only [prR, c18, c25, not_true_eq_false, not_false_eq_true, and_true, true_and, and_false, false_and, or_true, true_or, or_false, false_or, and_self, or_self, if_true, if_false, ite_true, ite_false, reduceIte, eq_self, ne_eq]
      · simp (decide := true) only [prM, c18, c25, not_true_eq_false, not_false_eq_true, and_true, true_and, and_false, false_and, or_true, true_or, or_false, false_or, and_self, or_self, if_true, if_false, ite_true, ite_false, reduceIte, eq_self, ne_eq]
set_option maxRecDepth 100000 in
set_option maxHeartbeats 4000000 in
theorem f_turnCase {Y : Yt} {M : Mm} {b : Nat} {w : Int32} (hb : isB b) : Fn Y yX0_turnCase wsX0_turnCase { frames := 1, cells := 0, slots := 0, locals := 21 } [.ref (Y.2.2.2.1 b), .int w] M (some (.int (tcR M b w))) ((tcM M b w)) := by
  refine Fn.of (cc := cX0_turnCase) (ins := iX0_turnCase) (maxL := 2) (ret := (some .int)) (by decide) dX0_turnCase [some (.ref (Y.2.2.2.1 b)), some (.int w)] (Nat.le_of_ble_eq_true rfl) rfl rfl ?_
  intro X hX hQ
  refine v_iload_n hX 1 0 rfl rfl rfl ?_
  refine v_if_lt hX (tgt := 10) 1 rfl (by decide) (fun c1 => ?_) (fun c1 => ?_)
  · skip
    refine v_iconst hX (v := (-1)) 5 rfl (by decide) ?_
    refine v_iret hX hQ rfl rfl ?_ ?_ 6 rfl
    · first | (simp (decide := true) only [tcR, c1, not_true_eq_false, not_false_eq_true, and_true, true_and, and_false, false_and, or_true, true_or, or_false, false_or, and_self, or_self, if_true, if_false, ite_true, ite_false, reduceIte, eq_self, ne_eq]; done) | (rcases hasv_01 ((mset M b 3 (M.1 b 3 ^^^ ((1 : Int32) <<< (w &&& 31)))).1 b 3) w with q | q <;> simp_all [tcR, mset_s, upd_s])
    · simp (decide := true) only [tcM, c1, not_true_eq_false, not_false_eq_true, and_true, true_and, and_false, false_and, or_true, true_or, or_false, false_or, and_self, or_self, if_true, if_false, ite_true, ite_false, reduceIte, eq_self, ne_eq]
  · skip
    refine v_iload_n hX 1 2 rfl rfl rfl ?_
    refine v_bipush hX (v := 10) 3 rfl (by decide) ?_
    refine v_icmp_lt hX (tgt := 12) 4 rfl (by decide) (fun c7 => ?_) (fun c7 => ?_)
    · skip
      refine v_aload_n hX 0 7 rfl rfl rfl ?_
      refine v_dup hX 8 rfl rfl ?_
      refine g_0_3 hX 9 hb tw_109 rfl ?_
      refine v_iconst hX (v := 1) 10 rfl (by decide) ?_
      refine v_iload_n hX 1 11 rfl rfl rfl ?_
      refine v_ishl hX 12 rfl ?_
      refine v_ixor hX 13 rfl ?_
      refine p_0_3 hX 14 hb  tw_109 rfl ?_
      refine v_aload_n hX 0 15 rfl rfl rfl ?_
      refine g_0_3 hX 16 hb tw_109 rfl ?_
      refine v_iload_n hX 1 17 rfl rfl rfl ?_
      refine v_callSN hX 2 (f_has) tw_314 (List.mem_of_getElem? (i := 15) rfl) tw_39 tw_313 (by decide +kernel) ⟨⟨rfl, rfl⟩, Nat.le_of_ble_eq_true rfl, Nat.le_of_ble_eq_true rfl⟩ rfl (Nat.le_of_ble_eq_true rfl) rfl rfl 18 rfl ?_
      refine v_if_eq hX (tgt := 39) 19 rfl (by decide) (fun c32 => ?_) (fun c32 => ?_)
      · skip
        refine v_iconst hX (v := 0) 22 rfl (by decide) ?_
        refine v_iret hX hQ rfl rfl ?_ ?_ 23 rfl
        · first | (simp (decide := true) only [tcR, c1, c7, c32, not_true_eq_false, not_false_eq_true, and_true, true_and, and_false, false_and, or_true, true_or, or_false, false_or, and_self, or_self, if_true, if_false, ite_true, ite_false, reduceIte, eq_self, ne_eq]; done) | (rcases hasv_01 ((mset M b 3 (M.1 b 3 ^^^ ((1 : Int32) <<< (w &&& 31)))).1 b 3) w with q | q <;> simp_all [tcR, mset_s, upd_s])
        · simp (decide := true) only [tcM, c1, c7, c32, not_true_eq_false, not_false_eq_true, and_true, true_and, and_false, false_and, or_true, true_or, or_false, false_or, and_self, or_self, if_true, if_false, ite_true, ite_false, reduceIte, eq_self, ne_eq]
      · skip
        refine v_iconst hX (v := 1) 20 rfl (by decide) ?_
        refine v_goto hX (tgt := 40) 21 rfl (by decide) ?_
        refine v_iret hX hQ rfl rfl ?_ ?_ 23 rfl
        · first | (simp (decide := true) only [tcR, c1, c7, c32, not_true_eq_false, not_false_eq_true, and_true, true_and, and_false, false_and, or_true, true_or, or_false, false_or, and_self, or_self, if_true, if_false, ite_true, ite_false, reduceIte, eq_self, ne_eq]; done) | (rcases hasv_01 ((mset M b 3 (M.1 b 3 ^^^ ((1 : Int32) <<< (w &&& 31)))).1 b 3) w with q | q <;> simp_all [tcR, mset_s, upd_s])
        · simp (decide := true) only [tcM, c1, c7, c32, not_true_eq_false, not_false_eq_true, and_true, true_and, and_false, false_and, or_true, true_or, or_false, false_or, and_self, or_self, if_true, if_false, ite_true, ite_false, reduceIte, eq_self, ne_eq]
    · skip
      refine v_iconst hX (v := (-1)) 5 rfl (by decide) ?_
      refine v_iret hX hQ rfl rfl ?_ ?_ 6 rfl
      · first | (simp (decide := true) only [tcR, c1, c7, not_true_eq_false, not_false_eq_true, and_true, true_and, and_false, false_and, or_true, true_or, or_false, false_or, and_self, or_self, if_true, if_false, ite_true, ite_false, reduceIte, eq_self, ne_eq]; done) | (rcases hasv_01 ((mset M b 3 (M.1 b 3 ^^^ ((1 : Int32) <<< (w &&& 31)))).1 b 3) w with q | q <;> simp_all [tcR, mset_s, upd_s])
      · simp (decide := true) only [tcM, c1, c7, not_true_eq_false, not_false_eq_true, and_true, true_and, and_false, false_and, or_true, true_or, or_false, false_or, and_self, or_self, if_true, if_false, ite_true, ite_false, reduceIte, eq_self, ne_eq]
set_option maxRecDepth 100000 in
set_option maxHeartbeats 4000000 in
theorem f_moveOn {Y : Yt} {M : Mm} {b n : Nat} {d : Int32} (hb : isB b) (hz : M.1 b 1 = nI n) (hn : n ≤ 24) (hw : WF (cp M b) n) : Fn Y yX0_moveOn wsX0_moveOn { frames := 4, cells := 0, slots := 0, locals := 88 } [.ref (Y.2.2.2.1 b), .int d] M (some (.int (moR M b n d))) ((moM M b d)) := by
  refine Fn.of (cc := cX0_moveOn) (ins := iX0_moveOn) (maxL := 2) (ret := (some .int)) (by decide) dX0_moveOn [some (.ref (Y.2.2.2.1 b)), some (.int d)] (Nat.le_of_ble_eq_true rfl) rfl rfl ?_
  intro X hX hQ
  refine v_iload_n hX 1 0 rfl rfl rfl ?_
  refine v_iconst hX (v := 1) 1 rfl (by decide) ?_
  refine v_icmp_lt hX (tgt := 11) 2 rfl (by decide) (fun c2 => ?_) (fun c2 => ?_)
  · skip
    refine v_bipush hX (v := (-2)) 6 rfl (by decide) ?_
    refine v_iret hX hQ rfl rfl ?_ ?_ 7 rfl
    · simp (decide := true) only [moR, c2, not_true_eq_false, not_false_eq_true, and_true, true_and, and_false, false_and, or_true, true_or, or_false, false_or, and_self, or_self, if_true, if_false, ite_true, ite_false, reduceIte, eq_self, ne_eq]
    · simp (decide := true) only [moM, c2, not_true_eq_false, not_false_eq_true, and_true, true_and, and_false, false_and, or_true, true_or, or_false, false_or, and_self, or_self, if_true, if_false, ite_true, ite_false, reduceIte, eq_self, ne_eq]
  · skip
    refine v_iload_n hX 1 3 rfl rfl rfl ?_
    refine v_bipush hX (v := 99) 4 rfl (by decide) ?_
    refine v_icmp_le hX (tgt := 14) 5 rfl (by decide) (fun c8 => ?_) (fun c8 => ?_)
    · skip
      refine v_aload_n hX 0 8 rfl rfl rfl ?_
      refine g_0_2 hX 9 hb tw_107 rfl ?_
      refine v_iload_n hX 1 10 rfl rfl rfl ?_
      refine v_iadd hX 11 rfl ?_
      refine v_sipush hX (v := 999) 12 rfl (by decide) ?_
      refine v_icmp_le hX (tgt := 29) 13 rfl (by decide) (fun c23 => ?_) (fun c23 => ?_)
      · skip
        refine v_aload_n hX 0 16 rfl rfl rfl ?_
        refine v_dup hX 17 rfl rfl ?_
        refine g_0_2 hX 18 hb tw_107 rfl ?_
        refine v_iload_n hX 1 19 rfl rfl rfl ?_
        refine v_iadd hX 20 rfl ?_
        refine p_0_2 hX 21 hb  tw_107 rfl ?_
        refine v_aload_n hX 0 22 rfl rfl rfl ?_
        have hz2 : (mset M b 2 (M.1 b 2 + d)).1 b 1 = nI n := by rw [mset_s, upd_n (by decide)]; exact hz
        refine v_callV hX 0 (by have := isB_lt hb; omega) (cG_B hb) rfl (f_standing hb hz2 hn (by rw [cp_mset_b]; exact hw)) tw_287 tw_284 tw_286 tw_13 tw_40 (by decide +kernel) ⟨⟨rfl, rfl⟩, Nat.le_of_ble_eq_true rfl, Nat.le_of_ble_eq_true rfl⟩ rfl (Nat.le_of_ble_eq_true rfl) rfl rfl 23 rfl ?_
        refine v_callS hX 1 (f_bitCount) tw_321 tw_319 tw_320 tw_46 (by decide +kernel) ⟨⟨rfl, rfl⟩, Nat.le_of_ble_eq_true rfl, Nat.le_of_ble_eq_true rfl⟩ rfl (Nat.le_of_ble_eq_true rfl) rfl rfl 24 rfl ?_
        refine v_iret hX hQ rfl rfl ?_ ?_ 25 rfl
        · simp (decide := true) only [moR, c2, c8, c23, not_true_eq_false, not_false_eq_true, and_true, true_and, and_false, false_and, or_true, true_or, or_false, false_or, and_self, or_self, if_true, if_false, ite_true, ite_false, reduceIte, eq_self, ne_eq]
        · simp (decide := true) only [moM, c2, c8, c23, not_true_eq_false, not_false_eq_true, and_true, true_and, and_false, false_and, or_true, true_or, or_false, false_or, and_self, or_self, if_true, if_false, ite_true, ite_false, reduceIte, eq_self, ne_eq]
      · skip
        refine v_bipush hX (v := (-5)) 14 rfl (by decide) ?_
        refine v_iret hX hQ rfl rfl ?_ ?_ 15 rfl
        · simp (decide := true) only [moR, c2, c8, c23, not_true_eq_false, not_false_eq_true, and_true, true_and, and_false, false_and, or_true, true_or, or_false, false_or, and_self, or_self, if_true, if_false, ite_true, ite_false, reduceIte, eq_self, ne_eq]
        · simp (decide := true) only [moM, c2, c8, c23, not_true_eq_false, not_false_eq_true, and_true, true_and, and_false, false_and, or_true, true_or, or_false, false_or, and_self, or_self, if_true, if_false, ite_true, ite_false, reduceIte, eq_self, ne_eq]
    · skip
      refine v_bipush hX (v := (-2)) 6 rfl (by decide) ?_
      refine v_iret hX hQ rfl rfl ?_ ?_ 7 rfl
      · simp (decide := true) only [moR, c2, c8, not_true_eq_false, not_false_eq_true, and_true, true_and, and_false, false_and, or_true, true_or, or_false, false_or, and_self, or_self, if_true, if_false, ite_true, ite_false, reduceIte, eq_self, ne_eq]
      · simp (decide := true) only [moM, c2, c8, not_true_eq_false, not_false_eq_true, and_true, true_and, and_false, false_and, or_true, true_or, or_false, false_or, and_self, or_self, if_true, if_false, ite_true, ite_false, reduceIte, eq_self, ne_eq]
set_option maxRecDepth 100000 in
set_option maxHeartbeats 4000000 in
theorem f_all {Y : Yt} {M : Mm} {b n : Nat} (hb : isB b) (hz : M.1 b 1 = nI n) : Fn Y yX0_all wsX0_all { frames := 0, cells := 0, slots := 0, locals := 0 } [.ref (Y.2.2.2.1 b)] M (some (.int (((1 : Int32) <<< (nI n &&& 31)) - 1))) M := by
  refine Fn.of (cc := cX0_all) (ins := iX0_all) (maxL := 1) (ret := (some .int)) (by decide) dX0_all [some (.ref (Y.2.2.2.1 b))] (Nat.le_of_ble_eq_true rfl) rfl rfl ?_
  intro X hX hQ
  refine v_iconst hX (v := 1) 0 rfl (by decide) ?_
  refine v_aload_n hX 0 1 rfl rfl rfl ?_
  refine g_0_1 hX 2 hb tw_105 rfl ?_
  refine v_ishl hX 3 rfl ?_
  refine v_iconst hX (v := 1) 4 rfl (by decide) ?_
  refine v_isub hX 5 rfl ?_
  refine v_iret hX hQ rfl rfl ?_ ?_ 6 rfl
  · rw [hz]
  · rfl
set_option maxRecDepth 100000 in
set_option maxHeartbeats 4000000 in
theorem f_withoutAnswers {Y : Yt} {M : Mm} {b n : Nat} (hb : isB b) (hz : M.1 b 1 = nI n) (hn : n ≤ 24) : Fn Y yX0_withoutAnswers wsX0_withoutAnswers { frames := 2, cells := 0, slots := 0, locals := 43 } [.ref (Y.2.2.2.1 b)] M (some (.int (waA (cp M b) n n))) M := by
  refine Fn.of (cc := cX0_withoutAnswers) (ins := iX0_withoutAnswers) (maxL := 3) (ret := (some .int)) (by decide) dX0_withoutAnswers [some (.ref (Y.2.2.2.1 b)), none, none] (Nat.le_of_ble_eq_true rfl) rfl rfl ?_
  intro X hX hQ
  refine v_aload_n hX 0 0 rfl rfl rfl ?_
  refine v_callV hX 0 (by have := isB_lt hb; omega) (cG_B hb) rfl (f_all hb hz) tw_408 tw_405 tw_407 tw_30 tw_40 (by decide +kernel) ⟨⟨rfl, rfl⟩, Nat.le_of_ble_eq_true rfl, Nat.le_of_ble_eq_true rfl⟩ rfl (Nat.le_of_ble_eq_true rfl) rfl rfl 1 rfl ?_
  refine v_istore_n hX 1 2 rfl rfl (Nat.le_of_ble_eq_true rfl) rfl ?_
  refine v_iconst hX (v := 0) 3 rfl (by decide) ?_
  refine v_istore_n hX 2 4 rfl rfl (Nat.le_of_ble_eq_true rfl) rfl ?_
  have lp : ∀ (k : Nat), k ≤ n → V Y X M 7 [some (.ref (Y.2.2.2.1 b)), some (.int (waA (cp M b) n k)), some (.int (nI k))] [] := by
    refine upTo n (fun k hk ih => ?_)
    refine v_iload_n hX 2 5 rfl rfl rfl ?_
    refine v_aload_n hX 0 6 rfl rfl rfl ?_
    refine g_0_1 hX 7 hb tw_105 rfl ?_
    refine v_icmp_ge hX (tgt := 31) 8 rfl (by decide) (fun c12 => ?_) (fun c12 => ?_)
    · skip
      have hk2 : k = n := by rw [hz] at c12; have := of_le c12 (by omega) (by omega); omega
      refine v_iload_n hX 1 19 rfl rfl rfl ?_
      refine v_iret hX hQ rfl rfl ?_ ?_ 20 rfl
      · rw [hk2]
      · rfl
    · skip
      have hk2 : k < n := by rw [hz] at c12; exact of_nle c12 (by omega) (by omega)
      refine v_iload_n hX 1 9 rfl rfl rfl ?_
      refine v_aload_n hX 0 10 rfl rfl rfl ?_
      refine v_iload_n hX 2 11 rfl rfl rfl ?_
      refine v_callV hX 1 (by have := isB_lt hb; omega) (cG_B hb) rfl (f_targetOf hb hz hn hk2) tw_318 tw_315 tw_317 tw_20 tw_40 (by decide +kernel) ⟨⟨rfl, rfl⟩, Nat.le_of_ble_eq_true rfl, Nat.le_of_ble_eq_true rfl⟩ rfl (Nat.le_of_ble_eq_true rfl) rfl rfl 12 rfl ?_
      refine v_iconst hX (v := (-1)) 13 rfl (by decide) ?_
      refine v_ixor hX 14 rfl ?_
      refine v_iand hX 15 rfl ?_
      refine v_istore_n hX 1 16 rfl rfl (Nat.le_of_ble_eq_true rfl) rfl ?_
      refine v_iinc hX 17 rfl rfl (nI_inc k) (Nat.le_of_ble_eq_true rfl) rfl ?_
      refine v_goto hX (tgt := 7) 18 rfl (by decide) ?_
      exact V.sub (ih hk2) rfl ⟨rfl, (by first | rfl | (refine congrArg (fun z : Int32 => some (Value.int z)) ?_; rfl)), rfl, trivial⟩
  exact V.sub (lp 0 (Nat.zero_le _)) rfl ⟨rfl, (by first | rfl | (refine congrArg (fun z : Int32 => some (Value.int z)) ?_; rfl)), rfl, trivial⟩
set_option maxRecDepth 100000 in
set_option maxHeartbeats 4000000 in
theorem f_answered {Y : Yt} {M : Mm} {b n : Nat} (hb : isB b) (hz : M.1 b 1 = nI n) (hn : n ≤ 24) (hw : WF (cp M b) n) : Fn Y yX0_answered wsX0_answered { frames := 4, cells := 0, slots := 0, locals := 88 } [.ref (Y.2.2.2.1 b)] M (some (.int ((((((1 : Int32) <<< (nI n &&& 31)) - 1) &&& (mk (bOut M b) n ^^^ (-1))) &&& (mk (bSd M b n) n ^^^ (-1)))))) M := by
  refine Fn.of (cc := cX0_answered) (ins := iX0_answered) (maxL := 1) (ret := (some .int)) (by decide) dX0_answered [some (.ref (Y.2.2.2.1 b))] (Nat.le_of_ble_eq_true rfl) rfl rfl ?_
  intro X hX hQ
  refine v_aload_n hX 0 0 rfl rfl rfl ?_
  refine v_callV hX 0 (by have := isB_lt hb; omega) (cG_B hb) rfl (f_all hb hz) tw_408 tw_405 tw_407 tw_30 tw_40 (by decide +kernel) ⟨⟨rfl, rfl⟩, Nat.le_of_ble_eq_true rfl, Nat.le_of_ble_eq_true rfl⟩ rfl (Nat.le_of_ble_eq_true rfl) rfl rfl 1 rfl ?_
  refine v_aload_n hX 0 2 rfl rfl rfl ?_
  refine v_callV hX 0 (by have := isB_lt hb; omega) (cG_B hb) rfl (f_out hb hz hn hw) tw_291 tw_288 tw_290 tw_14 tw_40 (by decide +kernel) ⟨⟨rfl, rfl⟩, Nat.le_of_ble_eq_true rfl, Nat.le_of_ble_eq_true rfl⟩ rfl (Nat.le_of_ble_eq_true rfl) rfl rfl 3 rfl ?_
  refine v_iconst hX (v := (-1)) 4 rfl (by decide) ?_
  refine v_ixor hX 5 rfl ?_
  refine v_iand hX 6 rfl ?_
  refine v_aload_n hX 0 7 rfl rfl rfl ?_
  refine v_callV hX 0 (by have := isB_lt hb; omega) (cG_B hb) rfl (f_standing hb hz hn hw) tw_287 tw_284 tw_286 tw_13 tw_40 (by decide +kernel) ⟨⟨rfl, rfl⟩, Nat.le_of_ble_eq_true rfl, Nat.le_of_ble_eq_true rfl⟩ rfl (Nat.le_of_ble_eq_true rfl) rfl rfl 8 rfl ?_
  refine v_iconst hX (v := (-1)) 9 rfl (by decide) ?_
  refine v_ixor hX 10 rfl ?_
  refine v_iand hX 11 rfl ?_
  refine v_iret hX hQ rfl rfl ?_ ?_ 12 rfl
  · rfl
  · rfl
set_option maxRecDepth 100000 in
set_option maxHeartbeats 4000000 in
theorem f_reasonAgainst {Y : Yt} {M : Mm} {b n i : Nat} (hb : isB b) (hz : M.1 b 1 = nI n) (hn : n ≤ 24) (hi : i < n) (hw : WF (cp M b) n) : Fn Y yX0_reasonAgainst wsX0_reasonAgainst { frames := 4, cells := 0, slots := 0, locals := 88 } [.ref (Y.2.2.2.1 b), .int (nI i)] M (some (.int (rsR M b n i))) M := by
  refine Fn.of (cc := cX0_reasonAgainst) (ins := iX0_reasonAgainst) (maxL := 2) (ret := (some .int)) (by decide) dX0_reasonAgainst [some (.ref (Y.2.2.2.1 b)), some (.int (nI i))] (Nat.le_of_ble_eq_true rfl) rfl rfl ?_
  intro X hX hQ
  refine v_aload_n hX 0 0 rfl rfl rfl ?_
  refine v_callV hX 0 (by have := isB_lt hb; omega) (cG_B hb) rfl (f_withdrawn hb hz hn) tw_295 tw_292 tw_294 tw_15 tw_40 (by decide +kernel) ⟨⟨rfl, rfl⟩, Nat.le_of_ble_eq_true rfl, Nat.le_of_ble_eq_true rfl⟩ rfl (Nat.le_of_ble_eq_true rfl) rfl rfl 1 rfl ?_
  refine v_iload_n hX 1 2 rfl rfl rfl ?_
  refine v_callSN hX 2 (f_has) tw_314 (List.mem_of_getElem? (i := 15) rfl) tw_39 tw_313 (by decide +kernel) ⟨⟨rfl, rfl⟩, Nat.le_of_ble_eq_true rfl, Nat.le_of_ble_eq_true rfl⟩ rfl (Nat.le_of_ble_eq_true rfl) rfl rfl 3 rfl ?_
  refine v_if_eq hX (tgt := 13) 4 rfl (by decide) (fun c8 => ?_) (fun c8 => ?_)
  · skip
    have q1 := hasv_eq (by omega) c8
    rw [bt_mkF _ _ (by omega) (by omega), b_0, Bool.false_or, decide_eq_true hi, Bool.true_and] at q1
    refine v_aload_n hX 0 7 rfl rfl rfl ?_
    refine v_callV hX 0 (by have := isB_lt hb; omega) (cG_B hb) rfl (f_struck hb hz hn) tw_299 tw_296 tw_298 tw_16 tw_40 (by decide +kernel) ⟨⟨rfl, rfl⟩, Nat.le_of_ble_eq_true rfl, Nat.le_of_ble_eq_true rfl⟩ rfl (Nat.le_of_ble_eq_true rfl) rfl rfl 8 rfl ?_
    refine v_iload_n hX 1 9 rfl rfl rfl ?_
    refine v_callSN hX 2 (f_has) tw_314 (List.mem_of_getElem? (i := 15) rfl) tw_39 tw_313 (by decide +kernel) ⟨⟨rfl, rfl⟩, Nat.le_of_ble_eq_true rfl, Nat.le_of_ble_eq_true rfl⟩ rfl (Nat.le_of_ble_eq_true rfl) rfl rfl 10 rfl ?_
    refine v_if_eq hX (tgt := 26) 11 rfl (by decide) (fun c21 => ?_) (fun c21 => ?_)
    · skip
      have q2 := hasv_eq (by omega) c21
      rw [skA_mk hw hn, bt_mk _ (by omega) (by omega), decide_eq_true hi, Bool.true_and] at q2
      refine v_aload_n hX 0 14 rfl rfl rfl ?_
      refine v_aload_n hX 0 15 rfl rfl rfl ?_
      refine g_0_2 hX 16 hb tw_107 rfl ?_
      refine v_callV hX 1 (by have := isB_lt hb; omega) (cG_B hb) rfl (f_lapsedOn hb hz hn) tw_303 tw_300 tw_302 tw_17 tw_40 (by decide +kernel) ⟨⟨rfl, rfl⟩, Nat.le_of_ble_eq_true rfl, Nat.le_of_ble_eq_true rfl⟩ rfl (Nat.le_of_ble_eq_true rfl) rfl rfl 17 rfl ?_
      refine v_iload_n hX 1 18 rfl rfl rfl ?_
      refine v_callSN hX 2 (f_has) tw_314 (List.mem_of_getElem? (i := 15) rfl) tw_39 tw_313 (by decide +kernel) ⟨⟨rfl, rfl⟩, Nat.le_of_ble_eq_true rfl, Nat.le_of_ble_eq_true rfl⟩ rfl (Nat.le_of_ble_eq_true rfl) rfl rfl 19 rfl ?_
      refine v_if_eq hX (tgt := 43) 20 rfl (by decide) (fun c38 => ?_) (fun c38 => ?_)
      · skip
        have q3 := hasv_eq (by omega) c38
        rw [bt_mkF _ _ (by omega) (by omega), b_0, Bool.false_or, decide_eq_true hi, Bool.true_and] at q3
        refine v_aload_n hX 0 23 rfl rfl rfl ?_
        refine v_callV hX 0 (by have := isB_lt hb; omega) (cG_B hb) rfl (f_baseless hb hz hn) tw_307 tw_304 tw_306 tw_18 tw_40 (by decide +kernel) ⟨⟨rfl, rfl⟩, Nat.le_of_ble_eq_true rfl, Nat.le_of_ble_eq_true rfl⟩ rfl (Nat.le_of_ble_eq_true rfl) rfl rfl 24 rfl ?_
        refine v_iload_n hX 1 25 rfl rfl rfl ?_
        refine v_callSN hX 2 (f_has) tw_314 (List.mem_of_getElem? (i := 15) rfl) tw_39 tw_313 (by decide +kernel) ⟨⟨rfl, rfl⟩, Nat.le_of_ble_eq_true rfl, Nat.le_of_ble_eq_true rfl⟩ rfl (Nat.le_of_ble_eq_true rfl) rfl rfl 26 rfl ?_
        refine v_if_eq hX (tgt := 56) 27 rfl (by decide) (fun c51 => ?_) (fun c51 => ?_)
        · skip
          have q4 := hasv_eq (by omega) c51
          rw [bt_mkF _ _ (by omega) (by omega), b_0, Bool.false_or, decide_eq_true hi, Bool.true_and] at q4
          refine v_aload_n hX 0 30 rfl rfl rfl ?_
          refine v_callV hX 0 (by have := isB_lt hb; omega) (cG_B hb) rfl (f_standing hb hz hn hw) tw_287 tw_284 tw_286 tw_13 tw_40 (by decide +kernel) ⟨⟨rfl, rfl⟩, Nat.le_of_ble_eq_true rfl, Nat.le_of_ble_eq_true rfl⟩ rfl (Nat.le_of_ble_eq_true rfl) rfl rfl 31 rfl ?_
          refine v_iload_n hX 1 32 rfl rfl rfl ?_
          refine v_callSN hX 2 (f_has) tw_314 (List.mem_of_getElem? (i := 15) rfl) tw_39 tw_313 (by decide +kernel) ⟨⟨rfl, rfl⟩, Nat.le_of_ble_eq_true rfl, Nat.le_of_ble_eq_true rfl⟩ rfl (Nat.le_of_ble_eq_true rfl) rfl rfl 33 rfl ?_
          refine v_if_eq hX (tgt := 71) 34 rfl (by decide) (fun c64 => ?_) (fun c64 => ?_)
          · skip
            have q5 := hasv_eq (by omega) c64
            rw [bt_mk _ (by omega) (by omega), decide_eq_true hi, Bool.true_and] at q5
            refine v_iconst hX (v := 5) 37 rfl (by decide) ?_
            refine v_iret hX hQ rfl rfl ?_ ?_ 38 rfl
            · simp [rsR, q1, q2, q3, q4, q5]
            · rfl
          · skip
            have q5 := hasv_ne (by omega) c64
            rw [bt_mk _ (by omega) (by omega), decide_eq_true hi, Bool.true_and] at q5
            refine v_iconst hX (v := 0) 35 rfl (by decide) ?_
            refine v_goto hX (tgt := 72) 36 rfl (by decide) ?_
            refine v_iret hX hQ rfl rfl ?_ ?_ 38 rfl
            · simp [rsR, q1, q2, q3, q4, q5]
            · rfl
        · skip
          have q4 := hasv_ne (by omega) c51
          rw [bt_mkF _ _ (by omega) (by omega), b_0, Bool.false_or, decide_eq_true hi, Bool.true_and] at q4
          refine v_iconst hX (v := 4) 28 rfl (by decide) ?_
          refine v_iret hX hQ rfl rfl ?_ ?_ 29 rfl
          · simp [rsR, q1, q2, q3, q4]
          · rfl
      · skip
        have q3 := hasv_ne (by omega) c38
        rw [bt_mkF _ _ (by omega) (by omega), b_0, Bool.false_or, decide_eq_true hi, Bool.true_and] at q3
        refine v_iconst hX (v := 3) 21 rfl (by decide) ?_
        refine v_iret hX hQ rfl rfl ?_ ?_ 22 rfl
        · simp [rsR, q1, q2, q3]
        · rfl
    · skip
      have q2 := hasv_ne (by omega) c21
      rw [skA_mk hw hn, bt_mk _ (by omega) (by omega), decide_eq_true hi, Bool.true_and] at q2
      refine v_iconst hX (v := 2) 12 rfl (by decide) ?_
      refine v_iret hX hQ rfl rfl ?_ ?_ 13 rfl
      · simp [rsR, q1, q2]
      · rfl
  · skip
    have q1 := hasv_ne (by omega) c8
    rw [bt_mkF _ _ (by omega) (by omega), b_0, Bool.false_or, decide_eq_true hi, Bool.true_and] at q1
    refine v_iconst hX (v := 1) 5 rfl (by decide) ?_
    refine v_iret hX hQ rfl rfl ?_ ?_ 6 rfl
    · simp [rsR, q1]
    · rfl
set_option maxRecDepth 100000 in
set_option maxHeartbeats 4000000 in
theorem f_daysLeft {Y : Yt} {M : Mm} {b n i : Nat} (hb : isB b) (hz : M.1 b 1 = nI n) (hn : n ≤ 24) (hi : i < n) : Fn Y yX0_daysLeft wsX0_daysLeft { frames := 0, cells := 0, slots := 0, locals := 0 } [.ref (Y.2.2.2.1 b), .ref (Y.2.2.2.1 (b + 2 + i))] M (some (.int (dlR M b i))) M := by
  refine Fn.of (cc := cX0_daysLeft) (ins := iX0_daysLeft) (maxL := 3) (ret := (some .int)) (by decide) dX0_daysLeft [some (.ref (Y.2.2.2.1 b)), some (.ref (Y.2.2.2.1 (b + 2 + i))), none] (Nat.le_of_ble_eq_true rfl) rfl rfl ?_
  intro X hX hQ
  refine v_aload_n hX 1 0 rfl rfl rfl ?_
  refine gN_4_5 hX 1 hb (by omega) (List.mem_of_getElem? (i := 11) rfl) rfl ?_
  refine v_aload_n hX 0 2 rfl rfl rfl ?_
  refine g_0_4 hX 3 hb tw_111 rfl ?_
  refine v_iadd hX 4 rfl ?_
  refine v_aload_n hX 0 5 rfl rfl rfl ?_
  refine g_0_2 hX 6 hb tw_107 rfl ?_
  refine v_isub hX 7 rfl ?_
  refine v_istore_n hX 2 8 rfl rfl (Nat.le_of_ble_eq_true rfl) rfl ?_
  refine v_aload_n hX 1 9 rfl rfl rfl ?_
  refine gN_4_3 hX 10 hb (by omega) (List.mem_of_getElem? (i := 7) rfl) rfl ?_
  refine v_bipush hX (v := (-6)) 11 rfl (by decide) ?_
  refine v_icmp_eq hX (tgt := 28) 12 rfl (by decide) (fun c21 => ?_) (fun c21 => ?_)
  · skip
    refine v_bipush hX (v := (-6)) 15 rfl (by decide) ?_
    refine v_goto hX (tgt := 34) 16 rfl (by decide) ?_
    refine v_iret hX hQ rfl rfl ?_ ?_ 18 rfl
    · simp (decide := true) only [dlR, c21, not_true_eq_false, not_false_eq_true, and_true, true_and, and_false, false_and, or_true, true_or, or_false, false_or, and_self, or_self, if_true, if_false, ite_true, ite_false, reduceIte, eq_self, ne_eq]
    · rfl
  · skip
    refine v_iload_n hX 2 13 rfl rfl rfl ?_
    refine v_if_ge hX (tgt := 33) 14 rfl (by decide) (fun c25 => ?_) (fun c25 => ?_)
    · skip
      refine v_iload_n hX 2 17 rfl rfl rfl ?_
      refine v_iret hX hQ rfl rfl ?_ ?_ 18 rfl
      · simp (decide := true) only [dlR, c21, c25, not_true_eq_false, not_false_eq_true, and_true, true_and, and_false, false_and, or_true, true_or, or_false, false_or, and_self, or_self, if_true, if_false, ite_true, ite_false, reduceIte, eq_self, ne_eq]
      · rfl
    · skip
      refine v_bipush hX (v := (-6)) 15 rfl (by decide) ?_
      refine v_goto hX (tgt := 34) 16 rfl (by decide) ?_
      refine v_iret hX hQ rfl rfl ?_ ?_ 18 rfl
      · simp (decide := true) only [dlR, c21, c25, not_true_eq_false, not_false_eq_true, and_true, true_and, and_false, false_and, or_true, true_or, or_false, false_or, and_self, or_self, if_true, if_false, ite_true, ite_false, reduceIte, eq_self, ne_eq]
      · rfl
set_option maxRecDepth 100000 in
set_option maxHeartbeats 4000000 in
theorem f_pagesOf {Y : Yt} {M : Mm} {b n : Nat} {s2 x : Int32} (hb : isB b) (hz : M.1 b 1 = nI n) (hn : n ≤ 24) : Fn Y yX0_pagesOf wsX0_pagesOf { frames := 1, cells := 0, slots := 0, locals := 21 } [.ref (Y.2.2.2.1 b), .int s2, .int x] M (some (.int (sm (cp M b) s2 x n))) M := by
  refine Fn.of (cc := cX0_pagesOf) (ins := iX0_pagesOf) (maxL := 6) (ret := (some .int)) (by decide) dX0_pagesOf [some (.ref (Y.2.2.2.1 b)), some (.int s2), some (.int x), none, none, none] (Nat.le_of_ble_eq_true rfl) rfl rfl ?_
  intro X hX hQ
  refine v_iconst hX (v := 0) 0 rfl (by decide) ?_
  refine v_istore_n hX 3 1 rfl rfl (Nat.le_of_ble_eq_true rfl) rfl ?_
  refine v_iconst hX (v := 0) 2 rfl (by decide) ?_
  refine v_istore hX 3 rfl (Nat.le_of_ble_eq_true rfl) rfl ?_
  have lp : ∀ (k : Nat), k ≤ n → V Y X M 5 [some (.ref (Y.2.2.2.1 b)), some (.int s2), some (.int x), some (.int (sm (cp M b) s2 x k)), some (.int (nI k)), none] [] := by
    refine upTo n (fun k hk ih => ?_)
    refine v_iload hX 4 rfl rfl ?_
    refine v_aload_n hX 0 5 rfl rfl rfl ?_
    refine g_0_1 hX 6 hb tw_105 rfl ?_
    refine v_icmp_ge hX (tgt := 59) 7 rfl (by decide) (fun c11 => ?_) (fun c11 => ?_)
    · skip
      have hk2 : k = n := by rw [hz] at c11; have := of_le c11 (by omega) (by omega); omega
      refine v_iload_n hX 3 29 rfl rfl rfl ?_
      refine v_iret hX hQ rfl rfl ?_ ?_ 30 rfl
      · rw [hk2]
      · rfl
    · skip
      have hk2 : k < n := by rw [hz] at c11; exact of_nle c11 (by omega) (by omega)
      refine v_aload_n hX 0 8 rfl rfl rfl ?_
      refine v_iload hX 9 rfl rfl ?_
      refine v_callV hX 1 (by have := isB_lt hb; omega) (cG_B hb) rfl (f_find_in hb hz hn hk2) tw_232 tw_229 tw_231 tw_3 tw_40 (by decide +kernel) ⟨⟨rfl, rfl⟩, Nat.le_of_ble_eq_true rfl, Nat.le_of_ble_eq_true rfl⟩ rfl (Nat.le_of_ble_eq_true rfl) rfl rfl 10 rfl ?_
      refine v_astore hX 11 rfl (Nat.le_of_ble_eq_true rfl) rfl ?_
      refine v_aload hX 12 rfl rfl ?_
      refine v_ifnull hX 13 rfl ?_
      refine v_aload hX 14 rfl rfl ?_
      refine gN_4_0 hX 15 hb (by omega) (List.mem_of_getElem? (i := 0) rfl) rfl ?_
      refine v_iload_n hX 1 16 rfl rfl rfl ?_
      refine v_icmp_ne hX (tgt := 53) 17 rfl (by decide) (fun c33 => ?_) (fun c33 => ?_)
      · skip
        refine v_iinc hX 27 rfl rfl (nI_inc k) (Nat.le_of_ble_eq_true rfl) rfl ?_
        refine v_goto hX (tgt := 5) 28 rfl (by decide) ?_
        exact V.sub (ih hk2) rfl ⟨rfl, rfl, rfl, (by first | rfl | (refine congrArg (fun z : Int32 => some (Value.int z)) ?_; simp [sm, cp, c33])), rfl, trivial⟩
      · skip
        refine v_iload_n hX 2 18 rfl rfl rfl ?_
        refine v_iload hX 19 rfl rfl ?_
        refine v_callSN hX 2 (f_has) tw_314 (List.mem_of_getElem? (i := 15) rfl) tw_39 tw_313 (by decide +kernel) ⟨⟨rfl, rfl⟩, Nat.le_of_ble_eq_true rfl, Nat.le_of_ble_eq_true rfl⟩ rfl (Nat.le_of_ble_eq_true rfl) rfl rfl 20 rfl ?_
        refine v_if_ne hX (tgt := 53) 21 rfl (by decide) (fun c42 => ?_) (fun c42 => ?_)
        · skip
          have q1 := hasv_ne (by omega) c42
          refine v_iinc hX 27 rfl rfl (nI_inc k) (Nat.le_of_ble_eq_true rfl) rfl ?_
          refine v_goto hX (tgt := 5) 28 rfl (by decide) ?_
          exact V.sub (ih hk2) rfl ⟨rfl, rfl, rfl, (by first | rfl | (refine congrArg (fun z : Int32 => some (Value.int z)) ?_; simp [sm, cp, q1])), rfl, trivial⟩
        · skip
          have q1 := hasv_eq (by omega) c42
          refine v_iload_n hX 3 22 rfl rfl rfl ?_
          refine v_aload hX 23 rfl rfl ?_
          refine gN_4_1 hX 24 hb (by omega) (List.mem_of_getElem? (i := 2) rfl) rfl ?_
          refine v_iadd hX 25 rfl ?_
          refine v_istore_n hX 3 26 rfl rfl (Nat.le_of_ble_eq_true rfl) rfl ?_
          refine v_iinc hX 27 rfl rfl (nI_inc k) (Nat.le_of_ble_eq_true rfl) rfl ?_
          refine v_goto hX (tgt := 5) 28 rfl (by decide) ?_
          exact V.sub (ih hk2) rfl ⟨rfl, rfl, rfl, (by first | rfl | (refine congrArg (fun z : Int32 => some (Value.int z)) ?_; simp [sm, cp, q1, c11, c33, c42])), rfl, trivial⟩
  exact V.sub (lp 0 (Nat.zero_le _)) rfl ⟨rfl, rfl, rfl, (by first | rfl | (refine congrArg (fun z : Int32 => some (Value.int z)) ?_; rfl)), rfl, trivial⟩
set_option maxRecDepth 100000 in
set_option maxHeartbeats 4000000 in
theorem f_depthOf {Y : Yt} {M : Mm} {b n i : Nat} (hb : isB b) (hz : M.1 b 1 = nI n) (hn : n ≤ 24) (hi : i < n) (hw : WF (cp M b) n) : Fn Y yX0_depthOf wsX0_depthOf { frames := 1, cells := 0, slots := 0, locals := 21 } [.ref (Y.2.2.2.1 b), .int (nI i)] M (some (.int (nI (dpN (cp M b) (i + 1) i)))) M := by
  refine Fn.of (cc := cX0_depthOf) (ins := iX0_depthOf) (maxL := 4) (ret := (some .int)) (by decide) dX0_depthOf [some (.ref (Y.2.2.2.1 b)), some (.int (nI i)), none, none] (Nat.le_of_ble_eq_true rfl) rfl rfl ?_
  intro X hX hQ
  refine v_iconst hX (v := 0) 0 rfl (by decide) ?_
  refine v_istore_n hX 2 1 rfl rfl (Nat.le_of_ble_eq_true rfl) rfl ?_
  refine v_aload_n hX 0 2 rfl rfl rfl ?_
  refine v_iload_n hX 1 3 rfl rfl rfl ?_
  refine v_callV hX 1 (by have := isB_lt hb; omega) (cG_B hb) rfl (f_find_in hb hz hn hi) tw_232 tw_229 tw_231 tw_3 tw_40 (by decide +kernel) ⟨⟨rfl, rfl⟩, Nat.le_of_ble_eq_true rfl, Nat.le_of_ble_eq_true rfl⟩ rfl (Nat.le_of_ble_eq_true rfl) rfl rfl 4 rfl ?_
  refine v_astore_n hX 3 5 rfl rfl (Nat.le_of_ble_eq_true rfl) rfl ?_
  have lp : ∀ (r : Nat), r < n → ∀ d : Nat, d + r < 24 → d + dpN (cp M b) (r + 1) r = dpN (cp M b) (i + 1) i → V Y X M 8 [some (.ref (Y.2.2.2.1 b)), some (.int (nI i)), some (.int (nI d)), some (.ref (Y.2.2.2.1 (b + 2 + r)))] [] := by
    refine downTo (fun r ih => ?_)
    intro hr d hd he
    refine v_iload_n hX 2 6 rfl rfl rfl ?_
    refine v_bipush hX (v := 24) 7 rfl (by decide) ?_
    refine v_icmp_ge hX (tgt := 42) 8 rfl (by decide) (fun c11 => absurd c11 (nI_ge (show d < 24 by omega) (by decide))) (fun c11 => ?_)
    refine v_aload_n hX 3 9 rfl rfl rfl ?_
    refine v_ifnull hX 10 rfl ?_
    refine v_aload_n hX 3 11 rfl rfl rfl ?_
    refine gN_4_3 hX 12 hb (by omega) (List.mem_of_getElem? (i := 7) rfl) rfl ?_
    refine v_bipush hX (v := (-6)) 13 rfl (by decide) ?_
    refine v_icmp_eq hX (tgt := 42) 14 rfl (by decide) (fun c24 => ?_) (fun c24 => ?_)
    · skip
      have he2 : dpN (cp M b) (r + 1) r = 0 := by rw [dpN, if_pos (show cp M b r 3 = -6 from c24)]
      refine v_iload_n hX 2 22 rfl rfl rfl ?_
      refine v_iret hX hQ rfl rfl ?_ ?_ 23 rfl
      · rw [← he, he2, Nat.add_zero]
      · rfl
    · skip
      obtain ⟨t, ht, et⟩ := (hw r hr).2.1.resolve_left c24
      have et : M.1 (b + 2 + r) 3 = nI t := et
      have he2 : dpN (cp M b) (r + 1) r = dpN (cp M b) (t + 1) t + 1 := by rw [dpN, if_neg (show ¬ cp M b r 3 = -6 from c24), show (cp M b r 3) = nI t from et, nI_clamp (by omega), dpN_fuel hw hn r (t + 1) t (by omega) (by omega) (by omega)]
      refine v_iinc hX 15 rfl rfl (nI_inc d) (Nat.le_of_ble_eq_true rfl) rfl ?_
      refine v_aload_n hX 0 16 rfl rfl rfl ?_
      refine v_aload_n hX 3 17 rfl rfl rfl ?_
      refine gN_4_3 hX 18 hb (by omega) (List.mem_of_getElem? (i := 7) rfl) rfl ?_
      rw [et]
      refine v_callV hX 1 (by have := isB_lt hb; omega) (cG_B hb) rfl (f_find_in hb hz hn (show t < n by omega)) tw_232 tw_229 tw_231 tw_3 tw_40 (by decide +kernel) ⟨⟨rfl, rfl⟩, Nat.le_of_ble_eq_true rfl, Nat.le_of_ble_eq_true rfl⟩ rfl (Nat.le_of_ble_eq_true rfl) rfl rfl 19 rfl ?_
      refine v_astore_n hX 3 20 rfl rfl (Nat.le_of_ble_eq_true rfl) rfl ?_
      refine v_goto hX (tgt := 8) 21 rfl (by decide) ?_
      exact V.sub (ih t (by omega) (by omega) (d + 1) (by omega) (by omega)) rfl ⟨rfl, rfl, rfl, rfl, trivial⟩
  exact V.sub (lp i hi 0 (by omega) (Nat.zero_add _)) rfl ⟨rfl, rfl, rfl, rfl, trivial⟩
set_option maxRecDepth 100000 in
set_option maxHeartbeats 4000000 in
theorem f_ptBecome {Y : Yt} {M : Mm} {b c i : Nat} (hb : isB b) (hc : isB c) (hi : i < 24) (h : b ≠ c) (hv : M.1 (c + 2 + i) 6 = 0 ∨ M.1 (c + 2 + i) 6 = 1) : Fn Y yX4_become wsX4_become { frames := 0, cells := 0, slots := 0, locals := 0 } [.ref (Y.2.2.2.1 (b + 2 + i)), .ref (Y.2.2.2.1 (c + 2 + i))] M none ((ptM M (b + 2 + i) (c + 2 + i))) := by
  have hap := isB_apart hb hc h
  have hne : b + 2 + i ≠ c + 2 + i := by omega
  have hne : c + 2 + i ≠ b + 2 + i := fun e => hne e.symm
  refine Fn.of (cc := cX4_become) (ins := iX4_become) (maxL := 2) (ret := none) (by decide) dX4_become [some (.ref (Y.2.2.2.1 (b + 2 + i))), some (.ref (Y.2.2.2.1 (c + 2 + i)))] (Nat.le_of_ble_eq_true rfl) rfl rfl ?_
  intro X hX hQ
  refine v_aload_n hX 0 0 rfl rfl rfl ?_
  refine v_aload_n hX 1 1 rfl rfl rfl ?_
  refine g_4_0 hX 2 hc hi tw_69 rfl ?_
  refine p_4_0 hX 3 hb hi  tw_69 rfl ?_
  refine v_aload_n hX 0 4 rfl rfl rfl ?_
  refine v_aload_n hX 1 5 rfl rfl rfl ?_
  refine g_4_1 hX 6 hc hi tw_72 rfl ?_
  refine p_4_1 hX 7 hb hi  tw_72 rfl ?_
  refine v_aload_n hX 0 8 rfl rfl rfl ?_
  refine v_aload_n hX 1 9 rfl rfl rfl ?_
  refine g_4_2 hX 10 hc hi tw_75 rfl ?_
  refine p_4_2 hX 11 hb hi  tw_75 rfl ?_
  refine v_aload_n hX 0 12 rfl rfl rfl ?_
  refine v_aload_n hX 1 13 rfl rfl rfl ?_
  refine g_4_3 hX 14 hc hi tw_78 rfl ?_
  refine p_4_3 hX 15 hb hi  tw_78 rfl ?_
  refine v_aload_n hX 0 16 rfl rfl rfl ?_
  refine v_aload_n hX 1 17 rfl rfl rfl ?_
  refine g_4_4 hX 18 hc hi tw_82 rfl ?_
  refine p_4_4 hX 19 hb hi  tw_82 rfl ?_
  refine v_aload_n hX 0 20 rfl rfl rfl ?_
  refine v_aload_n hX 1 21 rfl rfl rfl ?_
  refine g_4_5 hX 22 hc hi tw_85 rfl ?_
  refine p_4_5 hX 23 hb hi  tw_85 rfl ?_
  refine v_aload_n hX 0 24 rfl rfl rfl ?_
  refine v_aload_n hX 1 25 rfl rfl rfl ?_
  refine g_4_6 hX 26 hc hi tw_87 rfl ?_
  simp only [mset_n hne]
  refine p_4_6 hX 27 hb hi (nar_b hv) (fit_b hv) tw_87 rfl ?_
  refine v_vret hX hQ rfl rfl ?_ 28 rfl
  exact (ptM_7 hne.symm).symm
set_option maxRecDepth 100000 in
set_option maxHeartbeats 4000000 in
theorem f_become {Y : Yt} {M : Mm} {b c n : Nat} (hb : isB b) (hc : isB c) (hz : M.1 c 1 = nI n) (hn : n ≤ 24) (h : b ≠ c) (hw : WF (cp M c) n) : Fn Y yX0_become wsX0_become { frames := 1, cells := 0, slots := 0, locals := 21 } [.ref (Y.2.2.2.1 b), .ref (Y.2.2.2.1 c)] M none ((cpB M b c n)) := by
  have hap := isB_apart hb hc h
  refine Fn.of (cc := cX0_become) (ins := iX0_become) (maxL := 5) (ret := none) (by decide) dX0_become [some (.ref (Y.2.2.2.1 b)), some (.ref (Y.2.2.2.1 c)), none, none, none] (Nat.le_of_ble_eq_true rfl) rfl rfl ?_
  intro X hX hQ
  refine v_aload_n hX 0 0 rfl rfl rfl ?_
  refine v_aload_n hX 1 1 rfl rfl rfl ?_
  refine g_0_1 hX 2 hc tw_105 rfl ?_
  refine p_0_1 hX 3 hb  tw_105 rfl ?_
  refine v_aload_n hX 0 4 rfl rfl rfl ?_
  refine v_aload_n hX 1 5 rfl rfl rfl ?_
  refine g_0_2 hX 6 hc tw_107 rfl ?_
  refine p_0_2 hX 7 hb  tw_107 rfl ?_
  refine v_aload_n hX 0 8 rfl rfl rfl ?_
  refine v_aload_n hX 1 9 rfl rfl rfl ?_
  refine g_0_3 hX 10 hc tw_109 rfl ?_
  refine p_0_3 hX 11 hb  tw_109 rfl ?_
  refine v_aload_n hX 0 12 rfl rfl rfl ?_
  refine v_aload_n hX 1 13 rfl rfl rfl ?_
  refine g_0_4 hX 14 hc tw_111 rfl ?_
  refine p_0_4 hX 15 hb  tw_111 rfl ?_
  refine v_aload_n hX 0 16 rfl rfl rfl ?_
  refine v_aload_n hX 1 17 rfl rfl rfl ?_
  refine g_0_5 hX 18 hc tw_113 rfl ?_
  refine p_0_5 hX 19 hb  tw_113 rfl ?_
  refine v_iconst hX (v := 0) 20 rfl (by decide) ?_
  refine v_istore_n hX 2 21 rfl rfl (Nat.le_of_ble_eq_true rfl) rfl ?_
  have lp : ∀ (k : Nat), k ≤ n → V Y X (cpB M b c k) 42 [some (.ref (Y.2.2.2.1 b)), some (.ref (Y.2.2.2.1 c)), some (.int (nI k)), none, none] [] := by
    refine upTo n (fun k hk ih => ?_)
    have hzb : (cpB M b c k).1 b 1 = nI n := by rw [cpB_b]; exact hz
    have hzc : (cpB M b c k).1 c 1 = nI n := by rw [cpB_out h.symm (by omega)]; exact hz
    refine v_iload_n hX 2 22 rfl rfl rfl ?_
    refine v_aload_n hX 0 23 rfl rfl rfl ?_
    refine g_0_0 hX 24 hb tw_104 rfl ?_
    refine v_alen hX (v := nI 24) (k := b + 1) (by have := isB_lt hb; omega) (cG_R hb) rfl rfl 25 rfl ?_
    refine v_icmp_ge hX (tgt := 94) 26 rfl (by decide) (fun c48 => ?_) (fun c48 => ?_)
    · skip
      have hk2 : k = n := by have := of_le c48 (by omega) (by omega); omega
      refine v_vret hX hQ rfl rfl ?_ 49 rfl
      rw [hk2]
    · skip
      have hk3 : k < 24 := of_nle c48 (by omega) (by omega)
      refine v_iload_n hX 2 27 rfl rfl rfl ?_
      refine v_aload_n hX 0 28 rfl rfl rfl ?_
      refine g_0_1 hX 29 hb tw_105 rfl ?_
      rw [hzb]
      refine v_icmp_ge hX (tgt := 94) 30 rfl (by decide) (fun c56 => ?_) (fun c56 => ?_)
      · skip
        have hk2 : k = n := by have := of_le c56 (by omega) (by omega); omega
        refine v_vret hX hQ rfl rfl ?_ 49 rfl
        rw [hk2]
      · skip
        have hk2 : k < n := of_nle c56 (by omega) (by omega)
        refine v_aload_n hX 0 31 rfl rfl rfl ?_
        refine g_0_0 hX 32 hb tw_104 rfl ?_
        refine v_iload_n hX 2 33 rfl rfl rfl ?_
        refine v_aald hX (k := b + 1) (v := Y.2.2.2.1 (b + 2 + k)) (by have := isB_lt hb; omega) (cG_R hb) rfl (vp_in_nI (by omega) (by decide)) (by rw [nI_clamp (by omega)]) 34 rfl ?_
        refine v_astore_n hX 3 35 rfl rfl (Nat.le_of_ble_eq_true rfl) rfl ?_
        refine v_aload_n hX 1 36 rfl rfl rfl ?_
        refine v_iload_n hX 2 37 rfl rfl rfl ?_
        refine v_callV hX 1 (by have := isB_lt hc; omega) (cG_B hc) rfl (f_find_in hc hzc hn hk2) tw_232 tw_229 tw_231 tw_3 tw_40 (by decide +kernel) ⟨⟨rfl, rfl⟩, Nat.le_of_ble_eq_true rfl, Nat.le_of_ble_eq_true rfl⟩ rfl (Nat.le_of_ble_eq_true rfl) rfl rfl 38 rfl ?_
        refine v_astore hX 39 rfl (Nat.le_of_ble_eq_true rfl) rfl ?_
        refine v_aload_n hX 3 40 rfl rfl rfl ?_
        refine v_ifnull hX 41 rfl ?_
        refine v_aload hX 42 rfl rfl ?_
        refine v_ifnull hX 43 rfl ?_
        refine v_aload_n hX 3 44 rfl rfl rfl ?_
        refine v_aload hX 45 rfl rfl ?_
        refine v_callVN hX 1 (by have := isB_lt hb; omega) (cG_P hb hk3) rfl (f_ptBecome hb hc hk3 h (by rw [cpB_out (by omega) (by omega)]; exact (hw k hk2).2.2)) tw_236 (List.mem_of_getElem? (i := 9) rfl) tw_41 tw_235 tw_4 (by decide +kernel) ⟨⟨rfl, rfl⟩, Nat.le_of_ble_eq_true rfl, Nat.le_of_ble_eq_true rfl⟩ rfl (Nat.le_of_ble_eq_true rfl) rfl rfl 46 rfl ?_
        refine v_iinc hX 47 rfl rfl (nI_inc k) (Nat.le_of_ble_eq_true rfl) rfl ?_
        refine v_goto hX (tgt := 42) 48 rfl (by decide) ?_
        refine V.subM (ih hk2) ?_ rfl ⟨rfl, rfl, rfl, trivial⟩
        exact cpB_step hb hc h hk3
  refine V.subM (lp 0 (Nat.zero_le _)) ?_ rfl ⟨rfl, rfl, rfl, trivial⟩
  simp only [mset_n h.symm]; exact cpB_0 h
