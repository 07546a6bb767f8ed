set_option maxRecDepth 100000 in
set_option maxHeartbeats 4000000 in
theorem f_addT_no {Y : Yt} {M : Mm} {t x y : Int32} (ht : t < 0 ∨ nI 24 ≤ t) : Fn Y yX1_addToTarget wsX1_addToTarget { frames := 1, cells := 0, slots := 0, locals := 24 } [.ref (Y.2.2.2 27), .int t, .int x, .int y] M none M := by
  refine Fn.of (cc := cX1_addToTarget) (ins := iX1_addToTarget) (maxL := 4) (ret := none) (by decide) dX1_addToTarget [some (.ref (Y.2.2.2 27)), some (.int t), some (.int x), some (.int y)] (Nat.le_of_ble_eq_true rfl) rfl rfl ?_
  intro X hX hQ
  refine v_iload_n hX 1 0 rfl rfl rfl ?_
  refine v_if_lt hX (tgt := 58) 1 rfl (by decide) (fun c1 => ?_) (fun c1 => ?_)
  · skip
    refine v_vret hX hQ rfl rfl ?_ 34 rfl
    rfl
  · skip
    refine v_iload_n hX 1 2 rfl rfl rfl ?_
    refine v_aload_n hX 0 3 rfl rfl rfl ?_
    refine g_1_0 hX 4  tw_188 rfl ?_
    refine v_alen hX (v := nI 24) (k := 28) (t0 := 1) (by decide) rfl rfl rfl 5 rfl ?_
    refine v_icmp_ge hX (tgt := 58) 6 rfl (by decide) (fun c10 => ?_) (fun c10 => absurd (ht.resolve_left c1) c10)
    refine v_vret hX hQ rfl rfl ?_ 34 rfl
    rfl
set_option maxRecDepth 100000 in
set_option maxHeartbeats 4000000 in
theorem f_addT {Y : Yt} {M : Mm} {t : Nat} {x y : Int32} (ht : t < 24) : Fn Y yX1_addToTarget wsX1_addToTarget { frames := 1, cells := 0, slots := 0, locals := 24 } [.ref (Y.2.2.2 27), .int (nI t), .int x, .int y] M none ((mset (mset M 28 t (imin (M.1 28 t) y)) 29 t (imin 1000 (M.1 29 t + x)))) := by
  refine Fn.of (cc := cX1_addToTarget) (ins := iX1_addToTarget) (maxL := 4) (ret := none) (by decide) dX1_addToTarget [some (.ref (Y.2.2.2 27)), some (.int (nI t)), some (.int x), some (.int y)] (Nat.le_of_ble_eq_true rfl) rfl rfl ?_
  intro X hX hQ
  refine v_iload_n hX 1 0 rfl rfl rfl ?_
  refine v_if_lt hX (tgt := 58) 1 rfl (by decide) (fun c1 => absurd c1 (nI_nlt (Nat.zero_le _) (by omega))) (fun c1 => ?_)
  refine v_iload_n hX 1 2 rfl rfl rfl ?_
  refine v_aload_n hX 0 3 rfl rfl rfl ?_
  refine g_1_0 hX 4  tw_188 rfl ?_
  refine v_alen hX (v := nI 24) (k := 28) (t0 := 1) (by decide) rfl rfl rfl 5 rfl ?_
  refine v_icmp_ge hX (tgt := 58) 6 rfl (by decide) (fun c10 => absurd c10 (nI_ge (show t < 24 by omega) (by decide))) (fun c10 => ?_)
  refine v_iload_n hX 1 7 rfl rfl rfl ?_
  refine v_aload_n hX 0 8 rfl rfl rfl ?_
  refine g_1_1 hX 9  tw_189 rfl ?_
  refine v_alen hX (v := nI 24) (k := 29) (t0 := 1) (by decide) rfl rfl rfl 10 rfl ?_
  refine v_icmp_ge hX (tgt := 58) 11 rfl (by decide) (fun c19 => absurd c19 (nI_ge (show t < 24 by omega) (by decide))) (fun c19 => ?_)
  refine v_aload_n hX 0 12 rfl rfl rfl ?_
  refine g_1_0 hX 13  tw_188 rfl ?_
  refine v_iload_n hX 1 14 rfl rfl rfl ?_
  refine v_aload_n hX 0 15 rfl rfl rfl ?_
  refine g_1_0 hX 16  tw_188 rfl ?_
  refine v_iload_n hX 1 17 rfl rfl rfl ?_
  refine v_iald hX (k := 28) (by decide) rfl (vp_in_nI (by omega) (by decide)) 18 rfl ?_
  refine v_iload_n hX 3 19 rfl rfl rfl ?_
  refine v_mmin hX tw_497 tw_498 tw_101 tw_499 (Nat.le_of_ble_eq_true rfl) (Nat.le_of_ble_eq_true rfl) rfl 20 rfl ?_
  refine v_iast hX (k := 28) (by decide) rfl rfl (vp_in_nI (by omega) (by decide)) rfl 21 rfl ?_
  refine v_aload_n hX 0 22 rfl rfl rfl ?_
  refine g_1_1 hX 23  tw_189 rfl ?_
  refine v_iload_n hX 1 24 rfl rfl rfl ?_
  refine v_sipush hX (v := 1000) 25 rfl (by decide) ?_
  refine v_aload_n hX 0 26 rfl rfl rfl ?_
  refine g_1_1 hX 27  tw_189 rfl ?_
  refine v_iload_n hX 1 28 rfl rfl rfl ?_
  refine v_iald hX (k := 29) (by decide) rfl (vp_in_nI (by omega) (by decide)) 29 rfl ?_
  refine v_iload_n hX 2 30 rfl rfl rfl ?_
  refine v_iadd hX 31 rfl ?_
  refine v_mmin hX tw_497 tw_498 tw_101 tw_499 (Nat.le_of_ble_eq_true rfl) (Nat.le_of_ble_eq_true rfl) rfl 32 rfl ?_
  refine v_iast hX (k := 29) (by decide) rfl rfl (vp_in_nI (by omega) (by decide)) rfl 33 rfl ?_
  refine v_vret hX hQ rfl rfl ?_ 34 rfl
  rw [nI_clamp (by omega), mset_n (by decide)]; rfl
set_option maxRecDepth 100000 in
set_option maxHeartbeats 4000000 in
theorem f_reachable {Y : Yt} {M : Mm} {x : Int32} : Fn Y yX1_reachable wsX1_reachable { frames := 0, cells := 0, slots := 0, locals := 0 } [.int x] M (some (.int (if x < 1000 then x else -6))) M := by
  refine Fn.of (cc := cX1_reachable) (ins := iX1_reachable) (maxL := 1) (ret := (some .int)) (by decide) dX1_reachable [some (.int x)] (Nat.le_of_ble_eq_true rfl) rfl rfl ?_
  intro X hX hQ
  refine v_iload_n hX 0 0 rfl rfl rfl ?_
  refine v_sipush hX (v := 1000) 1 rfl (by decide) ?_
  refine v_icmp_lt hX (tgt := 12) 2 rfl (by decide) (fun c4 => ?_) (fun c4 => ?_)
  · skip
    refine v_iload_n hX 0 5 rfl rfl rfl ?_
    refine v_iret hX hQ rfl rfl ?_ ?_ 6 rfl
    · simp only [c4, if_true, if_false]
    · rfl
  · skip
    refine v_bipush hX (v := (-6)) 3 rfl (by decide) ?_
    refine v_goto hX (tgt := 13) 4 rfl (by decide) ?_
    refine v_iret hX hQ rfl rfl ?_ ?_ 6 rfl
    · simp only [c4, if_true, if_false]
    · rfl
set_option maxRecDepth 100000 in
set_option maxHeartbeats 4000000 in
theorem f_ansFall {Y : Yt} {M : Mm} {i : Nat} (hi : i < 24) : Fn Y yX1_answersToFall wsX1_answersToFall { frames := 1, cells := 0, slots := 0, locals := 20 } [.ref (Y.2.2.2 27), .int (nI i)] M (some (.int (if M.1 28 i < 1000 then M.1 28 i else -6))) M := by
  refine Fn.of (cc := cX1_answersToFall) (ins := iX1_answersToFall) (maxL := 2) (ret := (some .int)) (by decide) dX1_answersToFall [some (.ref (Y.2.2.2 27)), some (.int (nI i))] (Nat.le_of_ble_eq_true rfl) rfl rfl ?_
  intro X hX hQ
  refine v_iload_n hX 1 0 rfl rfl rfl ?_
  refine v_if_lt hX (tgt := 22) 1 rfl (by decide) (fun c1 => absurd c1 (nI_nlt (Nat.zero_le _) (by omega))) (fun c1 => ?_)
  refine v_iload_n hX 1 2 rfl rfl rfl ?_
  refine v_aload_n hX 0 3 rfl rfl rfl ?_
  refine g_1_0 hX 4  tw_188 rfl ?_
  refine v_alen hX (v := nI 24) (k := 28) (t0 := 1) (by decide) rfl rfl rfl 5 rfl ?_
  refine v_icmp_ge hX (tgt := 22) 6 rfl (by decide) (fun c10 => absurd c10 (nI_ge hi (by decide))) (fun c10 => ?_)
  refine v_aload_n hX 0 7 rfl rfl rfl ?_
  refine g_1_0 hX 8  tw_188 rfl ?_
  refine v_iload_n hX 1 9 rfl rfl rfl ?_
  refine v_iald hX (k := 28) (by decide) rfl (vp_in_nI (by omega) (by decide)) 10 rfl ?_
  refine v_goto hX (tgt := 25) 11 rfl (by decide) ?_
  rw [nI_clamp (by omega)]
  refine v_callS hX 1 (f_reachable) tw_512 tw_510 tw_511 tw_95 (by decide +kernel) ⟨⟨rfl, rfl⟩, Nat.le_of_ble_eq_true rfl, Nat.le_of_ble_eq_true rfl⟩ rfl (Nat.le_of_ble_eq_true rfl) rfl rfl 13 rfl ?_
  refine v_iret hX hQ rfl rfl ?_ ?_ 14 rfl
  · rfl
  · rfl
set_option maxRecDepth 100000 in
set_option maxHeartbeats 4000000 in
theorem f_ansStand {Y : Yt} {M : Mm} {i : Nat} (hi : i < 24) : Fn Y yX1_answersToStand wsX1_answersToStand { frames := 1, cells := 0, slots := 0, locals := 20 } [.ref (Y.2.2.2 27), .int (nI i)] M (some (.int (if M.1 29 i < 1000 then M.1 29 i else -6))) M := by
  refine Fn.of (cc := cX1_answersToStand) (ins := iX1_answersToStand) (maxL := 2) (ret := (some .int)) (by decide) dX1_answersToStand [some (.ref (Y.2.2.2 27)), some (.int (nI i))] (Nat.le_of_ble_eq_true rfl) rfl rfl ?_
  intro X hX hQ
  refine v_iload_n hX 1 0 rfl rfl rfl ?_
  refine v_if_lt hX (tgt := 22) 1 rfl (by decide) (fun c1 => absurd c1 (nI_nlt (Nat.zero_le _) (by omega))) (fun c1 => ?_)
  refine v_iload_n hX 1 2 rfl rfl rfl ?_
  refine v_aload_n hX 0 3 rfl rfl rfl ?_
  refine g_1_1 hX 4  tw_189 rfl ?_
  refine v_alen hX (v := nI 24) (k := 29) (t0 := 1) (by decide) rfl rfl rfl 5 rfl ?_
  refine v_icmp_ge hX (tgt := 22) 6 rfl (by decide) (fun c10 => absurd c10 (nI_ge hi (by decide))) (fun c10 => ?_)
  refine v_aload_n hX 0 7 rfl rfl rfl ?_
  refine g_1_1 hX 8  tw_189 rfl ?_
  refine v_iload_n hX 1 9 rfl rfl rfl ?_
  refine v_iald hX (k := 29) (by decide) rfl (vp_in_nI (by omega) (by decide)) 10 rfl ?_
  refine v_goto hX (tgt := 25) 11 rfl (by decide) ?_
  rw [nI_clamp (by omega)]
  refine v_callS hX 1 (f_reachable) tw_512 tw_510 tw_511 tw_95 (by decide +kernel) ⟨⟨rfl, rfl⟩, Nat.le_of_ble_eq_true rfl, Nat.le_of_ble_eq_true rfl⟩ rfl (Nat.le_of_ble_eq_true rfl) rfl rfl 13 rfl ?_
  refine v_iret hX hQ rfl rfl ?_ ?_ 14 rfl
  · rfl
  · rfl
set_option maxRecDepth 100000 in
set_option maxHeartbeats 4000000 in
theorem f_weigh {Y : Yt} {M : Mm} {b n : Nat} (hb : isB b) (hz : M.1 b 1 = nI n) (hn : n ≤ 24) (hw : WF (cp M b) n) : Fn Y yX1_weigh wsX1_weigh { frames := 3, cells := 0, slots := 0, locals := 66 } [.ref (Y.2.2.2 27), .ref (Y.2.2.2 b)] M none ((wM M (wAll (cp M b) (bOut M b) (naP (cp M b) n) n (wI M 24) 24))) := by
  have hb1 := isB_no hb (show 0 < 26 by decide)
  refine Fn.of (cc := cX1_weigh) (ins := iX1_weigh) (maxL := 7) (ret := none) (by decide) dX1_weigh [some (.ref (Y.2.2.2 27)), some (.ref (Y.2.2.2 b)), none, none, none, none, none] (Nat.le_of_ble_eq_true rfl) rfl rfl ?_
  intro X hX hQ
  refine v_aload_n hX 1 0 rfl rfl rfl ?_
  refine v_callVN hX 0 (by have := isB_lt hb; omega) (cG_B hb) rfl (f_out hb hz hn hw) tw_358 (List.mem_of_getElem? (i := 33) rfl) tw_93 tw_357 tw_14 (by decide +kernel) ⟨⟨rfl, rfl⟩, Nat.le_of_ble_eq_true rfl, Nat.le_of_ble_eq_true rfl⟩ rfl (Nat.le_of_ble_eq_true rfl) rfl rfl 1 rfl ?_
  refine v_istore_n hX 2 2 rfl rfl (Nat.le_of_ble_eq_true rfl) rfl ?_
  refine v_aload_n hX 1 3 rfl rfl rfl ?_
  refine v_callVN hX 0 (by have := isB_lt hb; omega) (cG_B hb) rfl (f_withoutAnswers hb hz hn) tw_496 (List.mem_of_getElem? (i := 34) rfl) tw_93 tw_495 tw_34 (by decide +kernel) ⟨⟨rfl, rfl⟩, Nat.le_of_ble_eq_true rfl, Nat.le_of_ble_eq_true rfl⟩ rfl (Nat.le_of_ble_eq_true rfl) rfl rfl 4 rfl ?_
  rw [wa_mk hw hn]
  refine v_istore_n hX 3 5 rfl rfl (Nat.le_of_ble_eq_true rfl) rfl ?_
  refine v_aload_n hX 0 6 rfl rfl rfl ?_
  refine g_1_0 hX 7  tw_188 rfl ?_
  refine v_alen hX (v := nI 24) (k := 28) (t0 := 1) (by decide) rfl rfl rfl 8 rfl ?_
  refine v_aload_n hX 0 9 rfl rfl rfl ?_
  refine g_1_1 hX 10  tw_189 rfl ?_
  refine v_alen hX (v := nI 24) (k := 29) (t0 := 1) (by decide) rfl rfl rfl 11 rfl ?_
  refine v_mmin hX tw_497 tw_498 tw_101 tw_499 (Nat.le_of_ble_eq_true rfl) (Nat.le_of_ble_eq_true rfl) rfl 12 rfl ?_
  rw [show (if nI 24 < nI 24 then nI 24 else nI 24) = nI 24 from if_neg (by decide)]
  refine v_istore hX 13 rfl (Nat.le_of_ble_eq_true rfl) rfl ?_
  refine v_iconst hX (v := 0) 14 rfl (by decide) ?_
  refine v_istore hX 15 rfl (Nat.le_of_ble_eq_true rfl) rfl ?_
  have lp : ∀ (k : Nat), k ≤ 24 → V Y X (wM M (wI M k)) 28 [some (.ref (Y.2.2.2 27)), some (.ref (Y.2.2.2 b)), some (.int (mk (bOut M b) n)), some (.int (mk (naP (cp M b) n) n)), some (.int (nI 24)), some (.int (nI k)), none] [] := by
    refine upTo 24 (fun k hk ih => ?_)
    refine v_iload hX 16 rfl rfl ?_
    refine v_iload hX 17 rfl rfl ?_
    refine v_icmp_ge hX (tgt := 59) 18 rfl (by decide) (fun c32 => ?_) (fun c32 => ?_)
    · skip
      have hk2 : k = 24 := by have := of_le (a := 24) c32 (by omega) (by omega); omega
      subst hk2
      refine v_iload hX 31 rfl rfl ?_
      refine v_iconst hX (v := 1) 32 rfl (by decide) ?_
      refine v_isub hX 33 rfl ?_
      refine v_istore hX 34 rfl (Nat.le_of_ble_eq_true rfl) rfl ?_
      have lq : ∀ (m : Nat), m ≤ 24 → V Y X (wM M (wAll (cp M b) (bOut M b) (naP (cp M b) n) n (wI M 24) (24 - m))) 65 [some (.ref (Y.2.2.2 27)), some (.ref (Y.2.2.2 b)), some (.int (mk (bOut M b) n)), some (.int (mk (naP (cp M b) n) n)), some (.int (nI 24)), some (.int (nI m - 1)), none] [] := by
        refine downTo (fun m ihq => ?_)
        intro hm24
        rcases Nat.eq_zero_or_pos m with h0 | h0
        · skip
          subst h0
          refine v_iload hX 35 rfl rfl ?_
          refine v_if_lt hX (tgt := 162) 36 rfl (by decide) (fun c67 => ?_) (fun c67 => absurd (by decide) c67)
          refine v_vret hX hQ rfl rfl ?_ 82 rfl
          rfl
        · skip
          obtain ⟨m, rfl⟩ : ∃ m2, m = m2 + 1 := ⟨m - 1, by omega⟩
          rw [nI_pred]
          have e24 : 24 - (m + 1) = 23 - m := by omega
          have e25 : 24 - m = 23 - m + 1 := by omega
          rw [e24]
          have hzw : (wM M (wAll (cp M b) (bOut M b) (naP (cp M b) n) n (wI M 24) (23 - m))).1 b 1 = nI n := by rw [wM_n (by omega)]; exact hz
          have em : 23 - (23 - m) = m := by omega
          refine v_iload hX 35 rfl rfl ?_
          refine v_if_lt hX (tgt := 162) 36 rfl (by decide) (fun c67 => absurd c67 (nI_nlt (Nat.zero_le _) (by omega))) (fun c67 => ?_)
          refine v_aload_n hX 1 37 rfl rfl rfl ?_
          refine v_iload hX 38 rfl rfl ?_
          rcases Nat.lt_or_ge m n with hm | hm
          · skip
            have hW : wAll (cp M b) (bOut M b) (naP (cp M b) n) n (wI M 24) (23 - m + 1) = wStep (cp M b) (bOut M b) (naP (cp M b) n) m (wAll (cp M b) (bOut M b) (naP (cp M b) n) n (wI M 24) (23 - m)) := by rw [wAll, em, if_pos hm]
            refine v_callVN hX 1 (by have := isB_lt hb; omega) (cG_B hb) rfl (f_find_in hb hzw hn hm) tw_299 (List.mem_of_getElem? (i := 35) rfl) tw_93 tw_298 tw_3 (by decide +kernel) ⟨⟨rfl, rfl⟩, Nat.le_of_ble_eq_true rfl, Nat.le_of_ble_eq_true rfl⟩ rfl (Nat.le_of_ble_eq_true rfl) rfl rfl 39 rfl ?_
            refine v_astore hX 40 rfl (Nat.le_of_ble_eq_true rfl) rfl ?_
            refine v_aload hX 41 rfl rfl ?_
            refine v_ifnonnull hX (tgt := 86) 42 rfl (by decide) ?_
            refine v_iload_n hX 2 44 rfl rfl rfl ?_
            refine v_iload hX 45 rfl rfl ?_
            refine v_callSN hX 2 (f_has) tw_381 (List.mem_of_getElem? (i := 36) rfl) tw_92 tw_380 (by decide +kernel) ⟨⟨rfl, rfl⟩, Nat.le_of_ble_eq_true rfl, Nat.le_of_ble_eq_true rfl⟩ rfl (Nat.le_of_ble_eq_true rfl) rfl rfl 46 rfl ?_
            refine v_if_eq hX (tgt := 116) 47 rfl (by decide) (fun c92 => ?_) (fun c92 => ?_)
            · skip
              have q1 := hasv_eq (by omega) c92
              rw [bt_mk _ (by omega) (by omega), decide_eq_true hm, Bool.true_and] at q1
              refine v_iload_n hX 3 59 rfl rfl rfl ?_
              refine v_iload hX 60 rfl rfl ?_
              refine v_callSN hX 2 (f_has) tw_381 (List.mem_of_getElem? (i := 36) rfl) tw_92 tw_380 (by decide +kernel) ⟨⟨rfl, rfl⟩, Nat.le_of_ble_eq_true rfl, Nat.le_of_ble_eq_true rfl⟩ rfl (Nat.le_of_ble_eq_true rfl) rfl rfl 61 rfl ?_
              refine v_if_eq hX (tgt := 133) 62 rfl (by decide) (fun c122 => ?_) (fun c122 => ?_)
              · skip
                have q2 := hasv_eq (by omega) c122
                rw [bt_mk _ (by omega) (by omega), decide_eq_true hm, Bool.true_and] at q2
                have hS : wAll (cp M b) (bOut M b) (naP (cp M b) n) n (wI M 24) (23 - m) = wS1 (bOut M b) (naP (cp M b) n) m (wAll (cp M b) (bOut M b) (naP (cp M b) n) n (wI M 24) (23 - m)) := by unfold wS1; rw [if_neg (by rw [q1]; decide), if_neg (by rw [q2]; decide), if_neg (by rw [q1]; decide)]
                rw [hS]
                rcases (hw m hm).2.1 with et | ⟨t, ht, et⟩
                · skip
                  have hW2 : wStep (cp M b) (bOut M b) (naP (cp M b) n) m (wAll (cp M b) (bOut M b) (naP (cp M b) n) n (wI M 24) (23 - m)) = wS1 (bOut M b) (naP (cp M b) n) m (wAll (cp M b) (bOut M b) (naP (cp M b) n) n (wI M 24) (23 - m)) := by unfold wStep att; rw [if_pos et]
                  refine v_aload_n hX 0 68 rfl rfl rfl ?_
                  refine v_aload hX 69 rfl rfl ?_
                  refine gN_4_3 hX 70 hb (by omega) (List.mem_of_getElem? (i := 6) rfl) rfl ?_
                  rw [show (wM M (wS1 (bOut M b) (naP (cp M b) n) m (wAll (cp M b) (bOut M b) (naP (cp M b) n) n (wI M 24) (23 - m)))).1 (b + 2 + m) 3 = -6 by rw [wM_n (by have := isB_no hb (show 2 + m < 26 by omega); omega)]; exact et]
                  refine v_aload_n hX 0 71 rfl rfl rfl ?_
                  refine g_1_0 hX 72  tw_188 rfl ?_
                  refine v_iload hX 73 rfl rfl ?_
                  refine v_iald hX (k := 28) (by decide) rfl (vp_in_nI (by omega) (by decide)) 74 rfl ?_
                  refine v_aload_n hX 0 75 rfl rfl rfl ?_
                  refine g_1_1 hX 76  tw_189 rfl ?_
                  refine v_iload hX 77 rfl rfl ?_
                  refine v_iald hX (k := 29) (by decide) rfl (vp_in_nI (by omega) (by decide)) 78 rfl ?_
                  refine v_callV hX 3 (by decide) rfl rfl (f_addT_no (Or.inl (by decide))) tw_505 tw_502 tw_504 tw_35 tw_95 (by decide +kernel) ⟨⟨rfl, rfl⟩, Nat.le_of_ble_eq_true rfl, Nat.le_of_ble_eq_true rfl⟩ rfl (Nat.le_of_ble_eq_true rfl) rfl rfl 79 rfl ?_
                  refine v_iinc hX 80 rfl rfl (nI_dm m) (Nat.le_of_ble_eq_true rfl) rfl ?_
                  refine v_goto hX (tgt := 65) 81 rfl (by decide) ?_
                  refine V.subM (ihq m (by omega) (by omega)) ?_ rfl ⟨rfl, rfl, rfl, rfl, rfl, (by first | rfl | (refine congrArg (fun z : Int32 => some (Value.int z)) ?_; decide)), trivial⟩
                  rw [e25, hW, hW2]
                · skip
                  have hne : ¬ cp M b m 3 = -6 := by rw [et]; exact (by decide +kernel : ∀ t, t < 24 → ¬ nI t = -6) t (by omega)
                  have hW2 : wStep (cp M b) (bOut M b) (naP (cp M b) n) m (wAll (cp M b) (bOut M b) (naP (cp M b) n) n (wI M 24) (23 - m)) = att (nI t) ((wS1 (bOut M b) (naP (cp M b) n) m (wAll (cp M b) (bOut M b) (naP (cp M b) n) n (wI M 24) (23 - m))).1 m) ((wS1 (bOut M b) (naP (cp M b) n) m (wAll (cp M b) (bOut M b) (naP (cp M b) n) n (wI M 24) (23 - m))).2 m) (wS1 (bOut M b) (naP (cp M b) n) m (wAll (cp M b) (bOut M b) (naP (cp M b) n) n (wI M 24) (23 - m))) := by unfold wStep; rw [et]
                  rw [et] at hne
                  refine v_aload_n hX 0 68 rfl rfl rfl ?_
                  refine v_aload hX 69 rfl rfl ?_
                  refine gN_4_3 hX 70 hb (by omega) (List.mem_of_getElem? (i := 6) rfl) rfl ?_
                  rw [show (wM M (wS1 (bOut M b) (naP (cp M b) n) m (wAll (cp M b) (bOut M b) (naP (cp M b) n) n (wI M 24) (23 - m)))).1 (b + 2 + m) 3 = nI t by rw [wM_n (by have := isB_no hb (show 2 + m < 26 by omega); omega)]; exact et]
                  refine v_aload_n hX 0 71 rfl rfl rfl ?_
                  refine g_1_0 hX 72  tw_188 rfl ?_
                  refine v_iload hX 73 rfl rfl ?_
                  refine v_iald hX (k := 28) (by decide) rfl (vp_in_nI (by omega) (by decide)) 74 rfl ?_
                  refine v_aload_n hX 0 75 rfl rfl rfl ?_
                  refine g_1_1 hX 76  tw_189 rfl ?_
                  refine v_iload hX 77 rfl rfl ?_
                  refine v_iald hX (k := 29) (by decide) rfl (vp_in_nI (by omega) (by decide)) 78 rfl ?_
                  rw [nI_clamp (by omega)]
                  refine v_callV hX 3 (by decide) rfl rfl (f_addT (show t < 24 by omega)) tw_505 tw_502 tw_504 tw_35 tw_95 (by decide +kernel) ⟨⟨rfl, rfl⟩, Nat.le_of_ble_eq_true rfl, Nat.le_of_ble_eq_true rfl⟩ rfl (Nat.le_of_ble_eq_true rfl) rfl rfl 79 rfl ?_
                  refine v_iinc hX 80 rfl rfl (nI_dm m) (Nat.le_of_ble_eq_true rfl) rfl ?_
                  refine v_goto hX (tgt := 65) 81 rfl (by decide) ?_
                  refine V.subM (ihq m (by omega) (by omega)) ?_ rfl ⟨rfl, rfl, rfl, rfl, rfl, (by first | rfl | (refine congrArg (fun z : Int32 => some (Value.int z)) ?_; decide)), trivial⟩
                  rw [e25, hW, hW2, wM_r28, wM_r29, wM_28, wM_29]; unfold att; rw [if_neg hne, nI_clamp (by omega)]
              · skip
                have q2 := hasv_ne (by omega) c122
                rw [bt_mk _ (by omega) (by omega), decide_eq_true hm, Bool.true_and] at q2
                refine v_aload_n hX 0 63 rfl rfl rfl ?_
                refine g_1_0 hX 64  tw_188 rfl ?_
                refine v_iload hX 65 rfl rfl ?_
                refine v_iconst hX (v := 1) 66 rfl (by decide) ?_
                refine v_iast hX (k := 28) (by decide) rfl rfl (vp_in_nI (by omega) (by decide)) rfl 67 rfl ?_
                refine V.mem (M2 := wM M (upd (wAll (cp M b) (bOut M b) (naP (cp M b) n) n (wI M 24) (23 - m)).1 m 1, (wAll (cp M b) (bOut M b) (naP (cp M b) n) n (wI M 24) (23 - m)).2)) (by rw [nI_clamp (by omega), wM_28]) ?_
                have hS : (upd (wAll (cp M b) (bOut M b) (naP (cp M b) n) n (wI M 24) (23 - m)).1 m 1, (wAll (cp M b) (bOut M b) (naP (cp M b) n) n (wI M 24) (23 - m)).2) = wS1 (bOut M b) (naP (cp M b) n) m (wAll (cp M b) (bOut M b) (naP (cp M b) n) n (wI M 24) (23 - m)) := by unfold wS1; rw [if_neg (by rw [q1]; decide), if_pos q2, if_neg (by rw [q1]; decide)]
                rw [hS]
                rcases (hw m hm).2.1 with et | ⟨t, ht, et⟩
                · skip
                  have hW2 : wStep (cp M b) (bOut M b) (naP (cp M b) n) m (wAll (cp M b) (bOut M b) (naP (cp M b) n) n (wI M 24) (23 - m)) = wS1 (bOut M b) (naP (cp M b) n) m (wAll (cp M b) (bOut M b) (naP (cp M b) n) n (wI M 24) (23 - m)) := by unfold wStep att; rw [if_pos et]
                  refine v_aload_n hX 0 68 rfl rfl rfl ?_
                  refine v_aload hX 69 rfl rfl ?_
                  refine gN_4_3 hX 70 hb (by omega) (List.mem_of_getElem? (i := 6) rfl) rfl ?_
                  rw [show (wM M (wS1 (bOut M b) (naP (cp M b) n) m (wAll (cp M b) (bOut M b) (naP (cp M b) n) n (wI M 24) (23 - m)))).1 (b + 2 + m) 3 = -6 by rw [wM_n (by have := isB_no hb (show 2 + m < 26 by omega); omega)]; exact et]
                  refine v_aload_n hX 0 71 rfl rfl rfl ?_
                  refine g_1_0 hX 72  tw_188 rfl ?_
                  refine v_iload hX 73 rfl rfl ?_
                  refine v_iald hX (k := 28) (by decide) rfl (vp_in_nI (by omega) (by decide)) 74 rfl ?_
                  refine v_aload_n hX 0 75 rfl rfl rfl ?_
                  refine g_1_1 hX 76  tw_189 rfl ?_
                  refine v_iload hX 77 rfl rfl ?_
                  refine v_iald hX (k := 29) (by decide) rfl (vp_in_nI (by omega) (by decide)) 78 rfl ?_
                  refine v_callV hX 3 (by decide) rfl rfl (f_addT_no (Or.inl (by decide))) tw_505 tw_502 tw_504 tw_35 tw_95 (by decide +kernel) ⟨⟨rfl, rfl⟩, Nat.le_of_ble_eq_true rfl, Nat.le_of_ble_eq_true rfl⟩ rfl (Nat.le_of_ble_eq_true rfl) rfl rfl 79 rfl ?_
                  refine v_iinc hX 80 rfl rfl (nI_dm m) (Nat.le_of_ble_eq_true rfl) rfl ?_
                  refine v_goto hX (tgt := 65) 81 rfl (by decide) ?_
                  refine V.subM (ihq m (by omega) (by omega)) ?_ rfl ⟨rfl, rfl, rfl, rfl, rfl, (by first | rfl | (refine congrArg (fun z : Int32 => some (Value.int z)) ?_; decide)), trivial⟩
                  rw [e25, hW, hW2]
                · skip
                  have hne : ¬ cp M b m 3 = -6 := by rw [et]; exact (by decide +kernel : ∀ t, t < 24 → ¬ nI t = -6) t (by omega)
                  have hW2 : wStep (cp M b) (bOut M b) (naP (cp M b) n) m (wAll (cp M b) (bOut M b) (naP (cp M b) n) n (wI M 24) (23 - m)) = att (nI t) ((wS1 (bOut M b) (naP (cp M b) n) m (wAll (cp M b) (bOut M b) (naP (cp M b) n) n (wI M 24) (23 - m))).1 m) ((wS1 (bOut M b) (naP (cp M b) n) m (wAll (cp M b) (bOut M b) (naP (cp M b) n) n (wI M 24) (23 - m))).2 m) (wS1 (bOut M b) (naP (cp M b) n) m (wAll (cp M b) (bOut M b) (naP (cp M b) n) n (wI M 24) (23 - m))) := by unfold wStep; rw [et]
                  rw [et] at hne
                  refine v_aload_n hX 0 68 rfl rfl rfl ?_
                  refine v_aload hX 69 rfl rfl ?_
                  refine gN_4_3 hX 70 hb (by omega) (List.mem_of_getElem? (i := 6) rfl) rfl ?_
                  rw [show (wM M (wS1 (bOut M b) (naP (cp M b) n) m (wAll (cp M b) (bOut M b) (naP (cp M b) n) n (wI M 24) (23 - m)))).1 (b + 2 + m) 3 = nI t by rw [wM_n (by have := isB_no hb (show 2 + m < 26 by omega); omega)]; exact et]
                  refine v_aload_n hX 0 71 rfl rfl rfl ?_
                  refine g_1_0 hX 72  tw_188 rfl ?_
                  refine v_iload hX 73 rfl rfl ?_
                  refine v_iald hX (k := 28) (by decide) rfl (vp_in_nI (by omega) (by decide)) 74 rfl ?_
                  refine v_aload_n hX 0 75 rfl rfl rfl ?_
                  refine g_1_1 hX 76  tw_189 rfl ?_
                  refine v_iload hX 77 rfl rfl ?_
                  refine v_iald hX (k := 29) (by decide) rfl (vp_in_nI (by omega) (by decide)) 78 rfl ?_
                  rw [nI_clamp (by omega)]
                  refine v_callV hX 3 (by decide) rfl rfl (f_addT (show t < 24 by omega)) tw_505 tw_502 tw_504 tw_35 tw_95 (by decide +kernel) ⟨⟨rfl, rfl⟩, Nat.le_of_ble_eq_true rfl, Nat.le_of_ble_eq_true rfl⟩ rfl (Nat.le_of_ble_eq_true rfl) rfl rfl 79 rfl ?_
                  refine v_iinc hX 80 rfl rfl (nI_dm m) (Nat.le_of_ble_eq_true rfl) rfl ?_
                  refine v_goto hX (tgt := 65) 81 rfl (by decide) ?_
                  refine V.subM (ihq m (by omega) (by omega)) ?_ rfl ⟨rfl, rfl, rfl, rfl, rfl, (by first | rfl | (refine congrArg (fun z : Int32 => some (Value.int z)) ?_; decide)), trivial⟩
                  rw [e25, hW, hW2, wM_r28, wM_r29, wM_28, wM_29]; unfold att; rw [if_neg hne, nI_clamp (by omega)]
            · skip
              have q1 := hasv_ne (by omega) c92
              rw [bt_mk _ (by omega) (by omega), decide_eq_true hm, Bool.true_and] at q1
              refine v_aload_n hX 0 48 rfl rfl rfl ?_
              refine g_1_0 hX 49  tw_188 rfl ?_
              refine v_iload hX 50 rfl rfl ?_
              refine v_iconst hX (v := 0) 51 rfl (by decide) ?_
              refine v_iast hX (k := 28) (by decide) rfl rfl (vp_in_nI (by omega) (by decide)) rfl 52 rfl ?_
              refine V.mem (M2 := wM M (upd (wAll (cp M b) (bOut M b) (naP (cp M b) n) n (wI M 24) (23 - m)).1 m 0, (wAll (cp M b) (bOut M b) (naP (cp M b) n) n (wI M 24) (23 - m)).2)) (by rw [nI_clamp (by omega), wM_28]) ?_
              refine v_aload_n hX 0 53 rfl rfl rfl ?_
              refine g_1_1 hX 54  tw_189 rfl ?_
              refine v_iload hX 55 rfl rfl ?_
              refine v_sipush hX (v := 1000) 56 rfl (by decide) ?_
              refine v_iast hX (k := 29) (by decide) rfl rfl (vp_in_nI (by omega) (by decide)) rfl 57 rfl ?_
              refine V.mem (M2 := wM M (upd (wAll (cp M b) (bOut M b) (naP (cp M b) n) n (wI M 24) (23 - m)).1 m 0, upd (wAll (cp M b) (bOut M b) (naP (cp M b) n) n (wI M 24) (23 - m)).2 m 1000)) (by rw [nI_clamp (by omega), wM_29]) ?_
              have hS : (upd (wAll (cp M b) (bOut M b) (naP (cp M b) n) n (wI M 24) (23 - m)).1 m 0, upd (wAll (cp M b) (bOut M b) (naP (cp M b) n) n (wI M 24) (23 - m)).2 m 1000) = wS1 (bOut M b) (naP (cp M b) n) m (wAll (cp M b) (bOut M b) (naP (cp M b) n) n (wI M 24) (23 - m)) := by unfold wS1; rw [if_pos q1, if_pos q1]
              rw [hS]
              refine v_goto hX (tgt := 133) 58 rfl (by decide) ?_
              rcases (hw m hm).2.1 with et | ⟨t, ht, et⟩
              · skip
                have hW2 : wStep (cp M b) (bOut M b) (naP (cp M b) n) m (wAll (cp M b) (bOut M b) (naP (cp M b) n) n (wI M 24) (23 - m)) = wS1 (bOut M b) (naP (cp M b) n) m (wAll (cp M b) (bOut M b) (naP (cp M b) n) n (wI M 24) (23 - m)) := by unfold wStep att; rw [if_pos et]
                refine v_aload_n hX 0 68 rfl rfl rfl ?_
                refine v_aload hX 69 rfl rfl ?_
                refine gN_4_3 hX 70 hb (by omega) (List.mem_of_getElem? (i := 6) rfl) rfl ?_
                rw [show (wM M (wS1 (bOut M b) (naP (cp M b) n) m (wAll (cp M b) (bOut M b) (naP (cp M b) n) n (wI M 24) (23 - m)))).1 (b + 2 + m) 3 = -6 by rw [wM_n (by have := isB_no hb (show 2 + m < 26 by omega); omega)]; exact et]
                refine v_aload_n hX 0 71 rfl rfl rfl ?_
                refine g_1_0 hX 72  tw_188 rfl ?_
                refine v_iload hX 73 rfl rfl ?_
                refine v_iald hX (k := 28) (by decide) rfl (vp_in_nI (by omega) (by decide)) 74 rfl ?_
                refine v_aload_n hX 0 75 rfl rfl rfl ?_
                refine g_1_1 hX 76  tw_189 rfl ?_
                refine v_iload hX 77 rfl rfl ?_
                refine v_iald hX (k := 29) (by decide) rfl (vp_in_nI (by omega) (by decide)) 78 rfl ?_
                refine v_callV hX 3 (by decide) rfl rfl (f_addT_no (Or.inl (by decide))) tw_505 tw_502 tw_504 tw_35 tw_95 (by decide +kernel) ⟨⟨rfl, rfl⟩, Nat.le_of_ble_eq_true rfl, Nat.le_of_ble_eq_true rfl⟩ rfl (Nat.le_of_ble_eq_true rfl) rfl rfl 79 rfl ?_
                refine v_iinc hX 80 rfl rfl (nI_dm m) (Nat.le_of_ble_eq_true rfl) rfl ?_
                refine v_goto hX (tgt := 65) 81 rfl (by decide) ?_
                refine V.subM (ihq m (by omega) (by omega)) ?_ rfl ⟨rfl, rfl, rfl, rfl, rfl, (by first | rfl | (refine congrArg (fun z : Int32 => some (Value.int z)) ?_; decide)), trivial⟩
                rw [e25, hW, hW2]
              · skip
                have hne : ¬ cp M b m 3 = -6 := by rw [et]; exact (by decide +kernel : ∀ t, t < 24 → ¬ nI t = -6) t (by omega)
                have hW2 : wStep (cp M b) (bOut M b) (naP (cp M b) n) m (wAll (cp M b) (bOut M b) (naP (cp M b) n) n (wI M 24) (23 - m)) = att (nI t) ((wS1 (bOut M b) (naP (cp M b) n) m (wAll (cp M b) (bOut M b) (naP (cp M b) n) n (wI M 24) (23 - m))).1 m) ((wS1 (bOut M b) (naP (cp M b) n) m (wAll (cp M b) (bOut M b) (naP (cp M b) n) n (wI M 24) (23 - m))).2 m) (wS1 (bOut M b) (naP (cp M b) n) m (wAll (cp M b) (bOut M b) (naP (cp M b) n) n (wI M 24) (23 - m))) := by unfold wStep; rw [et]
                rw [et] at hne
                refine v_aload_n hX 0 68 rfl rfl rfl ?_
                refine v_aload hX 69 rfl rfl ?_
                refine gN_4_3 hX 70 hb (by omega) (List.mem_of_getElem? (i := 6) rfl) rfl ?_
                rw [show (wM M (wS1 (bOut M b) (naP (cp M b) n) m (wAll (cp M b) (bOut M b) (naP (cp M b) n) n (wI M 24) (23 - m)))).1 (b + 2 + m) 3 = nI t by rw [wM_n (by have := isB_no hb (show 2 + m < 26 by omega); omega)]; exact et]
                refine v_aload_n hX 0 71 rfl rfl rfl ?_
                refine g_1_0 hX 72  tw_188 rfl ?_
                refine v_iload hX 73 rfl rfl ?_
                refine v_iald hX (k := 28) (by decide) rfl (vp_in_nI (by omega) (by decide)) 74 rfl ?_
                refine v_aload_n hX 0 75 rfl rfl rfl ?_
                refine g_1_1 hX 76  tw_189 rfl ?_
                refine v_iload hX 77 rfl rfl ?_
                refine v_iald hX (k := 29) (by decide) rfl (vp_in_nI (by omega) (by decide)) 78 rfl ?_
                rw [nI_clamp (by omega)]
                refine v_callV hX 3 (by decide) rfl rfl (f_addT (show t < 24 by omega)) tw_505 tw_502 tw_504 tw_35 tw_95 (by decide +kernel) ⟨⟨rfl, rfl⟩, Nat.le_of_ble_eq_true rfl, Nat.le_of_ble_eq_true rfl⟩ rfl (Nat.le_of_ble_eq_true rfl) rfl rfl 79 rfl ?_
                refine v_iinc hX 80 rfl rfl (nI_dm m) (Nat.le_of_ble_eq_true rfl) rfl ?_
                refine v_goto hX (tgt := 65) 81 rfl (by decide) ?_
                refine V.subM (ihq m (by omega) (by omega)) ?_ rfl ⟨rfl, rfl, rfl, rfl, rfl, (by first | rfl | (refine congrArg (fun z : Int32 => some (Value.int z)) ?_; decide)), trivial⟩
                rw [e25, hW, hW2, wM_r28, wM_r29, wM_28, wM_29]; unfold att; rw [if_neg hne, nI_clamp (by omega)]
          · skip
            have hW : wAll (cp M b) (bOut M b) (naP (cp M b) n) n (wI M 24) (23 - m + 1) = wAll (cp M b) (bOut M b) (naP (cp M b) n) n (wI M 24) (23 - m) := by rw [wAll, em, if_neg (by omega)]
            refine v_callVN hX 1 (by have := isB_lt hb; omega) (cG_B hb) rfl (f_find_out hb hzw (Or.inr (nI_le hm (by omega)))) tw_299 (List.mem_of_getElem? (i := 35) rfl) tw_93 tw_298 tw_3 (by decide +kernel) ⟨⟨rfl, rfl⟩, Nat.le_of_ble_eq_true rfl, Nat.le_of_ble_eq_true rfl⟩ rfl (Nat.le_of_ble_eq_true rfl) rfl rfl 39 rfl ?_
            refine v_astoreN hX 40 rfl (Nat.le_of_ble_eq_true rfl) rfl ?_
            refine v_aloadN hX 41 rfl rfl ?_
            refine v_ifnonnullN hX 42 rfl ?_
            refine v_goto hX (tgt := 156) 43 rfl (by decide) ?_
            refine v_iinc hX 80 rfl rfl (nI_dm m) (Nat.le_of_ble_eq_true rfl) rfl ?_
            refine v_goto hX (tgt := 65) 81 rfl (by decide) ?_
            refine V.subM (ihq m (by omega) (by omega)) ?_ rfl ⟨rfl, rfl, rfl, rfl, rfl, (by first | rfl | (refine congrArg (fun z : Int32 => some (Value.int z)) ?_; decide)), trivial⟩
            rw [e25, hW]
      refine V.subM (lq 24 (Nat.le_refl 24)) ?_ rfl ⟨rfl, rfl, rfl, rfl, rfl, (by first | rfl | (refine congrArg (fun z : Int32 => some (Value.int z)) ?_; decide)), trivial⟩
      rfl
    · skip
      have hk2 : k < 24 := of_nle (a := 24) c32 (by omega) (by omega)
      refine v_aload_n hX 0 19 rfl rfl rfl ?_
      refine g_1_0 hX 20  tw_188 rfl ?_
      refine v_iload hX 21 rfl rfl ?_
      refine v_sipush hX (v := 1000) 22 rfl (by decide) ?_
      refine v_iast hX (k := 28) (by decide) rfl rfl (vp_in_nI (by omega) (by decide)) rfl 23 rfl ?_
      refine v_aload_n hX 0 24 rfl rfl rfl ?_
      refine g_1_1 hX 25  tw_189 rfl ?_
      refine v_iload hX 26 rfl rfl ?_
      refine v_iconst hX (v := 0) 27 rfl (by decide) ?_
      refine v_iast hX (k := 29) (by decide) rfl rfl (vp_in_nI (by omega) (by decide)) rfl 28 rfl ?_
      refine V.mem (M2 := wM M (wI M (k + 1))) (by rw [nI_clamp (by omega)]; exact wI_s) ?_
      refine v_iinc hX 29 rfl rfl (nI_inc k) (Nat.le_of_ble_eq_true rfl) rfl ?_
      refine v_goto hX (tgt := 28) 30 rfl (by decide) ?_
      refine V.subM (ih hk2) ?_ rfl ⟨rfl, rfl, rfl, rfl, rfl, rfl, trivial⟩
      rfl
  refine V.subM (lp 0 (Nat.zero_le _)) ?_ rfl ⟨rfl, rfl, rfl, rfl, rfl, rfl, trivial⟩
  exact wI_0.symm
set_option maxRecDepth 100000 in
set_option maxHeartbeats 4000000 in
theorem f_rowAt {Y : Yt} {M : Mm} {i : Nat} (hi : i < 7) : Fn Y yX2_rowAt wsX2_rowAt { frames := 0, cells := 0, slots := 0, locals := 0 } [.ref (Y.2.2.2 33), .int (nI i)] M (some (.ref (Y.2.2.2 (M.2 i)))) M := by
  refine Fn.of (cc := cX2_rowAt) (ins := iX2_rowAt) (maxL := 2) (ret := (some (.object "PointAnswers$Bundle"))) (by decide) dX2_rowAt [some (.ref (Y.2.2.2 33)), some (.int (nI i))] (Nat.le_of_ble_eq_true rfl) rfl rfl ?_
  intro X hX hQ
  refine v_iload_n hX 1 0 rfl rfl rfl ?_
  refine v_if_lt hX (tgt := 22) 1 rfl (by decide) (fun c1 => absurd c1 (nI_nlt (Nat.zero_le _) (by omega))) (fun c1 => ?_)
  refine v_iload_n hX 1 2 rfl rfl rfl ?_
  refine v_aload_n hX 0 3 rfl rfl rfl ?_
  refine g_2_0 hX 4  tw_250 rfl ?_
  refine v_alen hX (v := nI 7) (k := 34) (t0 := 3) (by decide) rfl rfl rfl 5 rfl ?_
  refine v_icmp_ge hX (tgt := 22) 6 rfl (by decide) (fun c10 => absurd c10 (nI_ge hi (by omega))) (fun c10 => ?_)
  refine v_aload_n hX 0 7 rfl rfl rfl ?_
  refine g_2_0 hX 8  tw_250 rfl ?_
  refine v_iload_n hX 1 9 rfl rfl rfl ?_
  refine v_aald hX (k := 34) (t0 := 3) (v := Y.2.2.2 (M.2 i)) (by decide) rfl rfl (vp_in_nI hi (by decide)) (by rw [nI_clamp (by omega)]) 10 rfl ?_
  refine v_goto hX (tgt := 23) 11 rfl (by decide) ?_
  refine v_aret hX hQ rfl (Or.inl ⟨_, rfl⟩) (Or.inr ⟨_, rfl⟩) ?_ ?_ 13 rfl
  · rfl
  · rfl
set_option maxRecDepth 100000 in
set_option maxHeartbeats 4000000 in
theorem f_rowAt_no {Y : Yt} {M : Mm} {x : Int32} (hx : x < 0 ∨ nI 7 ≤ x) : Fn Y yX2_rowAt wsX2_rowAt { frames := 0, cells := 0, slots := 0, locals := 0 } [.ref (Y.2.2.2 33), .int x] M (some .null) M := by
  refine Fn.of (cc := cX2_rowAt) (ins := iX2_rowAt) (maxL := 2) (ret := (some (.object "PointAnswers$Bundle"))) (by decide) dX2_rowAt [some (.ref (Y.2.2.2 33)), some (.int x)] (Nat.le_of_ble_eq_true rfl) rfl rfl ?_
  intro X hX hQ
  refine v_iload_n hX 1 0 rfl rfl rfl ?_
  refine v_if_lt hX (tgt := 22) 1 rfl (by decide) (fun c1 => ?_) (fun c1 => ?_)
  · skip
    refine v_null hX 12 rfl ?_
    refine v_aret hX hQ rfl (Or.inl ⟨_, rfl⟩) (Or.inl rfl) ?_ ?_ 13 rfl
    · rfl
    · rfl
  · skip
    refine v_iload_n hX 1 2 rfl rfl rfl ?_
    refine v_aload_n hX 0 3 rfl rfl rfl ?_
    refine g_2_0 hX 4  tw_250 rfl ?_
    refine v_alen hX (v := nI 7) (k := 34) (t0 := 3) (by decide) rfl rfl rfl 5 rfl ?_
    refine v_icmp_ge hX (tgt := 22) 6 rfl (by decide) (fun c10 => ?_) (fun c10 => absurd (hx.resolve_left c1) c10)
    refine v_null hX 12 rfl ?_
    refine v_aret hX hQ rfl (Or.inl ⟨_, rfl⟩) (Or.inl rfl) ?_ ?_ 13 rfl
    · rfl
    · rfl
set_option maxRecDepth 100000 in
set_option maxHeartbeats 4000000 in
theorem f_prepare {Y : Yt} {M : Mm} {k n : Nat} (hk : k ≤ 6) (hkk : M.1 33 1 = nI k) (hh : ∀ i, i < 7 → isB (M.2 i) ∧ M.2 i ≠ 1) (hz : M.1 1 1 = nI n) (hn : n ≤ 24) (hw : WF (cp M 1) n) : Fn Y yX2_prepare wsX2_prepare { frames := 2, cells := 0, slots := 0, locals := 45 } [.ref (Y.2.2.2 33), .ref (Y.2.2.2 1)] M none ((cpB M (M.2 k) 1 n)) := by
  refine Fn.of (cc := cX2_prepare) (ins := iX2_prepare) (maxL := 3) (ret := none) (by decide) dX2_prepare [some (.ref (Y.2.2.2 33)), some (.ref (Y.2.2.2 1)), none] (Nat.le_of_ble_eq_true rfl) rfl rfl ?_
  intro X hX hQ
  refine v_aload_n hX 0 0 rfl rfl rfl ?_
  refine v_aload_n hX 0 1 rfl rfl rfl ?_
  refine g_2_1 hX 2  tw_251 rfl ?_
  rw [hkk]
  refine v_callV hX 1 (by decide) rfl rfl (f_rowAt (show k < 7 by omega)) tw_291 tw_288 tw_290 tw_1 tw_98 (by decide +kernel) ⟨⟨rfl, rfl⟩, Nat.le_of_ble_eq_true rfl, Nat.le_of_ble_eq_true rfl⟩ rfl (Nat.le_of_ble_eq_true rfl) rfl rfl 3 rfl ?_
  refine v_astore_n hX 2 4 rfl rfl (Nat.le_of_ble_eq_true rfl) rfl ?_
  refine v_aload_n hX 2 5 rfl rfl rfl ?_
  refine v_ifnull hX 6 rfl ?_
  refine v_aload_n hX 2 7 rfl rfl rfl ?_
  refine v_aload_n hX 1 8 rfl rfl rfl ?_
  refine v_callVN hX 1 (by have := isB_lt (hh k (by omega)).1; omega) (cG_B (hh k (by omega)).1) rfl (f_become (hh k (by omega)).1 isB_1 hz hn (hh k (by omega)).2 hw) tw_295 (List.mem_of_getElem? (i := 8) rfl) tw_93 tw_294 tw_2 (by decide +kernel) ⟨⟨rfl, rfl⟩, Nat.le_of_ble_eq_true rfl, Nat.le_of_ble_eq_true rfl⟩ rfl (Nat.le_of_ble_eq_true rfl) rfl rfl 9 rfl ?_
  refine v_vret hX hQ rfl rfl ?_ 10 rfl
  rfl
set_option maxRecDepth 100000 in
set_option maxHeartbeats 4000000 in
theorem f_dropOldest {Y : Yt} {M : Mm} (hh : ∀ i, i < 7 → isB (M.2 i) ∧ M.2 i ≠ 1) : Fn Y yX2_dropOldest wsX2_dropOldest { frames := 1, cells := 0, slots := 0, locals := 21 } [.ref (Y.2.2.2 33)] M none ((mhis M (rot M.2))) := by
  refine Fn.of (cc := cX2_dropOldest) (ins := iX2_dropOldest) (maxL := 3) (ret := none) (by decide) dX2_dropOldest [some (.ref (Y.2.2.2 33)), none, none] (Nat.le_of_ble_eq_true rfl) rfl rfl ?_
  intro X hX hQ
  refine v_aload_n hX 0 0 rfl rfl rfl ?_
  refine v_iconst hX (v := 0) 1 rfl (by decide) ?_
  refine v_callV hX 1 (by decide) rfl rfl (f_rowAt (show 0 < 7 by decide)) tw_291 tw_288 tw_290 tw_1 tw_98 (by decide +kernel) ⟨⟨rfl, rfl⟩, Nat.le_of_ble_eq_true rfl, Nat.le_of_ble_eq_true rfl⟩ rfl (Nat.le_of_ble_eq_true rfl) rfl rfl 2 rfl ?_
  refine v_astore_n hX 1 3 rfl rfl (Nat.le_of_ble_eq_true rfl) rfl ?_
  refine v_iconst hX (v := 0) 4 rfl (by decide) ?_
  refine v_istore_n hX 2 5 rfl rfl (Nat.le_of_ble_eq_true rfl) rfl ?_
  have lp : ∀ (k : Nat), k ≤ 6 → V Y X (mhis M (roS M.2 k)) 8 [some (.ref (Y.2.2.2 33)), some (.ref (Y.2.2.2 (M.2 0))), some (.int (nI k))] [] := by
    refine upTo 6 (fun k hk ih => ?_)
    refine v_iload_n hX 2 6 rfl rfl rfl ?_
    refine v_iconst hX (v := 1) 7 rfl (by decide) ?_
    refine v_iadd hX 8 rfl ?_
    refine v_aload_n hX 0 9 rfl rfl rfl ?_
    refine g_2_0 hX 10  tw_250 rfl ?_
    refine v_alen hX (v := nI 7) (k := 34) (t0 := 3) (by decide) rfl rfl rfl 11 rfl ?_
    refine v_icmp_ge hX (tgt := 48) 12 rfl (by decide) (fun c16 => ?_) (fun c16 => ?_)
    · skip
      have hk2 : k = 6 := by rw [nI_1] at c16; have := of_le (a := 7) c16 (by omega) (by omega); omega
      subst hk2
      refine v_vret hX hQ rfl rfl ?_ 32 rfl
      exact congrArg (mhis M) roS_e.symm
    · skip
      have hk2 : k < 6 := by rw [nI_1] at c16; have := of_nle (a := 7) c16 (by omega) (by omega); omega
      refine v_aload_n hX 0 13 rfl rfl rfl ?_
      refine g_2_0 hX 14  tw_250 rfl ?_
      refine v_iload_n hX 2 15 rfl rfl rfl ?_
      refine v_aload_n hX 0 16 rfl rfl rfl ?_
      refine g_2_0 hX 17  tw_250 rfl ?_
      refine v_iload_n hX 2 18 rfl rfl rfl ?_
      refine v_iconst hX (v := 1) 19 rfl (by decide) ?_
      refine v_iadd hX 20 rfl ?_
      refine v_aald hX (k := 34) (t0 := 3) (v := Y.2.2.2 (M.2 (k + 1))) (by decide) rfl rfl (by rw [nI_1]; exact vp_in_nI (by omega) (by decide)) (by rw [nI_1, nI_clamp (by omega)]; show some (Y.2.2.2 (roS M.2 k (k + 1))) = _; unfold roS; rw [if_neg (by omega), if_neg (by omega)]) 21 rfl ?_
      refine v_aast34 hX (b := M.2 (k + 1)) (hh (k + 1) (by omega)).1 (vp_in_nI (by omega) (by decide)) 22 rfl ?_
      refine v_aload_n hX 0 23 rfl rfl rfl ?_
      refine g_2_0 hX 24  tw_250 rfl ?_
      refine v_iload_n hX 2 25 rfl rfl rfl ?_
      refine v_iconst hX (v := 1) 26 rfl (by decide) ?_
      refine v_iadd hX 27 rfl ?_
      refine v_aload_n hX 1 28 rfl rfl rfl ?_
      refine v_aast34 hX (b := M.2 0) (hh 0 (by omega)).1 (by rw [nI_1]; exact vp_in_nI (by omega) (by decide)) 29 rfl ?_
      refine v_iinc hX 30 rfl rfl (nI_inc k) (Nat.le_of_ble_eq_true rfl) rfl ?_
      refine v_goto hX (tgt := 8) 31 rfl (by decide) ?_
      refine V.subM (ih hk2) ?_ rfl ⟨rfl, rfl, rfl, trivial⟩
      rw [nI_1, nI_clamp (by omega), nI_clamp (by omega), mhis_2, mhis_mhis, mhis_2, mhis_mhis, ← roS_s hk2]
  refine V.subM (lp 0 (Nat.zero_le _)) ?_ rfl ⟨rfl, rfl, rfl, trivial⟩
  rw [roS_0]; rfl
set_option maxRecDepth 100000 in
set_option maxHeartbeats 4000000 in
theorem f_settle {Y : Yt} {M : Mm} {k : Nat} {x : Int32} (hk : k ≤ 6) (hkk : M.1 33 1 = nI k) (hh : ∀ i, i < 7 → isB (M.2 i) ∧ M.2 i ≠ 1) : Fn Y yX2_settle wsX2_settle { frames := 2, cells := 0, slots := 0, locals := 43 } [.ref (Y.2.2.2 33), .int x] M (some (.int x)) ((seM M k x)) := by
  refine Fn.of (cc := cX2_settle) (ins := iX2_settle) (maxL := 2) (ret := (some .int)) (by decide) dX2_settle [some (.ref (Y.2.2.2 33)), some (.int x)] (Nat.le_of_ble_eq_true rfl) rfl rfl ?_
  intro X hX hQ
  refine v_iload_n hX 1 0 rfl rfl rfl ?_
  refine v_if_lt hX (tgt := 30) 1 rfl (by decide) (fun c1 => ?_) (fun c1 => ?_)
  · skip
    refine v_iload_n hX 1 15 rfl rfl rfl ?_
    refine v_iret hX hQ rfl rfl ?_ ?_ 16 rfl
    · rfl
    · first | (rw [seM, if_pos c1]; done) | (rw [seM, if_neg c1, if_pos hk2, hkk, nI_1]; done) | (rw [seM, if_neg c1, if_neg (by omega)])
  · skip
    refine v_aload_n hX 0 2 rfl rfl rfl ?_
    refine g_2_1 hX 3  tw_251 rfl ?_
    refine v_bipush hX (v := 6) 4 rfl (by decide) ?_
    refine v_icmp_ge hX (tgt := 26) 5 rfl (by decide) (fun c10 => ?_) (fun c10 => ?_)
    · skip
      have hk2 : k = 6 := by rw [hkk] at c10; have := of_le (a := 6) c10 (by omega) (by omega); omega
      refine v_aload_n hX 0 13 rfl rfl rfl ?_
      refine v_callV hX 0 (by decide) rfl rfl (f_dropOldest hh) tw_315 tw_312 tw_314 tw_7 tw_98 (by decide +kernel) ⟨⟨rfl, rfl⟩, Nat.le_of_ble_eq_true rfl, Nat.le_of_ble_eq_true rfl⟩ rfl (Nat.le_of_ble_eq_true rfl) rfl rfl 14 rfl ?_
      refine v_iload_n hX 1 15 rfl rfl rfl ?_
      refine v_iret hX hQ rfl rfl ?_ ?_ 16 rfl
      · rfl
      · first | (rw [seM, if_pos c1]; done) | (rw [seM, if_neg c1, if_pos hk2, hkk, nI_1]; done) | (rw [seM, if_neg c1, if_neg (by omega)])
    · skip
      have hk2 : k < 6 := by rw [hkk] at c10; exact of_nle (a := 6) c10 (by omega) (by omega)
      refine v_aload_n hX 0 6 rfl rfl rfl ?_
      refine v_dup hX 7 rfl rfl ?_
      refine g_2_1 hX 8  tw_251 rfl ?_
      refine v_iconst hX (v := 1) 9 rfl (by decide) ?_
      refine v_iadd hX 10 rfl ?_
      refine p_2_1 hX 11   tw_251 rfl ?_
      refine v_goto hX (tgt := 30) 12 rfl (by decide) ?_
      refine v_iload_n hX 1 15 rfl rfl rfl ?_
      refine v_iret hX hQ rfl rfl ?_ ?_ 16 rfl
      · rfl
      · first | (rw [seM, if_pos c1]; done) | (rw [seM, if_neg c1, if_pos hk2, hkk, nI_1]; done) | (rw [seM, if_neg c1, if_neg (by omega)])
set_option maxRecDepth 100000 in
set_option maxHeartbeats 4000000 in
theorem f_bringBack_no {Y : Yt} {M : Mm} (hkk : M.1 33 1 = nI 0) : Fn Y yX2_bringBack wsX2_bringBack { frames := 2, cells := 0, slots := 0, locals := 45 } [.ref (Y.2.2.2 33), .ref (Y.2.2.2 1)] M (some (.int (-5))) M := by
  refine Fn.of (cc := cX2_bringBack) (ins := iX2_bringBack) (maxL := 3) (ret := (some .int)) (by decide) dX2_bringBack [some (.ref (Y.2.2.2 33)), some (.ref (Y.2.2.2 1)), none] (Nat.le_of_ble_eq_true rfl) rfl rfl ?_
  intro X hX hQ
  refine v_aload_n hX 0 0 rfl rfl rfl ?_
  refine v_aload_n hX 0 1 rfl rfl rfl ?_
  refine g_2_1 hX 2  tw_251 rfl ?_
  refine v_iconst hX (v := 1) 3 rfl (by decide) ?_
  refine v_isub hX 4 rfl ?_
  rw [hkk]
  refine v_callV hX 1 (by decide) rfl rfl (f_rowAt_no (Or.inl (by decide))) tw_291 tw_288 tw_290 tw_1 tw_98 (by decide +kernel) ⟨⟨rfl, rfl⟩, Nat.le_of_ble_eq_true rfl, Nat.le_of_ble_eq_true rfl⟩ rfl (Nat.le_of_ble_eq_true rfl) rfl rfl 5 rfl ?_
  refine v_astore_nN hX 2 6 rfl rfl (Nat.le_of_ble_eq_true rfl) rfl ?_
  refine v_aload_nN hX 2 7 rfl rfl rfl ?_
  refine v_ifnonnullN hX 8 rfl ?_
  refine v_bipush hX (v := (-5)) 9 rfl (by decide) ?_
  refine v_iret hX hQ rfl rfl ?_ ?_ 10 rfl
  · rfl
  · rfl
set_option maxRecDepth 100000 in
set_option maxHeartbeats 4000000 in
theorem f_bringBack {Y : Yt} {M : Mm} {k n : Nat} (hk : k < 6) (hkk : M.1 33 1 = nI (k + 1)) (hh : ∀ i, i < 7 → isB (M.2 i) ∧ M.2 i ≠ 1) (hz : M.1 (M.2 k) 1 = nI n) (hn : n ≤ 24) (hw : WF (cp M (M.2 k)) n) : Fn Y yX2_bringBack wsX2_bringBack { frames := 2, cells := 0, slots := 0, locals := 45 } [.ref (Y.2.2.2 33), .ref (Y.2.2.2 1)] M (some (.int (nI k))) ((mset (cpB M 1 (M.2 k) n) 33 1 (nI k))) := by
  refine Fn.of (cc := cX2_bringBack) (ins := iX2_bringBack) (maxL := 3) (ret := (some .int)) (by decide) dX2_bringBack [some (.ref (Y.2.2.2 33)), some (.ref (Y.2.2.2 1)), none] (Nat.le_of_ble_eq_true rfl) rfl rfl ?_
  intro X hX hQ
  refine v_aload_n hX 0 0 rfl rfl rfl ?_
  refine v_aload_n hX 0 1 rfl rfl rfl ?_
  refine g_2_1 hX 2  tw_251 rfl ?_
  refine v_iconst hX (v := 1) 3 rfl (by decide) ?_
  refine v_isub hX 4 rfl ?_
  rw [hkk, nI_pred]
  refine v_callV hX 1 (by decide) rfl rfl (f_rowAt (show k < 7 by omega)) tw_291 tw_288 tw_290 tw_1 tw_98 (by decide +kernel) ⟨⟨rfl, rfl⟩, Nat.le_of_ble_eq_true rfl, Nat.le_of_ble_eq_true rfl⟩ rfl (Nat.le_of_ble_eq_true rfl) rfl rfl 5 rfl ?_
  refine v_astore_n hX 2 6 rfl rfl (Nat.le_of_ble_eq_true rfl) rfl ?_
  refine v_aload_n hX 2 7 rfl rfl rfl ?_
  refine v_ifnonnull hX (tgt := 18) 8 rfl (by decide) ?_
  refine v_aload_n hX 1 11 rfl rfl rfl ?_
  refine v_aload_n hX 2 12 rfl rfl rfl ?_
  refine v_callVN hX 1 (by decide) (cG_B isB_1) rfl (f_become isB_1 (hh k (by omega)).1 hz hn (hh k (by omega)).2.symm hw) tw_295 (List.mem_of_getElem? (i := 8) rfl) tw_93 tw_294 tw_2 (by decide +kernel) ⟨⟨rfl, rfl⟩, Nat.le_of_ble_eq_true rfl, Nat.le_of_ble_eq_true rfl⟩ rfl (Nat.le_of_ble_eq_true rfl) rfl rfl 13 rfl ?_
  have hk33 : (cpB M 1 (M.2 k) n).1 33 1 = nI (k + 1) := by rw [cpB_out (by decide) (by omega)]; exact hkk
  refine v_aload_n hX 0 14 rfl rfl rfl ?_
  refine v_dup hX 15 rfl rfl ?_
  refine g_2_1 hX 16  tw_251 rfl ?_
  rw [hk33]
  refine v_iconst hX (v := 1) 17 rfl (by decide) ?_
  refine v_isub hX 18 rfl ?_
  rw [nI_pred]
  refine p_2_1 hX 19   tw_251 rfl ?_
  refine v_aload_n hX 0 20 rfl rfl rfl ?_
  refine g_2_1 hX 21  tw_251 rfl ?_
  refine v_iret hX hQ rfl rfl ?_ ?_ 22 rfl
  · rw [mset_s, upd_s]
  · rfl
set_option maxRecDepth 100000 in
set_option maxHeartbeats 4000000 in
theorem f_empty {Y : Yt} {M : Mm}  : Fn Y yX3_empty wsX3_empty { frames := 0, cells := 0, slots := 0, locals := 0 } [.ref (Y.2.2.2 30)] M (some (.int (M.1 30 1))) ((mset M 30 1 0)) := by
  refine Fn.of (cc := cX3_empty) (ins := iX3_empty) (maxL := 2) (ret := (some .int)) (by decide) dX3_empty [some (.ref (Y.2.2.2 30)), none] (Nat.le_of_ble_eq_true rfl) rfl rfl ?_
  intro X hX hQ
  refine v_aload_n hX 0 0 rfl rfl rfl ?_
  refine g_3_1 hX 1  tw_203 rfl ?_
  refine v_istore_n hX 1 2 rfl rfl (Nat.le_of_ble_eq_true rfl) rfl ?_
  refine v_aload_n hX 0 3 rfl rfl rfl ?_
  refine v_iconst hX (v := 0) 4 rfl (by decide) ?_
  refine p_3_1 hX 5   tw_203 rfl ?_
  refine v_iload_n hX 1 6 rfl rfl rfl ?_
  refine v_iret hX hQ rfl rfl ?_ ?_ 7 rfl
  · rfl
  · rfl
set_option maxRecDepth 100000 in
set_option maxHeartbeats 4000000 in
theorem f_signOf {Y : Yt} {M : Mm} {x : Int64} {p : Int32} : Fn Y yX3_signOf wsX3_signOf { frames := 0, cells := 0, slots := 0, locals := 0 } [.long x, .int p] M (some (.int (sgn x p))) M := by
  refine Fn.of (cc := cX3_signOf) (ins := iX3_signOf) (maxL := 3) (ret := (some .char)) (by decide) dX3_signOf [some (.long x), none, some (.int p)] (Nat.le_of_ble_eq_true rfl) rfl rfl ?_
  intro X hX hQ
  refine v_lload_n hX 0 0 rfl rfl rfl ?_
  refine v_bipush hX (v := 8) 1 rfl (by decide) ?_
  refine v_iload_n hX 2 2 rfl rfl rfl ?_
  refine v_imul hX 3 rfl ?_
  refine v_lushr hX 4 rfl rfl ?_
  refine v_ldc2 hX tw_550 5 rfl ?_
  refine v_land hX 6 rfl ?_
  refine v_l2i hX 7 rfl rfl ?_
  refine v_i2c hX 8 rfl rfl ?_
  refine v_iret hX hQ rfl (pk_nc _) ?_ ?_ 9 rfl
  · rfl
  · rfl
set_option maxRecDepth 100000 in
set_option maxHeartbeats 4000000 in
theorem f_signsIn {Y : Yt} {M : Mm} {x : Int64} : Fn Y yX3_signsIn wsX3_signsIn { frames := 1, cells := 0, slots := 0, locals := 22 } [.long x] M (some (.int (snL x 8 0))) M := by
  refine Fn.of (cc := cX3_signsIn) (ins := iX3_signsIn) (maxL := 4) (ret := (some .int)) (by decide) dX3_signsIn [some (.long x), none, none, none] (Nat.le_of_ble_eq_true rfl) rfl rfl ?_
  intro X hX hQ
  refine v_iconst hX (v := 0) 0 rfl (by decide) ?_
  refine v_istore_n hX 2 1 rfl rfl (Nat.le_of_ble_eq_true rfl) rfl ?_
  have lp : ∀ (k : Nat), k ≤ 8 → snL x (8 - k) k = snL x 8 0 → V Y X M 2 [some (.long x), none, some (.int (nI k)), none] [] := by
    refine upTo 8 (fun k hk ih => ?_)
    intro he
    refine v_iload_n hX 2 2 rfl rfl rfl ?_
    refine v_bipush hX (v := 8) 3 rfl (by decide) ?_
    refine v_icmp_ge hX (tgt := 42) 4 rfl (by decide) (fun c5 => ?_) (fun c5 => ?_)
    · skip
      have hk2 : k = 8 := by have := of_le (a := 8) c5 (by omega) (by omega); omega
      have he2 : snE x k = snL x 8 0 := by rw [← he, hk2]; rfl
      refine v_iload_n hX 2 23 rfl rfl rfl ?_
      refine v_bipush hX (v := 8) 24 rfl (by decide) ?_
      refine v_icmp_ge hX (tgt := 63) 25 rfl (by decide) (fun c45 => ?_) (fun c45 => ?_)
      · skip
        have hk3 : ¬ k < 8 := by have := of_le (a := 8) c45 (by omega) (by omega); omega
        refine v_iconst hX (v := 0) 36 rfl (by decide) ?_
        refine v_istore_n hX 3 37 rfl rfl (Nat.le_of_ble_eq_true rfl) rfl ?_
        refine v_iload_n hX 3 38 rfl rfl rfl ?_
        refine v_if_eq hX (tgt := 73) 39 rfl (by decide) (fun c66 => ?_) (fun c66 => ?_)
        · skip
          refine v_iload_n hX 2 42 rfl rfl rfl ?_
          refine v_iret hX hQ rfl rfl ?_ ?_ 43 rfl
          · first | (rw [he3]; simp [snE, hk3, c5, c45, c66]; done) | (rw [← he2]; simp [snE, hk3, c5, c45, c66]; done) | (first | rw [he3] | rw [← he2]); simp_all [snE]
          · rfl
        · skip
          refine v_iconst hX (v := 0) 40 rfl (by decide) ?_
          refine v_goto hX (tgt := 74) 41 rfl (by decide) ?_
          refine v_iret hX hQ rfl rfl ?_ ?_ 43 rfl
          · first | (rw [he3]; simp [snE, hk3, c5, c45, c66]; done) | (rw [← he2]; simp [snE, hk3, c5, c45, c66]; done) | (first | rw [he3] | rw [← he2]); simp_all [snE]
          · rfl
      · skip
        have hk3 : k < 8 := of_nle (a := 8) c45 (by omega) (by omega)
        refine v_lload_n hX 0 26 rfl rfl rfl ?_
        refine v_bipush hX (v := 8) 27 rfl (by decide) ?_
        refine v_iload_n hX 2 28 rfl rfl rfl ?_
        refine v_imul hX 29 rfl ?_
        refine v_lushr hX 30 rfl rfl ?_
        refine v_lconst hX (v := 0) 31 rfl rfl ?_
        refine v_lcmp hX 32 rfl ?_
        refine v_if_eq hX (tgt := 63) 33 rfl (by decide) (fun c56 => ?_) (fun c56 => ?_)
        · skip
          refine v_iconst hX (v := 0) 36 rfl (by decide) ?_
          refine v_istore_n hX 3 37 rfl rfl (Nat.le_of_ble_eq_true rfl) rfl ?_
          refine v_iload_n hX 3 38 rfl rfl rfl ?_
          refine v_if_eq hX (tgt := 73) 39 rfl (by decide) (fun c66 => ?_) (fun c66 => ?_)
          · skip
            refine v_iload_n hX 2 42 rfl rfl rfl ?_
            refine v_iret hX hQ rfl rfl ?_ ?_ 43 rfl
            · first | (rw [he3]; simp [snE, hk3, c5, c45, c56, c66]; done) | (rw [← he2]; simp [snE, hk3, c5, c45, c56, c66]; done) | (first | rw [he3] | rw [← he2]); simp_all [snE]
            · rfl
          · skip
            refine v_iconst hX (v := 0) 40 rfl (by decide) ?_
            refine v_goto hX (tgt := 74) 41 rfl (by decide) ?_
            refine v_iret hX hQ rfl rfl ?_ ?_ 43 rfl
            · first | (rw [he3]; simp [snE, hk3, c5, c45, c56, c66]; done) | (rw [← he2]; simp [snE, hk3, c5, c45, c56, c66]; done) | (first | rw [he3] | rw [← he2]); simp_all [snE]
            · rfl
        · skip
          refine v_iconst hX (v := 1) 34 rfl (by decide) ?_
          refine v_goto hX (tgt := 64) 35 rfl (by decide) ?_
          refine v_istore_n hX 3 37 rfl rfl (Nat.le_of_ble_eq_true rfl) rfl ?_
          refine v_iload_n hX 3 38 rfl rfl rfl ?_
          refine v_if_eq hX (tgt := 73) 39 rfl (by decide) (fun c66 => ?_) (fun c66 => ?_)
          · skip
            refine v_iload_n hX 2 42 rfl rfl rfl ?_
            refine v_iret hX hQ rfl rfl ?_ ?_ 43 rfl
            · first | (rw [he3]; simp [snE, hk3, c5, c45, c56, c66]; done) | (rw [← he2]; simp [snE, hk3, c5, c45, c56, c66]; done) | (first | rw [he3] | rw [← he2]); simp_all [snE]
            · rfl
          · skip
            refine v_iconst hX (v := 0) 40 rfl (by decide) ?_
            refine v_goto hX (tgt := 74) 41 rfl (by decide) ?_
            refine v_iret hX hQ rfl rfl ?_ ?_ 43 rfl
            · first | (rw [he3]; simp [snE, hk3, c5, c45, c56, c66]; done) | (rw [← he2]; simp [snE, hk3, c5, c45, c56, c66]; done) | (first | rw [he3] | rw [← he2]); simp_all [snE]
            · rfl
    · skip
      have hk2 : k < 8 := of_nle (a := 8) c5 (by omega) (by omega)
      obtain ⟨f, hf⟩ : ∃ f, 8 - k = f + 1 := ⟨7 - k, by omega⟩
      have he3 : snL x (8 - k) k = if sgn x (nI k) = 0 then snE x k else if sgn x (nI k) < 33 ∨ ¬ sgn x (nI k) ≤ 126 then 0 else snL x (7 - k) (k + 1) := by rw [hf, snL, show 7 - k = f by omega]
      rw [he] at he3
      refine v_lload_n hX 0 5 rfl rfl rfl ?_
      refine v_iload_n hX 2 6 rfl rfl rfl ?_
      refine v_callS hX 2 (f_signOf) tw_549 tw_547 tw_548 tw_96 (by decide +kernel) ⟨⟨rfl, rfl⟩, Nat.le_of_ble_eq_true rfl, Nat.le_of_ble_eq_true rfl⟩ rfl (Nat.le_of_ble_eq_true rfl) rfl rfl 7 rfl ?_
      refine v_if_eq hX (tgt := 42) 8 rfl (by decide) (fun c13 => ?_) (fun c13 => ?_)
      · skip
        rw [if_pos c13] at he3
        refine v_iload_n hX 2 23 rfl rfl rfl ?_
        refine v_bipush hX (v := 8) 24 rfl (by decide) ?_
        refine v_icmp_ge hX (tgt := 63) 25 rfl (by decide) (fun c45 => ?_) (fun c45 => ?_)
        · skip
          have hk3 : ¬ k < 8 := by have := of_le (a := 8) c45 (by omega) (by omega); omega
          refine v_iconst hX (v := 0) 36 rfl (by decide) ?_
          refine v_istore_n hX 3 37 rfl rfl (Nat.le_of_ble_eq_true rfl) rfl ?_
          refine v_iload_n hX 3 38 rfl rfl rfl ?_
          refine v_if_eq hX (tgt := 73) 39 rfl (by decide) (fun c66 => ?_) (fun c66 => ?_)
          · skip
            refine v_iload_n hX 2 42 rfl rfl rfl ?_
            refine v_iret hX hQ rfl rfl ?_ ?_ 43 rfl
            · first | (rw [he3]; simp [snE, hk3, c5, c13, c45, c66]; done) | (rw [← he2]; simp [snE, hk3, c5, c13, c45, c66]; done) | (first | rw [he3] | rw [← he2]); simp_all [snE]
            · rfl
          · skip
            refine v_iconst hX (v := 0) 40 rfl (by decide) ?_
            refine v_goto hX (tgt := 74) 41 rfl (by decide) ?_
            refine v_iret hX hQ rfl rfl ?_ ?_ 43 rfl
            · first | (rw [he3]; simp [snE, hk3, c5, c13, c45, c66]; done) | (rw [← he2]; simp [snE, hk3, c5, c13, c45, c66]; done) | (first | rw [he3] | rw [← he2]); simp_all [snE]
            · rfl
        · skip
          have hk3 : k < 8 := of_nle (a := 8) c45 (by omega) (by omega)
          refine v_lload_n hX 0 26 rfl rfl rfl ?_
          refine v_bipush hX (v := 8) 27 rfl (by decide) ?_
          refine v_iload_n hX 2 28 rfl rfl rfl ?_
          refine v_imul hX 29 rfl ?_
          refine v_lushr hX 30 rfl rfl ?_
          refine v_lconst hX (v := 0) 31 rfl rfl ?_
          refine v_lcmp hX 32 rfl ?_
          refine v_if_eq hX (tgt := 63) 33 rfl (by decide) (fun c56 => ?_) (fun c56 => ?_)
          · skip
            refine v_iconst hX (v := 0) 36 rfl (by decide) ?_
            refine v_istore_n hX 3 37 rfl rfl (Nat.le_of_ble_eq_true rfl) rfl ?_
            refine v_iload_n hX 3 38 rfl rfl rfl ?_
            refine v_if_eq hX (tgt := 73) 39 rfl (by decide) (fun c66 => ?_) (fun c66 => ?_)
            · skip
              refine v_iload_n hX 2 42 rfl rfl rfl ?_
              refine v_iret hX hQ rfl rfl ?_ ?_ 43 rfl
              · first | (rw [he3]; simp [snE, hk3, c5, c13, c45, c56, c66]; done) | (rw [← he2]; simp [snE, hk3, c5, c13, c45, c56, c66]; done) | (first | rw [he3] | rw [← he2]); simp_all [snE]
              · rfl
            · skip
              refine v_iconst hX (v := 0) 40 rfl (by decide) ?_
              refine v_goto hX (tgt := 74) 41 rfl (by decide) ?_
              refine v_iret hX hQ rfl rfl ?_ ?_ 43 rfl
              · first | (rw [he3]; simp [snE, hk3, c5, c13, c45, c56, c66]; done) | (rw [← he2]; simp [snE, hk3, c5, c13, c45, c56, c66]; done) | (first | rw [he3] | rw [← he2]); simp_all [snE]
              · rfl
          · skip
            refine v_iconst hX (v := 1) 34 rfl (by decide) ?_
            refine v_goto hX (tgt := 64) 35 rfl (by decide) ?_
            refine v_istore_n hX 3 37 rfl rfl (Nat.le_of_ble_eq_true rfl) rfl ?_
            refine v_iload_n hX 3 38 rfl rfl rfl ?_
            refine v_if_eq hX (tgt := 73) 39 rfl (by decide) (fun c66 => ?_) (fun c66 => ?_)
            · skip
              refine v_iload_n hX 2 42 rfl rfl rfl ?_
              refine v_iret hX hQ rfl rfl ?_ ?_ 43 rfl
              · first | (rw [he3]; simp [snE, hk3, c5, c13, c45, c56, c66]; done) | (rw [← he2]; simp [snE, hk3, c5, c13, c45, c56, c66]; done) | (first | rw [he3] | rw [← he2]); simp_all [snE]
              · rfl
            · skip
              refine v_iconst hX (v := 0) 40 rfl (by decide) ?_
              refine v_goto hX (tgt := 74) 41 rfl (by decide) ?_
              refine v_iret hX hQ rfl rfl ?_ ?_ 43 rfl
              · first | (rw [he3]; simp [snE, hk3, c5, c13, c45, c56, c66]; done) | (rw [← he2]; simp [snE, hk3, c5, c13, c45, c56, c66]; done) | (first | rw [he3] | rw [← he2]); simp_all [snE]
              · rfl
      · skip
        rw [if_neg c13] at he3
        refine v_lload_n hX 0 9 rfl rfl rfl ?_
        refine v_iload_n hX 2 10 rfl rfl rfl ?_
        refine v_callS hX 2 (f_signOf) tw_549 tw_547 tw_548 tw_96 (by decide +kernel) ⟨⟨rfl, rfl⟩, Nat.le_of_ble_eq_true rfl, Nat.le_of_ble_eq_true rfl⟩ rfl (Nat.le_of_ble_eq_true rfl) rfl rfl 11 rfl ?_
        refine v_istore_n hX 3 12 rfl rfl (Nat.le_of_ble_eq_true rfl) rfl ?_
        refine v_iload_n hX 3 13 rfl rfl rfl ?_
        refine v_bipush hX (v := 33) 14 rfl (by decide) ?_
        refine v_icmp_lt hX (tgt := 34) 15 rfl (by decide) (fun c25 => ?_) (fun c25 => ?_)
        · skip
          rw [if_pos (Or.inl c25)] at he3
          refine v_iconst hX (v := 0) 19 rfl (by decide) ?_
          refine v_iret hX hQ rfl rfl ?_ ?_ 20 rfl
          · rw [he3]
          · rfl
        · skip
          refine v_iload_n hX 3 16 rfl rfl rfl ?_
          refine v_bipush hX (v := 126) 17 rfl (by decide) ?_
          refine v_icmp_le hX (tgt := 36) 18 rfl (by decide) (fun c31 => ?_) (fun c31 => ?_)
          · skip
            rw [if_neg (fun h => h.elim c25 (fun h => h c31))] at he3
            refine v_iinc hX 21 rfl rfl (nI_inc k) (Nat.le_of_ble_eq_true rfl) rfl ?_
            refine v_goto hX (tgt := 2) 22 rfl (by decide) ?_
            exact V.sub (ih hk2 (by rw [he3, show 8 - (k + 1) = 7 - k by omega])) rfl ⟨rfl, rfl, trivial⟩
          · skip
            rw [if_pos (Or.inr c31)] at he3
            refine v_iconst hX (v := 0) 19 rfl (by decide) ?_
            refine v_iret hX hQ rfl rfl ?_ ?_ 20 rfl
            · rw [he3]
            · rfl
  exact V.sub (lp 0 (Nat.zero_le _) rfl) rfl ⟨rfl, rfl, trivial⟩
set_option maxRecDepth 100000 in
set_option maxHeartbeats 4000000 in
theorem f_append {Y : Yt} {M : Mm} {l : Nat} {c : Int32} (hl : l < 80) (hz : M.1 30 1 = nI l) : Fn Y yX3_append wsX3_append { frames := 0, cells := 0, slots := 0, locals := 0 } [.ref (Y.2.2.2 30), .int c] M none ((mset (mset M 31 l (vp_nar .char c)) 30 1 (nI (l + 1)))) := by
  refine Fn.of (cc := cX3_append) (ins := iX3_append) (maxL := 2) (ret := none) (by decide) dX3_append [some (.ref (Y.2.2.2 30)), some (.int c)] (Nat.le_of_ble_eq_true rfl) rfl rfl ?_
  intro X hX hQ
  refine v_aload_n hX 0 0 rfl rfl rfl ?_
  refine g_3_1 hX 1  tw_203 rfl ?_
  refine v_if_lt hX (tgt := 39) 2 rfl (by decide) (fun c4 => absurd c4 (by rw [hz]; exact nI_nlt (Nat.zero_le _) (by omega))) (fun c4 => ?_)
  refine v_aload_n hX 0 3 rfl rfl rfl ?_
  refine g_3_1 hX 4  tw_203 rfl ?_
  refine v_aload_n hX 0 5 rfl rfl rfl ?_
  refine g_3_0 hX 6  tw_202 rfl ?_
  refine v_alen hX (v := nI 80) (k := 31) (t0 := 0) (by decide) rfl rfl rfl 7 rfl ?_
  refine v_icmp_ge hX (tgt := 39) 8 rfl (by decide) (fun c16 => absurd c16 (by rw [hz]; exact nI_ge hl (by decide))) (fun c16 => ?_)
  refine v_aload_n hX 0 9 rfl rfl rfl ?_
  refine g_3_0 hX 10  tw_202 rfl ?_
  refine v_aload_n hX 0 11 rfl rfl rfl ?_
  refine g_3_1 hX 12  tw_203 rfl ?_
  refine v_iload_n hX 1 13 rfl rfl rfl ?_
  rw [hz]
  refine v_cast hX (k := 31) (by decide) rfl rfl (vp_in_nI hl (by decide)) rfl 14 rfl ?_
  rw [nI_clamp (by omega)]
  refine v_aload_n hX 0 15 rfl rfl rfl ?_
  refine v_dup hX 16 rfl rfl ?_
  refine g_3_1 hX 17  tw_203 rfl ?_
  refine v_iconst hX (v := 1) 18 rfl (by decide) ?_
  refine v_iadd hX 19 rfl ?_
  refine p_3_1 hX 20   tw_203 rfl ?_
  refine v_vret hX hQ rfl rfl ?_ 21 rfl
  rw [mset_n (by decide), hz, nI_1]
set_option maxRecDepth 100000 in
set_option maxHeartbeats 4000000 in
theorem f_signAt_in {Y : Yt} {M : Mm} {l a : Nat} (ha : a < l) (hl : l ≤ 80) (hz : M.1 30 1 = nI l) (hc : isCh M l) : Fn Y yX3_signAt wsX3_signAt { frames := 0, cells := 0, slots := 0, locals := 0 } [.ref (Y.2.2.2 30), .int (nI a)] M (some (.int (M.1 31 a))) M := by
  refine Fn.of (cc := cX3_signAt) (ins := iX3_signAt) (maxL := 2) (ret := (some .char)) (by decide) dX3_signAt [some (.ref (Y.2.2.2 30)), some (.int (nI a))] (Nat.le_of_ble_eq_true rfl) rfl rfl ?_
  intro X hX hQ
  refine v_iload_n hX 1 0 rfl rfl rfl ?_
  refine v_if_lt hX (tgt := 30) 1 rfl (by decide) (fun c1 => absurd c1 (nI_nlt (Nat.zero_le _) (by omega))) (fun c1 => ?_)
  refine v_iload_n hX 1 2 rfl rfl rfl ?_
  refine v_aload_n hX 0 3 rfl rfl rfl ?_
  refine g_3_1 hX 4  tw_203 rfl ?_
  refine v_icmp_ge hX (tgt := 30) 5 rfl (by decide) (fun c9 => absurd c9 (by rw [hz]; exact nI_ge ha (by omega))) (fun c9 => ?_)
  refine v_iload_n hX 1 6 rfl rfl rfl ?_
  refine v_aload_n hX 0 7 rfl rfl rfl ?_
  refine g_3_0 hX 8  tw_202 rfl ?_
  refine v_alen hX (v := nI 80) (k := 31) (t0 := 0) (by decide) rfl rfl rfl 9 rfl ?_
  refine v_icmp_ge hX (tgt := 30) 10 rfl (by decide) (fun c18 => absurd c18 (nI_ge (show a < 80 by omega) (by decide))) (fun c18 => ?_)
  refine v_aload_n hX 0 11 rfl rfl rfl ?_
  refine g_3_0 hX 12  tw_202 rfl ?_
  refine v_iload_n hX 1 13 rfl rfl rfl ?_
  refine v_cald hX (k := 31) (by decide) rfl (vp_in_nI (by omega) (by decide)) 14 rfl ?_
  rw [nI_clamp (by omega)]
  refine v_goto hX (tgt := 31) 15 rfl (by decide) ?_
  refine v_iret hX hQ rfl (hc a ha).1 ?_ ?_ 17 rfl
  · rfl
  · rfl
set_option maxRecDepth 100000 in
set_option maxHeartbeats 4000000 in
theorem f_signAt_out {Y : Yt} {M : Mm} {l a : Nat} (ha : l ≤ a) (ha2 : a < 2 ^ 31) (hz : M.1 30 1 = nI l) : Fn Y yX3_signAt wsX3_signAt { frames := 0, cells := 0, slots := 0, locals := 0 } [.ref (Y.2.2.2 30), .int (nI a)] M (some (.int 0)) M := by
  refine Fn.of (cc := cX3_signAt) (ins := iX3_signAt) (maxL := 2) (ret := (some .char)) (by decide) dX3_signAt [some (.ref (Y.2.2.2 30)), some (.int (nI a))] (Nat.le_of_ble_eq_true rfl) rfl rfl ?_
  intro X hX hQ
  refine v_iload_n hX 1 0 rfl rfl rfl ?_
  refine v_if_lt hX (tgt := 30) 1 rfl (by decide) (fun c1 => absurd c1 (nI_nlt (Nat.zero_le _) ha2)) (fun c1 => ?_)
  refine v_iload_n hX 1 2 rfl rfl rfl ?_
  refine v_aload_n hX 0 3 rfl rfl rfl ?_
  refine g_3_1 hX 4  tw_203 rfl ?_
  refine v_icmp_ge hX (tgt := 30) 5 rfl (by decide) (fun c9 => ?_) (fun c9 => absurd (by rw [hz]; exact nI_le ha ha2) c9)
  refine v_iconst hX (v := 0) 16 rfl (by decide) ?_
  refine v_iret hX hQ rfl rfl ?_ ?_ 17 rfl
  · rfl
  · rfl
theorem f_signAt {Y : Yt} {M : Mm} {l a : Nat} (ha : a < 2 ^ 31) (hl : l ≤ 80) (hz : M.1 30 1 = nI l) (hc : isCh M l) : Fn Y yX3_signAt wsX3_signAt { frames := 0, cells := 0, slots := 0, locals := 0 } [.ref (Y.2.2.2 30), .int (nI a)] M (some (.int (chA (M.1 31) l a))) M := by
  unfold chA
  by_cases h : a < l
  · rw [if_pos h]; exact f_signAt_in h hl hz hc
  · rw [if_neg h]; exact f_signAt_out (by omega) ha hz
