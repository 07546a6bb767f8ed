set_option maxRecDepth 100000 in
set_option maxHeartbeats 4000000 in
theorem f_addT_no {Y : Yt} {M : Mm} {t x y : Int32} (ht : t < 0 ∨ nI 24 ≤ t) : Fn Y yX1_addToTarget wsX1_addToTarget { frames := 1, cells := 0, slots := 0, locals := 24 } [.ref (Y.2.2.2.1 27), .int t, .int x, .int y] M none M := by
  refine Fn.of (cc := cX1_addToTarget) (ins := iX1_addToTarget) (maxL := 4) (ret := none) (by decide) dX1_addToTarget [some (.ref (Y.2.2.2.1 27)), some (.int t), some (.int x), some (.int y)] (Nat.le_of_ble_eq_true rfl) rfl rfl ?_
  intro X hX hQ
  refine v_iload_n hX 1 0 rfl rfl rfl ?_
  refine v_if_lt hX (tgt := 58) 1 rfl (by decide) (fun c1 => ?_) (fun c1 => ?_)
  · skip
    refine v_vret hX hQ rfl rfl ?_ 34 rfl
    rfl
  · skip
    refine v_iload_n hX 1 2 rfl rfl rfl ?_
    refine v_aload_n hX 0 3 rfl rfl rfl ?_
    refine g_1_0 hX 4  tw_134 rfl ?_
    refine v_alen hX (v := nI 24) (k := 28) (t0 := 1) (by decide) rfl rfl rfl 5 rfl ?_
    refine v_icmp_ge hX (tgt := 58) 6 rfl (by decide) (fun c10 => ?_) (fun c10 => absurd (ht.resolve_left c1) c10)
    refine v_vret hX hQ rfl rfl ?_ 34 rfl
    rfl
set_option maxRecDepth 100000 in
set_option maxHeartbeats 4000000 in
theorem f_addT {Y : Yt} {M : Mm} {t : Nat} {x y : Int32} (ht : t < 24) : Fn Y yX1_addToTarget wsX1_addToTarget { frames := 1, cells := 0, slots := 0, locals := 24 } [.ref (Y.2.2.2.1 27), .int (nI t), .int x, .int y] M none ((mset (mset M 28 t (imin (M.1 28 t) y)) 29 t (imin 1000 (M.1 29 t + x)))) := by
  refine Fn.of (cc := cX1_addToTarget) (ins := iX1_addToTarget) (maxL := 4) (ret := none) (by decide) dX1_addToTarget [some (.ref (Y.2.2.2.1 27)), some (.int (nI t)), some (.int x), some (.int y)] (Nat.le_of_ble_eq_true rfl) rfl rfl ?_
  intro X hX hQ
  refine v_iload_n hX 1 0 rfl rfl rfl ?_
  refine v_if_lt hX (tgt := 58) 1 rfl (by decide) (fun c1 => absurd c1 (nI_nlt (Nat.zero_le _) (by omega))) (fun c1 => ?_)
  refine v_iload_n hX 1 2 rfl rfl rfl ?_
  refine v_aload_n hX 0 3 rfl rfl rfl ?_
  refine g_1_0 hX 4  tw_134 rfl ?_
  refine v_alen hX (v := nI 24) (k := 28) (t0 := 1) (by decide) rfl rfl rfl 5 rfl ?_
  refine v_icmp_ge hX (tgt := 58) 6 rfl (by decide) (fun c10 => absurd c10 (nI_ge (show t < 24 by omega) (by decide))) (fun c10 => ?_)
  refine v_iload_n hX 1 7 rfl rfl rfl ?_
  refine v_aload_n hX 0 8 rfl rfl rfl ?_
  refine g_1_1 hX 9  tw_135 rfl ?_
  refine v_alen hX (v := nI 24) (k := 29) (t0 := 1) (by decide) rfl rfl rfl 10 rfl ?_
  refine v_icmp_ge hX (tgt := 58) 11 rfl (by decide) (fun c19 => absurd c19 (nI_ge (show t < 24 by omega) (by decide))) (fun c19 => ?_)
  refine v_aload_n hX 0 12 rfl rfl rfl ?_
  refine g_1_0 hX 13  tw_134 rfl ?_
  refine v_iload_n hX 1 14 rfl rfl rfl ?_
  refine v_aload_n hX 0 15 rfl rfl rfl ?_
  refine g_1_0 hX 16  tw_134 rfl ?_
  refine v_iload_n hX 1 17 rfl rfl rfl ?_
  refine v_iald hX (k := 28) (by decide) rfl (vp_in_nI (by omega) (by decide)) 18 rfl ?_
  refine v_iload_n hX 3 19 rfl rfl rfl ?_
  refine v_mmin hX tw_463 tw_464 tw_47 tw_465 (Nat.le_of_ble_eq_true rfl) (Nat.le_of_ble_eq_true rfl) rfl 20 rfl ?_
  refine v_iast hX (k := 28) (by decide) rfl rfl (vp_in_nI (by omega) (by decide)) rfl 21 rfl ?_
  refine v_aload_n hX 0 22 rfl rfl rfl ?_
  refine g_1_1 hX 23  tw_135 rfl ?_
  refine v_iload_n hX 1 24 rfl rfl rfl ?_
  refine v_sipush hX (v := 1000) 25 rfl (by decide) ?_
  refine v_aload_n hX 0 26 rfl rfl rfl ?_
  refine g_1_1 hX 27  tw_135 rfl ?_
  refine v_iload_n hX 1 28 rfl rfl rfl ?_
  refine v_iald hX (k := 29) (by decide) rfl (vp_in_nI (by omega) (by decide)) 29 rfl ?_
  refine v_iload_n hX 2 30 rfl rfl rfl ?_
  refine v_iadd hX 31 rfl ?_
  refine v_mmin hX tw_463 tw_464 tw_47 tw_465 (Nat.le_of_ble_eq_true rfl) (Nat.le_of_ble_eq_true rfl) rfl 32 rfl ?_
  refine v_iast hX (k := 29) (by decide) rfl rfl (vp_in_nI (by omega) (by decide)) rfl 33 rfl ?_
  refine v_vret hX hQ rfl rfl ?_ 34 rfl
  rw [nI_clamp (by omega), mset_n (by decide)]; rfl
set_option maxRecDepth 100000 in
set_option maxHeartbeats 4000000 in
theorem f_reachable {Y : Yt} {M : Mm} {x : Int32} : Fn Y yX1_reachable wsX1_reachable { frames := 0, cells := 0, slots := 0, locals := 0 } [.int x] M (some (.int (if x < 1000 then x else -6))) M := by
  refine Fn.of (cc := cX1_reachable) (ins := iX1_reachable) (maxL := 1) (ret := (some .int)) (by decide) dX1_reachable [some (.int x)] (Nat.le_of_ble_eq_true rfl) rfl rfl ?_
  intro X hX hQ
  refine v_iload_n hX 0 0 rfl rfl rfl ?_
  refine v_sipush hX (v := 1000) 1 rfl (by decide) ?_
  refine v_icmp_lt hX (tgt := 12) 2 rfl (by decide) (fun c4 => ?_) (fun c4 => ?_)
  · skip
    refine v_iload_n hX 0 5 rfl rfl rfl ?_
    refine v_iret hX hQ rfl rfl ?_ ?_ 6 rfl
    · simp only [c4, if_true, if_false]
    · rfl
  · skip
    refine v_bipush hX (v := (-6)) 3 rfl (by decide) ?_
    refine v_goto hX (tgt := 13) 4 rfl (by decide) ?_
    refine v_iret hX hQ rfl rfl ?_ ?_ 6 rfl
    · simp only [c4, if_true, if_false]
    · rfl
set_option maxRecDepth 100000 in
set_option maxHeartbeats 4000000 in
theorem f_ansFall {Y : Yt} {M : Mm} {i : Nat} (hi : i < 24) : Fn Y yX1_answersToFall wsX1_answersToFall { frames := 1, cells := 0, slots := 0, locals := 20 } [.ref (Y.2.2.2.1 27), .int (nI i)] M (some (.int (if M.1 28 i < 1000 then M.1 28 i else -6))) M := by
  refine Fn.of (cc := cX1_answersToFall) (ins := iX1_answersToFall) (maxL := 2) (ret := (some .int)) (by decide) dX1_answersToFall [some (.ref (Y.2.2.2.1 27)), some (.int (nI i))] (Nat.le_of_ble_eq_true rfl) rfl rfl ?_
  intro X hX hQ
  refine v_iload_n hX 1 0 rfl rfl rfl ?_
  refine v_if_lt hX (tgt := 22) 1 rfl (by decide) (fun c1 => absurd c1 (nI_nlt (Nat.zero_le _) (by omega))) (fun c1 => ?_)
  refine v_iload_n hX 1 2 rfl rfl rfl ?_
  refine v_aload_n hX 0 3 rfl rfl rfl ?_
  refine g_1_0 hX 4  tw_134 rfl ?_
  refine v_alen hX (v := nI 24) (k := 28) (t0 := 1) (by decide) rfl rfl rfl 5 rfl ?_
  refine v_icmp_ge hX (tgt := 22) 6 rfl (by decide) (fun c10 => absurd c10 (nI_ge hi (by decide))) (fun c10 => ?_)
  refine v_aload_n hX 0 7 rfl rfl rfl ?_
  refine g_1_0 hX 8  tw_134 rfl ?_
  refine v_iload_n hX 1 9 rfl rfl rfl ?_
  refine v_iald hX (k := 28) (by decide) rfl (vp_in_nI (by omega) (by decide)) 10 rfl ?_
  refine v_goto hX (tgt := 25) 11 rfl (by decide) ?_
  rw [nI_clamp (by omega)]
  refine v_callS hX 1 (f_reachable) tw_478 tw_476 tw_477 tw_42 (by decide +kernel) ⟨⟨rfl, rfl⟩, Nat.le_of_ble_eq_true rfl, Nat.le_of_ble_eq_true rfl⟩ rfl (Nat.le_of_ble_eq_true rfl) rfl rfl 13 rfl ?_
  refine v_iret hX hQ rfl rfl ?_ ?_ 14 rfl
  · rfl
  · rfl
set_option maxRecDepth 100000 in
set_option maxHeartbeats 4000000 in
theorem f_ansStand {Y : Yt} {M : Mm} {i : Nat} (hi : i < 24) : Fn Y yX1_answersToStand wsX1_answersToStand { frames := 1, cells := 0, slots := 0, locals := 20 } [.ref (Y.2.2.2.1 27), .int (nI i)] M (some (.int (if M.1 29 i < 1000 then M.1 29 i else -6))) M := by
  refine Fn.of (cc := cX1_answersToStand) (ins := iX1_answersToStand) (maxL := 2) (ret := (some .int)) (by decide) dX1_answersToStand [some (.ref (Y.2.2.2.1 27)), some (.int (nI i))] (Nat.le_of_ble_eq_true rfl) rfl rfl ?_
  intro X hX hQ
  refine v_iload_n hX 1 0 rfl rfl rfl ?_
  refine v_if_lt hX (tgt := 22) 1 rfl (by decide) (fun c1 => absurd c1 (nI_nlt (Nat.zero_le _) (by omega))) (fun c1 => ?_)
  refine v_iload_n hX 1 2 rfl rfl rfl ?_
  refine v_aload_n hX 0 3 rfl rfl rfl ?_
  refine g_1_1 hX 4  tw_135 rfl ?_
  refine v_alen hX (v := nI 24) (k := 29) (t0 := 1) (by decide) rfl rfl rfl 5 rfl ?_
  refine v_icmp_ge hX (tgt := 22) 6 rfl (by decide) (fun c10 => absurd c10 (nI_ge hi (by decide))) (fun c10 => ?_)
  refine v_aload_n hX 0 7 rfl rfl rfl ?_
  refine g_1_1 hX 8  tw_135 rfl ?_
  refine v_iload_n hX 1 9 rfl rfl rfl ?_
  refine v_iald hX (k := 29) (by decide) rfl (vp_in_nI (by omega) (by decide)) 10 rfl ?_
  refine v_goto hX (tgt := 25) 11 rfl (by decide) ?_
  rw [nI_clamp (by omega)]
  refine v_callS hX 1 (f_reachable) tw_478 tw_476 tw_477 tw_42 (by decide +kernel) ⟨⟨rfl, rfl⟩, Nat.le_of_ble_eq_true rfl, Nat.le_of_ble_eq_true rfl⟩ rfl (Nat.le_of_ble_eq_true rfl) rfl rfl 13 rfl ?_
  refine v_iret hX hQ rfl rfl ?_ ?_ 14 rfl
  · rfl
  · rfl
set_option maxRecDepth 100000 in
set_option maxHeartbeats 4000000 in
theorem f_weigh {Y : Yt} {M : Mm} {b n : Nat} (hb : isB b) (hz : M.1 b 1 = nI n) (hn : n ≤ 24) (hw : WF (cp M b) n) : Fn Y yX1_weigh wsX1_weigh { frames := 3, cells := 0, slots := 0, locals := 66 } [.ref (Y.2.2.2.1 27), .ref (Y.2.2.2.1 b)] M none ((wM M (wAll (cp M b) (bOut M b) (naP (cp M b) n) n (wI M 24) 24))) := by
  have hb1 := isB_no hb (show 0 < 26 by decide)
  refine Fn.of (cc := cX1_weigh) (ins := iX1_weigh) (maxL := 7) (ret := none) (by decide) dX1_weigh [some (.ref (Y.2.2.2.1 27)), some (.ref (Y.2.2.2.1 b)), none, none, none, none, none] (Nat.le_of_ble_eq_true rfl) rfl rfl ?_
  intro X hX hQ
  refine v_aload_n hX 1 0 rfl rfl rfl ?_
  refine v_callVN hX 0 (by have := isB_lt hb; omega) (cG_B hb) rfl (f_out hb hz hn hw) tw_291 (List.mem_of_getElem? (i := 35) rfl) tw_40 tw_290 tw_14 (by decide +kernel) ⟨⟨rfl, rfl⟩, Nat.le_of_ble_eq_true rfl, Nat.le_of_ble_eq_true rfl⟩ rfl (Nat.le_of_ble_eq_true rfl) rfl rfl 1 rfl ?_
  refine v_istore_n hX 2 2 rfl rfl (Nat.le_of_ble_eq_true rfl) rfl ?_
  refine v_aload_n hX 1 3 rfl rfl rfl ?_
  refine v_callVN hX 0 (by have := isB_lt hb; omega) (cG_B hb) rfl (f_withoutAnswers hb hz hn) tw_452 (List.mem_of_getElem? (i := 36) rfl) tw_40 tw_451 tw_33 (by decide +kernel) ⟨⟨rfl, rfl⟩, Nat.le_of_ble_eq_true rfl, Nat.le_of_ble_eq_true rfl⟩ rfl (Nat.le_of_ble_eq_true rfl) rfl rfl 4 rfl ?_
  rw [wa_mk hw hn]
  refine v_istore_n hX 3 5 rfl rfl (Nat.le_of_ble_eq_true rfl) rfl ?_
  refine v_aload_n hX 0 6 rfl rfl rfl ?_
  refine g_1_0 hX 7  tw_134 rfl ?_
  refine v_alen hX (v := nI 24) (k := 28) (t0 := 1) (by decide) rfl rfl rfl 8 rfl ?_
  refine v_aload_n hX 0 9 rfl rfl rfl ?_
  refine g_1_1 hX 10  tw_135 rfl ?_
  refine v_alen hX (v := nI 24) (k := 29) (t0 := 1) (by decide) rfl rfl rfl 11 rfl ?_
  refine v_mmin hX tw_463 tw_464 tw_47 tw_465 (Nat.le_of_ble_eq_true rfl) (Nat.le_of_ble_eq_true rfl) rfl 12 rfl ?_
  rw [show (if nI 24 < nI 24 then nI 24 else nI 24) = nI 24 from if_neg (by decide)]
  refine v_istore hX 13 rfl (Nat.le_of_ble_eq_true rfl) rfl ?_
  refine v_iconst hX (v := 0) 14 rfl (by decide) ?_
  refine v_istore hX 15 rfl (Nat.le_of_ble_eq_true rfl) rfl ?_
  have lp : ∀ (k : Nat), k ≤ 24 → V Y X (wM M (wI M k)) 28 [some (.ref (Y.2.2.2.1 27)), some (.ref (Y.2.2.2.1 b)), some (.int (mk (bOut M b) n)), some (.int (mk (naP (cp M b) n) n)), some (.int (nI 24)), some (.int (nI k)), none] [] := by
    refine upTo 24 (fun k hk ih => ?_)
    refine v_iload hX 16 rfl rfl ?_
    refine v_iload hX 17 rfl rfl ?_
    refine v_icmp_ge hX (tgt := 59) 18 rfl (by decide) (fun c32 => ?_) (fun c32 => ?_)
    · skip
      have hk2 : k = 24 := by have := of_le (a := 24) c32 (by omega) (by omega); omega
      subst hk2
      refine v_iload hX 31 rfl rfl ?_
      refine v_iconst hX (v := 1) 32 rfl (by decide) ?_
      refine v_isub hX 33 rfl ?_
      refine v_istore hX 34 rfl (Nat.le_of_ble_eq_true rfl) rfl ?_
      have lq : ∀ (m : Nat), m ≤ 24 → V Y X (wM M (wAll (cp M b) (bOut M b) (naP (cp M b) n) n (wI M 24) (24 - m))) 65 [some (.ref (Y.2.2.2.1 27)), some (.ref (Y.2.2.2.1 b)), some (.int (mk (bOut M b) n)), some (.int (mk (naP (cp M b) n) n)), some (.int (nI 24)), some (.int (nI m - 1)), none] [] := by
        refine downTo (fun m ihq => ?_)
        intro hm24
        rcases Nat.eq_zero_or_pos m with h0 | h0
        · skip
          subst h0
          refine v_iload hX 35 rfl rfl ?_
          refine v_if_lt hX (tgt := 162) 36 rfl (by decide) (fun c67 => ?_) (fun c67 => absurd (by decide) c67)
          refine v_vret hX hQ rfl rfl ?_ 82 rfl
          rfl
        · skip
          obtain ⟨m, rfl⟩ : ∃ m2, m = m2 + 1 := ⟨m - 1, by omega⟩
          rw [nI_pred]
          have e24 : 24 - (m + 1) = 23 - m := by omega
          have e25 : 24 - m = 23 - m + 1 := by omega
          rw [e24]
          have hzw : (wM M (wAll (cp M b) (bOut M b) (naP (cp M b) n) n (wI M 24) (23 - m))).1 b 1 = nI n := by rw [wM_n (by omega)]; exact hz
          have em : 23 - (23 - m) = m := by omega
          refine v_iload hX 35 rfl rfl ?_
          refine v_if_lt hX (tgt := 162) 36 rfl (by decide) (fun c67 => absurd c67 (nI_nlt (Nat.zero_le _) (by omega))) (fun c67 => ?_)
          refine v_aload_n hX 1 37 rfl rfl rfl ?_
          refine v_iload hX 38 rfl rfl ?_
          rcases Nat.lt_or_ge m n with hm | hm
          · skip
            have hW : wAll (cp M b) (bOut M b) (naP (cp M b) n) n (wI M 24) (23 - m + 1) = wStep (cp M b) (bOut M b) (naP (cp M b) n) m (wAll (cp M b) (bOut M b) (naP (cp M b) n) n (wI M 24) (23 - m)) := by rw [wAll, em, if_pos hm]
            refine v_callVN hX 1 (by have := isB_lt hb; omega) (cG_B hb) rfl (f_find_in hb hzw hn hm) tw_232 (List.mem_of_getElem? (i := 37) rfl) tw_40 tw_231 tw_3 (by decide +kernel) ⟨⟨rfl, rfl⟩, Nat.le_of_ble_eq_true rfl, Nat.le_of_ble_eq_true rfl⟩ rfl (Nat.le_of_ble_eq_true rfl) rfl rfl 39 rfl ?_
            refine v_astore hX 40 rfl (Nat.le_of_ble_eq_true rfl) rfl ?_
            refine v_aload hX 41 rfl rfl ?_
            refine v_ifnonnull hX (tgt := 86) 42 rfl (by decide) ?_
            refine v_iload_n hX 2 44 rfl rfl rfl ?_
            refine v_iload hX 45 rfl rfl ?_
            refine v_callSN hX 2 (f_has) tw_314 (List.mem_of_getElem? (i := 38) rfl) tw_39 tw_313 (by decide +kernel) ⟨⟨rfl, rfl⟩, Nat.le_of_ble_eq_true rfl, Nat.le_of_ble_eq_true rfl⟩ rfl (Nat.le_of_ble_eq_true rfl) rfl rfl 46 rfl ?_
            refine v_if_eq hX (tgt := 116) 47 rfl (by decide) (fun c92 => ?_) (fun c92 => ?_)
            · skip
              have q1 := hasv_eq (by omega) c92
              rw [bt_mk _ (by omega) (by omega), decide_eq_true hm, Bool.true_and] at q1
              refine v_iload_n hX 3 59 rfl rfl rfl ?_
              refine v_iload hX 60 rfl rfl ?_
              refine v_callSN hX 2 (f_has) tw_314 (List.mem_of_getElem? (i := 38) rfl) tw_39 tw_313 (by decide +kernel) ⟨⟨rfl, rfl⟩, Nat.le_of_ble_eq_true rfl, Nat.le_of_ble_eq_true rfl⟩ rfl (Nat.le_of_ble_eq_true rfl) rfl rfl 61 rfl ?_
              refine v_if_eq hX (tgt := 133) 62 rfl (by decide) (fun c122 => ?_) (fun c122 => ?_)
              · skip
                have q2 := hasv_eq (by omega) c122
                rw [bt_mk _ (by omega) (by omega), decide_eq_true hm, Bool.true_and] at q2
                have hS : wAll (cp M b) (bOut M b) (naP (cp M b) n) n (wI M 24) (23 - m) = wS1 (bOut M b) (naP (cp M b) n) m (wAll (cp M b) (bOut M b) (naP (cp M b) n) n (wI M 24) (23 - m)) := by unfold wS1; rw [if_neg (by rw [q1]; decide), if_neg (by rw [q2]; decide), if_neg (by rw [q1]; decide)]
                rw [hS]
                rcases (hw m hm).2.1 with et | ⟨t, ht, et⟩
                · skip
                  have hW2 : wStep (cp M b) (bOut M b) (naP (cp M b) n) m (wAll (cp M b) (bOut M b) (naP (cp M b) n) n (wI M 24) (23 - m)) = wS1 (bOut M b) (naP (cp M b) n) m (wAll (cp M b) (bOut M b) (naP (cp M b) n) n (wI M 24) (23 - m)) := by unfold wStep att; rw [if_pos et]
                  refine v_aload_n hX 0 68 rfl rfl rfl ?_
                  refine v_aload hX 69 rfl rfl ?_
                  refine gN_4_3 hX 70 hb (by omega) (List.mem_of_getElem? (i := 6) rfl) rfl ?_
                  rw [show (wM M (wS1 (bOut M b) (naP (cp M b) n) m (wAll (cp M b) (bOut M b) (naP (cp M b) n) n (wI M 24) (23 - m)))).1 (b + 2 + m) 3 = -6 by rw [wM_n (by have := isB_no hb (show 2 + m < 26 by omega); omega)]; exact et]
                  refine v_aload_n hX 0 71 rfl rfl rfl ?_
                  refine g_1_0 hX 72  tw_134 rfl ?_
                  refine v_iload hX 73 rfl rfl ?_
                  refine v_iald hX (k := 28) (by decide) rfl (vp_in_nI (by omega) (by decide)) 74 rfl ?_
                  refine v_aload_n hX 0 75 rfl rfl rfl ?_
                  refine g_1_1 hX 76  tw_135 rfl ?_
                  refine v_iload hX 77 rfl rfl ?_
                  refine v_iald hX (k := 29) (by decide) rfl (vp_in_nI (by omega) (by decide)) 78 rfl ?_
                  refine v_callV hX 3 (by decide) rfl rfl (f_addT_no (Or.inl (by decide))) tw_471 tw_468 tw_470 tw_35 tw_42 (by decide +kernel) ⟨⟨rfl, rfl⟩, Nat.le_of_ble_eq_true rfl, Nat.le_of_ble_eq_true rfl⟩ rfl (Nat.le_of_ble_eq_true rfl) rfl rfl 79 rfl ?_
                  refine v_iinc hX 80 rfl rfl (nI_dm m) (Nat.le_of_ble_eq_true rfl) rfl ?_
                  refine v_goto hX (tgt := 65) 81 rfl (by decide) ?_
                  refine V.subM (ihq m (by omega) (by omega)) ?_ rfl ⟨rfl, rfl, rfl, rfl, rfl, (by first | rfl | (refine congrArg (fun z : Int32 => some (Value.int z)) ?_; decide)), trivial⟩
                  rw [e25, hW, hW2]
                · skip
                  have hne : ¬ cp M b m 3 = -6 := by rw [et]; exact (by decide +kernel : ∀ t, t < 24 → ¬ nI t = -6) t (by omega)
                  have hW2 : wStep (cp M b) (bOut M b) (naP (cp M b) n) m (wAll (cp M b) (bOut M b) (naP (cp M b) n) n (wI M 24) (23 - m)) = att (nI t) ((wS1 (bOut M b) (naP (cp M b) n) m (wAll (cp M b) (bOut M b) (naP (cp M b) n) n (wI M 24) (23 - m))).1 m) ((wS1 (bOut M b) (naP (cp M b) n) m (wAll (cp M b) (bOut M b) (naP (cp M b) n) n (wI M 24) (23 - m))).2 m) (wS1 (bOut M b) (naP (cp M b) n) m (wAll (cp M b) (bOut M b) (naP (cp M b) n) n (wI M 24) (23 - m))) := by unfold wStep; rw [et]
                  rw [et] at hne
                  refine v_aload_n hX 0 68 rfl rfl rfl ?_
                  refine v_aload hX 69 rfl rfl ?_
                  refine gN_4_3 hX 70 hb (by omega) (List.mem_of_getElem? (i := 6) rfl) rfl ?_
                  rw [show (wM M (wS1 (bOut M b) (naP (cp M b) n) m (wAll (cp M b) (bOut M b) (naP (cp M b) n) n (wI M 24) (23 - m)))).1 (b + 2 + m) 3 = nI t by rw [wM_n (by have := isB_no hb (show 2 + m < 26 by omega); omega)]; exact et]
                  refine v_aload_n hX 0 71 rfl rfl rfl ?_
                  refine g_1_0 hX 72  tw_134 rfl ?_
                  refine v_iload hX 73 rfl rfl ?_
                  refine v_iald hX (k := 28) (by decide) rfl (vp_in_nI (by omega) (by decide)) 74 rfl ?_
                  refine v_aload_n hX 0 75 rfl rfl rfl ?_
                  refine g_1_1 hX 76  tw_135 rfl ?_
                  refine v_iload hX 77 rfl rfl ?_
                  refine v_iald hX (k := 29) (by decide) rfl (vp_in_nI (by omega) (by decide)) 78 rfl ?_
                  rw [nI_clamp (by omega)]
                  refine v_callV hX 3 (by decide) rfl rfl (f_addT (show t < 24 by omega)) tw_471 tw_468 tw_470 tw_35 tw_42 (by decide +kernel) ⟨⟨rfl, rfl⟩, Nat.le_of_ble_eq_true rfl, Nat.le_of_ble_eq_true rfl⟩ rfl (Nat.le_of_ble_eq_true rfl) rfl rfl 79 rfl ?_
                  refine v_iinc hX 80 rfl rfl (nI_dm m) (Nat.le_of_ble_eq_true rfl) rfl ?_
                  refine v_goto hX (tgt := 65) 81 rfl (by decide) ?_
                  refine V.subM (ihq m (by omega) (by omega)) ?_ rfl ⟨rfl, rfl, rfl, rfl, rfl, (by first | rfl | (refine congrArg (fun z : Int32 => some (Value.int z)) ?_; decide)), trivial⟩
                  rw [e25, hW, hW2, wM_r28, wM_r29, wM_28, wM_29]; unfold att; rw [if_neg hne, nI_clamp (by omega)]
              · skip
                have q2 := hasv_ne (by omega) c122
                rw [bt_mk _ (by omega) (by omega), decide_eq_true hm, Bool.true_and] at q2
                refine v_aload_n hX 0 63 rfl rfl rfl ?_
                refine g_1_0 hX 64  tw_134 rfl ?_
                refine v_iload hX 65 rfl rfl ?_
                refine v_iconst hX (v := 1) 66 rfl (by decide) ?_
                refine v_iast hX (k := 28) (by decide) rfl rfl (vp_in_nI (by omega) (by decide)) rfl 67 rfl ?_
                refine V.mem (M2 := wM M (upd (wAll (cp M b) (bOut M b) (naP (cp M b) n) n (wI M 24) (23 - m)).1 m 1, (wAll (cp M b) (bOut M b) (naP (cp M b) n) n (wI M 24) (23 - m)).2)) (by rw [nI_clamp (by omega), wM_28]) ?_
                have hS : (upd (wAll (cp M b) (bOut M b) (naP (cp M b) n) n (wI M 24) (23 - m)).1 m 1, (wAll (cp M b) (bOut M b) (naP (cp M b) n) n (wI M 24) (23 - m)).2) = wS1 (bOut M b) (naP (cp M b) n) m (wAll (cp M b) (bOut M b) (naP (cp M b) n) n (wI M 24) (23 - m)) := by unfold wS1; rw [if_neg (by rw [q1]; decide), if_pos q2, if_neg (by rw [q1]; decide)]
                rw [hS]
                rcases (hw m hm).2.1 with et | ⟨t, ht, et⟩
                · skip
                  have hW2 : wStep (cp M b) (bOut M b) (naP (cp M b) n) m (wAll (cp M b) (bOut M b) (naP (cp M b) n) n (wI M 24) (23 - m)) = wS1 (bOut M b) (naP (cp M b) n) m (wAll (cp M b) (bOut M b) (naP (cp M b) n) n (wI M 24) (23 - m)) := by unfold wStep att; rw [if_pos et]
                  refine v_aload_n hX 0 68 rfl rfl rfl ?_
                  refine v_aload hX 69 rfl rfl ?_
                  refine gN_4_3 hX 70 hb (by omega) (List.mem_of_getElem? (i := 6) rfl) rfl ?_
                  rw [show (wM M (wS1 (bOut M b) (naP (cp M b) n) m (wAll (cp M b) (bOut M b) (naP (cp M b) n) n (wI M 24) (23 - m)))).1 (b + 2 + m) 3 = -6 by rw [wM_n (by have := isB_no hb (show 2 + m < 26 by omega); omega)]; exact et]
                  refine v_aload_n hX 0 71 rfl rfl rfl ?_
                  refine g_1_0 hX 72  tw_134 rfl ?_
                  refine v_iload hX 73 rfl rfl ?_
                  refine v_iald hX (k := 28) (by decide) rfl (vp_in_nI (by omega) (by decide)) 74 rfl ?_
                  refine v_aload_n hX 0 75 rfl rfl rfl ?_
                  refine g_1_1 hX 76  tw_135 rfl ?_
                  refine v_iload hX 77 rfl rfl ?_
                  refine v_iald hX (k := 29) (by decide) rfl (vp_in_nI (by omega) (by decide)) 78 rfl ?_
                  refine v_callV hX 3 (by decide) rfl rfl (f_addT_no (Or.inl (by decide))) tw_471 tw_468 tw_470 tw_35 tw_42 (by decide +kernel) ⟨⟨rfl, rfl⟩, Nat.le_of_ble_eq_true rfl, Nat.le_of_ble_eq_true rfl⟩ rfl (Nat.le_of_ble_eq_true rfl) rfl rfl 79 rfl ?_
                  refine v_iinc hX 80 rfl rfl (nI_dm m) (Nat.le_of_ble_eq_true rfl) rfl ?_
                  refine v_goto hX (tgt := 65) 81 rfl (by decide) ?_
                  refine V.subM (ihq m (by omega) (by omega)) ?_ rfl ⟨rfl, rfl, rfl, rfl, rfl, (by first | rfl | (refine congrArg (fun z : Int32 => some (Value.int z)) ?_; decide)), trivial⟩
                  rw [e25, hW, hW2]
                · skip
                  have hne : ¬ cp M b m 3 = -6 := by rw [et]; exact (by decide +kernel : ∀ t, t < 24 → ¬ nI t = -6) t (by omega)
                  have hW2 : wStep (cp M b) (bOut M b) (naP (cp M b) n) m (wAll (cp M b) (bOut M b) (naP (cp M b) n) n (wI M 24) (23 - m)) = att (nI t) ((wS1 (bOut M b) (naP (cp M b) n) m (wAll (cp M b) (bOut M b) (naP (cp M b) n) n (wI M 24) (23 - m))).1 m) ((wS1 (bOut M b) (naP (cp M b) n) m (wAll (cp M b) (bOut M b) (naP (cp M b) n) n (wI M 24) (23 - m))).2 m) (wS1 (bOut M b) (naP (cp M b) n) m (wAll (cp M b) (bOut M b) (naP (cp M b) n) n (wI M 24) (23 - m))) := by unfold wStep; rw [et]
                  rw [et] at hne
                  refine v_aload_n hX 0 68 rfl rfl rfl ?_
                  refine v_aload hX 69 rfl rfl ?_
                  refine gN_4_3 hX 70 hb (by omega) (List.mem_of_getElem? (i := 6) rfl) rfl ?_
                  rw [show (wM M (wS1 (bOut M b) (naP (cp M b) n) m (wAll (cp M b) (bOut M b) (naP (cp M b) n) n (wI M 24) (23 - m)))).1 (b + 2 + m) 3 = nI t by rw [wM_n (by have := isB_no hb (show 2 + m < 26 by omega); omega)]; exact et]
                  refine v_aload_n hX 0 71 rfl rfl rfl ?_
                  refine g_1_0 hX 72  tw_134 rfl ?_
                  refine v_iload hX 73 rfl rfl ?_
                  refine v_iald hX (k := 28) (by decide) rfl (vp_in_nI (by omega) (by decide)) 74 rfl ?_
                  refine v_aload_n hX 0 75 rfl rfl rfl ?_
                  refine g_1_1 hX 76  tw_135 rfl ?_
                  refine v_iload hX 77 rfl rfl ?_
                  refine v_iald hX (k := 29) (by decide) rfl (vp_in_nI (by omega) (by decide)) 78 rfl ?_
                  rw [nI_clamp (by omega)]
                  refine v_callV hX 3 (by decide) rfl rfl (f_addT (show t < 24 by omega)) tw_471 tw_468 tw_470 tw_35 tw_42 (by decide +kernel) ⟨⟨rfl, rfl⟩, Nat.le_of_ble_eq_true rfl, Nat.le_of_ble_eq_true rfl⟩ rfl (Nat.le_of_ble_eq_true rfl) rfl rfl 79 rfl ?_
                  refine v_iinc hX 80 rfl rfl (nI_dm m) (Nat.le_of_ble_eq_true rfl) rfl ?_
                  refine v_goto hX (tgt := 65) 81 rfl (by decide) ?_
                  refine V.subM (ihq m (by omega) (by omega)) ?_ rfl ⟨rfl, rfl, rfl, rfl, rfl, (by first | rfl | (refine congrArg (fun z : Int32 => some (Value.int z)) ?_; decide)), trivial⟩
                  rw [e25, hW, hW2, wM_r28, wM_r29, wM_28, wM_29]; unfold att; rw [if_neg hne, nI_clamp (by omega)]
            · skip
              have q1 := hasv_ne (by omega) c92
              rw [bt_mk _ (by omega) (by omega), decide_eq_true hm, Bool.true_and] at q1
              refine v_aload_n hX 0 48 rfl rfl rfl ?_
              refine g_1_0 hX 49  tw_134 rfl ?_
              refine v_iload hX 50 rfl rfl ?_
              refine v_iconst hX (v := 0) 51 rfl (by decide) ?_
              refine v_iast hX (k := 28) (by decide) rfl rfl (vp_in_nI (by omega) (by decide)) rfl 52 rfl ?_
              refine V.mem (M2 := wM M (upd (wAll (cp M b) (bOut M b) (naP (cp M b) n) n (wI M 24) (23 - m)).1 m 0, (wAll (cp M b) (bOut M b) (naP (cp M b) n) n (wI M 24) (23 - m)).2)) (by rw [nI_clamp (by omega), wM_28]) ?_
              refine v_aload_n hX 0 53 rfl rfl rfl ?_
              refine g_1_1 hX 54  tw_135 rfl ?_
              refine v_iload hX 55 rfl rfl ?_
              refine v_sipush hX (v := 1000) 56 rfl (by decide) ?_
              refine v_iast hX (k := 29) (by decide) rfl rfl (vp_in_nI (by omega) (by decide)) rfl 57 rfl ?_
              refine V.mem (M2 := wM M (upd (wAll (cp M b) (bOut M b) (naP (cp M b) n) n (wI M 24) (23 - m)).1 m 0, upd (wAll (cp M b) (bOut M b) (naP (cp M b) n) n (wI M 24) (23 - m)).2 m 1000)) (by rw [nI_clamp (by omega), wM_29]) ?_
              have hS : (upd (wAll (cp M b) (bOut M b) (naP (cp M b) n) n (wI M 24) (23 - m)).1 m 0, upd (wAll (cp M b) (bOut M b) (naP (cp M b) n) n (wI M 24) (23 - m)).2 m 1000) = wS1 (bOut M b) (naP (cp M b) n) m (wAll (cp M b) (bOut M b) (naP (cp M b) n) n (wI M 24) (23 - m)) := by unfold wS1; rw [if_pos q1, if_pos q1]
              rw [hS]
              refine v_goto hX (tgt := 133) 58 rfl (by decide) ?_
              rcases (hw m hm).2.1 with et | ⟨t, ht, et⟩
              · skip
                have hW2 : wStep (cp M b) (bOut M b) (naP (cp M b) n) m (wAll (cp M b) (bOut M b) (naP (cp M b) n) n (wI M 24) (23 - m)) = wS1 (bOut M b) (naP (cp M b) n) m (wAll (cp M b) (bOut M b) (naP (cp M b) n) n (wI M 24) (23 - m)) := by unfold wStep att; rw [if_pos et]
                refine v_aload_n hX 0 68 rfl rfl rfl ?_
                refine v_aload hX 69 rfl rfl ?_
                refine gN_4_3 hX 70 hb (by omega) (List.mem_of_getElem? (i := 6) rfl) rfl ?_
                rw [show (wM M (wS1 (bOut M b) (naP (cp M b) n) m (wAll (cp M b) (bOut M b) (naP (cp M b) n) n (wI M 24) (23 - m)))).1 (b + 2 + m) 3 = -6 by rw [wM_n (by have := isB_no hb (show 2 + m < 26 by omega); omega)]; exact et]
                refine v_aload_n hX 0 71 rfl rfl rfl ?_
                refine g_1_0 hX 72  tw_134 rfl ?_
                refine v_iload hX 73 rfl rfl ?_
                refine v_iald hX (k := 28) (by decide) rfl (vp_in_nI (by omega) (by decide)) 74 rfl ?_
                refine v_aload_n hX 0 75 rfl rfl rfl ?_
                refine g_1_1 hX 76  tw_135 rfl ?_
                refine v_iload hX 77 rfl rfl ?_
                refine v_iald hX (k := 29) (by decide) rfl (vp_in_nI (by omega) (by decide)) 78 rfl ?_
                refine v_callV hX 3 (by decide) rfl rfl (f_addT_no (Or.inl (by decide))) tw_471 tw_468 tw_470 tw_35 tw_42 (by decide +kernel) ⟨⟨rfl, rfl⟩, Nat.le_of_ble_eq_true rfl, Nat.le_of_ble_eq_true rfl⟩ rfl (Nat.le_of_ble_eq_true rfl) rfl rfl 79 rfl ?_
                refine v_iinc hX 80 rfl rfl (nI_dm m) (Nat.le_of_ble_eq_true rfl) rfl ?_
                refine v_goto hX (tgt := 65) 81 rfl (by decide) ?_
                refine V.subM (ihq m (by omega) (by omega)) ?_ rfl ⟨rfl, rfl, rfl, rfl, rfl, (by first | rfl | (refine congrArg (fun z : Int32 => some (Value.int z)) ?_; decide)), trivial⟩
                rw [e25, hW, hW2]
              · skip
                have hne : ¬ cp M b m 3 = -6 := by rw [et]; exact (by decide +kernel : ∀ t, t < 24 → ¬ nI t = -6) t (by omega)
                have hW2 : wStep (cp M b) (bOut M b) (naP (cp M b) n) m (wAll (cp M b) (bOut M b) (naP (cp M b) n) n (wI M 24) (23 - m)) = att (nI t) ((wS1 (bOut M b) (naP (cp M b) n) m (wAll (cp M b) (bOut M b) (naP (cp M b) n) n (wI M 24) (23 - m))).1 m) ((wS1 (bOut M b) (naP (cp M b) n) m (wAll (cp M b) (bOut M b) (naP (cp M b) n) n (wI M 24) (23 - m))).2 m) (wS1 (bOut M b) (naP (cp M b) n) m (wAll (cp M b) (bOut M b) (naP (cp M b) n) n (wI M 24) (23 - m))) := by unfold wStep; rw [et]
                rw [et] at hne
                refine v_aload_n hX 0 68 rfl rfl rfl ?_
                refine v_aload hX 69 rfl rfl ?_
                refine gN_4_3 hX 70 hb (by omega) (List.mem_of_getElem? (i := 6) rfl) rfl ?_
                rw [show (wM M (wS1 (bOut M b) (naP (cp M b) n) m (wAll (cp M b) (bOut M b) (naP (cp M b) n) n (wI M 24) (23 - m)))).1 (b + 2 + m) 3 = nI t by rw [wM_n (by have := isB_no hb (show 2 + m < 26 by omega); omega)]; exact et]
                refine v_aload_n hX 0 71 rfl rfl rfl ?_
                refine g_1_0 hX 72  tw_134 rfl ?_
                refine v_iload hX 73 rfl rfl ?_
                refine v_iald hX (k := 28) (by decide) rfl (vp_in_nI (by omega) (by decide)) 74 rfl ?_
                refine v_aload_n hX 0 75 rfl rfl rfl ?_
                refine g_1_1 hX 76  tw_135 rfl ?_
                refine v_iload hX 77 rfl rfl ?_
                refine v_iald hX (k := 29) (by decide) rfl (vp_in_nI (by omega) (by decide)) 78 rfl ?_
                rw [nI_clamp (by omega)]
                refine v_callV hX 3 (by decide) rfl rfl (f_addT (show t < 24 by omega)) tw_471 tw_468 tw_470 tw_35 tw_42 (by decide +kernel) ⟨⟨rfl, rfl⟩, Nat.le_of_ble_eq_true rfl, Nat.le_of_ble_eq_true rfl⟩ rfl (Nat.le_of_ble_eq_true rfl) rfl rfl 79 rfl ?_
                refine v_iinc hX 80 rfl rfl (nI_dm m) (Nat.le_of_ble_eq_true rfl) rfl ?_
                refine v_goto hX (tgt := 65) 81 rfl (by decide) ?_
                refine V.subM (ihq m (by omega) (by omega)) ?_ rfl ⟨rfl, rfl, rfl, rfl, rfl, (by first | rfl | (refine congrArg (fun z : Int32 => some (Value.int z)) ?_; decide)), trivial⟩
                rw [e25, hW, hW2, wM_r28, wM_r29, wM_28, wM_29]; unfold att; rw [if_neg hne, nI_clamp (by omega)]
          · skip
            have hW : wAll (cp M b) (bOut M b) (naP (cp M b) n) n (wI M 24) (23 - m + 1) = wAll (cp M b) (bOut M b) (naP (cp M b) n) n (wI M 24) (23 - m) := by rw [wAll, em, if_neg (by omega)]
            refine v_callVN hX 1 (by have := isB_lt hb; omega) (cG_B hb) rfl (f_find_out hb hzw (Or.inr (nI_le hm (by omega)))) tw_232 (List.mem_of_getElem? (i := 37) rfl) tw_40 tw_231 tw_3 (by decide +kernel) ⟨⟨rfl, rfl⟩, Nat.le_of_ble_eq_true rfl, Nat.le_of_ble_eq_true rfl⟩ rfl (Nat.le_of_ble_eq_true rfl) rfl rfl 39 rfl ?_
            refine v_astoreN hX 40 rfl (Nat.le_of_ble_eq_true rfl) rfl ?_
            refine v_aloadN hX 41 rfl rfl ?_
            refine v_ifnonnullN hX 42 rfl ?_
            refine v_goto hX (tgt := 156) 43 rfl (by decide) ?_
            refine v_iinc hX 80 rfl rfl (nI_dm m) (Nat.le_of_ble_eq_true rfl) rfl ?_
            refine v_goto hX (tgt := 65) 81 rfl (by decide) ?_
            refine V.subM (ihq m (by omega) (by omega)) ?_ rfl ⟨rfl, rfl, rfl, rfl, rfl, (by first | rfl | (refine congrArg (fun z : Int32 => some (Value.int z)) ?_; decide)), trivial⟩
            rw [e25, hW]
      refine V.subM (lq 24 (Nat.le_refl 24)) ?_ rfl ⟨rfl, rfl, rfl, rfl, rfl, (by first | rfl | (refine congrArg (fun z : Int32 => some (Value.int z)) ?_; decide)), trivial⟩
      rfl
    · skip
      have hk2 : k < 24 := of_nle (a := 24) c32 (by omega) (by omega)
      refine v_aload_n hX 0 19 rfl rfl rfl ?_
      refine g_1_0 hX 20  tw_134 rfl ?_
      refine v_iload hX 21 rfl rfl ?_
      refine v_sipush hX (v := 1000) 22 rfl (by decide) ?_
      refine v_iast hX (k := 28) (by decide) rfl rfl (vp_in_nI (by omega) (by decide)) rfl 23 rfl ?_
      refine v_aload_n hX 0 24 rfl rfl rfl ?_
      refine g_1_1 hX 25  tw_135 rfl ?_
      refine v_iload hX 26 rfl rfl ?_
      refine v_iconst hX (v := 0) 27 rfl (by decide) ?_
      refine v_iast hX (k := 29) (by decide) rfl rfl (vp_in_nI (by omega) (by decide)) rfl 28 rfl ?_
      refine V.mem (M2 := wM M (wI M (k + 1))) (by rw [nI_clamp (by omega)]; exact wI_s) ?_
      refine v_iinc hX 29 rfl rfl (nI_inc k) (Nat.le_of_ble_eq_true rfl) rfl ?_
      refine v_goto hX (tgt := 28) 30 rfl (by decide) ?_
      refine V.subM (ih hk2) ?_ rfl ⟨rfl, rfl, rfl, rfl, rfl, rfl, trivial⟩
      rfl
  refine V.subM (lp 0 (Nat.zero_le _)) ?_ rfl ⟨rfl, rfl, rfl, rfl, rfl, rfl, trivial⟩
  exact wI_0.symm
set_option maxRecDepth 100000 in
set_option maxHeartbeats 4000000 in
theorem f_rowAt {Y : Yt} {M : Mm} {i : Nat} (hi : i < 7) : Fn Y yX2_rowAt wsX2_rowAt { frames := 0, cells := 0, slots := 0, locals := 0 } [.ref (Y.2.2.2.1 33), .int (nI i)] M (some (.ref (Y.2.2.2.1 (M.2 i)))) M := by
  refine Fn.of (cc := cX2_rowAt) (ins := iX2_rowAt) (maxL := 2) (ret := (some (.object "PointAnswers$Bundle"))) (by decide) dX2_rowAt [some (.ref (Y.2.2.2.1 33)), some (.int (nI i))] (Nat.le_of_ble_eq_true rfl) rfl rfl ?_
  intro X hX hQ
  refine v_iload_n hX 1 0 rfl rfl rfl ?_
  refine v_if_lt hX (tgt := 22) 1 rfl (by decide) (fun c1 => absurd c1 (nI_nlt (Nat.zero_le _) (by omega))) (fun c1 => ?_)
  refine v_iload_n hX 1 2 rfl rfl rfl ?_
  refine v_aload_n hX 0 3 rfl rfl rfl ?_
  refine g_2_0 hX 4  tw_184 rfl ?_
  refine v_alen hX (v := nI 7) (k := 34) (t0 := 3) (by decide) rfl rfl rfl 5 rfl ?_
  refine v_icmp_ge hX (tgt := 22) 6 rfl (by decide) (fun c10 => absurd c10 (nI_ge hi (by omega))) (fun c10 => ?_)
  refine v_aload_n hX 0 7 rfl rfl rfl ?_
  refine g_2_0 hX 8  tw_184 rfl ?_
  refine v_iload_n hX 1 9 rfl rfl rfl ?_
  refine v_aald hX (k := 34) (t0 := 3) (v := Y.2.2.2.1 (M.2 i)) (by decide) rfl rfl (vp_in_nI hi (by decide)) (by rw [nI_clamp (by omega)]) 10 rfl ?_
  refine v_goto hX (tgt := 23) 11 rfl (by decide) ?_
  refine v_aret hX hQ rfl (Or.inl ⟨_, rfl⟩) (Or.inr ⟨_, rfl⟩) ?_ ?_ 13 rfl
  · rfl
  · rfl
set_option maxRecDepth 100000 in
set_option maxHeartbeats 4000000 in
theorem f_rowAt_no {Y : Yt} {M : Mm} {x : Int32} (hx : x < 0 ∨ nI 7 ≤ x) : Fn Y yX2_rowAt wsX2_rowAt { frames := 0, cells := 0, slots := 0, locals := 0 } [.ref (Y.2.2.2.1 33), .int x] M (some .null) M := by
  refine Fn.of (cc := cX2_rowAt) (ins := iX2_rowAt) (maxL := 2) (ret := (some (.object "PointAnswers$Bundle"))) (by decide) dX2_rowAt [some (.ref (Y.2.2.2.1 33)), some (.int x)] (Nat.le_of_ble_eq_true rfl) rfl rfl ?_
  intro X hX hQ
  refine v_iload_n hX 1 0 rfl rfl rfl ?_
  refine v_if_lt hX (tgt := 22) 1 rfl (by decide) (fun c1 => ?_) (fun c1 => ?_)
  · skip
    refine v_null hX 12 rfl ?_
    refine v_aret hX hQ rfl (Or.inl ⟨_, rfl⟩) (Or.inl rfl) ?_ ?_ 13 rfl
    · rfl
    · rfl
  · skip
    refine v_iload_n hX 1 2 rfl rfl rfl ?_
    refine v_aload_n hX 0 3 rfl rfl rfl ?_
    refine g_2_0 hX 4  tw_184 rfl ?_
    refine v_alen hX (v := nI 7) (k := 34) (t0 := 3) (by decide) rfl rfl rfl 5 rfl ?_
    refine v_icmp_ge hX (tgt := 22) 6 rfl (by decide) (fun c10 => ?_) (fun c10 => absurd (hx.resolve_left c1) c10)
    refine v_null hX 12 rfl ?_
    refine v_aret hX hQ rfl (Or.inl ⟨_, rfl⟩) (Or.inl rfl) ?_ ?_ 13 rfl
    · rfl
    · rfl
set_option maxRecDepth 100000 in
set_option maxHeartbeats 4000000 in
theorem f_prepare {Y : Yt} {M : Mm} {k n : Nat} (hk : k ≤ 6) (hkk : M.1 33 1 = nI k) (hh : ∀ i, i < 7 → isB (M.2 i) ∧ M.2 i ≠ 1) (hz : M.1 1 1 = nI n) (hn : n ≤ 24) (hw : WF (cp M 1) n) : Fn Y yX2_prepare wsX2_prepare { frames := 2, cells := 0, slots := 0, locals := 45 } [.ref (Y.2.2.2.1 33), .ref (Y.2.2.2.1 1)] M none ((cpB M (M.2 k) 1 n)) := by
  refine Fn.of (cc := cX2_prepare) (ins := iX2_prepare) (maxL := 3) (ret := none) (by decide) dX2_prepare [some (.ref (Y.2.2.2.1 33)), some (.ref (Y.2.2.2.1 1)), none] (Nat.le_of_ble_eq_true rfl) rfl rfl ?_
  intro X hX hQ
  refine v_aload_n hX 0 0 rfl rfl rfl ?_
  refine v_aload_n hX 0 1 rfl rfl rfl ?_
  refine g_2_1 hX 2  tw_185 rfl ?_
  rw [hkk]
  refine v_callV hX 1 (by decide) rfl rfl (f_rowAt (show k < 7 by omega)) tw_224 tw_221 tw_223 tw_1 tw_45 (by decide +kernel) ⟨⟨rfl, rfl⟩, Nat.le_of_ble_eq_true rfl, Nat.le_of_ble_eq_true rfl⟩ rfl (Nat.le_of_ble_eq_true rfl) rfl rfl 3 rfl ?_
  refine v_astore_n hX 2 4 rfl rfl (Nat.le_of_ble_eq_true rfl) rfl ?_
  refine v_aload_n hX 2 5 rfl rfl rfl ?_
  refine v_ifnull hX 6 rfl ?_
  refine v_aload_n hX 2 7 rfl rfl rfl ?_
  refine v_aload_n hX 1 8 rfl rfl rfl ?_
  refine v_callVN hX 1 (by have := isB_lt (hh k (by omega)).1; omega) (cG_B (hh k (by omega)).1) rfl (f_become (hh k (by omega)).1 isB_1 hz hn (hh k (by omega)).2 hw) tw_228 (List.mem_of_getElem? (i := 8) rfl) tw_40 tw_227 tw_2 (by decide +kernel) ⟨⟨rfl, rfl⟩, Nat.le_of_ble_eq_true rfl, Nat.le_of_ble_eq_true rfl⟩ rfl (Nat.le_of_ble_eq_true rfl) rfl rfl 9 rfl ?_
  refine v_vret hX hQ rfl rfl ?_ 10 rfl
  rfl
set_option maxRecDepth 100000 in
set_option maxHeartbeats 4000000 in
theorem f_dropOldest {Y : Yt} {M : Mm} (hh : ∀ i, i < 7 → isB (M.2 i) ∧ M.2 i ≠ 1) : Fn Y yX2_dropOldest wsX2_dropOldest { frames := 1, cells := 0, slots := 0, locals := 21 } [.ref (Y.2.2.2.1 33)] M none ((mhis M (rot M.2))) := by
  refine Fn.of (cc := cX2_dropOldest) (ins := iX2_dropOldest) (maxL := 3) (ret := none) (by decide) dX2_dropOldest [some (.ref (Y.2.2.2.1 33)), none, none] (Nat.le_of_ble_eq_true rfl) rfl rfl ?_
  intro X hX hQ
  refine v_aload_n hX 0 0 rfl rfl rfl ?_
  refine v_iconst hX (v := 0) 1 rfl (by decide) ?_
  refine v_callV hX 1 (by decide) rfl rfl (f_rowAt (show 0 < 7 by decide)) tw_224 tw_221 tw_223 tw_1 tw_45 (by decide +kernel) ⟨⟨rfl, rfl⟩, Nat.le_of_ble_eq_true rfl, Nat.le_of_ble_eq_true rfl⟩ rfl (Nat.le_of_ble_eq_true rfl) rfl rfl 2 rfl ?_
  refine v_astore_n hX 1 3 rfl rfl (Nat.le_of_ble_eq_true rfl) rfl ?_
  refine v_iconst hX (v := 0) 4 rfl (by decide) ?_
  refine v_istore_n hX 2 5 rfl rfl (Nat.le_of_ble_eq_true rfl) rfl ?_
  have lp : ∀ (k : Nat), k ≤ 6 → V Y X (mhis M (roS M.2 k)) 8 [some (.ref (Y.2.2.2.1 33)), some (.ref (Y.2.2.2.1 (M.2 0))), some (.int (nI k))] [] := by
    refine upTo 6 (fun k hk ih => ?_)
    refine v_iload_n hX 2 6 rfl rfl rfl ?_
    refine v_iconst hX (v := 1) 7 rfl (by decide) ?_
    refine v_iadd hX 8 rfl ?_
    refine v_aload_n hX 0 9 rfl rfl rfl ?_
    refine g_2_0 hX 10  tw_184 rfl ?_
    refine v_alen hX (v := nI 7) (k := 34) (t0 := 3) (by decide) rfl rfl rfl 11 rfl ?_
    refine v_icmp_ge hX (tgt := 48) 12 rfl (by decide) (fun c16 => ?_) (fun c16 => ?_)
    · skip
      have hk2 : k = 6 := by rw [nI_1] at c16; have := of_le (a := 7) c16 (by omega) (by omega); omega
      subst hk2
      refine v_vret hX hQ rfl rfl ?_ 32 rfl
      exact congrArg (mhis M) roS_e.symm
    · skip
      have hk2 : k < 6 := by rw [nI_1] at c16; have := of_nle (a := 7) c16 (by omega) (by omega); omega
      refine v_aload_n hX 0 13 rfl rfl rfl ?_
      refine g_2_0 hX 14  tw_184 rfl ?_
      refine v_iload_n hX 2 15 rfl rfl rfl ?_
      refine v_aload_n hX 0 16 rfl rfl rfl ?_
      refine g_2_0 hX 17  tw_184 rfl ?_
      refine v_iload_n hX 2 18 rfl rfl rfl ?_
      refine v_iconst hX (v := 1) 19 rfl (by decide) ?_
      refine v_iadd hX 20 rfl ?_
      refine v_aald hX (k := 34) (t0 := 3) (v := Y.2.2.2.1 (M.2 (k + 1))) (by decide) rfl rfl (by rw [nI_1]; exact vp_in_nI (by omega) (by decide)) (by rw [nI_1, nI_clamp (by omega)]; show some (Y.2.2.2.1 (roS M.2 k (k + 1))) = _; unfold roS; rw [if_neg (by omega), if_neg (by omega)]) 21 rfl ?_
      refine v_aast34 hX (b := M.2 (k + 1)) (hh (k + 1) (by omega)).1 (vp_in_nI (by omega) (by decide)) 22 rfl ?_
      refine v_aload_n hX 0 23 rfl rfl rfl ?_
      refine g_2_0 hX 24  tw_184 rfl ?_
      refine v_iload_n hX 2 25 rfl rfl rfl ?_
      refine v_iconst hX (v := 1) 26 rfl (by decide) ?_
      refine v_iadd hX 27 rfl ?_
      refine v_aload_n hX 1 28 rfl rfl rfl ?_
      refine v_aast34 hX (b := M.2 0) (hh 0 (by omega)).1 (by rw [nI_1]; exact vp_in_nI (by omega) (by decide)) 29 rfl ?_
      refine v_iinc hX 30 rfl rfl (nI_inc k) (Nat.le_of_ble_eq_true rfl) rfl ?_
      refine v_goto hX (tgt := 8) 31 rfl (by decide) ?_
      refine V.subM (ih hk2) ?_ rfl ⟨rfl, rfl, rfl, trivial⟩
      rw [nI_1, nI_clamp (by omega), nI_clamp (by omega), mhis_2, mhis_mhis, mhis_2, mhis_mhis, ← roS_s hk2]
  refine V.subM (lp 0 (Nat.zero_le _)) ?_ rfl ⟨rfl, rfl, rfl, trivial⟩
  rw [roS_0]; rfl
set_option maxRecDepth 100000 in
set_option maxHeartbeats 4000000 in
theorem f_settle {Y : Yt} {M : Mm} {k : Nat} {x : Int32} (hk : k ≤ 6) (hkk : M.1 33 1 = nI k) (hh : ∀ i, i < 7 → isB (M.2 i) ∧ M.2 i ≠ 1) : Fn Y yX2_settle wsX2_settle { frames := 2, cells := 0, slots := 0, locals := 43 } [.ref (Y.2.2.2.1 33), .int x] M (some (.int x)) ((seM M k x)) := by
  refine Fn.of (cc := cX2_settle) (ins := iX2_settle) (maxL := 2) (ret := (some .int)) (by decide) dX2_settle [some (.ref (Y.2.2.2.1 33)), some (.int x)] (Nat.le_of_ble_eq_true rfl) rfl rfl ?_
  intro X hX hQ
  refine v_iload_n hX 1 0 rfl rfl rfl ?_
  refine v_if_lt hX (tgt := 30) 1 rfl (by decide) (fun c1 => ?_) (fun c1 => ?_)
  · skip
    refine v_iload_n hX 1 15 rfl rfl rfl ?_
    refine v_iret hX hQ rfl rfl ?_ ?_ 16 rfl
    · rfl
    · first | (rw [seM, if_pos c1]; done) | (rw [seM, if_neg c1, if_pos hk2, hkk, nI_1]; done) | (rw [seM, if_neg c1, if_neg (by omega)])
  · skip
    refine v_aload_n hX 0 2 rfl rfl rfl ?_
    refine g_2_1 hX 3  tw_185 rfl ?_
    refine v_bipush hX (v := 6) 4 rfl (by decide) ?_
    refine v_icmp_ge hX (tgt := 26) 5 rfl (by decide) (fun c10 => ?_) (fun c10 => ?_)
    · skip
      have hk2 : k = 6 := by rw [hkk] at c10; have := of_le (a := 6) c10 (by omega) (by omega); omega
      refine v_aload_n hX 0 13 rfl rfl rfl ?_
      refine v_callV hX 0 (by decide) rfl rfl (f_dropOldest hh) tw_248 tw_245 tw_247 tw_7 tw_45 (by decide +kernel) ⟨⟨rfl, rfl⟩, Nat.le_of_ble_eq_true rfl, Nat.le_of_ble_eq_true rfl⟩ rfl (Nat.le_of_ble_eq_true rfl) rfl rfl 14 rfl ?_
      refine v_iload_n hX 1 15 rfl rfl rfl ?_
      refine v_iret hX hQ rfl rfl ?_ ?_ 16 rfl
      · rfl
      · first | (rw [seM, if_pos c1]; done) | (rw [seM, if_neg c1, if_pos hk2, hkk, nI_1]; done) | (rw [seM, if_neg c1, if_neg (by omega)])
    · skip
      have hk2 : k < 6 := by rw [hkk] at c10; exact of_nle (a := 6) c10 (by omega) (by omega)
      refine v_aload_n hX 0 6 rfl rfl rfl ?_
      refine v_dup hX 7 rfl rfl ?_
      refine g_2_1 hX 8  tw_185 rfl ?_
      refine v_iconst hX (v := 1) 9 rfl (by decide) ?_
      refine v_iadd hX 10 rfl ?_
      refine p_2_1 hX 11   tw_185 rfl ?_
      refine v_goto hX (tgt := 30) 12 rfl (by decide) ?_
      refine v_iload_n hX 1 15 rfl rfl rfl ?_
      refine v_iret hX hQ rfl rfl ?_ ?_ 16 rfl
      · rfl
      · first | (rw [seM, if_pos c1]; done) | (rw [seM, if_neg c1, if_pos hk2, hkk, nI_1]; done) | (rw [seM, if_neg c1, if_neg (by omega)])
