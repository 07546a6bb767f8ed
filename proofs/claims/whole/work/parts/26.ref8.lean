set_option maxRecDepth 100000 in
set_option maxHeartbeats 4000000 in
theorem r_readPad {Y : Yt} {M : Mm} {s : Nat → Int32} {l : Nat} (h : RpOK M s (M.1 270) l) : Fn Y yX7_readPad wsX7_readPad { frames := 4, cells := 0, slots := 0, locals := 89 } [.ref (Y.2.2.2 270)] M (some (.int (rdF s l 27 0 0 (M.1 280)).1)) ((pM M (rdF s l 27 0 0 (M.1 280)).2.2.1 (upd (M.1 270) 12 (nI (rdF s l 27 0 0 (M.1 280)).2.2.2)) (rdF s l 27 0 0 (M.1 280)).2.1 (rdF s l 27 0 0 (M.1 280)).1)) := by
  have hr : ∀ z9 : Nat, RpOK M s (upd (M.1 270) 12 (nI z9)) l := fun z9 => ⟨h.1, by rw [upd_n (by decide)]; exact h.2.1, h.2.2⟩
  refine Fn.of (cc := cX7_readPad) (ins := iX7_readPad) (maxL := 2) (ret := (some .int)) (by decide) dX7_readPad [some (.ref (Y.2.2.2 270)), none] (Nat.le_of_ble_eq_true rfl) rfl rfl ?_
  intro X hX hQ
  refine v_aload_n hX 0 0 rfl rfl rfl ?_
  refine v_iconst hX (v := 0) 1 rfl (by decide) ?_
  refine p_7_12 hX 2   tw_658 rfl ?_
  refine v_aload_n hX 0 3 rfl rfl rfl ?_
  refine v_iconst hX (v := 0) 4 rfl (by decide) ?_
  refine p_7_13 hX 5   tw_659 rfl ?_
  refine v_aload_n hX 0 6 rfl rfl rfl ?_
  refine v_bipush hX (v := (-6)) 7 rfl (by decide) ?_
  refine p_7_14 hX 8   tw_660 rfl ?_
  refine V.mem pM_init ?_
  refine v_iconst hX (v := 1) 9 rfl (by decide) ?_
  refine v_istore_n hX 1 10 rfl rfl (Nat.le_of_ble_eq_true rfl) rfl ?_
  have lp : ∀ (k : Nat), k ≤ 27 → ∀ (b : Bool) (p : Nat) (w : Int32) (o : Nat → Int32), (b = true → w = -6 ∧ 3 * k ≤ p ∧ (p ≤ l ∨ (k = 0 ∧ p = 0))) → rdG s l k p w b o = (rdF s l 27 0 0 (M.1 280)) → V Y X (pM M o (upd (M.1 270) 12 (nI k)) p w) 18 [some (.ref (Y.2.2.2 270)), some (.int (b01 b))] [] := by
    refine upTo 27 (fun k hk ih => ?_)
    intro b p w o hb he
    refine v_iload_n hX 1 11 rfl rfl rfl ?_
    refine v_if_eq hX (tgt := 92) 12 rfl (by decide) (fun c19 => ?_) (fun c19 => ?_)
    · skip
      have hb0 := b01_f c19
      have e1 : (w, p, o, k) = (rdF s l 27 0 0 (M.1 280)) := by rw [← he]; unfold rdG; rw [hb0]; rfl
      refine v_aload_n hX 0 48 rfl rfl rfl ?_
      refine g_7_14 hX 49  tw_660 rfl ?_
      rw [pM_r, rq_r14]
      refine v_iret hX hQ rfl rfl ?_ ?_ 50 rfl
      · rw [← e1]
      · rw [← e1]
    · skip
      have hb1 := b01_t c19
      obtain ⟨hw, h3, hpl⟩ := hb hb1
      subst hw
      have hp8 : p ≤ 80 := by have := h.2.2; omega
      have hk2 : k < 27 := by have := h.2.2; omega
      have hle := h.2.2
      obtain ⟨f, hf⟩ : ∃ f, 27 - k = f + 1 := ⟨26 - k, by omega⟩
      unfold rdG at he
      rw [if_pos hb1, hf, rdF] at he
      have hbo : (ordT s l p (-6)).1 < 900 := ordT_lt (by omega) h.2.2
      refine v_aload_n hX 0 13 rfl rfl rfl ?_
      refine v_callV hX 0 (by decide) rfl rfl (r_readOrder (hr k) (by omega) upd_s (by omega) (by omega)) tw_922 tw_919 tw_921 tw_83 tw_99 (by decide +kernel) ⟨⟨rfl, rfl⟩, Nat.le_of_ble_eq_true rfl, Nat.le_of_ble_eq_true rfl⟩ rfl (Nat.le_of_ble_eq_true rfl) rfl rfl 14 rfl ?_
      rw [upd_u]
      have j51 : ∀ (v : Int32), v = b01 (rdB s l p) → V Y X (pM M (ordO s l p (-6) o k) (upd (M.1 270) 12 (nI (k + 1))) (ordT s l p (-6)).1 (ordT s l p (-6)).2) 51 [some (.ref (Y.2.2.2 270)), none] [.int v] := by
        intro v hv
        subst hv
        refine v_istore_n hX 1 27 rfl rfl (Nat.le_of_ble_eq_true rfl) rfl ?_
        refine v_iload_n hX 1 28 rfl rfl rfl ?_
        refine v_if_eq hX (tgt := 18) 29 rfl (by decide) (fun c53 => ?_) (fun c53 => ?_)
        · skip
          have hB := b01_f c53
          rw [if_neg (by rw [hB]; decide)] at he
          exact V.sub (ih hk2 (rdB s l p) _ _ _ (fun g => by rw [hB] at g; cases g) (by unfold rdG; rw [if_neg (by rw [hB]; decide)]; exact he)) rfl ⟨rfl, (by first | rfl | (refine congrArg (fun z : Int32 => some (Value.int z)) ?_; rfl)), trivial⟩
        · skip
          have hB := b01_t c53
          rw [if_pos hB] at he
          have hB2 : (ordT s l p (-6)).2 = -6 ∧ (ordT s l p (-6)).1 < l := by have := hB; unfold rdB at this; simpa using this
          have ho := ordT_ok (by omega) hB2.1
          refine v_aload_n hX 0 30 rfl rfl rfl ?_
          have j71 : ∀ (v2 : Int32), v2 = b01 (decide (chB s l (ordT s l p (-6)).1 = 59)) → V Y X (pM M (ordO s l p (-6) o k) (upd (M.1 270) 12 (nI (k + 1))) (ordT s l p (-6)).1 (ordT s l p (-6)).2) 71 [some (.ref (Y.2.2.2 270)), none] [.int v2, .ref (Y.2.2.2 270)] := by
            intro v2 hv2
            subst hv2
            refine v_callV hX 1 (by decide) rfl rfl (r_wants (b := decide (chB s l (ordT s l p (-6)).1 = 59)) (hr (k + 1)) (by omega)) tw_930 tw_927 tw_929 tw_85 tw_99 (by decide +kernel) ⟨⟨rfl, rfl⟩, Nat.le_of_ble_eq_true rfl, Nat.le_of_ble_eq_true rfl⟩ rfl (Nat.le_of_ble_eq_true rfl) rfl rfl 38 rfl ?_
            refine v_aload_n hX 0 39 rfl rfl rfl ?_
            refine g_7_14 hX 40  tw_660 rfl ?_
            rw [pM_r, rq_r14]
            refine v_bipush hX (v := (-6)) 41 rfl (by decide) ?_
            refine v_icmp_ne hX (tgt := 87) 42 rfl (by decide) (fun c80 => ?_) (fun c80 => ?_)
            · skip
              have hch : ¬ chB s l (ordT s l p (-6)).1 = 59 := fun g => c80 (by unfold wn; rw [if_pos hB2.1, decide_eq_true g]; rfl)
              rw [if_neg hch] at he
              have hwn : wn (ordT s l p (-6)).1 (ordT s l p (-6)).2 (decide (chB s l (ordT s l p (-6)).1 = 59)) = ((ordT s l p (-6)).1 + 1, nI (ordT s l p (-6)).1) := by unfold wn; rw [if_pos hB2.1, decide_eq_false hch]; rfl
              refine v_iconst hX (v := 0) 45 rfl (by decide) ?_
              refine v_istore_n hX 1 46 rfl rfl (Nat.le_of_ble_eq_true rfl) rfl ?_
              refine v_goto hX (tgt := 18) 47 rfl (by decide) ?_
              exact V.sub (ih hk2 false _ _ _ (fun g => by cases g) (by rw [hwn]; unfold rdG; rw [if_neg (by decide)]; exact he)) rfl ⟨rfl, (by first | rfl | (refine congrArg (fun z : Int32 => some (Value.int z)) ?_; rfl)), trivial⟩
            · skip
              have hw3 := wn_ok (by omega) c80
              have hch : chB s l (ordT s l p (-6)).1 = 59 := of_decide_eq_true hw3.2.1
              rw [if_pos hch] at he
              have hwn : wn (ordT s l p (-6)).1 (ordT s l p (-6)).2 (decide (chB s l (ordT s l p (-6)).1 = 59)) = ((ordT s l p (-6)).1 + 1, -6) := by unfold wn; rw [if_pos hB2.1, decide_eq_true hch]; rfl
              refine v_iconst hX (v := 1) 43 rfl (by decide) ?_
              refine v_goto hX (tgt := 88) 44 rfl (by decide) ?_
              refine v_istore_n hX 1 46 rfl rfl (Nat.le_of_ble_eq_true rfl) rfl ?_
              refine v_goto hX (tgt := 18) 47 rfl (by decide) ?_
              exact V.sub (ih hk2 true _ _ _ (fun _ => ⟨by rw [hwn], by rw [hwn]; show 3 * (k + 1) ≤ (ordT s l p (-6)).1 + 1; omega, Or.inl (by rw [hwn]; show (ordT s l p (-6)).1 + 1 ≤ l; omega)⟩) (by rw [hwn]; unfold rdG; rw [if_pos rfl, show 27 - (k + 1) = f by omega]; exact he)) rfl ⟨rfl, (by first | rfl | (refine congrArg (fun z : Int32 => some (Value.int z)) ?_; rfl)), trivial⟩
          refine v_aload_n hX 0 31 rfl rfl rfl ?_
          refine v_callV hX 0 (by decide) rfl rfl (r_letter (hr (k + 1)) (by omega)) tw_926 tw_923 tw_925 tw_84 tw_99 (by decide +kernel) ⟨⟨rfl, rfl⟩, Nat.le_of_ble_eq_true rfl, Nat.le_of_ble_eq_true rfl⟩ rfl (Nat.le_of_ble_eq_true rfl) rfl rfl 32 rfl ?_
          refine v_bipush hX (v := 59) 33 rfl (by decide) ?_
          refine v_icmp_ne hX (tgt := 70) 34 rfl (by decide) (fun c63 => ?_) (fun c63 => ?_)
          · skip
            refine v_iconst hX (v := 0) 37 rfl (by decide) ?_
            exact V.sub (j71 _ (by rw [decide_eq_false c63]; rfl)) rfl ⟨rfl, trivial⟩
          · skip
            refine v_iconst hX (v := 1) 35 rfl (by decide) ?_
            refine v_goto hX (tgt := 71) 36 rfl (by decide) ?_
            exact V.sub (j71 _ (by rw [decide_eq_true c63]; rfl)) rfl ⟨rfl, trivial⟩
      refine v_aload_n hX 0 15 rfl rfl rfl ?_
      refine g_7_14 hX 16  tw_660 rfl ?_
      rw [pM_r, rq_r14]
      refine v_bipush hX (v := (-6)) 17 rfl (by decide) ?_
      refine v_icmp_ne hX (tgt := 50) 18 rfl (by decide) (fun c32 => ?_) (fun c32 => ?_)
      · skip
        have hB : rdB s l p = false := by unfold rdB; rw [decide_eq_false c32]; rfl
        refine v_iconst hX (v := 0) 26 rfl (by decide) ?_
        exact V.sub (j51 _ (by rw [hB]; rfl)) rfl ⟨rfl, trivial⟩
      · skip
        have hB1 : decide ((ordT s l p (-6)).2 = -6) = true := decide_eq_true c32
        refine v_aload_n hX 0 19 rfl rfl rfl ?_
        refine g_7_13 hX 20  tw_659 rfl ?_
        rw [pM_r, rq_r13]
        refine v_aload_n hX 0 21 rfl rfl rfl ?_
        refine g_7_6 hX 22  tw_652 rfl ?_
        rw [pM_r, rq_n (by decide), upd_n (by decide), h.2.1]
        refine v_icmp_ge hX (tgt := 50) 23 rfl (by decide) (fun c43 => ?_) (fun c43 => ?_)
        · skip
          have hB : rdB s l p = false := by unfold rdB; rw [decide_eq_false (Nat.not_lt.mpr (of_le c43 (by omega) (by omega)))]; simp
          refine v_iconst hX (v := 0) 26 rfl (by decide) ?_
          exact V.sub (j51 _ (by rw [hB]; rfl)) rfl ⟨rfl, trivial⟩
        · skip
          have hB : rdB s l p = true := by unfold rdB; rw [hB1, decide_eq_true (of_nle c43 (by omega) (by omega))]; rfl
          refine v_iconst hX (v := 1) 24 rfl (by decide) ?_
          refine v_goto hX (tgt := 51) 25 rfl (by decide) ?_
          exact V.sub (j51 _ (by rw [hB]; rfl)) rfl ⟨rfl, trivial⟩
  exact V.sub (lp 0 (Nat.zero_le _) true 0 (-6) (M.1 280) (fun _ => ⟨rfl, Nat.zero_le _, Or.inr ⟨rfl, rfl⟩⟩) rfl) rfl ⟨rfl, (by first | rfl | (refine congrArg (fun z : Int32 => some (Value.int z)) ?_; rfl)), trivial⟩
