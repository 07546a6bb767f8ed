set_option maxRecDepth 100000 in
set_option maxHeartbeats 4000000 in
theorem l_low {Y : Yt} {M : Mm} {v : Int32} {n : Nat} (h0 : 0 < n) (hn : n < 2 ^ 31) : Fn Y yL_low wsL_low { frames := 0, cells := 0, slots := 0, locals := 0 } [.int v, .int (nI n)] M (some (.int (nI (lo0 v n)))) M := by
  refine Fn.of (cc := cL_low) (ins := iL_low) (maxL := 2) (ret := (some .int)) (by decide) dL_low [some (.int v), some (.int (nI n))] (Nat.le_of_ble_eq_true rfl) rfl rfl ?_
  intro X hX hQ
  refine v_iload_n hX 0 0 rfl rfl rfl ?_
  refine v_ldc hX tw_357 1 rfl ?_
  refine v_iand hX 2 rfl ?_
  refine v_iload_n hX 1 3 rfl rfl rfl ?_
  refine v_irem hX (nI_ne0 h0 hn) (lo0_eq hn) 4 rfl ?_
  refine v_iret hX hQ rfl rfl ?_ ?_ 5 rfl
  · rfl
  · rfl
set_option maxRecDepth 100000 in
set_option maxHeartbeats 4000000 in
theorem l_bits {Y : Yt} {M : Mm} {x : Int32} : Fn Y yL_bits wsL_bits { frames := 0, cells := 0, slots := 0, locals := 0 } [.int x] M (some (.int (nI (cnt (bt x) 24)))) M := by
  refine Fn.of (cc := cL_bits) (ins := iL_bits) (maxL := 3) (ret := (some .int)) (by decide) dL_bits [some (.int x), none, none] (Nat.le_of_ble_eq_true rfl) rfl rfl ?_
  intro X hX hQ
  refine v_iconst hX (v := 0) 0 rfl (by decide) ?_
  refine v_istore_n hX 1 1 rfl rfl (Nat.le_of_ble_eq_true rfl) rfl ?_
  refine v_iconst hX (v := 0) 2 rfl (by decide) ?_
  refine v_istore_n hX 2 3 rfl rfl (Nat.le_of_ble_eq_true rfl) rfl ?_
  have lp : ∀ (k : Nat), k ≤ 24 → V Y X M 4 [some (.int x), some (.int (nI (cnt (bt x) k))), some (.int (nI k))] [] := by
    refine upTo 24 (fun k hk ih => ?_)
    refine v_iload_n hX 2 4 rfl rfl rfl ?_
    refine v_bipush hX (v := 24) 5 rfl (by decide) ?_
    refine v_icmp_ge hX (tgt := 24) 6 rfl (by decide) (fun c7 => ?_) (fun c7 => ?_)
    · skip
      have hk2 : k = 24 := by have := of_le (a := 24) c7 (by omega) (by omega); omega
      subst hk2
      refine v_iload_n hX 1 17 rfl rfl rfl ?_
      refine v_iret hX hQ rfl rfl ?_ ?_ 18 rfl
      · rfl
      · rfl
    · skip
      have hk2 : k < 24 := of_nle (a := 24) c7 (by omega) (by omega)
      refine v_iload_n hX 1 7 rfl rfl rfl ?_
      refine v_iload_n hX 0 8 rfl rfl rfl ?_
      refine v_iload_n hX 2 9 rfl rfl rfl ?_
      refine v_ishr hX 10 rfl ?_
      refine v_iconst hX (v := 1) 11 rfl (by decide) ?_
      refine v_iand hX 12 rfl ?_
      rw [shr1n (show k < 31 by omega)]
      refine v_iadd hX 13 rfl ?_
      rw [nI_add]
      refine v_istore_n hX 1 14 rfl rfl (Nat.le_of_ble_eq_true rfl) rfl ?_
      refine v_iinc hX 15 rfl rfl (nI_inc k) (Nat.le_of_ble_eq_true rfl) rfl ?_
      refine v_goto hX (tgt := 4) 16 rfl (by decide) ?_
      exact V.sub (ih hk2) rfl ⟨rfl, (by first | rfl | (refine congrArg (fun z : Int32 => some (Value.int z)) ?_; rfl)), rfl, trivial⟩
  exact V.sub (lp 0 (Nat.zero_le _)) rfl ⟨rfl, (by first | rfl | (refine congrArg (fun z : Int32 => some (Value.int z)) ?_; rfl)), rfl, trivial⟩
set_option maxRecDepth 100000 in
set_option maxHeartbeats 4000000 in
theorem l_share {Y : Yt} {M : Mm} {a w : Nat} (ha : a < 25) (hw : w < 25) (hw0 : ¬ w = 0) (hle : a ≤ w) : Fn Y yL_share wsL_share { frames := 0, cells := 0, slots := 0, locals := 0 } [.int (nI a), .int (nI w)] M (some (.int (fbR a w))) M := by
  have hall := (ls_all w hw).resolve_left hw0
  have hal2 := hall.2 a ha hle
  refine Fn.of (cc := cL_share) (ins := iL_share) (maxL := 9) (ret := (some .int)) (by decide) dL_share [some (.int (nI a)), some (.int (nI w)), none, none, none, none, none, none, none] (Nat.le_of_ble_eq_true rfl) rfl rfl ?_
  intro X hX hQ
  refine v_iload_n hX 0 0 rfl rfl rfl ?_
  refine v_if_ne hX (tgt := 6) 1 rfl (by decide) (fun c1 => ?_) (fun c1 => ?_)
  · skip
    have ha0 : ¬ a = 0 := fun g => c1 (by rw [g]; rfl)
    refine v_iload_n hX 0 4 rfl rfl rfl ?_
    refine v_i2l hX 5 rfl rfl ?_
    refine v_lstore_n hX 2 6 rfl rfl (Nat.le_of_ble_eq_true rfl) rfl ?_
    refine v_bipush hX (v := 127) 7 rfl (by decide) ?_
    refine v_istore hX 8 rfl (Nat.le_of_ble_eq_true rfl) rfl ?_
    have lp : ∀ (f : Nat), f ≤ 6 → ∀ (x : Int64) (e : Int32), lsE (nI w).toInt64 f x = true → fbL2 (nI w).toInt64 f x e = fbL2 (nI w).toInt64 6 (nI a).toInt64 127 → V Y X M 13 [some (.int (nI a)), some (.int (nI w)), some (.long x), none, some (.int e), none, none, none, none] [] := by
      refine downTo (fun f ih => ?_)
      intro hf6 x e hE3 he
      refine v_lload_n hX 2 9 rfl rfl rfl ?_
      refine v_iload_n hX 1 10 rfl rfl rfl ?_
      refine v_i2l hX 11 rfl rfl ?_
      refine v_lcmp hX 12 rfl ?_
      refine v_if_ge hX (tgt := 32) 13 rfl (by decide) (fun c17 => ?_) (fun c17 => ?_)
      · skip
        have e1 : (x, e) = fbL2 (nI w).toInt64 6 (nI a).toInt64 127 := by rw [← he]; exact (fbL2_0 c17).symm
        have hs := (hal2.resolve_left ha0).2
        rw [← e1] at hs
        have hs : lsF (nI w).toInt64 x e = fbR a w := hs
        refine v_lload_n hX 2 20 rfl rfl rfl ?_
        refine v_ldc2 hX tw_439 21 rfl ?_
        refine v_lmul hX 22 rfl ?_
        refine v_iload_n hX 1 23 rfl rfl rfl ?_
        refine v_i2l hX 24 rfl rfl ?_
        refine v_ldiv hX hall.1 25 rfl ?_
        refine v_lstore hX 26 rfl (Nat.le_of_ble_eq_true rfl) rfl ?_
        refine v_lload_n hX 2 27 rfl rfl rfl ?_
        refine v_ldc2 hX tw_439 28 rfl ?_
        refine v_lmul hX 29 rfl ?_
        refine v_iload_n hX 1 30 rfl rfl rfl ?_
        refine v_i2l hX 31 rfl rfl ?_
        refine v_lrem hX hall.1 32 rfl ?_
        refine v_lstore hX 33 rfl (Nat.le_of_ble_eq_true rfl) rfl ?_
        have j94 : ∀ (v : Int64), v = lsD (nI w).toInt64 x → V Y X M 94 [some (.int (nI a)), some (.int (nI w)), some (.long x), none, some (.int e), some (.long (x * 8388608 / (nI w).toInt64)), none, some (.long (x * 8388608 - x * 8388608 / (nI w).toInt64 * (nI w).toInt64)), none] [.long v, .long (x * 8388608 / (nI w).toInt64)] := by
          intro v hv
          refine v_ladd hX 58 rfl ?_
          refine v_lstore hX 59 rfl (Nat.le_of_ble_eq_true rfl) rfl ?_
          refine v_iload hX 60 rfl rfl ?_
          refine v_ldc hX tw_440 61 rfl ?_
          refine v_imul hX 62 rfl ?_
          refine v_lload hX 63 rfl rfl ?_
          refine v_ldc2 hX tw_439 64 rfl ?_
          refine v_lsub hX 65 rfl ?_
          refine v_l2i hX 66 rfl rfl ?_
          refine v_iadd hX 67 rfl ?_
          refine v_iret hX hQ rfl rfl ?_ ?_ 68 rfl
          · rw [← hs, hv]; rfl
          · rfl
        refine v_lload hX 34 rfl rfl ?_
        refine v_ldc2 hX tw_438 35 rfl ?_
        refine v_lload hX 36 rfl rfl ?_
        refine v_lmul hX 37 rfl ?_
        refine v_iload_n hX 1 38 rfl rfl rfl ?_
        refine v_i2l hX 39 rfl rfl ?_
        refine v_lcmp hX 40 rfl ?_
        refine v_if_gt hX (tgt := 89) 41 rfl (by decide) (fun c63 => ?_) (fun c63 => ?_)
        · skip
          refine v_lconst hX (v := 1) 55 rfl rfl ?_
          refine v_goto hX (tgt := 94) 56 rfl (by decide) ?_
          exact V.sub (j94 1 (by unfold lsD; exact (if_pos (Or.inl c63)).symm)) rfl ⟨rfl, rfl, rfl, rfl, rfl, rfl, trivial⟩
        · skip
          refine v_ldc2 hX tw_438 42 rfl ?_
          refine v_lload hX 43 rfl rfl ?_
          refine v_lmul hX 44 rfl ?_
          refine v_iload_n hX 1 45 rfl rfl rfl ?_
          refine v_i2l hX 46 rfl rfl ?_
          refine v_lcmp hX 47 rfl ?_
          refine v_if_ne hX (tgt := 93) 48 rfl (by decide) (fun c75 => ?_) (fun c75 => ?_)
          · skip
            refine v_lconst hX (v := 0) 57 rfl rfl ?_
            exact V.sub (j94 0 (by unfold lsD; exact (if_neg (fun h => h.elim c63 (fun g => c75 g.1))).symm)) rfl ⟨rfl, rfl, rfl, rfl, rfl, rfl, trivial⟩
          · skip
            refine v_lload hX 49 rfl rfl ?_
            refine v_ldc2 hX tw_438 50 rfl ?_
            refine v_lrem hX (by decide) 51 rfl ?_
            refine v_lconst hX (v := 1) 52 rfl rfl ?_
            refine v_lcmp hX 53 rfl ?_
            refine v_if_ne hX (tgt := 93) 54 rfl (by decide) (fun c86 => ?_) (fun c86 => ?_)
            · skip
              refine v_lconst hX (v := 0) 57 rfl rfl ?_
              exact V.sub (j94 0 (by unfold lsD; exact (if_neg (fun h => h.elim c63 (fun g => c86 g.2))).symm)) rfl ⟨rfl, rfl, rfl, rfl, rfl, rfl, trivial⟩
            · skip
              refine v_lconst hX (v := 1) 55 rfl rfl ?_
              refine v_goto hX (tgt := 94) 56 rfl (by decide) ?_
              exact V.sub (j94 1 (by unfold lsD; exact (if_pos (Or.inr ⟨c75, c86⟩)).symm)) rfl ⟨rfl, rfl, rfl, rfl, rfl, rfl, trivial⟩
      · skip
        obtain ⟨f2, rfl, hE4⟩ := lsE_s hE3 c17
        rw [fbL2, if_neg c17] at he
        refine v_lload_n hX 2 14 rfl rfl rfl ?_
        refine v_ldc2 hX tw_438 15 rfl ?_
        refine v_lmul hX 16 rfl ?_
        refine v_lstore_n hX 2 17 rfl rfl (Nat.le_of_ble_eq_true rfl) rfl ?_
        refine v_iinc hX 18 rfl rfl rfl (Nat.le_of_ble_eq_true rfl) rfl ?_
        refine v_goto hX (tgt := 13) 19 rfl (by decide) ?_
        exact V.sub (ih f2 (by omega) (by omega) (x * 2) (e + Int32.ofInt (-1)) hE4 he) rfl ⟨rfl, rfl, rfl, rfl, trivial⟩
    exact V.sub (lp 6 (Nat.le_refl _) _ 127 (hal2.resolve_left ha0).1 rfl) rfl ⟨rfl, rfl, rfl, rfl, trivial⟩
  · skip
    have ha0 : a = 0 := by have := (nI_eq (a := a) (b := 0) (by omega) (by omega)).mp c1; exact this
    subst ha0
    refine v_iconst hX (v := 0) 2 rfl (by decide) ?_
    refine v_iret hX hQ rfl rfl ?_ ?_ 3 rfl
    · rfl
    · rfl
