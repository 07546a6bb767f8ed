set_option maxRecDepth 100000 in
set_option maxHeartbeats 4000000 in
theorem c_Point {Y : Yc} {E : Nat → va_E} {n i0 : Nat} : Cn Y yX4_init wsX4_init { frames := 1, cells := 0, slots := 0, locals := 20 } i0 n E E 0 0 := by
  refine Cn.of (cc := cX4_init) (ins := iX4_init) (maxL := 1) (by decide) rfl dX4_init [some (.ref (Y.2.2.2 + i0))] (Nat.le_of_ble_eq_true rfl) rfl rfl ?_
  intro X hX hI hQ
  refine c_aload_n hX 0 0 rfl rfl rfl ?_
  refine c_objInit hX tw_68 rfl (Nat.le_of_ble_eq_true rfl) (Nat.le_of_ble_eq_true rfl) (Nat.le_of_ble_eq_true rfl) 1 rfl ?_
  exact c_vret hX hI hQ rfl rfl (fun _ _ => rfl) 2 rfl
set_option maxRecDepth 100000 in
set_option maxHeartbeats 4000000 in
theorem c_Reader {Y : Yc} {E : Nat → va_E} {n i0 : Nat} : Cn Y yX5_init wsX5_init { frames := 1, cells := 0, slots := 0, locals := 20 } i0 n E E 0 0 := by
  refine Cn.of (cc := cX5_init) (ins := iX5_init) (maxL := 1) (by decide) rfl dX5_init [some (.ref (Y.2.2.2 + i0))] (Nat.le_of_ble_eq_true rfl) rfl rfl ?_
  intro X hX hI hQ
  refine c_aload_n hX 0 0 rfl rfl rfl ?_
  refine c_objInit hX tw_161 rfl (Nat.le_of_ble_eq_true rfl) (Nat.le_of_ble_eq_true rfl) (Nat.le_of_ble_eq_true rfl) 1 rfl ?_
  exact c_vret hX hI hQ rfl rfl (fun _ _ => rfl) 2 rfl
set_option maxRecDepth 100000 in
set_option maxHeartbeats 4000000 in
theorem c_Bundle {Y : Yc} {E : Nat → va_E} {b : Nat} (hE : E b = nB) : Cn Y yX0_init wsX0_init { frames := 2, cells := 25, slots := 192, locals := 40 } b (b + 1) E (bE Y.2.2.1 Y.2.2.2 b E) 25 192 := by
  refine Cn.of (cc := cX0_init) (ins := iX0_init) (maxL := 2) (by decide) rfl dX0_init [some (.ref (Y.2.2.2 + b)), none] (Nat.le_of_ble_eq_true rfl) rfl rfl ?_
  intro X hX hI hQ
  have hz4 : Y.2.2.1 4 = Y.2.2.1 4 := rfl
  refine c_aload_n hX 0 0 rfl rfl rfl ?_
  refine c_objInit hX tw_61 rfl (Nat.le_of_ble_eq_true rfl) (Nat.le_of_ble_eq_true rfl) (Nat.le_of_ble_eq_true rfl) 1 rfl ?_
  refine c_aload_n hX 0 2 rfl rfl rfl ?_
  refine c_bipush hX (v := 24) 3 rfl (by decide) ?_
  refine c_newqP hX (m0 := 24) (by omega) tw_62 (by decide) (by decide) (by decide) (by show (b + 1) - (b + 1) + 1 ≤ 25; omega) (by show 0 + 24 ≤ 192; omega) 4 rfl ?_
  refine c_putF hX (k := b) (ci := 0) (C := RX0) (T := TX0) (N := 6) (fs := [.null, .int 0, .int 0, .int 0, .int 0, .int 0]) (by omega) (by omega) ((eu_n (by omega)).trans hE) rfl inX0 tyX0 tyX0_ok nmX0 0 (by decide) tw_104 rfl hI rfl rfl rfl rfl (Nat.le_of_ble_eq_true rfl) 5 rfl ?_
  refine c_aload_n hX 0 6 rfl rfl rfl ?_
  refine c_bipush hX (v := 14) 7 rfl (by decide) ?_
  refine c_put hX (k := b) (ci := 0) (C := RX0) (T := TX0) (N := 6) (fs := [.ref (Y.2.2.2 + (b + 1)), .int 0, .int 0, .int 0, .int 0, .int 0]) (by omega) (by omega) eu_s rfl inX0 tyX0 tyX0_ok nmX0 4 (by decide) tw_111 rfl rfl rfl rfl (Nat.le_of_ble_eq_true rfl) 8 rfl ?_
  refine c_aload_n hX 0 9 rfl rfl rfl ?_
  refine c_bipush hX (v := 30) 10 rfl (by decide) ?_
  refine c_put hX (k := b) (ci := 0) (C := RX0) (T := TX0) (N := 6) (fs := [.ref (Y.2.2.2 + (b + 1)), .int 0, .int 0, .int 0, .int 14, .int 0]) (by omega) (by omega) eu_s rfl inX0 tyX0 tyX0_ok nmX0 5 (by decide) tw_113 rfl rfl rfl rfl (Nat.le_of_ble_eq_true rfl) 11 rfl ?_
  refine c_iconst hX (v := 0) 12 rfl (by decide) ?_
  refine c_istore_n hX 1 13 rfl rfl (Nat.le_of_ble_eq_true rfl) rfl ?_
  have lp : ∀ t, t ≤ 24 → Vc Y X (b + 1) (bJ Y.2.2.1 Y.2.2.2 b E t) (b + 2 + t) (24 + 7 * t) 27 [some (.ref (Y.2.2.2 + b)), some (.int (nI t))] [] := by
    refine upTo 24 (fun t ht ih => ?_)
    refine c_iload_n hX 1 14 rfl rfl rfl ?_
    refine c_aload_n hX 0 15 rfl rfl rfl ?_
    refine c_get hX (k := b) (ci := 0) (C := RX0) (T := TX0) (N := 6) (fs := [.ref (Y.2.2.2 + (b + 1)), .int 0, .int 0, .int 0, .int 14, .int 30]) (by omega) bJ_b rfl inX0 0 (by decide) tw_104 rfl rfl 16 rfl ?_
    refine c_alen hX (k := b + 1) (t0 := 4) (v := nI 24) (by omega) bJ_r rfl rfl 17 rfl ?_
    refine c_icmp_ge hX (tgt := 55) 18 rfl (by decide) (fun c => ?_) (fun c => ?_)
    · have e24 : t = 24 := by have := of_le (k := t) c (by decide) (by omega); omega
      subst e24
      refine Vc.nn (n2 := b + 26) (sl2 := 192) (by omega) (by omega) ?_
      refine Vc.congr (E' := eu (bE Y.2.2.1 Y.2.2.2 b E) (b + 1) (.inl (Y.2.2.1 4, 24, .inr (.inr (.inr (.inr (fun j => if j < 24 then some (Y.2.2.2 + (b + 2 + j)) else none))))))) (fun i hi => ?_) ?_
      · unfold eu bJ bE
        by_cases g1 : i = b
        · rw [if_pos g1, if_neg (by omega), if_pos g1]
        · by_cases g2 : i = b + 1
          · rw [if_neg g1, if_pos g2, if_pos g2]
          · rw [if_neg g1, if_neg g2, if_neg g2, if_neg g1, if_neg g2]
      refine Vc.arr (g := fun j => some (Y.2.2.2 + (b + 2 + j))) (fun j hj => if_pos hj) ?_
      exact c_vret hX hI hQ (by omega) rfl (fun i hi => by
        unfold eu bE
        by_cases g2 : i = b + 1
        · rw [if_pos g2, if_neg (by omega), if_pos g2]
        · rw [if_neg g2]) 28 rfl
    · have hlt : t < 24 := Nat.lt_of_not_le (fun q => c (by rcases Nat.lt_or_ge t 24 with g | g; exact absurd q (by omega); exact (nI_leI (by decide) (by omega)).mpr g))
      refine c_aload_n hX 0 19 rfl rfl rfl ?_
      refine c_get hX (k := b) (ci := 0) (C := RX0) (T := TX0) (N := 6) (fs := [.ref (Y.2.2.2 + (b + 1)), .int 0, .int 0, .int 0, .int 14, .int 30]) (by omega) bJ_b rfl inX0 0 (by decide) tw_104 rfl rfl 20 rfl ?_
      refine c_iload_n hX 1 21 rfl rfl rfl ?_
      refine c_new hX (ci := 4) (C := RX4) (T := TX4) (N := 7) (fs := [.int 0, .int 0, .int 0, .int 0, .int 0, .int 0, .int 0]) (by omega) rfl inX4 tyX4 tyX4_ok tw_62 tw_64 tw_41 (fun j hj => by rcases (show j = 0 ∨ j = 1 ∨ j = 2 ∨ j = 3 ∨ j = 4 ∨ j = 5 ∨ j = 6 by omega) with rfl | rfl | rfl | rfl | rfl | rfl | rfl <;> rfl) (by show (b + 2 + t) - (b + 1) + 1 ≤ 25; omega) (by show 24 + 7 * t + 7 ≤ 192; omega) 22 rfl ?_
      refine c_dup hX 23 rfl rfl ?_
      refine c_callIN hX (by omega) (by omega) (c_Point (i0 := b + 2 + t)) tw_67 (List.mem_of_getElem? (i := 1) rfl) tw_41 tw_66 rfl ⟨by decide, by decide, by decide +kernel⟩ ⟨⟨rfl, rfl⟩, (Nat.le_of_ble_eq_true rfl), (Nat.le_of_ble_eq_true rfl)⟩ ⟨(by show (b + 2 + t + 1) - (b + 1) + 0 ≤ 25; omega), (by show 24 + 7 * t + 7 + 0 ≤ 192; omega)⟩ rfl (Nat.le_of_ble_eq_true rfl) 24 rfl ?_
      refine c_aast hX (k := b + 1) (t0 := 4) (v := b + 2 + t) (ci := 4) (C := RX4) (T := TX4) (N := 7) (j := t) (by omega) (by omega) ((eu_n (by omega)).trans bJ_r) rfl (by omega) eu_s rfl (nI_cn (by omega)) (vpin hlt (by decide)) 25 rfl ?_
      refine c_iinc hX (v := nI (t + 1)) 26 rfl rfl (nI_inc t) (Nat.le_of_ble_eq_true rfl) rfl ?_
      refine c_goto hX (tgt := 27) 27 rfl (by decide) ?_
      refine Vc.nn (n2 := b + 2 + (t + 1)) (sl2 := 24 + 7 * (t + 1)) (by omega) (by omega) ?_
      refine Vc.congr (fun i hi => ?_) (ih hlt)
      unfold eu bJ
      by_cases g1 : i = b
      · rw [if_neg (by omega), if_neg (by omega), if_pos g1, if_pos g1]
      by_cases g2 : i = b + 1
      · rw [if_pos g2, if_neg g1, if_pos g2]
        congr 7
        funext j
        unfold va_up
        by_cases q : j = t
        · subst q; rw [if_pos rfl, if_pos (by omega)]
        · rw [if_neg q]
          dsimp only
          by_cases q2 : j < t
          · rw [if_pos q2, if_pos (by omega)]
          · rw [if_neg q2, if_neg (by omega)]
      rw [if_neg g2]
      by_cases g3 : i = b + 2 + t
      · rw [if_pos g3, if_neg (by omega), if_neg (by omega), if_neg (by omega)]; rfl
      · rw [if_neg g3, if_neg g1, if_neg g2, if_neg g1, if_neg g2]
  refine Vc.nn (n2 := b + 2 + 0) (sl2 := 24 + 7 * 0) (by omega) (by omega) ?_
  refine Vc.congr (fun i hi => ?_) (lp 0 (Nat.zero_le _))
  unfold eu bJ
  by_cases g1 : i = b
  · rw [if_pos g1, if_pos g1]; rfl
  by_cases g2 : i = b + 1
  · rw [if_neg g1, if_neg g1, if_neg g1, if_pos g2, if_neg g1, if_pos g2]
    congr 5
  · rw [if_neg g1, if_neg g1, if_neg g1, if_neg g2, if_neg g1, if_neg g2, if_pos (by omega)]
