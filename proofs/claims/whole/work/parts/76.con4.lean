def mE (cy : Nat → ClassId) (z : Nat) (E : Nat → va_E) : Nat → va_E := fun i => if i < 270 then E i else Gc cy z i
def mJ (cy : Nat → ClassId) (z : Nat) (E : Nat → va_E) (fs : List Value) : Nat → va_E := fun i => if i = 270 then .inr (7, fs) else if i < 270 then E i else if i = 271 then .inl (cy 1, 173, .inl (fun _ => 0)) else Gc cy z i
def va_E_271 (cy : Nat → ClassId) : va_E := .inl (cy 1, 173, .inl (fun j => if j = 0 then 14 else if j = 1 then 30 else 0))
set_option maxRecDepth 100000 in
set_option maxHeartbeats 4000000 in
theorem c_Model {Y : Yc} {E : Nat → va_E} (hE0 : E 270 = .inr (7, [.null, .null, .null, .null, .int 0, .null, .int 0, .null, .null, .null, .null, .null, .int 0, .int 0, .int 0])) : Cn Y yX7_init wsX7_init { frames := 1, cells := 10, slots := 1825, locals := 20 } 270 271 E (mE Y.2.2.1 Y.2.2.2 E) 10 1825 := by
  refine Cn.of (cc := cX7_init) (ins := iX7_init) (maxL := 1) (by decide) rfl dX7_init [some (.ref (Y.2.2.2 + 270))] (Nat.le_of_ble_eq_true rfl) rfl rfl ?_
  intro X hX hI hQ
  refine c_aload_n hX 0 0 rfl rfl rfl ?_
  refine c_objInit hX tw_645 rfl (Nat.le_of_ble_eq_true rfl) (Nat.le_of_ble_eq_true rfl) (Nat.le_of_ble_eq_true rfl) 1 rfl ?_
  refine c_aload_n hX 0 2 rfl rfl rfl ?_
  refine c_sipush hX (v := 173) 3 rfl (by decide) ?_
  refine c_newai hX (m0 := 173) (by omega) (by decide) (by decide) (by decide) (by show 271 - 271 + 1 ≤ 10; omega) (by show 0 + 173 ≤ 1825; omega) 4 rfl ?_
  refine c_putF hX (k := 270) (ci := 7) (C := RX7) (T := TX7) (N := 15) (fs := [.null, .null, .null, .null, .int 0, .null, .int 0, .null, .null, .null, .null, .null, .int 0, .int 0, .int 0]) (by omega) (by omega) ((eu_n (by decide)).trans hE0) rfl inX7 tyX7 tyX7_ok nmX7 0 (by decide) tw_646 rfl hI rfl rfl rfl rfl (Nat.le_of_ble_eq_true rfl) 5 rfl ?_
  refine Vc.nn (n2 := 272) (sl2 := 173) (by omega) (by omega) ?_
  refine Vc.congr (E' := mJ Y.2.2.1 Y.2.2.2 E [.ref (Y.2.2.2 + 271), .null, .null, .null, .int 0, .null, .int 0, .null, .null, .null, .null, .null, .int 0, .int 0, .int 0]) (fun i hi => ?_) ?_
  · by_cases g0 : i = 270
    · subst g0; exact eu_s
    · rw [eu_n g0]
      by_cases g1 : i = 271
      · subst g1; rfl
      · rw [eu_n g1]
        unfold mJ
        rw [if_neg g0, if_pos (by omega)]
  refine c_aload_n hX 0 6 rfl rfl rfl ?_
  refine c_sipush hX (v := 1038) 7 rfl (by decide) ?_
  refine c_newai hX (m0 := 1038) (by omega) (by decide) (by decide) (by decide) (by show 272 - 271 + 1 ≤ 10; omega) (by show 173 + 1038 ≤ 1825; omega) 8 rfl ?_
  refine c_putF hX (k := 270) (ci := 7) (C := RX7) (T := TX7) (N := 15) (fs := [.ref (Y.2.2.2 + 271), .null, .null, .null, .int 0, .null, .int 0, .null, .null, .null, .null, .null, .int 0, .int 0, .int 0]) (by omega) (by omega) rfl rfl inX7 tyX7 tyX7_ok nmX7 1 (by decide) tw_647 rfl hI rfl rfl rfl rfl (Nat.le_of_ble_eq_true rfl) 9 rfl ?_
  refine Vc.nn (n2 := 273) (sl2 := 1211) (by omega) (by omega) ?_
  refine Vc.congr (E' := mJ Y.2.2.1 Y.2.2.2 E [.ref (Y.2.2.2 + 271), .ref (Y.2.2.2 + 272), .null, .null, .int 0, .null, .int 0, .null, .null, .null, .null, .null, .int 0, .int 0, .int 0]) (fun i hi => ?_) ?_
  · by_cases g0 : i = 270
    · subst g0; exact eu_s
    · rw [eu_n g0]
      by_cases g1 : i = 272
      · subst g1; rfl
      · rw [eu_n g1]
        unfold mJ
        rw [if_neg g0, if_neg g0]
  refine c_aload_n hX 0 10 rfl rfl rfl ?_
  refine c_sipush hX (v := 346) 11 rfl (by decide) ?_
  refine c_newai hX (m0 := 346) (by omega) (by decide) (by decide) (by decide) (by show 273 - 271 + 1 ≤ 10; omega) (by show 1211 + 346 ≤ 1825; omega) 12 rfl ?_
  refine c_putF hX (k := 270) (ci := 7) (C := RX7) (T := TX7) (N := 15) (fs := [.ref (Y.2.2.2 + 271), .ref (Y.2.2.2 + 272), .null, .null, .int 0, .null, .int 0, .null, .null, .null, .null, .null, .int 0, .int 0, .int 0]) (by omega) (by omega) rfl rfl inX7 tyX7 tyX7_ok nmX7 2 (by decide) tw_648 rfl hI rfl rfl rfl rfl (Nat.le_of_ble_eq_true rfl) 13 rfl ?_
  refine Vc.nn (n2 := 274) (sl2 := 1557) (by omega) (by omega) ?_
  refine Vc.congr (E' := mJ Y.2.2.1 Y.2.2.2 E [.ref (Y.2.2.2 + 271), .ref (Y.2.2.2 + 272), .ref (Y.2.2.2 + 273), .null, .int 0, .null, .int 0, .null, .null, .null, .null, .null, .int 0, .int 0, .int 0]) (fun i hi => ?_) ?_
  · by_cases g0 : i = 270
    · subst g0; exact eu_s
    · rw [eu_n g0]
      by_cases g1 : i = 273
      · subst g1; rfl
      · rw [eu_n g1]
        unfold mJ
        rw [if_neg g0, if_neg g0]
  refine c_aload_n hX 0 14 rfl rfl rfl ?_
  refine c_iconst hX (v := 2) 15 rfl (by decide) ?_
  refine c_newaz hX (m0 := 2) (by omega) (by decide) (by decide) (by decide) (by show 274 - 271 + 1 ≤ 10; omega) (by show 1557 + 2 ≤ 1825; omega) 16 rfl ?_
  refine c_putF hX (k := 270) (ci := 7) (C := RX7) (T := TX7) (N := 15) (fs := [.ref (Y.2.2.2 + 271), .ref (Y.2.2.2 + 272), .ref (Y.2.2.2 + 273), .null, .int 0, .null, .int 0, .null, .null, .null, .null, .null, .int 0, .int 0, .int 0]) (by omega) (by omega) rfl rfl inX7 tyX7 tyX7_ok nmX7 3 (by decide) tw_649 rfl hI rfl rfl rfl rfl (Nat.le_of_ble_eq_true rfl) 17 rfl ?_
  refine Vc.nn (n2 := 275) (sl2 := 1559) (by omega) (by omega) ?_
  refine Vc.congr (E' := mJ Y.2.2.1 Y.2.2.2 E [.ref (Y.2.2.2 + 271), .ref (Y.2.2.2 + 272), .ref (Y.2.2.2 + 273), .ref (Y.2.2.2 + 274), .int 0, .null, .int 0, .null, .null, .null, .null, .null, .int 0, .int 0, .int 0]) (fun i hi => ?_) ?_
  · by_cases g0 : i = 270
    · subst g0; exact eu_s
    · rw [eu_n g0]
      by_cases g1 : i = 274
      · subst g1; rfl
      · rw [eu_n g1]
        unfold mJ
        rw [if_neg g0, if_neg g0]
  refine c_aload_n hX 0 18 rfl rfl rfl ?_
  refine c_bipush hX (v := 80) 19 rfl (by decide) ?_
  refine c_newac hX (m0 := 80) (by omega) (by decide) (by decide) (by decide) (by show 275 - 271 + 1 ≤ 10; omega) (by show 1559 + 80 ≤ 1825; omega) 20 rfl ?_
  refine c_putF hX (k := 270) (ci := 7) (C := RX7) (T := TX7) (N := 15) (fs := [.ref (Y.2.2.2 + 271), .ref (Y.2.2.2 + 272), .ref (Y.2.2.2 + 273), .ref (Y.2.2.2 + 274), .int 0, .null, .int 0, .null, .null, .null, .null, .null, .int 0, .int 0, .int 0]) (by omega) (by omega) rfl rfl inX7 tyX7 tyX7_ok nmX7 5 (by decide) tw_651 rfl hI rfl rfl rfl rfl (Nat.le_of_ble_eq_true rfl) 21 rfl ?_
  refine Vc.nn (n2 := 276) (sl2 := 1639) (by omega) (by omega) ?_
  refine Vc.congr (E' := mJ Y.2.2.1 Y.2.2.2 E [.ref (Y.2.2.2 + 271), .ref (Y.2.2.2 + 272), .ref (Y.2.2.2 + 273), .ref (Y.2.2.2 + 274), .int 0, .ref (Y.2.2.2 + 275), .int 0, .null, .null, .null, .null, .null, .int 0, .int 0, .int 0]) (fun i hi => ?_) ?_
  · by_cases g0 : i = 270
    · subst g0; exact eu_s
    · rw [eu_n g0]
      by_cases g1 : i = 275
      · subst g1; rfl
      · rw [eu_n g1]
        unfold mJ
        rw [if_neg g0, if_neg g0]
  refine c_aload_n hX 0 22 rfl rfl rfl ?_
  refine c_bipush hX (v := 24) 23 rfl (by decide) ?_
  refine c_newai hX (m0 := 24) (by omega) (by decide) (by decide) (by decide) (by show 276 - 271 + 1 ≤ 10; omega) (by show 1639 + 24 ≤ 1825; omega) 24 rfl ?_
  refine c_putF hX (k := 270) (ci := 7) (C := RX7) (T := TX7) (N := 15) (fs := [.ref (Y.2.2.2 + 271), .ref (Y.2.2.2 + 272), .ref (Y.2.2.2 + 273), .ref (Y.2.2.2 + 274), .int 0, .ref (Y.2.2.2 + 275), .int 0, .null, .null, .null, .null, .null, .int 0, .int 0, .int 0]) (by omega) (by omega) rfl rfl inX7 tyX7 tyX7_ok nmX7 7 (by decide) tw_653 rfl hI rfl rfl rfl rfl (Nat.le_of_ble_eq_true rfl) 25 rfl ?_
  refine Vc.nn (n2 := 277) (sl2 := 1663) (by omega) (by omega) ?_
  refine Vc.congr (E' := mJ Y.2.2.1 Y.2.2.2 E [.ref (Y.2.2.2 + 271), .ref (Y.2.2.2 + 272), .ref (Y.2.2.2 + 273), .ref (Y.2.2.2 + 274), .int 0, .ref (Y.2.2.2 + 275), .int 0, .ref (Y.2.2.2 + 276), .null, .null, .null, .null, .int 0, .int 0, .int 0]) (fun i hi => ?_) ?_
  · by_cases g0 : i = 270
    · subst g0; exact eu_s
    · rw [eu_n g0]
      by_cases g1 : i = 276
      · subst g1; rfl
      · rw [eu_n g1]
        unfold mJ
        rw [if_neg g0, if_neg g0]
  refine c_aload_n hX 0 26 rfl rfl rfl ?_
  refine c_iconst hX (v := 2) 27 rfl (by decide) ?_
  refine c_newai hX (m0 := 2) (by omega) (by decide) (by decide) (by decide) (by show 277 - 271 + 1 ≤ 10; omega) (by show 1663 + 2 ≤ 1825; omega) 28 rfl ?_
  refine c_putF hX (k := 270) (ci := 7) (C := RX7) (T := TX7) (N := 15) (fs := [.ref (Y.2.2.2 + 271), .ref (Y.2.2.2 + 272), .ref (Y.2.2.2 + 273), .ref (Y.2.2.2 + 274), .int 0, .ref (Y.2.2.2 + 275), .int 0, .ref (Y.2.2.2 + 276), .null, .null, .null, .null, .int 0, .int 0, .int 0]) (by omega) (by omega) rfl rfl inX7 tyX7 tyX7_ok nmX7 8 (by decide) tw_654 rfl hI rfl rfl rfl rfl (Nat.le_of_ble_eq_true rfl) 29 rfl ?_
  refine Vc.nn (n2 := 278) (sl2 := 1665) (by omega) (by omega) ?_
  refine Vc.congr (E' := mJ Y.2.2.1 Y.2.2.2 E [.ref (Y.2.2.2 + 271), .ref (Y.2.2.2 + 272), .ref (Y.2.2.2 + 273), .ref (Y.2.2.2 + 274), .int 0, .ref (Y.2.2.2 + 275), .int 0, .ref (Y.2.2.2 + 276), .ref (Y.2.2.2 + 277), .null, .null, .null, .int 0, .int 0, .int 0]) (fun i hi => ?_) ?_
  · by_cases g0 : i = 270
    · subst g0; exact eu_s
    · rw [eu_n g0]
      by_cases g1 : i = 277
      · subst g1; rfl
      · rw [eu_n g1]
        unfold mJ
        rw [if_neg g0, if_neg g0]
  refine c_aload_n hX 0 30 rfl rfl rfl ?_
  refine c_bipush hX (v := 24) 31 rfl (by decide) ?_
  refine c_newai hX (m0 := 24) (by omega) (by decide) (by decide) (by decide) (by show 278 - 271 + 1 ≤ 10; omega) (by show 1665 + 24 ≤ 1825; omega) 32 rfl ?_
  refine c_putF hX (k := 270) (ci := 7) (C := RX7) (T := TX7) (N := 15) (fs := [.ref (Y.2.2.2 + 271), .ref (Y.2.2.2 + 272), .ref (Y.2.2.2 + 273), .ref (Y.2.2.2 + 274), .int 0, .ref (Y.2.2.2 + 275), .int 0, .ref (Y.2.2.2 + 276), .ref (Y.2.2.2 + 277), .null, .null, .null, .int 0, .int 0, .int 0]) (by omega) (by omega) rfl rfl inX7 tyX7 tyX7_ok nmX7 9 (by decide) tw_655 rfl hI rfl rfl rfl rfl (Nat.le_of_ble_eq_true rfl) 33 rfl ?_
  refine Vc.nn (n2 := 279) (sl2 := 1689) (by omega) (by omega) ?_
  refine Vc.congr (E' := mJ Y.2.2.1 Y.2.2.2 E [.ref (Y.2.2.2 + 271), .ref (Y.2.2.2 + 272), .ref (Y.2.2.2 + 273), .ref (Y.2.2.2 + 274), .int 0, .ref (Y.2.2.2 + 275), .int 0, .ref (Y.2.2.2 + 276), .ref (Y.2.2.2 + 277), .ref (Y.2.2.2 + 278), .null, .null, .int 0, .int 0, .int 0]) (fun i hi => ?_) ?_
  · by_cases g0 : i = 270
    · subst g0; exact eu_s
    · rw [eu_n g0]
      by_cases g1 : i = 278
      · subst g1; rfl
      · rw [eu_n g1]
        unfold mJ
        rw [if_neg g0, if_neg g0]
  refine c_aload_n hX 0 34 rfl rfl rfl ?_
  refine c_bipush hX (v := 24) 35 rfl (by decide) ?_
  refine c_newai hX (m0 := 24) (by omega) (by decide) (by decide) (by decide) (by show 279 - 271 + 1 ≤ 10; omega) (by show 1689 + 24 ≤ 1825; omega) 36 rfl ?_
  refine c_putF hX (k := 270) (ci := 7) (C := RX7) (T := TX7) (N := 15) (fs := [.ref (Y.2.2.2 + 271), .ref (Y.2.2.2 + 272), .ref (Y.2.2.2 + 273), .ref (Y.2.2.2 + 274), .int 0, .ref (Y.2.2.2 + 275), .int 0, .ref (Y.2.2.2 + 276), .ref (Y.2.2.2 + 277), .ref (Y.2.2.2 + 278), .null, .null, .int 0, .int 0, .int 0]) (by omega) (by omega) rfl rfl inX7 tyX7 tyX7_ok nmX7 10 (by decide) tw_656 rfl hI rfl rfl rfl rfl (Nat.le_of_ble_eq_true rfl) 37 rfl ?_
  refine Vc.nn (n2 := 280) (sl2 := 1713) (by omega) (by omega) ?_
  refine Vc.congr (E' := mJ Y.2.2.1 Y.2.2.2 E [.ref (Y.2.2.2 + 271), .ref (Y.2.2.2 + 272), .ref (Y.2.2.2 + 273), .ref (Y.2.2.2 + 274), .int 0, .ref (Y.2.2.2 + 275), .int 0, .ref (Y.2.2.2 + 276), .ref (Y.2.2.2 + 277), .ref (Y.2.2.2 + 278), .ref (Y.2.2.2 + 279), .null, .int 0, .int 0, .int 0]) (fun i hi => ?_) ?_
  · by_cases g0 : i = 270
    · subst g0; exact eu_s
    · rw [eu_n g0]
      by_cases g1 : i = 279
      · subst g1; rfl
      · rw [eu_n g1]
        unfold mJ
        rw [if_neg g0, if_neg g0]
  refine c_aload_n hX 0 38 rfl rfl rfl ?_
  refine c_bipush hX (v := 112) 39 rfl (by decide) ?_
  refine c_newai hX (m0 := 112) (by omega) (by decide) (by decide) (by decide) (by show 280 - 271 + 1 ≤ 10; omega) (by show 1713 + 112 ≤ 1825; omega) 40 rfl ?_
  refine c_putF hX (k := 270) (ci := 7) (C := RX7) (T := TX7) (N := 15) (fs := [.ref (Y.2.2.2 + 271), .ref (Y.2.2.2 + 272), .ref (Y.2.2.2 + 273), .ref (Y.2.2.2 + 274), .int 0, .ref (Y.2.2.2 + 275), .int 0, .ref (Y.2.2.2 + 276), .ref (Y.2.2.2 + 277), .ref (Y.2.2.2 + 278), .ref (Y.2.2.2 + 279), .null, .int 0, .int 0, .int 0]) (by omega) (by omega) rfl rfl inX7 tyX7 tyX7_ok nmX7 11 (by decide) tw_657 rfl hI rfl rfl rfl rfl (Nat.le_of_ble_eq_true rfl) 41 rfl ?_
  refine Vc.nn (n2 := 281) (sl2 := 1825) (by omega) (by omega) ?_
  refine Vc.congr (E' := mJ Y.2.2.1 Y.2.2.2 E [.ref (Y.2.2.2 + 271), .ref (Y.2.2.2 + 272), .ref (Y.2.2.2 + 273), .ref (Y.2.2.2 + 274), .int 0, .ref (Y.2.2.2 + 275), .int 0, .ref (Y.2.2.2 + 276), .ref (Y.2.2.2 + 277), .ref (Y.2.2.2 + 278), .ref (Y.2.2.2 + 279), .ref (Y.2.2.2 + 280), .int 0, .int 0, .int 0]) (fun i hi => ?_) ?_
  · by_cases g0 : i = 270
    · subst g0; exact eu_s
    · rw [eu_n g0]
      by_cases g1 : i = 280
      · subst g1; rfl
      · rw [eu_n g1]
        unfold mJ
        rw [if_neg g0, if_neg g0]
  refine c_aload_n hX 0 42 rfl rfl rfl ?_
  refine c_get hX (k := 270) (ci := 7) (C := RX7) (T := TX7) (N := 15) (fs := [.ref (Y.2.2.2 + 271), .ref (Y.2.2.2 + 272), .ref (Y.2.2.2 + 273), .ref (Y.2.2.2 + 274), .int 0, .ref (Y.2.2.2 + 275), .int 0, .ref (Y.2.2.2 + 276), .ref (Y.2.2.2 + 277), .ref (Y.2.2.2 + 278), .ref (Y.2.2.2 + 279), .ref (Y.2.2.2 + 280), .int 0, .int 0, .int 0]) (by omega) rfl rfl inX7 0 (by decide) tw_646 rfl rfl 43 rfl ?_
  refine c_iconst hX (v := 0) 44 rfl (by decide) ?_
  refine c_bipush hX (v := 14) 45 rfl (by decide) ?_
  refine c_iast hX (k := 271) (j := 0) (f := fun _ => 0) (m0 := 173) (by omega) (by omega) rfl rfl (vpin (j := 0) (by decide) (by decide)) 46 rfl ?_
  refine c_aload_n hX 0 47 rfl rfl rfl ?_
  refine c_get hX (k := 270) (ci := 7) (C := RX7) (T := TX7) (N := 15) (fs := [.ref (Y.2.2.2 + 271), .ref (Y.2.2.2 + 272), .ref (Y.2.2.2 + 273), .ref (Y.2.2.2 + 274), .int 0, .ref (Y.2.2.2 + 275), .int 0, .ref (Y.2.2.2 + 276), .ref (Y.2.2.2 + 277), .ref (Y.2.2.2 + 278), .ref (Y.2.2.2 + 279), .ref (Y.2.2.2 + 280), .int 0, .int 0, .int 0]) (by omega) rfl rfl inX7 0 (by decide) tw_646 rfl rfl 48 rfl ?_
  refine c_iconst hX (v := 1) 49 rfl (by decide) ?_
  refine c_bipush hX (v := 30) 50 rfl (by decide) ?_
  refine c_iast hX (k := 271) (j := 1) (f := upd (fun _ => 0) 0 14) (m0 := 173) (by omega) (by omega) eu_s rfl (vpin (j := 1) (by decide) (by decide)) 51 rfl ?_
  exact c_vret hX hI hQ rfl rfl (fun i hi => by
    by_cases g1 : i = 271
    · subst g1
      rw [eu_s]
      show _ = va_E_271 Y.2.2.1
      unfold va_E_271
      congr 4
      funext j
      unfold upd
      by_cases q1 : j = 1
      · subst q1; rfl
      · rw [if_neg q1]
        by_cases q0 : j = 0
        · subst q0; rfl
        · rw [if_neg q0, if_neg q0, if_neg q1]
    · rw [eu_n g1, eu_n g1]
      unfold mJ mE
      by_cases g0 : i = 270
      · subst g0; rfl
      · rw [if_neg g0]
        by_cases g2 : i < 270
        · rw [if_pos g2, if_pos g2]
        · rw [if_neg g2, if_neg g1, if_neg g2]) 52 rfl
