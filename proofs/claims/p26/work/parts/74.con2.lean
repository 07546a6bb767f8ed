def cE (cy : Nat → ClassId) (z c : Nat) (E : Nat → va_E) : Nat → va_E := fun i => if i = c then .inr (1, [.ref (z + (c + 1)), .ref (z + (c + 1 + 1))]) else if i < c then E i else .inl (cy 1, 24, .inl (fun _ => 0))
set_option maxRecDepth 100000 in
set_option maxHeartbeats 4000000 in
theorem c_Costs {Y : Yc} {E : Nat → va_E} {c : Nat} (hE : E c = .inr (1, [.null, .null])) : Cn Y yX1_init wsX1_init { frames := 1, cells := 2, slots := 48, locals := 20 } c (c + 1) E (cE Y.2.2.1 Y.2.2.2 c E) 2 48 := by
  refine Cn.of (cc := cX1_init) (ins := iX1_init) (maxL := 1) (by decide) rfl dX1_init [some (.ref (Y.2.2.2 + c))] (Nat.le_of_ble_eq_true rfl) rfl rfl ?_
  intro X hX hI hQ
  refine c_aload_n hX 0 0 rfl rfl rfl ?_
  refine c_objInit hX tw_133 rfl (Nat.le_of_ble_eq_true rfl) (Nat.le_of_ble_eq_true rfl) (Nat.le_of_ble_eq_true rfl) 1 rfl ?_
  refine c_aload_n hX 0 2 rfl rfl rfl ?_
  refine c_bipush hX (v := 24) 3 rfl (by decide) ?_
  refine c_newai hX (m0 := 24) (by omega) (by decide) (by decide) (by decide) (by show (c + 1) - (c + 1) + 1 ≤ 2; omega) (by show 0 + 24 ≤ 48; omega) 4 rfl ?_
  refine c_putF hX (k := c) (ci := 1) (C := RX1) (T := TX1) (N := 2) (fs := [.null, .null]) (by omega) (by omega) ((eu_n (by omega)).trans hE) rfl inX1 tyX1 tyX1_ok nmX1 0 (by decide) tw_134 rfl hI rfl rfl rfl rfl (Nat.le_of_ble_eq_true rfl) 5 rfl ?_
  refine c_aload_n hX 0 6 rfl rfl rfl ?_
  refine c_bipush hX (v := 24) 7 rfl (by decide) ?_
  refine c_newai hX (m0 := 24) (by omega) (by decide) (by decide) (by decide) (by show (c + 1 + 1) - (c + 1) + 1 ≤ 2; omega) (by show (0 + 24) + 24 ≤ 48; omega) 8 rfl ?_
  refine c_putF hX (k := c) (ci := 1) (C := RX1) (T := TX1) (N := 2) (fs := [.ref (Y.2.2.2 + (c + 1)), .null]) (by omega) (by omega) ((eu_n (by omega)).trans eu_s) rfl inX1 tyX1 tyX1_ok nmX1 1 (by decide) tw_135 rfl hI rfl rfl rfl rfl (Nat.le_of_ble_eq_true rfl) 9 rfl ?_
  exact c_vret hX hI hQ (by omega) rfl (fun i hi => by
    unfold eu cE
    by_cases g1 : i = c
    · rw [if_pos g1, if_pos g1]; rfl
    · by_cases g2 : i = c + 1
      · have q1 : ¬ i = c + 1 + 1 := by omega
        have q2 : ¬ i < c := by omega
        rw [if_neg g1, if_neg q1, if_neg g1, if_pos g2, if_neg g1, if_neg q2]
      · by_cases g3 : i = c + 1 + 1
        · have q2 : ¬ i < c := by omega
          rw [if_neg g1, if_pos g3, if_neg g1, if_neg q2]
        · have q2 : i < c := by omega
          rw [if_neg g1, if_neg g3, if_neg g1, if_neg g2, if_neg g1, if_pos q2]) 10 rfl
def dE (cy : Nat → ClassId) (z c : Nat) (E : Nat → va_E) : Nat → va_E := fun i => if i = c then .inr (3, [.ref (z + (c + 1)), .int 0]) else if i < c then E i else .inl (cy 0, 80, .inl (fun _ => 0))
set_option maxRecDepth 100000 in
set_option maxHeartbeats 4000000 in
theorem c_Pad {Y : Yc} {E : Nat → va_E} {c : Nat} (hE : E c = .inr (3, [.null, .int 0])) : Cn Y yX3_init wsX3_init { frames := 1, cells := 1, slots := 80, locals := 20 } c (c + 1) E (dE Y.2.2.1 Y.2.2.2 c E) 1 80 := by
  refine Cn.of (cc := cX3_init) (ins := iX3_init) (maxL := 1) (by decide) rfl dX3_init [some (.ref (Y.2.2.2 + c))] (Nat.le_of_ble_eq_true rfl) rfl rfl ?_
  intro X hX hI hQ
  refine c_aload_n hX 0 0 rfl rfl rfl ?_
  refine c_objInit hX tw_147 rfl (Nat.le_of_ble_eq_true rfl) (Nat.le_of_ble_eq_true rfl) (Nat.le_of_ble_eq_true rfl) 1 rfl ?_
  refine c_aload_n hX 0 2 rfl rfl rfl ?_
  refine c_bipush hX (v := 80) 3 rfl (by decide) ?_
  refine c_newac hX (m0 := 80) (by omega) (by decide) (by decide) (by decide) (by show (c + 1) - (c + 1) + 1 ≤ 1; omega) (by show 0 + 80 ≤ 80; omega) 4 rfl ?_
  refine c_putF hX (k := c) (ci := 3) (C := RX3) (T := TX3) (N := 2) (fs := [.null, .int 0]) (by omega) (by omega) ((eu_n (by omega)).trans hE) rfl inX3 tyX3 tyX3_ok nmX3 0 (by decide) tw_148 rfl hI rfl rfl rfl rfl (Nat.le_of_ble_eq_true rfl) 5 rfl ?_
  exact c_vret hX hI hQ (by omega) rfl (fun i hi => by
    unfold eu dE
    by_cases g1 : i = c
    · rw [if_pos g1, if_pos g1]; rfl
    · rw [if_neg g1, if_neg g1]
      by_cases g2 : i = c + 1
      · rw [if_pos g2, if_neg (by omega)]
      · rw [if_neg g2, if_pos (by omega)]) 6 rfl
def hE (cy : Nat → ClassId) (z : Nat) (E : Nat → va_E) : Nat → va_E := fun i => if i < 33 then E i else Gc cy z i
def hJ (cy : Nat → ClassId) (z : Nat) (E : Nat → va_E) (t : Nat) : Nat → va_E := fun i => if i = 34 then .inl (cy 3, 7, .inr (.inr (.inr (.inr (fun j => if j < t then some (z + (35 + 26 * j)) else none))))) else if i < 33 then E i else Gc cy z i
theorem hJ_33 {cy : Nat → ClassId} {z t : Nat} {E : Nat → va_E} : hJ cy z E t 33 = .inr (2, [.ref (z + 34), .int 0]) := rfl
theorem hJ_34 {cy : Nat → ClassId} {z t : Nat} {E : Nat → va_E} : hJ cy z E t 34 = .inl (cy 3, 7, .inr (.inr (.inr (.inr (fun j => if j < t then some (z + (35 + 26 * j)) else none))))) := if_pos rfl
theorem Gc_34 {cy : Nat → ClassId} {z : Nat} : Gc cy z 34 = .inl (cy 3, 7, .inr (.inr (.inr (.inr (fun j => some (z + (35 + 26 * j))))))) := rfl
set_option maxRecDepth 100000 in
set_option maxHeartbeats 4000000 in
theorem c_History {Y : Yc} {E : Nat → va_E} (hE0 : E 33 = .inr (2, [.null, .int 0])) : Cn Y yX2_init wsX2_init { frames := 3, cells := 183, slots := 1393, locals := 61 } 33 34 E (hE Y.2.2.1 Y.2.2.2 E) 183 1393 := by
  refine Cn.of (cc := cX2_init) (ins := iX2_init) (maxL := 2) (by decide) rfl dX2_init [some (.ref (Y.2.2.2 + 33)), none] (Nat.le_of_ble_eq_true rfl) rfl rfl ?_
  intro X hX hI hQ
  refine c_aload_n hX 0 0 rfl rfl rfl ?_
  refine c_objInit hX tw_180 rfl (Nat.le_of_ble_eq_true rfl) (Nat.le_of_ble_eq_true rfl) (Nat.le_of_ble_eq_true rfl) 1 rfl ?_
  refine c_aload_n hX 0 2 rfl rfl rfl ?_
  refine c_bipush hX (v := 7) 3 rfl (by decide) ?_
  refine c_newqB hX (m0 := 7) (by omega) tw_181 (by decide) (by decide) (by decide) (by show 34 - 34 + 1 ≤ 183; omega) (by show 0 + 7 ≤ 1393; omega) 4 rfl ?_
  refine c_putF hX (k := 33) (ci := 2) (C := RX2) (T := TX2) (N := 2) (fs := [.null, .int 0]) (by omega) (by omega) ((eu_n (by decide)).trans hE0) rfl inX2 tyX2 tyX2_ok nmX2 0 (by decide) tw_184 rfl hI rfl rfl rfl rfl (Nat.le_of_ble_eq_true rfl) 5 rfl ?_
  refine c_iconst hX (v := 0) 6 rfl (by decide) ?_
  refine c_istore_n hX 1 7 rfl rfl (Nat.le_of_ble_eq_true rfl) rfl ?_
  have lp : ∀ t, t ≤ 7 → Vc Y X 34 (hJ Y.2.2.1 Y.2.2.2 E t) (35 + 26 * t) (7 + 198 * t) 15 [some (.ref (Y.2.2.2 + 33)), some (.int (nI t))] [] := by
    refine upTo 7 (fun t ht ih => ?_)
    refine c_iload_n hX 1 8 rfl rfl rfl ?_
    refine c_aload_n hX 0 9 rfl rfl rfl ?_
    refine c_get hX (k := 33) (ci := 2) (C := RX2) (T := TX2) (N := 2) (fs := [.ref (Y.2.2.2 + 34), .int 0]) (by omega) hJ_33 rfl inX2 0 (by decide) tw_184 rfl rfl 10 rfl ?_
    refine c_alen hX (k := 34) (t0 := 3) (v := nI 7) (by omega) hJ_34 rfl rfl 11 rfl ?_
    refine c_icmp_ge hX (tgt := 43) 12 rfl (by decide) (fun c => ?_) (fun c => ?_)
    · have e7 : t = 7 := by have := of_le (k := t) c (by decide) (by omega); omega
      subst e7
      refine Vc.nn (n2 := 217) (sl2 := 1393) (by omega) (by omega) ?_
      refine Vc.congr (E' := eu (hE Y.2.2.1 Y.2.2.2 E) 34 (.inl (Y.2.2.1 3, 7, .inr (.inr (.inr (.inr (fun j => if j < 7 then some (Y.2.2.2 + (35 + 26 * j)) else none))))))) (fun i hi => ?_) ?_
      · unfold eu hJ hE
        by_cases g : i = 34
        · rw [if_pos g]
        · rw [if_neg g]
      refine Vc.arr (g := fun j => some (Y.2.2.2 + (35 + 26 * j))) (fun j hj => if_pos hj) ?_
      exact c_vret hX hI hQ rfl rfl (fun i hi => by
        unfold eu
        by_cases g : i = 34
        · rw [if_pos g, g]; rfl
        · rw [if_neg g]) 22 rfl
    · have hlt : t < 7 := Nat.lt_of_not_le (fun q => c (by rcases Nat.lt_or_ge t 7 with g | g; exact absurd q (by omega); exact (nI_leI (by decide) (by omega)).mpr g))
      refine c_aload_n hX 0 13 rfl rfl rfl ?_
      refine c_get hX (k := 33) (ci := 2) (C := RX2) (T := TX2) (N := 2) (fs := [.ref (Y.2.2.2 + 34), .int 0]) (by omega) hJ_33 rfl inX2 0 (by decide) tw_184 rfl rfl 14 rfl ?_
      refine c_iload_n hX 1 15 rfl rfl rfl ?_
      refine c_new hX (ci := 0) (C := RX0) (T := TX0) (N := 6) (fs := [.null, .int 0, .int 0, .int 0, .int 0, .int 0]) (by omega) rfl inX0 tyX0 tyX0_ok tw_181 tw_57 tw_40 (fun j hj => by rcases (show j = 0 ∨ j = 1 ∨ j = 2 ∨ j = 3 ∨ j = 4 ∨ j = 5 by omega) with rfl | rfl | rfl | rfl | rfl | rfl <;> rfl) (by show (35 + 26 * t) - 34 + 1 ≤ 183; omega) (by show 7 + 198 * t + 6 ≤ 1393; omega) 16 rfl ?_
      refine c_dup hX 17 rfl rfl ?_
      refine c_callIN hX (by omega) (by omega) (c_Bundle (b := 35 + 26 * t) eu_s) tw_60 (List.mem_of_getElem? (i := 6) rfl) tw_40 tw_59 rfl ⟨by decide, by decide, by decide +kernel⟩ ⟨⟨rfl, rfl⟩, (Nat.le_of_ble_eq_true rfl), (Nat.le_of_ble_eq_true rfl)⟩ ⟨(by show (35 + 26 * t + 1) - 34 + 25 ≤ 183; omega), (by show 7 + 198 * t + 6 + 192 ≤ 1393; omega)⟩ rfl (Nat.le_of_ble_eq_true rfl) 18 rfl ?_
      refine c_aast hX (k := 34) (t0 := 3) (v := 35 + 26 * t) (ci := 0) (C := RX0) (T := TX0) (N := 6) (j := t) (by omega) (by omega) ((bE_l (by omega)).trans ((eu_n (by omega)).trans hJ_34)) rfl (by omega) bE_b rfl (nI_cn (by omega)) (vpin hlt (by decide)) 19 rfl ?_
      refine c_iinc hX (v := nI (t + 1)) 20 rfl rfl (nI_inc t) (Nat.le_of_ble_eq_true rfl) rfl ?_
      refine c_goto hX (tgt := 15) 21 rfl (by decide) ?_
      refine Vc.nn (n2 := 35 + 26 * (t + 1)) (sl2 := 7 + 198 * (t + 1)) (by omega) (by omega) ?_
      refine Vc.congr (fun i hi => ?_) (ih hlt)
      by_cases g2 : i = 34
      · subst g2
        rw [eu_s, hJ_34]
        congr 7
        funext j
        unfold va_up
        by_cases q : j = t
        · subst q; rw [if_pos rfl, if_pos (by omega)]
        · rw [if_neg q]
          dsimp only
          by_cases q2 : j < t
          · rw [if_pos q2, if_pos (by omega)]
          · rw [if_neg q2, if_neg (by omega)]
      rw [eu_n g2]
      rcases Nat.lt_or_ge i (35 + 26 * t) with g | g
      · rw [bE_l g, eu_n (by omega)]
        unfold hJ
        rw [if_neg g2, if_neg g2]
      · rw [Gc_b (isB_h hlt) g (by omega)]
        unfold hJ
        rw [if_neg g2, if_neg (by omega)]
  refine Vc.nn (n2 := 35 + 26 * 0) (sl2 := 7 + 198 * 0) (by omega) (by omega) ?_
  refine Vc.congr (fun i hi => ?_) (lp 0 (Nat.zero_le _))
  unfold eu hJ
  by_cases g1 : i = 33
  · subst g1; rfl
  by_cases g2 : i = 34
  · subst g2
    rw [if_neg (by decide), if_pos rfl, if_pos rfl]
    rfl
  · rw [if_neg g1, if_neg g2, if_neg g2, if_pos (by omega)]
