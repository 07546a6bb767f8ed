def pA (cy : Nat → ClassId) (z : Nat) (fs : List Value) : Nat → va_E := fun i => if i = 0 then .inr (6, fs) else Gc cy z i
theorem pA_0 {cy : Nat → ClassId} {z : Nat} {fs : List Value} : pA cy z fs 0 = .inr (6, fs) := rfl
theorem pA_n {cy : Nat → ClassId} {z i : Nat} {fs : List Value} (h : i ≠ 0) : pA cy z fs i = Gc cy z i := if_neg h
def sJ (cy : Nat → ClassId) (z : Nat) (fs : List Value) (t : Nat) : Nat → va_E := fun i => if i = 217 then .inl (cy 3, 2, .inr (.inr (.inr (.inr (fun j => if j < t then some (z + (218 + 26 * j)) else none))))) else if i = 0 then .inr (6, fs) else Gc cy z i
theorem sJ_217 {cy : Nat → ClassId} {z t : Nat} {fs : List Value} : sJ cy z fs t 217 = .inl (cy 3, 2, .inr (.inr (.inr (.inr (fun j => if j < t then some (z + (218 + 26 * j)) else none))))) := if_pos rfl
theorem sJ_0 {cy : Nat → ClassId} {z t : Nat} {fs : List Value} : sJ cy z fs t 0 = .inr (6, fs) := rfl
theorem sJ_n {cy : Nat → ClassId} {z t i : Nat} {fs : List Value} (h : i ≠ 217) (h0 : i ≠ 0) : sJ cy z fs t i = Gc cy z i := by
  unfold sJ
  rw [if_neg h, if_neg h0]
theorem Gc_217 {cy : Nat → ClassId} {z : Nat} : Gc cy z 217 = .inl (cy 3, 2, .inr (.inr (.inr (.inr (fun j => some (z + (218 + 26 * j))))))) := rfl
set_option maxRecDepth 100000 in
set_option maxHeartbeats 4000000 in
theorem c_PA {Y : Yc} {E : Nat → va_E} (hE0 : E 0 = .inr (6, [.null, .null, .null, .null, .null, .null, .int 0])) : Cn Y yX6_init wsX6_init { frames := 4, cells := 269, slots := 2129, locals := 82 } 0 1 E (Gc Y.2.2.1 Y.2.2.2) 269 2129 := by
  refine Cn.of (cc := cX6_init) (ins := iX6_init) (maxL := 2) (by decide) rfl dX6_init [some (.ref (Y.2.2.2 + 0)), none] (Nat.le_of_ble_eq_true rfl) rfl rfl ?_
  intro X hX hI hQ
  refine c_aload_n hX 0 0 rfl rfl rfl ?_
  refine c_objInit hX tw_53 rfl (Nat.le_of_ble_eq_true rfl) (Nat.le_of_ble_eq_true rfl) (Nat.le_of_ble_eq_true rfl) 1 rfl ?_
  refine c_aload_n hX 0 2 rfl rfl rfl ?_
  refine c_new hX (ci := 0) (C := RX0) (T := TX0) (N := 6) (fs := [.null, .int 0, .int 0, .int 0, .int 0, .int 0]) (by omega) rfl inX0 tyX0 tyX0_ok tw_56 tw_57 tw_40 (fun j hj => by rcases (show j = 0 ∨ j = 1 ∨ j = 2 ∨ j = 3 ∨ j = 4 ∨ j = 5 by omega) with rfl | rfl | rfl | rfl | rfl | rfl <;> rfl) (by show 1 - 1 + 1 ≤ 269; omega) (by show 0 + 6 ≤ 2129; omega) 3 rfl ?_
  refine c_dup hX 4 rfl rfl ?_
  refine c_callIN hX (by omega) (by omega) (c_Bundle (b := 1) eu_s) tw_60 (List.mem_of_getElem? (i := 0) rfl) tw_40 tw_59 rfl ⟨by decide, by decide, by decide +kernel⟩ ⟨⟨rfl, rfl⟩, (Nat.le_of_ble_eq_true rfl), (Nat.le_of_ble_eq_true rfl)⟩ ⟨(by show (1 + 1) - 1 + 25 ≤ 269; omega), (by show (0 + 6) + 192 ≤ 2129; omega)⟩ rfl (Nat.le_of_ble_eq_true rfl) 5 rfl ?_
  refine c_putF hX (k := 0) (ci := 6) (C := RX6) (T := TX6) (N := 7) (fs := [.null, .null, .null, .null, .null, .null, .int 0]) (by omega) (by omega) ((bE_l (by decide)).trans ((eu_n (by decide)).trans hE0)) rfl inX6 tyX6 tyX6_ok nmX6 0 (by decide) tw_192 rfl hI rfl rfl rfl rfl (Nat.le_of_ble_eq_true rfl) 6 rfl ?_
  refine Vc.nn (n2 := 27) (sl2 := 198) (by omega) (by omega) ?_
  refine Vc.congr (E' := pA Y.2.2.1 Y.2.2.2 [.ref (Y.2.2.2 + 1), .null, .null, .null, .null, .null, .int 0]) (fun i hi => ?_) ?_
  · by_cases g0 : i = 0
    · subst g0; exact eu_s
    · rw [eu_n g0, pA_n g0]
      exact Gc_b isB_1 (by omega) (by omega)
  refine c_aload_n hX 0 7 rfl rfl rfl ?_
  refine c_new hX (ci := 1) (C := RX1) (T := TX1) (N := 2) (fs := [.null, .null]) (by omega) rfl inX1 tyX1 tyX1_ok tw_128 tw_129 tw_42 (fun j hj => by rcases (show j = 0 ∨ j = 1 by omega) with rfl | rfl <;> rfl) (by show 27 - 1 + 1 ≤ 269; omega) (by show 198 + 2 ≤ 2129; omega) 8 rfl ?_
  refine c_dup hX 9 rfl rfl ?_
  refine c_callIN hX (by omega) (by omega) (c_Costs (c := 27) eu_s) tw_132 (List.mem_of_getElem? (i := 2) rfl) tw_42 tw_131 rfl ⟨by decide, by decide, by decide +kernel⟩ ⟨⟨rfl, rfl⟩, (Nat.le_of_ble_eq_true rfl), (Nat.le_of_ble_eq_true rfl)⟩ ⟨(by show (27 + 1) - 1 + 2 ≤ 269; omega), (by show (198 + 2) + 48 ≤ 2129; omega)⟩ rfl (Nat.le_of_ble_eq_true rfl) 10 rfl ?_
  refine c_putF hX (k := 0) (ci := 6) (C := RX6) (T := TX6) (N := 7) (fs := [.ref (Y.2.2.2 + 1), .null, .null, .null, .null, .null, .int 0]) (by omega) (by omega) rfl rfl inX6 tyX6 tyX6_ok nmX6 1 (by decide) tw_193 rfl hI rfl rfl rfl rfl (Nat.le_of_ble_eq_true rfl) 11 rfl ?_
  refine Vc.nn (n2 := 30) (sl2 := 248) (by omega) (by omega) ?_
  refine Vc.congr (E' := pA Y.2.2.1 Y.2.2.2 [.ref (Y.2.2.2 + 1), .ref (Y.2.2.2 + 27), .null, .null, .null, .null, .int 0]) (fun i hi => ?_) ?_
  · by_cases g0 : i = 0
    · subst g0; exact eu_s
    · rw [eu_n g0, pA_n g0]
      rcases Nat.lt_or_ge i 27 with g | g
      · unfold cE
        rw [if_neg (show ¬ i = 27 by omega), if_pos g, eu_n (by omega), pA_n g0]
      · rcases (show i = 27 ∨ i = 28 ∨ i = 29 by omega) with rfl | rfl | rfl <;> rfl
  refine c_aload_n hX 0 12 rfl rfl rfl ?_
  refine c_new hX (ci := 3) (C := RX3) (T := TX3) (N := 2) (fs := [.null, .int 0]) (by omega) rfl inX3 tyX3 tyX3_ok tw_142 tw_143 tw_43 (fun j hj => by rcases (show j = 0 ∨ j = 1 by omega) with rfl | rfl <;> rfl) (by show 30 - 1 + 1 ≤ 269; omega) (by show 248 + 2 ≤ 2129; omega) 13 rfl ?_
  refine c_dup hX 14 rfl rfl ?_
  refine c_callIN hX (by omega) (by omega) (c_Pad (c := 30) eu_s) tw_146 (List.mem_of_getElem? (i := 3) rfl) tw_43 tw_145 rfl ⟨by decide, by decide, by decide +kernel⟩ ⟨⟨rfl, rfl⟩, (Nat.le_of_ble_eq_true rfl), (Nat.le_of_ble_eq_true rfl)⟩ ⟨(by show (30 + 1) - 1 + 1 ≤ 269; omega), (by show (248 + 2) + 80 ≤ 2129; omega)⟩ rfl (Nat.le_of_ble_eq_true rfl) 15 rfl ?_
  refine c_putF hX (k := 0) (ci := 6) (C := RX6) (T := TX6) (N := 7) (fs := [.ref (Y.2.2.2 + 1), .ref (Y.2.2.2 + 27), .null, .null, .null, .null, .int 0]) (by omega) (by omega) rfl rfl inX6 tyX6 tyX6_ok nmX6 2 (by decide) tw_194 rfl hI rfl rfl rfl rfl (Nat.le_of_ble_eq_true rfl) 16 rfl ?_
  refine Vc.nn (n2 := 32) (sl2 := 330) (by omega) (by omega) ?_
  refine Vc.congr (E' := pA Y.2.2.1 Y.2.2.2 [.ref (Y.2.2.2 + 1), .ref (Y.2.2.2 + 27), .ref (Y.2.2.2 + 30), .null, .null, .null, .int 0]) (fun i hi => ?_) ?_
  · by_cases g0 : i = 0
    · subst g0; exact eu_s
    · rw [eu_n g0, pA_n g0]
      rcases Nat.lt_or_ge i 30 with g | g
      · unfold dE
        rw [if_neg (show ¬ i = 30 by omega), if_pos g, eu_n (by omega), pA_n g0]
      · rcases (show i = 30 ∨ i = 31 by omega) with rfl | rfl <;> rfl
  refine c_aload_n hX 0 17 rfl rfl rfl ?_
  refine c_new hX (ci := 5) (C := RX5) (T := TX5) (N := 6) (fs := [.int 0, .int 0, .int 0, .int 0, .int 0, .int 0]) (by omega) rfl inX5 tyX5 tyX5_ok tw_156 tw_157 tw_44 (fun j hj => by rcases (show j = 0 ∨ j = 1 ∨ j = 2 ∨ j = 3 ∨ j = 4 ∨ j = 5 by omega) with rfl | rfl | rfl | rfl | rfl | rfl <;> rfl) (by show 32 - 1 + 1 ≤ 269; omega) (by show 330 + 6 ≤ 2129; omega) 18 rfl ?_
  refine c_dup hX 19 rfl rfl ?_
  refine c_callIN hX (by omega) (by omega) (c_Reader (i0 := 32)) tw_160 (List.mem_of_getElem? (i := 4) rfl) tw_44 tw_159 rfl ⟨by decide, by decide, by decide +kernel⟩ ⟨⟨rfl, rfl⟩, (Nat.le_of_ble_eq_true rfl), (Nat.le_of_ble_eq_true rfl)⟩ ⟨(by show (32 + 1) - 1 + 0 ≤ 269; omega), (by show (330 + 6) + 0 ≤ 2129; omega)⟩ rfl (Nat.le_of_ble_eq_true rfl) 20 rfl ?_
  refine c_putF hX (k := 0) (ci := 6) (C := RX6) (T := TX6) (N := 7) (fs := [.ref (Y.2.2.2 + 1), .ref (Y.2.2.2 + 27), .ref (Y.2.2.2 + 30), .null, .null, .null, .int 0]) (by omega) (by omega) rfl rfl inX6 tyX6 tyX6_ok nmX6 3 (by decide) tw_195 rfl hI rfl rfl rfl rfl (Nat.le_of_ble_eq_true rfl) 21 rfl ?_
  refine Vc.nn (n2 := 33) (sl2 := 336) (by omega) (by omega) ?_
  refine Vc.congr (E' := pA Y.2.2.1 Y.2.2.2 [.ref (Y.2.2.2 + 1), .ref (Y.2.2.2 + 27), .ref (Y.2.2.2 + 30), .ref (Y.2.2.2 + 32), .null, .null, .int 0]) (fun i hi => ?_) ?_
  · by_cases g0 : i = 0
    · subst g0; exact eu_s
    · rw [eu_n g0, pA_n g0]
      by_cases g : i = 32
      · subst g; rfl
      · rw [eu_n g, pA_n g0]
  refine c_aload_n hX 0 22 rfl rfl rfl ?_
  refine c_new hX (ci := 2) (C := RX2) (T := TX2) (N := 2) (fs := [.null, .int 0]) (by omega) rfl inX2 tyX2 tyX2_ok tw_175 tw_176 tw_45 (fun j hj => by rcases (show j = 0 ∨ j = 1 by omega) with rfl | rfl <;> rfl) (by show 33 - 1 + 1 ≤ 269; omega) (by show 336 + 2 ≤ 2129; omega) 23 rfl ?_
  refine c_dup hX 24 rfl rfl ?_
  refine c_callIN hX (by omega) (by omega) (c_History eu_s) tw_179 (List.mem_of_getElem? (i := 5) rfl) tw_45 tw_178 rfl ⟨by decide, by decide, by decide +kernel⟩ ⟨⟨rfl, rfl⟩, (Nat.le_of_ble_eq_true rfl), (Nat.le_of_ble_eq_true rfl)⟩ ⟨(by show (33 + 1) - 1 + 183 ≤ 269; omega), (by show (336 + 2) + 1393 ≤ 2129; omega)⟩ rfl (Nat.le_of_ble_eq_true rfl) 25 rfl ?_
  refine c_putF hX (k := 0) (ci := 6) (C := RX6) (T := TX6) (N := 7) (fs := [.ref (Y.2.2.2 + 1), .ref (Y.2.2.2 + 27), .ref (Y.2.2.2 + 30), .ref (Y.2.2.2 + 32), .null, .null, .int 0]) (by omega) (by omega) rfl rfl inX6 tyX6 tyX6_ok nmX6 4 (by decide) tw_196 rfl hI rfl rfl rfl rfl (Nat.le_of_ble_eq_true rfl) 26 rfl ?_
  refine Vc.nn (n2 := 217) (sl2 := 1731) (by omega) (by omega) ?_
  refine Vc.congr (E' := pA Y.2.2.1 Y.2.2.2 [.ref (Y.2.2.2 + 1), .ref (Y.2.2.2 + 27), .ref (Y.2.2.2 + 30), .ref (Y.2.2.2 + 32), .ref (Y.2.2.2 + 33), .null, .int 0]) (fun i hi => ?_) ?_
  · by_cases g0 : i = 0
    · subst g0; exact eu_s
    · rw [eu_n g0, pA_n g0]
      unfold hE
      rcases Nat.lt_or_ge i 33 with g | g
      · rw [if_pos g, eu_n (by omega), pA_n g0]
      · rw [if_neg (by omega)]
  refine c_aload_n hX 0 27 rfl rfl rfl ?_
  refine c_iconst hX (v := 2) 28 rfl (by decide) ?_
  refine c_newqB hX (m0 := 2) (by omega) tw_56 (by decide) (by decide) (by decide) (by show 217 - 1 + 1 ≤ 269; omega) (by show 1731 + 2 ≤ 2129; omega) 29 rfl ?_
  refine c_putF hX (k := 0) (ci := 6) (C := RX6) (T := TX6) (N := 7) (fs := [.ref (Y.2.2.2 + 1), .ref (Y.2.2.2 + 27), .ref (Y.2.2.2 + 30), .ref (Y.2.2.2 + 32), .ref (Y.2.2.2 + 33), .null, .int 0]) (by omega) (by omega) rfl rfl inX6 tyX6 tyX6_ok nmX6 5 (by decide) tw_197 rfl hI rfl rfl rfl rfl (Nat.le_of_ble_eq_true rfl) 30 rfl ?_
  refine c_iconst hX (v := 0) 31 rfl (by decide) ?_
  refine c_istore_n hX 1 32 rfl rfl (Nat.le_of_ble_eq_true rfl) rfl ?_
  have lp : ∀ t, t ≤ 2 → Vc Y X 1 (sJ Y.2.2.1 Y.2.2.2 [.ref (Y.2.2.2 + 1), .ref (Y.2.2.2 + 27), .ref (Y.2.2.2 + 30), .ref (Y.2.2.2 + 32), .ref (Y.2.2.2 + 33), .ref (Y.2.2.2 + 217), .int 0] t) (218 + 26 * t) (1733 + 198 * t) 69 [some (.ref (Y.2.2.2 + 0)), some (.int (nI t))] [] := by
    refine upTo 2 (fun t ht ih => ?_)
    refine c_iload_n hX 1 33 rfl rfl rfl ?_
    refine c_aload_n hX 0 34 rfl rfl rfl ?_
    refine c_get hX (k := 0) (ci := 6) (C := RX6) (T := TX6) (N := 7) (fs := [.ref (Y.2.2.2 + 1), .ref (Y.2.2.2 + 27), .ref (Y.2.2.2 + 30), .ref (Y.2.2.2 + 32), .ref (Y.2.2.2 + 33), .ref (Y.2.2.2 + 217), .int 0]) (by omega) sJ_0 rfl inX6 5 (by decide) tw_197 rfl rfl 35 rfl ?_
    refine c_alen hX (k := 217) (t0 := 3) (v := nI 2) (by omega) sJ_217 rfl rfl 36 rfl ?_
    refine c_icmp_ge hX (tgt := 97) 37 rfl (by decide) (fun c => ?_) (fun c => ?_)
    · have e2 : t = 2 := by have := of_le (k := t) c (by decide) (by omega); omega
      subst e2
      refine Vc.nn (n2 := 270) (sl2 := 2129) (by omega) (by omega) ?_
      refine Vc.congr (E' := eu (Gc Y.2.2.1 Y.2.2.2) 217 (.inl (Y.2.2.1 3, 2, .inr (.inr (.inr (.inr (fun j => if j < 2 then some (Y.2.2.2 + (218 + 26 * j)) else none))))))) (fun i hi => ?_) ?_
      · by_cases g : i = 217
        · subst g; rw [eu_s, sJ_217]
        · rw [eu_n g]
          by_cases g0 : i = 0
          · subst g0; rfl
          · exact sJ_n g g0
      refine Vc.arr (g := fun j => some (Y.2.2.2 + (218 + 26 * j))) (fun j hj => if_pos hj) ?_
      exact c_vret hX hI hQ rfl rfl (fun i hi => by
        unfold eu
        by_cases g : i = 217
        · rw [if_pos g, g]; rfl
        · rw [if_neg g]) 47 rfl
    · have hlt : t < 2 := Nat.lt_of_not_le (fun q => c (by rcases Nat.lt_or_ge t 2 with g | g; exact absurd q (by omega); exact (nI_leI (by decide) (by omega)).mpr g))
      have hBt : isB (218 + 26 * t) := by rcases (show t = 0 ∨ t = 1 by omega) with rfl | rfl; exact isB_218; exact isB_244
      refine c_aload_n hX 0 38 rfl rfl rfl ?_
      refine c_get hX (k := 0) (ci := 6) (C := RX6) (T := TX6) (N := 7) (fs := [.ref (Y.2.2.2 + 1), .ref (Y.2.2.2 + 27), .ref (Y.2.2.2 + 30), .ref (Y.2.2.2 + 32), .ref (Y.2.2.2 + 33), .ref (Y.2.2.2 + 217), .int 0]) (by omega) sJ_0 rfl inX6 5 (by decide) tw_197 rfl rfl 39 rfl ?_
      refine c_iload_n hX 1 40 rfl rfl rfl ?_
      refine c_new hX (ci := 0) (C := RX0) (T := TX0) (N := 6) (fs := [.null, .int 0, .int 0, .int 0, .int 0, .int 0]) (by omega) rfl inX0 tyX0 tyX0_ok tw_56 tw_57 tw_40 (fun j hj => by rcases (show j = 0 ∨ j = 1 ∨ j = 2 ∨ j = 3 ∨ j = 4 ∨ j = 5 by omega) with rfl | rfl | rfl | rfl | rfl | rfl <;> rfl) (by show (218 + 26 * t) - 1 + 1 ≤ 269; omega) (by show (1733 + 198 * t) + 6 ≤ 2129; omega) 41 rfl ?_
      refine c_dup hX 42 rfl rfl ?_
      refine c_callIN hX (by omega) (by omega) (c_Bundle (b := 218 + 26 * t) eu_s) tw_60 (List.mem_of_getElem? (i := 0) rfl) tw_40 tw_59 rfl ⟨by decide, by decide, by decide +kernel⟩ ⟨⟨rfl, rfl⟩, (Nat.le_of_ble_eq_true rfl), (Nat.le_of_ble_eq_true rfl)⟩ ⟨(by show (218 + 26 * t + 1) - 1 + 25 ≤ 269; omega), (by show (1733 + 198 * t + 6) + 192 ≤ 2129; omega)⟩ rfl (Nat.le_of_ble_eq_true rfl) 43 rfl ?_
      refine c_aast hX (k := 217) (t0 := 3) (v := 218 + 26 * t) (ci := 0) (C := RX0) (T := TX0) (N := 6) (j := t) (by omega) (by omega) ((bE_l (by omega)).trans ((eu_n (by omega)).trans sJ_217)) rfl (by omega) bE_b rfl (nI_cn (by omega)) (vpin hlt (by decide)) 44 rfl ?_
      refine c_iinc hX (v := nI (t + 1)) 45 rfl rfl (nI_inc t) (Nat.le_of_ble_eq_true rfl) rfl ?_
      refine c_goto hX (tgt := 69) 46 rfl (by decide) ?_
      refine Vc.nn (n2 := 218 + 26 * (t + 1)) (sl2 := 1733 + 198 * (t + 1)) (by omega) (by omega) ?_
      refine Vc.congr (fun i hi => ?_) (ih hlt)
      by_cases g2 : i = 217
      · subst g2
        rw [eu_s, sJ_217]
        congr 7
        funext j
        unfold va_up
        by_cases q : j = t
        · subst q; rw [if_pos rfl, if_pos (by omega)]
        · rw [if_neg q]
          dsimp only
          by_cases q2 : j < t
          · rw [if_pos q2, if_pos (by omega)]
          · rw [if_neg q2, if_neg (by omega)]
      rw [eu_n g2]
      rcases Nat.lt_or_ge i (218 + 26 * t) with g | g
      · rw [bE_l g, eu_n (by omega)]
        by_cases g0 : i = 0
        · subst g0; rfl
        · rw [sJ_n g2 g0, sJ_n g2 g0]
      · rw [Gc_b hBt g (by omega), sJ_n g2 (by omega)]
  refine Vc.nn (n2 := 218 + 26 * 0) (sl2 := 1733 + 198 * 0) (by omega) (by omega) ?_
  refine Vc.congr (fun i hi => ?_) (lp 0 (Nat.zero_le _))
  by_cases g0 : i = 0
  · subst g0; rfl
  rw [eu_n g0]
  by_cases g2 : i = 217
  · subst g2
    rw [eu_s, sJ_217]
    congr 5
  · rw [eu_n g2, pA_n g0, sJ_n g2 g0]
