set_option maxRecDepth 100000 in
set_option maxHeartbeats 4000000 in
theorem f_set {Y : Yt} {M : Mm} {s v : Int32} {k n : Nat} (hk : k ≤ 6) (hkk : M.1 33 1 = nI k) (hh : ∀ i, i < 7 → isB (M.2 i) ∧ M.2 i ≠ 1) (hz : M.1 1 1 = nI n) (hn : n ≤ 24) (hw : WF (cp M 1) n) : Fn Y yX6_set wsX6_set { frames := 3, cells := 0, slots := 0, locals := 67 } [.ref (Y.2.2.2.1 0), .int s, .int v] M (some (.int (adR (cpB M (M.2 k) 1 n) 1 s v))) ((seM (adM (cpB M (M.2 k) 1 n) 1 s v) k (adR (cpB M (M.2 k) 1 n) 1 s v))) := by
  have hc := hh k (by omega)
  have hz1 : (cpB M (M.2 k) 1 n).1 1 1 = nI n := by rw [prz hc.1 hc.2 hn]; exact hz
  have hw1 : WF (cp (cpB M (M.2 k) 1 n) 1) n := prw hc.1 hc.2 hn (by omega) hw
  have hk1 : (cpB M (M.2 k) 1 n).1 33 1 = nI k := by rw [pro hc.1 hn (by omega)]; exact hkk
  have hfr : Fr (cpB M (M.2 k) 1 n) (adM (cpB M (M.2 k) 1 n) 1 s v) := adM_fr
  have hk2 : (adM (cpB M (M.2 k) 1 n) 1 s v).1 33 1 = nI k := by rw [hfr.2 33 (by decide)]; exact hk1
  have hh2 : ∀ z9, z9 < 7 → isB ((adM (cpB M (M.2 k) 1 n) 1 s v).2 z9) ∧ (adM (cpB M (M.2 k) 1 n) 1 s v).2 z9 ≠ 1 := by rw [hfr.1]; exact hh
  refine Fn.of (cc := cX6_set) (ins := iX6_set) (maxL := 3) (ret := (some .int)) (by decide) dX6_set [some (.ref (Y.2.2.2.1 0)), some (.int s), some (.int v)] (Nat.le_of_ble_eq_true rfl) rfl rfl ?_
  intro X hX hQ
  refine v_aload_n hX 0 0 rfl rfl rfl ?_
  refine g_6_4 hX 1  tw_196 rfl ?_
  refine v_aload_n hX 0 2 rfl rfl rfl ?_
  refine g_6_0 hX 3  tw_192 rfl ?_
  refine v_callVN hX 1 (by decide) rfl rfl (f_prepare hk hkk hh hz hn hw) tw_220 (List.mem_of_getElem? (i := 7) rfl) tw_45 tw_219 tw_0 (by decide +kernel) ⟨⟨rfl, rfl⟩, Nat.le_of_ble_eq_true rfl, Nat.le_of_ble_eq_true rfl⟩ rfl (Nat.le_of_ble_eq_true rfl) rfl rfl 4 rfl ?_
  refine v_aload_n hX 0 5 rfl rfl rfl ?_
  refine g_6_4 hX 6  tw_196 rfl ?_
  refine v_aload_n hX 0 7 rfl rfl rfl ?_
  refine g_6_0 hX 8  tw_192 rfl ?_
  refine v_iload_n hX 1 9 rfl rfl rfl ?_
  refine v_iload_n hX 2 10 rfl rfl rfl ?_
  refine v_callVN hX 2 (by have := isB_lt isB_1; omega) (cG_B isB_1) rfl (f_adjust isB_1) tw_240 (List.mem_of_getElem? (i := 10) rfl) tw_40 tw_239 tw_5 (by decide +kernel) ⟨⟨rfl, rfl⟩, Nat.le_of_ble_eq_true rfl, Nat.le_of_ble_eq_true rfl⟩ rfl (Nat.le_of_ble_eq_true rfl) rfl rfl 11 rfl ?_
  refine v_callVN hX 1 (by decide) rfl rfl (f_settle hk hk2 hh2) tw_244 (List.mem_of_getElem? (i := 11) rfl) tw_45 tw_243 tw_6 (by decide +kernel) ⟨⟨rfl, rfl⟩, Nat.le_of_ble_eq_true rfl, Nat.le_of_ble_eq_true rfl⟩ rfl (Nat.le_of_ble_eq_true rfl) rfl rfl 12 rfl ?_
  refine v_iret hX hQ rfl rfl ?_ ?_ 13 rfl
  · rfl
  · rfl
set_option maxRecDepth 100000 in
set_option maxHeartbeats 4000000 in
theorem f_claim {Y : Yt} {M : Mm} {s p c : Int32} {k n : Nat} (hk : k ≤ 6) (hkk : M.1 33 1 = nI k) (hh : ∀ i, i < 7 → isB (M.2 i) ∧ M.2 i ≠ 1) (hz : M.1 1 1 = nI n) (hn : n ≤ 24) (hw : WF (cp M 1) n) : Fn Y yX6_claim wsX6_claim { frames := 3, cells := 0, slots := 0, locals := 68 } [.ref (Y.2.2.2.1 0), .int s, .int p, .int c] M (some (.int (fcR n s p c))) ((seM (fcM (cpB M (M.2 k) 1 n) 1 n s p c) k (fcR n s p c))) := by
  have hc := hh k (by omega)
  have hz1 : (cpB M (M.2 k) 1 n).1 1 1 = nI n := by rw [prz hc.1 hc.2 hn]; exact hz
  have hw1 : WF (cp (cpB M (M.2 k) 1 n) 1) n := prw hc.1 hc.2 hn (by omega) hw
  have hk1 : (cpB M (M.2 k) 1 n).1 33 1 = nI k := by rw [pro hc.1 hn (by omega)]; exact hkk
  have hfr : Fr (cpB M (M.2 k) 1 n) (fcM (cpB M (M.2 k) 1 n) 1 n s p c) := fcM_fr
  have hk2 : (fcM (cpB M (M.2 k) 1 n) 1 n s p c).1 33 1 = nI k := by rw [hfr.2 33 (by decide)]; exact hk1
  have hh2 : ∀ z9, z9 < 7 → isB ((fcM (cpB M (M.2 k) 1 n) 1 n s p c).2 z9) ∧ (fcM (cpB M (M.2 k) 1 n) 1 n s p c).2 z9 ≠ 1 := by rw [hfr.1]; exact hh
  refine Fn.of (cc := cX6_claim) (ins := iX6_claim) (maxL := 4) (ret := (some .int)) (by decide) dX6_claim [some (.ref (Y.2.2.2.1 0)), some (.int s), some (.int p), some (.int c)] (Nat.le_of_ble_eq_true rfl) rfl rfl ?_
  intro X hX hQ
  refine v_aload_n hX 0 0 rfl rfl rfl ?_
  refine g_6_4 hX 1  tw_196 rfl ?_
  refine v_aload_n hX 0 2 rfl rfl rfl ?_
  refine g_6_0 hX 3  tw_192 rfl ?_
  refine v_callVN hX 1 (by decide) rfl rfl (f_prepare hk hkk hh hz hn hw) tw_220 (List.mem_of_getElem? (i := 7) rfl) tw_45 tw_219 tw_0 (by decide +kernel) ⟨⟨rfl, rfl⟩, Nat.le_of_ble_eq_true rfl, Nat.le_of_ble_eq_true rfl⟩ rfl (Nat.le_of_ble_eq_true rfl) rfl rfl 4 rfl ?_
  refine v_aload_n hX 0 5 rfl rfl rfl ?_
  refine g_6_4 hX 6  tw_196 rfl ?_
  refine v_aload_n hX 0 7 rfl rfl rfl ?_
  refine g_6_0 hX 8  tw_192 rfl ?_
  refine v_iload_n hX 1 9 rfl rfl rfl ?_
  refine v_iload_n hX 2 10 rfl rfl rfl ?_
  refine v_iload_n hX 3 11 rfl rfl rfl ?_
  refine v_callVN hX 3 (by have := isB_lt isB_1; omega) (cG_B isB_1) rfl (f_fileClaim isB_1 hz1 hn) tw_256 (List.mem_of_getElem? (i := 12) rfl) tw_40 tw_255 tw_8 (by decide +kernel) ⟨⟨rfl, rfl⟩, Nat.le_of_ble_eq_true rfl, Nat.le_of_ble_eq_true rfl⟩ rfl (Nat.le_of_ble_eq_true rfl) rfl rfl 12 rfl ?_
  refine v_callVN hX 1 (by decide) rfl rfl (f_settle hk hk2 hh2) tw_244 (List.mem_of_getElem? (i := 11) rfl) tw_45 tw_243 tw_6 (by decide +kernel) ⟨⟨rfl, rfl⟩, Nat.le_of_ble_eq_true rfl, Nat.le_of_ble_eq_true rfl⟩ rfl (Nat.le_of_ble_eq_true rfl) rfl rfl 13 rfl ?_
  refine v_iret hX hQ rfl rfl ?_ ?_ 14 rfl
  · rfl
  · rfl
set_option maxRecDepth 100000 in
set_option maxHeartbeats 4000000 in
theorem f_answer_no {Y : Yt} {M : Mm} {p c : Int32} {k n : Nat} (hk : k ≤ 6) (hkk : M.1 33 1 = nI k) (hh : ∀ i, i < 7 → isB (M.2 i) ∧ M.2 i ≠ 1) (hz : M.1 1 1 = nI n) (hn : n ≤ 24) (hw : WF (cp M 1) n) {x : Int32} (hx : x < 0 ∨ nI n ≤ x) : Fn Y yX6_answer wsX6_answer { frames := 3, cells := 0, slots := 0, locals := 69 } [.ref (Y.2.2.2.1 0), .int x, .int p, .int c] M (some (.int (-1))) ((seM ((cpB M (M.2 k) 1 n)) k (-1))) := by
  have hc := hh k (by omega)
  have hz1 : (cpB M (M.2 k) 1 n).1 1 1 = nI n := by rw [prz hc.1 hc.2 hn]; exact hz
  have hw1 : WF (cp (cpB M (M.2 k) 1 n) 1) n := prw hc.1 hc.2 hn (by omega) hw
  have hk1 : (cpB M (M.2 k) 1 n).1 33 1 = nI k := by rw [pro hc.1 hn (by omega)]; exact hkk
  have hfr : Fr (cpB M (M.2 k) 1 n) ((cpB M (M.2 k) 1 n)) := Fr.rf
  have hk2 : ((cpB M (M.2 k) 1 n)).1 33 1 = nI k := by rw [hfr.2 33 (by decide)]; exact hk1
  have hh2 : ∀ z9, z9 < 7 → isB (((cpB M (M.2 k) 1 n)).2 z9) ∧ ((cpB M (M.2 k) 1 n)).2 z9 ≠ 1 := by rw [hfr.1]; exact hh
  refine Fn.of (cc := cX6_answer) (ins := iX6_answer) (maxL := 4) (ret := (some .int)) (by decide) dX6_answer [some (.ref (Y.2.2.2.1 0)), some (.int x), some (.int p), some (.int c)] (Nat.le_of_ble_eq_true rfl) rfl rfl ?_
  intro X hX hQ
  refine v_aload_n hX 0 0 rfl rfl rfl ?_
  refine g_6_4 hX 1  tw_196 rfl ?_
  refine v_aload_n hX 0 2 rfl rfl rfl ?_
  refine g_6_0 hX 3  tw_192 rfl ?_
  refine v_callVN hX 1 (by decide) rfl rfl (f_prepare hk hkk hh hz hn hw) tw_220 (List.mem_of_getElem? (i := 7) rfl) tw_45 tw_219 tw_0 (by decide +kernel) ⟨⟨rfl, rfl⟩, Nat.le_of_ble_eq_true rfl, Nat.le_of_ble_eq_true rfl⟩ rfl (Nat.le_of_ble_eq_true rfl) rfl rfl 4 rfl ?_
  refine v_aload_n hX 0 5 rfl rfl rfl ?_
  refine g_6_4 hX 6  tw_196 rfl ?_
  refine v_aload_n hX 0 7 rfl rfl rfl ?_
  refine g_6_0 hX 8  tw_192 rfl ?_
  refine v_iload_n hX 1 9 rfl rfl rfl ?_
  refine v_iload_n hX 2 10 rfl rfl rfl ?_
  refine v_iload_n hX 3 11 rfl rfl rfl ?_
  refine v_callVN hX 3 (by have := isB_lt isB_1; omega) (cG_B isB_1) rfl (f_fileAnswer_no isB_1 hz1 hn hx) tw_275 (List.mem_of_getElem? (i := 13) rfl) tw_40 tw_274 tw_11 (by decide +kernel) ⟨⟨rfl, rfl⟩, Nat.le_of_ble_eq_true rfl, Nat.le_of_ble_eq_true rfl⟩ rfl (Nat.le_of_ble_eq_true rfl) rfl rfl 12 rfl ?_
  refine v_callVN hX 1 (by decide) rfl rfl (f_settle hk hk2 hh2) tw_244 (List.mem_of_getElem? (i := 11) rfl) tw_45 tw_243 tw_6 (by decide +kernel) ⟨⟨rfl, rfl⟩, Nat.le_of_ble_eq_true rfl, Nat.le_of_ble_eq_true rfl⟩ rfl (Nat.le_of_ble_eq_true rfl) rfl rfl 13 rfl ?_
  refine v_iret hX hQ rfl rfl ?_ ?_ 14 rfl
  · rfl
  · rfl
set_option maxRecDepth 100000 in
set_option maxHeartbeats 4000000 in
theorem f_answer {Y : Yt} {M : Mm} {p c : Int32} {k n : Nat} (hk : k ≤ 6) (hkk : M.1 33 1 = nI k) (hh : ∀ i, i < 7 → isB (M.2 i) ∧ M.2 i ≠ 1) (hz : M.1 1 1 = nI n) (hn : n ≤ 24) (hw : WF (cp M 1) n) {i : Nat} (hi : i < n) : Fn Y yX6_answer wsX6_answer { frames := 3, cells := 0, slots := 0, locals := 69 } [.ref (Y.2.2.2.1 0), .int (nI i), .int p, .int c] M (some (.int (faR (cpB M (M.2 k) 1 n) 1 n i p c))) ((seM (faM (cpB M (M.2 k) 1 n) 1 n i p c) k (faR (cpB M (M.2 k) 1 n) 1 n i p c))) := by
  have hc := hh k (by omega)
  have hz1 : (cpB M (M.2 k) 1 n).1 1 1 = nI n := by rw [prz hc.1 hc.2 hn]; exact hz
  have hw1 : WF (cp (cpB M (M.2 k) 1 n) 1) n := prw hc.1 hc.2 hn (by omega) hw
  have hk1 : (cpB M (M.2 k) 1 n).1 33 1 = nI k := by rw [pro hc.1 hn (by omega)]; exact hkk
  have hfr : Fr (cpB M (M.2 k) 1 n) (faM (cpB M (M.2 k) 1 n) 1 n i p c) := faM_fr
  have hk2 : (faM (cpB M (M.2 k) 1 n) 1 n i p c).1 33 1 = nI k := by rw [hfr.2 33 (by decide)]; exact hk1
  have hh2 : ∀ z9, z9 < 7 → isB ((faM (cpB M (M.2 k) 1 n) 1 n i p c).2 z9) ∧ (faM (cpB M (M.2 k) 1 n) 1 n i p c).2 z9 ≠ 1 := by rw [hfr.1]; exact hh
  refine Fn.of (cc := cX6_answer) (ins := iX6_answer) (maxL := 4) (ret := (some .int)) (by decide) dX6_answer [some (.ref (Y.2.2.2.1 0)), some (.int (nI i)), some (.int p), some (.int c)] (Nat.le_of_ble_eq_true rfl) rfl rfl ?_
  intro X hX hQ
  refine v_aload_n hX 0 0 rfl rfl rfl ?_
  refine g_6_4 hX 1  tw_196 rfl ?_
  refine v_aload_n hX 0 2 rfl rfl rfl ?_
  refine g_6_0 hX 3  tw_192 rfl ?_
  refine v_callVN hX 1 (by decide) rfl rfl (f_prepare hk hkk hh hz hn hw) tw_220 (List.mem_of_getElem? (i := 7) rfl) tw_45 tw_219 tw_0 (by decide +kernel) ⟨⟨rfl, rfl⟩, Nat.le_of_ble_eq_true rfl, Nat.le_of_ble_eq_true rfl⟩ rfl (Nat.le_of_ble_eq_true rfl) rfl rfl 4 rfl ?_
  refine v_aload_n hX 0 5 rfl rfl rfl ?_
  refine g_6_4 hX 6  tw_196 rfl ?_
  refine v_aload_n hX 0 7 rfl rfl rfl ?_
  refine g_6_0 hX 8  tw_192 rfl ?_
  refine v_iload_n hX 1 9 rfl rfl rfl ?_
  refine v_iload_n hX 2 10 rfl rfl rfl ?_
  refine v_iload_n hX 3 11 rfl rfl rfl ?_
  refine v_callVN hX 3 (by have := isB_lt isB_1; omega) (cG_B isB_1) rfl (f_fileAnswer isB_1 hz1 hn hi) tw_275 (List.mem_of_getElem? (i := 13) rfl) tw_40 tw_274 tw_11 (by decide +kernel) ⟨⟨rfl, rfl⟩, Nat.le_of_ble_eq_true rfl, Nat.le_of_ble_eq_true rfl⟩ rfl (Nat.le_of_ble_eq_true rfl) rfl rfl 12 rfl ?_
  refine v_callVN hX 1 (by decide) rfl rfl (f_settle hk hk2 hh2) tw_244 (List.mem_of_getElem? (i := 11) rfl) tw_45 tw_243 tw_6 (by decide +kernel) ⟨⟨rfl, rfl⟩, Nat.le_of_ble_eq_true rfl, Nat.le_of_ble_eq_true rfl⟩ rfl (Nat.le_of_ble_eq_true rfl) rfl rfl 13 rfl ?_
  refine v_iret hX hQ rfl rfl ?_ ?_ 14 rfl
  · rfl
  · rfl
set_option maxRecDepth 100000 in
set_option maxHeartbeats 4000000 in
theorem f_withdraw_no {Y : Yt} {M : Mm} {k n : Nat} (hk : k ≤ 6) (hkk : M.1 33 1 = nI k) (hh : ∀ i, i < 7 → isB (M.2 i) ∧ M.2 i ≠ 1) (hz : M.1 1 1 = nI n) (hn : n ≤ 24) (hw : WF (cp M 1) n) {x : Int32} (hx : x < 0 ∨ nI n ≤ x) : Fn Y yX6_withdraw wsX6_withdraw { frames := 5, cells := 0, slots := 0, locals := 110 } [.ref (Y.2.2.2.1 0), .int x] M (some (.int (-1))) ((seM ((cpB M (M.2 k) 1 n)) k (-1))) := by
  have hc := hh k (by omega)
  have hz1 : (cpB M (M.2 k) 1 n).1 1 1 = nI n := by rw [prz hc.1 hc.2 hn]; exact hz
  have hw1 : WF (cp (cpB M (M.2 k) 1 n) 1) n := prw hc.1 hc.2 hn (by omega) hw
  have hk1 : (cpB M (M.2 k) 1 n).1 33 1 = nI k := by rw [pro hc.1 hn (by omega)]; exact hkk
  have hfr : Fr (cpB M (M.2 k) 1 n) ((cpB M (M.2 k) 1 n)) := Fr.rf
  have hk2 : ((cpB M (M.2 k) 1 n)).1 33 1 = nI k := by rw [hfr.2 33 (by decide)]; exact hk1
  have hh2 : ∀ z9, z9 < 7 → isB (((cpB M (M.2 k) 1 n)).2 z9) ∧ ((cpB M (M.2 k) 1 n)).2 z9 ≠ 1 := by rw [hfr.1]; exact hh
  refine Fn.of (cc := cX6_withdraw) (ins := iX6_withdraw) (maxL := 2) (ret := (some .int)) (by decide) dX6_withdraw [some (.ref (Y.2.2.2.1 0)), some (.int x)] (Nat.le_of_ble_eq_true rfl) rfl rfl ?_
  intro X hX hQ
  refine v_aload_n hX 0 0 rfl rfl rfl ?_
  refine g_6_4 hX 1  tw_196 rfl ?_
  refine v_aload_n hX 0 2 rfl rfl rfl ?_
  refine g_6_0 hX 3  tw_192 rfl ?_
  refine v_callVN hX 1 (by decide) rfl rfl (f_prepare hk hkk hh hz hn hw) tw_220 (List.mem_of_getElem? (i := 7) rfl) tw_45 tw_219 tw_0 (by decide +kernel) ⟨⟨rfl, rfl⟩, Nat.le_of_ble_eq_true rfl, Nat.le_of_ble_eq_true rfl⟩ rfl (Nat.le_of_ble_eq_true rfl) rfl rfl 4 rfl ?_
  refine v_aload_n hX 0 5 rfl rfl rfl ?_
  refine g_6_4 hX 6  tw_196 rfl ?_
  refine v_aload_n hX 0 7 rfl rfl rfl ?_
  refine g_6_0 hX 8  tw_192 rfl ?_
  refine v_iload_n hX 1 9 rfl rfl rfl ?_
  refine v_callVN hX 1 (by have := isB_lt isB_1; omega) (cG_B isB_1) rfl (f_takeBack_no isB_1 hz1 hn hx) tw_283 (List.mem_of_getElem? (i := 14) rfl) tw_40 tw_282 tw_12 (by decide +kernel) ⟨⟨rfl, rfl⟩, Nat.le_of_ble_eq_true rfl, Nat.le_of_ble_eq_true rfl⟩ rfl (Nat.le_of_ble_eq_true rfl) rfl rfl 10 rfl ?_
  refine v_callVN hX 1 (by decide) rfl rfl (f_settle hk hk2 hh2) tw_244 (List.mem_of_getElem? (i := 11) rfl) tw_45 tw_243 tw_6 (by decide +kernel) ⟨⟨rfl, rfl⟩, Nat.le_of_ble_eq_true rfl, Nat.le_of_ble_eq_true rfl⟩ rfl (Nat.le_of_ble_eq_true rfl) rfl rfl 11 rfl ?_
  refine v_iret hX hQ rfl rfl ?_ ?_ 12 rfl
  · rfl
  · rfl
set_option maxRecDepth 100000 in
set_option maxHeartbeats 4000000 in
theorem f_withdraw {Y : Yt} {M : Mm} {k n : Nat} (hk : k ≤ 6) (hkk : M.1 33 1 = nI k) (hh : ∀ i, i < 7 → isB (M.2 i) ∧ M.2 i ≠ 1) (hz : M.1 1 1 = nI n) (hn : n ≤ 24) (hw : WF (cp M 1) n) {i : Nat} (hi : i < n) : Fn Y yX6_withdraw wsX6_withdraw { frames := 5, cells := 0, slots := 0, locals := 110 } [.ref (Y.2.2.2.1 0), .int (nI i)] M (some (.int (tbR (cpB M (M.2 k) 1 n) 1 n i))) ((seM (tbM (cpB M (M.2 k) 1 n) 1 i) k (tbR (cpB M (M.2 k) 1 n) 1 n i))) := by
  have hc := hh k (by omega)
  have hz1 : (cpB M (M.2 k) 1 n).1 1 1 = nI n := by rw [prz hc.1 hc.2 hn]; exact hz
  have hw1 : WF (cp (cpB M (M.2 k) 1 n) 1) n := prw hc.1 hc.2 hn (by omega) hw
  have hk1 : (cpB M (M.2 k) 1 n).1 33 1 = nI k := by rw [pro hc.1 hn (by omega)]; exact hkk
  have hfr : Fr (cpB M (M.2 k) 1 n) (tbM (cpB M (M.2 k) 1 n) 1 i) := tbM_fr (by omega)
  have hk2 : (tbM (cpB M (M.2 k) 1 n) 1 i).1 33 1 = nI k := by rw [hfr.2 33 (by decide)]; exact hk1
  have hh2 : ∀ z9, z9 < 7 → isB ((tbM (cpB M (M.2 k) 1 n) 1 i).2 z9) ∧ (tbM (cpB M (M.2 k) 1 n) 1 i).2 z9 ≠ 1 := by rw [hfr.1]; exact hh
  refine Fn.of (cc := cX6_withdraw) (ins := iX6_withdraw) (maxL := 2) (ret := (some .int)) (by decide) dX6_withdraw [some (.ref (Y.2.2.2.1 0)), some (.int (nI i))] (Nat.le_of_ble_eq_true rfl) rfl rfl ?_
  intro X hX hQ
  refine v_aload_n hX 0 0 rfl rfl rfl ?_
  refine g_6_4 hX 1  tw_196 rfl ?_
  refine v_aload_n hX 0 2 rfl rfl rfl ?_
  refine g_6_0 hX 3  tw_192 rfl ?_
  refine v_callVN hX 1 (by decide) rfl rfl (f_prepare hk hkk hh hz hn hw) tw_220 (List.mem_of_getElem? (i := 7) rfl) tw_45 tw_219 tw_0 (by decide +kernel) ⟨⟨rfl, rfl⟩, Nat.le_of_ble_eq_true rfl, Nat.le_of_ble_eq_true rfl⟩ rfl (Nat.le_of_ble_eq_true rfl) rfl rfl 4 rfl ?_
  refine v_aload_n hX 0 5 rfl rfl rfl ?_
  refine g_6_4 hX 6  tw_196 rfl ?_
  refine v_aload_n hX 0 7 rfl rfl rfl ?_
  refine g_6_0 hX 8  tw_192 rfl ?_
  refine v_iload_n hX 1 9 rfl rfl rfl ?_
  refine v_callVN hX 1 (by have := isB_lt isB_1; omega) (cG_B isB_1) rfl (f_takeBack isB_1 hz1 hn hi hw1) tw_283 (List.mem_of_getElem? (i := 14) rfl) tw_40 tw_282 tw_12 (by decide +kernel) ⟨⟨rfl, rfl⟩, Nat.le_of_ble_eq_true rfl, Nat.le_of_ble_eq_true rfl⟩ rfl (Nat.le_of_ble_eq_true rfl) rfl rfl 10 rfl ?_
  refine v_callVN hX 1 (by decide) rfl rfl (f_settle hk hk2 hh2) tw_244 (List.mem_of_getElem? (i := 11) rfl) tw_45 tw_243 tw_6 (by decide +kernel) ⟨⟨rfl, rfl⟩, Nat.le_of_ble_eq_true rfl, Nat.le_of_ble_eq_true rfl⟩ rfl (Nat.le_of_ble_eq_true rfl) rfl rfl 11 rfl ?_
  refine v_iret hX hQ rfl rfl ?_ ?_ 12 rfl
  · rfl
  · rfl
set_option maxRecDepth 100000 in
set_option maxHeartbeats 4000000 in
theorem f_renew_no {Y : Yt} {M : Mm} {k n : Nat} (hk : k ≤ 6) (hkk : M.1 33 1 = nI k) (hh : ∀ i, i < 7 → isB (M.2 i) ∧ M.2 i ≠ 1) (hz : M.1 1 1 = nI n) (hn : n ≤ 24) (hw : WF (cp M 1) n) {x : Int32} (hx : x < 0 ∨ nI n ≤ x) : Fn Y yX6_renew wsX6_renew { frames := 3, cells := 0, slots := 0, locals := 67 } [.ref (Y.2.2.2.1 0), .int x] M (some (.int (-1))) ((seM ((cpB M (M.2 k) 1 n)) k (-1))) := by
  have hc := hh k (by omega)
  have hz1 : (cpB M (M.2 k) 1 n).1 1 1 = nI n := by rw [prz hc.1 hc.2 hn]; exact hz
  have hw1 : WF (cp (cpB M (M.2 k) 1 n) 1) n := prw hc.1 hc.2 hn (by omega) hw
  have hk1 : (cpB M (M.2 k) 1 n).1 33 1 = nI k := by rw [pro hc.1 hn (by omega)]; exact hkk
  have hfr : Fr (cpB M (M.2 k) 1 n) ((cpB M (M.2 k) 1 n)) := Fr.rf
  have hk2 : ((cpB M (M.2 k) 1 n)).1 33 1 = nI k := by rw [hfr.2 33 (by decide)]; exact hk1
  have hh2 : ∀ z9, z9 < 7 → isB (((cpB M (M.2 k) 1 n)).2 z9) ∧ ((cpB M (M.2 k) 1 n)).2 z9 ≠ 1 := by rw [hfr.1]; exact hh
  refine Fn.of (cc := cX6_renew) (ins := iX6_renew) (maxL := 2) (ret := (some .int)) (by decide) dX6_renew [some (.ref (Y.2.2.2.1 0)), some (.int x)] (Nat.le_of_ble_eq_true rfl) rfl rfl ?_
  intro X hX hQ
  refine v_aload_n hX 0 0 rfl rfl rfl ?_
  refine g_6_4 hX 1  tw_196 rfl ?_
  refine v_aload_n hX 0 2 rfl rfl rfl ?_
  refine g_6_0 hX 3  tw_192 rfl ?_
  refine v_callVN hX 1 (by decide) rfl rfl (f_prepare hk hkk hh hz hn hw) tw_220 (List.mem_of_getElem? (i := 7) rfl) tw_45 tw_219 tw_0 (by decide +kernel) ⟨⟨rfl, rfl⟩, Nat.le_of_ble_eq_true rfl, Nat.le_of_ble_eq_true rfl⟩ rfl (Nat.le_of_ble_eq_true rfl) rfl rfl 4 rfl ?_
  refine v_aload_n hX 0 5 rfl rfl rfl ?_
  refine g_6_4 hX 6  tw_196 rfl ?_
  refine v_aload_n hX 0 7 rfl rfl rfl ?_
  refine g_6_0 hX 8  tw_192 rfl ?_
  refine v_iload_n hX 1 9 rfl rfl rfl ?_
  refine v_callVN hX 1 (by have := isB_lt isB_1; omega) (cG_B isB_1) rfl (f_prolong_no isB_1 hz1 hn hx) tw_332 (List.mem_of_getElem? (i := 16) rfl) tw_40 tw_331 tw_21 (by decide +kernel) ⟨⟨rfl, rfl⟩, Nat.le_of_ble_eq_true rfl, Nat.le_of_ble_eq_true rfl⟩ rfl (Nat.le_of_ble_eq_true rfl) rfl rfl 10 rfl ?_
  refine v_callVN hX 1 (by decide) rfl rfl (f_settle hk hk2 hh2) tw_244 (List.mem_of_getElem? (i := 11) rfl) tw_45 tw_243 tw_6 (by decide +kernel) ⟨⟨rfl, rfl⟩, Nat.le_of_ble_eq_true rfl, Nat.le_of_ble_eq_true rfl⟩ rfl (Nat.le_of_ble_eq_true rfl) rfl rfl 11 rfl ?_
  refine v_iret hX hQ rfl rfl ?_ ?_ 12 rfl
  · rfl
  · rfl
set_option maxRecDepth 100000 in
set_option maxHeartbeats 4000000 in
theorem f_renew {Y : Yt} {M : Mm} {k n : Nat} (hk : k ≤ 6) (hkk : M.1 33 1 = nI k) (hh : ∀ i, i < 7 → isB (M.2 i) ∧ M.2 i ≠ 1) (hz : M.1 1 1 = nI n) (hn : n ≤ 24) (hw : WF (cp M 1) n) {i : Nat} (hi : i < n) : Fn Y yX6_renew wsX6_renew { frames := 3, cells := 0, slots := 0, locals := 67 } [.ref (Y.2.2.2.1 0), .int (nI i)] M (some (.int (prR (cpB M (M.2 k) 1 n) 1 i))) ((seM (prM (cpB M (M.2 k) 1 n) 1 i) k (prR (cpB M (M.2 k) 1 n) 1 i))) := by
  have hc := hh k (by omega)
  have hz1 : (cpB M (M.2 k) 1 n).1 1 1 = nI n := by rw [prz hc.1 hc.2 hn]; exact hz
  have hw1 : WF (cp (cpB M (M.2 k) 1 n) 1) n := prw hc.1 hc.2 hn (by omega) hw
  have hk1 : (cpB M (M.2 k) 1 n).1 33 1 = nI k := by rw [pro hc.1 hn (by omega)]; exact hkk
  have hfr : Fr (cpB M (M.2 k) 1 n) (prM (cpB M (M.2 k) 1 n) 1 i) := prM_fr (by omega)
  have hk2 : (prM (cpB M (M.2 k) 1 n) 1 i).1 33 1 = nI k := by rw [hfr.2 33 (by decide)]; exact hk1
  have hh2 : ∀ z9, z9 < 7 → isB ((prM (cpB M (M.2 k) 1 n) 1 i).2 z9) ∧ (prM (cpB M (M.2 k) 1 n) 1 i).2 z9 ≠ 1 := by rw [hfr.1]; exact hh
  refine Fn.of (cc := cX6_renew) (ins := iX6_renew) (maxL := 2) (ret := (some .int)) (by decide) dX6_renew [some (.ref (Y.2.2.2.1 0)), some (.int (nI i))] (Nat.le_of_ble_eq_true rfl) rfl rfl ?_
  intro X hX hQ
  refine v_aload_n hX 0 0 rfl rfl rfl ?_
  refine g_6_4 hX 1  tw_196 rfl ?_
  refine v_aload_n hX 0 2 rfl rfl rfl ?_
  refine g_6_0 hX 3  tw_192 rfl ?_
  refine v_callVN hX 1 (by decide) rfl rfl (f_prepare hk hkk hh hz hn hw) tw_220 (List.mem_of_getElem? (i := 7) rfl) tw_45 tw_219 tw_0 (by decide +kernel) ⟨⟨rfl, rfl⟩, Nat.le_of_ble_eq_true rfl, Nat.le_of_ble_eq_true rfl⟩ rfl (Nat.le_of_ble_eq_true rfl) rfl rfl 4 rfl ?_
  refine v_aload_n hX 0 5 rfl rfl rfl ?_
  refine g_6_4 hX 6  tw_196 rfl ?_
  refine v_aload_n hX 0 7 rfl rfl rfl ?_
  refine g_6_0 hX 8  tw_192 rfl ?_
  refine v_iload_n hX 1 9 rfl rfl rfl ?_
  refine v_callVN hX 1 (by have := isB_lt isB_1; omega) (cG_B isB_1) rfl (f_prolong isB_1 hz1 hn hi) tw_332 (List.mem_of_getElem? (i := 16) rfl) tw_40 tw_331 tw_21 (by decide +kernel) ⟨⟨rfl, rfl⟩, Nat.le_of_ble_eq_true rfl, Nat.le_of_ble_eq_true rfl⟩ rfl (Nat.le_of_ble_eq_true rfl) rfl rfl 10 rfl ?_
  refine v_callVN hX 1 (by decide) rfl rfl (f_settle hk hk2 hh2) tw_244 (List.mem_of_getElem? (i := 11) rfl) tw_45 tw_243 tw_6 (by decide +kernel) ⟨⟨rfl, rfl⟩, Nat.le_of_ble_eq_true rfl, Nat.le_of_ble_eq_true rfl⟩ rfl (Nat.le_of_ble_eq_true rfl) rfl rfl 11 rfl ?_
  refine v_iret hX hQ rfl rfl ?_ ?_ 12 rfl
  · rfl
  · rfl
set_option maxRecDepth 100000 in
set_option maxHeartbeats 4000000 in
theorem f_overrule {Y : Yt} {M : Mm} {w : Int32} {k n : Nat} (hk : k ≤ 6) (hkk : M.1 33 1 = nI k) (hh : ∀ i, i < 7 → isB (M.2 i) ∧ M.2 i ≠ 1) (hz : M.1 1 1 = nI n) (hn : n ≤ 24) (hw : WF (cp M 1) n) : Fn Y yX6_overrule wsX6_overrule { frames := 3, cells := 0, slots := 0, locals := 67 } [.ref (Y.2.2.2.1 0), .int w] M (some (.int (tcR (cpB M (M.2 k) 1 n) 1 w))) ((seM (tcM (cpB M (M.2 k) 1 n) 1 w) k (tcR (cpB M (M.2 k) 1 n) 1 w))) := by
  have hc := hh k (by omega)
  have hz1 : (cpB M (M.2 k) 1 n).1 1 1 = nI n := by rw [prz hc.1 hc.2 hn]; exact hz
  have hw1 : WF (cp (cpB M (M.2 k) 1 n) 1) n := prw hc.1 hc.2 hn (by omega) hw
  have hk1 : (cpB M (M.2 k) 1 n).1 33 1 = nI k := by rw [pro hc.1 hn (by omega)]; exact hkk
  have hfr : Fr (cpB M (M.2 k) 1 n) (tcM (cpB M (M.2 k) 1 n) 1 w) := tcM_fr
  have hk2 : (tcM (cpB M (M.2 k) 1 n) 1 w).1 33 1 = nI k := by rw [hfr.2 33 (by decide)]; exact hk1
  have hh2 : ∀ z9, z9 < 7 → isB ((tcM (cpB M (M.2 k) 1 n) 1 w).2 z9) ∧ (tcM (cpB M (M.2 k) 1 n) 1 w).2 z9 ≠ 1 := by rw [hfr.1]; exact hh
  refine Fn.of (cc := cX6_overrule) (ins := iX6_overrule) (maxL := 2) (ret := (some .int)) (by decide) dX6_overrule [some (.ref (Y.2.2.2.1 0)), some (.int w)] (Nat.le_of_ble_eq_true rfl) rfl rfl ?_
  intro X hX hQ
  refine v_aload_n hX 0 0 rfl rfl rfl ?_
  refine g_6_4 hX 1  tw_196 rfl ?_
  refine v_aload_n hX 0 2 rfl rfl rfl ?_
  refine g_6_0 hX 3  tw_192 rfl ?_
  refine v_callVN hX 1 (by decide) rfl rfl (f_prepare hk hkk hh hz hn hw) tw_220 (List.mem_of_getElem? (i := 7) rfl) tw_45 tw_219 tw_0 (by decide +kernel) ⟨⟨rfl, rfl⟩, Nat.le_of_ble_eq_true rfl, Nat.le_of_ble_eq_true rfl⟩ rfl (Nat.le_of_ble_eq_true rfl) rfl rfl 4 rfl ?_
  refine v_aload_n hX 0 5 rfl rfl rfl ?_
  refine g_6_4 hX 6  tw_196 rfl ?_
  refine v_aload_n hX 0 7 rfl rfl rfl ?_
  refine g_6_0 hX 8  tw_192 rfl ?_
  refine v_iload_n hX 1 9 rfl rfl rfl ?_
  refine v_callVN hX 1 (by have := isB_lt isB_1; omega) (cG_B isB_1) rfl (f_turnCase isB_1) tw_340 (List.mem_of_getElem? (i := 17) rfl) tw_40 tw_339 tw_22 (by decide +kernel) ⟨⟨rfl, rfl⟩, Nat.le_of_ble_eq_true rfl, Nat.le_of_ble_eq_true rfl⟩ rfl (Nat.le_of_ble_eq_true rfl) rfl rfl 10 rfl ?_
  refine v_callVN hX 1 (by decide) rfl rfl (f_settle hk hk2 hh2) tw_244 (List.mem_of_getElem? (i := 11) rfl) tw_45 tw_243 tw_6 (by decide +kernel) ⟨⟨rfl, rfl⟩, Nat.le_of_ble_eq_true rfl, Nat.le_of_ble_eq_true rfl⟩ rfl (Nat.le_of_ble_eq_true rfl) rfl rfl 11 rfl ?_
  refine v_iret hX hQ rfl rfl ?_ ?_ 12 rfl
  · rfl
  · rfl
set_option maxRecDepth 100000 in
set_option maxHeartbeats 4000000 in
theorem f_pass {Y : Yt} {M : Mm} {d : Int32} {k n : Nat} (hk : k ≤ 6) (hkk : M.1 33 1 = nI k) (hh : ∀ i, i < 7 → isB (M.2 i) ∧ M.2 i ≠ 1) (hz : M.1 1 1 = nI n) (hn : n ≤ 24) (hw : WF (cp M 1) n) : Fn Y yX6_pass wsX6_pass { frames := 5, cells := 0, slots := 0, locals := 109 } [.ref (Y.2.2.2.1 0), .int d] M (some (.int (moR (cpB M (M.2 k) 1 n) 1 n d))) ((seM (moM (cpB M (M.2 k) 1 n) 1 d) k (moR (cpB M (M.2 k) 1 n) 1 n d))) := by
  have hc := hh k (by omega)
  have hz1 : (cpB M (M.2 k) 1 n).1 1 1 = nI n := by rw [prz hc.1 hc.2 hn]; exact hz
  have hw1 : WF (cp (cpB M (M.2 k) 1 n) 1) n := prw hc.1 hc.2 hn (by omega) hw
  have hk1 : (cpB M (M.2 k) 1 n).1 33 1 = nI k := by rw [pro hc.1 hn (by omega)]; exact hkk
  have hfr : Fr (cpB M (M.2 k) 1 n) (moM (cpB M (M.2 k) 1 n) 1 d) := moM_fr
  have hk2 : (moM (cpB M (M.2 k) 1 n) 1 d).1 33 1 = nI k := by rw [hfr.2 33 (by decide)]; exact hk1
  have hh2 : ∀ z9, z9 < 7 → isB ((moM (cpB M (M.2 k) 1 n) 1 d).2 z9) ∧ (moM (cpB M (M.2 k) 1 n) 1 d).2 z9 ≠ 1 := by rw [hfr.1]; exact hh
  refine Fn.of (cc := cX6_pass) (ins := iX6_pass) (maxL := 2) (ret := (some .int)) (by decide) dX6_pass [some (.ref (Y.2.2.2.1 0)), some (.int d)] (Nat.le_of_ble_eq_true rfl) rfl rfl ?_
  intro X hX hQ
  refine v_aload_n hX 0 0 rfl rfl rfl ?_
  refine g_6_4 hX 1  tw_196 rfl ?_
  refine v_aload_n hX 0 2 rfl rfl rfl ?_
  refine g_6_0 hX 3  tw_192 rfl ?_
  refine v_callVN hX 1 (by decide) rfl rfl (f_prepare hk hkk hh hz hn hw) tw_220 (List.mem_of_getElem? (i := 7) rfl) tw_45 tw_219 tw_0 (by decide +kernel) ⟨⟨rfl, rfl⟩, Nat.le_of_ble_eq_true rfl, Nat.le_of_ble_eq_true rfl⟩ rfl (Nat.le_of_ble_eq_true rfl) rfl rfl 4 rfl ?_
  refine v_aload_n hX 0 5 rfl rfl rfl ?_
  refine g_6_4 hX 6  tw_196 rfl ?_
  refine v_aload_n hX 0 7 rfl rfl rfl ?_
  refine g_6_0 hX 8  tw_192 rfl ?_
  refine v_iload_n hX 1 9 rfl rfl rfl ?_
  refine v_callVN hX 1 (by have := isB_lt isB_1; omega) (cG_B isB_1) rfl (f_moveOn isB_1 hz1 hn hw1) tw_348 (List.mem_of_getElem? (i := 18) rfl) tw_40 tw_347 tw_23 (by decide +kernel) ⟨⟨rfl, rfl⟩, Nat.le_of_ble_eq_true rfl, Nat.le_of_ble_eq_true rfl⟩ rfl (Nat.le_of_ble_eq_true rfl) rfl rfl 10 rfl ?_
  refine v_callVN hX 1 (by decide) rfl rfl (f_settle hk hk2 hh2) tw_244 (List.mem_of_getElem? (i := 11) rfl) tw_45 tw_243 tw_6 (by decide +kernel) ⟨⟨rfl, rfl⟩, Nat.le_of_ble_eq_true rfl, Nat.le_of_ble_eq_true rfl⟩ rfl (Nat.le_of_ble_eq_true rfl) rfl rfl 11 rfl ?_
  refine v_iret hX hQ rfl rfl ?_ ?_ 12 rfl
  · rfl
  · rfl
set_option maxRecDepth 100000 in
set_option maxHeartbeats 4000000 in
theorem f_lowestOf {Y : Yt} {M : Mm} {x : Int32} : Fn Y yX6_lowestOf wsX6_lowestOf { frames := 1, cells := 0, slots := 0, locals := 21 } [.int x] M (some (.int (lo x 24 0))) M := by
  refine Fn.of (cc := cX6_lowestOf) (ins := iX6_lowestOf) (maxL := 2) (ret := (some .int)) (by decide) dX6_lowestOf [some (.int x), none] (Nat.le_of_ble_eq_true rfl) rfl rfl ?_
  intro X hX hQ
  refine v_iconst hX (v := 0) 0 rfl (by decide) ?_
  refine v_istore_n hX 1 1 rfl rfl (Nat.le_of_ble_eq_true rfl) rfl ?_
  have lp : ∀ (k : Nat), k ≤ 24 → lo x (24 - k) k = lo x 24 0 → V Y X M 2 [some (.int x), some (.int (nI k))] [] := by
    refine upTo 24 (fun k hk ih => ?_)
    intro he
    refine v_iload_n hX 1 2 rfl rfl rfl ?_
    refine v_bipush hX (v := 24) 3 rfl (by decide) ?_
    refine v_icmp_ge hX (tgt := 24) 4 rfl (by decide) (fun c5 => ?_) (fun c5 => ?_)
    · skip
      have hk2 : k = 24 := by have := of_le (a := 24) c5 (by omega) (by omega); omega
      subst hk2
      have he2 : (-6 : Int32) = lo x 24 0 := he
      refine v_bipush hX (v := (-6)) 13 rfl (by decide) ?_
      refine v_iret hX hQ rfl rfl ?_ ?_ 14 rfl
      · rw [he2]
      · rfl
    · skip
      have hk2 : k < 24 := of_nle (a := 24) c5 (by omega) (by omega)
      obtain ⟨f, hf⟩ : ∃ f, 24 - k = f + 1 := ⟨23 - k, by omega⟩
      rw [hf, lo] at he
      refine v_iload_n hX 0 5 rfl rfl rfl ?_
      refine v_iload_n hX 1 6 rfl rfl rfl ?_
      refine v_callS hX 2 (f_has) tw_314 tw_370 tw_313 tw_39 (by decide +kernel) ⟨⟨rfl, rfl⟩, Nat.le_of_ble_eq_true rfl, Nat.le_of_ble_eq_true rfl⟩ rfl (Nat.le_of_ble_eq_true rfl) rfl rfl 7 rfl ?_
      refine v_if_eq hX (tgt := 18) 8 rfl (by decide) (fun c13 => ?_) (fun c13 => ?_)
      · skip
        rw [if_neg (by rw [hasv_eq (by omega) c13]; decide)] at he
        refine v_iinc hX 11 rfl rfl (nI_inc k) (Nat.le_of_ble_eq_true rfl) rfl ?_
        refine v_goto hX (tgt := 2) 12 rfl (by decide) ?_
        exact V.sub (ih hk2 (by rw [show 24 - (k + 1) = f by omega]; exact he)) rfl ⟨rfl, rfl, trivial⟩
      · skip
        rw [if_pos (hasv_ne (by omega) c13)] at he
        refine v_iload_n hX 1 9 rfl rfl rfl ?_
        refine v_iret hX hQ rfl rfl ?_ ?_ 10 rfl
        · rw [he]
        · rfl
  exact V.sub (lp 0 (Nat.zero_le _) rfl) rfl ⟨rfl, rfl, trivial⟩
set_option maxRecDepth 100000 in
set_option maxHeartbeats 4000000 in
theorem f_of_no {Y : Yt} {M : Mm} {n : Nat} {x w : Int32} (hz : M.1 1 1 = nI n) (hn : n ≤ 24) (hx : x < 0 ∨ nI n ≤ x) : Fn Y yX6_of wsX6_of { frames := 5, cells := 0, slots := 0, locals := 109 } [.ref (Y.2.2.2.1 0), .int x, .int w] M (some (.int (-1))) M := by
  refine Fn.of (cc := cX6_of) (ins := iX6_of) (maxL := 4) (ret := (some .int)) (by decide) dX6_of [some (.ref (Y.2.2.2.1 0)), some (.int x), some (.int w), none] (Nat.le_of_ble_eq_true rfl) rfl rfl ?_
  intro X hX hQ
  refine v_aload_n hX 0 0 rfl rfl rfl ?_
  refine g_6_0 hX 1  tw_192 rfl ?_
  refine v_iload_n hX 1 2 rfl rfl rfl ?_
  refine v_callVN hX 1 (by decide) (cG_B isB_1) rfl (f_find_out isB_1 hz hx) tw_232 (List.mem_of_getElem? (i := 19) rfl) tw_40 tw_231 tw_3 (by decide +kernel) ⟨⟨rfl, rfl⟩, Nat.le_of_ble_eq_true rfl, Nat.le_of_ble_eq_true rfl⟩ rfl (Nat.le_of_ble_eq_true rfl) rfl rfl 3 rfl ?_
  refine v_astore_nN hX 3 4 rfl rfl (Nat.le_of_ble_eq_true rfl) rfl ?_
  refine v_aload_nN hX 3 5 rfl rfl rfl ?_
  refine v_ifnonnullN hX 6 rfl ?_
  refine v_iconst hX (v := (-1)) 7 rfl (by decide) ?_
  refine v_iret hX hQ rfl rfl ?_ ?_ 8 rfl
  · rfl
  · rfl
set_option maxRecDepth 100000 in
set_option maxHeartbeats 4000000 in
theorem f_of {Y : Yt} {M : Mm} {n i : Nat} {w : Int32} (hz : M.1 1 1 = nI n) (hn : n ≤ 24) (hw : WF (cp M 1) n) (hi : i < n) : Fn Y yX6_of wsX6_of { frames := 5, cells := 0, slots := 0, locals := 109 } [.ref (Y.2.2.2.1 0), .int (nI i), .int w] M (some (.int (ofR M n i w))) M := by
  refine Fn.of (cc := cX6_of) (ins := iX6_of) (maxL := 4) (ret := (some .int)) (by decide) dX6_of [some (.ref (Y.2.2.2.1 0)), some (.int (nI i)), some (.int w), none] (Nat.le_of_ble_eq_true rfl) rfl rfl ?_
  intro X hX hQ
  refine v_aload_n hX 0 0 rfl rfl rfl ?_
  refine g_6_0 hX 1  tw_192 rfl ?_
  refine v_iload_n hX 1 2 rfl rfl rfl ?_
  refine v_callVN hX 1 (by decide) (cG_B isB_1) rfl (f_find_in isB_1 hz hn hi) tw_232 (List.mem_of_getElem? (i := 19) rfl) tw_40 tw_231 tw_3 (by decide +kernel) ⟨⟨rfl, rfl⟩, Nat.le_of_ble_eq_true rfl, Nat.le_of_ble_eq_true rfl⟩ rfl (Nat.le_of_ble_eq_true rfl) rfl rfl 3 rfl ?_
  refine v_astore_n hX 3 4 rfl rfl (Nat.le_of_ble_eq_true rfl) rfl ?_
  refine v_aload_n hX 3 5 rfl rfl rfl ?_
  refine v_ifnonnull hX (tgt := 15) 6 rfl (by decide) ?_
  refine v_iload_n hX 2 9 rfl rfl rfl ?_
  rcases sw11 w with hc | hc | hc | hc | hc | hc | hc | hc | hc | hc | hc | hc
  · skip
    subst hc
    refine v_tableIn hX (off := 60) (tgt := 76) 10 rfl (by decide) (by decide) (by decide) (by decide) ?_
    refine v_aload_n hX 3 11 rfl rfl rfl ?_
    refine gN_4_0 hX 12 isB_1 (by omega) (List.mem_of_getElem? (i := 1) rfl) rfl ?_
    refine v_iret hX hQ rfl rfl ?_ ?_ 13 rfl
    · simp (decide := true) only [ofR, if_true, if_false]
    · rfl
  · skip
    subst hc
    refine v_tableIn hX (off := 65) (tgt := 81) 10 rfl (by decide) (by decide) (by decide) (by decide) ?_
    refine v_aload_n hX 3 14 rfl rfl rfl ?_
    refine gN_4_1 hX 15 isB_1 (by omega) (List.mem_of_getElem? (i := 3) rfl) rfl ?_
    refine v_iret hX hQ rfl rfl ?_ ?_ 16 rfl
    · simp (decide := true) only [ofR, if_true, if_false]
    · rfl
  · skip
    subst hc
    refine v_tableIn hX (off := 70) (tgt := 86) 10 rfl (by decide) (by decide) (by decide) (by decide) ?_
    refine v_aload_n hX 3 17 rfl rfl rfl ?_
    refine gN_4_4 hX 18 isB_1 (by omega) (List.mem_of_getElem? (i := 10) rfl) rfl ?_
    refine v_iret hX hQ rfl rfl ?_ ?_ 19 rfl
    · simp (decide := true) only [ofR, if_true, if_false]
    · rfl
  · skip
    subst hc
    refine v_tableIn hX (off := 75) (tgt := 91) 10 rfl (by decide) (by decide) (by decide) (by decide) ?_
    refine v_aload_n hX 3 20 rfl rfl rfl ?_
    refine gN_4_3 hX 21 isB_1 (by omega) (List.mem_of_getElem? (i := 8) rfl) rfl ?_
    refine v_iret hX hQ rfl rfl ?_ ?_ 22 rfl
    · simp (decide := true) only [ofR, if_true, if_false]
    · rfl
  · skip
    subst hc
    refine v_tableIn hX (off := 80) (tgt := 96) 10 rfl (by decide) (by decide) (by decide) (by decide) ?_
    refine v_aload_n hX 3 23 rfl rfl rfl ?_
    refine gN_4_2 hX 24 isB_1 (by omega) (List.mem_of_getElem? (i := 5) rfl) rfl ?_
    refine v_iret hX hQ rfl rfl ?_ ?_ 25 rfl
    · simp (decide := true) only [ofR, if_true, if_false]
    · rfl
  · skip
    subst hc
    refine v_tableIn hX (off := 85) (tgt := 101) 10 rfl (by decide) (by decide) (by decide) (by decide) ?_
    refine v_aload_n hX 0 26 rfl rfl rfl ?_
    refine g_6_0 hX 27  tw_192 rfl ?_
    refine v_callVN hX 0 (by decide) (cG_B isB_1) rfl (f_standing isB_1 hz hn hw) tw_287 (List.mem_of_getElem? (i := 20) rfl) tw_40 tw_286 tw_13 (by decide +kernel) ⟨⟨rfl, rfl⟩, Nat.le_of_ble_eq_true rfl, Nat.le_of_ble_eq_true rfl⟩ rfl (Nat.le_of_ble_eq_true rfl) rfl rfl 28 rfl ?_
    refine v_iload_n hX 1 29 rfl rfl rfl ?_
    refine v_callS hX 2 (f_has) tw_314 tw_370 tw_313 tw_39 (by decide +kernel) ⟨⟨rfl, rfl⟩, Nat.le_of_ble_eq_true rfl, Nat.le_of_ble_eq_true rfl⟩ rfl (Nat.le_of_ble_eq_true rfl) rfl rfl 30 rfl ?_
    refine v_if_eq hX (tgt := 119) 31 rfl (by decide) (fun c112 => ?_) (fun c112 => ?_)
    · skip
      have q1 := hasv_eq (by omega) c112
      rw [bt_mk _ (by omega) (by omega), decide_eq_true hi, Bool.true_and] at q1
      refine v_iconst hX (v := 0) 34 rfl (by decide) ?_
      refine v_iret hX hQ rfl rfl ?_ ?_ 35 rfl
      · simp (decide := true) only [ofR, q1, if_true, if_false]
      · rfl
    · skip
      have q1 := hasv_ne (by omega) c112
      rw [bt_mk _ (by omega) (by omega), decide_eq_true hi, Bool.true_and] at q1
      refine v_iconst hX (v := 1) 32 rfl (by decide) ?_
      refine v_goto hX (tgt := 120) 33 rfl (by decide) ?_
      refine v_iret hX hQ rfl rfl ?_ ?_ 35 rfl
      · simp (decide := true) only [ofR, q1, if_true, if_false]
      · rfl
  · skip
    subst hc
    refine v_tableIn hX (off := 105) (tgt := 121) 10 rfl (by decide) (by decide) (by decide) (by decide) ?_
    refine v_aload_n hX 0 36 rfl rfl rfl ?_
    refine g_6_0 hX 37  tw_192 rfl ?_
    refine v_iload_n hX 1 38 rfl rfl rfl ?_
    refine v_callVN hX 1 (by decide) (cG_B isB_1) rfl (f_reasonAgainst isB_1 hz hn hi hw) tw_374 (List.mem_of_getElem? (i := 21) rfl) tw_40 tw_373 tw_24 (by decide +kernel) ⟨⟨rfl, rfl⟩, Nat.le_of_ble_eq_true rfl, Nat.le_of_ble_eq_true rfl⟩ rfl (Nat.le_of_ble_eq_true rfl) rfl rfl 39 rfl ?_
    refine v_iret hX hQ rfl rfl ?_ ?_ 40 rfl
    · simp (decide := true) only [ofR, if_true, if_false]
    · rfl
  · skip
    subst hc
    refine v_tableIn hX (off := 114) (tgt := 130) 10 rfl (by decide) (by decide) (by decide) (by decide) ?_
    refine v_aload_n hX 0 41 rfl rfl rfl ?_
    refine g_6_0 hX 42  tw_192 rfl ?_
    refine v_iload_n hX 1 43 rfl rfl rfl ?_
    refine v_callVN hX 1 (by decide) (cG_B isB_1) rfl (f_answersTo isB_1 hz hn) tw_378 (List.mem_of_getElem? (i := 22) rfl) tw_40 tw_377 tw_25 (by decide +kernel) ⟨⟨rfl, rfl⟩, Nat.le_of_ble_eq_true rfl, Nat.le_of_ble_eq_true rfl⟩ rfl (Nat.le_of_ble_eq_true rfl) rfl rfl 44 rfl ?_
    rw [mk_F]
    refine v_aload_n hX 0 45 rfl rfl rfl ?_
    refine g_6_0 hX 46  tw_192 rfl ?_
    refine v_callVN hX 0 (by decide) (cG_B isB_1) rfl (f_standing isB_1 hz hn hw) tw_287 (List.mem_of_getElem? (i := 20) rfl) tw_40 tw_286 tw_13 (by decide +kernel) ⟨⟨rfl, rfl⟩, Nat.le_of_ble_eq_true rfl, Nat.le_of_ble_eq_true rfl⟩ rfl (Nat.le_of_ble_eq_true rfl) rfl rfl 47 rfl ?_
    refine v_iand hX 48 rfl ?_
    refine v_callS hX 1 (f_lowestOf) tw_381 tw_379 tw_380 tw_39 (by decide +kernel) ⟨⟨rfl, rfl⟩, Nat.le_of_ble_eq_true rfl, Nat.le_of_ble_eq_true rfl⟩ rfl (Nat.le_of_ble_eq_true rfl) rfl rfl 49 rfl ?_
    refine v_iret hX hQ rfl rfl ?_ ?_ 50 rfl
    · simp (decide := true) only [ofR, if_true, if_false]
    · rfl
  · skip
    subst hc
    refine v_tableIn hX (off := 134) (tgt := 150) 10 rfl (by decide) (by decide) (by decide) (by decide) ?_
    refine v_aload_n hX 0 51 rfl rfl rfl ?_
    refine g_6_0 hX 52  tw_192 rfl ?_
    refine v_iload_n hX 1 53 rfl rfl rfl ?_
    refine v_callVN hX 1 (by decide) (cG_B isB_1) rfl (f_answersTo isB_1 hz hn) tw_378 (List.mem_of_getElem? (i := 22) rfl) tw_40 tw_377 tw_25 (by decide +kernel) ⟨⟨rfl, rfl⟩, Nat.le_of_ble_eq_true rfl, Nat.le_of_ble_eq_true rfl⟩ rfl (Nat.le_of_ble_eq_true rfl) rfl rfl 54 rfl ?_
    rw [mk_F]
    refine v_iret hX hQ rfl rfl ?_ ?_ 55 rfl
    · simp (decide := true) only [ofR, if_true, if_false]
    · rfl
  · skip
    subst hc
    refine v_tableIn hX (off := 143) (tgt := 159) 10 rfl (by decide) (by decide) (by decide) (by decide) ?_
    refine v_aload_n hX 0 56 rfl rfl rfl ?_
    refine g_6_0 hX 57  tw_192 rfl ?_
    refine v_iload_n hX 1 58 rfl rfl rfl ?_
    refine v_callVN hX 1 (by decide) (cG_B isB_1) rfl (f_depthOf isB_1 hz hn hi hw) tw_385 (List.mem_of_getElem? (i := 23) rfl) tw_40 tw_384 tw_26 (by decide +kernel) ⟨⟨rfl, rfl⟩, Nat.le_of_ble_eq_true rfl, Nat.le_of_ble_eq_true rfl⟩ rfl (Nat.le_of_ble_eq_true rfl) rfl rfl 59 rfl ?_
    refine v_iret hX hQ rfl rfl ?_ ?_ 60 rfl
    · simp (decide := true) only [ofR, if_true, if_false]
    · rfl
  · skip
    subst hc
    refine v_tableIn hX (off := 152) (tgt := 168) 10 rfl (by decide) (by decide) (by decide) (by decide) ?_
    refine v_aload_n hX 0 61 rfl rfl rfl ?_
    refine g_6_0 hX 62  tw_192 rfl ?_
    refine v_aload_n hX 3 63 rfl rfl rfl ?_
    refine v_callVN hX 1 (by decide) (cG_B isB_1) rfl (f_daysLeft isB_1 hz hn hi) tw_389 (List.mem_of_getElem? (i := 24) rfl) tw_40 tw_388 tw_27 (by decide +kernel) ⟨⟨rfl, rfl⟩, Nat.le_of_ble_eq_true rfl, Nat.le_of_ble_eq_true rfl⟩ rfl (Nat.le_of_ble_eq_true rfl) rfl rfl 64 rfl ?_
    refine v_iret hX hQ rfl rfl ?_ ?_ 65 rfl
    · simp (decide := true) only [ofR, if_true, if_false]
    · rfl
  · skip
    have hne : ∀ c : Nat, c ≤ 10 → ¬ w = nI c := fun c h9 => sw_ne (m := 10) hc h9 (by decide)
    refine v_tableOut hX (tgt := 177) 10 rfl hc (by decide) ?_
    refine v_bipush hX (v := (-2)) 66 rfl (by decide) ?_
    refine v_iret hX hQ rfl rfl ?_ ?_ 67 rfl
    · unfold ofR; rw [if_neg (show ¬ w = 0 from hne 0 (by decide)), if_neg (show ¬ w = 1 from hne 1 (by decide)), if_neg (show ¬ w = 2 from hne 2 (by decide)), if_neg (show ¬ w = 3 from hne 3 (by decide)), if_neg (show ¬ w = 4 from hne 4 (by decide)), if_neg (show ¬ w = 5 from hne 5 (by decide)), if_neg (show ¬ w = 6 from hne 6 (by decide)), if_neg (show ¬ w = 7 from hne 7 (by decide)), if_neg (show ¬ w = 8 from hne 8 (by decide)), if_neg (show ¬ w = 9 from hne 9 (by decide)), if_neg (show ¬ w = 10 from hne 10 (by decide))]
    · rfl
set_option maxRecDepth 100000 in
set_option maxHeartbeats 4000000 in
theorem f_count {Y : Yt} {M : Mm} {w : Int32} {n : Nat} (hz : M.1 1 1 = nI n) (hn : n ≤ 24) (hw : WF (cp M 1) n) : Fn Y yX6_count wsX6_count { frames := 5, cells := 0, slots := 0, locals := 108 } [.ref (Y.2.2.2.1 0), .int w] M (some (.int (coR M n 0 w))) M := by
  refine Fn.of (cc := cX6_count) (ins := iX6_count) (maxL := 2) (ret := (some .int)) (by decide) dX6_count [some (.ref (Y.2.2.2.1 0)), some (.int w)] (Nat.le_of_ble_eq_true rfl) rfl rfl ?_
  intro X hX hQ
  refine v_iload_n hX 1 0 rfl rfl rfl ?_
  rcases sw14 w with hc | hc | hc | hc | hc | hc | hc | hc | hc | hc | hc | hc | hc | hc | hc
  · skip
    subst hc
    refine v_tableIn hX (off := 71) (tgt := 72) 1 rfl (by decide) (by decide) (by decide) (by decide) ?_
    refine v_aload_n hX 0 2 rfl rfl rfl ?_
    refine g_6_0 hX 3  tw_192 rfl ?_
    refine gN_0_2 hX 4 isB_1 (List.mem_of_getElem? (i := 14) rfl) rfl ?_
    refine v_iret hX hQ rfl rfl ?_ ?_ 5 rfl
    · simp (decide := true) only [coR, if_true, if_false]
    · rfl
  · skip
    subst hc
    refine v_tableIn hX (off := 79) (tgt := 80) 1 rfl (by decide) (by decide) (by decide) (by decide) ?_
    refine v_aload_n hX 0 6 rfl rfl rfl ?_
    refine g_6_0 hX 7  tw_192 rfl ?_
    refine gN_0_1 hX 8 isB_1 (List.mem_of_getElem? (i := 13) rfl) rfl ?_
    refine v_iret hX hQ rfl rfl ?_ ?_ 9 rfl
    · simp (decide := true) only [coR, if_true, if_false]
    · rfl
  · skip
    subst hc
    refine v_tableIn hX (off := 87) (tgt := 88) 1 rfl (by decide) (by decide) (by decide) (by decide) ?_
    refine v_aload_n hX 0 10 rfl rfl rfl ?_
    refine g_6_0 hX 11  tw_192 rfl ?_
    refine v_callVN hX 0 (by decide) (cG_B isB_1) rfl (f_claims isB_1 hz hn) tw_397 (List.mem_of_getElem? (i := 25) rfl) tw_40 tw_396 tw_28 (by decide +kernel) ⟨⟨rfl, rfl⟩, Nat.le_of_ble_eq_true rfl, Nat.le_of_ble_eq_true rfl⟩ rfl (Nat.le_of_ble_eq_true rfl) rfl rfl 12 rfl ?_
    rw [mk_F]
    refine v_callS hX 1 (f_bitCount) tw_321 tw_399 tw_320 tw_46 (by decide +kernel) ⟨⟨rfl, rfl⟩, Nat.le_of_ble_eq_true rfl, Nat.le_of_ble_eq_true rfl⟩ rfl (Nat.le_of_ble_eq_true rfl) rfl rfl 13 rfl ?_
    refine v_iret hX hQ rfl rfl ?_ ?_ 14 rfl
    · simp (decide := true) only [coR, if_true, if_false]
    · rfl
  · skip
    subst hc
    refine v_tableIn hX (off := 98) (tgt := 99) 1 rfl (by decide) (by decide) (by decide) (by decide) ?_
    refine v_aload_n hX 0 15 rfl rfl rfl ?_
    refine g_6_0 hX 16  tw_192 rfl ?_
    refine v_callVN hX 0 (by decide) (cG_B isB_1) rfl (f_standing isB_1 hz hn hw) tw_287 (List.mem_of_getElem? (i := 20) rfl) tw_40 tw_286 tw_13 (by decide +kernel) ⟨⟨rfl, rfl⟩, Nat.le_of_ble_eq_true rfl, Nat.le_of_ble_eq_true rfl⟩ rfl (Nat.le_of_ble_eq_true rfl) rfl rfl 17 rfl ?_
    refine v_callS hX 1 (f_bitCount) tw_321 tw_399 tw_320 tw_46 (by decide +kernel) ⟨⟨rfl, rfl⟩, Nat.le_of_ble_eq_true rfl, Nat.le_of_ble_eq_true rfl⟩ rfl (Nat.le_of_ble_eq_true rfl) rfl rfl 18 rfl ?_
    refine v_iret hX hQ rfl rfl ?_ ?_ 19 rfl
    · simp (decide := true) only [coR, if_true, if_false]
    · rfl
  · skip
    subst hc
    refine v_tableIn hX (off := 109) (tgt := 110) 1 rfl (by decide) (by decide) (by decide) (by decide) ?_
    refine v_aload_n hX 0 20 rfl rfl rfl ?_
    refine g_6_0 hX 21  tw_192 rfl ?_
    refine v_callVN hX 0 (by decide) (cG_B isB_1) rfl (f_claims isB_1 hz hn) tw_397 (List.mem_of_getElem? (i := 25) rfl) tw_40 tw_396 tw_28 (by decide +kernel) ⟨⟨rfl, rfl⟩, Nat.le_of_ble_eq_true rfl, Nat.le_of_ble_eq_true rfl⟩ rfl (Nat.le_of_ble_eq_true rfl) rfl rfl 22 rfl ?_
    rw [mk_F]
    refine v_aload_n hX 0 23 rfl rfl rfl ?_
    refine g_6_0 hX 24  tw_192 rfl ?_
    refine v_callVN hX 0 (by decide) (cG_B isB_1) rfl (f_standing isB_1 hz hn hw) tw_287 (List.mem_of_getElem? (i := 20) rfl) tw_40 tw_286 tw_13 (by decide +kernel) ⟨⟨rfl, rfl⟩, Nat.le_of_ble_eq_true rfl, Nat.le_of_ble_eq_true rfl⟩ rfl (Nat.le_of_ble_eq_true rfl) rfl rfl 25 rfl ?_
    refine v_iand hX 26 rfl ?_
    refine v_callS hX 1 (f_bitCount) tw_321 tw_399 tw_320 tw_46 (by decide +kernel) ⟨⟨rfl, rfl⟩, Nat.le_of_ble_eq_true rfl, Nat.le_of_ble_eq_true rfl⟩ rfl (Nat.le_of_ble_eq_true rfl) rfl rfl 27 rfl ?_
    refine v_iret hX hQ rfl rfl ?_ ?_ 28 rfl
    · simp (decide := true) only [coR, if_true, if_false]
    · rfl
  · skip
    subst hc
    refine v_tableIn hX (off := 128) (tgt := 129) 1 rfl (by decide) (by decide) (by decide) (by decide) ?_
    refine v_aload_n hX 0 29 rfl rfl rfl ?_
    refine g_6_0 hX 30  tw_192 rfl ?_
    refine v_callVN hX 0 (by decide) (cG_B isB_1) rfl (f_out isB_1 hz hn hw) tw_291 (List.mem_of_getElem? (i := 26) rfl) tw_40 tw_290 tw_14 (by decide +kernel) ⟨⟨rfl, rfl⟩, Nat.le_of_ble_eq_true rfl, Nat.le_of_ble_eq_true rfl⟩ rfl (Nat.le_of_ble_eq_true rfl) rfl rfl 31 rfl ?_
    refine v_callS hX 1 (f_bitCount) tw_321 tw_399 tw_320 tw_46 (by decide +kernel) ⟨⟨rfl, rfl⟩, Nat.le_of_ble_eq_true rfl, Nat.le_of_ble_eq_true rfl⟩ rfl (Nat.le_of_ble_eq_true rfl) rfl rfl 32 rfl ?_
    refine v_iret hX hQ rfl rfl ?_ ?_ 33 rfl
    · simp (decide := true) only [coR, if_true, if_false]
    · rfl
  · skip
    subst hc
    refine v_tableIn hX (off := 139) (tgt := 140) 1 rfl (by decide) (by decide) (by decide) (by decide) ?_
    refine v_aload_n hX 0 34 rfl rfl rfl ?_
    refine g_6_0 hX 35  tw_192 rfl ?_
    refine v_callVN hX 0 (by decide) (cG_B isB_1) rfl (f_answered isB_1 hz hn hw) tw_404 (List.mem_of_getElem? (i := 27) rfl) tw_40 tw_403 tw_29 (by decide +kernel) ⟨⟨rfl, rfl⟩, Nat.le_of_ble_eq_true rfl, Nat.le_of_ble_eq_true rfl⟩ rfl (Nat.le_of_ble_eq_true rfl) rfl rfl 36 rfl ?_
    rw [all_mk hn]
    refine v_callS hX 1 (f_bitCount) tw_321 tw_399 tw_320 tw_46 (by decide +kernel) ⟨⟨rfl, rfl⟩, Nat.le_of_ble_eq_true rfl, Nat.le_of_ble_eq_true rfl⟩ rfl (Nat.le_of_ble_eq_true rfl) rfl rfl 37 rfl ?_
    refine v_iret hX hQ rfl rfl ?_ ?_ 38 rfl
    · simp (decide := true) only [coR, if_true, if_false]
    · rfl
  · skip
    subst hc
    refine v_tableIn hX (off := 150) (tgt := 151) 1 rfl (by decide) (by decide) (by decide) (by decide) ?_
    refine v_aload_n hX 0 39 rfl rfl rfl ?_
    refine g_6_0 hX 40  tw_192 rfl ?_
    refine v_iconst hX (v := 0) 41 rfl (by decide) ?_
    refine v_aload_n hX 0 42 rfl rfl rfl ?_
    refine g_6_0 hX 43  tw_192 rfl ?_
    refine v_callVN hX 0 (by decide) (cG_B isB_1) rfl (f_withdrawn isB_1 hz hn) tw_295 (List.mem_of_getElem? (i := 28) rfl) tw_40 tw_294 tw_15 (by decide +kernel) ⟨⟨rfl, rfl⟩, Nat.le_of_ble_eq_true rfl, Nat.le_of_ble_eq_true rfl⟩ rfl (Nat.le_of_ble_eq_true rfl) rfl rfl 44 rfl ?_
    rw [mk_F]
    refine v_aload_n hX 0 45 rfl rfl rfl ?_
    refine g_6_0 hX 46  tw_192 rfl ?_
    refine v_callVN hX 0 (by decide) (cG_B isB_1) rfl (f_struck isB_1 hz hn) tw_299 (List.mem_of_getElem? (i := 29) rfl) tw_40 tw_298 tw_16 (by decide +kernel) ⟨⟨rfl, rfl⟩, Nat.le_of_ble_eq_true rfl, Nat.le_of_ble_eq_true rfl⟩ rfl (Nat.le_of_ble_eq_true rfl) rfl rfl 47 rfl ?_
    rw [skA_mk hw hn]
    refine v_ior hX 48 rfl ?_
    refine v_callVN hX 2 (by decide) (cG_B isB_1) rfl (f_pagesOf isB_1 hz hn) tw_414 (List.mem_of_getElem? (i := 30) rfl) tw_40 tw_413 tw_31 (by decide +kernel) ⟨⟨rfl, rfl⟩, Nat.le_of_ble_eq_true rfl, Nat.le_of_ble_eq_true rfl⟩ rfl (Nat.le_of_ble_eq_true rfl) rfl rfl 49 rfl ?_
    refine v_iret hX hQ rfl rfl ?_ ?_ 50 rfl
    · simp (decide := true) only [coR, if_true, if_false]
    · rfl
  · skip
    subst hc
    refine v_tableIn hX (off := 174) (tgt := 175) 1 rfl (by decide) (by decide) (by decide) (by decide) ?_
    refine v_aload_n hX 0 51 rfl rfl rfl ?_
    refine g_6_0 hX 52  tw_192 rfl ?_
    refine v_iconst hX (v := 1) 53 rfl (by decide) ?_
    refine v_aload_n hX 0 54 rfl rfl rfl ?_
    refine g_6_0 hX 55  tw_192 rfl ?_
    refine v_callVN hX 0 (by decide) (cG_B isB_1) rfl (f_withdrawn isB_1 hz hn) tw_295 (List.mem_of_getElem? (i := 28) rfl) tw_40 tw_294 tw_15 (by decide +kernel) ⟨⟨rfl, rfl⟩, Nat.le_of_ble_eq_true rfl, Nat.le_of_ble_eq_true rfl⟩ rfl (Nat.le_of_ble_eq_true rfl) rfl rfl 56 rfl ?_
    rw [mk_F]
    refine v_aload_n hX 0 57 rfl rfl rfl ?_
    refine g_6_0 hX 58  tw_192 rfl ?_
    refine v_callVN hX 0 (by decide) (cG_B isB_1) rfl (f_struck isB_1 hz hn) tw_299 (List.mem_of_getElem? (i := 29) rfl) tw_40 tw_298 tw_16 (by decide +kernel) ⟨⟨rfl, rfl⟩, Nat.le_of_ble_eq_true rfl, Nat.le_of_ble_eq_true rfl⟩ rfl (Nat.le_of_ble_eq_true rfl) rfl rfl 59 rfl ?_
    rw [skA_mk hw hn]
    refine v_ior hX 60 rfl ?_
    refine v_callVN hX 2 (by decide) (cG_B isB_1) rfl (f_pagesOf isB_1 hz hn) tw_414 (List.mem_of_getElem? (i := 30) rfl) tw_40 tw_413 tw_31 (by decide +kernel) ⟨⟨rfl, rfl⟩, Nat.le_of_ble_eq_true rfl, Nat.le_of_ble_eq_true rfl⟩ rfl (Nat.le_of_ble_eq_true rfl) rfl rfl 61 rfl ?_
    refine v_iret hX hQ rfl rfl ?_ ?_ 62 rfl
    · simp (decide := true) only [coR, if_true, if_false]
    · rfl
  · skip
    subst hc
    refine v_tableIn hX (off := 198) (tgt := 199) 1 rfl (by decide) (by decide) (by decide) (by decide) ?_
    refine v_aload_n hX 0 63 rfl rfl rfl ?_
    refine g_6_0 hX 64  tw_192 rfl ?_
    refine gN_0_3 hX 65 isB_1 (List.mem_of_getElem? (i := 15) rfl) rfl ?_
    refine v_iret hX hQ rfl rfl ?_ ?_ 66 rfl
    · simp (decide := true) only [coR, if_true, if_false]
    · rfl
  · skip
    subst hc
    refine v_tableIn hX (off := 206) (tgt := 207) 1 rfl (by decide) (by decide) (by decide) (by decide) ?_
    refine v_aload_n hX 0 67 rfl rfl rfl ?_
    refine g_6_0 hX 68  tw_192 rfl ?_
    refine gN_0_4 hX 69 isB_1 (List.mem_of_getElem? (i := 16) rfl) rfl ?_
    refine v_iret hX hQ rfl rfl ?_ ?_ 70 rfl
    · simp (decide := true) only [coR, if_true, if_false]
    · rfl
  · skip
    subst hc
    refine v_tableIn hX (off := 214) (tgt := 215) 1 rfl (by decide) (by decide) (by decide) (by decide) ?_
    refine v_aload_n hX 0 71 rfl rfl rfl ?_
    refine g_6_0 hX 72  tw_192 rfl ?_
    refine gN_0_5 hX 73 isB_1 (List.mem_of_getElem? (i := 17) rfl) rfl ?_
    refine v_iret hX hQ rfl rfl ?_ ?_ 74 rfl
    · simp (decide := true) only [coR, if_true, if_false]
    · rfl
  · skip
    subst hc
    refine v_tableIn hX (off := 222) (tgt := 223) 1 rfl (by decide) (by decide) (by decide) (by decide) ?_
    refine v_aload_n hX 0 75 rfl rfl rfl ?_
    refine g_6_2 hX 76  tw_194 rfl ?_
    refine gN_3_1 hX 77  (List.mem_of_getElem? (i := 18) rfl) rfl ?_
    refine v_iret hX hQ rfl rfl ?_ ?_ 78 rfl
    · simp (decide := true) only [coR, if_true, if_false]
    · rfl
  · skip
    subst hc
    refine v_tableIn hX (off := 230) (tgt := 231) 1 rfl (by decide) (by decide) (by decide) (by decide) ?_
    refine v_aload_n hX 0 79 rfl rfl rfl ?_
    refine g_6_4 hX 80  tw_196 rfl ?_
    refine gN_2_1 hX 81  (List.mem_of_getElem? (i := 19) rfl) rfl ?_
    refine v_iret hX hQ rfl rfl ?_ ?_ 82 rfl
    · simp (decide := true) only [coR, if_true, if_false]
    · rfl
  · skip
    have hne : ∀ c : Nat, c ≤ 13 → ¬ w = nI c := fun c h9 => sw_ne (m := 13) hc h9 (by decide)
    refine v_tableOut hX (tgt := 239) 1 rfl hc (by decide) ?_
    refine v_bipush hX (v := (-2)) 83 rfl (by decide) ?_
    refine v_iret hX hQ rfl rfl ?_ ?_ 84 rfl
    · unfold coR; rw [if_neg (show ¬ w = 0 from hne 0 (by decide)), if_neg (show ¬ w = 1 from hne 1 (by decide)), if_neg (show ¬ w = 2 from hne 2 (by decide)), if_neg (show ¬ w = 3 from hne 3 (by decide)), if_neg (show ¬ w = 4 from hne 4 (by decide)), if_neg (show ¬ w = 5 from hne 5 (by decide)), if_neg (show ¬ w = 6 from hne 6 (by decide)), if_neg (show ¬ w = 7 from hne 7 (by decide)), if_neg (show ¬ w = 8 from hne 8 (by decide)), if_neg (show ¬ w = 9 from hne 9 (by decide)), if_neg (show ¬ w = 10 from hne 10 (by decide)), if_neg (show ¬ w = 11 from hne 11 (by decide)), if_neg (show ¬ w = 12 from hne 12 (by decide)), if_neg (show ¬ w = 13 from hne 13 (by decide))]
    · rfl
set_option maxRecDepth 100000 in
set_option maxHeartbeats 4000000 in
theorem f_points {Y : Yt} {M : Mm} {w : Int32} {n : Nat} (hz : M.1 1 1 = nI n) (hn : n ≤ 24) (hw : WF (cp M 1) n) : Fn Y yX6_points wsX6_points { frames := 5, cells := 0, slots := 0, locals := 108 } [.ref (Y.2.2.2.1 0), .int w] M (some (.int (poR M n w))) M := by
  refine Fn.of (cc := cX6_points) (ins := iX6_points) (maxL := 2) (ret := (some .int)) (by decide) dX6_points [some (.ref (Y.2.2.2.1 0)), some (.int w)] (Nat.le_of_ble_eq_true rfl) rfl rfl ?_
  intro X hX hQ
  refine v_iload_n hX 1 0 rfl rfl rfl ?_
  rcases sw6 w with hc | hc | hc | hc | hc | hc | hc
  · skip
    subst hc
    refine v_tableIn hX (off := 39) (tgt := 40) 1 rfl (by decide) (by decide) (by decide) (by decide) ?_
    refine v_aload_n hX 0 2 rfl rfl rfl ?_
    refine g_6_0 hX 3  tw_192 rfl ?_
    refine v_callVN hX 0 (by decide) (cG_B isB_1) rfl (f_standing isB_1 hz hn hw) tw_287 (List.mem_of_getElem? (i := 20) rfl) tw_40 tw_286 tw_13 (by decide +kernel) ⟨⟨rfl, rfl⟩, Nat.le_of_ble_eq_true rfl, Nat.le_of_ble_eq_true rfl⟩ rfl (Nat.le_of_ble_eq_true rfl) rfl rfl 4 rfl ?_
    refine v_iret hX hQ rfl rfl ?_ ?_ 5 rfl
    · simp (decide := true) only [poR, if_true, if_false]
    · rfl
  · skip
    subst hc
    refine v_tableIn hX (off := 47) (tgt := 48) 1 rfl (by decide) (by decide) (by decide) (by decide) ?_
    refine v_aload_n hX 0 6 rfl rfl rfl ?_
    refine g_6_0 hX 7  tw_192 rfl ?_
    refine v_callVN hX 0 (by decide) (cG_B isB_1) rfl (f_claims isB_1 hz hn) tw_397 (List.mem_of_getElem? (i := 25) rfl) tw_40 tw_396 tw_28 (by decide +kernel) ⟨⟨rfl, rfl⟩, Nat.le_of_ble_eq_true rfl, Nat.le_of_ble_eq_true rfl⟩ rfl (Nat.le_of_ble_eq_true rfl) rfl rfl 8 rfl ?_
    rw [mk_F]
    refine v_aload_n hX 0 9 rfl rfl rfl ?_
    refine g_6_0 hX 10  tw_192 rfl ?_
    refine v_callVN hX 0 (by decide) (cG_B isB_1) rfl (f_standing isB_1 hz hn hw) tw_287 (List.mem_of_getElem? (i := 20) rfl) tw_40 tw_286 tw_13 (by decide +kernel) ⟨⟨rfl, rfl⟩, Nat.le_of_ble_eq_true rfl, Nat.le_of_ble_eq_true rfl⟩ rfl (Nat.le_of_ble_eq_true rfl) rfl rfl 11 rfl ?_
    refine v_iand hX 12 rfl ?_
    refine v_iret hX hQ rfl rfl ?_ ?_ 13 rfl
    · simp (decide := true) only [poR, if_true, if_false]
    · rfl
  · skip
    subst hc
    refine v_tableIn hX (off := 63) (tgt := 64) 1 rfl (by decide) (by decide) (by decide) (by decide) ?_
    refine v_aload_n hX 0 14 rfl rfl rfl ?_
    refine g_6_0 hX 15  tw_192 rfl ?_
    refine v_callVN hX 0 (by decide) (cG_B isB_1) rfl (f_out isB_1 hz hn hw) tw_291 (List.mem_of_getElem? (i := 26) rfl) tw_40 tw_290 tw_14 (by decide +kernel) ⟨⟨rfl, rfl⟩, Nat.le_of_ble_eq_true rfl, Nat.le_of_ble_eq_true rfl⟩ rfl (Nat.le_of_ble_eq_true rfl) rfl rfl 16 rfl ?_
    refine v_iret hX hQ rfl rfl ?_ ?_ 17 rfl
    · simp (decide := true) only [poR, if_true, if_false]
    · rfl
  · skip
    subst hc
    refine v_tableIn hX (off := 71) (tgt := 72) 1 rfl (by decide) (by decide) (by decide) (by decide) ?_
    refine v_aload_n hX 0 18 rfl rfl rfl ?_
    refine g_6_0 hX 19  tw_192 rfl ?_
    refine v_callVN hX 0 (by decide) (cG_B isB_1) rfl (f_answered isB_1 hz hn hw) tw_404 (List.mem_of_getElem? (i := 27) rfl) tw_40 tw_403 tw_29 (by decide +kernel) ⟨⟨rfl, rfl⟩, Nat.le_of_ble_eq_true rfl, Nat.le_of_ble_eq_true rfl⟩ rfl (Nat.le_of_ble_eq_true rfl) rfl rfl 20 rfl ?_
    rw [all_mk hn]
    refine v_iret hX hQ rfl rfl ?_ ?_ 21 rfl
    · simp (decide := true) only [poR, if_true, if_false]
    · rfl
  · skip
    subst hc
    refine v_tableIn hX (off := 79) (tgt := 80) 1 rfl (by decide) (by decide) (by decide) (by decide) ?_
    refine v_aload_n hX 0 22 rfl rfl rfl ?_
    refine g_6_0 hX 23  tw_192 rfl ?_
    refine v_iconst hX (v := 0) 24 rfl (by decide) ?_
    refine v_callVN hX 1 (by decide) (cG_B isB_1) rfl (f_ofSide isB_1 hz hn) tw_425 (List.mem_of_getElem? (i := 31) rfl) tw_40 tw_424 tw_32 (by decide +kernel) ⟨⟨rfl, rfl⟩, Nat.le_of_ble_eq_true rfl, Nat.le_of_ble_eq_true rfl⟩ rfl (Nat.le_of_ble_eq_true rfl) rfl rfl 25 rfl ?_
    rw [mk_F]
    refine v_iret hX hQ rfl rfl ?_ ?_ 26 rfl
    · simp (decide := true) only [poR, if_true, if_false]
    · rfl
  · skip
    subst hc
    refine v_tableIn hX (off := 88) (tgt := 89) 1 rfl (by decide) (by decide) (by decide) (by decide) ?_
    refine v_aload_n hX 0 27 rfl rfl rfl ?_
    refine g_6_0 hX 28  tw_192 rfl ?_
    refine v_iconst hX (v := 1) 29 rfl (by decide) ?_
    refine v_callVN hX 1 (by decide) (cG_B isB_1) rfl (f_ofSide isB_1 hz hn) tw_425 (List.mem_of_getElem? (i := 31) rfl) tw_40 tw_424 tw_32 (by decide +kernel) ⟨⟨rfl, rfl⟩, Nat.le_of_ble_eq_true rfl, Nat.le_of_ble_eq_true rfl⟩ rfl (Nat.le_of_ble_eq_true rfl) rfl rfl 30 rfl ?_
    rw [mk_F]
    refine v_iret hX hQ rfl rfl ?_ ?_ 31 rfl
    · simp (decide := true) only [poR, if_true, if_false]
    · rfl
  · skip
    have hne : ∀ c : Nat, c ≤ 5 → ¬ w = nI c := fun c h9 => sw_ne (m := 5) hc h9 (by decide)
    refine v_tableOut hX (tgt := 98) 1 rfl hc (by decide) ?_
    refine v_bipush hX (v := (-2)) 32 rfl (by decide) ?_
    refine v_iret hX hQ rfl rfl ?_ ?_ 33 rfl
    · unfold poR; rw [if_neg (show ¬ w = 0 from hne 0 (by decide)), if_neg (show ¬ w = 1 from hne 1 (by decide)), if_neg (show ¬ w = 2 from hne 2 (by decide)), if_neg (show ¬ w = 3 from hne 3 (by decide)), if_neg (show ¬ w = 4 from hne 4 (by decide)), if_neg (show ¬ w = 5 from hne 5 (by decide))]
    · rfl
set_option maxRecDepth 100000 in
set_option maxHeartbeats 4000000 in
theorem f_toFall_no {Y : Yt} {M : Mm} {n : Nat} {x : Int32} (hz : M.1 1 1 = nI n) (hx : x < 0 ∨ nI n ≤ x) : Fn Y yX6_toFall wsX6_toFall { frames := 4, cells := 0, slots := 0, locals := 92 } [.ref (Y.2.2.2.1 0), .int x] M (some (.int (-1))) M := by
  refine Fn.of (cc := cX6_toFall) (ins := iX6_toFall) (maxL := 2) (ret := (some .int)) (by decide) dX6_toFall [some (.ref (Y.2.2.2.1 0)), some (.int x)] (Nat.le_of_ble_eq_true rfl) rfl rfl ?_
  intro X hX hQ
  refine v_aload_n hX 0 0 rfl rfl rfl ?_
  refine g_6_0 hX 1  tw_192 rfl ?_
  refine v_iload_n hX 1 2 rfl rfl rfl ?_
  refine v_callVN hX 1 (by decide) (cG_B isB_1) rfl (f_find_out isB_1 hz hx) tw_232 (List.mem_of_getElem? (i := 19) rfl) tw_40 tw_231 tw_3 (by decide +kernel) ⟨⟨rfl, rfl⟩, Nat.le_of_ble_eq_true rfl, Nat.le_of_ble_eq_true rfl⟩ rfl (Nat.le_of_ble_eq_true rfl) rfl rfl 3 rfl ?_
  refine v_ifnonnullN hX 4 rfl ?_
  refine v_iconst hX (v := (-1)) 5 rfl (by decide) ?_
  refine v_iret hX hQ rfl rfl ?_ ?_ 6 rfl
  · rfl
  · rfl
set_option maxRecDepth 100000 in
set_option maxHeartbeats 4000000 in
theorem f_toFall {Y : Yt} {M : Mm} {n i : Nat} (hz : M.1 1 1 = nI n) (hn : n ≤ 24) (hw : WF (cp M 1) n) (hi : i < n) : Fn Y yX6_toFall wsX6_toFall { frames := 4, cells := 0, slots := 0, locals := 92 } [.ref (Y.2.2.2.1 0), .int (nI i)] M (some (.int (if (wM M (wAll (cp M 1) (bOut M 1) (naP (cp M 1) n) n (wI M 24) 24)).1 28 i < 1000 then (wM M (wAll (cp M 1) (bOut M 1) (naP (cp M 1) n) n (wI M 24) 24)).1 28 i else -6))) ((wM M (wAll (cp M 1) (bOut M 1) (naP (cp M 1) n) n (wI M 24) 24))) := by
  refine Fn.of (cc := cX6_toFall) (ins := iX6_toFall) (maxL := 2) (ret := (some .int)) (by decide) dX6_toFall [some (.ref (Y.2.2.2.1 0)), some (.int (nI i))] (Nat.le_of_ble_eq_true rfl) rfl rfl ?_
  intro X hX hQ
  refine v_aload_n hX 0 0 rfl rfl rfl ?_
  refine g_6_0 hX 1  tw_192 rfl ?_
  refine v_iload_n hX 1 2 rfl rfl rfl ?_
  refine v_callVN hX 1 (by decide) (cG_B isB_1) rfl (f_find_in isB_1 hz hn hi) tw_232 (List.mem_of_getElem? (i := 19) rfl) tw_40 tw_231 tw_3 (by decide +kernel) ⟨⟨rfl, rfl⟩, Nat.le_of_ble_eq_true rfl, Nat.le_of_ble_eq_true rfl⟩ rfl (Nat.le_of_ble_eq_true rfl) rfl rfl 3 rfl ?_
  refine v_ifnonnull hX (tgt := 13) 4 rfl (by decide) ?_
  refine v_aload_n hX 0 7 rfl rfl rfl ?_
  refine g_6_1 hX 8  tw_193 rfl ?_
  refine v_aload_n hX 0 9 rfl rfl rfl ?_
  refine g_6_0 hX 10  tw_192 rfl ?_
  refine v_callVN hX 1 (by decide) rfl rfl (f_weigh isB_1 hz hn hw) tw_460 (List.mem_of_getElem? (i := 34) rfl) tw_42 tw_459 tw_34 (by decide +kernel) ⟨⟨rfl, rfl⟩, Nat.le_of_ble_eq_true rfl, Nat.le_of_ble_eq_true rfl⟩ rfl (Nat.le_of_ble_eq_true rfl) rfl rfl 11 rfl ?_
  refine v_aload_n hX 0 12 rfl rfl rfl ?_
  refine g_6_1 hX 13  tw_193 rfl ?_
  refine v_iload_n hX 1 14 rfl rfl rfl ?_
  refine v_callVN hX 1 (by decide) rfl rfl (f_ansFall (show i < 24 by omega)) tw_475 (List.mem_of_getElem? (i := 39) rfl) tw_42 tw_474 tw_36 (by decide +kernel) ⟨⟨rfl, rfl⟩, Nat.le_of_ble_eq_true rfl, Nat.le_of_ble_eq_true rfl⟩ rfl (Nat.le_of_ble_eq_true rfl) rfl rfl 15 rfl ?_
  refine v_iret hX hQ rfl rfl ?_ ?_ 16 rfl
  · rfl
  · rfl
set_option maxRecDepth 100000 in
set_option maxHeartbeats 4000000 in
theorem f_toStand_no {Y : Yt} {M : Mm} {n : Nat} {x : Int32} (hz : M.1 1 1 = nI n) (hx : x < 0 ∨ nI n ≤ x) : Fn Y yX6_toStand wsX6_toStand { frames := 4, cells := 0, slots := 0, locals := 92 } [.ref (Y.2.2.2.1 0), .int x] M (some (.int (-1))) M := by
  refine Fn.of (cc := cX6_toStand) (ins := iX6_toStand) (maxL := 2) (ret := (some .int)) (by decide) dX6_toStand [some (.ref (Y.2.2.2.1 0)), some (.int x)] (Nat.le_of_ble_eq_true rfl) rfl rfl ?_
  intro X hX hQ
  refine v_aload_n hX 0 0 rfl rfl rfl ?_
  refine g_6_0 hX 1  tw_192 rfl ?_
  refine v_iload_n hX 1 2 rfl rfl rfl ?_
  refine v_callVN hX 1 (by decide) (cG_B isB_1) rfl (f_find_out isB_1 hz hx) tw_232 (List.mem_of_getElem? (i := 19) rfl) tw_40 tw_231 tw_3 (by decide +kernel) ⟨⟨rfl, rfl⟩, Nat.le_of_ble_eq_true rfl, Nat.le_of_ble_eq_true rfl⟩ rfl (Nat.le_of_ble_eq_true rfl) rfl rfl 3 rfl ?_
  refine v_ifnonnullN hX 4 rfl ?_
  refine v_iconst hX (v := (-1)) 5 rfl (by decide) ?_
  refine v_iret hX hQ rfl rfl ?_ ?_ 6 rfl
  · rfl
  · rfl
set_option maxRecDepth 100000 in
set_option maxHeartbeats 4000000 in
theorem f_toStand {Y : Yt} {M : Mm} {n i : Nat} (hz : M.1 1 1 = nI n) (hn : n ≤ 24) (hw : WF (cp M 1) n) (hi : i < n) : Fn Y yX6_toStand wsX6_toStand { frames := 4, cells := 0, slots := 0, locals := 92 } [.ref (Y.2.2.2.1 0), .int (nI i)] M (some (.int (if bOut M 1 i = true then -5 else if (wM M (wAll (cp M 1) (bOut M 1) (naP (cp M 1) n) n (wI M 24) 24)).1 29 i < 1000 then (wM M (wAll (cp M 1) (bOut M 1) (naP (cp M 1) n) n (wI M 24) 24)).1 29 i else -6))) ((if bOut M 1 i = true then M else (wM M (wAll (cp M 1) (bOut M 1) (naP (cp M 1) n) n (wI M 24) 24)))) := by
  refine Fn.of (cc := cX6_toStand) (ins := iX6_toStand) (maxL := 2) (ret := (some .int)) (by decide) dX6_toStand [some (.ref (Y.2.2.2.1 0)), some (.int (nI i))] (Nat.le_of_ble_eq_true rfl) rfl rfl ?_
  intro X hX hQ
  refine v_aload_n hX 0 0 rfl rfl rfl ?_
  refine g_6_0 hX 1  tw_192 rfl ?_
  refine v_iload_n hX 1 2 rfl rfl rfl ?_
  refine v_callVN hX 1 (by decide) (cG_B isB_1) rfl (f_find_in isB_1 hz hn hi) tw_232 (List.mem_of_getElem? (i := 19) rfl) tw_40 tw_231 tw_3 (by decide +kernel) ⟨⟨rfl, rfl⟩, Nat.le_of_ble_eq_true rfl, Nat.le_of_ble_eq_true rfl⟩ rfl (Nat.le_of_ble_eq_true rfl) rfl rfl 3 rfl ?_
  refine v_ifnonnull hX (tgt := 13) 4 rfl (by decide) ?_
  refine v_aload_n hX 0 7 rfl rfl rfl ?_
  refine g_6_0 hX 8  tw_192 rfl ?_
  refine v_callVN hX 0 (by decide) (cG_B isB_1) rfl (f_out isB_1 hz hn hw) tw_291 (List.mem_of_getElem? (i := 26) rfl) tw_40 tw_290 tw_14 (by decide +kernel) ⟨⟨rfl, rfl⟩, Nat.le_of_ble_eq_true rfl, Nat.le_of_ble_eq_true rfl⟩ rfl (Nat.le_of_ble_eq_true rfl) rfl rfl 9 rfl ?_
  refine v_iload_n hX 1 10 rfl rfl rfl ?_
  refine v_callS hX 2 (f_has) tw_314 tw_370 tw_313 tw_39 (by decide +kernel) ⟨⟨rfl, rfl⟩, Nat.le_of_ble_eq_true rfl, Nat.le_of_ble_eq_true rfl⟩ rfl (Nat.le_of_ble_eq_true rfl) rfl rfl 11 rfl ?_
  refine v_if_eq hX (tgt := 30) 12 rfl (by decide) (fun c24 => ?_) (fun c24 => ?_)
  · skip
    have q1 := hasv_eq (by omega) c24
    rw [bt_mk _ (by omega) (by omega), decide_eq_true hi, Bool.true_and] at q1
    refine v_aload_n hX 0 15 rfl rfl rfl ?_
    refine g_6_1 hX 16  tw_193 rfl ?_
    refine v_aload_n hX 0 17 rfl rfl rfl ?_
    refine g_6_0 hX 18  tw_192 rfl ?_
    refine v_callVN hX 1 (by decide) rfl rfl (f_weigh isB_1 hz hn hw) tw_460 (List.mem_of_getElem? (i := 34) rfl) tw_42 tw_459 tw_34 (by decide +kernel) ⟨⟨rfl, rfl⟩, Nat.le_of_ble_eq_true rfl, Nat.le_of_ble_eq_true rfl⟩ rfl (Nat.le_of_ble_eq_true rfl) rfl rfl 19 rfl ?_
    refine v_aload_n hX 0 20 rfl rfl rfl ?_
    refine g_6_1 hX 21  tw_193 rfl ?_
    refine v_iload_n hX 1 22 rfl rfl rfl ?_
    refine v_callVN hX 1 (by decide) rfl rfl (f_ansStand (show i < 24 by omega)) tw_486 (List.mem_of_getElem? (i := 40) rfl) tw_42 tw_485 tw_37 (by decide +kernel) ⟨⟨rfl, rfl⟩, Nat.le_of_ble_eq_true rfl, Nat.le_of_ble_eq_true rfl⟩ rfl (Nat.le_of_ble_eq_true rfl) rfl rfl 23 rfl ?_
    refine v_iret hX hQ rfl rfl ?_ ?_ 24 rfl
    · rw [if_neg (by rw [q1]; decide)]
    · rw [if_neg (by rw [q1]; decide)]
  · skip
    have q1 := hasv_ne (by omega) c24
    rw [bt_mk _ (by omega) (by omega), decide_eq_true hi, Bool.true_and] at q1
    refine v_bipush hX (v := (-5)) 13 rfl (by decide) ?_
    refine v_iret hX hQ rfl rfl ?_ ?_ 14 rfl
    · rw [if_pos q1]
    · rw [if_pos q1]
set_option maxRecDepth 100000 in
set_option maxHeartbeats 4000000 in
theorem f_best_bad {Y : Yt} {M : Mm} {w : Int32} (h0 : ¬ w = 0) (h1 : ¬ w = 1) : Fn Y yX6_bestAnswer wsX6_bestAnswer { frames := 3, cells := 0, slots := 0, locals := 68 } [.ref (Y.2.2.2.1 0), .int w] M (some (.int (-2))) M := by
  refine Fn.of (cc := cX6_bestAnswer) (ins := iX6_bestAnswer) (maxL := 9) (ret := (some .int)) (by decide) dX6_bestAnswer [some (.ref (Y.2.2.2.1 0)), some (.int w), none, none, none, none, none, none, none] (Nat.le_of_ble_eq_true rfl) rfl rfl ?_
  intro X hX hQ
  refine v_iload_n hX 1 0 rfl rfl rfl ?_
  refine v_if_eq hX (tgt := 12) 1 rfl (by decide) (fun c1 => absurd c1 h0) (fun c1 => ?_)
  refine v_iload_n hX 1 2 rfl rfl rfl ?_
  refine v_iconst hX (v := 1) 3 rfl (by decide) ?_
  refine v_icmp_eq hX (tgt := 12) 4 rfl (by decide) (fun c6 => absurd c6 h1) (fun c6 => ?_)
  refine v_bipush hX (v := (-2)) 5 rfl (by decide) ?_
  refine v_iret hX hQ rfl rfl ?_ ?_ 6 rfl
  · rfl
  · rfl
set_option maxRecDepth 100000 in
set_option maxHeartbeats 4000000 in
theorem f_best {Y : Yt} {M : Mm} {w : Int32} (h01 : w = 0 ∨ w = 1) {n : Nat} (hz : M.1 1 1 = nI n) (hn : n ≤ 24) (hw : WF (cp M 1) n) : Fn Y yX6_bestAnswer wsX6_bestAnswer { frames := 3, cells := 0, slots := 0, locals := 68 } [.ref (Y.2.2.2.1 0), .int w] M (some (.int (if w = 0 then (baS M n 24).1 else (baS M n 24).2))) M := by
  refine Fn.of (cc := cX6_bestAnswer) (ins := iX6_bestAnswer) (maxL := 9) (ret := (some .int)) (by decide) dX6_bestAnswer [some (.ref (Y.2.2.2.1 0)), some (.int w), none, none, none, none, none, none, none] (Nat.le_of_ble_eq_true rfl) rfl rfl ?_
  intro X hX hQ
  have j0 : V Y X M 12 [some (.ref (Y.2.2.2.1 0)), some (.int w), none, none, none, none, none, none, none] [] := by
    skip
    refine v_bipush hX (v := (-6)) 7 rfl (by decide) ?_
    refine v_istore_n hX 2 8 rfl rfl (Nat.le_of_ble_eq_true rfl) rfl ?_
    refine v_bipush hX (v := (-6)) 9 rfl (by decide) ?_
    refine v_istore_n hX 3 10 rfl rfl (Nat.le_of_ble_eq_true rfl) rfl ?_
    refine v_aload_n hX 0 11 rfl rfl rfl ?_
    refine g_6_0 hX 12  tw_192 rfl ?_
    refine v_callVN hX 0 (by decide) (cG_B isB_1) rfl (f_out isB_1 hz hn hw) tw_291 (List.mem_of_getElem? (i := 26) rfl) tw_40 tw_290 tw_14 (by decide +kernel) ⟨⟨rfl, rfl⟩, Nat.le_of_ble_eq_true rfl, Nat.le_of_ble_eq_true rfl⟩ rfl (Nat.le_of_ble_eq_true rfl) rfl rfl 13 rfl ?_
    refine v_istore hX 14 rfl (Nat.le_of_ble_eq_true rfl) rfl ?_
    refine v_aload_n hX 0 15 rfl rfl rfl ?_
    refine g_6_0 hX 16  tw_192 rfl ?_
    refine v_iload hX 17 rfl rfl ?_
    refine v_iconst hX (v := 0) 18 rfl (by decide) ?_
    refine v_callVN hX 2 (by decide) (cG_B isB_1) rfl (f_standingIf isB_1 hz hn hw) tw_311 (List.mem_of_getElem? (i := 32) rfl) tw_40 tw_310 tw_19 (by decide +kernel) ⟨⟨rfl, rfl⟩, Nat.le_of_ble_eq_true rfl, Nat.le_of_ble_eq_true rfl⟩ rfl (Nat.le_of_ble_eq_true rfl) rfl rfl 19 rfl ?_
    refine v_istore hX 20 rfl (Nat.le_of_ble_eq_true rfl) rfl ?_
    refine v_aload_n hX 0 21 rfl rfl rfl ?_
    refine g_6_0 hX 22  tw_192 rfl ?_
    refine v_callVN hX 0 (by decide) (cG_B isB_1) rfl (f_withoutAnswers isB_1 hz hn) tw_452 (List.mem_of_getElem? (i := 33) rfl) tw_40 tw_451 tw_33 (by decide +kernel) ⟨⟨rfl, rfl⟩, Nat.le_of_ble_eq_true rfl, Nat.le_of_ble_eq_true rfl⟩ rfl (Nat.le_of_ble_eq_true rfl) rfl rfl 23 rfl ?_
    rw [wa_mk hw hn]
    refine v_iload hX 24 rfl rfl ?_
    refine v_iconst hX (v := (-1)) 25 rfl (by decide) ?_
    refine v_ixor hX 26 rfl ?_
    refine v_iand hX 27 rfl ?_
    refine v_istore hX 28 rfl (Nat.le_of_ble_eq_true rfl) rfl ?_
    refine v_iconst hX (v := 0) 29 rfl (by decide) ?_
    refine v_istore hX 30 rfl (Nat.le_of_ble_eq_true rfl) rfl ?_
    have lp : ∀ (k : Nat), k ≤ 24 → V Y X M 56 [some (.ref (Y.2.2.2.1 0)), some (.int w), some (.int (baS M n k).1), some (.int (baS M n k).2), some (.int (mk (bOut M 1) n)), some (.int (mk (sd (bt (mk (bOut M 1) n)) (bt 0) (cp M 1) n) n)), some (.int (mk (naP (cp M 1) n) n &&& (mk (bOut M 1) n ^^^ (-1)))), some (.int (nI k)), none] [] := by
      refine upTo 24 (fun k hk ih => ?_)
      refine v_iload hX 31 rfl rfl ?_
      refine v_bipush hX (v := 24) 32 rfl (by decide) ?_
      refine v_icmp_ge hX (tgt := 120) 33 rfl (by decide) (fun c60 => ?_) (fun c60 => ?_)
      · skip
        have hk2 : k = 24 := by have := of_le (a := 24) c60 (by omega) (by omega); omega
        subst hk2
        refine v_iload_n hX 1 62 rfl rfl rfl ?_
        refine v_if_ne hX (tgt := 128) 63 rfl (by decide) (fun c121 => ?_) (fun c121 => ?_)
        · skip
          refine v_iload_n hX 3 66 rfl rfl rfl ?_
          refine v_iret hX hQ rfl rfl ?_ ?_ 67 rfl
          · simp only [c121, if_true, if_false]
          · rfl
        · skip
          refine v_iload_n hX 2 64 rfl rfl rfl ?_
          refine v_goto hX (tgt := 129) 65 rfl (by decide) ?_
          refine v_iret hX hQ rfl rfl ?_ ?_ 67 rfl
          · simp only [c121, if_true, if_false]
          · rfl
      · skip
        have hk2 : k < 24 := of_nle (a := 24) c60 (by omega) (by omega)
        refine v_iload hX 34 rfl rfl ?_
        refine v_iload hX 35 rfl rfl ?_
        refine v_callS hX 2 (f_has) tw_314 tw_370 tw_313 tw_39 (by decide +kernel) ⟨⟨rfl, rfl⟩, Nat.le_of_ble_eq_true rfl, Nat.le_of_ble_eq_true rfl⟩ rfl (Nat.le_of_ble_eq_true rfl) rfl rfl 36 rfl ?_
        refine v_if_eq hX (tgt := 114) 37 rfl (by decide) (fun c70 => ?_) (fun c70 => ?_)
        · skip
          have q1 := hasv_eq (by omega) c70
          have hs : baS M n (k + 1) = baS M n k := by rw [baS, if_neg (by rw [q1]; decide)]
          refine v_iinc hX 60 rfl rfl (nI_inc k) (Nat.le_of_ble_eq_true rfl) rfl ?_
          refine v_goto hX (tgt := 56) 61 rfl (by decide) ?_
          exact V.sub (ih hk2) rfl ⟨rfl, rfl, (by first | rfl | (refine congrArg (fun z : Int32 => some (Value.int z)) ?_; rw [hs])), (by first | rfl | (refine congrArg (fun z : Int32 => some (Value.int z)) ?_; rw [hs])), rfl, rfl, rfl, rfl, trivial⟩
        · skip
          have q1 := hasv_ne (by omega) c70
          refine v_aload_n hX 0 38 rfl rfl rfl ?_
          refine g_6_0 hX 39  tw_192 rfl ?_
          refine v_iload hX 40 rfl rfl ?_
          refine v_iconst hX (v := 1) 41 rfl (by decide) ?_
          refine v_iload hX 42 rfl rfl ?_
          refine v_ishl hX 43 rfl ?_
          refine v_callVN hX 2 (by decide) (cG_B isB_1) rfl (f_standingIf isB_1 hz hn hw) tw_311 (List.mem_of_getElem? (i := 32) rfl) tw_40 tw_310 tw_19 (by decide +kernel) ⟨⟨rfl, rfl⟩, Nat.le_of_ble_eq_true rfl, Nat.le_of_ble_eq_true rfl⟩ rfl (Nat.le_of_ble_eq_true rfl) rfl rfl 44 rfl ?_
          refine v_iload hX 45 rfl rfl ?_
          refine v_ixor hX 46 rfl ?_
          refine v_aload_n hX 0 47 rfl rfl rfl ?_
          refine g_6_0 hX 48  tw_192 rfl ?_
          refine v_callVN hX 0 (by decide) (cG_B isB_1) rfl (f_claims isB_1 hz hn) tw_397 (List.mem_of_getElem? (i := 25) rfl) tw_40 tw_396 tw_28 (by decide +kernel) ⟨⟨rfl, rfl⟩, Nat.le_of_ble_eq_true rfl, Nat.le_of_ble_eq_true rfl⟩ rfl (Nat.le_of_ble_eq_true rfl) rfl rfl 49 rfl ?_
          rw [mk_F]
          refine v_iand hX 50 rfl ?_
          refine v_callS hX 1 (f_bitCount) tw_321 tw_399 tw_320 tw_46 (by decide +kernel) ⟨⟨rfl, rfl⟩, Nat.le_of_ble_eq_true rfl, Nat.le_of_ble_eq_true rfl⟩ rfl (Nat.le_of_ble_eq_true rfl) rfl rfl 51 rfl ?_
          show V Y X M _ _ (.int (ba2 M n k (bOut M 1) (naP (cp M 1) n) (cp M 1)) :: _)
          refine v_istore hX 52 rfl (Nat.le_of_ble_eq_true rfl) rfl ?_
          refine v_iload hX 53 rfl rfl ?_
          refine v_iload_n hX 3 54 rfl rfl rfl ?_
          refine v_icmp_le hX (tgt := 114) 55 rfl (by decide) (fun c105 => ?_) (fun c105 => ?_)
          · skip
            have hs : baS M n (k + 1) = baS M n k := by rw [baS, if_pos q1, if_pos c105]
            refine v_iinc hX 60 rfl rfl (nI_inc k) (Nat.le_of_ble_eq_true rfl) rfl ?_
            refine v_goto hX (tgt := 56) 61 rfl (by decide) ?_
            exact V.sub (ih hk2) rfl ⟨rfl, rfl, (by first | rfl | (refine congrArg (fun z : Int32 => some (Value.int z)) ?_; rw [hs])), (by first | rfl | (refine congrArg (fun z : Int32 => some (Value.int z)) ?_; rw [hs])), rfl, rfl, rfl, rfl, trivial⟩
          · skip
            have hs : baS M n (k + 1) = (nI k, ba2 M n k (bOut M 1) (naP (cp M 1) n) (cp M 1)) := by rw [baS, if_pos q1, if_neg c105]
            refine v_iload hX 56 rfl rfl ?_
            refine v_istore_n hX 2 57 rfl rfl (Nat.le_of_ble_eq_true rfl) rfl ?_
            refine v_iload hX 58 rfl rfl ?_
            refine v_istore_n hX 3 59 rfl rfl (Nat.le_of_ble_eq_true rfl) rfl ?_
            refine v_iinc hX 60 rfl rfl (nI_inc k) (Nat.le_of_ble_eq_true rfl) rfl ?_
            refine v_goto hX (tgt := 56) 61 rfl (by decide) ?_
            exact V.sub (ih hk2) rfl ⟨rfl, rfl, (by first | rfl | (refine congrArg (fun z : Int32 => some (Value.int z)) ?_; rw [hs])), (by first | rfl | (refine congrArg (fun z : Int32 => some (Value.int z)) ?_; rw [hs])), rfl, rfl, rfl, rfl, trivial⟩
    exact V.sub (lp 0 (Nat.zero_le _)) rfl ⟨rfl, rfl, (by first | rfl | (refine congrArg (fun z : Int32 => some (Value.int z)) ?_; rfl)), (by first | rfl | (refine congrArg (fun z : Int32 => some (Value.int z)) ?_; rfl)), rfl, rfl, rfl, rfl, trivial⟩
  refine v_iload_n hX 1 0 rfl rfl rfl ?_
  refine v_if_eq hX (tgt := 12) 1 rfl (by decide) (fun c1 => ?_) (fun c1 => ?_)
  · skip
    exact V.sub (j0) rfl ⟨rfl, rfl, trivial⟩
  · skip
    refine v_iload_n hX 1 2 rfl rfl rfl ?_
    refine v_iconst hX (v := 1) 3 rfl (by decide) ?_
    refine v_icmp_eq hX (tgt := 12) 4 rfl (by decide) (fun c6 => ?_) (fun c6 => absurd (h01.resolve_left c1) c6)
    exact V.sub (j0) rfl ⟨rfl, rfl, trivial⟩
set_option maxRecDepth 100000 in
set_option maxHeartbeats 4000000 in
theorem f_changesIn {Y : Yt} {M : Mm} {n : Nat} (hz : M.1 1 1 = nI n) (hn : n ≤ 24) (hw : WF (cp M 1) n) : Fn Y yX6_changesIn wsX6_changesIn { frames := 4, cells := 0, slots := 0, locals := 88 } [.ref (Y.2.2.2.1 0)] M (some (.int (ciF M n 61 1))) M := by
  refine Fn.of (cc := cX6_changesIn) (ins := iX6_changesIn) (maxL := 4) (ret := (some .int)) (by decide) dX6_changesIn [some (.ref (Y.2.2.2.1 0)), none, none, none] (Nat.le_of_ble_eq_true rfl) rfl rfl ?_
  intro X hX hQ
  refine v_aload_n hX 0 0 rfl rfl rfl ?_
  refine g_6_0 hX 1  tw_192 rfl ?_
  refine v_callVN hX 0 (by decide) (cG_B isB_1) rfl (f_withdrawn isB_1 hz hn) tw_295 (List.mem_of_getElem? (i := 28) rfl) tw_40 tw_294 tw_15 (by decide +kernel) ⟨⟨rfl, rfl⟩, Nat.le_of_ble_eq_true rfl, Nat.le_of_ble_eq_true rfl⟩ rfl (Nat.le_of_ble_eq_true rfl) rfl rfl 2 rfl ?_
  rw [mk_F]
  refine v_aload_n hX 0 3 rfl rfl rfl ?_
  refine g_6_0 hX 4  tw_192 rfl ?_
  refine v_callVN hX 0 (by decide) (cG_B isB_1) rfl (f_struck isB_1 hz hn) tw_299 (List.mem_of_getElem? (i := 29) rfl) tw_40 tw_298 tw_16 (by decide +kernel) ⟨⟨rfl, rfl⟩, Nat.le_of_ble_eq_true rfl, Nat.le_of_ble_eq_true rfl⟩ rfl (Nat.le_of_ble_eq_true rfl) rfl rfl 5 rfl ?_
  rw [skA_mk hw hn]
  refine v_ior hX 6 rfl ?_
  refine v_aload_n hX 0 7 rfl rfl rfl ?_
  refine g_6_0 hX 8  tw_192 rfl ?_
  refine v_callVN hX 0 (by decide) (cG_B isB_1) rfl (f_baseless isB_1 hz hn) tw_307 (List.mem_of_getElem? (i := 41) rfl) tw_40 tw_306 tw_18 (by decide +kernel) ⟨⟨rfl, rfl⟩, Nat.le_of_ble_eq_true rfl, Nat.le_of_ble_eq_true rfl⟩ rfl (Nat.le_of_ble_eq_true rfl) rfl rfl 9 rfl ?_
  rw [mk_F]
  refine v_ior hX 10 rfl ?_
  refine v_istore_n hX 1 11 rfl rfl (Nat.le_of_ble_eq_true rfl) rfl ?_
  refine v_aload_n hX 0 12 rfl rfl rfl ?_
  refine g_6_0 hX 13  tw_192 rfl ?_
  refine v_callVN hX 0 (by decide) (cG_B isB_1) rfl (f_standing isB_1 hz hn hw) tw_287 (List.mem_of_getElem? (i := 20) rfl) tw_40 tw_286 tw_13 (by decide +kernel) ⟨⟨rfl, rfl⟩, Nat.le_of_ble_eq_true rfl, Nat.le_of_ble_eq_true rfl⟩ rfl (Nat.le_of_ble_eq_true rfl) rfl rfl 14 rfl ?_
  refine v_istore_n hX 2 15 rfl rfl (Nat.le_of_ble_eq_true rfl) rfl ?_
  refine v_iconst hX (v := 1) 16 rfl (by decide) ?_
  refine v_istore_n hX 3 17 rfl rfl (Nat.le_of_ble_eq_true rfl) rfl ?_
  have lp : ∀ (k : Nat), k ≤ 61 → ciF M n (61 - k) (k + 1) = ciF M n 61 1 → V Y X M 34 [some (.ref (Y.2.2.2.1 0)), some (.int (ciX M n)), some (.int (mk (bSd M 1 n) n)), some (.int (nI (k + 1)))] [] := by
    refine upTo 61 (fun k hk ih => ?_)
    intro he
    refine v_iload_n hX 3 18 rfl rfl rfl ?_
    refine v_bipush hX (v := 61) 19 rfl (by decide) ?_
    refine v_icmp_gt hX (tgt := 78) 20 rfl (by decide) (fun c37 => ?_) (fun c37 => ?_)
    · skip
      have hk2 : k = 61 := by have := of_lt (a := 61) c37 (by omega) (by omega); omega
      subst hk2
      have he2 : (-6 : Int32) = ciF M n 61 1 := he
      refine v_bipush hX (v := (-6)) 41 rfl (by decide) ?_
      refine v_iret hX hQ rfl rfl ?_ ?_ 42 rfl
      · rw [he2]
      · rfl
    · skip
      have hk2 : k < 61 := by have := of_nlt (a := 61) c37 (by omega) (by omega); omega
      obtain ⟨f, hf⟩ : ∃ f, 61 - k = f + 1 := ⟨60 - k, by omega⟩
      rw [hf, ciF] at he
      refine v_aload_n hX 0 21 rfl rfl rfl ?_
      refine g_6_0 hX 22  tw_192 rfl ?_
      refine v_iload_n hX 1 23 rfl rfl rfl ?_
      refine v_aload_n hX 0 24 rfl rfl rfl ?_
      refine g_6_0 hX 25  tw_192 rfl ?_
      refine v_aload_n hX 0 26 rfl rfl rfl ?_
      refine g_6_0 hX 27  tw_192 rfl ?_
      refine gN_0_2 hX 28 isB_1 (List.mem_of_getElem? (i := 14) rfl) rfl ?_
      refine v_iload_n hX 3 29 rfl rfl rfl ?_
      refine v_iadd hX 30 rfl ?_
      refine v_callVN hX 1 (by decide) (cG_B isB_1) rfl (f_lapsedOn isB_1 hz hn) tw_303 (List.mem_of_getElem? (i := 42) rfl) tw_40 tw_302 tw_17 (by decide +kernel) ⟨⟨rfl, rfl⟩, Nat.le_of_ble_eq_true rfl, Nat.le_of_ble_eq_true rfl⟩ rfl (Nat.le_of_ble_eq_true rfl) rfl rfl 31 rfl ?_
      rw [mk_F]
      refine v_ior hX 32 rfl ?_
      refine v_iconst hX (v := 0) 33 rfl (by decide) ?_
      refine v_callVN hX 2 (by decide) (cG_B isB_1) rfl (f_standingIf isB_1 hz hn hw) tw_311 (List.mem_of_getElem? (i := 32) rfl) tw_40 tw_310 tw_19 (by decide +kernel) ⟨⟨rfl, rfl⟩, Nat.le_of_ble_eq_true rfl, Nat.le_of_ble_eq_true rfl⟩ rfl (Nat.le_of_ble_eq_true rfl) rfl rfl 34 rfl ?_
      show V Y X M _ _ (.int (ciS M n (k + 1)) :: _)
      refine v_iload_n hX 2 35 rfl rfl rfl ?_
      refine v_icmp_eq hX (tgt := 72) 36 rfl (by decide) (fun c67 => ?_) (fun c67 => ?_)
      · skip
        rw [if_pos c67] at he
        refine v_iinc hX 39 rfl rfl (nI_inc (k + 1)) (Nat.le_of_ble_eq_true rfl) rfl ?_
        refine v_goto hX (tgt := 34) 40 rfl (by decide) ?_
        exact V.sub (ih hk2 (by rw [show 61 - (k + 1) = f by omega]; exact he)) rfl ⟨rfl, rfl, rfl, rfl, trivial⟩
      · skip
        rw [if_neg c67] at he
        refine v_iload_n hX 3 37 rfl rfl rfl ?_
        refine v_iret hX hQ rfl rfl ?_ ?_ 38 rfl
        · rw [he]
        · rfl
  exact V.sub (lp 0 (Nat.zero_le _) rfl) rfl ⟨rfl, rfl, rfl, rfl, trivial⟩
set_option maxRecDepth 100000 in
set_option maxHeartbeats 4000000 in
theorem f_leastPages {Y : Yt} {M : Mm} {n : Nat} (hz : M.1 1 1 = nI n) (hn : n ≤ 24) (hw : WF (cp M 1) n) : Fn Y yX6_leastPages wsX6_leastPages { frames := 2, cells := 0, slots := 0, locals := 46 } [.ref (Y.2.2.2.1 0)] M (some (.int (lpR M n))) M := by
  refine Fn.of (cc := cX6_leastPages) (ins := iX6_leastPages) (maxL := 3) (ret := (some .int)) (by decide) dX6_leastPages [some (.ref (Y.2.2.2.1 0)), none, none] (Nat.le_of_ble_eq_true rfl) rfl rfl ?_
  intro X hX hQ
  refine v_aload_n hX 0 0 rfl rfl rfl ?_
  refine g_6_0 hX 1  tw_192 rfl ?_
  refine v_callVN hX 0 (by decide) (cG_B isB_1) rfl (f_withdrawn isB_1 hz hn) tw_295 (List.mem_of_getElem? (i := 28) rfl) tw_40 tw_294 tw_15 (by decide +kernel) ⟨⟨rfl, rfl⟩, Nat.le_of_ble_eq_true rfl, Nat.le_of_ble_eq_true rfl⟩ rfl (Nat.le_of_ble_eq_true rfl) rfl rfl 2 rfl ?_
  rw [mk_F]
  refine v_istore_n hX 1 3 rfl rfl (Nat.le_of_ble_eq_true rfl) rfl ?_
  refine v_iconst hX (v := 1) 4 rfl (by decide) ?_
  refine v_aload_n hX 0 5 rfl rfl rfl ?_
  refine g_6_0 hX 6  tw_192 rfl ?_
  refine v_iconst hX (v := 0) 7 rfl (by decide) ?_
  refine v_iload_n hX 1 8 rfl rfl rfl ?_
  refine v_callVN hX 2 (by decide) (cG_B isB_1) rfl (f_pagesOf isB_1 hz hn) tw_414 (List.mem_of_getElem? (i := 30) rfl) tw_40 tw_413 tw_31 (by decide +kernel) ⟨⟨rfl, rfl⟩, Nat.le_of_ble_eq_true rfl, Nat.le_of_ble_eq_true rfl⟩ rfl (Nat.le_of_ble_eq_true rfl) rfl rfl 9 rfl ?_
  refine v_aload_n hX 0 10 rfl rfl rfl ?_
  refine g_6_0 hX 11  tw_192 rfl ?_
  refine v_iconst hX (v := 1) 12 rfl (by decide) ?_
  refine v_iload_n hX 1 13 rfl rfl rfl ?_
  refine v_callVN hX 2 (by decide) (cG_B isB_1) rfl (f_pagesOf isB_1 hz hn) tw_414 (List.mem_of_getElem? (i := 30) rfl) tw_40 tw_413 tw_31 (by decide +kernel) ⟨⟨rfl, rfl⟩, Nat.le_of_ble_eq_true rfl, Nat.le_of_ble_eq_true rfl⟩ rfl (Nat.le_of_ble_eq_true rfl) rfl rfl 14 rfl ?_
  refine v_mmax hX tw_494 tw_495 tw_47 tw_496 (Nat.le_of_ble_eq_true rfl) (Nat.le_of_ble_eq_true rfl) rfl 15 rfl ?_
  refine v_mmax hX tw_494 tw_495 tw_47 tw_496 (Nat.le_of_ble_eq_true rfl) (Nat.le_of_ble_eq_true rfl) rfl 16 rfl ?_
  show V Y X M _ _ (.int (lpN M n) :: _)
  refine v_istore_n hX 2 17 rfl rfl (Nat.le_of_ble_eq_true rfl) rfl ?_
  refine v_iload_n hX 2 18 rfl rfl rfl ?_
  refine v_bipush hX (v := 99) 19 rfl (by decide) ?_
  refine v_icmp_le hX (tgt := 45) 20 rfl (by decide) (fun c37 => ?_) (fun c37 => ?_)
  · skip
    refine v_iload_n hX 2 23 rfl rfl rfl ?_
    refine v_iret hX hQ rfl rfl ?_ ?_ 24 rfl
    · simp only [lpR, c37, if_true, if_false]
    · rfl
  · skip
    refine v_bipush hX (v := (-6)) 21 rfl (by decide) ?_
    refine v_goto hX (tgt := 46) 22 rfl (by decide) ?_
    refine v_iret hX hQ rfl rfl ?_ ?_ 24 rfl
    · simp only [lpR, c37, if_true, if_false]
    · rfl
