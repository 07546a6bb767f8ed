set_option maxRecDepth 100000 in
set_option maxHeartbeats 4000000 in
theorem r_in {Y : Yt} {M : Mm} {v a c : Int32} : Fn Y yX7_in wsX7_in { frames := 0, cells := 0, slots := 0, locals := 0 } [.int v, .int a, .int c] M (some (.int (b01 (inv v a c)))) M := by
  refine Fn.of (cc := cX7_in) (ins := iX7_in) (maxL := 3) (ret := (some .boolean)) (by decide) dX7_in [some (.int v), some (.int a), some (.int c)] (Nat.le_of_ble_eq_true rfl) rfl rfl ?_
  intro X hX hQ
  refine v_iload_n hX 0 0 rfl rfl rfl ?_
  refine v_iload_n hX 1 1 rfl rfl rfl ?_
  refine v_icmp_lt hX (tgt := 14) 2 rfl (by decide) (fun c2 => ?_) (fun c2 => ?_)
  · skip
    refine v_iconst hX (v := 0) 8 rfl (by decide) ?_
    refine v_iret hX hQ rfl rfl ?_ ?_ 9 rfl
    · simp [inv, b01, c2]
    · rfl
  · skip
    refine v_iload_n hX 0 3 rfl rfl rfl ?_
    refine v_iload_n hX 2 4 rfl rfl rfl ?_
    refine v_icmp_gt hX (tgt := 14) 5 rfl (by decide) (fun c7 => ?_) (fun c7 => ?_)
    · skip
      refine v_iconst hX (v := 0) 8 rfl (by decide) ?_
      refine v_iret hX hQ rfl rfl ?_ ?_ 9 rfl
      · simp [inv, b01, c2, c7]
      · rfl
    · skip
      refine v_iconst hX (v := 1) 6 rfl (by decide) ?_
      refine v_goto hX (tgt := 15) 7 rfl (by decide) ?_
      refine v_iret hX hQ rfl rfl ?_ ?_ 9 rfl
      · simp [inv, b01, c2, c7]
      · rfl
set_option maxRecDepth 100000 in
set_option maxHeartbeats 4000000 in
theorem r_isPoint {Y : Yt} {M : Mm} {i : Nat} {n : Nat} (hz : M.1 271 3 = nI n) (hn : n ≤ 24) (hi : i < n) : Fn Y yX7_isPoint wsX7_isPoint { frames := 0, cells := 0, slots := 0, locals := 0 } [.ref (Y.2.2.2 270), .int (nI i)] M (some (.int 1)) M := by
  refine Fn.of (cc := cX7_isPoint) (ins := iX7_isPoint) (maxL := 2) (ret := (some .boolean)) (by decide) dX7_isPoint [some (.ref (Y.2.2.2 270)), some (.int (nI i))] (Nat.le_of_ble_eq_true rfl) rfl rfl ?_
  intro X hX hQ
  refine v_iload_n hX 1 0 rfl rfl rfl ?_
  refine v_if_lt hX (tgt := 18) 1 rfl (by decide) (fun c1 => absurd c1 (nI_nlt (Nat.zero_le _) (by omega))) (fun c1 => ?_)
  refine v_iload_n hX 1 2 rfl rfl rfl ?_
  refine v_aload_n hX 0 3 rfl rfl rfl ?_
  refine g_7_0 hX 4  tw_646 rfl ?_
  refine v_iconst hX (v := 3) 5 rfl (by decide) ?_
  refine v_iald hX (k := 271) (by decide) rfl (vp_in_nI (n := 3) (by decide) (by decide)) 6 rfl ?_
  refine v_icmp_ge hX (tgt := 18) 7 rfl (by decide) (fun c11 => absurd c11 (by show ¬ M.1 271 3 ≤ nI i; rw [hz]; exact nI_ge hi (by omega))) (fun c11 => ?_)
  refine v_iconst hX (v := 1) 8 rfl (by decide) ?_
  refine v_goto hX (tgt := 19) 9 rfl (by decide) ?_
  refine v_iret hX hQ rfl rfl ?_ ?_ 11 rfl
  · rfl
  · rfl
set_option maxRecDepth 100000 in
set_option maxHeartbeats 4000000 in
theorem r_isPoint_no {Y : Yt} {M : Mm} {x : Int32} {n : Nat} (hz : M.1 271 3 = nI n) (hx : x < 0 ∨ nI n ≤ x) : Fn Y yX7_isPoint wsX7_isPoint { frames := 0, cells := 0, slots := 0, locals := 0 } [.ref (Y.2.2.2 270), .int x] M (some (.int 0)) M := by
  refine Fn.of (cc := cX7_isPoint) (ins := iX7_isPoint) (maxL := 2) (ret := (some .boolean)) (by decide) dX7_isPoint [some (.ref (Y.2.2.2 270)), some (.int x)] (Nat.le_of_ble_eq_true rfl) rfl rfl ?_
  intro X hX hQ
  refine v_iload_n hX 1 0 rfl rfl rfl ?_
  refine v_if_lt hX (tgt := 18) 1 rfl (by decide) (fun c1 => ?_) (fun c1 => ?_)
  · skip
    refine v_iconst hX (v := 0) 10 rfl (by decide) ?_
    refine v_iret hX hQ rfl rfl ?_ ?_ 11 rfl
    · rfl
    · rfl
  · skip
    refine v_iload_n hX 1 2 rfl rfl rfl ?_
    refine v_aload_n hX 0 3 rfl rfl rfl ?_
    refine g_7_0 hX 4  tw_646 rfl ?_
    refine v_iconst hX (v := 3) 5 rfl (by decide) ?_
    refine v_iald hX (k := 271) (by decide) rfl (vp_in_nI (n := 3) (by decide) (by decide)) 6 rfl ?_
    refine v_icmp_ge hX (tgt := 18) 7 rfl (by decide) (fun c11 => ?_) (fun c11 => absurd (by show M.1 271 3 ≤ x; rw [hz]; exact hx.resolve_left c1) c11)
    refine v_iconst hX (v := 0) 10 rfl (by decide) ?_
    refine v_iret hX hQ rfl rfl ?_ ?_ 11 rfl
    · rfl
    · rfl
set_option maxRecDepth 100000 in
set_option maxHeartbeats 4000000 in
theorem r_its {Y : Yt} {M : Mm} {i w : Nat} (hi : i < 24) (hw : w < 7) : Fn Y yX7_its wsX7_its { frames := 0, cells := 0, slots := 0, locals := 0 } [.ref (Y.2.2.2 270), .int (nI i), .int (nI w)] M (some (.int (M.1 271 (5 + 7 * i + w)))) M := by
  refine Fn.of (cc := cX7_its) (ins := iX7_its) (maxL := 3) (ret := (some .int)) (by decide) dX7_its [some (.ref (Y.2.2.2 270)), some (.int (nI i)), some (.int (nI w))] (Nat.le_of_ble_eq_true rfl) rfl rfl ?_
  intro X hX hQ
  refine v_aload_n hX 0 0 rfl rfl rfl ?_
  refine g_7_0 hX 1  tw_646 rfl ?_
  refine v_iconst hX (v := 5) 2 rfl (by decide) ?_
  refine v_bipush hX (v := 7) 3 rfl (by decide) ?_
  refine v_iload_n hX 1 4 rfl rfl rfl ?_
  refine v_imul hX 5 rfl ?_
  refine v_iadd hX 6 rfl ?_
  refine v_iload_n hX 2 7 rfl rfl rfl ?_
  refine v_iadd hX 8 rfl ?_
  rw [ix7]
  refine v_iald hX (k := 271) (by decide) rfl (vp_in_nI (by omega) (by decide)) 9 rfl ?_
  rw [nI_clamp (by omega)]
  refine v_iret hX hQ rfl rfl ?_ ?_ 10 rfl
  · rfl
  · rfl
set_option maxRecDepth 100000 in
set_option maxHeartbeats 4000000 in
theorem r_lay {Y : Yt} {M : Mm} {i w : Nat} {v : Int32} (hi : i < 24) (hw : w < 7) : Fn Y yX7_lay wsX7_lay { frames := 0, cells := 0, slots := 0, locals := 0 } [.ref (Y.2.2.2 270), .int (nI i), .int (nI w), .int v] M none ((mset M 271 (5 + 7 * i + w) v)) := by
  refine Fn.of (cc := cX7_lay) (ins := iX7_lay) (maxL := 4) (ret := none) (by decide) dX7_lay [some (.ref (Y.2.2.2 270)), some (.int (nI i)), some (.int (nI w)), some (.int v)] (Nat.le_of_ble_eq_true rfl) rfl rfl ?_
  intro X hX hQ
  refine v_aload_n hX 0 0 rfl rfl rfl ?_
  refine g_7_0 hX 1  tw_646 rfl ?_
  refine v_iconst hX (v := 5) 2 rfl (by decide) ?_
  refine v_bipush hX (v := 7) 3 rfl (by decide) ?_
  refine v_iload_n hX 1 4 rfl rfl rfl ?_
  refine v_imul hX 5 rfl ?_
  refine v_iadd hX 6 rfl ?_
  refine v_iload_n hX 2 7 rfl rfl rfl ?_
  refine v_iadd hX 8 rfl ?_
  rw [ix7]
  refine v_iload_n hX 3 9 rfl rfl rfl ?_
  refine v_iast hX (k := 271) (by decide) rfl rfl (vp_in_nI (by omega) (by decide)) rfl 10 rfl ?_
  rw [nI_clamp (by omega)]
  refine v_vret hX hQ rfl rfl ?_ 11 rfl
  rfl
set_option maxRecDepth 100000 in
set_option maxHeartbeats 4000000 in
theorem r_isClaim {Y : Yt} {M : Mm} {i : Nat} (hi : i < 24) : Fn Y yX7_isClaim wsX7_isClaim { frames := 1, cells := 0, slots := 0, locals := 22 } [.ref (Y.2.2.2 270), .int (nI i)] M (some (.int (b01 (pCl (rp (M.1 271)) i)))) M := by
  refine Fn.of (cc := cX7_isClaim) (ins := iX7_isClaim) (maxL := 2) (ret := (some .boolean)) (by decide) dX7_isClaim [some (.ref (Y.2.2.2 270)), some (.int (nI i))] (Nat.le_of_ble_eq_true rfl) rfl rfl ?_
  intro X hX hQ
  refine v_aload_n hX 0 0 rfl rfl rfl ?_
  refine v_iload_n hX 1 1 rfl rfl rfl ?_
  refine v_iconst hX (v := 4) 2 rfl (by decide) ?_
  refine v_callV hX 2 (by decide) rfl rfl (r_its (w := 4) hi (by decide)) tw_757 tw_754 tw_756 tw_60 tw_99 (by decide +kernel) ⟨⟨rfl, rfl⟩, Nat.le_of_ble_eq_true rfl, Nat.le_of_ble_eq_true rfl⟩ rfl (Nat.le_of_ble_eq_true rfl) rfl rfl 3 rfl ?_
  show V Y X M _ _ (.int (rp (M.1 271) i 3) :: _)
  refine v_bipush hX (v := (-6)) 4 rfl (by decide) ?_
  refine v_icmp_ne hX (tgt := 15) 5 rfl (by decide) (fun c8 => ?_) (fun c8 => ?_)
  · skip
    refine v_iconst hX (v := 0) 8 rfl (by decide) ?_
    refine v_iret hX hQ rfl rfl ?_ ?_ 9 rfl
    · simp [pCl, b01, c8]
    · rfl
  · skip
    refine v_iconst hX (v := 1) 6 rfl (by decide) ?_
    refine v_goto hX (tgt := 16) 7 rfl (by decide) ?_
    refine v_iret hX hQ rfl rfl ?_ ?_ 9 rfl
    · simp [pCl, b01, c8]
    · rfl
set_option maxRecDepth 100000 in
set_option maxHeartbeats 4000000 in
theorem r_isWd {Y : Yt} {M : Mm} {i : Nat} (hi : i < 24) : Fn Y yX7_isWithdrawn wsX7_isWithdrawn { frames := 1, cells := 0, slots := 0, locals := 22 } [.ref (Y.2.2.2 270), .int (nI i)] M (some (.int (b01 (wd1 (M.1 271) i)))) M := by
  refine Fn.of (cc := cX7_isWithdrawn) (ins := iX7_isWithdrawn) (maxL := 2) (ret := (some .boolean)) (by decide) dX7_isWithdrawn [some (.ref (Y.2.2.2 270)), some (.int (nI i))] (Nat.le_of_ble_eq_true rfl) rfl rfl ?_
  intro X hX hQ
  refine v_aload_n hX 0 0 rfl rfl rfl ?_
  refine v_iload_n hX 1 1 rfl rfl rfl ?_
  refine v_bipush hX (v := 6) 2 rfl (by decide) ?_
  refine v_callV hX 2 (by decide) rfl rfl (r_its (w := 6) hi (by decide)) tw_757 tw_754 tw_756 tw_60 tw_99 (by decide +kernel) ⟨⟨rfl, rfl⟩, Nat.le_of_ble_eq_true rfl, Nat.le_of_ble_eq_true rfl⟩ rfl (Nat.le_of_ble_eq_true rfl) rfl rfl 3 rfl ?_
  show V Y X M _ _ (.int (rp (M.1 271) i 6) :: _)
  refine v_iconst hX (v := 1) 4 rfl (by decide) ?_
  refine v_icmp_ne hX (tgt := 15) 5 rfl (by decide) (fun c8 => ?_) (fun c8 => ?_)
  · skip
    refine v_iconst hX (v := 0) 8 rfl (by decide) ?_
    refine v_iret hX hQ rfl rfl ?_ ?_ 9 rfl
    · simp [wd1, b01, c8]
    · rfl
  · skip
    refine v_iconst hX (v := 1) 6 rfl (by decide) ?_
    refine v_goto hX (tgt := 16) 7 rfl (by decide) ?_
    refine v_iret hX hQ rfl rfl ?_ ?_ 9 rfl
    · simp [wd1, b01, c8]
    · rfl
set_option maxRecDepth 100000 in
set_option maxHeartbeats 4000000 in
theorem r_lapsed {Y : Yt} {M : Mm} {i : Nat} (hi : i < 24) : Fn Y yX7_lapsed wsX7_lapsed { frames := 2, cells := 0, slots := 0, locals := 43 } [.ref (Y.2.2.2 270), .int (nI i)] M (some (.int (b01 (pLp (rp (M.1 271)) (M.1 271 2) (M.1 271 0) i)))) M := by
  refine Fn.of (cc := cX7_lapsed) (ins := iX7_lapsed) (maxL := 2) (ret := (some .boolean)) (by decide) dX7_lapsed [some (.ref (Y.2.2.2 270)), some (.int (nI i))] (Nat.le_of_ble_eq_true rfl) rfl rfl ?_
  intro X hX hQ
  refine v_aload_n hX 0 0 rfl rfl rfl ?_
  refine v_iload_n hX 1 1 rfl rfl rfl ?_
  refine v_callV hX 1 (by decide) rfl rfl (r_isClaim hi) tw_781 tw_778 tw_780 tw_65 tw_99 (by decide +kernel) ⟨⟨rfl, rfl⟩, Nat.le_of_ble_eq_true rfl, Nat.le_of_ble_eq_true rfl⟩ rfl (Nat.le_of_ble_eq_true rfl) rfl rfl 2 rfl ?_
  refine v_if_ne hX (tgt := 34) 3 rfl (by decide) (fun c5 => ?_) (fun c5 => ?_)
  · skip
    have q1 : rp (M.1 271) i 3 = -6 := by have := b01_t c5; simpa [pCl] using this
    refine v_iconst hX (v := 0) 20 rfl (by decide) ?_
    refine v_iret hX hQ rfl rfl ?_ ?_ 21 rfl
    · first | (simp [pLp, b01, q1]; done) | simp [pLp, b01, q1, q2]
    · rfl
  · skip
    have q1 : ¬ rp (M.1 271) i 3 = -6 := by have := b01_f c5; simpa [pCl] using this
    refine v_aload_n hX 0 4 rfl rfl rfl ?_
    refine g_7_0 hX 5  tw_646 rfl ?_
    refine v_iconst hX (v := 2) 6 rfl (by decide) ?_
    refine v_iald hX (k := 271) (by decide) rfl (vp_in_nI (n := 2) (by decide) (by decide)) 7 rfl ?_
    refine v_aload_n hX 0 8 rfl rfl rfl ?_
    refine v_iload_n hX 1 9 rfl rfl rfl ?_
    refine v_iconst hX (v := 3) 10 rfl (by decide) ?_
    refine v_callV hX 2 (by decide) rfl rfl (r_its (w := 3) hi (by decide)) tw_757 tw_754 tw_756 tw_60 tw_99 (by decide +kernel) ⟨⟨rfl, rfl⟩, Nat.le_of_ble_eq_true rfl, Nat.le_of_ble_eq_true rfl⟩ rfl (Nat.le_of_ble_eq_true rfl) rfl rfl 11 rfl ?_
    refine v_isub hX 12 rfl ?_
    refine v_aload_n hX 0 13 rfl rfl rfl ?_
    refine g_7_0 hX 14  tw_646 rfl ?_
    refine v_iconst hX (v := 0) 15 rfl (by decide) ?_
    refine v_iald hX (k := 271) (by decide) rfl (vp_in_nI (n := 0) (by decide) (by decide)) 16 rfl ?_
    refine v_icmp_le hX (tgt := 34) 17 rfl (by decide) (fun c27 => ?_) (fun c27 => ?_)
    · skip
      have q2 : M.1 271 2 - rp (M.1 271) i 5 ≤ M.1 271 0 := c27
      refine v_iconst hX (v := 0) 20 rfl (by decide) ?_
      refine v_iret hX hQ rfl rfl ?_ ?_ 21 rfl
      · first | (simp [pLp, b01, q1]; done) | simp [pLp, b01, q1, q2]
      · rfl
    · skip
      have q2 : ¬ M.1 271 2 - rp (M.1 271) i 5 ≤ M.1 271 0 := c27
      refine v_iconst hX (v := 1) 18 rfl (by decide) ?_
      refine v_goto hX (tgt := 35) 19 rfl (by decide) ?_
      refine v_iret hX hQ rfl rfl ?_ ?_ 21 rfl
      · first | (simp [pLp, b01, q1]; done) | simp [pLp, b01, q1, q2]
      · rfl
set_option maxRecDepth 100000 in
set_option maxHeartbeats 4000000 in
theorem r_noCase {Y : Yt} {M : Mm} {i : Nat} (hi : i < 24) : Fn Y yX7_hasNoCase wsX7_hasNoCase { frames := 1, cells := 0, slots := 0, locals := 22 } [.ref (Y.2.2.2 270), .int (nI i)] M (some (.int (b01 (pBl (rp (M.1 271)) (M.1 271 4) i)))) M := by
  refine Fn.of (cc := cX7_hasNoCase) (ins := iX7_hasNoCase) (maxL := 2) (ret := (some .boolean)) (by decide) dX7_hasNoCase [some (.ref (Y.2.2.2 270)), some (.int (nI i))] (Nat.le_of_ble_eq_true rfl) rfl rfl ?_
  intro X hX hQ
  refine v_aload_n hX 0 0 rfl rfl rfl ?_
  refine v_iload_n hX 1 1 rfl rfl rfl ?_
  refine v_iconst hX (v := 5) 2 rfl (by decide) ?_
  refine v_callV hX 2 (by decide) rfl rfl (r_its (w := 5) hi (by decide)) tw_757 tw_754 tw_756 tw_60 tw_99 (by decide +kernel) ⟨⟨rfl, rfl⟩, Nat.le_of_ble_eq_true rfl, Nat.le_of_ble_eq_true rfl⟩ rfl (Nat.le_of_ble_eq_true rfl) rfl rfl 3 rfl ?_
  refine v_if_eq hX (tgt := 31) 4 rfl (by decide) (fun c6 => ?_) (fun c6 => ?_)
  · skip
    have q1 : rp (M.1 271) i 2 = 0 := c6
    refine v_iconst hX (v := 0) 19 rfl (by decide) ?_
    refine v_iret hX hQ rfl rfl ?_ ?_ 20 rfl
    · unfold pBl; first | (rw [q1]; rfl) | (rw [q2]; simp [b01, q1]; done) | (have q3 : (rp (M.1 271) i 2 &&& (M.1 271 4 ^^^ (-1)) == 0) = false := (by rw [beq_eq_false_iff_ne]; exact q2); rw [q3]; simp [b01])
    · rfl
  · skip
    have q1 : ¬ rp (M.1 271) i 2 = 0 := c6
    refine v_aload_n hX 0 5 rfl rfl rfl ?_
    refine v_iload_n hX 1 6 rfl rfl rfl ?_
    refine v_iconst hX (v := 5) 7 rfl (by decide) ?_
    refine v_callV hX 2 (by decide) rfl rfl (r_its (w := 5) hi (by decide)) tw_757 tw_754 tw_756 tw_60 tw_99 (by decide +kernel) ⟨⟨rfl, rfl⟩, Nat.le_of_ble_eq_true rfl, Nat.le_of_ble_eq_true rfl⟩ rfl (Nat.le_of_ble_eq_true rfl) rfl rfl 8 rfl ?_
    refine v_aload_n hX 0 9 rfl rfl rfl ?_
    refine g_7_0 hX 10  tw_646 rfl ?_
    refine v_iconst hX (v := 4) 11 rfl (by decide) ?_
    refine v_iald hX (k := 271) (by decide) rfl (vp_in_nI (n := 4) (by decide) (by decide)) 12 rfl ?_
    refine v_iconst hX (v := (-1)) 13 rfl (by decide) ?_
    refine v_ixor hX 14 rfl ?_
    refine v_iand hX 15 rfl ?_
    refine v_if_ne hX (tgt := 31) 16 rfl (by decide) (fun c24 => ?_) (fun c24 => ?_)
    · skip
      have q2 : ¬ rp (M.1 271) i 2 &&& (M.1 271 4 ^^^ (-1)) = 0 := c24
      refine v_iconst hX (v := 0) 19 rfl (by decide) ?_
      refine v_iret hX hQ rfl rfl ?_ ?_ 20 rfl
      · unfold pBl; first | (rw [q1]; rfl) | (rw [q2]; simp [b01, q1]; done) | (have q3 : (rp (M.1 271) i 2 &&& (M.1 271 4 ^^^ (-1)) == 0) = false := (by rw [beq_eq_false_iff_ne]; exact q2); rw [q3]; simp [b01])
      · rfl
    · skip
      have q2 : rp (M.1 271) i 2 &&& (M.1 271 4 ^^^ (-1)) = 0 := c24
      refine v_iconst hX (v := 1) 17 rfl (by decide) ?_
      refine v_goto hX (tgt := 32) 18 rfl (by decide) ?_
      refine v_iret hX hQ rfl rfl ?_ ?_ 20 rfl
      · unfold pBl; first | (rw [q1]; rfl) | (rw [q2]; simp [b01, q1]; done) | (have q3 : (rp (M.1 271) i 2 &&& (M.1 271 4 ^^^ (-1)) == 0) = false := (by rw [beq_eq_false_iff_ne]; exact q2); rw [q3]; simp [b01])
      · rfl
set_option maxRecDepth 100000 in
set_option maxHeartbeats 4000000 in
theorem r_record {Y : Yt} {M : Mm} {k : Nat} (hk : k ≤ 6) (hkk : M.1 270 4 = nI k) : Fn Y yX7_record wsX7_record { frames := 0, cells := 0, slots := 0, locals := 0 } [.ref (Y.2.2.2 270)] M none ((rcM M k)) := by
  refine Fn.of (cc := cX7_record) (ins := iX7_record) (maxL := 2) (ret := none) (by decide) dX7_record [some (.ref (Y.2.2.2 270)), none] (Nat.le_of_ble_eq_true rfl) rfl rfl ?_
  intro X hX hQ
  have j50 : ∀ (B : Mm) (pm : Nat), pm < 6 → B.1 270 4 = nI pm → B.1 271 = M.1 271 → mset (mrow B 272 (cpy (B.1 272) (M.1 271) (173 * pm) 0 173)) 270 4 (nI (pm + 1)) = rcM M k → V Y X B 50 [some (.ref (Y.2.2.2 270)), none] [] := by
    intro B pm hpm hB4 hBz hfin
    refine v_iconst hX (v := 0) 27 rfl (by decide) ?_
    refine v_istore_n hX 1 28 rfl rfl (Nat.le_of_ble_eq_true rfl) rfl ?_
    have lq : ∀ (i : Nat), i ≤ 173 → V Y X (mrow B 272 (cpy (B.1 272) (M.1 271) (173 * pm) 0 i)) 52 [some (.ref (Y.2.2.2 270)), some (.int (nI i))] [] := by
      refine upTo 173 (fun i hi ihq => ?_)
      refine v_iload_n hX 1 29 rfl rfl rfl ?_
      refine v_sipush hX (v := 173) 30 rfl (by decide) ?_
      refine v_icmp_ge hX (tgt := 86) 31 rfl (by decide) (fun c56 => ?_) (fun c56 => ?_)
      · skip
        have hi2 : i = 173 := by have := of_le (a := 173) c56 (by omega) (by omega); omega
        subst hi2
        refine v_aload_n hX 0 47 rfl rfl rfl ?_
        refine v_dup hX 48 rfl rfl ?_
        refine g_7_4 hX 49  tw_650 rfl ?_
        rw [mrow_n (by decide), hB4]
        refine v_iconst hX (v := 1) 50 rfl (by decide) ?_
        refine v_iadd hX 51 rfl ?_
        refine p_7_4 hX 52   tw_650 rfl ?_
        refine v_vret hX hQ rfl rfl ?_ 53 rfl
        rw [← hfin, nI_1]
      · skip
        have hi2 : i < 173 := of_nle (a := 173) c56 (by omega) (by omega)
        refine v_aload_n hX 0 32 rfl rfl rfl ?_
        refine g_7_1 hX 33  tw_647 rfl ?_
        refine v_aload_n hX 0 34 rfl rfl rfl ?_
        refine g_7_4 hX 35  tw_650 rfl ?_
        rw [mrow_n (by decide), hB4]
        refine v_sipush hX (v := 173) 36 rfl (by decide) ?_
        refine v_imul hX 37 rfl ?_
        refine v_iload_n hX 1 38 rfl rfl rfl ?_
        refine v_iadd hX 39 rfl ?_
        rw [show (173 : Int32) = nI 173 from rfl, pk_mul, nI_add]
        rw [Nat.mul_comm pm 173]
        refine v_aload_n hX 0 40 rfl rfl rfl ?_
        refine g_7_0 hX 41  tw_646 rfl ?_
        refine v_iload_n hX 1 42 rfl rfl rfl ?_
        refine v_iald hX (k := 271) (by decide) rfl (vp_in_nI (by omega) (by decide)) 43 rfl ?_
        rw [nI_clamp (by omega), mrow_n (by decide), hBz]
        refine v_iast hX (k := 272) (by decide) rfl rfl (vp_in_nI (by omega) (by decide)) rfl 44 rfl ?_
        refine V.mem mset_mrow ?_
        rw [nI_clamp (by omega)]
        refine v_iinc hX 45 rfl rfl (nI_inc i) (Nat.le_of_ble_eq_true rfl) rfl ?_
        refine v_goto hX (tgt := 52) 46 rfl (by decide) ?_
        refine V.subM (ihq hi2) ?_ rfl ⟨rfl, rfl, trivial⟩
        have e := cpy_s (f := B.1 272) (g := M.1 271) (a := 173 * pm) (o := 0) (k := i)
        rw [Nat.zero_add] at e
        rw [e]
    refine V.subM (lq 0 (Nat.zero_le _)) ?_ rfl ⟨rfl, rfl, trivial⟩
    rw [cpy_0, mrow_self]
  refine v_aload_n hX 0 0 rfl rfl rfl ?_
  refine g_7_4 hX 1  tw_650 rfl ?_
  refine v_bipush hX (v := 6) 2 rfl (by decide) ?_
  refine v_icmp_ne hX (tgt := 50) 3 rfl (by decide) (fun c6 => ?_) (fun c6 => ?_)
  · skip
    have hk2 : k < 6 := by rw [hkk] at c6; have : k ≠ 6 := fun e => c6 (by rw [e]; rfl); omega
    exact V.sub (j50 M k hk2 hkk rfl (by unfold rcM; rw [if_neg (by omega)])) rfl ⟨rfl, trivial⟩
  · skip
    have hk2 : k = 6 := by rw [hkk] at c6; exact (nI_eq (b := 6) (by omega) (by omega)).mp c6
    refine v_iconst hX (v := 0) 4 rfl (by decide) ?_
    refine v_istore_n hX 1 5 rfl rfl (Nat.le_of_ble_eq_true rfl) rfl ?_
    have lp : ∀ (i : Nat), i ≤ 865 → V Y X (mrow M 272 (shf (M.1 272) i)) 11 [some (.ref (Y.2.2.2 270)), some (.int (nI i))] [] := by
      refine upTo 865 (fun i hi ih => ?_)
      refine v_iload_n hX 1 6 rfl rfl rfl ?_
      refine v_sipush hX (v := 865) 7 rfl (by decide) ?_
      refine v_icmp_ge hX (tgt := 40) 8 rfl (by decide) (fun c15 => ?_) (fun c15 => ?_)
      · skip
        have hi2 : i = 865 := by have := of_le (a := 865) c15 (by omega) (by omega); omega
        subst hi2
        refine v_aload_n hX 0 21 rfl rfl rfl ?_
        refine v_dup hX 22 rfl rfl ?_
        refine g_7_4 hX 23  tw_650 rfl ?_
        refine v_iconst hX (v := 1) 24 rfl (by decide) ?_
        refine v_isub hX 25 rfl ?_
        refine p_7_4 hX 26   tw_650 rfl ?_
        rw [mrow_n (by decide), hkk, hk2]
        exact V.sub (j50 _ 5 (by decide) (by rw [mset_s, upd_s]; rfl) (by rw [mset_n (by decide), mrow_n (by decide)]) (by unfold rcM; rw [if_pos hk2, rc_norm, mset_n (by decide), mrow_s])) rfl ⟨rfl, trivial⟩
      · skip
        have hi2 : i < 865 := of_nle (a := 865) c15 (by omega) (by omega)
        refine v_aload_n hX 0 9 rfl rfl rfl ?_
        refine g_7_1 hX 10  tw_647 rfl ?_
        refine v_iload_n hX 1 11 rfl rfl rfl ?_
        refine v_aload_n hX 0 12 rfl rfl rfl ?_
        refine g_7_1 hX 13  tw_647 rfl ?_
        refine v_iload_n hX 1 14 rfl rfl rfl ?_
        refine v_sipush hX (v := 173) 15 rfl (by decide) ?_
        refine v_iadd hX 16 rfl ?_
        rw [show (173 : Int32) = nI 173 from rfl, nI_add]
        refine v_iald hX (k := 272) (by decide) rfl (vp_in_nI (by omega) (by decide)) 17 rfl ?_
        rw [nI_clamp (by omega), mrow_s]
        refine v_iast hX (k := 272) (by decide) rfl rfl (vp_in_nI (by omega) (by decide)) rfl 18 rfl ?_
        refine V.mem mset_mrow ?_
        rw [nI_clamp (by omega), shf_s]
        refine v_iinc hX 19 rfl rfl (nI_inc i) (Nat.le_of_ble_eq_true rfl) rfl ?_
        refine v_goto hX (tgt := 11) 20 rfl (by decide) ?_
        refine V.subM (ih hi2) ?_ rfl ⟨rfl, rfl, trivial⟩
        rfl
    refine V.subM (lp 0 (Nat.zero_le _)) ?_ rfl ⟨rfl, rfl, trivial⟩
    rw [shf_0, mrow_self]
set_option maxRecDepth 100000 in
set_option maxHeartbeats 4000000 in
theorem r_undo_no {Y : Yt} {M : Mm} (hkk : M.1 270 4 = nI 0) : Fn Y yX7_undo wsX7_undo { frames := 0, cells := 0, slots := 0, locals := 0 } [.ref (Y.2.2.2 270)] M (some (.int (-5))) M := by
  refine Fn.of (cc := cX7_undo) (ins := iX7_undo) (maxL := 2) (ret := (some .int)) (by decide) dX7_undo [some (.ref (Y.2.2.2 270)), none] (Nat.le_of_ble_eq_true rfl) rfl rfl ?_
  intro X hX hQ
  refine v_aload_n hX 0 0 rfl rfl rfl ?_
  refine g_7_4 hX 1  tw_650 rfl ?_
  refine v_if_ne hX (tgt := 10) 2 rfl (by decide) (fun c4 => absurd c4 (fun h => h hkk)) (fun c4 => ?_)
  refine v_bipush hX (v := (-5)) 3 rfl (by decide) ?_
  refine v_iret hX hQ rfl rfl ?_ ?_ 4 rfl
  · rfl
  · rfl
set_option maxRecDepth 100000 in
set_option maxHeartbeats 4000000 in
theorem r_undo {Y : Yt} {M : Mm} {k : Nat} (hk : k < 6) (hkk : M.1 270 4 = nI (k + 1)) : Fn Y yX7_undo wsX7_undo { frames := 0, cells := 0, slots := 0, locals := 0 } [.ref (Y.2.2.2 270)] M (some (.int (nI k))) ((mrow (mset M 270 4 (nI k)) 271 (cpy (M.1 271) (M.1 272) 0 (173 * k) 173))) := by
  refine Fn.of (cc := cX7_undo) (ins := iX7_undo) (maxL := 2) (ret := (some .int)) (by decide) dX7_undo [some (.ref (Y.2.2.2 270)), none] (Nat.le_of_ble_eq_true rfl) rfl rfl ?_
  intro X hX hQ
  refine v_aload_n hX 0 0 rfl rfl rfl ?_
  refine g_7_4 hX 1  tw_650 rfl ?_
  refine v_if_ne hX (tgt := 10) 2 rfl (by decide) (fun c4 => ?_) (fun c4 => absurd c4 (by rw [hkk]; exact nI_ne0 (by omega) (by omega)))
  refine v_aload_n hX 0 5 rfl rfl rfl ?_
  refine v_dup hX 6 rfl rfl ?_
  refine g_7_4 hX 7  tw_650 rfl ?_
  rw [hkk]
  refine v_iconst hX (v := 1) 8 rfl (by decide) ?_
  refine v_isub hX 9 rfl ?_
  rw [nI_pred]
  refine p_7_4 hX 10   tw_650 rfl ?_
  refine v_iconst hX (v := 0) 11 rfl (by decide) ?_
  refine v_istore_n hX 1 12 rfl rfl (Nat.le_of_ble_eq_true rfl) rfl ?_
  have lp : ∀ (i : Nat), i ≤ 173 → V Y X (mrow (mset M 270 4 (nI k)) 271 (cpy (M.1 271) (M.1 272) 0 (173 * k) i)) 22 [some (.ref (Y.2.2.2 270)), some (.int (nI i))] [] := by
    refine upTo 173 (fun i hi ih => ?_)
    refine v_iload_n hX 1 13 rfl rfl rfl ?_
    refine v_sipush hX (v := 173) 14 rfl (by decide) ?_
    refine v_icmp_ge hX (tgt := 56) 15 rfl (by decide) (fun c26 => ?_) (fun c26 => ?_)
    · skip
      have hi2 : i = 173 := by have := of_le (a := 173) c26 (by omega) (by omega); omega
      subst hi2
      refine v_aload_n hX 0 31 rfl rfl rfl ?_
      refine g_7_4 hX 32  tw_650 rfl ?_
      rw [mrow_n (by decide), mset_s, upd_s]
      refine v_iret hX hQ rfl rfl ?_ ?_ 33 rfl
      · rfl
      · rfl
    · skip
      have hi2 : i < 173 := of_nle (a := 173) c26 (by omega) (by omega)
      refine v_aload_n hX 0 16 rfl rfl rfl ?_
      refine g_7_0 hX 17  tw_646 rfl ?_
      refine v_iload_n hX 1 18 rfl rfl rfl ?_
      refine v_aload_n hX 0 19 rfl rfl rfl ?_
      refine g_7_1 hX 20  tw_647 rfl ?_
      refine v_aload_n hX 0 21 rfl rfl rfl ?_
      refine g_7_4 hX 22  tw_650 rfl ?_
      rw [mrow_n (by decide), mset_s, upd_s]
      refine v_sipush hX (v := 173) 23 rfl (by decide) ?_
      refine v_imul hX 24 rfl ?_
      refine v_iload_n hX 1 25 rfl rfl rfl ?_
      refine v_iadd hX 26 rfl ?_
      rw [show (173 : Int32) = nI 173 from rfl, pk_mul, nI_add]
      rw [Nat.mul_comm k 173]
      refine v_iald hX (k := 272) (by decide) rfl (vp_in_nI (by omega) (by decide)) 27 rfl ?_
      rw [nI_clamp (by omega), mrow_n (by decide), mset_n (by decide)]
      refine v_iast hX (k := 271) (by decide) rfl rfl (vp_in_nI (by omega) (by decide)) rfl 28 rfl ?_
      refine V.mem mset_mrow ?_
      rw [nI_clamp (by omega)]
      refine v_iinc hX 29 rfl rfl (nI_inc i) (Nat.le_of_ble_eq_true rfl) rfl ?_
      refine v_goto hX (tgt := 22) 30 rfl (by decide) ?_
      refine V.subM (ih hi2) ?_ rfl ⟨rfl, rfl, trivial⟩
      have e := cpy_s (f := M.1 271) (g := M.1 272) (a := 0) (o := 173 * k) (k := i)
      rw [Nat.zero_add] at e
      rw [e]
  refine V.subM (lp 0 (Nat.zero_le _)) ?_ rfl ⟨rfl, rfl, trivial⟩
  rw [cpy_0, ← mset_n (M := M) (k := 270) (j := 4) (v := nI k) (show 271 ≠ 270 by decide), mrow_self]
set_option maxRecDepth 100000 in
set_option maxHeartbeats 4000000 in
theorem r_save_no {Y : Yt} {M : Mm} {x : Int32} (hx : inv x 0 1 = false) : Fn Y yX7_save wsX7_save { frames := 1, cells := 0, slots := 0, locals := 22 } [.ref (Y.2.2.2 270), .int x] M (some (.int (-2))) M := by
  refine Fn.of (cc := cX7_save) (ins := iX7_save) (maxL := 3) (ret := (some .int)) (by decide) dX7_save [some (.ref (Y.2.2.2 270)), some (.int x), none] (Nat.le_of_ble_eq_true rfl) rfl rfl ?_
  intro X hX hQ
  refine v_iload_n hX 1 0 rfl rfl rfl ?_
  refine v_iconst hX (v := 0) 1 rfl (by decide) ?_
  refine v_iconst hX (v := 1) 2 rfl (by decide) ?_
  refine v_callS hX 3 (r_in) tw_703 tw_701 tw_702 tw_99 (by decide +kernel) ⟨⟨rfl, rfl⟩, Nat.le_of_ble_eq_true rfl, Nat.le_of_ble_eq_true rfl⟩ rfl (Nat.le_of_ble_eq_true rfl) rfl rfl 3 rfl ?_
  rw [hx]
  refine v_if_ne hX (tgt := 12) 4 rfl (by decide) (fun c6 => absurd c6 (fun h => h rfl)) (fun c6 => ?_)
  refine v_bipush hX (v := (-2)) 5 rfl (by decide) ?_
  refine v_iret hX hQ rfl rfl ?_ ?_ 6 rfl
  · rfl
  · rfl
set_option maxRecDepth 100000 in
set_option maxHeartbeats 4000000 in
theorem r_save {Y : Yt} {M : Mm} {j n : Nat} (hj : j < 2) (hz : M.1 271 3 = nI n) : Fn Y yX7_save wsX7_save { frames := 1, cells := 0, slots := 0, locals := 22 } [.ref (Y.2.2.2 270), .int (nI j)] M (some (.int (nI n))) ((mrow (mset M 274 j 1) 273 (cpy (M.1 273) (M.1 271) (173 * j) 0 173))) := by
  refine Fn.of (cc := cX7_save) (ins := iX7_save) (maxL := 3) (ret := (some .int)) (by decide) dX7_save [some (.ref (Y.2.2.2 270)), some (.int (nI j)), none] (Nat.le_of_ble_eq_true rfl) rfl rfl ?_
  intro X hX hQ
  refine v_iload_n hX 1 0 rfl rfl rfl ?_
  refine v_iconst hX (v := 0) 1 rfl (by decide) ?_
  refine v_iconst hX (v := 1) 2 rfl (by decide) ?_
  refine v_callS hX 3 (r_in) tw_703 tw_701 tw_702 tw_99 (by decide +kernel) ⟨⟨rfl, rfl⟩, Nat.le_of_ble_eq_true rfl, Nat.le_of_ble_eq_true rfl⟩ rfl (Nat.le_of_ble_eq_true rfl) rfl rfl 3 rfl ?_
  rw [show inv (nI j) 0 1 = true by rcases (show j = 0 ∨ j = 1 by omega) with rfl | rfl <;> decide]
  refine v_if_ne hX (tgt := 12) 4 rfl (by decide) (fun c6 => ?_) (fun c6 => absurd c6 (by decide))
  refine v_aload_n hX 0 7 rfl rfl rfl ?_
  refine g_7_3 hX 8  tw_649 rfl ?_
  refine v_iload_n hX 1 9 rfl rfl rfl ?_
  refine v_iconst hX (v := 1) 10 rfl (by decide) ?_
  refine v_zast hX (k := 274) (by decide) rfl rfl (vp_in_nI (by omega) (by decide)) rfl 11 rfl ?_
  refine V.mem (M2 := mset M 274 j 1) (by rw [nI_clamp (by omega)]; rfl) ?_
  refine v_iconst hX (v := 0) 12 rfl (by decide) ?_
  refine v_istore_n hX 2 13 rfl rfl (Nat.le_of_ble_eq_true rfl) rfl ?_
  have lp : ∀ (i : Nat), i ≤ 173 → V Y X (mrow (mset M 274 j 1) 273 (cpy (M.1 273) (M.1 271) (173 * j) 0 i)) 21 [some (.ref (Y.2.2.2 270)), some (.int (nI j)), some (.int (nI i))] [] := by
    refine upTo 173 (fun i hi ih => ?_)
    refine v_iload_n hX 2 14 rfl rfl rfl ?_
    refine v_sipush hX (v := 173) 15 rfl (by decide) ?_
    refine v_icmp_ge hX (tgt := 52) 16 rfl (by decide) (fun c25 => ?_) (fun c25 => ?_)
    · skip
      have hi2 : i = 173 := by have := of_le (a := 173) c25 (by omega) (by omega); omega
      subst hi2
      refine v_aload_n hX 0 31 rfl rfl rfl ?_
      refine g_7_0 hX 32  tw_646 rfl ?_
      refine v_iconst hX (v := 3) 33 rfl (by decide) ?_
      refine v_iald hX (k := 271) (by decide) rfl (vp_in_nI (n := 3) (by decide) (by decide)) 34 rfl ?_
      show V Y X _ _ _ [.int ((mrow (mset M 274 j 1) 273 _).1 271 3)]
      rw [mrow_n (by decide), mset_n (by decide), hz]
      refine v_iret hX hQ rfl rfl ?_ ?_ 35 rfl
      · rfl
      · rfl
    · skip
      have hi2 : i < 173 := of_nle (a := 173) c25 (by omega) (by omega)
      refine v_aload_n hX 0 17 rfl rfl rfl ?_
      refine g_7_2 hX 18  tw_648 rfl ?_
      refine v_iload_n hX 1 19 rfl rfl rfl ?_
      refine v_sipush hX (v := 173) 20 rfl (by decide) ?_
      refine v_imul hX 21 rfl ?_
      refine v_iload_n hX 2 22 rfl rfl rfl ?_
      refine v_iadd hX 23 rfl ?_
      rw [show (173 : Int32) = nI 173 from rfl, pk_mul, nI_add]
      rw [Nat.mul_comm j 173]
      refine v_aload_n hX 0 24 rfl rfl rfl ?_
      refine g_7_0 hX 25  tw_646 rfl ?_
      refine v_iload_n hX 2 26 rfl rfl rfl ?_
      refine v_iald hX (k := 271) (by decide) rfl (vp_in_nI (by omega) (by decide)) 27 rfl ?_
      rw [nI_clamp (by omega), mrow_n (by decide), mset_n (by decide)]
      refine v_iast hX (k := 273) (by decide) rfl rfl (vp_in_nI (by omega) (by decide)) rfl 28 rfl ?_
      refine V.mem mset_mrow ?_
      rw [nI_clamp (by omega)]
      refine v_iinc hX 29 rfl rfl (nI_inc i) (Nat.le_of_ble_eq_true rfl) rfl ?_
      refine v_goto hX (tgt := 21) 30 rfl (by decide) ?_
      refine V.subM (ih hi2) ?_ rfl ⟨rfl, rfl, rfl, trivial⟩
      have e := cpy_s (f := M.1 273) (g := M.1 271) (a := 173 * j) (o := 0) (k := i)
      rw [Nat.zero_add] at e
      rw [e]
  refine V.subM (lp 0 (Nat.zero_le _)) ?_ rfl ⟨rfl, rfl, rfl, trivial⟩
  rw [cpy_0, ← mset_n (M := M) (k := 274) (j := j) (v := 1) (show 273 ≠ 274 by decide), mrow_self]
set_option maxRecDepth 100000 in
set_option maxHeartbeats 4000000 in
theorem r_restore_no {Y : Yt} {M : Mm} {x : Int32} (hx : inv x 0 1 = false) : Fn Y yX7_restore wsX7_restore { frames := 1, cells := 0, slots := 0, locals := 22 } [.ref (Y.2.2.2 270), .int x] M (some (.int (-2))) M := by
  refine Fn.of (cc := cX7_restore) (ins := iX7_restore) (maxL := 3) (ret := (some .int)) (by decide) dX7_restore [some (.ref (Y.2.2.2 270)), some (.int x), none] (Nat.le_of_ble_eq_true rfl) rfl rfl ?_
  intro X hX hQ
  refine v_iload_n hX 1 0 rfl rfl rfl ?_
  refine v_iconst hX (v := 0) 1 rfl (by decide) ?_
  refine v_iconst hX (v := 1) 2 rfl (by decide) ?_
  refine v_callS hX 3 (r_in) tw_703 tw_701 tw_702 tw_99 (by decide +kernel) ⟨⟨rfl, rfl⟩, Nat.le_of_ble_eq_true rfl, Nat.le_of_ble_eq_true rfl⟩ rfl (Nat.le_of_ble_eq_true rfl) rfl rfl 3 rfl ?_
  rw [hx]
  refine v_if_ne hX (tgt := 12) 4 rfl (by decide) (fun c6 => absurd c6 (fun h => h rfl)) (fun c6 => ?_)
  refine v_bipush hX (v := (-2)) 5 rfl (by decide) ?_
  refine v_iret hX hQ rfl rfl ?_ ?_ 6 rfl
  · rfl
  · rfl
set_option maxRecDepth 100000 in
set_option maxHeartbeats 4000000 in
theorem r_restore_not {Y : Yt} {M : Mm} {j : Nat} (hj : j < 2) (hs : M.1 274 j = 0) : Fn Y yX7_restore wsX7_restore { frames := 1, cells := 0, slots := 0, locals := 22 } [.ref (Y.2.2.2 270), .int (nI j)] M (some (.int (-5))) M := by
  refine Fn.of (cc := cX7_restore) (ins := iX7_restore) (maxL := 3) (ret := (some .int)) (by decide) dX7_restore [some (.ref (Y.2.2.2 270)), some (.int (nI j)), none] (Nat.le_of_ble_eq_true rfl) rfl rfl ?_
  intro X hX hQ
  refine v_iload_n hX 1 0 rfl rfl rfl ?_
  refine v_iconst hX (v := 0) 1 rfl (by decide) ?_
  refine v_iconst hX (v := 1) 2 rfl (by decide) ?_
  refine v_callS hX 3 (r_in) tw_703 tw_701 tw_702 tw_99 (by decide +kernel) ⟨⟨rfl, rfl⟩, Nat.le_of_ble_eq_true rfl, Nat.le_of_ble_eq_true rfl⟩ rfl (Nat.le_of_ble_eq_true rfl) rfl rfl 3 rfl ?_
  rw [show inv (nI j) 0 1 = true by rcases (show j = 0 ∨ j = 1 by omega) with rfl | rfl <;> decide]
  refine v_if_ne hX (tgt := 12) 4 rfl (by decide) (fun c6 => ?_) (fun c6 => absurd c6 (by decide))
  refine v_aload_n hX 0 7 rfl rfl rfl ?_
  refine g_7_3 hX 8  tw_649 rfl ?_
  refine v_iload_n hX 1 9 rfl rfl rfl ?_
  refine v_zald hX (k := 274) (by decide) rfl (vp_in_nI (by omega) (by decide)) 10 rfl ?_
  rw [nI_clamp (by omega)]
  refine v_if_ne hX (tgt := 24) 11 rfl (by decide) (fun c18 => absurd c18 (fun h => h hs)) (fun c18 => ?_)
  refine v_bipush hX (v := (-5)) 12 rfl (by decide) ?_
  refine v_iret hX hQ rfl rfl ?_ ?_ 13 rfl
  · rfl
  · rfl
set_option maxRecDepth 100000 in
set_option maxHeartbeats 4000000 in
theorem r_restore {Y : Yt} {M : Mm} {j k n : Nat} (hj : j < 2) (hs : ¬ M.1 274 j = 0) (hk : k ≤ 6) (hkk : M.1 270 4 = nI k) (hz : M.1 273 (173 * j + 3) = nI n) : Fn Y yX7_restore wsX7_restore { frames := 1, cells := 0, slots := 0, locals := 22 } [.ref (Y.2.2.2 270), .int (nI j)] M (some (.int (nI n))) ((mrow (rcM M k) 271 (cpy (M.1 271) (M.1 273) 0 (173 * j) 173))) := by
  refine Fn.of (cc := cX7_restore) (ins := iX7_restore) (maxL := 3) (ret := (some .int)) (by decide) dX7_restore [some (.ref (Y.2.2.2 270)), some (.int (nI j)), none] (Nat.le_of_ble_eq_true rfl) rfl rfl ?_
  intro X hX hQ
  refine v_iload_n hX 1 0 rfl rfl rfl ?_
  refine v_iconst hX (v := 0) 1 rfl (by decide) ?_
  refine v_iconst hX (v := 1) 2 rfl (by decide) ?_
  refine v_callS hX 3 (r_in) tw_703 tw_701 tw_702 tw_99 (by decide +kernel) ⟨⟨rfl, rfl⟩, Nat.le_of_ble_eq_true rfl, Nat.le_of_ble_eq_true rfl⟩ rfl (Nat.le_of_ble_eq_true rfl) rfl rfl 3 rfl ?_
  rw [show inv (nI j) 0 1 = true by rcases (show j = 0 ∨ j = 1 by omega) with rfl | rfl <;> decide]
  refine v_if_ne hX (tgt := 12) 4 rfl (by decide) (fun c6 => ?_) (fun c6 => absurd c6 (by decide))
  refine v_aload_n hX 0 7 rfl rfl rfl ?_
  refine g_7_3 hX 8  tw_649 rfl ?_
  refine v_iload_n hX 1 9 rfl rfl rfl ?_
  refine v_zald hX (k := 274) (by decide) rfl (vp_in_nI (by omega) (by decide)) 10 rfl ?_
  rw [nI_clamp (by omega)]
  refine v_if_ne hX (tgt := 24) 11 rfl (by decide) (fun c18 => ?_) (fun c18 => absurd c18 hs)
  refine v_aload_n hX 0 14 rfl rfl rfl ?_
  refine v_callV hX 0 (by decide) rfl rfl (r_record hk hkk) tw_711 tw_708 tw_710 tw_53 tw_99 (by decide +kernel) ⟨⟨rfl, rfl⟩, Nat.le_of_ble_eq_true rfl, Nat.le_of_ble_eq_true rfl⟩ rfl (Nat.le_of_ble_eq_true rfl) rfl rfl 15 rfl ?_
  refine v_iconst hX (v := 0) 16 rfl (by decide) ?_
  refine v_istore_n hX 2 17 rfl rfl (Nat.le_of_ble_eq_true rfl) rfl ?_
  have lp : ∀ (i : Nat), i ≤ 173 → V Y X (mrow (rcM M k) 271 (cpy (M.1 271) (M.1 273) 0 (173 * j) i)) 30 [some (.ref (Y.2.2.2 270)), some (.int (nI j)), some (.int (nI i))] [] := by
    refine upTo 173 (fun i hi ih => ?_)
    refine v_iload_n hX 2 18 rfl rfl rfl ?_
    refine v_sipush hX (v := 173) 19 rfl (by decide) ?_
    refine v_icmp_ge hX (tgt := 61) 20 rfl (by decide) (fun c34 => ?_) (fun c34 => ?_)
    · skip
      have hi2 : i = 173 := by have := of_le (a := 173) c34 (by omega) (by omega); omega
      subst hi2
      refine v_aload_n hX 0 35 rfl rfl rfl ?_
      refine g_7_0 hX 36  tw_646 rfl ?_
      refine v_iconst hX (v := 3) 37 rfl (by decide) ?_
      refine v_iald hX (k := 271) (by decide) rfl (vp_in_nI (n := 3) (by decide) (by decide)) 38 rfl ?_
      show V Y X _ _ _ [.int ((mrow (rcM M k) 271 (cpy (M.1 271) (M.1 273) 0 (173 * j) 173)).1 271 3)]
      rw [mrow_s]
      show V Y X _ _ _ [.int (if 0 ≤ 3 ∧ 3 < 0 + 173 then M.1 273 (173 * j + (3 - 0)) else M.1 271 3)]
      rw [if_pos (by decide), Nat.sub_zero, hz]
      refine v_iret hX hQ rfl rfl ?_ ?_ 39 rfl
      · rfl
      · rfl
    · skip
      have hi2 : i < 173 := of_nle (a := 173) c34 (by omega) (by omega)
      refine v_aload_n hX 0 21 rfl rfl rfl ?_
      refine g_7_0 hX 22  tw_646 rfl ?_
      refine v_iload_n hX 2 23 rfl rfl rfl ?_
      refine v_aload_n hX 0 24 rfl rfl rfl ?_
      refine g_7_2 hX 25  tw_648 rfl ?_
      refine v_iload_n hX 1 26 rfl rfl rfl ?_
      refine v_sipush hX (v := 173) 27 rfl (by decide) ?_
      refine v_imul hX 28 rfl ?_
      refine v_iload_n hX 2 29 rfl rfl rfl ?_
      refine v_iadd hX 30 rfl ?_
      rw [show (173 : Int32) = nI 173 from rfl, pk_mul, nI_add]
      rw [Nat.mul_comm j 173]
      refine v_iald hX (k := 273) (by decide) rfl (vp_in_nI (by omega) (by decide)) 31 rfl ?_
      rw [nI_clamp (by omega), mrow_n (by decide), rcM_n (by decide)]
      refine v_iast hX (k := 271) (by decide) rfl rfl (vp_in_nI (by omega) (by decide)) rfl 32 rfl ?_
      refine V.mem mset_mrow ?_
      rw [nI_clamp (by omega)]
      refine v_iinc hX 33 rfl rfl (nI_inc i) (Nat.le_of_ble_eq_true rfl) rfl ?_
      refine v_goto hX (tgt := 30) 34 rfl (by decide) ?_
      refine V.subM (ih hi2) ?_ rfl ⟨rfl, rfl, rfl, trivial⟩
      have e := cpy_s (f := M.1 271) (g := M.1 273) (a := 0) (o := 173 * j) (k := i)
      rw [Nat.zero_add] at e
      rw [e]
  refine V.subM (lp 0 (Nat.zero_le _)) ?_ rfl ⟨rfl, rfl, rfl, trivial⟩
  rw [cpy_0, ← rcM_n (M := M) (k := k) (show 271 ≠ 270 ∧ 271 ≠ 272 by decide), mrow_self]
