set_option maxRecDepth 100000 in
set_option maxHeartbeats 4000000 in
theorem r_bits {Y : Yt} {M : Mm} {p : Nat → Bool} {n : Nat} (hn : n ≤ 24) : Fn Y yX7_bits wsX7_bits { frames := 0, cells := 0, slots := 0, locals := 0 } [.int (mk p n)] M (some (.int (nI (cnt p n)))) M := by
  refine Fn.of (cc := cX7_bits) (ins := iX7_bits) (maxL := 3) (ret := (some .int)) (by decide) dX7_bits [some (.int (mk p n)), none, none] (Nat.le_of_ble_eq_true rfl) rfl rfl ?_
  intro X hX hQ
  refine v_iconst hX (v := 0) 0 rfl (by decide) ?_
  refine v_istore_n hX 1 1 rfl rfl (Nat.le_of_ble_eq_true rfl) rfl ?_
  refine v_iload_n hX 0 2 rfl rfl rfl ?_
  refine v_istore_n hX 2 3 rfl rfl (Nat.le_of_ble_eq_true rfl) rfl ?_
  have lp : ∀ (c : Nat) (q : Nat → Bool) (d : Nat), cnt q n = c → d + c = cnt p n → V Y X M 4 [some (.int (mk p n)), some (.int (nI d)), some (.int (mk q n))] [] := by
    refine downTo (fun c ih => ?_)
    intro q d hq hd
    refine v_iload_n hX 2 4 rfl rfl rfl ?_
    refine v_if_eq hX (tgt := 20) 5 rfl (by decide) (fun c5 => ?_) (fun c5 => ?_)
    · skip
      have h0 := cnt_0 c5 hn
      refine v_iload_n hX 1 14 rfl rfl rfl ?_
      refine v_iret hX hQ rfl rfl ?_ ?_ 15 rfl
      · rw [show d = cnt p n by omega]
      · rfl
    · skip
      obtain ⟨m, hm, hqm, hlo⟩ := ex_low hn c5
      have hrm := cnt_rm hm hqm
      refine v_iinc hX 6 rfl rfl (nI_inc d) (Nat.le_of_ble_eq_true rfl) rfl ?_
      refine v_iload_n hX 2 7 rfl rfl rfl ?_
      refine v_iload_n hX 2 8 rfl rfl rfl ?_
      refine v_iconst hX (v := 1) 9 rfl (by decide) ?_
      refine v_isub hX 10 rfl ?_
      refine v_iand hX 11 rfl ?_
      rw [mk_step hn hm hqm hlo]
      refine v_istore_n hX 2 12 rfl rfl (Nat.le_of_ble_eq_true rfl) rfl ?_
      refine v_goto hX (tgt := 4) 13 rfl (by decide) ?_
      exact V.sub (ih _ (by omega) _ (d + 1) rfl (by omega)) rfl ⟨rfl, rfl, rfl, trivial⟩
  exact V.sub (lp _ p 0 rfl (Nat.zero_add _)) rfl ⟨rfl, rfl, rfl, trivial⟩
set_option maxRecDepth 100000 in
set_option maxHeartbeats 4000000 in
theorem r_set_bad {Y : Yt} {M : Mm} {s v : Int32} (h : inv s 0 1 = false ∨ isV s v = false) : Fn Y yX7_set wsX7_set { frames := 2, cells := 0, slots := 0, locals := 43 } [.ref (Y.2.2.2 270), .int s, .int v] M (some (.int (-2))) M := by
  refine Fn.of (cc := cX7_set) (ins := iX7_set) (maxL := 4) (ret := (some .int)) (by decide) dX7_set [some (.ref (Y.2.2.2 270)), some (.int s), some (.int v), none] (Nat.le_of_ble_eq_true rfl) rfl rfl ?_
  intro X hX hQ
  refine v_iload_n hX 1 0 rfl rfl rfl ?_
  refine v_iconst hX (v := 0) 1 rfl (by decide) ?_
  refine v_iconst hX (v := 1) 2 rfl (by decide) ?_
  refine v_callS hX 3 (r_in) tw_703 tw_701 tw_702 tw_99 (by decide +kernel) ⟨⟨rfl, rfl⟩, Nat.le_of_ble_eq_true rfl, Nat.le_of_ble_eq_true rfl⟩ rfl (Nat.le_of_ble_eq_true rfl) rfl rfl 3 rfl ?_
  refine v_if_eq hX (tgt := 17) 4 rfl (by decide) (fun c6 => ?_) (fun c6 => ?_)
  · skip
    have q1 := b01_f c6
    refine v_bipush hX (v := (-2)) 9 rfl (by decide) ?_
    refine v_iret hX hQ rfl rfl ?_ ?_ 10 rfl
    · rfl
    · rfl
  · skip
    have q1 := b01_t c6
    refine v_iload_n hX 1 5 rfl rfl rfl ?_
    refine v_iload_n hX 2 6 rfl rfl rfl ?_
    refine v_callS hX 2 (r_isValue) tw_718 tw_716 tw_717 tw_99 (by decide +kernel) ⟨⟨rfl, rfl⟩, Nat.le_of_ble_eq_true rfl, Nat.le_of_ble_eq_true rfl⟩ rfl (Nat.le_of_ble_eq_true rfl) rfl rfl 7 rfl ?_
    refine v_if_ne hX (tgt := 20) 8 rfl (by decide) (fun c14 => absurd c14 (fun g => h.elim (fun h => by rw [h] at q1; cases q1) (fun h => g (by rw [h]; rfl)))) (fun c14 => ?_)
    refine v_bipush hX (v := (-2)) 9 rfl (by decide) ?_
    refine v_iret hX hQ rfl rfl ?_ ?_ 10 rfl
    · rfl
    · rfl
set_option maxRecDepth 100000 in
set_option maxHeartbeats 4000000 in
theorem r_set {Y : Yt} {M : Mm} {j : Nat} {v : Int32} (hj : j < 2) (hv : isV (nI j) v = true) {k : Nat} (hk : k ≤ 6) (hkk : M.1 270 4 = nI k)  : Fn Y yX7_set wsX7_set { frames := 2, cells := 0, slots := 0, locals := 43 } [.ref (Y.2.2.2 270), .int (nI j), .int v] M (some (.int (M.1 271 j))) ((mset (rcM M k) 271 j v)) := by
  refine Fn.of (cc := cX7_set) (ins := iX7_set) (maxL := 4) (ret := (some .int)) (by decide) dX7_set [some (.ref (Y.2.2.2 270)), some (.int (nI j)), some (.int v), none] (Nat.le_of_ble_eq_true rfl) rfl rfl ?_
  intro X hX hQ
  refine v_iload_n hX 1 0 rfl rfl rfl ?_
  refine v_iconst hX (v := 0) 1 rfl (by decide) ?_
  refine v_iconst hX (v := 1) 2 rfl (by decide) ?_
  refine v_callS hX 3 (r_in) tw_703 tw_701 tw_702 tw_99 (by decide +kernel) ⟨⟨rfl, rfl⟩, Nat.le_of_ble_eq_true rfl, Nat.le_of_ble_eq_true rfl⟩ rfl (Nat.le_of_ble_eq_true rfl) rfl rfl 3 rfl ?_
  rw [show inv (nI j) 0 1 = true by rcases (show j = 0 ∨ j = 1 by omega) with rfl | rfl <;> decide]
  refine v_if_eq hX (tgt := 17) 4 rfl (by decide) (fun c6 => absurd c6 (by decide)) (fun c6 => ?_)
  refine v_iload_n hX 1 5 rfl rfl rfl ?_
  refine v_iload_n hX 2 6 rfl rfl rfl ?_
  refine v_callS hX 2 (r_isValue) tw_718 tw_716 tw_717 tw_99 (by decide +kernel) ⟨⟨rfl, rfl⟩, Nat.le_of_ble_eq_true rfl, Nat.le_of_ble_eq_true rfl⟩ rfl (Nat.le_of_ble_eq_true rfl) rfl rfl 7 rfl ?_
  rw [hv]
  refine v_if_ne hX (tgt := 20) 8 rfl (by decide) (fun c14 => ?_) (fun c14 => absurd c14 (by decide))
  refine v_aload_n hX 0 11 rfl rfl rfl ?_
  refine v_callV hX 0 (by decide) rfl rfl (r_record hk hkk) tw_711 tw_708 tw_710 tw_53 tw_99 (by decide +kernel) ⟨⟨rfl, rfl⟩, Nat.le_of_ble_eq_true rfl, Nat.le_of_ble_eq_true rfl⟩ rfl (Nat.le_of_ble_eq_true rfl) rfl rfl 12 rfl ?_
  refine v_aload_n hX 0 13 rfl rfl rfl ?_
  refine g_7_0 hX 14  tw_646 rfl ?_
  refine v_iload_n hX 1 15 rfl rfl rfl ?_
  refine v_iald hX (k := 271) (by decide) rfl (vp_in_nI (by omega) (by decide)) 16 rfl ?_
  rw [nI_clamp (by omega), rc_z]
  refine v_istore_n hX 3 17 rfl rfl (Nat.le_of_ble_eq_true rfl) rfl ?_
  refine v_aload_n hX 0 18 rfl rfl rfl ?_
  refine g_7_0 hX 19  tw_646 rfl ?_
  refine v_iload_n hX 1 20 rfl rfl rfl ?_
  refine v_iload_n hX 2 21 rfl rfl rfl ?_
  refine v_iast hX (k := 271) (by decide) rfl rfl (vp_in_nI (by omega) (by decide)) rfl 22 rfl ?_
  rw [nI_clamp (by omega)]
  refine v_iload_n hX 3 23 rfl rfl rfl ?_
  refine v_iret hX hQ rfl rfl ?_ ?_ 24 rfl
  · rfl
  · rfl
set_option maxRecDepth 100000 in
set_option maxHeartbeats 4000000 in
theorem r_claim_bad {Y : Yt} {M : Mm} {s p c : Int32} {n : Nat} (hz : M.1 271 3 = nI n) (hn : n ≤ 24) (h : wnC n s p c < 0) : Fn Y yX7_claim wsX7_claim { frames := 3, cells := 0, slots := 0, locals := 66 } [.ref (Y.2.2.2 270), .int s, .int p, .int c] M (some (.int (wnC n s p c))) M := by
  refine Fn.of (cc := cX7_claim) (ins := iX7_claim) (maxL := 5) (ret := (some .int)) (by decide) dX7_claim [some (.ref (Y.2.2.2 270)), some (.int s), some (.int p), some (.int c), none] (Nat.le_of_ble_eq_true rfl) rfl rfl ?_
  intro X hX hQ
  refine v_aload_n hX 0 0 rfl rfl rfl ?_
  refine v_iload_n hX 1 1 rfl rfl rfl ?_
  refine v_iload_n hX 2 2 rfl rfl rfl ?_
  refine v_iload_n hX 3 3 rfl rfl rfl ?_
  refine v_callV hX 3 (by decide) rfl rfl (r_wnC hz hn) tw_726 tw_723 tw_725 tw_54 tw_99 (by decide +kernel) ⟨⟨rfl, rfl⟩, Nat.le_of_ble_eq_true rfl, Nat.le_of_ble_eq_true rfl⟩ rfl (Nat.le_of_ble_eq_true rfl) rfl rfl 4 rfl ?_
  refine v_istore hX 5 rfl (Nat.le_of_ble_eq_true rfl) rfl ?_
  refine v_iload hX 6 rfl rfl ?_
  refine v_if_ge hX (tgt := 17) 7 rfl (by decide) (fun c11 => absurd c11 (fun g => by rw [Int32.lt_iff_toInt_lt] at h; rw [Int32.le_iff_toInt_le] at g; omega)) (fun c11 => ?_)
  refine v_iload hX 8 rfl rfl ?_
  refine v_iret hX hQ rfl rfl ?_ ?_ 9 rfl
  · rfl
  · rfl
set_option maxRecDepth 100000 in
set_option maxHeartbeats 4000000 in
theorem r_claim {Y : Yt} {M : Mm} {s p c : Int32} {k : Nat} (hk : k ≤ 6) (hkk : M.1 270 4 = nI k) {n : Nat} (hz : M.1 271 3 = nI n) (hn : n < 24) (h : wnC n s p c = 0) : Fn Y yX7_claim wsX7_claim { frames := 3, cells := 0, slots := 0, locals := 66 } [.ref (Y.2.2.2 270), .int s, .int p, .int c] M (some (.int (nI n))) ((flM (rcM M k) n s (-6) p c)) := by
  refine Fn.of (cc := cX7_claim) (ins := iX7_claim) (maxL := 5) (ret := (some .int)) (by decide) dX7_claim [some (.ref (Y.2.2.2 270)), some (.int s), some (.int p), some (.int c), none] (Nat.le_of_ble_eq_true rfl) rfl rfl ?_
  intro X hX hQ
  refine v_aload_n hX 0 0 rfl rfl rfl ?_
  refine v_iload_n hX 1 1 rfl rfl rfl ?_
  refine v_iload_n hX 2 2 rfl rfl rfl ?_
  refine v_iload_n hX 3 3 rfl rfl rfl ?_
  refine v_callV hX 3 (by decide) rfl rfl (r_wnC hz (by omega)) tw_726 tw_723 tw_725 tw_54 tw_99 (by decide +kernel) ⟨⟨rfl, rfl⟩, Nat.le_of_ble_eq_true rfl, Nat.le_of_ble_eq_true rfl⟩ rfl (Nat.le_of_ble_eq_true rfl) rfl rfl 4 rfl ?_
  rw [h]
  refine v_istore hX 5 rfl (Nat.le_of_ble_eq_true rfl) rfl ?_
  refine v_iload hX 6 rfl rfl ?_
  refine v_if_ge hX (tgt := 17) 7 rfl (by decide) (fun c11 => ?_) (fun c11 => absurd (by decide) c11)
  refine v_aload_n hX 0 10 rfl rfl rfl ?_
  refine v_callV hX 0 (by decide) rfl rfl (r_record hk hkk) tw_711 tw_708 tw_710 tw_53 tw_99 (by decide +kernel) ⟨⟨rfl, rfl⟩, Nat.le_of_ble_eq_true rfl, Nat.le_of_ble_eq_true rfl⟩ rfl (Nat.le_of_ble_eq_true rfl) rfl rfl 11 rfl ?_
  refine v_aload_n hX 0 12 rfl rfl rfl ?_
  refine v_iload_n hX 1 13 rfl rfl rfl ?_
  refine v_bipush hX (v := (-6)) 14 rfl (by decide) ?_
  refine v_iload_n hX 2 15 rfl rfl rfl ?_
  refine v_iload_n hX 3 16 rfl rfl rfl ?_
  refine v_callV hX 4 (by decide) rfl rfl (r_file (show (rcM M k).1 271 3 = nI n by rw [rc_z]; exact hz) hn) tw_733 tw_730 tw_732 tw_55 tw_99 (by decide +kernel) ⟨⟨rfl, rfl⟩, Nat.le_of_ble_eq_true rfl, Nat.le_of_ble_eq_true rfl⟩ rfl (Nat.le_of_ble_eq_true rfl) rfl rfl 17 rfl ?_
  refine v_iret hX hQ rfl rfl ?_ ?_ 18 rfl
  · rfl
  · rfl
set_option maxRecDepth 100000 in
set_option maxHeartbeats 4000000 in
theorem r_answer_no {Y : Yt} {M : Mm} {x p c : Int32} {n : Nat} (hz : M.1 271 3 = nI n) (hx : x < 0 ∨ nI n ≤ x) : Fn Y yX7_answer wsX7_answer { frames := 3, cells := 0, slots := 0, locals := 66 } [.ref (Y.2.2.2 270), .int x, .int p, .int c] M (some (.int (-1))) M := by
  refine Fn.of (cc := cX7_answer) (ins := iX7_answer) (maxL := 5) (ret := (some .int)) (by decide) dX7_answer [some (.ref (Y.2.2.2 270)), some (.int x), some (.int p), some (.int c), none] (Nat.le_of_ble_eq_true rfl) rfl rfl ?_
  intro X hX hQ
  refine v_aload_n hX 0 0 rfl rfl rfl ?_
  refine v_iload_n hX 1 1 rfl rfl rfl ?_
  refine v_iload_n hX 2 2 rfl rfl rfl ?_
  refine v_iload_n hX 3 3 rfl rfl rfl ?_
  refine v_callV hX 3 (by decide) rfl rfl (r_wnA_no hz hx) tw_745 tw_742 tw_744 tw_57 tw_99 (by decide +kernel) ⟨⟨rfl, rfl⟩, Nat.le_of_ble_eq_true rfl, Nat.le_of_ble_eq_true rfl⟩ rfl (Nat.le_of_ble_eq_true rfl) rfl rfl 4 rfl ?_
  refine v_istore hX 5 rfl (Nat.le_of_ble_eq_true rfl) rfl ?_
  refine v_iload hX 6 rfl rfl ?_
  refine v_if_ge hX (tgt := 17) 7 rfl (by decide) (fun c11 => absurd c11 (by decide)) (fun c11 => ?_)
  refine v_iload hX 8 rfl rfl ?_
  refine v_iret hX hQ rfl rfl ?_ ?_ 9 rfl
  · rfl
  · rfl
set_option maxRecDepth 100000 in
set_option maxHeartbeats 4000000 in
theorem r_answer_bad {Y : Yt} {M : Mm} {p c : Int32} {i : Nat} {n : Nat} (hz : M.1 271 3 = nI n) (hn : n ≤ 24) (hi : i < n) (h : wnA (M.1 271) n i p c < 0) : Fn Y yX7_answer wsX7_answer { frames := 3, cells := 0, slots := 0, locals := 66 } [.ref (Y.2.2.2 270), .int (nI i), .int p, .int c] M (some (.int (wnA (M.1 271) n i p c))) M := by
  refine Fn.of (cc := cX7_answer) (ins := iX7_answer) (maxL := 5) (ret := (some .int)) (by decide) dX7_answer [some (.ref (Y.2.2.2 270)), some (.int (nI i)), some (.int p), some (.int c), none] (Nat.le_of_ble_eq_true rfl) rfl rfl ?_
  intro X hX hQ
  refine v_aload_n hX 0 0 rfl rfl rfl ?_
  refine v_iload_n hX 1 1 rfl rfl rfl ?_
  refine v_iload_n hX 2 2 rfl rfl rfl ?_
  refine v_iload_n hX 3 3 rfl rfl rfl ?_
  refine v_callV hX 3 (by decide) rfl rfl (r_wnA hz hn hi) tw_745 tw_742 tw_744 tw_57 tw_99 (by decide +kernel) ⟨⟨rfl, rfl⟩, Nat.le_of_ble_eq_true rfl, Nat.le_of_ble_eq_true rfl⟩ rfl (Nat.le_of_ble_eq_true rfl) rfl rfl 4 rfl ?_
  refine v_istore hX 5 rfl (Nat.le_of_ble_eq_true rfl) rfl ?_
  refine v_iload hX 6 rfl rfl ?_
  refine v_if_ge hX (tgt := 17) 7 rfl (by decide) (fun c11 => absurd c11 (fun g => by rw [Int32.lt_iff_toInt_lt] at h; rw [Int32.le_iff_toInt_le] at g; omega)) (fun c11 => ?_)
  refine v_iload hX 8 rfl rfl ?_
  refine v_iret hX hQ rfl rfl ?_ ?_ 9 rfl
  · rfl
  · rfl
set_option maxRecDepth 100000 in
set_option maxHeartbeats 4000000 in
theorem r_answer {Y : Yt} {M : Mm} {p c : Int32} {i : Nat} {k : Nat} (hk : k ≤ 6) (hkk : M.1 270 4 = nI k) {n : Nat} (hz : M.1 271 3 = nI n) (hn : n < 24) (hi : i < n) (h : wnA (M.1 271) n i p c = 0) : Fn Y yX7_answer wsX7_answer { frames := 3, cells := 0, slots := 0, locals := 66 } [.ref (Y.2.2.2 270), .int (nI i), .int p, .int c] M (some (.int (nI n))) ((flM (rcM M k) n (1 - M.1 271 (5 + 7 * i + 0)) (nI i) p c)) := by
  refine Fn.of (cc := cX7_answer) (ins := iX7_answer) (maxL := 5) (ret := (some .int)) (by decide) dX7_answer [some (.ref (Y.2.2.2 270)), some (.int (nI i)), some (.int p), some (.int c), none] (Nat.le_of_ble_eq_true rfl) rfl rfl ?_
  intro X hX hQ
  refine v_aload_n hX 0 0 rfl rfl rfl ?_
  refine v_iload_n hX 1 1 rfl rfl rfl ?_
  refine v_iload_n hX 2 2 rfl rfl rfl ?_
  refine v_iload_n hX 3 3 rfl rfl rfl ?_
  refine v_callV hX 3 (by decide) rfl rfl (r_wnA hz (by omega) hi) tw_745 tw_742 tw_744 tw_57 tw_99 (by decide +kernel) ⟨⟨rfl, rfl⟩, Nat.le_of_ble_eq_true rfl, Nat.le_of_ble_eq_true rfl⟩ rfl (Nat.le_of_ble_eq_true rfl) rfl rfl 4 rfl ?_
  rw [h]
  refine v_istore hX 5 rfl (Nat.le_of_ble_eq_true rfl) rfl ?_
  refine v_iload hX 6 rfl rfl ?_
  refine v_if_ge hX (tgt := 17) 7 rfl (by decide) (fun c11 => ?_) (fun c11 => absurd (by decide) c11)
  refine v_aload_n hX 0 10 rfl rfl rfl ?_
  refine v_callV hX 0 (by decide) rfl rfl (r_record hk hkk) tw_711 tw_708 tw_710 tw_53 tw_99 (by decide +kernel) ⟨⟨rfl, rfl⟩, Nat.le_of_ble_eq_true rfl, Nat.le_of_ble_eq_true rfl⟩ rfl (Nat.le_of_ble_eq_true rfl) rfl rfl 11 rfl ?_
  refine v_aload_n hX 0 12 rfl rfl rfl ?_
  refine v_iconst hX (v := 1) 13 rfl (by decide) ?_
  refine v_aload_n hX 0 14 rfl rfl rfl ?_
  refine v_iload_n hX 1 15 rfl rfl rfl ?_
  refine v_iconst hX (v := 0) 16 rfl (by decide) ?_
  refine v_callV hX 2 (by decide) rfl rfl (r_its (w := 0) (show i < 24 by omega) (by decide)) tw_757 tw_754 tw_756 tw_60 tw_99 (by decide +kernel) ⟨⟨rfl, rfl⟩, Nat.le_of_ble_eq_true rfl, Nat.le_of_ble_eq_true rfl⟩ rfl (Nat.le_of_ble_eq_true rfl) rfl rfl 17 rfl ?_
  rw [rc_z]
  refine v_isub hX 18 rfl ?_
  refine v_iload_n hX 1 19 rfl rfl rfl ?_
  refine v_iload_n hX 2 20 rfl rfl rfl ?_
  refine v_iload_n hX 3 21 rfl rfl rfl ?_
  refine v_callV hX 4 (by decide) rfl rfl (r_file (show (rcM M k).1 271 3 = nI n by rw [rc_z]; exact hz) hn) tw_733 tw_730 tw_732 tw_55 tw_99 (by decide +kernel) ⟨⟨rfl, rfl⟩, Nat.le_of_ble_eq_true rfl, Nat.le_of_ble_eq_true rfl⟩ rfl (Nat.le_of_ble_eq_true rfl) rfl rfl 22 rfl ?_
  refine v_iret hX hQ rfl rfl ?_ ?_ 23 rfl
  · rfl
  · rfl
set_option maxRecDepth 100000 in
set_option maxHeartbeats 4000000 in
theorem r_withdraw_no {Y : Yt} {M : Mm} {x : Int32} {n : Nat} (hz : M.1 271 3 = nI n) (hx : x < 0 ∨ nI n ≤ x) : Fn Y yX7_withdraw wsX7_withdraw { frames := 5, cells := 0, slots := 0, locals := 107 } [.ref (Y.2.2.2 270), .int x] M (some (.int (-1))) M := by
  refine Fn.of (cc := cX7_withdraw) (ins := iX7_withdraw) (maxL := 3) (ret := (some .int)) (by decide) dX7_withdraw [some (.ref (Y.2.2.2 270)), some (.int x), none] (Nat.le_of_ble_eq_true rfl) rfl rfl ?_
  intro X hX hQ
  refine v_aload_n hX 0 0 rfl rfl rfl ?_
  refine v_iload_n hX 1 1 rfl rfl rfl ?_
  refine v_callV hX 1 (by decide) rfl rfl (r_wnW_no hz hx) tw_765 tw_762 tw_764 tw_61 tw_99 (by decide +kernel) ⟨⟨rfl, rfl⟩, Nat.le_of_ble_eq_true rfl, Nat.le_of_ble_eq_true rfl⟩ rfl (Nat.le_of_ble_eq_true rfl) rfl rfl 2 rfl ?_
  refine v_istore_n hX 2 3 rfl rfl (Nat.le_of_ble_eq_true rfl) rfl ?_
  refine v_iload_n hX 2 4 rfl rfl rfl ?_
  refine v_if_ge hX (tgt := 12) 5 rfl (by decide) (fun c7 => absurd c7 (by decide)) (fun c7 => ?_)
  refine v_iload_n hX 2 6 rfl rfl rfl ?_
  refine v_iret hX hQ rfl rfl ?_ ?_ 7 rfl
  · rfl
  · rfl
set_option maxRecDepth 100000 in
set_option maxHeartbeats 4000000 in
theorem r_withdraw_bad {Y : Yt} {M : Mm} {i : Nat} {n : Nat} (hz : M.1 271 3 = nI n) (hn : n ≤ 24) (hi : i < n) (h : wd1 (M.1 271) i = true) : Fn Y yX7_withdraw wsX7_withdraw { frames := 5, cells := 0, slots := 0, locals := 107 } [.ref (Y.2.2.2 270), .int (nI i)] M (some (.int (-5))) M := by
  refine Fn.of (cc := cX7_withdraw) (ins := iX7_withdraw) (maxL := 3) (ret := (some .int)) (by decide) dX7_withdraw [some (.ref (Y.2.2.2 270)), some (.int (nI i)), none] (Nat.le_of_ble_eq_true rfl) rfl rfl ?_
  intro X hX hQ
  refine v_aload_n hX 0 0 rfl rfl rfl ?_
  refine v_iload_n hX 1 1 rfl rfl rfl ?_
  refine v_callV hX 1 (by decide) rfl rfl (r_wnW hz hn hi) tw_765 tw_762 tw_764 tw_61 tw_99 (by decide +kernel) ⟨⟨rfl, rfl⟩, Nat.le_of_ble_eq_true rfl, Nat.le_of_ble_eq_true rfl⟩ rfl (Nat.le_of_ble_eq_true rfl) rfl rfl 2 rfl ?_
  rw [wnW, if_pos h]
  refine v_istore_n hX 2 3 rfl rfl (Nat.le_of_ble_eq_true rfl) rfl ?_
  refine v_iload_n hX 2 4 rfl rfl rfl ?_
  refine v_if_ge hX (tgt := 12) 5 rfl (by decide) (fun c7 => absurd c7 (by decide)) (fun c7 => ?_)
  refine v_iload_n hX 2 6 rfl rfl rfl ?_
  refine v_iret hX hQ rfl rfl ?_ ?_ 7 rfl
  · rfl
  · rfl
set_option maxRecDepth 100000 in
set_option maxHeartbeats 4000000 in
theorem r_withdraw {Y : Yt} {M : Mm} {i : Nat} {k : Nat} (hk : k ≤ 6) (hkk : M.1 270 4 = nI k) {n : Nat} (hz : M.1 271 3 = nI n) (hn : n ≤ 24) (hw : WF (rp (M.1 271)) n) (hi : i < n) (h : wd1 (M.1 271) i = false) : Fn Y yX7_withdraw wsX7_withdraw { frames := 5, cells := 0, slots := 0, locals := 107 } [.ref (Y.2.2.2 270), .int (nI i)] M (some (.int (nI (cnt (stW (mset (rcM M k) 271 (5 + 7 * i + 6) 1) n) n)))) ((lkM (mset (rcM M k) 271 (5 + 7 * i + 6) 1) n)) := by
  have hzB : (mset (rcM M k) 271 (5 + 7 * i + 6) 1).1 271 3 = nI n := by rw [mset_271 (by omega), rc_z]; exact hz
  have hwB : WF (rp ((mset (rcM M k) 271 (5 + 7 * i + 6) 1).1 271)) n := by rw [mset_s, rc_z]; exact WFr_upd (Or.inr ⟨rfl, Or.inr rfl⟩) hw
  have hzL : (lkM (mset (rcM M k) 271 (5 + 7 * i + 6) 1) n).1 271 3 = nI n := by rw [lk_z]; exact hzB
  refine Fn.of (cc := cX7_withdraw) (ins := iX7_withdraw) (maxL := 3) (ret := (some .int)) (by decide) dX7_withdraw [some (.ref (Y.2.2.2 270)), some (.int (nI i)), none] (Nat.le_of_ble_eq_true rfl) rfl rfl ?_
  intro X hX hQ
  refine v_aload_n hX 0 0 rfl rfl rfl ?_
  refine v_iload_n hX 1 1 rfl rfl rfl ?_
  refine v_callV hX 1 (by decide) rfl rfl (r_wnW hz hn hi) tw_765 tw_762 tw_764 tw_61 tw_99 (by decide +kernel) ⟨⟨rfl, rfl⟩, Nat.le_of_ble_eq_true rfl, Nat.le_of_ble_eq_true rfl⟩ rfl (Nat.le_of_ble_eq_true rfl) rfl rfl 2 rfl ?_
  rw [wnW, if_neg (by rw [h]; decide)]
  refine v_istore_n hX 2 3 rfl rfl (Nat.le_of_ble_eq_true rfl) rfl ?_
  refine v_iload_n hX 2 4 rfl rfl rfl ?_
  refine v_if_ge hX (tgt := 12) 5 rfl (by decide) (fun c7 => ?_) (fun c7 => absurd (by decide) c7)
  refine v_aload_n hX 0 8 rfl rfl rfl ?_
  refine v_callV hX 0 (by decide) rfl rfl (r_record hk hkk) tw_711 tw_708 tw_710 tw_53 tw_99 (by decide +kernel) ⟨⟨rfl, rfl⟩, Nat.le_of_ble_eq_true rfl, Nat.le_of_ble_eq_true rfl⟩ rfl (Nat.le_of_ble_eq_true rfl) rfl rfl 9 rfl ?_
  refine v_aload_n hX 0 10 rfl rfl rfl ?_
  refine v_iload_n hX 1 11 rfl rfl rfl ?_
  refine v_bipush hX (v := 6) 12 rfl (by decide) ?_
  refine v_iconst hX (v := 1) 13 rfl (by decide) ?_
  refine v_callV hX 3 (by decide) rfl rfl (r_lay (w := 6) (show i < 24 by omega) (by decide)) tw_737 tw_734 tw_736 tw_56 tw_99 (by decide +kernel) ⟨⟨rfl, rfl⟩, Nat.le_of_ble_eq_true rfl, Nat.le_of_ble_eq_true rfl⟩ rfl (Nat.le_of_ble_eq_true rfl) rfl rfl 14 rfl ?_
  refine v_aload_n hX 0 15 rfl rfl rfl ?_
  refine v_callV hX 0 (by decide) rfl rfl (r_look hzB hn hwB) tw_769 tw_766 tw_768 tw_62 tw_99 (by decide +kernel) ⟨⟨rfl, rfl⟩, Nat.le_of_ble_eq_true rfl, Nat.le_of_ble_eq_true rfl⟩ rfl (Nat.le_of_ble_eq_true rfl) rfl rfl 16 rfl ?_
  refine v_aload_n hX 0 17 rfl rfl rfl ?_
  refine v_callV hX 0 (by decide) rfl rfl (r_standing hzL hn) tw_793 tw_790 tw_792 tw_68 tw_99 (by decide +kernel) ⟨⟨rfl, rfl⟩, Nat.le_of_ble_eq_true rfl, Nat.le_of_ble_eq_true rfl⟩ rfl (Nat.le_of_ble_eq_true rfl) rfl rfl 18 rfl ?_
  rw [lk_w]
  refine v_callS hX 1 (r_bits hn) tw_796 tw_794 tw_795 tw_99 (by decide +kernel) ⟨⟨rfl, rfl⟩, Nat.le_of_ble_eq_true rfl, Nat.le_of_ble_eq_true rfl⟩ rfl (Nat.le_of_ble_eq_true rfl) rfl rfl 19 rfl ?_
  refine v_iret hX hQ rfl rfl ?_ ?_ 20 rfl
  · rfl
  · rfl
set_option maxRecDepth 100000 in
set_option maxHeartbeats 4000000 in
theorem r_renew_no {Y : Yt} {M : Mm} {x : Int32} {n : Nat} (hz : M.1 271 3 = nI n) (hx : x < 0 ∨ nI n ≤ x) : Fn Y yX7_renew wsX7_renew { frames := 3, cells := 0, slots := 0, locals := 64 } [.ref (Y.2.2.2 270), .int x] M (some (.int (-1))) M := by
  refine Fn.of (cc := cX7_renew) (ins := iX7_renew) (maxL := 4) (ret := (some .int)) (by decide) dX7_renew [some (.ref (Y.2.2.2 270)), some (.int x), none, none] (Nat.le_of_ble_eq_true rfl) rfl rfl ?_
  intro X hX hQ
  refine v_aload_n hX 0 0 rfl rfl rfl ?_
  refine v_iload_n hX 1 1 rfl rfl rfl ?_
  refine v_callV hX 1 (by decide) rfl rfl (r_wnR_no hz hx) tw_804 tw_801 tw_803 tw_69 tw_99 (by decide +kernel) ⟨⟨rfl, rfl⟩, Nat.le_of_ble_eq_true rfl, Nat.le_of_ble_eq_true rfl⟩ rfl (Nat.le_of_ble_eq_true rfl) rfl rfl 2 rfl ?_
  refine v_istore_n hX 2 3 rfl rfl (Nat.le_of_ble_eq_true rfl) rfl ?_
  refine v_iload_n hX 2 4 rfl rfl rfl ?_
  refine v_if_ge hX (tgt := 12) 5 rfl (by decide) (fun c7 => absurd c7 (by decide)) (fun c7 => ?_)
  refine v_iload_n hX 2 6 rfl rfl rfl ?_
  refine v_iret hX hQ rfl rfl ?_ ?_ 7 rfl
  · rfl
  · rfl
set_option maxRecDepth 100000 in
set_option maxHeartbeats 4000000 in
theorem r_renew_bad {Y : Yt} {M : Mm} {i : Nat} {n : Nat} (hz : M.1 271 3 = nI n) (hn : n ≤ 24) (hi : i < n) (h : pCl (rp (M.1 271)) i = true ∨ wd1 (M.1 271) i = true) : Fn Y yX7_renew wsX7_renew { frames := 3, cells := 0, slots := 0, locals := 64 } [.ref (Y.2.2.2 270), .int (nI i)] M (some (.int (-5))) M := by
  refine Fn.of (cc := cX7_renew) (ins := iX7_renew) (maxL := 4) (ret := (some .int)) (by decide) dX7_renew [some (.ref (Y.2.2.2 270)), some (.int (nI i)), none, none] (Nat.le_of_ble_eq_true rfl) rfl rfl ?_
  intro X hX hQ
  refine v_aload_n hX 0 0 rfl rfl rfl ?_
  refine v_iload_n hX 1 1 rfl rfl rfl ?_
  refine v_callV hX 1 (by decide) rfl rfl (r_wnR hz hn hi) tw_804 tw_801 tw_803 tw_69 tw_99 (by decide +kernel) ⟨⟨rfl, rfl⟩, Nat.le_of_ble_eq_true rfl, Nat.le_of_ble_eq_true rfl⟩ rfl (Nat.le_of_ble_eq_true rfl) rfl rfl 2 rfl ?_
  rw [wnR, if_pos h]
  refine v_istore_n hX 2 3 rfl rfl (Nat.le_of_ble_eq_true rfl) rfl ?_
  refine v_iload_n hX 2 4 rfl rfl rfl ?_
  refine v_if_ge hX (tgt := 12) 5 rfl (by decide) (fun c7 => absurd c7 (by decide)) (fun c7 => ?_)
  refine v_iload_n hX 2 6 rfl rfl rfl ?_
  refine v_iret hX hQ rfl rfl ?_ ?_ 7 rfl
  · rfl
  · rfl
set_option maxRecDepth 100000 in
set_option maxHeartbeats 4000000 in
theorem r_renew {Y : Yt} {M : Mm} {i : Nat} {k : Nat} (hk : k ≤ 6) (hkk : M.1 270 4 = nI k) {n : Nat} (hz : M.1 271 3 = nI n) (hn : n ≤ 24) (hi : i < n) (h : ¬ (pCl (rp (M.1 271)) i = true ∨ wd1 (M.1 271) i = true)) : Fn Y yX7_renew wsX7_renew { frames := 3, cells := 0, slots := 0, locals := 64 } [.ref (Y.2.2.2 270), .int (nI i)] M (some (.int (M.1 271 2 - M.1 271 (5 + 7 * i + 3)))) ((mset (rcM M k) 271 (5 + 7 * i + 3) (M.1 271 2))) := by
  refine Fn.of (cc := cX7_renew) (ins := iX7_renew) (maxL := 4) (ret := (some .int)) (by decide) dX7_renew [some (.ref (Y.2.2.2 270)), some (.int (nI i)), none, none] (Nat.le_of_ble_eq_true rfl) rfl rfl ?_
  intro X hX hQ
  refine v_aload_n hX 0 0 rfl rfl rfl ?_
  refine v_iload_n hX 1 1 rfl rfl rfl ?_
  refine v_callV hX 1 (by decide) rfl rfl (r_wnR hz hn hi) tw_804 tw_801 tw_803 tw_69 tw_99 (by decide +kernel) ⟨⟨rfl, rfl⟩, Nat.le_of_ble_eq_true rfl, Nat.le_of_ble_eq_true rfl⟩ rfl (Nat.le_of_ble_eq_true rfl) rfl rfl 2 rfl ?_
  rw [wnR, if_neg h]
  refine v_istore_n hX 2 3 rfl rfl (Nat.le_of_ble_eq_true rfl) rfl ?_
  refine v_iload_n hX 2 4 rfl rfl rfl ?_
  refine v_if_ge hX (tgt := 12) 5 rfl (by decide) (fun c7 => ?_) (fun c7 => absurd (by decide) c7)
  refine v_aload_n hX 0 8 rfl rfl rfl ?_
  refine v_callV hX 0 (by decide) rfl rfl (r_record hk hkk) tw_711 tw_708 tw_710 tw_53 tw_99 (by decide +kernel) ⟨⟨rfl, rfl⟩, Nat.le_of_ble_eq_true rfl, Nat.le_of_ble_eq_true rfl⟩ rfl (Nat.le_of_ble_eq_true rfl) rfl rfl 9 rfl ?_
  refine v_aload_n hX 0 10 rfl rfl rfl ?_
  refine g_7_0 hX 11  tw_646 rfl ?_
  refine v_iconst hX (v := 2) 12 rfl (by decide) ?_
  refine v_iald hX (k := 271) (by decide) rfl (vp_in_nI (n := 2) (by decide) (by decide)) 13 rfl ?_
  rw [rc_z]
  refine v_aload_n hX 0 14 rfl rfl rfl ?_
  refine v_iload_n hX 1 15 rfl rfl rfl ?_
  refine v_iconst hX (v := 3) 16 rfl (by decide) ?_
  refine v_callV hX 2 (by decide) rfl rfl (r_its (w := 3) (show i < 24 by omega) (by decide)) tw_757 tw_754 tw_756 tw_60 tw_99 (by decide +kernel) ⟨⟨rfl, rfl⟩, Nat.le_of_ble_eq_true rfl, Nat.le_of_ble_eq_true rfl⟩ rfl (Nat.le_of_ble_eq_true rfl) rfl rfl 17 rfl ?_
  rw [rc_z]
  refine v_isub hX 18 rfl ?_
  refine v_istore_n hX 3 19 rfl rfl (Nat.le_of_ble_eq_true rfl) rfl ?_
  refine v_aload_n hX 0 20 rfl rfl rfl ?_
  refine v_iload_n hX 1 21 rfl rfl rfl ?_
  refine v_iconst hX (v := 3) 22 rfl (by decide) ?_
  refine v_aload_n hX 0 23 rfl rfl rfl ?_
  refine g_7_0 hX 24  tw_646 rfl ?_
  refine v_iconst hX (v := 2) 25 rfl (by decide) ?_
  refine v_iald hX (k := 271) (by decide) rfl (vp_in_nI (n := 2) (by decide) (by decide)) 26 rfl ?_
  rw [rc_z]
  refine v_callV hX 3 (by decide) rfl rfl (r_lay (w := 3) (show i < 24 by omega) (by decide)) tw_737 tw_734 tw_736 tw_56 tw_99 (by decide +kernel) ⟨⟨rfl, rfl⟩, Nat.le_of_ble_eq_true rfl, Nat.le_of_ble_eq_true rfl⟩ rfl (Nat.le_of_ble_eq_true rfl) rfl rfl 27 rfl ?_
  refine v_iload_n hX 3 28 rfl rfl rfl ?_
  refine v_iret hX hQ rfl rfl ?_ ?_ 29 rfl
  · rfl
  · rfl
set_option maxRecDepth 100000 in
set_option maxHeartbeats 4000000 in
theorem r_overrule_no {Y : Yt} {M : Mm} {w : Int32} (h : inv w 0 9 = false) : Fn Y yX7_overrule wsX7_overrule { frames := 1, cells := 0, slots := 0, locals := 22 } [.ref (Y.2.2.2 270), .int w] M (some (.int (-1))) M := by
  refine Fn.of (cc := cX7_overrule) (ins := iX7_overrule) (maxL := 2) (ret := (some .int)) (by decide) dX7_overrule [some (.ref (Y.2.2.2 270)), some (.int w)] (Nat.le_of_ble_eq_true rfl) rfl rfl ?_
  intro X hX hQ
  refine v_iload_n hX 1 0 rfl rfl rfl ?_
  refine v_iconst hX (v := 0) 1 rfl (by decide) ?_
  refine v_bipush hX (v := 9) 2 rfl (by decide) ?_
  refine v_callS hX 3 (r_in) tw_703 tw_701 tw_702 tw_99 (by decide +kernel) ⟨⟨rfl, rfl⟩, Nat.le_of_ble_eq_true rfl, Nat.le_of_ble_eq_true rfl⟩ rfl (Nat.le_of_ble_eq_true rfl) rfl rfl 3 rfl ?_
  rw [h]
  refine v_if_ne hX (tgt := 12) 4 rfl (by decide) (fun c7 => absurd c7 (fun g => g rfl)) (fun c7 => ?_)
  refine v_iconst hX (v := (-1)) 5 rfl (by decide) ?_
  refine v_iret hX hQ rfl rfl ?_ ?_ 6 rfl
  · rfl
  · rfl
set_option maxRecDepth 100000 in
set_option maxHeartbeats 4000000 in
theorem r_overrule {Y : Yt} {M : Mm} {w : Int32} {k : Nat} (hk : k ≤ 6) (hkk : M.1 270 4 = nI k) (h : inv w 0 9 = true) : Fn Y yX7_overrule wsX7_overrule { frames := 1, cells := 0, slots := 0, locals := 22 } [.ref (Y.2.2.2 270), .int w] M (some (.int (ovR (rcM M k) w))) ((ovM (rcM M k) w)) := by
  refine Fn.of (cc := cX7_overrule) (ins := iX7_overrule) (maxL := 2) (ret := (some .int)) (by decide) dX7_overrule [some (.ref (Y.2.2.2 270)), some (.int w)] (Nat.le_of_ble_eq_true rfl) rfl rfl ?_
  intro X hX hQ
  refine v_iload_n hX 1 0 rfl rfl rfl ?_
  refine v_iconst hX (v := 0) 1 rfl (by decide) ?_
  refine v_bipush hX (v := 9) 2 rfl (by decide) ?_
  refine v_callS hX 3 (r_in) tw_703 tw_701 tw_702 tw_99 (by decide +kernel) ⟨⟨rfl, rfl⟩, Nat.le_of_ble_eq_true rfl, Nat.le_of_ble_eq_true rfl⟩ rfl (Nat.le_of_ble_eq_true rfl) rfl rfl 3 rfl ?_
  rw [h]
  refine v_if_ne hX (tgt := 12) 4 rfl (by decide) (fun c7 => ?_) (fun c7 => absurd c7 (by decide))
  refine v_aload_n hX 0 7 rfl rfl rfl ?_
  refine v_callV hX 0 (by decide) rfl rfl (r_record hk hkk) tw_711 tw_708 tw_710 tw_53 tw_99 (by decide +kernel) ⟨⟨rfl, rfl⟩, Nat.le_of_ble_eq_true rfl, Nat.le_of_ble_eq_true rfl⟩ rfl (Nat.le_of_ble_eq_true rfl) rfl rfl 8 rfl ?_
  refine v_aload_n hX 0 9 rfl rfl rfl ?_
  refine v_iload_n hX 1 10 rfl rfl rfl ?_
  refine v_callV hX 1 (by decide) rfl rfl (r_ovr) tw_812 tw_809 tw_811 tw_70 tw_99 (by decide +kernel) ⟨⟨rfl, rfl⟩, Nat.le_of_ble_eq_true rfl, Nat.le_of_ble_eq_true rfl⟩ rfl (Nat.le_of_ble_eq_true rfl) rfl rfl 11 rfl ?_
  refine v_iret hX hQ rfl rfl ?_ ?_ 12 rfl
  · rfl
  · rfl
set_option maxRecDepth 100000 in
set_option maxHeartbeats 4000000 in
theorem r_pass_bad {Y : Yt} {M : Mm} {d : Int32} (h : wnP (M.1 271) d < 0) : Fn Y yX7_pass wsX7_pass { frames := 5, cells := 0, slots := 0, locals := 107 } [.ref (Y.2.2.2 270), .int d] M (some (.int (wnP (M.1 271) d))) M := by
  refine Fn.of (cc := cX7_pass) (ins := iX7_pass) (maxL := 3) (ret := (some .int)) (by decide) dX7_pass [some (.ref (Y.2.2.2 270)), some (.int d), none] (Nat.le_of_ble_eq_true rfl) rfl rfl ?_
  intro X hX hQ
  refine v_aload_n hX 0 0 rfl rfl rfl ?_
  refine v_iload_n hX 1 1 rfl rfl rfl ?_
  refine v_callV hX 1 (by decide) rfl rfl (r_wnP) tw_820 tw_817 tw_819 tw_71 tw_99 (by decide +kernel) ⟨⟨rfl, rfl⟩, Nat.le_of_ble_eq_true rfl, Nat.le_of_ble_eq_true rfl⟩ rfl (Nat.le_of_ble_eq_true rfl) rfl rfl 2 rfl ?_
  refine v_istore_n hX 2 3 rfl rfl (Nat.le_of_ble_eq_true rfl) rfl ?_
  refine v_iload_n hX 2 4 rfl rfl rfl ?_
  refine v_if_ge hX (tgt := 12) 5 rfl (by decide) (fun c7 => absurd c7 (fun g => by rw [Int32.lt_iff_toInt_lt] at h; rw [Int32.le_iff_toInt_le] at g; omega)) (fun c7 => ?_)
  refine v_iload_n hX 2 6 rfl rfl rfl ?_
  refine v_iret hX hQ rfl rfl ?_ ?_ 7 rfl
  · rfl
  · rfl
set_option maxRecDepth 100000 in
set_option maxHeartbeats 4000000 in
theorem r_pass {Y : Yt} {M : Mm} {d : Int32} {k : Nat} (hk : k ≤ 6) (hkk : M.1 270 4 = nI k) {n : Nat} (hz : M.1 271 3 = nI n) (hn : n ≤ 24) (hw : WF (rp (M.1 271)) n) (h : wnP (M.1 271) d = 0) : Fn Y yX7_pass wsX7_pass { frames := 5, cells := 0, slots := 0, locals := 107 } [.ref (Y.2.2.2 270), .int d] M (some (.int (nI (cnt (stW (mset (rcM M k) 271 2 (M.1 271 2 + d)) n) n)))) ((lkM (mset (rcM M k) 271 2 (M.1 271 2 + d)) n)) := by
  have hzB : (mset (rcM M k) 271 2 (M.1 271 2 + d)).1 271 3 = nI n := by rw [mset_271 (by decide), rc_z]; exact hz
  have hwB : WF (rp ((mset (rcM M k) 271 2 (M.1 271 2 + d)).1 271)) n := by rw [mset_s, rc_z]; exact WFr_hd (by decide) hw
  have hzL : (lkM (mset (rcM M k) 271 2 (M.1 271 2 + d)) n).1 271 3 = nI n := by rw [lk_z]; exact hzB
  refine Fn.of (cc := cX7_pass) (ins := iX7_pass) (maxL := 3) (ret := (some .int)) (by decide) dX7_pass [some (.ref (Y.2.2.2 270)), some (.int d), none] (Nat.le_of_ble_eq_true rfl) rfl rfl ?_
  intro X hX hQ
  refine v_aload_n hX 0 0 rfl rfl rfl ?_
  refine v_iload_n hX 1 1 rfl rfl rfl ?_
  refine v_callV hX 1 (by decide) rfl rfl (r_wnP) tw_820 tw_817 tw_819 tw_71 tw_99 (by decide +kernel) ⟨⟨rfl, rfl⟩, Nat.le_of_ble_eq_true rfl, Nat.le_of_ble_eq_true rfl⟩ rfl (Nat.le_of_ble_eq_true rfl) rfl rfl 2 rfl ?_
  rw [h]
  refine v_istore_n hX 2 3 rfl rfl (Nat.le_of_ble_eq_true rfl) rfl ?_
  refine v_iload_n hX 2 4 rfl rfl rfl ?_
  refine v_if_ge hX (tgt := 12) 5 rfl (by decide) (fun c7 => ?_) (fun c7 => absurd (by decide) c7)
  refine v_aload_n hX 0 8 rfl rfl rfl ?_
  refine v_callV hX 0 (by decide) rfl rfl (r_record hk hkk) tw_711 tw_708 tw_710 tw_53 tw_99 (by decide +kernel) ⟨⟨rfl, rfl⟩, Nat.le_of_ble_eq_true rfl, Nat.le_of_ble_eq_true rfl⟩ rfl (Nat.le_of_ble_eq_true rfl) rfl rfl 9 rfl ?_
  refine v_aload_n hX 0 10 rfl rfl rfl ?_
  refine g_7_0 hX 11  tw_646 rfl ?_
  refine v_iconst hX (v := 2) 12 rfl (by decide) ?_
  refine v_dup2 hX 13 rfl rfl rfl ?_
  refine v_iald hX (k := 271) (by decide) rfl (vp_in_nI (n := 2) (by decide) (by decide)) 14 rfl ?_
  rw [rc_z]
  refine v_iload_n hX 1 15 rfl rfl rfl ?_
  refine v_iadd hX 16 rfl ?_
  refine v_iast hX (k := 271) (by decide) rfl rfl (vp_in_nI (n := 2) (by decide) (by decide)) rfl 17 rfl ?_
  refine V.mem (M2 := (mset (rcM M k) 271 2 (M.1 271 2 + d))) rfl ?_
  refine v_aload_n hX 0 18 rfl rfl rfl ?_
  refine v_callV hX 0 (by decide) rfl rfl (r_look hzB hn hwB) tw_769 tw_766 tw_768 tw_62 tw_99 (by decide +kernel) ⟨⟨rfl, rfl⟩, Nat.le_of_ble_eq_true rfl, Nat.le_of_ble_eq_true rfl⟩ rfl (Nat.le_of_ble_eq_true rfl) rfl rfl 19 rfl ?_
  refine v_aload_n hX 0 20 rfl rfl rfl ?_
  refine v_callV hX 0 (by decide) rfl rfl (r_standing hzL hn) tw_793 tw_790 tw_792 tw_68 tw_99 (by decide +kernel) ⟨⟨rfl, rfl⟩, Nat.le_of_ble_eq_true rfl, Nat.le_of_ble_eq_true rfl⟩ rfl (Nat.le_of_ble_eq_true rfl) rfl rfl 21 rfl ?_
  rw [lk_w]
  refine v_callS hX 1 (r_bits hn) tw_796 tw_794 tw_795 tw_99 (by decide +kernel) ⟨⟨rfl, rfl⟩, Nat.le_of_ble_eq_true rfl, Nat.le_of_ble_eq_true rfl⟩ rfl (Nat.le_of_ble_eq_true rfl) rfl rfl 22 rfl ?_
  refine v_iret hX hQ rfl rfl ?_ ?_ 23 rfl
  · rfl
  · rfl
set_option maxRecDepth 100000 in
set_option maxHeartbeats 4000000 in
theorem r_of_no {Y : Yt} {M : Mm} {n : Nat} {x w : Int32} (hz : M.1 271 3 = nI n) (hx : x < 0 ∨ nI n ≤ x) : Fn Y yX7_of wsX7_of { frames := 5, cells := 0, slots := 0, locals := 107 } [.ref (Y.2.2.2 270), .int x, .int w] M (some (.int (-1))) M := by
  refine Fn.of (cc := cX7_of) (ins := iX7_of) (maxL := 3) (ret := (some .int)) (by decide) dX7_of [some (.ref (Y.2.2.2 270)), some (.int x), some (.int w)] (Nat.le_of_ble_eq_true rfl) rfl rfl ?_
  intro X hX hQ
  refine v_aload_n hX 0 0 rfl rfl rfl ?_
  refine v_iload_n hX 1 1 rfl rfl rfl ?_
  refine v_callV hX 1 (by decide) rfl rfl (r_isPoint_no hz hx) tw_749 tw_746 tw_748 tw_58 tw_99 (by decide +kernel) ⟨⟨rfl, rfl⟩, Nat.le_of_ble_eq_true rfl, Nat.le_of_ble_eq_true rfl⟩ rfl (Nat.le_of_ble_eq_true rfl) rfl rfl 2 rfl ?_
  refine v_if_ne hX (tgt := 10) 3 rfl (by decide) (fun c5 => absurd c5 (fun g => g rfl)) (fun c5 => ?_)
  refine v_iconst hX (v := (-1)) 4 rfl (by decide) ?_
  refine v_iret hX hQ rfl rfl ?_ ?_ 5 rfl
  · rfl
  · rfl
set_option maxRecDepth 100000 in
set_option maxHeartbeats 4000000 in
theorem r_of {Y : Yt} {M : Mm} {i : Nat} {w : Int32} {n : Nat} (hz : M.1 271 3 = nI n) (hn : n ≤ 24) (hw : WF (rp (M.1 271)) n) (hi : i < n) : Fn Y yX7_of wsX7_of { frames := 5, cells := 0, slots := 0, locals := 107 } [.ref (Y.2.2.2 270), .int (nI i), .int w] M (some (.int (roR M n i w))) ((lkM M n)) := by
  have hzL : (lkM M n).1 271 3 = nI n := by rw [lk_z]; exact hz
  have hwL : WF (rp ((lkM M n).1 271)) n := by rw [lk_z]; exact hw
  refine Fn.of (cc := cX7_of) (ins := iX7_of) (maxL := 3) (ret := (some .int)) (by decide) dX7_of [some (.ref (Y.2.2.2 270)), some (.int (nI i)), some (.int w)] (Nat.le_of_ble_eq_true rfl) rfl rfl ?_
  intro X hX hQ
  refine v_aload_n hX 0 0 rfl rfl rfl ?_
  refine v_iload_n hX 1 1 rfl rfl rfl ?_
  refine v_callV hX 1 (by decide) rfl rfl (r_isPoint hz hn hi) tw_749 tw_746 tw_748 tw_58 tw_99 (by decide +kernel) ⟨⟨rfl, rfl⟩, Nat.le_of_ble_eq_true rfl, Nat.le_of_ble_eq_true rfl⟩ rfl (Nat.le_of_ble_eq_true rfl) rfl rfl 2 rfl ?_
  refine v_if_ne hX (tgt := 10) 3 rfl (by decide) (fun c5 => ?_) (fun c5 => absurd c5 (by decide))
  refine v_aload_n hX 0 6 rfl rfl rfl ?_
  refine v_callV hX 0 (by decide) rfl rfl (r_look hz hn hw) tw_769 tw_766 tw_768 tw_62 tw_99 (by decide +kernel) ⟨⟨rfl, rfl⟩, Nat.le_of_ble_eq_true rfl, Nat.le_of_ble_eq_true rfl⟩ rfl (Nat.le_of_ble_eq_true rfl) rfl rfl 7 rfl ?_
  refine v_iload_n hX 2 8 rfl rfl rfl ?_
  rcases sw11 w with hc | hc | hc | hc | hc | hc | hc | hc | hc | hc | hc | hc
  · skip
    subst hc
    refine v_tableIn hX (off := 57) (tgt := 72) 9 rfl (by decide) (by decide) (by decide) (by decide) ?_
    refine v_aload_n hX 0 10 rfl rfl rfl ?_
    refine v_iload_n hX 1 11 rfl rfl rfl ?_
    refine v_iload_n hX 2 12 rfl rfl rfl ?_
    refine v_callV hX 2 (by decide) rfl rfl (r_its (w := 0) (show i < 24 by omega) (by decide)) tw_757 tw_754 tw_756 tw_60 tw_99 (by decide +kernel) ⟨⟨rfl, rfl⟩, Nat.le_of_ble_eq_true rfl, Nat.le_of_ble_eq_true rfl⟩ rfl (Nat.le_of_ble_eq_true rfl) rfl rfl 13 rfl ?_
    rw [lk_z]
    refine v_iret hX hQ rfl rfl ?_ ?_ 14 rfl
    · simp (decide := true) only [roR, if_true, if_false]
    · rfl
  · skip
    subst hc
    refine v_tableIn hX (off := 57) (tgt := 72) 9 rfl (by decide) (by decide) (by decide) (by decide) ?_
    refine v_aload_n hX 0 10 rfl rfl rfl ?_
    refine v_iload_n hX 1 11 rfl rfl rfl ?_
    refine v_iload_n hX 2 12 rfl rfl rfl ?_
    refine v_callV hX 2 (by decide) rfl rfl (r_its (w := 1) (show i < 24 by omega) (by decide)) tw_757 tw_754 tw_756 tw_60 tw_99 (by decide +kernel) ⟨⟨rfl, rfl⟩, Nat.le_of_ble_eq_true rfl, Nat.le_of_ble_eq_true rfl⟩ rfl (Nat.le_of_ble_eq_true rfl) rfl rfl 13 rfl ?_
    rw [lk_z]
    refine v_iret hX hQ rfl rfl ?_ ?_ 14 rfl
    · simp (decide := true) only [roR, if_true, if_false]
    · rfl
  · skip
    subst hc
    refine v_tableIn hX (off := 57) (tgt := 72) 9 rfl (by decide) (by decide) (by decide) (by decide) ?_
    refine v_aload_n hX 0 10 rfl rfl rfl ?_
    refine v_iload_n hX 1 11 rfl rfl rfl ?_
    refine v_iload_n hX 2 12 rfl rfl rfl ?_
    refine v_callV hX 2 (by decide) rfl rfl (r_its (w := 2) (show i < 24 by omega) (by decide)) tw_757 tw_754 tw_756 tw_60 tw_99 (by decide +kernel) ⟨⟨rfl, rfl⟩, Nat.le_of_ble_eq_true rfl, Nat.le_of_ble_eq_true rfl⟩ rfl (Nat.le_of_ble_eq_true rfl) rfl rfl 13 rfl ?_
    rw [lk_z]
    refine v_iret hX hQ rfl rfl ?_ ?_ 14 rfl
    · simp (decide := true) only [roR, if_true, if_false]
    · rfl
  · skip
    subst hc
    refine v_tableIn hX (off := 64) (tgt := 79) 9 rfl (by decide) (by decide) (by decide) (by decide) ?_
    refine v_aload_n hX 0 15 rfl rfl rfl ?_
    refine v_iload_n hX 1 16 rfl rfl rfl ?_
    refine v_iload_n hX 2 17 rfl rfl rfl ?_
    refine v_iconst hX (v := 1) 18 rfl (by decide) ?_
    refine v_iadd hX 19 rfl ?_
    refine v_callV hX 2 (by decide) rfl rfl (r_its (w := 4) (show i < 24 by omega) (by decide)) tw_757 tw_754 tw_756 tw_60 tw_99 (by decide +kernel) ⟨⟨rfl, rfl⟩, Nat.le_of_ble_eq_true rfl, Nat.le_of_ble_eq_true rfl⟩ rfl (Nat.le_of_ble_eq_true rfl) rfl rfl 20 rfl ?_
    rw [lk_z]
    refine v_iret hX hQ rfl rfl ?_ ?_ 21 rfl
    · simp (decide := true) only [roR, if_true, if_false]
    · rfl
  · skip
    subst hc
    refine v_tableIn hX (off := 64) (tgt := 79) 9 rfl (by decide) (by decide) (by decide) (by decide) ?_
    refine v_aload_n hX 0 15 rfl rfl rfl ?_
    refine v_iload_n hX 1 16 rfl rfl rfl ?_
    refine v_iload_n hX 2 17 rfl rfl rfl ?_
    refine v_iconst hX (v := 1) 18 rfl (by decide) ?_
    refine v_iadd hX 19 rfl ?_
    refine v_callV hX 2 (by decide) rfl rfl (r_its (w := 5) (show i < 24 by omega) (by decide)) tw_757 tw_754 tw_756 tw_60 tw_99 (by decide +kernel) ⟨⟨rfl, rfl⟩, Nat.le_of_ble_eq_true rfl, Nat.le_of_ble_eq_true rfl⟩ rfl (Nat.le_of_ble_eq_true rfl) rfl rfl 20 rfl ?_
    rw [lk_z]
    refine v_iret hX hQ rfl rfl ?_ ?_ 21 rfl
    · simp (decide := true) only [roR, if_true, if_false]
    · rfl
  · skip
    subst hc
    refine v_tableIn hX (off := 73) (tgt := 88) 9 rfl (by decide) (by decide) (by decide) (by decide) ?_
    refine v_aload_n hX 0 22 rfl rfl rfl ?_
    refine g_7_7 hX 23  tw_653 rfl ?_
    refine v_iload_n hX 1 24 rfl rfl rfl ?_
    refine v_iald hX (k := 276) (by decide) rfl (vp_in_nI (by omega) (by decide)) 25 rfl ?_
    rw [nI_clamp (by omega), lk_w]
    refine v_if_ne hX (tgt := 101) 26 rfl (by decide) (fun c94 => ?_) (fun c94 => ?_)
    · skip
      refine v_iconst hX (v := 0) 29 rfl (by decide) ?_
      refine v_iret hX hQ rfl rfl ?_ ?_ 30 rfl
      · simp (decide := true) only [roR, c94, if_true, if_false]
      · rfl
    · skip
      refine v_iconst hX (v := 1) 27 rfl (by decide) ?_
      refine v_goto hX (tgt := 102) 28 rfl (by decide) ?_
      refine v_iret hX hQ rfl rfl ?_ ?_ 30 rfl
      · simp (decide := true) only [roR, c94, if_true, if_false]
      · rfl
  · skip
    subst hc
    refine v_tableIn hX (off := 88) (tgt := 103) 9 rfl (by decide) (by decide) (by decide) (by decide) ?_
    refine v_aload_n hX 0 31 rfl rfl rfl ?_
    refine g_7_7 hX 32  tw_653 rfl ?_
    refine v_iload_n hX 1 33 rfl rfl rfl ?_
    refine v_iald hX (k := 276) (by decide) rfl (vp_in_nI (by omega) (by decide)) 34 rfl ?_
    rw [nI_clamp (by omega), lk_w]
    refine v_iret hX hQ rfl rfl ?_ ?_ 35 rfl
    · simp (decide := true) only [roR, if_true, if_false]
    · rfl
  · skip
    subst hc
    refine v_tableIn hX (off := 95) (tgt := 110) 9 rfl (by decide) (by decide) (by decide) (by decide) ?_
    refine v_aload_n hX 0 36 rfl rfl rfl ?_
    refine v_iload_n hX 1 37 rfl rfl rfl ?_
    refine v_callV hX 1 (by decide) rfl rfl (r_lowest hzL hn hi) tw_828 tw_825 tw_827 tw_72 tw_99 (by decide +kernel) ⟨⟨rfl, rfl⟩, Nat.le_of_ble_eq_true rfl, Nat.le_of_ble_eq_true rfl⟩ rfl (Nat.le_of_ble_eq_true rfl) rfl rfl 38 rfl ?_
    rw [lk_w, lk_z]
    refine v_iret hX hQ rfl rfl ?_ ?_ 39 rfl
    · simp (decide := true) only [roR, if_true, if_false]
    · rfl
  · skip
    subst hc
    refine v_tableIn hX (off := 101) (tgt := 116) 9 rfl (by decide) (by decide) (by decide) (by decide) ?_
    refine v_aload_n hX 0 40 rfl rfl rfl ?_
    refine v_iload_n hX 1 41 rfl rfl rfl ?_
    refine v_callV hX 1 (by decide) rfl rfl (r_answersTo hzL hn) tw_832 tw_829 tw_831 tw_73 tw_99 (by decide +kernel) ⟨⟨rfl, rfl⟩, Nat.le_of_ble_eq_true rfl, Nat.le_of_ble_eq_true rfl⟩ rfl (Nat.le_of_ble_eq_true rfl) rfl rfl 42 rfl ?_
    rw [lk_z]
    refine v_iret hX hQ rfl rfl ?_ ?_ 43 rfl
    · simp (decide := true) only [roR, if_true, if_false]
    · rfl
  · skip
    subst hc
    refine v_tableIn hX (off := 107) (tgt := 122) 9 rfl (by decide) (by decide) (by decide) (by decide) ?_
    refine v_aload_n hX 0 44 rfl rfl rfl ?_
    refine v_iload_n hX 1 45 rfl rfl rfl ?_
    refine v_callV hX 1 (by decide) rfl rfl (r_depth hzL hn hwL hi) tw_836 tw_833 tw_835 tw_74 tw_99 (by decide +kernel) ⟨⟨rfl, rfl⟩, Nat.le_of_ble_eq_true rfl, Nat.le_of_ble_eq_true rfl⟩ rfl (Nat.le_of_ble_eq_true rfl) rfl rfl 46 rfl ?_
    rw [lk_z]
    refine v_iret hX hQ rfl rfl ?_ ?_ 47 rfl
    · simp (decide := true) only [roR, if_true, if_false]
    · rfl
  · skip
    subst hc
    refine v_tableIn hX (off := 113) (tgt := 128) 9 rfl (by decide) (by decide) (by decide) (by decide) ?_
    refine v_aload_n hX 0 48 rfl rfl rfl ?_
    refine v_iload_n hX 1 49 rfl rfl rfl ?_
    refine v_callV hX 1 (by decide) rfl rfl (r_daysYet (show i < 24 by omega)) tw_840 tw_837 tw_839 tw_75 tw_99 (by decide +kernel) ⟨⟨rfl, rfl⟩, Nat.le_of_ble_eq_true rfl, Nat.le_of_ble_eq_true rfl⟩ rfl (Nat.le_of_ble_eq_true rfl) rfl rfl 50 rfl ?_
    rw [lk_z]
    refine v_iret hX hQ rfl rfl ?_ ?_ 51 rfl
    · simp (decide := true) only [roR, if_true, if_false]
    · rfl
  · skip
    have hne : ∀ c : Nat, c ≤ 10 → ¬ w = nI c := fun c h9 => sw_ne (m := 10) hc h9 (by decide)
    refine v_tableOut hX (tgt := 134) 9 rfl hc (by decide) ?_
    refine v_bipush hX (v := (-2)) 52 rfl (by decide) ?_
    refine v_iret hX hQ rfl rfl ?_ ?_ 53 rfl
    · unfold roR; rw [if_neg (show ¬ w = 0 from hne 0 (by decide)), if_neg (show ¬ w = 1 from hne 1 (by decide)), if_neg (show ¬ w = 2 from hne 2 (by decide)), if_neg (show ¬ w = 3 from hne 3 (by decide)), if_neg (show ¬ w = 4 from hne 4 (by decide)), if_neg (show ¬ w = 5 from hne 5 (by decide)), if_neg (show ¬ w = 6 from hne 6 (by decide)), if_neg (show ¬ w = 7 from hne 7 (by decide)), if_neg (show ¬ w = 8 from hne 8 (by decide)), if_neg (show ¬ w = 9 from hne 9 (by decide)), if_neg (show ¬ w = 10 from hne 10 (by decide))]
    · rfl
set_option maxRecDepth 100000 in
set_option maxHeartbeats 4000000 in
theorem r_count {Y : Yt} {M : Mm} {w : Int32} {n : Nat} (hz : M.1 271 3 = nI n) (hn : n ≤ 24) (hw : WF (rp (M.1 271)) n) : Fn Y yX7_count wsX7_count { frames := 5, cells := 0, slots := 0, locals := 107 } [.ref (Y.2.2.2 270), .int w] M (some (.int (rcR M n w))) ((lkM M n)) := by
  have hzL : (lkM M n).1 271 3 = nI n := by rw [lk_z]; exact hz
  have hwL : WF (rp ((lkM M n).1 271)) n := by rw [lk_z]; exact hw
  refine Fn.of (cc := cX7_count) (ins := iX7_count) (maxL := 2) (ret := (some .int)) (by decide) dX7_count [some (.ref (Y.2.2.2 270)), some (.int w)] (Nat.le_of_ble_eq_true rfl) rfl rfl ?_
  intro X hX hQ
  refine v_aload_n hX 0 0 rfl rfl rfl ?_
  refine v_callV hX 0 (by decide) rfl rfl (r_look hz hn hw) tw_769 tw_766 tw_768 tw_62 tw_99 (by decide +kernel) ⟨⟨rfl, rfl⟩, Nat.le_of_ble_eq_true rfl, Nat.le_of_ble_eq_true rfl⟩ rfl (Nat.le_of_ble_eq_true rfl) rfl rfl 1 rfl ?_
  refine v_iload_n hX 1 2 rfl rfl rfl ?_
  rcases sw14 w with hc | hc | hc | hc | hc | hc | hc | hc | hc | hc | hc | hc | hc | hc | hc
  · skip
    subst hc
    refine v_tableIn hX (off := 71) (tgt := 76) 3 rfl (by decide) (by decide) (by decide) (by decide) ?_
    refine v_aload_n hX 0 4 rfl rfl rfl ?_
    refine g_7_0 hX 5  tw_646 rfl ?_
    refine v_iconst hX (v := 2) 6 rfl (by decide) ?_
    refine v_iald hX (k := 271) (by decide) rfl (vp_in_nI (n := 2) (by decide) (by decide)) 7 rfl ?_
    rw [lk_z]
    refine v_iret hX hQ rfl rfl ?_ ?_ 8 rfl
    · first | rfl | simp (decide := true) only [rcR, if_true, if_false]
    · rfl
  · skip
    subst hc
    refine v_tableIn hX (off := 78) (tgt := 83) 3 rfl (by decide) (by decide) (by decide) (by decide) ?_
    refine v_aload_n hX 0 9 rfl rfl rfl ?_
    refine g_7_0 hX 10  tw_646 rfl ?_
    refine v_iconst hX (v := 3) 11 rfl (by decide) ?_
    refine v_iald hX (k := 271) (by decide) rfl (vp_in_nI (n := 3) (by decide) (by decide)) 12 rfl ?_
    rw [lk_z]
    refine v_iret hX hQ rfl rfl ?_ ?_ 13 rfl
    · first | rfl | simp (decide := true) only [rcR, if_true, if_false]
    · rfl
  · skip
    subst hc
    refine v_tableIn hX (off := 85) (tgt := 90) 3 rfl (by decide) (by decide) (by decide) (by decide) ?_
    refine v_aload_n hX 0 14 rfl rfl rfl ?_
    refine v_callV hX 0 (by decide) rfl rfl (r_claims hzL hn) tw_848 tw_845 tw_847 tw_76 tw_99 (by decide +kernel) ⟨⟨rfl, rfl⟩, Nat.le_of_ble_eq_true rfl, Nat.le_of_ble_eq_true rfl⟩ rfl (Nat.le_of_ble_eq_true rfl) rfl rfl 15 rfl ?_
    rw [lk_z]
    refine v_callS hX 1 (r_bits hn) tw_796 tw_794 tw_795 tw_99 (by decide +kernel) ⟨⟨rfl, rfl⟩, Nat.le_of_ble_eq_true rfl, Nat.le_of_ble_eq_true rfl⟩ rfl (Nat.le_of_ble_eq_true rfl) rfl rfl 16 rfl ?_
    refine v_iret hX hQ rfl rfl ?_ ?_ 17 rfl
    · first | rfl | simp (decide := true) only [rcR, if_true, if_false]
    · rfl
  · skip
    subst hc
    refine v_tableIn hX (off := 93) (tgt := 98) 3 rfl (by decide) (by decide) (by decide) (by decide) ?_
    refine v_aload_n hX 0 18 rfl rfl rfl ?_
    refine v_callV hX 0 (by decide) rfl rfl (r_standing hzL hn) tw_793 tw_790 tw_792 tw_68 tw_99 (by decide +kernel) ⟨⟨rfl, rfl⟩, Nat.le_of_ble_eq_true rfl, Nat.le_of_ble_eq_true rfl⟩ rfl (Nat.le_of_ble_eq_true rfl) rfl rfl 19 rfl ?_
    rw [lk_w]
    refine v_callS hX 1 (r_bits hn) tw_796 tw_794 tw_795 tw_99 (by decide +kernel) ⟨⟨rfl, rfl⟩, Nat.le_of_ble_eq_true rfl, Nat.le_of_ble_eq_true rfl⟩ rfl (Nat.le_of_ble_eq_true rfl) rfl rfl 20 rfl ?_
    refine v_iret hX hQ rfl rfl ?_ ?_ 21 rfl
    · first | rfl | simp (decide := true) only [rcR, if_true, if_false]
    · rfl
  · skip
    subst hc
    refine v_tableIn hX (off := 101) (tgt := 106) 3 rfl (by decide) (by decide) (by decide) (by decide) ?_
    refine v_aload_n hX 0 22 rfl rfl rfl ?_
    refine v_callV hX 0 (by decide) rfl rfl (r_standing hzL hn) tw_793 tw_790 tw_792 tw_68 tw_99 (by decide +kernel) ⟨⟨rfl, rfl⟩, Nat.le_of_ble_eq_true rfl, Nat.le_of_ble_eq_true rfl⟩ rfl (Nat.le_of_ble_eq_true rfl) rfl rfl 23 rfl ?_
    rw [lk_w]
    refine v_aload_n hX 0 24 rfl rfl rfl ?_
    refine v_callV hX 0 (by decide) rfl rfl (r_claims hzL hn) tw_848 tw_845 tw_847 tw_76 tw_99 (by decide +kernel) ⟨⟨rfl, rfl⟩, Nat.le_of_ble_eq_true rfl, Nat.le_of_ble_eq_true rfl⟩ rfl (Nat.le_of_ble_eq_true rfl) rfl rfl 25 rfl ?_
    rw [lk_z]
    refine v_iand hX 26 rfl ?_
    rw [mk_and _ _ (by omega)]
    refine v_callS hX 1 (r_bits hn) tw_796 tw_794 tw_795 tw_99 (by decide +kernel) ⟨⟨rfl, rfl⟩, Nat.le_of_ble_eq_true rfl, Nat.le_of_ble_eq_true rfl⟩ rfl (Nat.le_of_ble_eq_true rfl) rfl rfl 27 rfl ?_
    refine v_iret hX hQ rfl rfl ?_ ?_ 28 rfl
    · first | rfl | simp (decide := true) only [rcR, if_true, if_false]
    · rfl
  · skip
    subst hc
    refine v_tableIn hX (off := 114) (tgt := 119) 3 rfl (by decide) (by decide) (by decide) (by decide) ?_
    refine v_aload_n hX 0 29 rfl rfl rfl ?_
    refine v_callV hX 0 (by decide) rfl rfl (r_outOnes hzL hn) tw_852 tw_849 tw_851 tw_77 tw_99 (by decide +kernel) ⟨⟨rfl, rfl⟩, Nat.le_of_ble_eq_true rfl, Nat.le_of_ble_eq_true rfl⟩ rfl (Nat.le_of_ble_eq_true rfl) rfl rfl 30 rfl ?_
    rw [lk_w]
    refine v_callS hX 1 (r_bits hn) tw_796 tw_794 tw_795 tw_99 (by decide +kernel) ⟨⟨rfl, rfl⟩, Nat.le_of_ble_eq_true rfl, Nat.le_of_ble_eq_true rfl⟩ rfl (Nat.le_of_ble_eq_true rfl) rfl rfl 31 rfl ?_
    refine v_iret hX hQ rfl rfl ?_ ?_ 32 rfl
    · first | rfl | simp (decide := true) only [rcR, if_true, if_false]
    · rfl
  · skip
    subst hc
    refine v_tableIn hX (off := 122) (tgt := 127) 3 rfl (by decide) (by decide) (by decide) (by decide) ?_
    refine v_aload_n hX 0 33 rfl rfl rfl ?_
    refine v_callV hX 0 (by decide) rfl rfl (r_answered hzL hn) tw_856 tw_853 tw_855 tw_78 tw_99 (by decide +kernel) ⟨⟨rfl, rfl⟩, Nat.le_of_ble_eq_true rfl, Nat.le_of_ble_eq_true rfl⟩ rfl (Nat.le_of_ble_eq_true rfl) rfl rfl 34 rfl ?_
    rw [lk_w]
    refine v_callS hX 1 (r_bits hn) tw_796 tw_794 tw_795 tw_99 (by decide +kernel) ⟨⟨rfl, rfl⟩, Nat.le_of_ble_eq_true rfl, Nat.le_of_ble_eq_true rfl⟩ rfl (Nat.le_of_ble_eq_true rfl) rfl rfl 35 rfl ?_
    refine v_iret hX hQ rfl rfl ?_ ?_ 36 rfl
    · first | rfl | simp (decide := true) only [rcR, if_true, if_false]
    · rfl
  · skip
    subst hc
    refine v_tableIn hX (off := 130) (tgt := 135) 3 rfl (by decide) (by decide) (by decide) (by decide) ?_
    refine v_aload_n hX 0 37 rfl rfl rfl ?_
    refine g_7_8 hX 38  tw_654 rfl ?_
    refine v_iload_n hX 1 39 rfl rfl rfl ?_
    refine v_bipush hX (v := 7) 40 rfl (by decide) ?_
    refine v_isub hX 41 rfl ?_
    refine v_iald hX (k := 277) (by decide) rfl (by unfold vp_in; decide) 42 rfl ?_
    rw [lk_t]
    refine v_iret hX hQ rfl rfl ?_ ?_ 43 rfl
    · first | rfl | simp (decide := true) only [rcR, if_true, if_false]
    · rfl
  · skip
    subst hc
    refine v_tableIn hX (off := 130) (tgt := 135) 3 rfl (by decide) (by decide) (by decide) (by decide) ?_
    refine v_aload_n hX 0 37 rfl rfl rfl ?_
    refine g_7_8 hX 38  tw_654 rfl ?_
    refine v_iload_n hX 1 39 rfl rfl rfl ?_
    refine v_bipush hX (v := 7) 40 rfl (by decide) ?_
    refine v_isub hX 41 rfl ?_
    refine v_iald hX (k := 277) (by decide) rfl (by unfold vp_in; decide) 42 rfl ?_
    rw [lk_t]
    refine v_iret hX hQ rfl rfl ?_ ?_ 43 rfl
    · first | rfl | simp (decide := true) only [rcR, if_true, if_false]
    · rfl
  · skip
    subst hc
    refine v_tableIn hX (off := 140) (tgt := 145) 3 rfl (by decide) (by decide) (by decide) (by decide) ?_
    refine v_aload_n hX 0 44 rfl rfl rfl ?_
    refine g_7_0 hX 45  tw_646 rfl ?_
    refine v_iconst hX (v := 4) 46 rfl (by decide) ?_
    refine v_iald hX (k := 271) (by decide) rfl (vp_in_nI (n := 4) (by decide) (by decide)) 47 rfl ?_
    rw [lk_z]
    refine v_iret hX hQ rfl rfl ?_ ?_ 48 rfl
    · first | rfl | simp (decide := true) only [rcR, if_true, if_false]
    · rfl
  · skip
    subst hc
    refine v_tableIn hX (off := 147) (tgt := 152) 3 rfl (by decide) (by decide) (by decide) (by decide) ?_
    refine v_aload_n hX 0 49 rfl rfl rfl ?_
    refine g_7_0 hX 50  tw_646 rfl ?_
    refine v_iload_n hX 1 51 rfl rfl rfl ?_
    refine v_bipush hX (v := 10) 52 rfl (by decide) ?_
    refine v_isub hX 53 rfl ?_
    refine v_iald hX (k := 271) (by decide) rfl (by unfold vp_in; decide) 54 rfl ?_
    rw [lk_z]
    refine v_iret hX hQ rfl rfl ?_ ?_ 55 rfl
    · first | rfl | simp (decide := true) only [rcR, if_true, if_false]
    · rfl
  · skip
    subst hc
    refine v_tableIn hX (off := 147) (tgt := 152) 3 rfl (by decide) (by decide) (by decide) (by decide) ?_
    refine v_aload_n hX 0 49 rfl rfl rfl ?_
    refine g_7_0 hX 50  tw_646 rfl ?_
    refine v_iload_n hX 1 51 rfl rfl rfl ?_
    refine v_bipush hX (v := 10) 52 rfl (by decide) ?_
    refine v_isub hX 53 rfl ?_
    refine v_iald hX (k := 271) (by decide) rfl (by unfold vp_in; decide) 54 rfl ?_
    rw [lk_z]
    refine v_iret hX hQ rfl rfl ?_ ?_ 55 rfl
    · first | rfl | simp (decide := true) only [rcR, if_true, if_false]
    · rfl
  · skip
    subst hc
    refine v_tableIn hX (off := 157) (tgt := 162) 3 rfl (by decide) (by decide) (by decide) (by decide) ?_
    refine v_aload_n hX 0 56 rfl rfl rfl ?_
    refine g_7_6 hX 57  tw_652 rfl ?_
    rw [lk_n (by decide)]
    refine v_iret hX hQ rfl rfl ?_ ?_ 58 rfl
    · first | rfl | simp (decide := true) only [rcR, if_true, if_false]
    · rfl
  · skip
    subst hc
    refine v_tableIn hX (off := 162) (tgt := 167) 3 rfl (by decide) (by decide) (by decide) (by decide) ?_
    refine v_aload_n hX 0 59 rfl rfl rfl ?_
    refine g_7_4 hX 60  tw_650 rfl ?_
    rw [lk_n (by decide)]
    refine v_iret hX hQ rfl rfl ?_ ?_ 61 rfl
    · first | rfl | simp (decide := true) only [rcR, if_true, if_false]
    · rfl
  · skip
    have hne : ∀ c : Nat, c ≤ 13 → ¬ w = nI c := fun c h9 => sw_ne (m := 13) hc h9 (by decide)
    refine v_tableOut hX (tgt := 172) 3 rfl hc (by decide) ?_
    refine v_bipush hX (v := (-2)) 62 rfl (by decide) ?_
    refine v_iret hX hQ rfl rfl ?_ ?_ 63 rfl
    · unfold rcR; rw [if_neg (show ¬ w = 0 from hne 0 (by decide)), if_neg (show ¬ w = 1 from hne 1 (by decide)), if_neg (show ¬ w = 2 from hne 2 (by decide)), if_neg (show ¬ w = 3 from hne 3 (by decide)), if_neg (show ¬ w = 4 from hne 4 (by decide)), if_neg (show ¬ w = 5 from hne 5 (by decide)), if_neg (show ¬ w = 6 from hne 6 (by decide)), if_neg (show ¬ w = 7 from hne 7 (by decide)), if_neg (show ¬ w = 8 from hne 8 (by decide)), if_neg (show ¬ w = 9 from hne 9 (by decide)), if_neg (show ¬ w = 10 from hne 10 (by decide)), if_neg (show ¬ w = 11 from hne 11 (by decide)), if_neg (show ¬ w = 12 from hne 12 (by decide)), if_neg (show ¬ w = 13 from hne 13 (by decide))]
    · rfl
set_option maxRecDepth 100000 in
set_option maxHeartbeats 4000000 in
theorem r_points {Y : Yt} {M : Mm} {w : Int32} {n : Nat} (hz : M.1 271 3 = nI n) (hn : n ≤ 24) (hw : WF (rp (M.1 271)) n) : Fn Y yX7_points wsX7_points { frames := 5, cells := 0, slots := 0, locals := 107 } [.ref (Y.2.2.2 270), .int w] M (some (.int (rpR M n w))) ((lkM M n)) := by
  have hzL : (lkM M n).1 271 3 = nI n := by rw [lk_z]; exact hz
  have hwL : WF (rp ((lkM M n).1 271)) n := by rw [lk_z]; exact hw
  refine Fn.of (cc := cX7_points) (ins := iX7_points) (maxL := 2) (ret := (some .int)) (by decide) dX7_points [some (.ref (Y.2.2.2 270)), some (.int w)] (Nat.le_of_ble_eq_true rfl) rfl rfl ?_
  intro X hX hQ
  refine v_aload_n hX 0 0 rfl rfl rfl ?_
  refine v_callV hX 0 (by decide) rfl rfl (r_look hz hn hw) tw_769 tw_766 tw_768 tw_62 tw_99 (by decide +kernel) ⟨⟨rfl, rfl⟩, Nat.le_of_ble_eq_true rfl, Nat.le_of_ble_eq_true rfl⟩ rfl (Nat.le_of_ble_eq_true rfl) rfl rfl 1 rfl ?_
  refine v_iload_n hX 1 2 rfl rfl rfl ?_
  rcases sw6 w with hc | hc | hc | hc | hc | hc | hc
  · skip
    subst hc
    refine v_tableIn hX (off := 39) (tgt := 44) 3 rfl (by decide) (by decide) (by decide) (by decide) ?_
    refine v_aload_n hX 0 4 rfl rfl rfl ?_
    refine v_callV hX 0 (by decide) rfl rfl (r_standing hzL hn) tw_793 tw_790 tw_792 tw_68 tw_99 (by decide +kernel) ⟨⟨rfl, rfl⟩, Nat.le_of_ble_eq_true rfl, Nat.le_of_ble_eq_true rfl⟩ rfl (Nat.le_of_ble_eq_true rfl) rfl rfl 5 rfl ?_
    rw [lk_w]
    refine v_iret hX hQ rfl rfl ?_ ?_ 6 rfl
    · first | rfl | simp (decide := true) only [rpR, if_true, if_false]
    · rfl
  · skip
    subst hc
    refine v_tableIn hX (off := 44) (tgt := 49) 3 rfl (by decide) (by decide) (by decide) (by decide) ?_
    refine v_aload_n hX 0 7 rfl rfl rfl ?_
    refine v_callV hX 0 (by decide) rfl rfl (r_standing hzL hn) tw_793 tw_790 tw_792 tw_68 tw_99 (by decide +kernel) ⟨⟨rfl, rfl⟩, Nat.le_of_ble_eq_true rfl, Nat.le_of_ble_eq_true rfl⟩ rfl (Nat.le_of_ble_eq_true rfl) rfl rfl 8 rfl ?_
    rw [lk_w]
    refine v_aload_n hX 0 9 rfl rfl rfl ?_
    refine v_callV hX 0 (by decide) rfl rfl (r_claims hzL hn) tw_848 tw_845 tw_847 tw_76 tw_99 (by decide +kernel) ⟨⟨rfl, rfl⟩, Nat.le_of_ble_eq_true rfl, Nat.le_of_ble_eq_true rfl⟩ rfl (Nat.le_of_ble_eq_true rfl) rfl rfl 10 rfl ?_
    rw [lk_z]
    refine v_iand hX 11 rfl ?_
    rw [mk_and _ _ (by omega)]
    refine v_iret hX hQ rfl rfl ?_ ?_ 12 rfl
    · first | rfl | simp (decide := true) only [rpR, if_true, if_false]
    · rfl
  · skip
    subst hc
    refine v_tableIn hX (off := 54) (tgt := 59) 3 rfl (by decide) (by decide) (by decide) (by decide) ?_
    refine v_aload_n hX 0 13 rfl rfl rfl ?_
    refine v_callV hX 0 (by decide) rfl rfl (r_outOnes hzL hn) tw_852 tw_849 tw_851 tw_77 tw_99 (by decide +kernel) ⟨⟨rfl, rfl⟩, Nat.le_of_ble_eq_true rfl, Nat.le_of_ble_eq_true rfl⟩ rfl (Nat.le_of_ble_eq_true rfl) rfl rfl 14 rfl ?_
    rw [lk_w]
    refine v_iret hX hQ rfl rfl ?_ ?_ 15 rfl
    · first | rfl | simp (decide := true) only [rpR, if_true, if_false]
    · rfl
  · skip
    subst hc
    refine v_tableIn hX (off := 59) (tgt := 64) 3 rfl (by decide) (by decide) (by decide) (by decide) ?_
    refine v_aload_n hX 0 16 rfl rfl rfl ?_
    refine v_callV hX 0 (by decide) rfl rfl (r_answered hzL hn) tw_856 tw_853 tw_855 tw_78 tw_99 (by decide +kernel) ⟨⟨rfl, rfl⟩, Nat.le_of_ble_eq_true rfl, Nat.le_of_ble_eq_true rfl⟩ rfl (Nat.le_of_ble_eq_true rfl) rfl rfl 17 rfl ?_
    rw [lk_w]
    refine v_iret hX hQ rfl rfl ?_ ?_ 18 rfl
    · first | rfl | simp (decide := true) only [rpR, if_true, if_false]
    · rfl
  · skip
    subst hc
    refine v_tableIn hX (off := 64) (tgt := 69) 3 rfl (by decide) (by decide) (by decide) (by decide) ?_
    refine v_aload_n hX 0 19 rfl rfl rfl ?_
    refine v_iload_n hX 1 20 rfl rfl rfl ?_
    refine v_iconst hX (v := 4) 21 rfl (by decide) ?_
    refine v_isub hX 22 rfl ?_
    refine v_callV hX 1 (by decide) rfl rfl (r_ofSide hzL hn) tw_864 tw_861 tw_863 tw_79 tw_99 (by decide +kernel) ⟨⟨rfl, rfl⟩, Nat.le_of_ble_eq_true rfl, Nat.le_of_ble_eq_true rfl⟩ rfl (Nat.le_of_ble_eq_true rfl) rfl rfl 23 rfl ?_
    rw [lk_z]
    refine v_iret hX hQ rfl rfl ?_ ?_ 24 rfl
    · first | rfl | simp (decide := true) only [rpR, if_true, if_false]
    · rfl
  · skip
    subst hc
    refine v_tableIn hX (off := 64) (tgt := 69) 3 rfl (by decide) (by decide) (by decide) (by decide) ?_
    refine v_aload_n hX 0 19 rfl rfl rfl ?_
    refine v_iload_n hX 1 20 rfl rfl rfl ?_
    refine v_iconst hX (v := 4) 21 rfl (by decide) ?_
    refine v_isub hX 22 rfl ?_
    refine v_callV hX 1 (by decide) rfl rfl (r_ofSide hzL hn) tw_864 tw_861 tw_863 tw_79 tw_99 (by decide +kernel) ⟨⟨rfl, rfl⟩, Nat.le_of_ble_eq_true rfl, Nat.le_of_ble_eq_true rfl⟩ rfl (Nat.le_of_ble_eq_true rfl) rfl rfl 23 rfl ?_
    rw [lk_z]
    refine v_iret hX hQ rfl rfl ?_ ?_ 24 rfl
    · first | rfl | simp (decide := true) only [rpR, if_true, if_false]
    · rfl
  · skip
    have hne : ∀ c : Nat, c ≤ 5 → ¬ w = nI c := fun c h9 => sw_ne (m := 5) hc h9 (by decide)
    refine v_tableOut hX (tgt := 77) 3 rfl hc (by decide) ?_
    refine v_bipush hX (v := (-2)) 25 rfl (by decide) ?_
    refine v_iret hX hQ rfl rfl ?_ ?_ 26 rfl
    · unfold rpR; rw [if_neg (show ¬ w = 0 from hne 0 (by decide)), if_neg (show ¬ w = 1 from hne 1 (by decide)), if_neg (show ¬ w = 2 from hne 2 (by decide)), if_neg (show ¬ w = 3 from hne 3 (by decide)), if_neg (show ¬ w = 4 from hne 4 (by decide)), if_neg (show ¬ w = 5 from hne 5 (by decide))]
    · rfl
