def Hh (N : Mm) : Prop := ∃ k, k ≤ 6 ∧ N.1 33 1 = nI k ∧ ∀ i, i < 7 → isB (N.2 i) ∧ N.2 i ≠ 1
def CSv (Z : Nat → Int32) (P : Nat → Nat → Int32) (n la dy : Nat) : Prop := Z 1 = nI n ∧ n ≤ 24 ∧ WF P n ∧ sm9 P n ∧ s5d P n dy ∧ (∀ i t, i < n → t < i → P i 3 = nI t → ¬ P i 0 = P t 0) ∧ Z 4 = nI la ∧ la ≤ 60 ∧ Z 2 = nI dy ∧ dy ≤ 999 ∧ 0 ≤ Z 5
def LI (M : Mm) (n la dy : Nat) : Prop := CSv (M.1 1) (cp M 1) n la dy ∧ Hh M ∧ LSt M (cp M 1) n ∧ (∀ i, n ≤ i → i < 24 → M.1 276 i = 0) ∧ M.1 278 0 = M.1 1 4 ∧ M.1 278 1 = M.1 1 5 ∧ M.1 278 2 = M.1 1 2 ∧ M.1 278 3 = nI n ∧ M.1 278 4 = M.1 1 3
theorem CSv.cg {Z : Nat → Int32} {P P' : Nat → Nat → Int32} {n la dy : Nat} (h : ∀ i, i < n → P' i = P i) (c : CSv Z P n la dy) : CSv Z P' n la dy := by
  obtain ⟨h1, h2, h3, h4, h5, h6, h7⟩ := c
  refine ⟨h1, h2, WF_cg h h3, fun i hi => by rw [h i hi]; exact h4 i hi, fun i hi => by rw [h i hi]; exact h5 i hi, fun i t hi ht => by rw [h i hi, h t (by omega)]; exact h6 i t hi ht, h7⟩
theorem toV_cg {P P' : Nat → Nat → Int32} {i : Nat} (h : P' i = P i) : toV P' i = toV P i := by unfold toV; rw [h]
theorem LSt.cg {M : Mm} {P P' : Nat → Nat → Int32} {n : Nat} (h : ∀ i, i < n → P' i = P i) (c : LSt M P n) : LSt M P' n := by
  intro i hi
  have := c i hi
  rw [toV_cg (h i hi), h i hi]
  exact this
theorem LI.mk {N : Mm} {Z : Nat → Int32} {P : Nat → Nat → Int32} {n la dy : Nat} (h1 : N.1 1 = Z) (hP : ∀ i, i < n → cp N 1 i = P i) (hc : CSv Z P n la dy) (hh : Hh N) (hS : LSt N P n) (h6 : ∀ i, n ≤ i → i < 24 → N.1 276 i = 0) (hT : N.1 278 0 = Z 4 ∧ N.1 278 1 = Z 5 ∧ N.1 278 2 = Z 2 ∧ N.1 278 3 = nI n ∧ N.1 278 4 = Z 3) : LI N n la dy := by
  subst h1
  exact ⟨hc.cg hP, hh, hS.cg hP, h6, hT⟩
def Res (T N : Mm) : Prop := (∀ r, r < 27 → N.1 r = T.1 r) ∧ (∀ r, 270 ≤ r → N.1 r = T.1 r) ∧ Hh N
theorem low_cpB {M : Mm} {b n r : Nat} (hc : isB b ∧ b ≠ 1) (hn : n ≤ 24) (hr : r < 27) : (cpB M b 1 n).1 r = M.1 r := by
  rcases Nat.eq_zero_or_pos r with rfl | h0
  · exact pro hc.1 hn (Or.inl rfl)
  · have := pr1 (M := M) (j := r - 1) hc.1 hc.2 hn (by omega)
    rw [show 1 + (r - 1) = r by omega] at this
    exact this
theorem Res.of {M Z T : Mm} {k n : Nat} {x : Int32} (hk : k ≤ 6) (hkk : M.1 33 1 = nI k) (hh : ∀ i, i < 7 → isB (M.2 i) ∧ M.2 i ≠ 1) (hn : n ≤ 24) (hfr : Fr (cpB M (M.2 k) 1 n) Z) (hT : ∀ r, 270 ≤ r → T.1 r = M.1 r) (hl : ∀ r, r < 27 → Z.1 r = T.1 r) : Res T (seM Z k x) := by
  have hc := hh k (by omega)
  have h33 : Z.1 33 1 = nI k := by rw [hfr.2 33 (by decide), pro hc.1 hn (by omega)]; exact hkk
  have h270 : ∀ r, 270 ≤ r → Z.1 r = T.1 r := fun r hr => by rw [hfr.2 r (by omega), pro hc.1 hn (by omega), hT r hr]
  have h2 : Z.2 = M.2 := hfr.1
  unfold seM
  by_cases e : x < 0
  · rw [if_pos e]
    exact ⟨hl, h270, k, hk, h33, by rw [h2]; exact hh⟩
  rw [if_neg e]
  by_cases g : k < 6
  · rw [if_pos g]
    refine ⟨fun r hr => by rw [mset_n (by omega)]; exact hl r hr, fun r hr => by rw [mset_n (by omega)]; exact h270 r hr, k + 1, by omega, by rw [mset_s, upd_s], by rw [mset_2, h2]; exact hh⟩
  · rw [if_neg g]
    refine ⟨hl, h270, k, hk, h33, fun i hi => ?_⟩
    rw [mhis_2, h2]
    unfold rot
    by_cases i6 : i < 6
    · rw [if_pos i6]; exact hh (i + 1) (by omega)
    · rw [if_neg i6, if_pos (by omega)]; exact hh 0 (by omega)
theorem low_set {A B : Mm} {r j : Nat} {v w : Int32} (h : ∀ q, q < 27 → A.1 q = B.1 q) (hr : r < 27) (e : v = w) : ∀ q, q < 27 → (mset A r j v).1 q = (mset B r j w).1 q := by
  intro q hq
  by_cases g : q = r
  · subst g; rw [mset_s, mset_s, h q hq, e]
  · rw [mset_n g, mset_n g, h q hq]
theorem low_file {A B : Mm} {n : Nat} {s s2 p c t : Int32} (h : ∀ q, q < 27 → A.1 q = B.1 q) (hn : n < 24) (e : s = s2) : ∀ q, q < 27 → (fileM A 1 n s p c t).1 q = (fileM B 1 n s2 p c t).1 q := by
  subst e
  unfold fileM
  have hr : 1 + 2 + n < 27 := by omega
  have e1 : A.1 1 2 = B.1 1 2 := by rw [h 1 (by decide)]
  exact low_set (low_set (low_set (low_set (low_set (low_set (low_set (low_set h hr rfl) hr rfl) hr rfl) hr rfl) hr e1) hr e1) hr rfl) (by decide) rfl
theorem cbf_1 {p c : Nat} (hp : 1 ≤ p ∧ p ≤ 9) (hc : c < 1024) : cbf (nI p) (nI c) = 1 := by
  unfold cbf
  rw [if_neg]
  intro h
  rcases h with h | h | h | h
  · exact nI_nlt (a := p) (b := 1) hp.1 (by omega) h
  · exact nI_nlt (a := 9) (b := p) hp.2 (by decide) h
  · exact nI_nlt (a := c) (b := 0) (Nat.zero_le _) (by omega) h
  · exact nI_nlt (a := 1023) (b := c) (by omega) (by decide) h
theorem low_cp {A B : Mm} {i : Nat} (h : ∀ q, q < 27 → A.1 q = B.1 q) (hi : i < 24) : cp A 1 i = cp B 1 i := by
  funext j
  show A.1 (1 + 2 + i) j = B.1 (1 + 2 + i) j
  rw [h _ (by omega)]
theorem low_bS {A B : Mm} {n : Nat} (h : ∀ q, q < 27 → A.1 q = B.1 q) (hn : n ≤ 24) : bc (mk (bSd A 1 n) n) = nI (cnt (bSd B 1 n) n) := by
  rw [mk_congr (bS_cg (M := B) (M' := A) (fun i hi => low_cp h (by omega)) (h 1 (by decide))), bc_mk hn]
theorem op_claim {Y : Yt} {M : Mm} {n la dy : Nat} (hc : CSv (M.1 1) (cp M 1) n la dy) (hh : Hh M) {s p c : Nat} (hn24 : n < 24) (hs : s ≤ 1) (hp : 1 ≤ p ∧ p ≤ 9) (hc9 : c < 1024) : ∃ N, Fn Y yX6_claim wsX6_claim { frames := 3, cells := 0, slots := 0, locals := 68 } [.ref (Y.2.2.2.1 0), .int (nI s), .int (nI p), .int (nI c)] M (some (.int (nI n))) N ∧ Res (fileM M 1 n (nI s) (nI p) (nI c) (-6)) N := by
  obtain ⟨k, hk, hkk, hh⟩ := hh
  obtain ⟨hz, hn, hw, _, _, _, hla, hla2, hdy, hdy2, _⟩ := hc
  have hl : ∀ r, r < 27 → (cpB M (M.2 k) 1 n).1 r = M.1 r := fun r hr => low_cpB (hh k (by omega)) hn hr
  have h := f_claim (Y := Y) (s := nI s) (p := nI p) (c := nI c) hk hkk hh hz hn hw
  have e : ¬ (nI s < 0 ∨ 1 < nI s ∨ cbf (nI p) (nI c) = 0) := by
    rw [cbf_1 hp hc9]
    intro g
    rcases g with g | g | g
    · exact nI_nlt (a := s) (b := 0) (Nat.zero_le _) (by omega) g
    · exact nI_nlt (a := 1) (b := s) hs (by decide) g
    · exact absurd g (by decide)
  unfold fcR fcM at h
  rw [if_neg e, if_pos hn24, if_neg e, if_pos hn24] at h
  exact ⟨_, h, Res.of hk hkk hh hn (fileM_fr hn24) (fun r hr => (fileM_fr hn24).2 r (by omega)) (low_file hl hn24 rfl)⟩
theorem op_answer {Y : Yt} {M : Mm} {n la dy : Nat} (hc : CSv (M.1 1) (cp M 1) n la dy) (hh : Hh M) {a p c : Nat} (hn24 : n < 24) (ha : a < n) (hp : 1 ≤ p ∧ p ≤ 9) (hc9 : c < 1024) (hg : M.1 (1 + 2 + a) 6 = 0) : ∃ N, Fn Y yX6_answer wsX6_answer { frames := 3, cells := 0, slots := 0, locals := 69 } [.ref (Y.2.2.2.1 0), .int (nI a), .int (nI p), .int (nI c)] M (some (.int (nI n))) N ∧ Res (fileM M 1 n (1 - M.1 (1 + 2 + a) 0) (nI p) (nI c) (nI a)) N := by
  obtain ⟨k, hk, hkk, hh⟩ := hh
  obtain ⟨hz, hn, hw, _, _, _, hla, hla2, hdy, hdy2, _⟩ := hc
  have hl : ∀ r, r < 27 → (cpB M (M.2 k) 1 n).1 r = M.1 r := fun r hr => low_cpB (hh k (by omega)) hn hr
  have h := f_answer (Y := Y) (p := nI p) (c := nI c) hk hkk hh hz hn hw ha
  unfold faR faM at h
  have e : ¬ cbf (nI p) (nI c) = 0 := by rw [cbf_1 hp hc9]; decide
  have e6 : (cpB M (M.2 k) 1 n).1 (1 + 2 + a) 6 = 0 := by rw [hl _ (by omega)]; exact hg
  rw [if_neg e, if_pos hn24, if_pos e6, if_neg e, if_pos hn24, if_pos e6] at h
  exact ⟨_, h, Res.of hk hkk hh hn (fileM_fr hn24) (fun r hr => (fileM_fr hn24).2 r (by omega)) (low_file hl hn24 (by rw [hl _ (by omega)]))⟩
theorem op_answer_no {Y : Yt} {M : Mm} {n la dy : Nat} (hc : CSv (M.1 1) (cp M 1) n la dy) (hh : Hh M) {a p c : Nat} (hn24 : n < 24) (ha : a < n) (hp : 1 ≤ p ∧ p ≤ 9) (hc9 : c < 1024) (hg : ¬ M.1 (1 + 2 + a) 6 = 0) : ∃ N, Fn Y yX6_answer wsX6_answer { frames := 3, cells := 0, slots := 0, locals := 69 } [.ref (Y.2.2.2.1 0), .int (nI a), .int (nI p), .int (nI c)] M (some (.int (-5))) N ∧ Res M N := by
  obtain ⟨k, hk, hkk, hh⟩ := hh
  obtain ⟨hz, hn, hw, _, _, _, hla, hla2, hdy, hdy2, _⟩ := hc
  have hl : ∀ r, r < 27 → (cpB M (M.2 k) 1 n).1 r = M.1 r := fun r hr => low_cpB (hh k (by omega)) hn hr
  have h := f_answer (Y := Y) (p := nI p) (c := nI c) hk hkk hh hz hn hw ha
  unfold faR faM at h
  have e : ¬ cbf (nI p) (nI c) = 0 := by rw [cbf_1 hp hc9]; decide
  have e6 : ¬ (cpB M (M.2 k) 1 n).1 (1 + 2 + a) 6 = 0 := by rw [hl _ (by omega)]; exact hg
  rw [if_neg e, if_pos hn24, if_neg e6, if_neg e, if_pos hn24, if_neg e6] at h
  exact ⟨_, h, Res.of hk hkk hh hn Fr.rf (fun r hr => rfl) hl⟩
theorem op_wd {Y : Yt} {M : Mm} {n la dy : Nat} (hc : CSv (M.1 1) (cp M 1) n la dy) (hh : Hh M) {a : Nat} (ha : a < n) (hg : M.1 (1 + 2 + a) 6 = 0) : ∃ N, Fn Y yX6_withdraw wsX6_withdraw { frames := 5, cells := 0, slots := 0, locals := 110 } [.ref (Y.2.2.2.1 0), .int (nI a)] M (some (.int (nI (cnt (bSd (mset M (1 + 2 + a) 6 1) 1 n) n)))) N ∧ Res (mset M (1 + 2 + a) 6 1) N := by
  obtain ⟨k, hk, hkk, hh⟩ := hh
  obtain ⟨hz, hn, hw, _, _, _, hla, hla2, hdy, hdy2, _⟩ := hc
  have hl : ∀ r, r < 27 → (cpB M (M.2 k) 1 n).1 r = M.1 r := fun r hr => low_cpB (hh k (by omega)) hn hr
  have h := f_withdraw (Y := Y) hk hkk hh hz hn hw ha
  unfold tbR tbM at h
  have e6 : (cpB M (M.2 k) 1 n).1 (1 + 2 + a) 6 = 0 := by rw [hl _ (by omega)]; exact hg
  have hl2 := low_set (r := 1 + 2 + a) (j := 6) (v := 1) hl (by omega) rfl
  rw [if_pos e6, if_pos e6, low_bS hl2 hn] at h
  exact ⟨_, h, Res.of hk hkk hh hn (Fr.set (by omega)) (fun r hr => mset_n (by omega)) hl2⟩
theorem op_wd_no {Y : Yt} {M : Mm} {n la dy : Nat} (hc : CSv (M.1 1) (cp M 1) n la dy) (hh : Hh M) {a : Nat} (ha : a < n) (hg : ¬ M.1 (1 + 2 + a) 6 = 0) : ∃ N, Fn Y yX6_withdraw wsX6_withdraw { frames := 5, cells := 0, slots := 0, locals := 110 } [.ref (Y.2.2.2.1 0), .int (nI a)] M (some (.int (-5))) N ∧ Res M N := by
  obtain ⟨k, hk, hkk, hh⟩ := hh
  obtain ⟨hz, hn, hw, _, _, _, hla, hla2, hdy, hdy2, _⟩ := hc
  have hl : ∀ r, r < 27 → (cpB M (M.2 k) 1 n).1 r = M.1 r := fun r hr => low_cpB (hh k (by omega)) hn hr
  have h := f_withdraw (Y := Y) hk hkk hh hz hn hw ha
  unfold tbR tbM at h
  have e6 : ¬ (cpB M (M.2 k) 1 n).1 (1 + 2 + a) 6 = 0 := by rw [hl _ (by omega)]; exact hg
  rw [if_neg e6, if_neg e6] at h
  exact ⟨_, h, Res.of hk hkk hh hn Fr.rf (fun r hr => rfl) hl⟩
theorem op_rn {Y : Yt} {M : Mm} {n la dy : Nat} (hc : CSv (M.1 1) (cp M 1) n la dy) (hh : Hh M) {a : Nat} (ha : a < n) (hg : ¬ (M.1 (1 + 2 + a) 3 = -6 ∨ ¬ M.1 (1 + 2 + a) 6 = 0)) : ∃ N, Fn Y yX6_renew wsX6_renew { frames := 3, cells := 0, slots := 0, locals := 67 } [.ref (Y.2.2.2.1 0), .int (nI a)] M (some (.int (M.1 1 2 - M.1 (1 + 2 + a) 5))) N ∧ Res (mset M (1 + 2 + a) 5 (M.1 1 2)) N := by
  obtain ⟨k, hk, hkk, hh⟩ := hh
  obtain ⟨hz, hn, hw, _, _, _, hla, hla2, hdy, hdy2, _⟩ := hc
  have hl : ∀ r, r < 27 → (cpB M (M.2 k) 1 n).1 r = M.1 r := fun r hr => low_cpB (hh k (by omega)) hn hr
  have h := f_renew (Y := Y) hk hkk hh hz hn hw ha
  unfold prR prM at h
  have e6 : ¬ ((cpB M (M.2 k) 1 n).1 (1 + 2 + a) 3 = -6 ∨ ¬ (cpB M (M.2 k) 1 n).1 (1 + 2 + a) 6 = 0) := by rw [hl _ (by omega)]; exact hg
  have hl2 := low_set (r := 1 + 2 + a) (j := 5) (v := M.1 1 2) hl (by omega) rfl
  rw [if_neg e6, if_neg e6, hl _ (show 1 + 2 + a < 27 by omega), hl 1 (by decide)] at h
  exact ⟨_, h, Res.of hk hkk hh hn (Fr.set (by omega)) (fun r hr => mset_n (by omega)) hl2⟩
theorem op_rn_no {Y : Yt} {M : Mm} {n la dy : Nat} (hc : CSv (M.1 1) (cp M 1) n la dy) (hh : Hh M) {a : Nat} (ha : a < n) (hg : M.1 (1 + 2 + a) 3 = -6 ∨ ¬ M.1 (1 + 2 + a) 6 = 0) : ∃ N, Fn Y yX6_renew wsX6_renew { frames := 3, cells := 0, slots := 0, locals := 67 } [.ref (Y.2.2.2.1 0), .int (nI a)] M (some (.int (-5))) N ∧ Res M N := by
  obtain ⟨k, hk, hkk, hh⟩ := hh
  obtain ⟨hz, hn, hw, _, _, _, hla, hla2, hdy, hdy2, _⟩ := hc
  have hl : ∀ r, r < 27 → (cpB M (M.2 k) 1 n).1 r = M.1 r := fun r hr => low_cpB (hh k (by omega)) hn hr
  have h := f_renew (Y := Y) hk hkk hh hz hn hw ha
  unfold prR prM at h
  have e6 : ((cpB M (M.2 k) 1 n).1 (1 + 2 + a) 3 = -6 ∨ ¬ (cpB M (M.2 k) 1 n).1 (1 + 2 + a) 6 = 0) := by rw [hl _ (by omega)]; exact hg
  rw [if_pos e6, if_pos e6] at h
  exact ⟨_, h, Res.of hk hkk hh hn Fr.rf (fun r hr => rfl) hl⟩
theorem op_ov {Y : Yt} {M : Mm} {n la dy : Nat} (hc : CSv (M.1 1) (cp M 1) n la dy) (hh : Hh M) {w : Nat} (hw10 : w < 10) : ∃ N, Fn Y yX6_overrule wsX6_overrule { frames := 3, cells := 0, slots := 0, locals := 67 } [.ref (Y.2.2.2.1 0), .int (nI w)] M (some (.int (hasv (M.1 1 3 ^^^ ((1 : Int32) <<< (nI w &&& 31))) (nI w)))) N ∧ Res (mset M 1 3 (M.1 1 3 ^^^ ((1 : Int32) <<< (nI w &&& 31)))) N := by
  obtain ⟨k, hk, hkk, hh⟩ := hh
  obtain ⟨hz, hn, hw, _, _, _, hla, hla2, hdy, hdy2, _⟩ := hc
  have hl : ∀ r, r < 27 → (cpB M (M.2 k) 1 n).1 r = M.1 r := fun r hr => low_cpB (hh k (by omega)) hn hr
  have h := f_overrule (Y := Y) (w := nI w) hk hkk hh hz hn hw
  unfold tcR tcM at h
  have e : ¬ (nI w < 0 ∨ ¬ nI w < 10) := by
    intro g
    rcases g with g | g
    · exact nI_nlt (a := w) (b := 0) (Nat.zero_le _) (by omega) g
    · exact g (nI_lt (b := 10) hw10 (by decide))
  have hl2 := low_set (r := 1) (j := 3) (v := M.1 1 3 ^^^ ((1 : Int32) <<< (nI w &&& 31))) hl (by omega) rfl
  rw [if_neg e, if_neg e, hl 1 (by decide)] at h
  exact ⟨_, h, Res.of hk hkk hh hn (Fr.set (by omega)) (fun r hr => mset_n (by omega)) hl2⟩
theorem op_ps {Y : Yt} {M : Mm} {n la dy : Nat} (hc : CSv (M.1 1) (cp M 1) n la dy) (hh : Hh M) {d : Nat} (hd : 1 ≤ d ∧ d ≤ 99) (hd9 : dy + d ≤ 999) : ∃ N, Fn Y yX6_pass wsX6_pass { frames := 5, cells := 0, slots := 0, locals := 109 } [.ref (Y.2.2.2.1 0), .int (nI d)] M (some (.int (nI (cnt (bSd (mset M 1 2 (nI (dy + d))) 1 n) n)))) N ∧ Res (mset M 1 2 (nI (dy + d))) N := by
  obtain ⟨k, hk, hkk, hh⟩ := hh
  obtain ⟨hz, hn, hw, _, _, _, hla, hla2, hdy, hdy2, _⟩ := hc
  have hl : ∀ r, r < 27 → (cpB M (M.2 k) 1 n).1 r = M.1 r := fun r hr => low_cpB (hh k (by omega)) hn hr
  have h := f_pass (Y := Y) (d := nI d) hk hkk hh hz hn hw
  unfold moR moM at h
  have e : ¬ (nI d < 1 ∨ ¬ nI d ≤ 99) := by
    intro g
    rcases g with g | g
    · exact nI_nlt (a := d) (b := 1) hd.1 (by omega) g
    · exact g ((nI_leI (b := 99) (by omega) (by decide)).mpr hd.2)
  have e2 : nI (dy + d) ≤ 999 := (nI_leI (b := 999) (by omega) (by decide)).mpr hd9
  have hl2 := low_set (r := 1) (j := 2) (v := nI (dy + d)) hl (by omega) rfl
  rw [if_neg e, if_neg e, hl 1 (by decide), hdy, nI_add, if_pos e2, if_pos e2, low_bS hl2 hn] at h
  exact ⟨_, h, Res.of hk hkk hh hn (Fr.set (by omega)) (fun r hr => mset_n (by omega)) hl2⟩
theorem op_ps_no {Y : Yt} {M : Mm} {n la dy : Nat} (hc : CSv (M.1 1) (cp M 1) n la dy) (hh : Hh M) {d : Nat} (hd : 1 ≤ d ∧ d ≤ 99) (hd9 : ¬ dy + d ≤ 999) : ∃ N, Fn Y yX6_pass wsX6_pass { frames := 5, cells := 0, slots := 0, locals := 109 } [.ref (Y.2.2.2.1 0), .int (nI d)] M (some (.int (-5))) N ∧ Res M N := by
  obtain ⟨k, hk, hkk, hh⟩ := hh
  obtain ⟨hz, hn, hw, _, _, _, hla, hla2, hdy, hdy2, _⟩ := hc
  have hl : ∀ r, r < 27 → (cpB M (M.2 k) 1 n).1 r = M.1 r := fun r hr => low_cpB (hh k (by omega)) hn hr
  have h := f_pass (Y := Y) (d := nI d) hk hkk hh hz hn hw
  unfold moR moM at h
  have e : ¬ (nI d < 1 ∨ ¬ nI d ≤ 99) := by
    intro g
    rcases g with g | g
    · exact nI_nlt (a := d) (b := 1) hd.1 (by omega) g
    · exact g ((nI_leI (b := 99) (by omega) (by decide)).mpr hd.2)
  have e2 : ¬ nI (dy + d) ≤ 999 := fun g => hd9 ((nI_leI (b := 999) (by omega) (by decide)).mp g)
  rw [if_neg e, if_neg e, hl 1 (by decide), hdy, nI_add, if_neg e2, if_neg e2] at h
  exact ⟨_, h, Res.of hk hkk hh hn Fr.rf (fun r hr => rfl) hl⟩
theorem op_s0 {Y : Yt} {M : Mm} {n la dy : Nat} (hc : CSv (M.1 1) (cp M 1) n la dy) (hh : Hh M) {v : Nat} (hv : 1 ≤ v ∧ v ≤ 60) : ∃ N, Fn Y yX6_set wsX6_set { frames := 3, cells := 0, slots := 0, locals := 67 } [.ref (Y.2.2.2.1 0), .int 0, .int (nI v)] M (some (.int (M.1 1 4))) N ∧ Res (mset M 1 4 (nI v)) N := by
  obtain ⟨k, hk, hkk, hh⟩ := hh
  obtain ⟨hz, hn, hw, _, _, _, hla, hla2, hdy, hdy2, _⟩ := hc
  have hl : ∀ r, r < 27 → (cpB M (M.2 k) 1 n).1 r = M.1 r := fun r hr => low_cpB (hh k (by omega)) hn hr
  have h := f_set (Y := Y) (s := 0) (v := nI v) hk hkk hh hz hn hw
  unfold adR adM at h
  have e : (0 : Int32) = 0 ∧ ¬ nI v < 1 ∧ ¬ 60 < nI v := ⟨rfl, nI_nlt (a := v) (b := 1) hv.1 (by omega), nI_nlt (a := 60) (b := v) hv.2 (by decide)⟩
  have hl2 := low_set (r := 1) (j := 4) (v := nI v) hl (by omega) rfl
  rw [if_pos e, if_pos e, hl 1 (by decide)] at h
  exact ⟨_, h, Res.of hk hkk hh hn (Fr.set (by omega)) (fun r hr => mset_n (by omega)) hl2⟩
theorem op_s1 {Y : Yt} {M : Mm} {n la dy : Nat} (hc : CSv (M.1 1) (cp M 1) n la dy) (hh : Hh M) {v : Nat} (hv : 1 ≤ v ∧ v ≤ 99) : ∃ N, Fn Y yX6_set wsX6_set { frames := 3, cells := 0, slots := 0, locals := 67 } [.ref (Y.2.2.2.1 0), .int 1, .int (nI v)] M (some (.int (M.1 1 5))) N ∧ Res (mset M 1 5 (nI v)) N := by
  obtain ⟨k, hk, hkk, hh⟩ := hh
  obtain ⟨hz, hn, hw, _, _, _, hla, hla2, hdy, hdy2, _⟩ := hc
  have hl : ∀ r, r < 27 → (cpB M (M.2 k) 1 n).1 r = M.1 r := fun r hr => low_cpB (hh k (by omega)) hn hr
  have h := f_set (Y := Y) (s := 1) (v := nI v) hk hkk hh hz hn hw
  unfold adR adM at h
  have e : (1 : Int32) = 1 ∧ ¬ nI v < 1 ∧ ¬ 99 < nI v := ⟨rfl, nI_nlt (a := v) (b := 1) hv.1 (by omega), nI_nlt (a := 99) (b := v) hv.2 (by decide)⟩
  have hl2 := low_set (r := 1) (j := 5) (v := nI v) hl (by omega) rfl
  have e0 : ¬ ((1 : Int32) = 0 ∧ ¬ nI v < 1 ∧ ¬ 60 < nI v) := fun g => absurd g.1 (by decide)
  rw [if_neg e0, if_neg e0] at h
  rw [if_pos e, if_pos e, hl 1 (by decide)] at h
  exact ⟨_, h, Res.of hk hkk hh hn (Fr.set (by omega)) (fun r hr => mset_n (by omega)) hl2⟩
