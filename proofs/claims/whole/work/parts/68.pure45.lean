theorem ordO_k {s : Nat → Int32} {l a m j : Nat} {w : Int32} {o : Nat → Int32} (h : j < 4 * m) : ordO s l a w o m j = o j := by
  unfold ordO ordR
  split
  · rw [upd_n (by omega), upd_n (by omega), upd_n (by omega), upd_n (by omega)]
  · rw [upd_n (by omega), upd_n (by omega)]
theorem rdF_k {s : Nat → Int32} {l : Nat} : ∀ (f m a : Nat) (o : Nat → Int32) (j : Nat), j < 4 * m → (rdF s l f m a o).2.2.1 j = o j := by
  intro f
  induction f with
  | zero => intro m a o j hj; rfl
  | succ f ih =>
    intro m a o j hj
    rw [rdF]
    split
    · split
      · rw [ih (m + 1) _ _ j (by omega), ordO_k hj]
      · exact ordO_k hj
    · exact ordO_k hj
theorem rdF_ge {s : Nat → Int32} {l : Nat} : ∀ (f m a : Nat) (o : Nat → Int32), m ≤ (rdF s l f m a o).2.2.2 := by
  intro f
  induction f with
  | zero => intro m a o; exact Nat.le_refl _
  | succ f ih =>
    intro m a o
    rw [rdF]
    split
    · split
      · have := ih (m + 1) ((ordT s l a (-6)).1 + 1) (ordO s l a (-6) o m)
        omega
      · exact Nat.le_succ m
    · exact Nat.le_succ m
theorem ordO_v {s : Nat → Int32} {l a m : Nat} {o : Nat → Int32} (hc : isO (chB s l a) = true) : ordO s l a (-6) o m (4 * m) = chB s l a ∧ ordO s l a (-6) o m (4 * m + 1) = oV1 s l (chB s l a) (a + 1, -6) ∧ ((chB s l a = 99 ∨ chB s l a = 97) → ordO s l a (-6) o m (4 * m + 2) = dgv s l (oT3 s l (oTa s l a (-6))).1 ∧ ordO s l a (-6) o m (4 * m + 3) = ctV s l (oTb s l (oTa s l a (-6)))) := by
  have e1 : oT1 s l a (-6) = (a + 1, -6) := wn_t hc
  unfold ordO ordR
  rw [e1]
  by_cases g : chB s l a = 99 ∨ chB s l a = 97
  · rw [if_pos g]
    refine ⟨?_, ?_, fun _ => ⟨?_, ?_⟩⟩
    · rw [upd_n (by omega), upd_n (by omega), upd_n (by omega), upd_s]
    · rw [upd_n (by omega), upd_n (by omega), upd_s]
    · rw [upd_n (by omega), upd_s]
    · rw [upd_s]
  · rw [if_neg g]
    refine ⟨?_, ?_, fun q => absurd q g⟩
    · rw [upd_n (by omega), upd_s]
    · rw [upd_s]
theorem coL_z {s : Nat → Int32} {l f d a : Nat} {M : Mm} (h : (ror s l a (M.1 32)).1 = 0) : coL s l (f + 1) d a M = (d, mrow M 32 (ror s l a (M.1 32)).2.2) := by
  rw [coL]
  exact if_pos h
theorem coL_s {s : Nat → Int32} {l f d a p : Nat} {q : Nat → Int32} {M : Mm} (h : ror s l a (M.1 32) = (1, p, q)) : coL s l (f + 1) d a M = if foR (mrow M 32 q) (nOf M) < 0 then (d, foM (mrow M 32 q) (nOf M)) else coL s l f (d + 1) (tkc s l 59 p q).2.1 (mrow (foM (mrow M 32 q) (nOf M)) 32 (tkc s l 59 p q).2.2) := by
  rw [coL, h]
  exact if_neg one_ne
theorem dL_s {f i : Nat} {M : Mm} (h : doB M (nz M) i = true) : dL (f + 1) i M = dL f (i + 1) (doM M (nz M) i) := by
  rw [dL]
  exact if_pos h
theorem dL_n {f i : Nat} {M : Mm} (h : doB M (nz M) i = false) : dL (f + 1) i M = (i, M) := by
  rw [dL]
  exact if_neg (by rw [h]; decide)
theorem c_col {s s2 : Nat → Int32} {l : Nat} (h : Sg s s2 l) : ∀ (g f m a n : Nat) (o : Nat → Int32) (C R : Mm), a ≤ l → l < a + 3 * f → l < a + 3 * g → (rdF s2 l g m a o).1 = -6 → R.1 280 = (rdF s2 l g m a o).2.2.1 → Vb C 1 (R.1 271) n → Bd (R.1 271) n →
    (coL s l f m a C).1 = (dL ((rdF s2 l g m a o).2.2.2 - m) m R).1 ∧ Fy C (coL s l f m a C).2 ∧ (dL ((rdF s2 l g m a o).2.2.2 - m) m R).2.2 = R.2 ∧ (∀ q, q ≠ 271 → (dL ((rdF s2 l g m a o).2.2.2 - m) m R).2.1 q = R.1 q) ∧ ∃ n2, Vb (coL s l f m a C).2 1 ((dL ((rdF s2 l g m a o).2.2.2 - m) m R).2.1 271) n2 ∧ Bd ((dL ((rdF s2 l g m a o).2.2.2 - m) m R).2.1 271) n2 := by
  have hl := h.1
  intro g
  induction g with
  | zero => intro f m a n o C R ha h1 h2; omega
  | succ g ih =>
    intro f m a n o C R ha h1 h2 h6 hO hv hb
    obtain ⟨f, rfl⟩ : ∃ f2, f = f2 + 1 := ⟨f - 1, by omega⟩
    have hn := hv.2.2.1
    have eC : nOf C = n := by unfold nOf; rw [hv.1, nI_clamp (by omega)]
    have eR : nz R = n := nz_eq hv.2.1 hn
    rcases c_ror (q := C.1 32) h ha with ⟨k1, k2, k3⟩ | ⟨k1, q', k2, kO⟩
    · rw [rdF_e (fun g => k1 g.1)] at h6
      exact absurd h6 k1
    · have hp := (ordT_ok (s := s2) (l := l) (a := a) (by omega) k1).2
      have hv' : Vb (mrow C 32 q') 1 (R.1 271) n := vb_32 hv
      have e32 : (mrow C 32 q').1 32 = q' := mrow_s
      have hov := ordO_v (m := m) (o := o) kO.2.2.2.2
      have step : ∀ (hr : ∀ j, j < 4 * (m + 1) → R.1 280 j = ordO s2 l a (-6) o m j), (foR (mrow C 32 q') n < 0 ∧ doB R n m = false ∧ foM (mrow C 32 q') n = mrow C 32 q') ∨ (¬ foR (mrow C 32 q') n < 0 ∧ doB R n m = true ∧ ∃ n2, Vb (foM (mrow C 32 q') n) 1 ((doM R n m).1 271) n2 ∧ Bd ((doM R n m).1 271) n2) := fun hr => by
        refine c_do hv' hb ?_ ?_ ?_ ?_ ?_
        · rw [e32, kO.1, hr _ (by omega), hov.1]
        · rw [e32, kO.2.1, hr _ (by omega), hov.2.1]
        · rw [e32, kO.1]
          intro hc
          rw [hr _ (by omega), hr _ (by omega), (hov.2.2 hc).1, (hov.2.2 hc).2, (kO.2.2.1 hc).1, (kO.2.2.1 hc).2]
          exact ⟨rfl, rfl⟩
        · rw [e32, kO.1]
          exact kO.2.2.2.1
        · rw [e32, kO.1]
          exact kO.2.2.2.2
      rw [coL_s k2, eC]
      have hfq := foM_fq (M := mrow C 32 q') hn
      have y1 : Fy C (foM (mrow C 32 q') n) := Fy.m32.tr hfq.y
      by_cases d : (ordT s2 l a (-6)).1 < l
      · rcases c_tk (a := (ordT s2 l a (-6)).1) (c := 59) (q := q') (by decide) h with ⟨e1, e2, e3⟩ | ⟨e1, e3⟩
        · have er : rdF s2 l (g + 1) m a o = rdF s2 l g (m + 1) ((ordT s2 l a (-6)).1 + 1) (ordO s2 l a (-6) o m) := by rw [rdF_s k1 d, if_pos e1]
          rw [er] at h6 hO ⊢
          have hge := rdF_ge (s := s2) (l := l) g (m + 1) ((ordT s2 l a (-6)).1 + 1) (ordO s2 l a (-6) o m)
          obtain ⟨t, ht⟩ : ∃ t, (rdF s2 l g (m + 1) ((ordT s2 l a (-6)).1 + 1) (ordO s2 l a (-6) o m)).2.2.2 - m = t + 1 := ⟨(rdF s2 l g (m + 1) ((ordT s2 l a (-6)).1 + 1) (ordO s2 l a (-6) o m)).2.2.2 - m - 1, by omega⟩
          have ht2 : (rdF s2 l g (m + 1) ((ordT s2 l a (-6)).1 + 1) (ordO s2 l a (-6) o m)).2.2.2 - (m + 1) = t := by omega
          rw [ht]
          rcases step (fun j hj => by rw [hO, rdF_k g (m + 1) _ _ j hj]) with ⟨p1, p2, p3⟩ | ⟨p1, p2, n2, v2, b2⟩
          · rw [if_pos p1, dL_n (by rw [eR]; exact p2)]
            exact ⟨rfl, y1, rfl, fun q _ => rfl, n, by rw [p3]; exact hv', hb⟩
          · rw [if_neg p1, dL_s (by rw [eR]; exact p2), eR, e3]
            have := ih f (m + 1) ((ordT s2 l a (-6)).1 + 1) n2 (ordO s2 l a (-6) o m) (mrow (foM (mrow C 32 q') n) 32 (upd q' 0 (nI ((ordT s2 l a (-6)).1 + 1)))) (doM R n m) (by omega) (by omega) (by omega) h6 (by rw [doM_n (by decide)]; exact hO) (vb_32 v2) b2
            rw [ht2] at this
            obtain ⟨w1, w2, w3, w4, w5⟩ := this
            exact ⟨w1, (y1.tr Fy.m32).tr w2, w3.trans doM_2, fun q hq => (w4 q hq).trans (doM_n hq), w5⟩
        · rw [rdF_s k1 d, if_neg e1] at h6
          exact absurd h6 (nI_ne6 (by omega))
      · have er : rdF s2 l (g + 1) m a o = ((ordT s2 l a (-6)).2, (ordT s2 l a (-6)).1, ordO s2 l a (-6) o m, m + 1) := rdF_e (fun g => d g.2)
        rw [er] at hO ⊢
        have ht : ((ordT s2 l a (-6)).2, (ordT s2 l a (-6)).1, ordO s2 l a (-6) o m, m + 1).2.2.2 - m = 0 + 1 := by
          show m + 1 - m = 0 + 1
          omega
        rw [ht]
        rcases step (fun j hj => by rw [hO]) with ⟨p1, p2, p3⟩ | ⟨p1, p2, n2, v2, b2⟩
        · rw [if_pos p1, dL_n (by rw [eR]; exact p2)]
          exact ⟨rfl, y1, rfl, fun q _ => rfl, n, by rw [p3]; exact hv', hb⟩
        · rw [if_neg p1, dL_s (by rw [eR]; exact p2), eR]
          have e3 : tkc s l 59 (ordT s2 l a (-6)).1 q' = (0, (ordT s2 l a (-6)).1, q') := by
            rcases c_tk (a := (ordT s2 l a (-6)).1) (c := 59) (q := q') (by decide) h with ⟨e1, e2, e3⟩ | ⟨e1, e3⟩
            · exact absurd e2 d
            · exact e3
          rw [e3]
          have hend : ∃ Q, coL s l f (m + 1) (ordT s2 l a (-6)).1 (mrow (foM (mrow C 32 q') n) 32 q') = (m + 1, mrow (mrow (foM (mrow C 32 q') n) 32 q') 32 Q) := by
            cases f with
            | zero => exact ⟨(mrow (foM (mrow C 32 q') n) 32 q').1 32, by rw [mrow_self]; rfl⟩
            | succ f =>
              have z : (ror s l (ordT s2 l a (-6)).1 ((mrow (foM (mrow C 32 q') n) 32 q').1 32)).1 = 0 := by
                have c0 : chA s l (ordT s2 l a (-6)).1 = 0 := if_neg d
                unfold ror
                rw [c0]
                rfl
              exact ⟨_, coL_z z⟩
          obtain ⟨Q, eQ⟩ := hend
          show (coL s l f (m + 1) (ordT s2 l a (-6)).1 (mrow (foM (mrow C 32 q') n) 32 q')).1 = m + 1 ∧ Fy C (coL s l f (m + 1) (ordT s2 l a (-6)).1 (mrow (foM (mrow C 32 q') n) 32 q')).2 ∧ (doM R n m).2 = R.2 ∧ (∀ q, q ≠ 271 → (doM R n m).1 q = R.1 q) ∧ ∃ n2, Vb (coL s l f (m + 1) (ordT s2 l a (-6)).1 (mrow (foM (mrow C 32 q') n) 32 q')).2 1 ((doM R n m).1 271) n2 ∧ Bd ((doM R n m).1 271) n2
          rw [eQ]
          exact ⟨rfl, (y1.tr Fy.m32).tr Fy.m32, doM_2, fun q hq => doM_n hq, n2, vb_32 (vb_32 v2), b2⟩
theorem sim_cy {M B : Mm} {n n2 k : Nat} (h : Sim M) (hz : M.1 1 1 = nI n) (hn : n ≤ 24) (hk : k ≤ 6) (hkk : M.1 33 1 = nI k)
    (h2 : B.2 = if k < 6 then M.2 else rot M.2) (h33 : B.1 33 1 = nI (if k = 6 then 6 else k + 1)) (h4 : B.1 270 4 = nI (if k = 6 then 6 else k + 1))
    (h272 : B.1 272 = (rcM M k).1 272) (hs : ∀ q, q = 0 ∨ q = 31 ∨ q = 273 ∨ q = 274 ∨ q = 275 → B.1 q = M.1 q)
    (hbn : ∀ b, isB b → b ≠ 1 → ∀ j, j < 26 → B.1 (b + j) = (cpB M (M.2 k) 1 n).1 (b + j)) (hv2 : Vb B 1 (B.1 271) n2) (hb2 : Bd (B.1 271) n2) (p1 : B.1 30 1 = 0) (p2 : B.1 270 6 = 0) : Sim B := by
  have e : ∀ q, q ≠ 30 → q ≠ 270 → (mrow (mrow B 30 (M.1 30)) 270 (upd (B.1 270) 6 (M.1 270 6))).1 q = B.1 q := fun q h1 h2 => by rw [mrow_n h2, mrow_n h1]
  have s1 : Sim (mrow (mrow B 30 (M.1 30)) 270 (upd (B.1 270) 6 (M.1 270 6))) := by
    refine sim_new (n2 := n2) h hz hn hk hkk h2 ?_ ?_ ?_ ?_ ?_ ?_ ?_ ?_
    · rw [e 33 (by decide) (by decide)]; exact h33
    · rw [mrow_s, upd_n (by decide)]; exact h4
    · rw [mrow_s, upd_s]
    · rw [e 272 (by decide) (by decide)]; exact h272
    · intro q hq
      by_cases q30 : q = 30
      · rw [q30, mrow_n (by decide), mrow_s]
      · rw [e q q30 (by omega)]; exact hs q (by omega)
    · intro b hb1 hb2 j hj
      have g1 := isB_33 hb1 hj
      rw [e _ g1.2.1 (by omega)]
      exact hbn b hb1 hb2 j hj
    · rw [e 271 (by decide) (by decide)]
      exact Vb_q (fun j hj => e _ (by omega) (by omega)) hv2
    · rw [e 271 (by decide) (by decide)]
      exact hb2
  refine sim_p (M := mrow (mrow B 30 (M.1 30)) 270 (upd (B.1 270) 6 (M.1 270 6))) rfl (fun q _ _ h3 _ _ h4 _ => (e q h3 h4).symm) ?_ ⟨0, Nat.zero_le _, p1, p2, fun i hi => absurd hi (Nat.not_lt_zero i)⟩ s1
  rw [mrow_s, upd_n (by decide)]
