theorem mset_g {M : Mm} {k j k' : Nat} {v : Int32} : (mset M k j v).1 k' = if k' = k then upd (M.1 k) j v else M.1 k' := rfl
theorem Hh.row {N N2 : Mm} (h : Hh N) (e : N2.1 33 = N.1 33) (e2 : N2.2 = N.2) : Hh N2 := by
  obtain ⟨k, h1, h2, h3⟩ := h
  exact ⟨k, h1, by rw [e]; exact h2, by rw [e2]; exact h3⟩
theorem Hh.set {N : Mm} {r j : Nat} {v : Int32} (h : Hh N) (hr : 33 ≠ r) : Hh (mset N r j v) := h.row (mset_n hr) rfl
def stN9 (N : Mm) (n dy : Nat) (s p tv c : Int32) : Mm := mset (mset (mset (mset (mset (mset (mset N 270 n s) 271 n p) 272 n (nI dy)) 273 n (nI dy)) 274 n tv) 275 n c) 278 3 (nI (n + 1))
theorem stN9_low {N : Mm} {n dy r : Nat} {s p tv c : Int32} (h : r < 270) : (stN9 N n dy s p tv c).1 r = N.1 r := by
  unfold stN9
  rw [mset_n (by omega), mset_n (by omega), mset_n (by omega), mset_n (by omega), mset_n (by omega), mset_n (by omega), mset_n (by omega)]
theorem stN9_r {N : Mm} {n dy : Nat} {s p tv c : Int32} : (stN9 N n dy s p tv c).1 270 = upd (N.1 270) n s ∧ (stN9 N n dy s p tv c).1 271 = upd (N.1 271) n p ∧ (stN9 N n dy s p tv c).1 272 = upd (N.1 272) n (nI dy) ∧ (stN9 N n dy s p tv c).1 273 = upd (N.1 273) n (nI dy) ∧ (stN9 N n dy s p tv c).1 274 = upd (N.1 274) n tv ∧ (stN9 N n dy s p tv c).1 275 = upd (N.1 275) n c ∧ (stN9 N n dy s p tv c).1 276 = N.1 276 ∧ (stN9 N n dy s p tv c).1 278 = upd (N.1 278) 3 (nI (n + 1)) := by
  unfold stN9
  refine ⟨?_, ?_, ?_, ?_, ?_, ?_, ?_, ?_⟩ <;> rfl
theorem fileM_f {M : Mm} {n : Nat} {s p c t : Int32} : cp (fileM M 1 n s p c t) 1 n 0 = s ∧ cp (fileM M 1 n s p c t) 1 n 1 = p ∧ cp (fileM M 1 n s p c t) 1 n 2 = c ∧ cp (fileM M 1 n s p c t) 1 n 3 = t ∧ cp (fileM M 1 n s p c t) 1 n 4 = M.1 1 2 ∧ cp (fileM M 1 n s p c t) 1 n 5 = M.1 1 2 ∧ cp (fileM M 1 n s p c t) 1 n 6 = 0 := by
  have h := fileM_new (M := M) (n := n) (s := s) (p := p) (c := c) (t := t)
  refine ⟨h.1, h.2.1, h.2.2.1, h.2.2.2.1, ?_⟩
  have e : ∀ j, cp (fileM M 1 n s p c t) 1 n j = upd (upd (upd (upd (upd (upd (upd (M.1 (1 + 2 + n)) 0 s) 1 p) 2 c) 3 t) 4 (M.1 1 2)) 5 (M.1 1 2)) 6 0 j := by
    intro j
    show (fileM M 1 n s p c t).1 (1 + 2 + n) j = _
    unfold fileM
    rw [mset_n (by omega), mset_s, mset_s, mset_s, mset_s, mset_s, mset_s, mset_s]
  refine ⟨?_, ?_, ?_⟩ <;> rw [e] <;> rfl
theorem li_file {M N : Mm} {n la dy p c : Nat} {s t tv : Int32} (h : LI M n la dy) (hn24 : n < 24) (hs : s = 0 ∨ s = 1) (hp : 1 ≤ p ∧ p ≤ 9) (hc : c < 1024) (ht : (t = -6 ∧ tv = -1) ∨ ∃ a, a < n ∧ t = nI a ∧ tv = nI a ∧ ¬ s = cp M 1 a 0) (hN : Res (fileM M 1 n s (nI p) (nI c) t) N) : LI (stN9 N n dy s (nI p) tv (nI c)) (n + 1) la dy := by
  obtain ⟨⟨hz, hn, hw, h9, h5, hsd, h4, hla, h2, hdy, h50⟩, hh, hS, h6, hT0, hT1, hT2, hT3, hT4⟩ := h
  obtain ⟨hN1, hN2, hN3⟩ := hN
  have hcp : ∀ i, i < n → cp (fileM M 1 n s (nI p) (nI c) t) 1 i = cp M 1 i := fun i hi => fileM_cp hi
  obtain ⟨f0, f1, f2, f3, f4, f5, f6⟩ := fileM_f (M := M) (n := n) (s := s) (p := nI p) (c := nI c) (t := t)
  have hF : ∀ r, 270 ≤ r → N.1 r = M.1 r := fun r hr => (hN2 r hr).trans ((fileM_fr hn24).2 r (by omega))
  obtain ⟨r0, r1, r2, r3, r4, r5, r6, r8⟩ := stN9_r (N := N) (n := n) (dy := dy) (s := s) (p := nI p) (tv := tv) (c := nI c)
  rw [hF _ (by decide)] at r0 r1 r2 r3 r4 r5 r6 r8
  have ht6 : (t = -6 ∨ ∃ a, a < n ∧ t = nI a) := by
    rcases ht with e | ⟨a, e1, e2, _⟩
    · exact Or.inl e.1
    · exact Or.inr ⟨a, e1, e2⟩
  have htv : toV (cp (fileM M 1 n s (nI p) (nI c) t) 1) n = tv := by
    unfold toV
    rw [f3]
    rcases ht with e | ⟨a, e1, e2, e3, _⟩
    · rw [if_pos e.1, e.2]
    · rw [e2, if_neg (nI_n6 a (by omega)), e3]
  refine LI.mk (Z := upd (M.1 1) 1 (nI (n + 1))) (P := cp (fileM M 1 n s (nI p) (nI c) t) 1) ?_ ?_ ?_ ?_ ?_ ?_ ?_
  · rw [stN9_low (by decide), hN1 1 (by decide), fileM_1]
  · intro i hi
    funext j
    show (stN9 N n dy s (nI p) tv (nI c)).1 (1 + 2 + i) j = _
    rw [stN9_low (by omega), hN1 _ (by omega)]
    rfl
  · refine ⟨upd_s, by omega, fun i hi => ?_, fun i hi => ?_, fun i hi => ?_, fun i u hi hu => ?_, ?_, hla, ?_, hdy, ?_⟩
    · by_cases e : i = n
      · subst e
        rw [f0, f3, f6]
        exact ⟨hs, by rcases ht6 with g | ⟨a, g1, g2⟩; exact Or.inl g; exact Or.inr ⟨a, g1, g2⟩, Or.inl rfl⟩
      · rw [hcp i (by omega)]; exact hw i (by omega)
    · by_cases e : i = n
      · subst e
        rw [f1, f2, f5]
        exact ⟨⟨dy, hdy, h2⟩, ⟨c, hc, rfl⟩, p, hp.1, hp.2, rfl⟩
      · rw [hcp i (by omega)]; exact h9 i (by omega)
    · by_cases e : i = n
      · subst e
        rw [f5]
        exact ⟨dy, Nat.le_refl _, h2⟩
      · rw [hcp i (by omega)]; exact h5 i (by omega)
    · by_cases e : i = n
      · subst e
        rw [f0, f3, hcp u hu]
        intro g
        rcases ht with e | ⟨a, e1, e2, _, e4⟩
        · exact absurd (g.symm.trans e.1) (nI_n6 u (by omega))
        · have hau : a = u := (nI_eq (by omega) (by omega)).mp (e2.symm.trans g)
          rw [← hau]
          exact e4
      · rw [hcp i (by omega), hcp u (by omega)]; exact hsd i u (by omega) hu
    · rw [upd_n (by decide)]; exact h4
    · rw [upd_n (by decide)]; exact h2
    · rw [upd_n (by decide)]; exact h50
  · exact hN3.row (stN9_low (by decide)) rfl
  · intro i hi
    rw [r0, r1, r2, r3, r4, r5, r6]
    by_cases e : i = n
    · subst e
      rw [upd_s, upd_s, upd_s, upd_s, upd_s, upd_s, f0, f1, f2, f4, f5, f6, htv]
      exact ⟨rfl, rfl, h2.symm, h2.symm, rfl, rfl, h6 i (Nat.le_refl _) hn24⟩
    · rw [upd_n e, upd_n e, upd_n e, upd_n e, upd_n e, upd_n e, toV_cg (hcp i (by omega)), hcp i (by omega)]
      exact hS i (by omega)
  · intro i hi hi2
    rw [r6]
    exact h6 i (by omega) hi2
  · rw [r8]
    refine ⟨?_, ?_, ?_, upd_s, ?_⟩ <;> rw [upd_n (by decide), upd_n (by decide)] <;> assumption
theorem LI.same {M N : Mm} {n la dy : Nat} (h : LI M n la dy) (hl : ∀ r, r < 27 → N.1 r = M.1 r) (hh : Hh N) (h7 : ∀ r, 270 ≤ r → r < 279 → r ≠ 277 → N.1 r = M.1 r) : LI N n la dy := by
  obtain ⟨hc, _, hS, h6, hT⟩ := h
  refine LI.mk (Z := M.1 1) (P := cp M 1) (hl 1 (by decide)) (fun i hi => low_cp hl (by have := hc.2.1; omega)) hc hh (fun i hi => ?_) (fun i hi hi2 => ?_) ?_
  · rw [h7 270 (by decide) (by decide) (by decide), h7 271 (by decide) (by decide) (by decide), h7 272 (by decide) (by decide) (by decide), h7 273 (by decide) (by decide) (by decide), h7 274 (by decide) (by decide) (by decide), h7 275 (by decide) (by decide) (by decide), h7 276 (by decide) (by decide) (by decide)]
    exact hS i hi
  · rw [h7 276 (by decide) (by decide) (by decide)]; exact h6 i hi hi2
  · rw [h7 278 (by decide) (by decide) (by decide)]; exact hT
theorem upd_self {f : Nat → Int32} {k : Nat} {x : Int32} (h : f k = x) : upd f k x = f := by
  funext j
  unfold upd
  by_cases e : j = k
  · rw [if_pos e, e]; exact h.symm
  · rw [if_neg e]
theorem mset_self {M : Mm} {r j : Nat} {x : Int32} (h : M.1 r j = x) : mset M r j x = M := by
  rw [mset_row, upd_self h, mrow_self]
theorem LI.put {M : Mm} {n la dy : Nat} {g : Nat → Int32} (h : LI M n la dy) : LI (mput M 277 0 24 g) n la dy :=
  h.same (fun r hr => mput_o (by omega)) (h.2.1.row (mput_o (by decide)) rfl) (fun r _ _ h7 => mput_o h7)
theorem LI.wM {M : Mm} {n la dy : Nat} {q : (Nat → Int32) × (Nat → Int32)} (h : LI M n la dy) : LI (wM M q) n la dy :=
  h.same (fun r hr => wM_n (by omega)) (h.2.1.row (wM_n (by decide)) rfl) (fun r _ _ _ => wM_n (by omega))
theorem LI.res {M T N : Mm} {n la dy : Nat} (h : LI M n la dy) (hN : Res T N) (hl : ∀ r, r < 27 → T.1 r = M.1 r) (h7 : ∀ r, 270 ≤ r → r < 279 → r ≠ 277 → T.1 r = M.1 r) : LI N n la dy :=
  h.same (fun r hr => (hN.1 r hr).trans (hl r hr)) hN.2.2 (fun r h1 h2 h3 => (hN.2.1 r h1).trans (h7 r h1 h2 h3))
-- a point's fields after a store in its row
theorem cp_p {M : Mm} {a i j j2 : Nat} {v : Int32} : cp (mset M (1 + 2 + a) j v) 1 i j2 = if i = a ∧ j2 = j then v else cp M 1 i j2 := by rw [cp_mset_p]
theorem toV_p {P P' : Nat → Nat → Int32} {i : Nat} (h : P' i 3 = P i 3) : toV P' i = toV P i := by unfold toV; rw [h]
-- the orders
theorem c_claim {Y : Yt} {M : Mm} {n la dy s p c : Nat} (h : LI M n la dy) (hn24 : n < 24) (hs : s ≤ 1) (hp : 1 ≤ p ∧ p ≤ 9) (hc : c < 1024) : ∃ N, Fn Y yX6_claim wsX6_claim { frames := 3, cells := 0, slots := 0, locals := 68 } [.ref (Y.2.2.2.1 0), .int (nI s), .int (nI p), .int (nI c)] M (some (.int (nI n))) N ∧ (∀ r, 270 ≤ r → N.1 r = M.1 r) ∧ LI (stN9 N n dy (nI s) (nI p) (-1) (nI c)) (n + 1) la dy := by
  obtain ⟨N, h1, h2⟩ := op_claim (Y := Y) h.1 h.2.1 hn24 hs hp hc
  refine ⟨N, h1, fun r hr => (h2.2.1 r hr).trans ((fileM_fr hn24).2 r (by omega)), li_file h hn24 ?_ hp hc (Or.inl ⟨rfl, rfl⟩) h2⟩
  have : s = 0 ∨ s = 1 := by omega
  rcases this with rfl | rfl
  · exact Or.inl rfl
  · exact Or.inr rfl
theorem c_answer {Y : Yt} {M : Mm} {n la dy a p c : Nat} (h : LI M n la dy) (hn24 : n < 24) (ha : a < n) (hg : cp M 1 a 6 = 0) (hp : 1 ≤ p ∧ p ≤ 9) (hc : c < 1024) : ∃ N, Fn Y yX6_answer wsX6_answer { frames := 3, cells := 0, slots := 0, locals := 69 } [.ref (Y.2.2.2.1 0), .int (nI a), .int (nI p), .int (nI c)] M (some (.int (nI n))) N ∧ (∀ r, 270 ≤ r → N.1 r = M.1 r) ∧ LI (stN9 N n dy (1 - cp M 1 a 0) (nI p) (nI a) (nI c)) (n + 1) la dy := by
  obtain ⟨N, h1, h2⟩ := op_answer (Y := Y) h.1 h.2.1 hn24 ha hp hc hg
  have h0 := (h.1.2.2.1 a ha).1
  refine ⟨N, h1, fun r hr => (h2.2.1 r hr).trans ((fileM_fr hn24).2 r (by omega)), li_file h hn24 ?_ hp hc (Or.inr ⟨a, ha, rfl, rfl, ?_⟩) h2⟩
  · rcases h0 with e | e <;> rw [e] <;> decide
  · rcases h0 with e | e <;> rw [e] <;> decide
theorem c_answer_no {Y : Yt} {M : Mm} {n la dy a p c : Nat} (h : LI M n la dy) (hn24 : n < 24) (ha : a < n) (hg : ¬ cp M 1 a 6 = 0) (hp : 1 ≤ p ∧ p ≤ 9) (hc : c < 1024) : ∃ N, Fn Y yX6_answer wsX6_answer { frames := 3, cells := 0, slots := 0, locals := 69 } [.ref (Y.2.2.2.1 0), .int (nI a), .int (nI p), .int (nI c)] M (some (.int (-5))) N ∧ LI N n la dy := by
  obtain ⟨N, h1, h2⟩ := op_answer_no (Y := Y) h.1 h.2.1 hn24 ha hp hc hg
  exact ⟨N, h1, h.res h2 (fun _ _ => rfl) (fun _ _ _ _ => rfl)⟩
-- reasons over a state that the law's arrays hold already
theorem rs_g {Y : Yt} {A M' : Mm} {n la dy : Nat} (hc : CSv (M'.1 1) (cp M' 1) n la dy) (hS : LSt A (cp M' 1) n) (hT : A.1 278 0 = M'.1 1 4 ∧ A.1 278 1 = M'.1 1 5 ∧ A.1 278 2 = M'.1 1 2 ∧ A.1 278 3 = nI n ∧ A.1 278 4 = M'.1 1 3) : ∃ g, (∀ i, i < n → g i = wv M' n i) ∧ Fn Y yL_reasons wsL_reasons { frames := 0, cells := 0, slots := 0, locals := 0 } [.ref (Y.2.2.2.1 270), .ref (Y.2.2.2.1 271), .ref (Y.2.2.2.1 273), .ref (Y.2.2.2.1 274), .ref (Y.2.2.2.1 275), .ref (Y.2.2.2.1 276), .ref (Y.2.2.2.1 277), .ref (Y.2.2.2.1 278), .int 0] A none (mput A 277 0 24 g) := by
  obtain ⟨hz, hn, hw, h9, h5, hsd, h4, hla, h2, hdy, h50⟩ := hc
  have h := l_reasons (Y := Y) (M := A) (P := cp M' 1) (more := 0) (pg := M'.1 1 5) (ov := M'.1 1 3) (la := la) (dy := dy) (kr := 277) (ko := 0) hn hw h9 hS hla (by omega) (hT.1.trans h4) hT.2.1 (hT.2.2.1.trans h2) hT.2.2.2.1 hT.2.2.2.2 aC_277 (Or.inl rfl)
  refine ⟨_, fun i hi => ?_, h⟩
  unfold rzA wv
  rw [if_pos hi, h2, h4]
theorem c_ws {M' : Mm} {A : Mm} {n i : Nat} {g : Nat → Int32} (hn : n ≤ 24) (hg : ∀ i, i < n → g i = wv M' n i) (hi : i < n) : (mput A 277 0 24 g).1 277 i = 0 ↔ bSd M' 1 n i = true := by
  have := mput_at (M := A) (r := 277) (o := 0) (n := 24) (k := i) (g := g) (by omega)
  rw [Nat.zero_add] at this
  rw [this, hg i hi]
  exact wv_0 hi
-- withdraw
theorem wd_A {M : Mm} {n la dy a : Nat} (h : LI M n la dy) (ha : a < n) (hg : cp M 1 a 6 = 0) : CSv ((mset M (1 + 2 + a) 6 1).1 1) (cp (mset M (1 + 2 + a) 6 1) 1) n la dy ∧ LSt (mset M 276 a 1) (cp (mset M (1 + 2 + a) 6 1) 1) n := by
  obtain ⟨⟨hz, hn, hw, h9, h5, hsd, h4⟩, hh, hS, h6, hT⟩ := h
  have e1 : (mset M (1 + 2 + a) 6 1).1 1 = M.1 1 := mset_n (by omega)
  have ej : ∀ i j, j ≠ 6 → cp (mset M (1 + 2 + a) 6 1) 1 i j = cp M 1 i j := fun i j hj => by rw [cp_p, if_neg (fun g => hj g.2)]
  refine ⟨?_, fun i hi => ?_⟩
  · rw [e1]
    refine ⟨hz, hn, fun i hi => ?_, fun i hi => ?_, fun i hi => ?_, fun i t hi ht => ?_, h4⟩
    · rw [ej i 0 (by decide), ej i 3 (by decide)]
      refine ⟨(hw i hi).1, (hw i hi).2.1, ?_⟩
      rw [cp_p]
      by_cases g : i = a
      · rw [if_pos ⟨g, rfl⟩]; exact Or.inr rfl
      · rw [if_neg (fun q => g q.1)]; exact (hw i hi).2.2
    · rw [ej i 5 (by decide), ej i 2 (by decide), ej i 1 (by decide)]; exact h9 i hi
    · rw [ej i 5 (by decide)]; exact h5 i hi
    · rw [ej i 3 (by decide), ej i 0 (by decide), ej t 0 (by decide)]; exact hsd i t hi ht
  · rw [mset_n (by decide), mset_n (by decide), mset_n (by decide), mset_n (by decide), mset_n (by decide), mset_n (by decide), mset_s]
    rw [ej i 0 (by decide), ej i 1 (by decide), ej i 4 (by decide), ej i 5 (by decide), ej i 2 (by decide), toV_p (ej i 3 (by decide)), cp_p]
    refine ⟨(hS i hi).1, (hS i hi).2.1, (hS i hi).2.2.1, (hS i hi).2.2.2.1, (hS i hi).2.2.2.2.1, (hS i hi).2.2.2.2.2.1, ?_⟩
    by_cases g : i = a
    · rw [g, upd_s, if_pos ⟨rfl, rfl⟩]
    · rw [upd_n g, if_neg (fun q => g q.1)]; exact (hS i hi).2.2.2.2.2.2
theorem c_wd {Y : Yt} {M : Mm} {n la dy a : Nat} {g : Nat → Int32} (h : LI M n la dy) (ha : a < n) (hg : cp M 1 a 6 = 0) : ∃ N, Fn Y yX6_withdraw wsX6_withdraw { frames := 5, cells := 0, slots := 0, locals := 110 } [.ref (Y.2.2.2.1 0), .int (nI a)] (mput (mset M 276 a 1) 277 0 24 g) (some (.int (nI (cnt (bSd (mset M (1 + 2 + a) 6 1) 1 n) n)))) N ∧ LI N n la dy := by
  have hn := h.1.2.1
  have hl : ∀ r, r < 27 → (mput (mset M 276 a 1) 277 0 24 g).1 r = M.1 r := fun r hr => by rw [mput_o (by omega), mset_n (by omega)]
  have hc : CSv ((mput (mset M 276 a 1) 277 0 24 g).1 1) (cp (mput (mset M 276 a 1) 277 0 24 g) 1) n la dy := by
    rw [hl 1 (by decide)]
    exact h.1.cg (fun i hi => low_cp hl (by omega))
  have hh : Hh (mput (mset M 276 a 1) 277 0 24 g) := h.2.1.row (by rw [mput_o (by decide), mset_n (by decide)]) rfl
  obtain ⟨N, h1, h2⟩ := op_wd (Y := Y) hc hh ha (by rw [hl _ (by omega)]; exact hg)
  have hl2 := low_set (r := 1 + 2 + a) (j := 6) (v := 1) hl (by omega) rfl
  rw [cnt_congr (bS_cg (M := mset M (1 + 2 + a) 6 1) (fun i hi => low_cp hl2 (by omega)) (hl2 1 (by decide)))] at h1
  refine ⟨N, h1, ?_⟩
  obtain ⟨a1, a2⟩ := wd_A h ha hg
  refine LI.mk (Z := (mset M (1 + 2 + a) 6 1).1 1) (P := cp (mset M (1 + 2 + a) 6 1) 1) ?_ (fun i hi => ?_) a1 h2.2.2 (fun i hi => ?_) (fun i hi hi2 => ?_) ?_
  · rw [h2.1 1 (by decide)]; exact hl2 1 (by decide)
  · funext j
    show N.1 (1 + 2 + i) j = _
    rw [h2.1 _ (by omega), hl2 _ (by omega)]
    rfl
  · have q : ∀ r, 270 ≤ r → r ≠ 277 → N.1 r = (mset M 276 a 1).1 r := fun r h7 h8 => by rw [h2.2.1 r h7, mset_n (by omega), mput_o h8]
    rw [q 270 (by decide) (by decide), q 271 (by decide) (by decide), q 272 (by decide) (by decide), q 273 (by decide) (by decide), q 274 (by decide) (by decide), q 275 (by decide) (by decide), q 276 (by decide) (by decide)]
    exact a2 i hi
  · rw [h2.2.1 276 (by decide), mset_n (by omega), mput_o (by decide), mset_s, upd_n (by omega)]
    exact h.2.2.2.1 i hi hi2
  · rw [h2.2.1 278 (by decide), mset_n (by omega), mput_o (by decide), mset_n (by decide), mset_n (by omega)]
    exact h.2.2.2.2
theorem wd_no {M : Mm} {n la dy a : Nat} (h : LI M n la dy) (ha : a < n) (hg : ¬ cp M 1 a 6 = 0) : mset M 276 a 1 = M := mset_self (by rw [(h.2.2.1 a ha).2.2.2.2.2.2]; exact ((h.1.2.2.1 a ha).2.2).resolve_left hg)
theorem c_wd_no {Y : Yt} {M : Mm} {n la dy a : Nat} {g : Nat → Int32} (h : LI M n la dy) (ha : a < n) (hg : ¬ cp M 1 a 6 = 0) : ∃ N, Fn Y yX6_withdraw wsX6_withdraw { frames := 5, cells := 0, slots := 0, locals := 110 } [.ref (Y.2.2.2.1 0), .int (nI a)] (mput M 277 0 24 g) (some (.int (-5))) N ∧ LI N n la dy := by
  have hn := h.1.2.1
  have h := h.put (g := g)
  obtain ⟨N, h1, h2⟩ := op_wd_no (Y := Y) h.1 h.2.1 ha (by rw [mput_o (by omega)]; exact hg)
  exact ⟨N, h1, h.res h2 (fun _ _ => rfl) (fun _ _ _ _ => rfl)⟩
-- renew
theorem c_rn {Y : Yt} {M : Mm} {n la dy a : Nat} (h : LI M n la dy) (ha : a < n) (hg : ¬ (cp M 1 a 3 = -6 ∨ ¬ cp M 1 a 6 = 0)) : ∃ N, Fn Y yX6_renew wsX6_renew { frames := 3, cells := 0, slots := 0, locals := 67 } [.ref (Y.2.2.2.1 0), .int (nI a)] M (some (.int (nI dy - cp M 1 a 5))) N ∧ (∀ r, 270 ≤ r → N.1 r = M.1 r) ∧ LI (mset N 273 a (nI dy)) n la dy := by
  have hn := h.1.2.1
  have h2d := h.1.2.2.2.2.2.2.2.2.1
  obtain ⟨N, h1, h2⟩ := op_rn (Y := Y) h.1 h.2.1 ha hg
  rw [h2d] at h1 h2
  have q : ∀ r, 270 ≤ r → N.1 r = M.1 r := fun r hr => (h2.2.1 r hr).trans (mset_n (by omega))
  refine ⟨N, h1, q, ?_⟩
  obtain ⟨⟨hz, hn, hw, h9, h5, hsd, h4⟩, hh, hS, h6, hT⟩ := h
  have e1 : (mset M (1 + 2 + a) 5 (nI dy)).1 1 = M.1 1 := mset_n (by omega)
  have ej : ∀ i j, j ≠ 5 → cp (mset M (1 + 2 + a) 5 (nI dy)) 1 i j = cp M 1 i j := fun i j hj => by rw [cp_p, if_neg (fun g => hj g.2)]
  have e5 : ∀ i, i < n → (cp (mset M (1 + 2 + a) 5 (nI dy)) 1 i 5 = nI dy ∧ i = a) ∨ (cp (mset M (1 + 2 + a) 5 (nI dy)) 1 i 5 = cp M 1 i 5 ∧ i ≠ a) := fun i hi => by
    by_cases g : i = a
    · exact Or.inl ⟨by rw [cp_p, if_pos ⟨g, rfl⟩], g⟩
    · exact Or.inr ⟨by rw [cp_p, if_neg (fun q => g q.1)], g⟩
  refine LI.mk (Z := M.1 1) (P := cp (mset M (1 + 2 + a) 5 (nI dy)) 1) ?_ (fun i hi => ?_) ⟨hz, hn, fun i hi => ?_, fun i hi => ?_, fun i hi => ?_, fun i t hi ht => ?_, h4⟩ (h2.2.2.set (by decide)) (fun i hi => ?_) (fun i hi hi2 => ?_) ?_
  · rw [mset_n (by decide), h2.1 1 (by decide)]; exact e1
  · funext j
    show (mset N 273 a (nI dy)).1 (1 + 2 + i) j = _
    rw [mset_n (by omega), h2.1 _ (by omega)]
    rfl
  · rw [ej i 0 (by decide), ej i 3 (by decide), ej i 6 (by decide)]; exact hw i hi
  · rw [ej i 2 (by decide), ej i 1 (by decide)]
    refine ⟨?_, (h9 i hi).2⟩
    rcases e5 i hi with e | e
    · rw [e.1]; exact ⟨dy, h4.2.2.2.1, rfl⟩
    · rw [e.1]; exact (h9 i hi).1
  · rcases e5 i hi with e | e
    · rw [e.1]; exact ⟨dy, Nat.le_refl _, rfl⟩
    · rw [e.1]; exact h5 i hi
  · rw [ej i 3 (by decide), ej i 0 (by decide), ej t 0 (by decide)]; exact hsd i t hi ht
  · rw [mset_n (by decide), mset_n (by decide), mset_n (by decide), mset_s, mset_n (by decide), mset_n (by decide), mset_n (by decide), q 270 (by decide), q 271 (by decide), q 272 (by decide), q 273 (by decide), q 274 (by decide), q 275 (by decide), q 276 (by decide), ej i 0 (by decide), ej i 1 (by decide), ej i 4 (by decide), toV_p (ej i 3 (by decide)), ej i 2 (by decide), ej i 6 (by decide)]
    obtain ⟨s0, s1, s2, s3, s4, s5, s6⟩ := hS i hi
    refine ⟨s0, s1, s2, ?_, s4, s5, s6⟩
    rcases e5 i hi with e | e
    · rw [e.1, e.2, upd_s]
    · rw [e.1, upd_n e.2]; exact s3
  · rw [mset_n (by decide), q 276 (by decide)]; exact h6 i hi hi2
  · rw [mset_n (by decide), q 278 (by decide)]; exact hT
theorem c_rn_no {Y : Yt} {M : Mm} {n la dy a : Nat} (h : LI M n la dy) (ha : a < n) (hg : cp M 1 a 3 = -6 ∨ ¬ cp M 1 a 6 = 0) : ∃ N, Fn Y yX6_renew wsX6_renew { frames := 3, cells := 0, slots := 0, locals := 67 } [.ref (Y.2.2.2.1 0), .int (nI a)] M (some (.int (-5))) N ∧ (∀ r, 270 ≤ r → N.1 r = M.1 r) ∧ LI (mset N 273 a (cp M 1 a 5)) n la dy := by
  obtain ⟨N, h1, h2⟩ := op_rn_no (Y := Y) h.1 h.2.1 ha hg
  have q : ∀ r, 270 ≤ r → N.1 r = M.1 r := h2.2.1
  refine ⟨N, h1, q, ?_⟩
  rw [mset_self (by rw [q 273 (by decide)]; exact (h.2.2.1 a ha).2.2.2.1)]
  exact h.res h2 (fun _ _ => rfl) (fun _ _ _ _ => rfl)
-- overrule
theorem c_ov {Y : Yt} {M : Mm} {n la dy w : Nat} (h : LI M n la dy) (hw10 : w < 10) : ∃ N, Fn Y yX6_overrule wsX6_overrule { frames := 3, cells := 0, slots := 0, locals := 67 } [.ref (Y.2.2.2.1 0), .int (nI w)] (mset M 278 4 (M.1 1 3 ^^^ ((1 : Int32) <<< (nI w &&& 31)))) (some (.int (hasv (M.1 1 3 ^^^ ((1 : Int32) <<< (nI w &&& 31))) (nI w)))) N ∧ N.1 278 4 = M.1 1 3 ^^^ ((1 : Int32) <<< (nI w &&& 31)) ∧ LI N n la dy := by
  have hl : ∀ r, r < 27 → (mset M 278 4 (M.1 1 3 ^^^ ((1 : Int32) <<< (nI w &&& 31)))).1 r = M.1 r := fun r hr => mset_n (by omega)
  obtain ⟨N, h1, h2⟩ := op_ov (Y := Y) (M := mset M 278 4 (M.1 1 3 ^^^ ((1 : Int32) <<< (nI w &&& 31)))) (n := n) (la := la) (dy := dy) (by rw [hl 1 (by decide)]; exact h.1.cg (fun i hi => low_cp hl (by have := h.1.2.1; omega))) (h.2.1.set (by decide)) hw10
  rw [hl 1 (by decide)] at h1 h2
  have h8 : N.1 278 = upd (M.1 278) 4 (M.1 1 3 ^^^ ((1 : Int32) <<< (nI w &&& 31))) := by rw [h2.2.1 278 (by decide), mset_n (by decide), mset_s]
  refine ⟨N, h1, by rw [h8, upd_s], ?_⟩
  obtain ⟨hc, hh, hS, h6, hT⟩ := h
  have hc9 := hc
  obtain ⟨hz, hn, hw, h9, h5, hsd, h4, hla, h22, hdy, h50⟩ := hc
  have q : ∀ r, 270 ≤ r → r ≠ 278 → N.1 r = M.1 r := fun r hr h8 => by rw [h2.2.1 r hr, mset_n (by omega), mset_n h8]
  refine LI.mk (Z := upd (M.1 1) 3 (M.1 1 3 ^^^ ((1 : Int32) <<< (nI w &&& 31)))) (P := cp M 1) ?_ (fun i hi => ?_) ⟨by rw [upd_n (by decide)]; exact hz, hn, hw, h9, h5, hsd, by rw [upd_n (by decide)]; exact h4, hla, by rw [upd_n (by decide)]; exact h22, hdy, by rw [upd_n (by decide)]; exact h50⟩ h2.2.2 (fun i hi => ?_) (fun i hi hi2 => ?_) ?_
  · rw [h2.1 1 (by decide), mset_s, hl 1 (by decide)]
  · funext j
    show N.1 (1 + 2 + i) j = M.1 (1 + 2 + i) j
    rw [h2.1 _ (by omega), mset_n (by omega), hl _ (by omega)]
  · rw [q 270 (by decide) (by decide), q 271 (by decide) (by decide), q 272 (by decide) (by decide), q 273 (by decide) (by decide), q 274 (by decide) (by decide), q 275 (by decide) (by decide), q 276 (by decide) (by decide)]
    exact hS i hi
  · rw [q 276 (by decide) (by decide)]; exact h6 i hi hi2
  · rw [h8]
    refine ⟨?_, ?_, ?_, ?_, ?_⟩
    · rw [upd_n (by decide), upd_n (by decide)]; exact hT.1
    · rw [upd_n (by decide), upd_n (by decide)]; exact hT.2.1
    · rw [upd_n (by decide), upd_n (by decide)]; exact hT.2.2.1
    · rw [upd_n (by decide)]; exact hT.2.2.2.1
    · rw [upd_s, upd_s]
-- pass
theorem ps_A {M : Mm} {n la dy d : Nat} (h : LI M n la dy) (hd9 : dy + d ≤ 999) : CSv ((mset M 1 2 (nI (dy + d))).1 1) (cp (mset M 1 2 (nI (dy + d))) 1) n la (dy + d) ∧ LSt (mset M 278 2 (nI (dy + d))) (cp (mset M 1 2 (nI (dy + d))) 1) n ∧ (mset M 278 2 (nI (dy + d))).1 278 0 = (mset M 1 2 (nI (dy + d))).1 1 4 ∧ (mset M 278 2 (nI (dy + d))).1 278 1 = (mset M 1 2 (nI (dy + d))).1 1 5 ∧ (mset M 278 2 (nI (dy + d))).1 278 2 = (mset M 1 2 (nI (dy + d))).1 1 2 ∧ (mset M 278 2 (nI (dy + d))).1 278 3 = nI n ∧ (mset M 278 2 (nI (dy + d))).1 278 4 = (mset M 1 2 (nI (dy + d))).1 1 3 := by
  obtain ⟨⟨hz, hn, hw, h9, h5, hsd, h4, hla, h22, hdy, h50⟩, hh, hS, h6, hT⟩ := h
  rw [cp_mset_b, mset_s, mset_s]
  refine ⟨⟨by rw [upd_n (by decide)]; exact hz, hn, hw, h9, fun i hi => ?_, hsd, by rw [upd_n (by decide)]; exact h4, hla, upd_s, hd9, by rw [upd_n (by decide)]; exact h50⟩, fun i hi => ?_, ?_, ?_, ?_, ?_, ?_⟩
  · obtain ⟨s, e1, e2⟩ := h5 i hi
    exact ⟨s, by omega, e2⟩
  · rw [mset_n (by decide), mset_n (by decide), mset_n (by decide), mset_n (by decide), mset_n (by decide), mset_n (by decide), mset_n (by decide)]
    exact hS i hi
  · rw [upd_n (by decide), upd_n (by decide)]; exact hT.1
  · rw [upd_n (by decide), upd_n (by decide)]; exact hT.2.1
  · rw [upd_s, upd_s]
  · rw [upd_n (by decide)]; exact hT.2.2.2.1
  · rw [upd_n (by decide), upd_n (by decide)]; exact hT.2.2.2.2
theorem c_ps {Y : Yt} {M : Mm} {n la dy d : Nat} {g : Nat → Int32} (h : LI M n la dy) (hd : 1 ≤ d ∧ d ≤ 99) (hd9 : dy + d ≤ 999) : ∃ N, Fn Y yX6_pass wsX6_pass { frames := 5, cells := 0, slots := 0, locals := 109 } [.ref (Y.2.2.2.1 0), .int (nI d)] (mput (mset M 278 2 (nI (dy + d))) 277 0 24 g) (some (.int (nI (cnt (bSd (mset M 1 2 (nI (dy + d))) 1 n) n)))) N ∧ LI N n la (dy + d) := by
  have hn := h.1.2.1
  have hl : ∀ r, r < 27 → (mput (mset M 278 2 (nI (dy + d))) 277 0 24 g).1 r = M.1 r := fun r hr => by rw [mput_o (by omega), mset_n (by omega)]
  have hc : CSv ((mput (mset M 278 2 (nI (dy + d))) 277 0 24 g).1 1) (cp (mput (mset M 278 2 (nI (dy + d))) 277 0 24 g) 1) n la dy := by
    rw [hl 1 (by decide)]
    exact h.1.cg (fun i hi => low_cp hl (by omega))
  have hh : Hh (mput (mset M 278 2 (nI (dy + d))) 277 0 24 g) := h.2.1.row (by rw [mput_o (by decide), mset_n (by decide)]) rfl
  obtain ⟨N, h1, h2⟩ := op_ps (Y := Y) hc hh hd hd9
  have hl2 := low_set (r := 1) (j := 2) (v := nI (dy + d)) hl (by omega) rfl
  rw [cnt_congr (bS_cg (M := mset M 1 2 (nI (dy + d))) (fun i hi => low_cp hl2 (by omega)) (hl2 1 (by decide)))] at h1
  refine ⟨N, h1, ?_⟩
  obtain ⟨a1, a2, a3⟩ := ps_A h hd9
  refine LI.mk (Z := (mset M 1 2 (nI (dy + d))).1 1) (P := cp (mset M 1 2 (nI (dy + d))) 1) ?_ (fun i hi => ?_) a1 h2.2.2 (fun i hi => ?_) (fun i hi hi2 => ?_) ?_
  · rw [h2.1 1 (by decide)]; exact hl2 1 (by decide)
  · funext j
    show N.1 (1 + 2 + i) j = _
    rw [h2.1 _ (by omega), hl2 _ (by omega)]
    rfl
  · have q : ∀ r, 270 ≤ r → r ≠ 277 → N.1 r = (mset M 278 2 (nI (dy + d))).1 r := fun r h7 h8 => by rw [h2.2.1 r h7, mset_n (by omega), mput_o h8]
    rw [q 270 (by decide) (by decide), q 271 (by decide) (by decide), q 272 (by decide) (by decide), q 273 (by decide) (by decide), q 274 (by decide) (by decide), q 275 (by decide) (by decide), q 276 (by decide) (by decide)]
    exact a2 i hi
  · rw [h2.2.1 276 (by decide), mset_n (by decide), mput_o (by decide), mset_n (by decide)]
    exact h.2.2.2.1 i hi hi2
  · rw [h2.2.1 278 (by decide), mset_n (by decide), mput_o (by decide)]
    exact a3
theorem ps_no {M : Mm} {n la dy : Nat} (h : LI M n la dy) : mset M 278 2 (nI dy) = M := mset_self (h.2.2.2.2.2.2.1.trans h.1.2.2.2.2.2.2.2.2.1)
theorem c_ps_no {Y : Yt} {M : Mm} {n la dy d : Nat} {g : Nat → Int32} (h : LI M n la dy) (hd : 1 ≤ d ∧ d ≤ 99) (hd9 : ¬ dy + d ≤ 999) : ∃ N, Fn Y yX6_pass wsX6_pass { frames := 5, cells := 0, slots := 0, locals := 109 } [.ref (Y.2.2.2.1 0), .int (nI d)] (mput M 277 0 24 g) (some (.int (-5))) N ∧ LI N n la dy := by
  have h := h.put (g := g)
  obtain ⟨N, h1, h2⟩ := op_ps_no (Y := Y) h.1 h.2.1 hd hd9
  exact ⟨N, h1, h.res h2 (fun _ _ => rfl) (fun _ _ _ _ => rfl)⟩
-- set
theorem c_s0 {Y : Yt} {M : Mm} {n la dy v : Nat} (h : LI M n la dy) (hv : 1 ≤ v ∧ v ≤ 60) : ∃ N, Fn Y yX6_set wsX6_set { frames := 3, cells := 0, slots := 0, locals := 67 } [.ref (Y.2.2.2.1 0), .int 0, .int (nI v)] M (some (.int (M.1 278 0))) N ∧ (∀ r, 270 ≤ r → N.1 r = M.1 r) ∧ LI (mset N 278 0 (nI v)) n v dy := by
  obtain ⟨N, h1, h2⟩ := op_s0 (Y := Y) h.1 h.2.1 hv
  rw [← h.2.2.2.2.1] at h1
  have q : ∀ r, 270 ≤ r → N.1 r = M.1 r := fun r hr => (h2.2.1 r hr).trans (mset_n (by omega))
  refine ⟨N, h1, q, ?_⟩
  obtain ⟨⟨hz, hn, hw, h9, h5, hsd, h4, hla, h22, hdy, h50⟩, hh, hS, h6, hT⟩ := h
  refine LI.mk (Z := upd (M.1 1) 4 (nI v)) (P := cp M 1) ?_ (fun i hi => ?_) ⟨by rw [upd_n (by decide)]; exact hz, hn, hw, h9, h5, hsd, upd_s, hv.2, by rw [upd_n (by decide)]; exact h22, hdy, by rw [upd_n (by decide)]; exact h50⟩ (h2.2.2.set (by decide)) (fun i hi => ?_) (fun i hi hi2 => ?_) ?_
  · rw [mset_n (by decide), h2.1 1 (by decide), mset_s]
  · funext j
    show (mset N 278 0 (nI v)).1 (1 + 2 + i) j = M.1 (1 + 2 + i) j
    rw [mset_n (by omega), h2.1 _ (by omega), mset_n (by omega)]
  · rw [mset_n (by decide), mset_n (by decide), mset_n (by decide), mset_n (by decide), mset_n (by decide), mset_n (by decide), mset_n (by decide), q 270 (by decide), q 271 (by decide), q 272 (by decide), q 273 (by decide), q 274 (by decide), q 275 (by decide), q 276 (by decide)]
    exact hS i hi
  · rw [mset_n (by decide), q 276 (by decide)]; exact h6 i hi hi2
  · rw [mset_s, q 278 (by decide)]
    refine ⟨by rw [upd_s, upd_s], ?_, ?_, ?_, ?_⟩
    · rw [upd_n (by decide), upd_n (by decide)]; exact hT.2.1
    · rw [upd_n (by decide), upd_n (by decide)]; exact hT.2.2.1
    · rw [upd_n (by decide)]; exact hT.2.2.2.1
    · rw [upd_n (by decide), upd_n (by decide)]; exact hT.2.2.2.2
theorem c_s1 {Y : Yt} {M : Mm} {n la dy v : Nat} (h : LI M n la dy) (hv : 1 ≤ v ∧ v ≤ 99) : ∃ N, Fn Y yX6_set wsX6_set { frames := 3, cells := 0, slots := 0, locals := 67 } [.ref (Y.2.2.2.1 0), .int 1, .int (nI v)] M (some (.int (M.1 278 1))) N ∧ (∀ r, 270 ≤ r → N.1 r = M.1 r) ∧ LI (mset N 278 1 (nI v)) n la dy := by
  obtain ⟨N, h1, h2⟩ := op_s1 (Y := Y) h.1 h.2.1 hv
  rw [← h.2.2.2.2.2.1] at h1
  have q : ∀ r, 270 ≤ r → N.1 r = M.1 r := fun r hr => (h2.2.1 r hr).trans (mset_n (by omega))
  refine ⟨N, h1, q, ?_⟩
  obtain ⟨⟨hz, hn, hw, h9, h5, hsd, h4, hla, h22, hdy, h50⟩, hh, hS, h6, hT⟩ := h
  refine LI.mk (Z := upd (M.1 1) 5 (nI v)) (P := cp M 1) ?_ (fun i hi => ?_) ⟨by rw [upd_n (by decide)]; exact hz, hn, hw, h9, h5, hsd, by rw [upd_n (by decide)]; exact h4, hla, by rw [upd_n (by decide)]; exact h22, hdy, by rw [upd_s]; exact (nI_leI (a := 0) (by decide) (by omega)).mpr (Nat.zero_le _)⟩ (h2.2.2.set (by decide)) (fun i hi => ?_) (fun i hi hi2 => ?_) ?_
  · rw [mset_n (by decide), h2.1 1 (by decide), mset_s]
  · funext j
    show (mset N 278 1 (nI v)).1 (1 + 2 + i) j = M.1 (1 + 2 + i) j
    rw [mset_n (by omega), h2.1 _ (by omega), mset_n (by omega)]
  · rw [mset_n (by decide), mset_n (by decide), mset_n (by decide), mset_n (by decide), mset_n (by decide), mset_n (by decide), mset_n (by decide), q 270 (by decide), q 271 (by decide), q 272 (by decide), q 273 (by decide), q 274 (by decide), q 275 (by decide), q 276 (by decide)]
    exact hS i hi
  · rw [mset_n (by decide), q 276 (by decide)]; exact h6 i hi hi2
  · rw [mset_s, q 278 (by decide)]
    refine ⟨?_, by rw [upd_s, upd_s], ?_, ?_, ?_⟩
    · rw [upd_n (by decide), upd_n (by decide)]; exact hT.1
    · rw [upd_n (by decide), upd_n (by decide)]; exact hT.2.2.1
    · rw [upd_n (by decide)]; exact hT.2.2.2.1
    · rw [upd_n (by decide), upd_n (by decide)]; exact hT.2.2.2.2
