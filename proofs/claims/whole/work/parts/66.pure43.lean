def Oq (s : Nat → Int32) (l a : Nat) (q : Nat → Int32) : Prop := q 2 = chB s l a ∧ q 3 = oV1 s l (chB s l a) (a + 1, -6) ∧ ((chB s l a = 99 ∨ chB s l a = 97) → q 4 = dgv s l (oT3 s l (oTa s l a (-6))).1 ∧ q 5 = ctV s l (oTb s l (oTa s l a (-6)))) ∧ (chB s l a = 111 → ∃ j, j < 10 ∧ q 3 = nI j) ∧ isO (chB s l a) = true
theorem isO_n {c : Int32} (h : ¬ c = 99 ∧ ¬ c = 97 ∧ ¬ c = 119 ∧ ¬ c = 114 ∧ ¬ c = 116 ∧ ¬ c = 111) : isO c = false := by
  obtain ⟨h1, h2, h3, h4, h5, h6⟩ := h
  unfold isO
  rw [decide_eq_false h1, decide_eq_false h2, decide_eq_false h3, decide_eq_false h4, decide_eq_false h5, decide_eq_false h6]
  rfl
theorem c_thn {s s2 : Nat → Int32} {l a b : Nat} {q q1 : Nat → Int32} (h : Sg s s2 l) (hb : b ≤ l) (h2 : q1 2 = chB s2 l a) (h3 : q1 3 = oV1 s2 l (chB s2 l a) (a + 1, -6)) (hT : oTa s2 l a (-6) = (b, -6)) (hc : chB s2 l a = 99 ∨ chB s2 l a = 97) (hr : ror s l a q = thn (1, b, q1) (rpp s l b q1)) :
    (¬ (ordT s2 l a (-6)).2 = -6 ∧ (ror s l a q).1 = 0 ∧ (ordT s2 l a (-6)).2 = nI (ror s l a q).2.1) ∨
    ((ordT s2 l a (-6)).2 = -6 ∧ ∃ q', ror s l a q = (1, (ordT s2 l a (-6)).1, q') ∧ Oq s2 l a q') := by
  have eT : ordT s2 l a (-6) = ctS s2 l (oTb s2 l (b, -6)) := by
    unfold ordT
    rw [if_pos hc, hT]
  have et : thn (1, b, q1) (rpp s l b q1) = (if (rpp s l b q1).1 = 0 then 0 else 1, (rpp s l b q1).2) := by
    unfold thn
    exact if_neg one_ne
  rw [hr, et, eT]
  rcases c_rpp (a := b) (q := q1) h hb with ⟨k1, k2, k3⟩ | ⟨k1, q', k2, p2, p3, p4, p5⟩
  · left
    exact ⟨k1, if_pos k2, k3⟩
  · right
    refine ⟨k1, q', ?_, p2.trans h2, p3.trans h3, fun _ => ⟨by rw [p4, hT], by rw [p5, hT]⟩, fun e => ?_, ?_⟩
    · rw [k2]
      exact congrArg (fun x => (x, _)) (if_neg one_ne)
    · rw [e] at hc
      exact absurd hc (by decide)
    · rcases hc with e | e <;> rw [e] <;> decide
theorem c_ror {s s2 : Nat → Int32} {l a : Nat} {q : Nat → Int32} (h : Sg s s2 l) (ha : a ≤ l) :
    (¬ (ordT s2 l a (-6)).2 = -6 ∧ (ror s l a q).1 = 0 ∧ (ordT s2 l a (-6)).2 = nI (ror s l a q).2.1) ∨
    ((ordT s2 l a (-6)).2 = -6 ∧ ∃ q', ror s l a q = (1, (ordT s2 l a (-6)).1, q') ∧ Oq s2 l a q') := by
  have hl := h.1
  have hch : ∀ c : Int32, ¬ c = 0 → ¬ c = -6 → (chA s l a = c ↔ chB s2 l a = c) := fun c h1 h2 => c_ch ⟨h1, h2⟩ h
  have hne : ∀ c d : Int32, ¬ c = 0 → ¬ c = -6 → ¬ d = c → chB s2 l a = d → ¬ chA s l a = c := fun c d h1 h2 h3 e g => h3 (e.symm.trans ((hch c h1 h2).mp g))
  rcases ord7 (chB s2 l a) with e | e | e | e | e | e | e
  · skip
    have eA : chA s l a = 99 := (hch 99 (by decide) (by decide)).mpr e
    have hlt : a < l := c_lt (s := s) (by decide) e
    have e1 : oT1 s2 l a (-6) = (a + 1, -6) := wn_t (by rw [e]; rfl)
    have eV : oV1 s2 l (chB s2 l a) (a + 1, -6) = dgv s2 l (a + 1) := by rw [e]; rfl
    have eT : oTa s2 l a (-6) = dgS s2 l 0 1 (a + 1, -6) := by unfold oTa; rw [e1, e]; rfl
    have er : ror s l a q = thn (rdg s l 48 49 (a + 1) (upd (upd q 2 99) 0 (nI (a + 1)))) (rpp s l (rdg s l 48 49 (a + 1) (upd (upd q 2 99) 0 (nI (a + 1)))).2.1 (rdg s l 48 49 (a + 1) (upd (upd q 2 99) 0 (nI (a + 1)))).2.2) := by
      unfold ror
      rw [if_pos eA, eA]
    rcases c_rdg (a := a + 1) (q := upd (upd q 2 99) 0 (nI (a + 1))) dg01 h with ⟨k, ek⟩ | ⟨k, k2, ek⟩
    · left
      rw [ek] at er
      have e3 : oTa s2 l a (-6) = (a + 1 + 1, nI (a + 1)) := eT.trans (dgS_f k)
      have hn6 : ¬ nI (a + 1) = -6 := nI_ne6 (by omega)
      have e4 : ordT s2 l a (-6) = (a + 1 + 1, nI (a + 1)) := by
        unfold ordT
        rw [if_pos (Or.inl e), e3]
        unfold oTb oT3
        rw [wn_k (a := (a + 1 + 1, nI (a + 1)).1) (w := (a + 1 + 1, nI (a + 1)).2) hn6, dgS_k (t := (a + 1 + 1, nI (a + 1))) hn6, ctS_k (t := (a + 1 + 1, nI (a + 1))) hn6]
      rw [e4, er]
      exact ⟨hn6, rfl, rfl⟩
    · rw [ek] at er
      exact c_thn h k2 e.symm (eV.symm ▸ rfl) (eT.trans (dgS_t k)) (Or.inl e) er
  · skip
    have eA : chA s l a = 97 := (hch 97 (by decide) (by decide)).mpr e
    have hlt : a < l := c_lt (s := s) (by decide) e
    have e1 : oT1 s2 l a (-6) = (a + 1, -6) := wn_t (by rw [e]; rfl)
    have eV : oV1 s2 l (chB s2 l a) (a + 1, -6) = nmV s2 l (a + 1, -6) := by rw [e]; rfl
    have eT : oTa s2 l a (-6) = nmS s2 l (a + 1, -6) := by unfold oTa; rw [e1, e]; rfl
    have er : ror s l a q = thn (rnm s l (a + 1) (upd (upd q 2 97) 0 (nI (a + 1)))) (rpp s l (rnm s l (a + 1) (upd (upd q 2 97) 0 (nI (a + 1)))).2.1 (rnm s l (a + 1) (upd (upd q 2 97) 0 (nI (a + 1)))).2.2) := by
      unfold ror
      rw [if_neg (by rw [eA]; decide), if_pos eA, eA]
    have hu := rnm_ok (s := s) (l := l) (a := a + 1) (q := upd (upd q 2 97) 0 (nI (a + 1))) upd_s (by omega)
    rcases c_rnm (a := a + 1) (q := upd (upd q 2 97) 0 (nI (a + 1))) h with ⟨k, ek⟩ | ⟨k, k6, q1, ek, k3, k2⟩
    · left
      rw [ek] at er
      have hn6 : ¬ nI (a + 1) = -6 := nI_ne6 (by omega)
      have e3 : oTa s2 l a (-6) = (a + 1 + 1, nI (a + 1)) := by
        rw [eT]
        unfold nmS nmB
        rw [dgS_f k]
        show (if (decide (nI (a + 1) = -6) && _) = true then _ else _) = _
        rw [decide_eq_false hn6, Bool.false_and]
        rfl
      have e4 : ordT s2 l a (-6) = (a + 1 + 1, nI (a + 1)) := by
        unfold ordT
        rw [if_pos (Or.inr e), e3]
        unfold oTb oT3
        rw [wn_k (a := (a + 1 + 1, nI (a + 1)).1) (w := (a + 1 + 1, nI (a + 1)).2) hn6, dgS_k (t := (a + 1 + 1, nI (a + 1))) hn6, ctS_k (t := (a + 1 + 1, nI (a + 1))) hn6]
      rw [e4, er]
      exact ⟨hn6, rfl, rfl⟩
    · rw [ek] at er hu
      refine c_thn h hu.2 (k2.trans e.symm) (k3.trans eV.symm) (eT.trans (Prod.ext rfl k6)) (Or.inr e) er
  · skip
    have eA : chA s l a = 119 := (hch 119 (by decide) (by decide)).mpr e
    have hlt : a < l := c_lt (s := s) (by decide) e
    have e1 : oT1 s2 l a (-6) = (a + 1, -6) := wn_t (by rw [e]; rfl)
    have eV : oV1 s2 l (chB s2 l a) (a + 1, -6) = nmV s2 l (a + 1, -6) := by rw [e]; rfl
    have eT : ordT s2 l a (-6) = nmS s2 l (a + 1, -6) := by
      unfold ordT oTa
      rw [if_neg (by rw [e]; decide), e1, e]
      rfl
    have er : ror s l a q = rnm s l (a + 1) (upd (upd q 2 119) 0 (nI (a + 1))) := by
      unfold ror
      rw [if_neg (by rw [eA]; decide), if_neg (by rw [eA]; decide), if_pos (Or.inl eA), eA]
    rw [eT, er]
    rcases c_rnm (a := a + 1) (q := upd (upd q 2 119) 0 (nI (a + 1))) h with ⟨k, ek⟩ | ⟨k, k6, q1, ek, k3, k2⟩
    · left
      have hn6 : ¬ nI (a + 1) = -6 := nI_ne6 (by omega)
      have e3 : nmS s2 l (a + 1, -6) = (a + 1 + 1, nI (a + 1)) := by
        unfold nmS nmB
        rw [dgS_f k]
        show (if (decide (nI (a + 1) = -6) && _) = true then _ else _) = _
        rw [decide_eq_false hn6, Bool.false_and]
        rfl
      rw [e3, ek]
      exact ⟨hn6, rfl, rfl⟩
    · right
      refine ⟨k6, q1, ek, k2.trans e.symm, k3.trans eV.symm, fun g => absurd g (by rw [e]; decide), fun g => absurd g (by rw [e]; decide), by rw [e]; rfl⟩
  · skip
    have eA : chA s l a = 114 := (hch 114 (by decide) (by decide)).mpr e
    have hlt : a < l := c_lt (s := s) (by decide) e
    have e1 : oT1 s2 l a (-6) = (a + 1, -6) := wn_t (by rw [e]; rfl)
    have eV : oV1 s2 l (chB s2 l a) (a + 1, -6) = nmV s2 l (a + 1, -6) := by rw [e]; rfl
    have eT : ordT s2 l a (-6) = nmS s2 l (a + 1, -6) := by
      unfold ordT oTa
      rw [if_neg (by rw [e]; decide), e1, e]
      rfl
    have er : ror s l a q = rnm s l (a + 1) (upd (upd q 2 114) 0 (nI (a + 1))) := by
      unfold ror
      rw [if_neg (by rw [eA]; decide), if_neg (by rw [eA]; decide), if_pos (Or.inr (Or.inl eA)), eA]
    rw [eT, er]
    rcases c_rnm (a := a + 1) (q := upd (upd q 2 114) 0 (nI (a + 1))) h with ⟨k, ek⟩ | ⟨k, k6, q1, ek, k3, k2⟩
    · left
      have hn6 : ¬ nI (a + 1) = -6 := nI_ne6 (by omega)
      have e3 : nmS s2 l (a + 1, -6) = (a + 1 + 1, nI (a + 1)) := by
        unfold nmS nmB
        rw [dgS_f k]
        show (if (decide (nI (a + 1) = -6) && _) = true then _ else _) = _
        rw [decide_eq_false hn6, Bool.false_and]
        rfl
      rw [e3, ek]
      exact ⟨hn6, rfl, rfl⟩
    · right
      refine ⟨k6, q1, ek, k2.trans e.symm, k3.trans eV.symm, fun g => absurd g (by rw [e]; decide), fun g => absurd g (by rw [e]; decide), by rw [e]; rfl⟩
  · skip
    have eA : chA s l a = 116 := (hch 116 (by decide) (by decide)).mpr e
    have hlt : a < l := c_lt (s := s) (by decide) e
    have e1 : oT1 s2 l a (-6) = (a + 1, -6) := wn_t (by rw [e]; rfl)
    have eV : oV1 s2 l (chB s2 l a) (a + 1, -6) = nmV s2 l (a + 1, -6) := by rw [e]; rfl
    have eT : ordT s2 l a (-6) = nmS s2 l (a + 1, -6) := by
      unfold ordT oTa
      rw [if_neg (by rw [e]; decide), e1, e]
      rfl
    have er : ror s l a q = rnm s l (a + 1) (upd (upd q 2 116) 0 (nI (a + 1))) := by
      unfold ror
      rw [if_neg (by rw [eA]; decide), if_neg (by rw [eA]; decide), if_pos (Or.inr (Or.inr eA)), eA]
    rw [eT, er]
    rcases c_rnm (a := a + 1) (q := upd (upd q 2 116) 0 (nI (a + 1))) h with ⟨k, ek⟩ | ⟨k, k6, q1, ek, k3, k2⟩
    · left
      have hn6 : ¬ nI (a + 1) = -6 := nI_ne6 (by omega)
      have e3 : nmS s2 l (a + 1, -6) = (a + 1 + 1, nI (a + 1)) := by
        unfold nmS nmB
        rw [dgS_f k]
        show (if (decide (nI (a + 1) = -6) && _) = true then _ else _) = _
        rw [decide_eq_false hn6, Bool.false_and]
        rfl
      rw [e3, ek]
      exact ⟨hn6, rfl, rfl⟩
    · right
      refine ⟨k6, q1, ek, k2.trans e.symm, k3.trans eV.symm, fun g => absurd g (by rw [e]; decide), fun g => absurd g (by rw [e]; decide), by rw [e]; rfl⟩
  · skip
    have eA : chA s l a = 111 := (hch 111 (by decide) (by decide)).mpr e
    have e1 : oT1 s2 l a (-6) = (a + 1, -6) := wn_t (by rw [e]; rfl)
    have hlt : a < l := c_lt (s := s) (by decide) e
    have eV : oV1 s2 l (chB s2 l a) (a + 1, -6) = dgv s2 l (a + 1) := by rw [e]; rfl
    have eT : ordT s2 l a (-6) = dgS s2 l 0 9 (a + 1, -6) := by
      unfold ordT oTa
      rw [if_neg (by rw [e]; decide), e1, e]
      rfl
    have er : ror s l a q = rdg s l 48 57 (a + 1) (upd (upd q 2 111) 0 (nI (a + 1))) := by
      unfold ror
      rw [if_neg (by rw [eA]; decide), if_neg (by rw [eA]; decide), if_neg (by rw [eA]; decide), if_pos eA, eA]
    rw [eT, er]
    rcases c_rdg (a := a + 1) (q := upd (upd q 2 111) 0 (nI (a + 1))) dg09 h with ⟨k, ek⟩ | ⟨k, k2, ek⟩
    · left
      have hn6 : ¬ nI (a + 1) = -6 := nI_ne6 (by omega)
      rw [dgS_f k, ek]
      exact ⟨hn6, rfl, rfl⟩
    · right
      rw [dgS_t k, ek]
      refine ⟨rfl, _, rfl, e.symm, ?_, fun g => absurd g (by rw [e]; decide), fun _ => ?_, by rw [e]; rfl⟩
      · rw [eV]; rfl
      · exact inv09 k
  · skip
    left
    have hn6 : ¬ nI a = -6 := nI_ne6 (by omega)
    have hO := isO_n ⟨e.1, e.2.1, e.2.2.1, e.2.2.2.1, e.2.2.2.2.1, e.2.2.2.2.2⟩
    have e1 : oT1 s2 l a (-6) = (a + 1, nI a) := wn_f hO
    have n99 : ¬ chA s l a = 99 := fun g => e.1 ((hch 99 (by decide) (by decide)).mp g)
    have n97 : ¬ chA s l a = 97 := fun g => e.2.1 ((hch 97 (by decide) (by decide)).mp g)
    have n119 : ¬ chA s l a = 119 := fun g => e.2.2.1 ((hch 119 (by decide) (by decide)).mp g)
    have n114 : ¬ chA s l a = 114 := fun g => e.2.2.2.1 ((hch 114 (by decide) (by decide)).mp g)
    have n116 : ¬ chA s l a = 116 := fun g => e.2.2.2.2.1 ((hch 116 (by decide) (by decide)).mp g)
    have n111 : ¬ chA s l a = 111 := fun g => e.2.2.2.2.2 ((hch 111 (by decide) (by decide)).mp g)
    have er : ror s l a q = (0, a, upd q 2 (chA s l a)) := by
      unfold ror
      rw [if_neg n99, if_neg n97, if_neg (fun g => g.elim n119 (fun g => g.elim n114 n116)), if_neg n111]
    have eT : ordT s2 l a (-6) = (a + 1, nI a) := by
      unfold ordT oTa oT2
      rw [if_neg (fun g => g.elim e.1 e.2.1), if_neg e.1, if_neg e.2.2.2.2.2, e1, nmS_k (t := (a + 1, nI a)) hn6]
    rw [er, eT]
    exact ⟨hn6, rfl, rfl⟩
