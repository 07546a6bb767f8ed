theorem upd_u {f : Nat → Int32} {k : Nat} {x y : Int32} : upd (upd f k x) k y = upd f k y := by
  funext j
  unfold upd
  split <;> rfl
theorem nI_ne6 {n : Nat} (h : n < 2 ^ 31) : ¬ nI n = -6 := fun e => nI_nlt (Nat.zero_le n) h (by rw [e]; decide)
theorem pM_init {M : Mm} : mset (mset (mset M 270 12 0) 270 13 0) 270 14 (-6) = pM M (M.1 280) (upd (M.1 270) 12 (nI 0)) 0 (-6) := by
  unfold pM rq
  rw [show mrow M 280 (M.1 280) = M from mrow_self]
  rw [mset_row, mset_row, mrow_s, mset_row, mrow_s, mrow_mrow, mrow_mrow]
  rfl
def rdB (s : Nat → Int32) (l p : Nat) : Bool := decide ((ordT s l p (-6)).2 = -6) && decide ((ordT s l p (-6)).1 < l)
def rdF (s : Nat → Int32) (l : Nat) : Nat → Nat → Nat → (Nat → Int32) → (Int32 × Nat × (Nat → Int32) × Nat)
  | 0, m, a, o => (-6, a, o, m)
  | f + 1, m, a, o =>
    if rdB s l a = true then
      if chB s l (ordT s l a (-6)).1 = 59 then rdF s l f (m + 1) ((ordT s l a (-6)).1 + 1) (ordO s l a (-6) o m)
      else (nI (ordT s l a (-6)).1, (ordT s l a (-6)).1 + 1, ordO s l a (-6) o m, m + 1)
    else ((ordT s l a (-6)).2, (ordT s l a (-6)).1, ordO s l a (-6) o m, m + 1)
def rdG (s : Nat → Int32) (l k p : Nat) (w : Int32) (b : Bool) (o : Nat → Int32) : Int32 × Nat × (Nat → Int32) × Nat := if b = true then rdF s l (27 - k) k p o else (w, p, o, k)
theorem wn_ok {a : Nat} {w : Int32} {b : Bool} (ha : a < 2 ^ 31) (h : (wn a w b).2 = -6) : w = -6 ∧ b = true ∧ (wn a w b).1 = a + 1 := by
  unfold wn at h ⊢
  by_cases hw : w = -6
  · rw [if_pos hw] at h ⊢
    cases b
    · exact absurd h (nI_ne6 ha)
    · exact ⟨hw, rfl, rfl⟩
  · rw [if_neg hw] at h
    exact absurd h hw
theorem dg_ok {s : Nat → Int32} {l : Nat} {x y : Int32} {t : Nat × Int32} (ha : t.1 < 2 ^ 31) (h : (dgS s l x y t).2 = -6) : t.2 = -6 ∧ (dgS s l x y t).1 = t.1 + 1 := by
  have g := wn_ok ha h
  exact ⟨g.1, g.2.2⟩
theorem nm_ok {s : Nat → Int32} {l : Nat} {t : Nat × Int32} (ha : t.1 < 2 ^ 31) (h : (nmS s l t).2 = -6) : t.2 = -6 ∧ t.1 + 1 ≤ (nmS s l t).1 := by
  unfold nmS at h ⊢
  split at h
  · rename_i q
    have g := dg_ok ha h
    rw [if_pos q]
    exact ⟨g.1, by show t.1 + 1 ≤ (dgS s l 0 9 t).1 + 1; omega⟩
  · rename_i q
    have g := dg_ok ha h
    rw [if_neg q]
    exact ⟨g.1, by omega⟩
theorem ct_ok {s : Nat → Int32} {l : Nat} {t : Nat × Int32} (ha : t.1 + 1 < 2 ^ 31) (h : (ctS s l t).2 = -6) : t.2 = -6 ∧ t.1 ≤ (ctS s l t).1 := by
  unfold ctS at h ⊢
  split at h
  · rename_i q
    have g := dg_ok (t := (t.1 + 1, t.2)) ha h
    rw [if_pos q]
    refine ⟨g.1, ?_⟩
    show t.1 ≤ (ctF s l 81 (ct1 s l t).1 (ct1 s l t).2 (ctX s l t)).1
    unfold ctF
    have e : (ct1 s l t).1 = t.1 + 1 + 1 := g.2
    by_cases q6 : (ct1 s l t).2 = -6
    · rw [if_pos q6]
      have := (ctL_le (s := s) (l := l) 81 (ct1 s l t).1 (ctX s l t)).1
      omega
    · rw [if_neg q6]
      show t.1 ≤ (ct1 s l t).1
      omega
  · rename_i q
    rw [if_neg q]
    exact ⟨h, Nat.le_refl _⟩
theorem oT2_ok {s : Nat → Int32} {l : Nat} {c : Int32} {t : Nat × Int32} (ha : t.1 < 2 ^ 31) (h : (oT2 s l c t).2 = -6) : t.2 = -6 ∧ t.1 + 1 ≤ (oT2 s l c t).1 := by
  unfold oT2 at h ⊢
  by_cases h1 : c = 99
  · rw [if_pos h1] at h ⊢
    have g := dg_ok ha h
    exact ⟨g.1, by omega⟩
  · rw [if_neg h1] at h ⊢
    by_cases h2 : c = 111
    · rw [if_pos h2] at h ⊢
      have g := dg_ok ha h
      exact ⟨g.1, by omega⟩
    · rw [if_neg h2] at h ⊢
      exact nm_ok ha h
theorem oTa_ok {s : Nat → Int32} {l a : Nat} (ha : a < 1000) (h : (oTa s l a (-6)).2 = -6) : isO (chB s l a) = true ∧ a + 2 ≤ (oTa s l a (-6)).1 := by
  have hb : (oT1 s l a (-6)).1 ≤ a + 1 := wn_le.2
  have g := oT2_ok (by omega) h
  have g2 := wn_ok (by omega) g.1
  refine ⟨g2.2.1, ?_⟩
  have e : (oT1 s l a (-6)).1 = a + 1 := g2.2.2
  have := g.2
  rw [e] at this
  exact this
theorem ordT_ok {s : Nat → Int32} {l a : Nat} (ha : a < 900) (h : (ordT s l a (-6)).2 = -6) : isO (chB s l a) = true ∧ a + 2 ≤ (ordT s l a (-6)).1 := by
  unfold ordT at h ⊢
  have hb1 : (oT1 s l a (-6)).1 ≤ a + 1 := wn_le.2
  have hb2 : (oTa s l a (-6)).1 ≤ (oT1 s l a (-6)).1 + 2 := oT2_le.2
  have hb3 := oTb_le (s := s) (l := l) (t := oTa s l a (-6))
  by_cases q : chB s l a = 99 ∨ chB s l a = 97
  · rw [if_pos q] at h ⊢
    have g := ct_ok (by omega) h
    have g1 := dg_ok (by omega) g.1
    have g2 := wn_ok (by omega) g1.1
    have g3 := oTa_ok (by omega) g2.1
    refine ⟨g3.1, ?_⟩
    have e1 : (oTb s l (oTa s l a (-6))).1 = (oT3 s l (oTa s l a (-6))).1 + 1 := g1.2
    have e2 : (oT3 s l (oTa s l a (-6))).1 = (oTa s l a (-6)).1 + 1 := g2.2.2
    have := g.2
    omega
  · rw [if_neg q] at h ⊢
    exact oTa_ok (by omega) h
theorem ctL_ub {s : Nat → Int32} {l p : Nat} {x : Int32} (f : Nat) : (ctL s l f p x).1 ≤ p + l := by
  rcases Nat.le_total p l with h | h
  · have := (ctL_le (s := s) (l := l) f p x).2 h
    omega
  · cases f with
    | zero => exact Nat.le_add_right p l
    | succ f =>
      unfold ctL
      rw [if_neg (by rw [chB_big h]; decide)]
      exact Nat.le_add_right p l
theorem ctS_ub {s : Nat → Int32} {l : Nat} {t : Nat × Int32} : (ctS s l t).1 ≤ t.1 + 2 + l := by
  have h : (ct1 s l t).1 ≤ t.1 + 1 + 1 := wn_le.2
  unfold ctS
  split
  · show (ctF s l 81 (ct1 s l t).1 (ct1 s l t).2 (ctX s l t)).1 ≤ _
    unfold ctF
    by_cases q6 : (ct1 s l t).2 = -6
    · rw [if_pos q6]
      have := ctL_ub (s := s) (l := l) (p := (ct1 s l t).1) (x := ctX s l t) 81
      omega
    · rw [if_neg q6]
      show (ct1 s l t).1 ≤ _
      omega
  · omega
theorem ordT_lt {s : Nat → Int32} {l a : Nat} {w : Int32} (ha : a ≤ 800) (hl : l ≤ 80) : (ordT s l a w).1 < 900 := by
  unfold ordT
  have hb1 : (oT1 s l a w).1 ≤ a + 1 := wn_le.2
  have hb2 : (oTa s l a w).1 ≤ (oT1 s l a w).1 + 2 := oT2_le.2
  have hb3 := oTb_le (s := s) (l := l) (t := oTa s l a w)
  have hb4 := ctS_ub (s := s) (l := l) (t := oTb s l (oTa s l a w))
  split <;> omega
