theorem one_ne : ¬ (1 : Int32) = 0 := by decide
def Sg (s s2 : Nat → Int32) (l : Nat) : Prop := l ≤ 80 ∧ ∀ i, i < l → s i = s2 i ∧ ∃ c, 33 ≤ c ∧ c ≤ 126 ∧ s2 i = nI c
theorem sg_c {s s2 : Nat → Int32} {l a : Nat} (h : Sg s s2 l) : (l ≤ a ∧ chA s l a = 0 ∧ chB s2 l a = -6) ∨ (a < l ∧ ∃ c, c < 127 ∧ 33 ≤ c ∧ chA s l a = nI c ∧ chB s2 l a = nI c) := by
  unfold chA chB
  by_cases g : a < l
  · right
    obtain ⟨e, c, h1, h2, h3⟩ := h.2 a g
    exact ⟨g, c, by omega, h1, by rw [if_pos g, e, h3], by rw [if_pos g, h3]⟩
  · left
    exact ⟨by omega, if_neg g, if_neg g⟩
def Dg (lo hi LO HI : Int32) : Prop := (∀ c, c < 127 → inv (nI c - 48) lo hi = !decide (nI c < LO ∨ ¬ nI c ≤ HI)) ∧ inv (-6 - 48) lo hi = false ∧ (0 : Int32) < LO
theorem dg01 : Dg 0 1 48 49 := by unfold Dg; exact ⟨by decide +kernel, by decide, by decide⟩
theorem dg09 : Dg 0 9 48 57 := by unfold Dg; exact ⟨by decide +kernel, by decide, by decide⟩
theorem dg19 : Dg 1 9 49 57 := by unfold Dg; exact ⟨by decide +kernel, by decide, by decide⟩
theorem c_td {s s2 : Nat → Int32} {l a : Nat} {lo hi LO HI : Int32} {q : Nat → Int32} (hD : Dg lo hi LO HI) (h : Sg s s2 l) :
    (inv (dgv s2 l a) lo hi = false ∧ td s l LO HI a q = (0, a, q)) ∨ (inv (dgv s2 l a) lo hi = true ∧ a < l ∧ td s l LO HI a q = (1, a + 1, upd (upd q 1 (dgv s2 l a)) 0 (nI (a + 1)))) := by
  unfold dgv td
  rcases sg_c (a := a) h with ⟨g, e1, e2⟩ | ⟨g, c, hc, h33, e1, e2⟩
  · left
    rw [e1, e2]
    exact ⟨hD.2.1, if_pos (Or.inl hD.2.2)⟩
  · rw [e1, e2, hD.1 c hc]
    by_cases d : nI c < LO ∨ ¬ nI c ≤ HI
    · left; exact ⟨by rw [decide_eq_true d]; rfl, if_pos d⟩
    · right; exact ⟨by rw [decide_eq_false d]; rfl, g, if_neg d⟩
theorem c_ch {s s2 : Nat → Int32} {l a : Nat} {c : Int32} (hc : ¬ c = 0 ∧ ¬ c = -6) (h : Sg s s2 l) : chA s l a = c ↔ chB s2 l a = c := by
  rcases sg_c (a := a) h with ⟨g, e1, e2⟩ | ⟨g, d, hd, h33, e1, e2⟩
  · rw [e1, e2]
    exact ⟨fun e => absurd e.symm hc.1, fun e => absurd e.symm hc.2⟩
  · rw [e1, e2]
theorem c_lt {s s2 : Nat → Int32} {l a : Nat} {c : Int32} (hc : ¬ c = -6) (h : chB s2 l a = c) : a < l := by
  unfold chB at h
  by_cases g : a < l
  · exact g
  · rw [if_neg g] at h; exact absurd h.symm hc
theorem c_tk {s s2 : Nat → Int32} {l a : Nat} {c : Int32} {q : Nat → Int32} (hc : ¬ c = 0 ∧ ¬ c = -6) (h : Sg s s2 l) :
    (chB s2 l a = c ∧ a < l ∧ tkc s l c a q = (1, a + 1, upd q 0 (nI (a + 1)))) ∨ (¬ chB s2 l a = c ∧ tkc s l c a q = (0, a, q)) := by
  unfold tkc
  by_cases g : chB s2 l a = c
  · left
    exact ⟨g, c_lt (s := s) hc.2 g, if_pos ((c_ch hc h).mpr g)⟩
  · right
    exact ⟨g, if_neg (fun e => g ((c_ch hc h).mp e))⟩
theorem c_rdg {s s2 : Nat → Int32} {l a : Nat} {lo hi LO HI : Int32} {q : Nat → Int32} (hD : Dg lo hi LO HI) (h : Sg s s2 l) :
    (inv (dgv s2 l a) lo hi = false ∧ rdg s l LO HI a q = (0, a, q)) ∨ (inv (dgv s2 l a) lo hi = true ∧ a < l ∧ rdg s l LO HI a q = (1, a + 1, upd (upd (upd q 1 (dgv s2 l a)) 0 (nI (a + 1))) 3 (dgv s2 l a))) := by
  unfold rdg
  rcases c_td (a := a) (q := q) hD h with ⟨g, e⟩ | ⟨g, g2, e⟩
  · left
    rw [e]
    exact ⟨g, if_pos rfl⟩
  · right
    rw [e]
    exact ⟨g, g2, if_neg one_ne⟩
theorem dgS_t {s : Nat → Int32} {l a : Nat} {lo hi : Int32} (h : inv (dgv s l a) lo hi = true) : dgS s l lo hi (a, -6) = (a + 1, -6) := by
  show wn a (-6) (inv (dgv s l a) lo hi) = _
  unfold wn
  rw [if_pos rfl, h]
  rfl
theorem dgS_f {s : Nat → Int32} {l a : Nat} {lo hi : Int32} (h : inv (dgv s l a) lo hi = false) : dgS s l lo hi (a, -6) = (a + 1, nI a) := by
  show wn a (-6) (inv (dgv s l a) lo hi) = _
  unfold wn
  rw [if_pos rfl, h]
  rfl
theorem wn_t {a : Nat} {b : Bool} (h : b = true) : wn a (-6) b = (a + 1, -6) := by unfold wn; rw [if_pos rfl, h]; rfl
theorem wn_f {a : Nat} {b : Bool} (h : b = false) : wn a (-6) b = (a + 1, nI a) := by unfold wn; rw [if_pos rfl, h]; rfl
theorem wn_k {a : Nat} {w : Int32} {b : Bool} (h : ¬ w = -6) : wn a w b = (a, w) := if_neg h
theorem dgS_k {s : Nat → Int32} {l : Nat} {lo hi : Int32} {t : Nat × Int32} (h : ¬ t.2 = -6) : dgS s l lo hi t = t := wn_k h
theorem nmB_t {s : Nat → Int32} {l a : Nat} (h : inv (dgv s l a) 0 9 = true) : nmB s l (a, -6) = (!decide (dgv s l a ≤ 0) && inv (dgv s l (a + 1)) 0 9) := by
  unfold nmB
  rw [dgS_t h]
  show (decide ((-6 : Int32) = -6) && _) = _
  rw [decide_eq_true rfl, Bool.true_and]
theorem c_rnm {s s2 : Nat → Int32} {l a : Nat} {q : Nat → Int32} (h : Sg s s2 l) :
    (inv (dgv s2 l a) 0 9 = false ∧ rnm s l a q = (0, a, q)) ∨ (inv (dgv s2 l a) 0 9 = true ∧ (nmS s2 l (a, -6)).2 = -6 ∧ ∃ q', rnm s l a q = (1, (nmS s2 l (a, -6)).1, q') ∧ q' 3 = nmV s2 l (a, -6) ∧ q' 2 = q 2) := by
  rcases c_rdg (a := a) (q := q) dg09 h with ⟨g, e⟩ | ⟨g, g2, e⟩
  · left
    refine ⟨g, ?_⟩
    unfold rnm
    rw [e]
    exact if_pos rfl
  · right
    have hB := nmB_t g
    have ed := dgS_t g
    refine ⟨g, ?_⟩
    unfold nmS nmV
    rw [hB, ed]
    have er : rnm s l a q = if dgv s2 l a ≤ 0 then (1, a + 1, upd (upd (upd q 1 (dgv s2 l a)) 0 (nI (a + 1))) 3 (dgv s2 l a)) else rnm2 s l (1, a + 1, upd (upd (upd q 1 (dgv s2 l a)) 0 (nI (a + 1))) 3 (dgv s2 l a)) := by
      unfold rnm
      rw [e]
      exact if_neg one_ne
    rw [er]
    by_cases d : dgv s2 l a ≤ 0
    · rw [if_pos d, decide_eq_true d]
      exact ⟨rfl, _, rfl, rfl, rfl⟩
    · rw [if_neg d, decide_eq_false d]
      unfold rnm2
      rcases c_td (a := a + 1) (q := upd (upd (upd q 1 (dgv s2 l a)) 0 (nI (a + 1))) 3 (dgv s2 l a)) dg09 h with ⟨k, ek⟩ | ⟨k, k2, ek⟩
      · rw [k]
        refine ⟨rfl, upd (upd (upd q 1 (dgv s2 l a)) 0 (nI (a + 1))) 3 (dgv s2 l a), ?_, rfl, rfl⟩
        show (if (td s l 48 57 (a + 1) (upd (upd (upd q 1 (dgv s2 l a)) 0 (nI (a + 1))) 3 (dgv s2 l a))).1 = 0 then _ else _) = _
        rw [ek]
        exact if_pos rfl
      · rw [k]
        refine ⟨rfl, upd (upd (upd (upd (upd (upd q 1 (dgv s2 l a)) 0 (nI (a + 1))) 3 (dgv s2 l a)) 1 (dgv s2 l (a + 1))) 0 (nI (a + 1 + 1))) 3 (10 * dgv s2 l a + dgv s2 l (a + 1)), ?_, rfl, rfl⟩
        show (if (td s l 48 57 (a + 1) (upd (upd (upd q 1 (dgv s2 l a)) 0 (nI (a + 1))) 3 (dgv s2 l a))).1 = 0 then _ else _) = _
        rw [ek]
        exact if_neg one_ne
theorem c_rcl {s s2 : Nat → Int32} {l : Nat} (h : Sg s s2 l) : ∀ (f a : Nat) (q : Nat → Int32) (x : Int32), q 5 = x → (rcl s l f a q).1 = (ctL s2 l f a x).1 ∧ (rcl s l f a q).2 5 = (ctL s2 l f a x).2 ∧ (rcl s l f a q).2 2 = q 2 ∧ (rcl s l f a q).2 3 = q 3 ∧ (rcl s l f a q).2 4 = q 4 := by
  intro f
  induction f with
  | zero => intro a q x hq; exact ⟨rfl, hq, rfl, rfl, rfl⟩
  | succ f ih =>
    intro a q x hq
    rw [rcl, ctL]
    rcases c_td (a := a) (q := q) dg09 h with ⟨g, e⟩ | ⟨g, g2, e⟩
    · rw [e, if_pos rfl, if_neg (by rw [g]; decide)]
      exact ⟨rfl, hq, rfl, rfl, rfl⟩
    · rw [e, if_neg one_ne, if_pos g]
      exact ih (a + 1) (upd (upd (upd q 1 (dgv s2 l a)) 0 (nI (a + 1))) 5 (q 5 ||| ((1 : Int32) <<< (dgv s2 l a &&& 31)))) _ (by rw [upd_s, hq])
theorem ctL_s {s : Nat → Int32} {l f a : Nat} {x : Int32} (k : inv (dgv s l a) 0 9 = true) : ctL s l (f + 1) a x = ctL s l f (a + 1) (x ||| ((1 : Int32) <<< (dgv s l a &&& 31))) := by rw [ctL, if_pos k]
theorem ctL_n {s : Nat → Int32} {l f a : Nat} {x : Int32} (k : inv (dgv s l a) 0 9 = false) : ctL s l (f + 1) a x = (a, x) := by rw [ctL, if_neg (by rw [k]; decide)]
theorem ctL_f {s : Nat → Int32} {l : Nat} : ∀ (f g a : Nat) (x : Int32), l ≤ a + f → l ≤ a + g → ctL s l f a x = ctL s l g a x := by
  intro f
  induction f with
  | zero =>
    intro g a x h1 h2
    cases g with
    | zero => rfl
    | succ g => rw [ctL, ctL, if_neg (by rw [chB_big (by omega)]; decide)]
  | succ f ih =>
    intro g a x h1 h2
    cases g with
    | zero => rw [ctL, ctL, if_neg (by rw [chB_big (by omega)]; decide)]
    | succ g =>
      rw [ctL, ctL, ih g (a + 1) _ (by omega) (by omega)]
theorem ctL_b {s : Nat → Int32} {l d : Nat} : ∀ (f a : Nat) (x : Int32), bt x d = true → bt (ctL s l f a x).2 d = true := by
  intro f
  induction f with
  | zero => intro a x h; exact h
  | succ f ih =>
    intro a x h
    rw [ctL]
    split
    · exact ih _ _ (by rw [b_or, h]; rfl)
    · exact h
theorem inv09 {v : Int32} (h : inv v 0 9 = true) : ∃ j, j < 10 ∧ v = nI j := by
  have g := inv_iff.mp h
  rcases pk_ix v (n := 10) (by decide) with q | q | q
  · exact absurd q g.1
  · refine absurd ?_ g.2
    rw [Int32.lt_iff_toInt_lt]
    rw [Int32.le_iff_toInt_le] at q
    have a : (nI 10).toInt = 10 := by decide
    have b : (9 : Int32).toInt = 9 := by decide
    omega
  · exact q
theorem c_rcs {s s2 : Nat → Int32} {l a : Nat} {q : Nat → Int32} (h : Sg s s2 l) (ha : a ≤ l) :
    (¬ (ctS s2 l (a, -6)).2 = -6 ∧ (rcs s l a q).1 = 0 ∧ (ctS s2 l (a, -6)).2 = nI (rcs s l a q).2.1) ∨
    ((ctS s2 l (a, -6)).2 = -6 ∧ ∃ q', rcs s l a q = (1, (ctS s2 l (a, -6)).1, q') ∧ q' 2 = q 2 ∧ q' 3 = q 3 ∧ q' 4 = q 4 ∧ q' 5 = ctV s2 l (a, -6)) := by
  have hl := h.1
  have hb : ctB s2 l (a, -6) = decide (chB s2 l a = 43) := by
    unfold ctB
    show (decide ((-6 : Int32) = -6) && _) = _
    rw [decide_eq_true rfl, Bool.true_and]
  unfold ctS ctV
  rw [hb]
  rcases c_tk (a := a) (c := 43) (q := upd q 5 0) (by decide) h with ⟨g, g2, e⟩ | ⟨g, e⟩
  · rw [decide_eq_true g, if_pos rfl, if_pos rfl]
    have er : rcs s l a q = (if (rcl s l 80 (a + 1) (upd (upd q 5 0) 0 (nI (a + 1)))).2 5 = 0 then 0 else 1, rcl s l 80 (a + 1) (upd (upd q 5 0) 0 (nI (a + 1)))) := by
      unfold rcs
      rw [e]
      exact if_neg one_ne
    obtain ⟨r1, r2, r3, r4, r5⟩ := c_rcl h 80 (a + 1) (upd (upd q 5 0) 0 (nI (a + 1))) 0 rfl
    rcases Bool.eq_false_or_eq_true (inv (dgv s2 l (a + 1)) 0 9) with k | k
    · right
      have e1 : ct1 s2 l (a, -6) = (a + 1 + 1, -6) := dgS_t k
      have h80 : ctL s2 l 80 (a + 1) 0 = ctL s2 l 79 (a + 1 + 1) ((1 : Int32) <<< (dgv s2 l (a + 1) &&& 31)) := by
        have := ctL_s (s := s2) (l := l) (f := 79) (a := a + 1) (x := 0) k
        rw [Int32.zero_or] at this
        exact this
      have eX : ctX s2 l (a, -6) = (1 : Int32) <<< (dgv s2 l (a + 1) &&& 31) := by
        unfold ctX
        rw [e1]
        exact if_pos rfl
      have eE : ctE s2 l (a, -6) = ctL s2 l 80 (a + 1) 0 := by
        unfold ctE
        rw [e1, eX]
        show ctF s2 l 81 (a + 1 + 1) (-6) _ = _
        unfold ctF
        rw [if_pos rfl]
        rw [h80]
        exact ctL_f 81 79 _ _ (by omega) (by omega)
      rw [e1, eE]
      refine ⟨rfl, (rcl s l 80 (a + 1) (upd (upd q 5 0) 0 (nI (a + 1)))).2, ?_, r3, r4, r5, r2⟩
      rw [er, if_neg, ← r1]
      rw [r2, h80]
      obtain ⟨d, hd, ed⟩ := inv09 k
      intro q0
      have hbt := ctL_b (s := s2) (l := l) (d := d) 79 (a + 1 + 1) ((1 : Int32) <<< (dgv s2 l (a + 1) &&& 31)) (by rw [ed, bt_one (by omega) (by omega)]; exact decide_eq_true rfl)
      rw [q0, b_0] at hbt
      exact absurd hbt (by decide)
    · left
      have e1 : ct1 s2 l (a, -6) = (a + 1 + 1, nI (a + 1)) := dgS_f k
      have e0 : ctL s2 l 80 (a + 1) 0 = (a + 1, 0) := ctL_n (f := 79) k
      rw [e0] at r1 r2
      rw [e1, er, r2, if_pos rfl]
      refine ⟨nI_ne6 (by omega), rfl, ?_⟩
      show nI (a + 1) = nI (rcl s l 80 (a + 1) (upd (upd q 5 0) 0 (nI (a + 1)))).1
      rw [r1]
  · right
    rw [decide_eq_false g, if_neg (by decide), if_neg (by decide)]
    refine ⟨rfl, upd q 5 0, ?_, rfl, rfl, rfl, rfl⟩
    unfold rcs
    rw [e]
    exact if_pos rfl
theorem ctS_k {s : Nat → Int32} {l : Nat} {t : Nat × Int32} (h : ¬ t.2 = -6) : ctS s l t = t := by
  unfold ctS ctB
  rw [decide_eq_false h, Bool.false_and]
  rfl
theorem nmS_k {s : Nat → Int32} {l : Nat} {t : Nat × Int32} (h : ¬ t.2 = -6) : nmS s l t = t := by
  unfold nmS nmB
  rw [dgS_k h, decide_eq_false h, Bool.false_and]
  rfl
theorem c_rpp {s s2 : Nat → Int32} {l a : Nat} {q : Nat → Int32} (h : Sg s s2 l) (ha : a ≤ l) :
    (¬ (ctS s2 l (oTb s2 l (a, -6))).2 = -6 ∧ (rpp s l a q).1 = 0 ∧ (ctS s2 l (oTb s2 l (a, -6))).2 = nI (rpp s l a q).2.1) ∨
    ((ctS s2 l (oTb s2 l (a, -6))).2 = -6 ∧ ∃ q', rpp s l a q = (1, (ctS s2 l (oTb s2 l (a, -6))).1, q') ∧ q' 2 = q 2 ∧ q' 3 = q 3 ∧ q' 4 = dgv s2 l (oT3 s2 l (a, -6)).1 ∧ q' 5 = ctV s2 l (oTb s2 l (a, -6))) := by
  have hl := h.1
  unfold oTb
  rcases c_tk (a := a) (c := 47) (q := q) (by decide) h with ⟨g, g2, e⟩ | ⟨g, e⟩
  · have e3 : oT3 s2 l (a, -6) = (a + 1, -6) := wn_t (decide_eq_true g)
    rw [e3]
    rcases c_td (a := a + 1) (q := upd q 0 (nI (a + 1))) dg19 h with ⟨k, ek⟩ | ⟨k, k2, ek⟩
    · left
      have er : rpp s l a q = (0, a + 1, upd q 0 (nI (a + 1))) := by
        unfold rpp
        rw [e, if_neg one_ne]
        show (if (td s l 49 57 (a + 1) (upd q 0 (nI (a + 1)))).1 = 0 then _ else _) = _
        rw [ek]
        exact if_pos rfl
      rw [dgS_f k, er, ctS_k (t := (a + 1 + 1, nI (a + 1))) (nI_ne6 (by omega))]
      exact ⟨nI_ne6 (by omega), rfl, rfl⟩
    · have er : rpp s l a q = rcs s l (a + 1 + 1) (upd (upd (upd (upd q 0 (nI (a + 1))) 1 (dgv s2 l (a + 1))) 0 (nI (a + 1 + 1))) 4 (dgv s2 l (a + 1))) := by
        unfold rpp
        rw [e, if_neg one_ne]
        show (if (td s l 49 57 (a + 1) (upd q 0 (nI (a + 1)))).1 = 0 then _ else _) = _
        rw [ek]
        exact if_neg one_ne
      rw [dgS_t k, er]
      exact c_rcs (a := a + 1 + 1) h k2
  · left
    have e3 : oT3 s2 l (a, -6) = (a + 1, nI a) := wn_f (decide_eq_false g)
    have er : rpp s l a q = (0, a, q) := by
      unfold rpp
      rw [e]
      exact if_pos rfl
    rw [e3, er, dgS_k (t := (a + 1, nI a)) (nI_ne6 (by omega)), ctS_k (t := (a + 1, nI a)) (nI_ne6 (by omega))]
    exact ⟨nI_ne6 (by omega), rfl, rfl⟩
