def rq (q : Nat → Int32) (a : Nat) (w : Int32) : Nat → Int32 := upd (upd q 13 (nI a)) 14 w
theorem rq_13 {q : Nat → Int32} {a b : Nat} {w : Int32} : upd (rq q a w) 13 (nI b) = rq q b w := by
  funext j
  unfold rq upd
  by_cases h : j = 14
  · subst h; simp
  · by_cases h2 : j = 13
    · subst h2; simp
    · simp [h, h2]
theorem rq_14 {q : Nat → Int32} {a : Nat} {w v : Int32} : upd (rq q a w) 14 v = rq q a v := by
  funext j
  unfold rq upd
  by_cases h : j = 14
  · subst h; simp
  · simp [h]
theorem rq_r13 {q : Nat → Int32} {a : Nat} {w : Int32} : rq q a w 13 = nI a := rfl
theorem rq_r14 {q : Nat → Int32} {a : Nat} {w : Int32} : rq q a w 14 = w := rfl
theorem rq_n {q : Nat → Int32} {a j : Nat} {w : Int32} (h : j ≠ 13 ∧ j ≠ 14) : rq q a w j = q j := by unfold rq; rw [upd_n h.2, upd_n h.1]
theorem rq_u {q : Nat → Int32} {a j : Nat} {w v : Int32} (h : j ≠ 13 ∧ j ≠ 14) : upd (rq q a w) j v = rq (upd q j v) a w := by
  funext i
  unfold rq upd
  by_cases h14 : i = 14
  · subst h14; have : ¬ 14 = j := fun e => h.2 e.symm
    simp [this]
  · by_cases h13 : i = 13
    · subst h13; have : ¬ 13 = j := fun e => h.1 e.symm
      simp [this]
    · simp [h14, h13]
theorem rq_self {q : Nat → Int32} {a : Nat} (h : q 13 = nI a) : rq q a (q 14) = q := by
  funext j
  unfold rq upd
  by_cases h14 : j = 14
  · subst h14; simp
  · by_cases h13 : j = 13
    · subst h13; simp [h]
    · simp [h14, h13]
def pM (M : Mm) (o q : Nat → Int32) (a : Nat) (w : Int32) : Mm := mrow (mrow M 280 o) 270 (rq q a w)
theorem pM_o {M : Mm} {o q : Nat → Int32} {a j : Nat} {w v : Int32} : mset (pM M o q a w) 280 j v = pM M (upd o j v) q a w := by
  unfold pM
  rw [mset_row, mrow_n (by decide), mrow_s, mrow_comm (k := 270) (k2 := 280) (by decide), mrow_mrow]
theorem pM_13 {M : Mm} {o q : Nat → Int32} {a b : Nat} {w : Int32} : mset (pM M o q a w) 270 13 (nI b) = pM M o q b w := by
  unfold pM
  rw [mset_mrow, rq_13]
theorem pM_14 {M : Mm} {o q : Nat → Int32} {a : Nat} {w v : Int32} : mset (pM M o q a w) 270 14 v = pM M o q a v := by
  unfold pM
  rw [mset_mrow, rq_14]
theorem pM_u {M : Mm} {o q : Nat → Int32} {a j : Nat} {w v : Int32} (h : j ≠ 13 ∧ j ≠ 14) : mset (pM M o q a w) 270 j v = pM M o (upd q j v) a w := by
  unfold pM
  rw [mset_mrow, rq_u h]
theorem pM_r {M : Mm} {o q : Nat → Int32} {a : Nat} {w : Int32} : (pM M o q a w).1 270 = rq q a w := mrow_s
theorem pM_ro {M : Mm} {o q : Nat → Int32} {a : Nat} {w : Int32} : (pM M o q a w).1 280 = o := by unfold pM; rw [mrow_n (by decide), mrow_s]
theorem pM_n {M : Mm} {o q : Nat → Int32} {a k : Nat} {w : Int32} (h : k ≠ 270 ∧ k ≠ 280) : (pM M o q a w).1 k = M.1 k := by unfold pM; rw [mrow_n h.1, mrow_n h.2]
def chB (s : Nat → Int32) (l a : Nat) : Int32 := if a < l then s a else -6
def RpOK (M : Mm) (s q : Nat → Int32) (l : Nat) : Prop := M.1 275 = s ∧ q 6 = nI l ∧ l ≤ 80
def wn (a : Nat) (w : Int32) (b : Bool) : Nat × Int32 := if w = -6 then (a + 1, if b = true then -6 else nI a) else (a, w)
def dgv (s : Nat → Int32) (l a : Nat) : Int32 := chB s l a - 48
def dgS (s : Nat → Int32) (l : Nat) (lo hi : Int32) (t : Nat × Int32) : Nat × Int32 := wn t.1 t.2 (inv (dgv s l t.1) lo hi)
def nmB (s : Nat → Int32) (l : Nat) (t : Nat × Int32) : Bool := decide ((dgS s l 0 9 t).2 = -6) && (!decide (dgv s l t.1 ≤ 0) && inv (dgv s l (dgS s l 0 9 t).1) 0 9)
def nmV (s : Nat → Int32) (l : Nat) (t : Nat × Int32) : Int32 := if nmB s l t = true then 10 * dgv s l t.1 + dgv s l (dgS s l 0 9 t).1 else dgv s l t.1
def nmS (s : Nat → Int32) (l : Nat) (t : Nat × Int32) : Nat × Int32 := if nmB s l t = true then ((dgS s l 0 9 t).1 + 1, (dgS s l 0 9 t).2) else dgS s l 0 9 t
def ctL (s : Nat → Int32) (l : Nat) : Nat → Nat → Int32 → Nat × Int32
  | 0, a, x => (a, x)
  | f + 1, a, x => if inv (dgv s l a) 0 9 = true then ctL s l f (a + 1) (x ||| ((1 : Int32) <<< (dgv s l a &&& 31))) else (a, x)
def ctB (s : Nat → Int32) (l : Nat) (t : Nat × Int32) : Bool := decide (t.2 = -6) && decide (chB s l t.1 = 43)
def ct1 (s : Nat → Int32) (l : Nat) (t : Nat × Int32) : Nat × Int32 := dgS s l 0 9 (t.1 + 1, t.2)
def ctF (s : Nat → Int32) (l f p : Nat) (w x : Int32) : Nat × Int32 := if w = -6 then ctL s l f p x else (p, x)
def ctX (s : Nat → Int32) (l : Nat) (t : Nat × Int32) : Int32 := if (ct1 s l t).2 = -6 then (1 : Int32) <<< (dgv s l (t.1 + 1) &&& 31) else 0
def ctE (s : Nat → Int32) (l : Nat) (t : Nat × Int32) : Nat × Int32 := ctF s l 81 (ct1 s l t).1 (ct1 s l t).2 (ctX s l t)
def ctV (s : Nat → Int32) (l : Nat) (t : Nat × Int32) : Int32 := if ctB s l t = true then (ctE s l t).2 else 0
def ctS (s : Nat → Int32) (l : Nat) (t : Nat × Int32) : Nat × Int32 := if ctB s l t = true then ((ctE s l t).1, (ct1 s l t).2) else t
theorem chB_big {s : Nat → Int32} {l a : Nat} (h : l ≤ a) : inv (dgv s l a) 0 9 = false := by
  unfold dgv chB
  rw [if_neg (by omega)]
  decide
theorem wn_le {a : Nat} {w : Int32} {b : Bool} : a ≤ (wn a w b).1 ∧ (wn a w b).1 ≤ a + 1 := by
  unfold wn
  split
  · exact ⟨Nat.le_succ a, Nat.le_refl _⟩
  · exact ⟨Nat.le_refl a, Nat.le_succ a⟩
theorem ctF_n {s : Nat → Int32} {l f p : Nat} {w x : Int32} (h : ¬ w = -6) : ctF s l f p w x = (p, x) := by unfold ctF; rw [if_neg h]
theorem ctF_0 {s : Nat → Int32} {l f p : Nat} {x : Int32} (h : inv (dgv s l p) 0 9 = false) : ctF s l f p (-6) x = (p, x) := by
  unfold ctF
  rw [if_pos rfl]
  cases f with
  | zero => rfl
  | succ f => unfold ctL; rw [if_neg (by rw [h]; decide)]
theorem ctF_s {s : Nat → Int32} {l f p : Nat} {x : Int32} (h : inv (dgv s l p) 0 9 = true) : ctF s l (f + 1) p (-6) x = ctF s l f (p + 1) (-6) (x ||| ((1 : Int32) <<< (dgv s l p &&& 31))) := by
  unfold ctF
  rw [if_pos rfl, if_pos rfl]
  show (if inv (dgv s l p) 0 9 = true then _ else _) = _
  rw [if_pos h]
theorem ctL_le {s : Nat → Int32} {l : Nat} : ∀ f p (x : Int32), p ≤ (ctL s l f p x).1 ∧ (p ≤ l → (ctL s l f p x).1 ≤ l) := by
  intro f
  induction f with
  | zero => intro p x; exact ⟨Nat.le_refl _, fun h => h⟩
  | succ f ih =>
    intro p x
    unfold ctL
    by_cases h : inv (dgv s l p) 0 9 = true
    · rw [if_pos h]
      have hp : p < l := by
        rcases Nat.lt_or_ge p l with q | q
        · exact q
        · rw [chB_big q] at h; exact absurd h (by decide)
      exact ⟨Nat.le_trans (Nat.le_succ p) (ih _ _).1, fun _ => (ih _ _).2 hp⟩
    · rw [if_neg h]
      exact ⟨Nat.le_refl _, fun h => h⟩
