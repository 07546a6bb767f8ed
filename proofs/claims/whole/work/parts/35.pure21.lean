theorem cnt_mono {p q : Nat → Bool} {n : Nat} (h : ∀ i, p i = true → q i = true) : cnt p n ≤ cnt q n := by
  induction n with
  | zero => exact Nat.le_refl _
  | succ n ih =>
    rw [cnt, cnt]
    by_cases g : p n = true
    · rw [if_pos g, if_pos (h n g)]; omega
    · rw [if_neg g]; omega
theorem mk_0 {q : Nat → Bool} {n : Nat} (h : cnt q n = 0) : mk q n = 0 := by
  rw [mk_congr (q := fun _ => false) (fun i hi => ?_)]
  · induction n with
    | zero => rfl
    | succ n ih => rw [mk, ih (by rw [cnt] at h; omega), if_neg (by decide)]
  · induction n with
    | zero => omega
    | succ n ih =>
      rw [cnt] at h
      by_cases e : i = n
      · subst e
        cases hq : q i
        · rfl
        · rw [if_pos hq] at h; omega
      · exact ih (by omega) (by omega)
theorem fzL_0 {f : Nat} {v : UInt32} {p : Int32} (h : 0 ≤ fzC v) : fzL f v p = (v, p) := by
  cases f with
  | zero => rfl
  | succ f => rw [fzL, if_pos h]
theorem fzE_s {f : Nat} {v : UInt32} (h : fzE f v = true) (hc : ¬ 0 ≤ fzC v) : ∃ f2, f = f2 + 1 ∧ vf_n32 (FP.fmul v 1073741824) ∧ fzE f2 (FP.fmul v 1073741824) = true := by
  cases f with
  | zero => exact absurd (of_decide_eq_true h) hc
  | succ f =>
    rw [fzE, decide_eq_false hc, Bool.false_or, Bool.and_eq_true] at h
    exact ⟨f, rfl, (by unfold vf_n32; exact of_decide_eq_true h.1), h.2⟩
theorem bzE_s {v : UInt32} (h : bzE v = true) (hc : ¬ Op.cmpValue (FP.fcmp v 0) .l = 0) : fzE 6 v = true ∧ vf_n32 (FP.fmul (bzT v).1 1258291200) := by
  unfold bzE at h
  rw [decide_eq_false hc, Bool.false_or, Bool.and_eq_true] at h
  exact ⟨h.1, by unfold vf_n32; exact of_decide_eq_true h.2⟩
abbrev fbX (w x : Int64) (e : Int32) : Prop := 0 ≤ lg_cmp x w ∨ e ≤ 0
def fbE (w : Int64) : Nat → Int64 → Int32 → Bool
  | 0, x, e => decide (fbX w x e)
  | f + 1, x, e => decide (fbX w x e) || fbE w f (x * 2) (e + Int32.ofInt (-1))
theorem fbL_0 {w : Int64} {f : Nat} {x : Int64} {e : Int32} (h : fbX w x e) : fbL w f x e = (x, e) := by
  cases f with
  | zero => rfl
  | succ f => rw [fbL, if_pos h]
theorem fbE_s {w : Int64} {f : Nat} {x : Int64} {e : Int32} (h : fbE w f x e = true) (hc : ¬ fbX w x e) : ∃ f2, f = f2 + 1 ∧ fbE w f2 (x * 2) (e + Int32.ofInt (-1)) = true := by
  cases f with
  | zero => exact absurd (of_decide_eq_true h) hc
  | succ f =>
    rw [fbE, decide_eq_false hc, Bool.false_or] at h
    exact ⟨f, rfl, h⟩
theorem fb_all : ∀ w, w < 25 → w = 0 ∨ ((nI w).toInt64 ≠ 0 ∧ ∀ a, a < 25 → a = 0 ∨ fbE (nI w).toInt64 6 (nI a).toInt64 127 = true) := by decide +kernel
def clP (P : Nat → Nat → Int32) (t : Int32) : Nat → Bool := fun i => pTo P (-6) i && pSd P t i
def shF (M : Mm) (n : Nat) (t : Int32) : Int32 := if cnt (clP (cp M 1) t) n = 0 then -6 else fbR (cnt (fun i => clP (cp M 1) t i && bSd M 1 n i) n) (cnt (clP (cp M 1) t) n)
def clQ (Z : Nat → Int32) (t : Int32) : Nat → Bool := fun i => pCl (rp Z) i && pSd (rp Z) t i
def shG (M : Mm) (n : Nat) (t : Int32) : Int32 := if cnt (clQ (M.1 271) t) n = 0 then -6 else bzR (shV (cnt (fun i => clQ (M.1 271) t i && (lkW M n i == 0)) n) (cnt (clQ (M.1 271) t) n))
