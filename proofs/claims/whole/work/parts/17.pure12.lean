theorem lk_z {M : Mm} {n : Nat} : (lkM M n).1 271 = M.1 271 := wt_z
theorem lk_w {M : Mm} {n : Nat} : (lkM M n).1 276 = lkW M n := wt_r6
theorem lk_t {M : Mm} {n : Nat} : (lkM M n).1 277 = tkR M n := wt_r7
theorem lk_n {M : Mm} {n k : Nat} (h : k ≠ 276 ∧ k ≠ 277) : (lkM M n).1 k = M.1 k := wt_n h
theorem rc_z {M : Mm} {k : Nat} : (rcM M k).1 271 = M.1 271 := rcM_n (by decide)
theorem WFr_upd {Z : Nat → Int32} {n i : Nat} {w : Nat} {v : Int32} (hw : w = 3 ∨ (w = 6 ∧ (v = 0 ∨ v = 1))) (h : WF (rp Z) n) : WF (rp (upd Z (5 + 7 * i + w) v)) n := by
  intro k hk
  obtain ⟨h0, h3, h6⟩ := h k hk
  have e0 : rp (upd Z (5 + 7 * i + w) v) k 0 = rp Z k 0 := upd_n (by show 5 + 7 * k + 0 ≠ _; omega)
  have e3 : rp (upd Z (5 + 7 * i + w) v) k 3 = rp Z k 3 := upd_n (by show 5 + 7 * k + 4 ≠ _; omega)
  rw [e0, e3]
  refine ⟨h0, h3, ?_⟩
  by_cases g : 5 + 7 * k + 6 = 5 + 7 * i + w
  · have e6 : rp (upd Z (5 + 7 * i + w) v) k 6 = v := by show upd Z _ v (5 + 7 * k + 6) = v; rw [g, upd_s]
    rw [e6]
    rcases hw with hw | hw
    · omega
    · exact hw.2
  · have e6 : rp (upd Z (5 + 7 * i + w) v) k 6 = rp Z k 6 := upd_n g
    rw [e6]; exact h6
theorem WFr_hd {Z : Nat → Int32} {n j : Nat} {v : Int32} (hj : j < 5) (h : WF (rp Z) n) : WF (rp (upd Z j v)) n := by
  refine WF_ext (fun i _ => ?_) h
  exact ⟨(upd_n (f := Z) (k := j) (x := v) (show 5 + 7 * i + 0 ≠ j by omega)).symm, (upd_n (f := Z) (k := j) (x := v) (show 5 + 7 * i + 4 ≠ j by omega)).symm, (upd_n (f := Z) (k := j) (x := v) (show 5 + 7 * i + 6 ≠ j by omega)).symm⟩
def roR (M : Mm) (n i : Nat) (w : Int32) : Int32 := if w = 0 then M.1 271 (5 + 7 * i + 0) else if w = 1 then M.1 271 (5 + 7 * i + 1) else if w = 2 then M.1 271 (5 + 7 * i + 2) else if w = 3 then M.1 271 (5 + 7 * i + 4) else if w = 4 then M.1 271 (5 + 7 * i + 5) else if w = 5 then (if lkW M n i = 0 then 1 else 0) else if w = 6 then lkW M n i else if w = 7 then low (lkW M n) n (nI i) (rp (M.1 271)) (n - (i + 1)) (i + 1) else if w = 8 then mk (pTo (rp (M.1 271)) (nI i)) n else if w = 9 then nI (dpN (rp (M.1 271)) (i + 1) i) else if w = 10 then dyR (M.1 271) i else -2
def stW (M : Mm) (n : Nat) : Nat → Bool := fun i => lkW M n i == 0
def rcR (M : Mm) (n : Nat) (w : Int32) : Int32 := if w = 0 then M.1 271 2 else if w = 1 then M.1 271 3 else if w = 2 then nI (cnt (pCl (rp (M.1 271))) n) else if w = 3 then nI (cnt (stW M n) n) else if w = 4 then nI (cnt (fun i => stW M n i && pCl (rp (M.1 271)) i) n) else if w = 5 then nI (cnt (fun i => inv (lkW M n i) 1 4) n) else if w = 6 then nI (cnt (fun i => lkW M n i == 5) n) else if w = 7 then tkR M n 0 else if w = 8 then tkR M n 1 else if w = 9 then M.1 271 4 else if w = 10 then M.1 271 0 else if w = 11 then M.1 271 1 else if w = 12 then M.1 270 6 else if w = 13 then M.1 270 4 else -2
def rpR (M : Mm) (n : Nat) (w : Int32) : Int32 := if w = 0 then mk (stW M n) n else if w = 1 then mk (fun i => stW M n i && pCl (rp (M.1 271)) i) n else if w = 2 then mk (fun i => inv (lkW M n i) 1 4) n else if w = 3 then mk (fun i => lkW M n i == 5) n else if w = 4 then mk (pSd (rp (M.1 271)) 0) n else if w = 5 then mk (pSd (rp (M.1 271)) 1) n else -2
def smR (P : Nat → Nat → Int32) (s : Int32) (Z : Nat → Int32) : Nat → Int32
  | 0 => 0
  | k + 1 => smR P s Z k + (if P k 0 = s ∧ wd1 Z k = false then P k 1 else 0)
def rlN (Z : Nat → Int32) (n : Nat) : Nat → Int32
  | 0 => 1
  | s + 1 => if smR (rp Z) (nI s) Z n ≤ rlN Z n s then rlN Z n s else smR (rp Z) (nI s) Z n
def lcF (P : Nat → Nat → Int32) (t : Int32) (fl : Nat → Int32) (i : Nat) : Nat → Int32
  | 0 => 0
  | a + 1 => if i < a ∧ P a 3 = t then lcF P t fl i a + fl a else lcF P t fl i a
def lcL (P : Nat → Nat → Int32) (t : Int32) (st : Nat → Int32) (i : Nat) (x0 : Int32) : Nat → Int32
  | 0 => x0
  | a + 1 => if i < a ∧ P a 3 = t then (if lcL P t st i x0 a ≤ st a then lcL P t st i x0 a else st a) else lcL P t st i x0 a
def lcS (M : Mm) (n : Nat) : Nat → (Nat → Int32) × (Nat → Int32)
  | 0 => (M.1 278, M.1 279)
  | k + 1 => (upd (lcS M n k).1 (n - 1 - k) (if inv (lkW M n (n - 1 - k)) 1 4 = true ∨ ¬ lcF (rp (M.1 271)) (nI (n - 1 - k)) (lcS M n k).2 (n - 1 - k) n < 1000 then 1000 else lcF (rp (M.1 271)) (nI (n - 1 - k)) (lcS M n k).2 (n - 1 - k) n),
     upd (lcS M n k).2 (n - 1 - k) (if inv (lkW M n (n - 1 - k)) 1 4 = true then 0 else lcL (rp (M.1 271)) (nI (n - 1 - k)) (lcS M n k).1 (n - 1 - k) (if mk (pTo (rp (M.1 271)) (nI (n - 1 - k))) n = 0 then 1 else 1000) n))
def cst (M : Mm) (q : (Nat → Int32) × (Nat → Int32)) : Mm := mrow (mrow M 278 q.1) 279 q.2
theorem cst_8 {M : Mm} {q : (Nat → Int32) × (Nat → Int32)} {j : Nat} {v : Int32} : mset (cst M q) 278 j v = cst M (upd q.1 j v, q.2) := by
  unfold cst
  rw [mset_row, mrow_n (by decide), mrow_s, mrow_comm (k := 279) (k2 := 278) (by decide), mrow_mrow]
theorem cst_9 {M : Mm} {q : (Nat → Int32) × (Nat → Int32)} {j : Nat} {v : Int32} : mset (cst M q) 279 j v = cst M (q.1, upd q.2 j v) := by
  unfold cst
  rw [mset_mrow]
theorem cst_r8 {M : Mm} {q : (Nat → Int32) × (Nat → Int32)} : (cst M q).1 278 = q.1 := by unfold cst; rw [mrow_n (by decide), mrow_s]
theorem cst_r9 {M : Mm} {q : (Nat → Int32) × (Nat → Int32)} : (cst M q).1 279 = q.2 := by unfold cst; rw [mrow_s]
theorem cst_n {M : Mm} {q : (Nat → Int32) × (Nat → Int32)} {k : Nat} (h : k ≠ 278 ∧ k ≠ 279) : (cst M q).1 k = M.1 k := by unfold cst; rw [mrow_n h.2, mrow_n h.1]
theorem cst_self {M : Mm} : cst M (M.1 278, M.1 279) = M := by unfold cst; rw [mrow_comm (by decide), mrow_self, mrow_self]
