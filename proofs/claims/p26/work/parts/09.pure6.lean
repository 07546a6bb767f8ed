theorem prep_1 {M : Mm} {c n : Nat} (hc : isB c) (h : c ≠ 1) {j : Nat} (hj : j < 26) : (cpB M c 1 n).1 (1 + j) = M.1 (1 + j) ∨ n ≥ 25 := by
  by_cases hn : n ≤ 24
  · have ha := isB_apart hc isB_1 h
    exact Or.inl (cpB_out (by omega) (by omega))
  · exact Or.inr (by omega)
theorem pr1 {M : Mm} {c n j : Nat} (hc : isB c) (h : c ≠ 1) (hn : n ≤ 24) (hj : j < 26) : (cpB M c 1 n).1 (1 + j) = M.1 (1 + j) := (prep_1 hc h hj).resolve_right (by omega)
theorem prz {M : Mm} {c n : Nat} (hc : isB c) (h : c ≠ 1) (hn : n ≤ 24) : (cpB M c 1 n).1 1 = M.1 1 := pr1 (j := 0) hc h hn (by omega)
theorem prp {M : Mm} {c n i : Nat} (hc : isB c) (h : c ≠ 1) (hn : n ≤ 24) (hi : i < 24) : cp (cpB M c 1 n) 1 i = cp M 1 i := by
  funext j
  show (cpB M c 1 n).1 (1 + 2 + i) j = M.1 (1 + 2 + i) j
  rw [show 1 + 2 + i = 1 + (2 + i) by omega, pr1 hc h hn (by omega)]
theorem prw {M : Mm} {c n k : Nat} (hc : isB c) (h : c ≠ 1) (hn : n ≤ 24) (hk : k ≤ 24) (hw : WF (cp M 1) k) : WF (cp (cpB M c 1 n) 1) k := by
  intro i hi
  rw [prp hc h hn (by omega)]
  exact hw i hi
theorem pro {M : Mm} {c n k : Nat} (hc : isB c) (hn : n ≤ 24) (hk : k = 0 ∨ (27 ≤ k ∧ k < 35) ∨ k = 217 ∨ 270 ≤ k) : (cpB M c 1 n).1 k = M.1 k := by
  have h0 := isB_no hc (show 0 < 26 by decide)
  have h1 := isB_lt hc
  have h2 := isB_cases hc
  exact cpB_out (by omega) (by omega)

def Fr (M M' : Mm) : Prop := M'.2 = M.2 ∧ ∀ k, 27 ≤ k → M'.1 k = M.1 k
theorem Fr.rf {M : Mm} : Fr M M := ⟨rfl, fun _ _ => rfl⟩
theorem Fr.tr {M M1 M2 : Mm} (h : Fr M M1) (g : Fr M1 M2) : Fr M M2 := ⟨g.1.trans h.1, fun k hk => (g.2 k hk).trans (h.2 k hk)⟩
theorem Fr.set {M : Mm} {k j : Nat} {v : Int32} (h : k < 27) : Fr M (mset M k j v) := ⟨rfl, fun k' hk => mset_n (by omega)⟩
theorem Fr.ite {M A B : Mm} {c : Prop} [Decidable c] (hA : Fr M A) (hB : Fr M B) : Fr M (if c then A else B) := by split; exact hA; exact hB
theorem fileM_fr {M : Mm} {n : Nat} {s p c t : Int32} (hn : n < 24) : Fr M (fileM M 1 n s p c t) := by
  unfold fileM
  exact ((((((((Fr.set (by omega)).tr (Fr.set (by omega))).tr (Fr.set (by omega))).tr (Fr.set (by omega))).tr (Fr.set (by omega))).tr (Fr.set (by omega))).tr (Fr.set (by omega))).tr (Fr.set (by omega)))
theorem adM_fr {M : Mm} {s v : Int32} : Fr M (adM M 1 s v) := Fr.ite (Fr.set (by omega)) (Fr.ite (Fr.set (by omega)) Fr.rf)
theorem fcM_fr {M : Mm} {n : Nat} {s p c : Int32} : Fr M (fcM M 1 n s p c) := by
  unfold fcM
  split
  · exact Fr.rf
  split
  · exact fileM_fr (by omega)
  · exact Fr.rf
theorem faM_fr {M : Mm} {n i : Nat} {p c : Int32} : Fr M (faM M 1 n i p c) := by
  unfold faM
  split
  · exact Fr.rf
  split
  · exact Fr.ite (fileM_fr (by omega)) Fr.rf
  · exact Fr.rf
theorem tbM_fr {M : Mm} {i : Nat} (hi : i < 24) : Fr M (tbM M 1 i) := Fr.ite (Fr.set (by omega)) Fr.rf
theorem prM_fr {M : Mm} {i : Nat} (hi : i < 24) : Fr M (prM M 1 i) := Fr.ite Fr.rf (Fr.set (by omega))
theorem tcM_fr {M : Mm} {w : Int32} : Fr M (tcM M 1 w) := Fr.ite Fr.rf (Fr.set (by omega))
theorem moM_fr {M : Mm} {d : Int32} : Fr M (moM M 1 d) := Fr.ite Fr.rf (Fr.ite (Fr.set (by omega)) Fr.rf)
def lo (x : Int32) : Nat → Nat → Int32
  | 0, _ => -6
  | f + 1, k => if bt x k = true then nI k else lo x f (k + 1)
def fbL (w : Int64) : Nat → Int64 → Int32 → Int64 × Int32
  | 0, x, e => (x, e)
  | f + 1, x, e => if 0 ≤ lg_cmp x w ∨ e ≤ 0 then (x, e) else fbL w f (x * 2) (e + Int32.ofInt (-1))
def fbF (w : Int64) (t : Int64 × Int32) : Int32 := (t.2 <<< ((23 : Int32) &&& 31)) + ((if lg_cmp (2 * ((t.1 <<< ((23 : Int32).toInt64 &&& 63)) - (t.1 <<< ((23 : Int32).toInt64 &&& 63)) / w * w)) w ≤ 0 then (t.1 <<< ((23 : Int32).toInt64 &&& 63)) / w else (t.1 <<< ((23 : Int32).toInt64 &&& 63)) / w + 1) - 8388608).toInt32
def fbR (a w : Nat) : Int32 := if nI a ≤ 0 then 0 else fbF (nI w).toInt64 (fbL (nI w).toInt64 6 (nI a).toInt64 127)
def ba2 (M : Mm) (n k : Nat) (out nas : Nat → Bool) (P : Nat → Nat → Int32) : Int32 := bc ((mk (sd (bt (mk out n)) (bt ((1 : Int32) <<< (nI k &&& 31))) P n) n ^^^ mk (sd (bt (mk out n)) (bt 0) P n) n) &&& mk (pTo P (-6)) n)
def baS (M : Mm) (n : Nat) : Nat → Int32 × Int32
  | 0 => (-6, -6)
  | k + 1 => if bt (mk (naP (cp M 1) n) n &&& (mk (bOut M 1) n ^^^ (-1))) k = true then (if ba2 M n k (bOut M 1) (naP (cp M 1) n) (cp M 1) ≤ (baS M n k).2 then baS M n k else (nI k, ba2 M n k (bOut M 1) (naP (cp M 1) n) (cp M 1))) else baS M n k
def ciX (M : Mm) (n : Nat) : Int32 := (mk (pWd (cp M 1)) n ||| mk (pSk (cp M 1) (M.1 1 5)) n) ||| mk (pBl (cp M 1) (M.1 1 3)) n
def ciS (M : Mm) (n d : Nat) : Int32 := mk (sd (bt (ciX M n ||| mk (pLp (cp M 1) (M.1 1 2 + nI d) (M.1 1 4)) n)) (bt 0) (cp M 1) n) n
def ciF (M : Mm) (n : Nat) : Nat → Nat → Int32
  | 0, _ => -6
  | f + 1, d => if ciS M n d = mk (bSd M 1 n) n then ciF M n f (d + 1) else nI d
def imax (x y : Int32) : Int32 := if x < y then y else x
def lpN (M : Mm) (n : Nat) : Int32 := imax 1 (imax (sm (cp M 1) 0 (mk (pWd (cp M 1)) n) n) (sm (cp M 1) 1 (mk (pWd (cp M 1)) n) n))
def lpR (M : Mm) (n : Nat) : Int32 := if lpN M n ≤ 99 then lpN M n else -6
def shC (M : Mm) (n : Nat) (s : Int32) : Nat → Bool := fun i => pTo (cp M 1) (-6) i && pSd (cp M 1) s i
def ofR (M : Mm) (n i : Nat) (w : Int32) : Int32 := if w = 0 then M.1 (1 + 2 + i) 0 else if w = 1 then M.1 (1 + 2 + i) 1 else if w = 2 then M.1 (1 + 2 + i) 4 else if w = 3 then M.1 (1 + 2 + i) 3 else if w = 4 then M.1 (1 + 2 + i) 2 else if w = 5 then (if bSd M 1 n i = true then 1 else 0) else if w = 6 then rsR M 1 n i else if w = 7 then lo (mk (pTo (cp M 1) (nI i)) n &&& mk (bSd M 1 n) n) 24 0 else if w = 8 then mk (pTo (cp M 1) (nI i)) n else if w = 9 then nI (dpN (cp M 1) (i + 1) i) else if w = 10 then dlR M 1 i else -2
def coR (M : Mm) (n k : Nat) (w : Int32) : Int32 := if w = 0 then M.1 1 2 else if w = 1 then M.1 1 1 else if w = 2 then bc (mk (pTo (cp M 1) (-6)) n) else if w = 3 then bc (mk (bSd M 1 n) n) else if w = 4 then bc (mk (pTo (cp M 1) (-6)) n &&& mk (bSd M 1 n) n) else if w = 5 then bc (mk (bOut M 1) n) else if w = 6 then bc ((mk (fun _ => true) n &&& (mk (bOut M 1) n ^^^ (-1))) &&& (mk (bSd M 1 n) n ^^^ (-1))) else if w = 7 then sm (cp M 1) 0 (mk (pWd (cp M 1)) n ||| mk (pSk (cp M 1) (M.1 1 5)) n) n else if w = 8 then sm (cp M 1) 1 (mk (pWd (cp M 1)) n ||| mk (pSk (cp M 1) (M.1 1 5)) n) n else if w = 9 then M.1 1 3 else if w = 10 then M.1 1 4 else if w = 11 then M.1 1 5 else if w = 12 then M.1 30 1 else if w = 13 then M.1 33 1 else -2
def poR (M : Mm) (n : Nat) (w : Int32) : Int32 := if w = 0 then mk (bSd M 1 n) n else if w = 1 then mk (pTo (cp M 1) (-6)) n &&& mk (bSd M 1 n) n else if w = 2 then mk (bOut M 1) n else if w = 3 then (mk (fun _ => true) n &&& (mk (bOut M 1) n ^^^ (-1))) &&& (mk (bSd M 1 n) n ^^^ (-1)) else if w = 4 then mk (pSd (cp M 1) 0) n else if w = 5 then mk (pSd (cp M 1) 1) n else -2
theorem sw_cases (w : Int32) (m : Nat) (hm : m < 2 ^ 31) : (∃ j, j < m ∧ w = nI j) ∨ (w.toInt < 0 ∨ (m : Int) - 1 < w.toInt) := by
  rcases pk_ix w hm with h | h | ⟨j, h1, h2⟩
  · exact Or.inr (Or.inl (by have := Int32.lt_iff_toInt_lt.mp h; simpa using this))
  · have := Int32.le_iff_toInt_le.mp h
    rw [nI_toInt hm] at this
    exact Or.inr (Or.inr (by omega))
  · exact Or.inl ⟨j, h1, h2⟩
theorem sw11 (w : Int32) : w = 0 ∨ w = 1 ∨ w = 2 ∨ w = 3 ∨ w = 4 ∨ w = 5 ∨ w = 6 ∨ w = 7 ∨ w = 8 ∨ w = 9 ∨ w = 10 ∨ (w.toInt < 0 ∨ 10 < w.toInt) := by
  rcases sw_cases w 11 (by decide) with ⟨j, hj, e⟩ | h
  · subst e
    have : j = 0 ∨ j = 1 ∨ j = 2 ∨ j = 3 ∨ j = 4 ∨ j = 5 ∨ j = 6 ∨ j = 7 ∨ j = 8 ∨ j = 9 ∨ j = 10 := by omega
    rcases this with rfl | rfl | rfl | rfl | rfl | rfl | rfl | rfl | rfl | rfl | rfl <;> simp (decide := true)
  · have h : w.toInt < 0 ∨ (10 : Int) < w.toInt := by omega
    repeat (first | exact h | right)
theorem sw14 (w : Int32) : w = 0 ∨ w = 1 ∨ w = 2 ∨ w = 3 ∨ w = 4 ∨ w = 5 ∨ w = 6 ∨ w = 7 ∨ w = 8 ∨ w = 9 ∨ w = 10 ∨ w = 11 ∨ w = 12 ∨ w = 13 ∨ (w.toInt < 0 ∨ 13 < w.toInt) := by
  rcases sw_cases w 14 (by decide) with ⟨j, hj, e⟩ | h
  · subst e
    have : j = 0 ∨ j = 1 ∨ j = 2 ∨ j = 3 ∨ j = 4 ∨ j = 5 ∨ j = 6 ∨ j = 7 ∨ j = 8 ∨ j = 9 ∨ j = 10 ∨ j = 11 ∨ j = 12 ∨ j = 13 := by omega
    rcases this with rfl | rfl | rfl | rfl | rfl | rfl | rfl | rfl | rfl | rfl | rfl | rfl | rfl | rfl <;> simp (decide := true)
  · have h : w.toInt < 0 ∨ (13 : Int) < w.toInt := by omega
    repeat (first | exact h | right)
theorem sw6 (w : Int32) : w = 0 ∨ w = 1 ∨ w = 2 ∨ w = 3 ∨ w = 4 ∨ w = 5 ∨ (w.toInt < 0 ∨ 5 < w.toInt) := by
  rcases sw_cases w 6 (by decide) with ⟨j, hj, e⟩ | h
  · subst e
    have : j = 0 ∨ j = 1 ∨ j = 2 ∨ j = 3 ∨ j = 4 ∨ j = 5 := by omega
    rcases this with rfl | rfl | rfl | rfl | rfl | rfl <;> simp (decide := true)
  · have h : w.toInt < 0 ∨ (5 : Int) < w.toInt := by omega
    repeat (first | exact h | right)
theorem sw_ne {w : Int32} {m : Nat} (h : w.toInt < 0 ∨ (m : Int) < w.toInt) {c : Nat} (hc : c ≤ m) (hm : m < 2 ^ 31) : ¬ w = nI c := by
  intro e
  rw [e, nI_toInt (by omega)] at h
  omega
