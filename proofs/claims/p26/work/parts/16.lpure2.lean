theorem cp_r2 {M : Mm} {f : Nat → Int32} : cp (mrow M 2 f) 1 = cp M 1 := by
  funext i j
  unfold cp
  rw [mrow_n (by omega)]
theorem bO_r2 {M : Mm} {f : Nat → Int32} : bOut (mrow M 2 f) 1 = bOut M 1 := by
  unfold bOut
  rw [cp_r2, mrow_n (by decide)]
theorem bS_r2 {M : Mm} {f : Nat → Int32} {n : Nat} : bSd (mrow M 2 f) 1 n = bSd M 1 n := by
  unfold bSd
  rw [cp_r2, bO_r2]
theorem ofR_r2 {M : Mm} {f : Nat → Int32} {n i : Nat} {w : Int32} : ofR (mrow M 2 f) n i w = ofR M n i w := by
  unfold ofR rsR dlR
  simp only [cp_r2, bS_r2, mrow_n (show (1 : Nat) ≠ 2 by decide), mrow_n (show 1 + 2 + i ≠ 2 by omega)]
theorem coR_r2 {M : Mm} {f : Nat → Int32} {n k : Nat} {w : Int32} : coR (mrow M 2 f) n k w = coR M n k w := by
  unfold coR
  simp only [cp_r2, bS_r2, bO_r2, mrow_n (show (1 : Nat) ≠ 2 by decide), mrow_n (show (30 : Nat) ≠ 2 by decide), mrow_n (show (33 : Nat) ≠ 2 by decide)]
theorem poR_r2 {M : Mm} {f : Nat → Int32} {n : Nat} {w : Int32} : poR (mrow M 2 f) n w = poR M n w := by
  unfold poR
  simp only [cp_r2, bS_r2, bO_r2]
theorem shF_r2 {M : Mm} {f : Nat → Int32} {n : Nat} {w : Int32} : shF (mrow M 2 f) n w = shF M n w := by
  unfold shF
  simp only [cp_r2, bS_r2]
def pM (M : Mm) (S U : Nat → Int32) : Mm := mrow M 2 (fun x => if x < 64 then S x else U (x - 64))
theorem pM_o {M : Mm} {S U : Nat → Int32} {k : Nat} (h : k ≠ 2) : (pM M S U).1 k = M.1 k := mrow_n h
theorem pM_S {M : Mm} {S U : Nat → Int32} {x : Nat} (h : x < 64) : (pM M S U).1 2 (0 + x) = S x := by
  unfold pM
  rw [mrow_s, Nat.zero_add, if_pos h]
theorem pM_U {M : Mm} {S U : Nat → Int32} {x : Nat} : (pM M S U).1 2 (64 + x) = U x := by
  unfold pM
  rw [mrow_s, if_neg (by omega), Nat.add_sub_cancel_left]
theorem pM_sS {M : Mm} {S U : Nat → Int32} {x : Nat} {v : Int32} (h : x < 64) : mset (pM M S U) 2 (0 + x) v = pM M (upd S x v) U := by
  unfold pM
  rw [mset_mrow, Nat.zero_add]
  congr 1
  funext y
  unfold upd
  by_cases h1 : y = x
  · subst h1; rw [if_pos rfl, if_pos h, if_pos rfl]
  · rw [if_neg h1]
    show (if y < 64 then S y else U (y - 64)) = _
    by_cases h2 : y < 64
    · rw [if_pos h2, if_pos h2, if_neg h1]
    · rw [if_neg h2, if_neg h2]
theorem pM_sU {M : Mm} {S U : Nat → Int32} {x : Nat} {v : Int32} : mset (pM M S U) 2 (64 + x) v = pM M S (upd U x v) := by
  unfold pM
  rw [mset_mrow]
  congr 1
  funext y
  unfold upd
  by_cases h1 : y = 64 + x
  · subst h1; rw [if_pos rfl, if_neg (by omega), if_pos (by omega)]
  · rw [if_neg h1]
    show (if y < 64 then S y else U (y - 64)) = _
    by_cases h2 : y < 64
    · rw [if_pos h2, if_pos h2]
    · rw [if_neg h2, if_neg h2, if_neg (by omega)]
theorem pM_00 {M : Mm} : mrow (mrow M 2 (zf M 0)) 2 (zf (mrow M 2 (zf M 0)) 1) = pM M (fun _ => 0) (fun _ => 0) := by
  unfold pM
  rw [mrow_mrow]
  congr 1
def wv (M : Mm) (n : Nat) : Nat → Int32 := rzW (cp M 1) (M.1 1 2) (M.1 1 4) (M.1 1 5) (M.1 1 3) 0 n
theorem bt0 : bt 0 = fun _ => false := by funext i; exact b_0 i
theorem wv_0 {M : Mm} {n i : Nat} (hi : i < n) : wv M n i = 0 ↔ bSd M 1 n i = true := by
  unfold wv
  rw [rzW_0 hi, bt0]
  rfl
theorem wv_all {M : Mm} {n i : Nat} (hi : i < n) : wv M n i = rsR M 1 n i ∧ (bOut M 1 i = true ↔ (¬ wv M n i ≤ 0 ∧ ¬ 5 ≤ wv M n i)) ∧ ((!bOut M 1 i && !bSd M 1 n i) = true ↔ wv M n i = 5) ∧ ((pWd (cp M 1) i || pSk (cp M 1) (M.1 1 5) i) = true ↔ (wv M n i = 1 ∨ wv M n i = 2)) := by
  have hs : bSd M 1 n i = true → bOut M 1 i = false := by
    intro h
    unfold bSd at h
    rw [sd_eq hi] at h
    cases hb : bOut M 1 i
    · rfl
    · rw [hb] at h; simp at h
  have e : sd (pOut (cp M 1) (M.1 1 2) (M.1 1 4) (M.1 1 5) (M.1 1 3)) (bt 0) (cp M 1) n i = bSd M 1 n i := by rw [bt0]; rfl
  unfold wv rzW rz1 rsR
  rw [e]
  unfold bOut pOut at hs ⊢
  revert hs
  generalize bSd M 1 n i = b
  cases pWd (cp M 1) i <;> cases pSk (cp M 1) (M.1 1 5) i <;> cases pLp (cp M 1) (M.1 1 2) (M.1 1 4) i <;> cases pBl (cp M 1) (M.1 1 3) i <;> cases b <;> simp (decide := true)
theorem mkz1 (p : Nat → Bool) (n : Nat) : mk p n ||| (if p n = true then (1 : Int32) <<< (nI n &&& 31) else 0) = mk p (n + 1) := by
  rw [mk]
  split
  · rfl
  · exact zero_or _
def anq (M : Mm) (n : Nat) : Nat → Bool := fun i => !bOut M 1 i && !bSd M 1 n i
def sS (M : Mm) (n p : Nat) : Nat → Int32 := fun k => if k = 0 then mk (bSd M 1 n) p else if k = 2 then mk (bOut M 1) p else if k = 3 then mk (anq M n) p else if k = 4 then mk (pSd (cp M 1) 0) p else if k = 5 then mk (pSd (cp M 1) 1) p else 0
def uX (M : Mm) (n : Nat) : Int32 := mk (pWd (cp M 1)) n ||| mk (pSk (cp M 1) (M.1 1 5)) n
def uS (M : Mm) (n p : Nat) : Nat → Int32 := fun k => if k = 0 then sm (cp M 1) 0 (uX M n) p else if k = 1 then sm (cp M 1) 1 (uX M n) p else 0
theorem sS_0 {M : Mm} {n : Nat} : sS M n 0 = fun _ => 0 := by
  funext k
  unfold sS
  simp only [mk, ite_self]
theorem uS_0 {M : Mm} {n : Nat} : uS M n 0 = fun _ => 0 := by
  funext k
  unfold uS
  simp only [sm, ite_self]
theorem sS_s {M : Mm} {n p s : Nat} (hs : s < 2) (hp : cp M 1 p 0 = nI s) : upd (upd (upd (upd (sS M n p) 0 (mk (bSd M 1 n) (p + 1))) 2 (mk (bOut M 1) (p + 1))) 3 (mk (anq M n) (p + 1))) (4 + s) (mk (pSd (cp M 1) (nI s)) (p + 1)) = sS M n (p + 1) := by
  funext k
  rcases (show s = 0 ∨ s = 1 by omega) with rfl | rfl
  · have e1 : mk (pSd (cp M 1) 1) (p + 1) = mk (pSd (cp M 1) 1) p := (mk_f (by unfold pSd; rw [hp]; rfl)).symm
    unfold upd sS
    by_cases h0 : k = 0
    · subst h0; rfl
    by_cases h2 : k = 2
    · subst h2; rfl
    by_cases h3 : k = 3
    · subst h3; rfl
    by_cases h4 : k = 4
    · subst h4; rfl
    simp only [if_neg h0, if_neg h2, if_neg h3, if_neg (show ¬ k = 4 + 0 from h4), if_neg h4, e1]
  · have e1 : mk (pSd (cp M 1) 0) (p + 1) = mk (pSd (cp M 1) 0) p := (mk_f (by unfold pSd; rw [hp]; rfl)).symm
    unfold upd sS
    by_cases h0 : k = 0
    · subst h0; rfl
    by_cases h2 : k = 2
    · subst h2; rfl
    by_cases h3 : k = 3
    · subst h3; rfl
    by_cases h5 : k = 5
    · subst h5; rfl
    simp only [if_neg h0, if_neg h2, if_neg h3, if_neg (show ¬ k = 4 + 1 from h5), if_neg h5, e1]
theorem uX_bt {M : Mm} {n i : Nat} (hn : n ≤ 24) (hi : i < n) : bt (uX M n) i = (pWd (cp M 1) i || pSk (cp M 1) (M.1 1 5) i) := by
  unfold uX
  rw [b_or, bt_mk _ (by omega) (by omega), bt_mk _ (by omega) (by omega), decide_eq_true hi, Bool.true_and, Bool.true_and]
theorem uS_s {M : Mm} {n p s : Nat} (hn : n ≤ 24) (hpn : p < n) (hs : s < 2) (hp : cp M 1 p 0 = nI s) : upd (uS M n p) s (uS M n p s + (if wv M n p = 1 ∨ wv M n p = 2 then 0 else cp M 1 p 1)) = uS M n (p + 1) := by
  have hb : bt (uX M n) p = true ↔ (wv M n p = 1 ∨ wv M n p = 2) := by rw [uX_bt hn hpn]; exact (wv_all hpn).2.2.2
  have hsm : ∀ t : Int32, sm (cp M 1) t (uX M n) (p + 1) = if cp M 1 p 0 = t then sm (cp M 1) t (uX M n) p + (if wv M n p = 1 ∨ wv M n p = 2 then 0 else cp M 1 p 1) else sm (cp M 1) t (uX M n) p := by
    intro t
    rw [sm]
    by_cases h0 : cp M 1 p 0 = t
    · rw [if_pos h0]
      by_cases h1 : wv M n p = 1 ∨ wv M n p = 2
      · rw [if_pos h1, Int32.add_zero, if_neg (fun g => by rw [hb.mpr h1] at g; exact absurd g.2 (by decide))]
      · rw [if_neg h1, if_pos ⟨h0, by cases hh : bt (uX M n) p; rfl; exact absurd (hb.mp hh) h1⟩]
    · rw [if_neg h0, if_neg (fun g => h0 g.1)]
  funext k
  unfold upd uS
  rcases (show s = 0 ∨ s = 1 by omega) with rfl | rfl
  · have hp0 : cp M 1 p 0 = 0 := hp
    by_cases h0 : k = 0
    · subst h0
      show sm (cp M 1) 0 (uX M n) p + (if wv M n p = 1 ∨ wv M n p = 2 then 0 else cp M 1 p 1) = sm (cp M 1) 0 (uX M n) (p + 1)
      rw [hsm 0, if_pos hp0]
    by_cases h1 : k = 1
    · subst h1
      show sm (cp M 1) 1 (uX M n) p = sm (cp M 1) 1 (uX M n) (p + 1)
      rw [hsm 1, if_neg (by rw [hp0]; decide)]
    · rw [if_neg h0, if_neg h0, if_neg h1, if_neg h0, if_neg h1]
  · have hp1 : cp M 1 p 0 = 1 := hp
    by_cases h0 : k = 0
    · subst h0
      show sm (cp M 1) 0 (uX M n) p = sm (cp M 1) 0 (uX M n) (p + 1)
      rw [hsm 0, if_neg (by rw [hp1]; decide)]
    by_cases h1 : k = 1
    · subst h1
      show sm (cp M 1) 1 (uX M n) p + (if wv M n p = 1 ∨ wv M n p = 2 then 0 else cp M 1 p 1) = sm (cp M 1) 1 (uX M n) (p + 1)
      rw [hsm 1, if_pos hp1]
    · rw [if_neg h1, if_neg h0, if_neg h1, if_neg h0, if_neg h1]
theorem lo_skip {x : Int32} : ∀ j f k, (∀ i, k ≤ i → i < k + j → bt x i = false) → lo x (j + f) k = lo x f (k + j) := by
  intro j
  induction j with
  | zero => intro f k _; rw [Nat.zero_add]; rfl
  | succ j ih =>
    intro f k h
    rw [show j + 1 + f = (j + f) + 1 by omega, lo, if_neg (by rw [h k (Nat.le_refl _) (by omega)]; decide), ih f (k + 1) (fun i h1 h2 => h i (by omega) (by omega)), show k + 1 + j = k + (j + 1) by omega]
theorem lo_non {x : Int32} : ∀ f k, (∀ i, k ≤ i → i < k + f → bt x i = false) → lo x f k = -6 := by
  intro f
  induction f with
  | zero => intro k _; rfl
  | succ f ih => intro k h; rw [lo, if_neg (by rw [h k (Nat.le_refl _) (by omega)]; decide), ih (k + 1) (fun i h1 h2 => h i (by omega) (by omega))]
def ldn (q : Nat → Bool) : Nat → Nat → Int32
  | 0, _ => -6
  | f + 1, m => if q m = true then nI m else ldn q f (m + 1)
theorem lo_ldn {q : Nat → Bool} {x : Int32} {n : Nat} (hn : n ≤ 24) (h : ∀ i, i < 32 → bt x i = (decide (i < n) && q i)) : ∀ f m, m + f = n → lo x (24 - m) m = ldn q f m := by
  intro f
  induction f with
  | zero =>
    intro m hm
    rw [ldn]
    exact lo_non _ _ (fun i h1 h2 => by rw [h i (by omega), decide_eq_false (by omega)]; rfl)
  | succ f ih =>
    intro m hm
    rw [ldn, show 24 - m = (24 - (m + 1)) + 1 by omega, lo, h m (by omega), decide_eq_true (by omega), Bool.true_and, ih (m + 1) (by omega)]
theorem lo_at {q : Nat → Bool} {n p : Nat} (hn : n ≤ 24) (hp : p < n) (hq : ∀ i, i ≤ p → q i = false) : lo (mk q n) 24 0 = ldn q (n - (p + 1)) (p + 1) := by
  have hb : ∀ i, i < 32 → bt (mk q n) i = (decide (i < n) && q i) := fun i hi => bt_mk _ (by omega) hi
  have h1 := lo_skip (x := mk q n) (p + 1) (24 - (p + 1)) 0 (fun i _ h2 => by rw [hb i (by omega), hq i (by omega), Bool.and_false])
  rw [show p + 1 + (24 - (p + 1)) = 24 by omega, Nat.zero_add] at h1
  rw [h1]
  exact lo_ldn hn hb _ _ (by omega)
theorem dp_fuel {P : Nat → Nat → Int32} {n : Nat} (hw : WF P n) (hn : n ≤ 24) : ∀ i f g, i < n → i < f → i < g → dpN P f i = dpN P g i := by
  intro i
  refine Nat.strongRecOn i ?_
  intro i ih f g hi hf hg
  obtain ⟨f, rfl⟩ : ∃ f', f = f' + 1 := ⟨f - 1, by omega⟩
  obtain ⟨g, rfl⟩ : ∃ g', g = g' + 1 := ⟨g - 1, by omega⟩
  rw [dpN, dpN]
  by_cases h : P i 3 = -6
  · rw [if_pos h, if_pos h]
  · rw [if_neg h, if_neg h]
    rcases (hw i hi).2.1 with h2 | ⟨t, ht, h2⟩
    · exact absurd h2 h
    · rw [h2, nI_clamp (by omega), ih t ht f g (by omega) (by omega) (by omega)]
theorem dp_0 {P : Nat → Nat → Int32} {i : Nat} (h : P i 3 = -6) : dpN P (i + 1) i = 0 := by rw [dpN, if_pos h]
theorem dp_s {P : Nat → Nat → Int32} {n i t : Nat} (hw : WF P n) (hn : n ≤ 24) (hi : i < n) (ht : t < i) (h : P i 3 = nI t) : dpN P (i + 1) i = dpN P (t + 1) t + 1 := by
  rw [dpN, if_neg (by rw [h]; exact nI_n6 t (by omega)), h, nI_clamp (by omega), dp_fuel hw hn t i (t + 1) (by omega) ht (by omega)]
theorem dp_le {P : Nat → Nat → Int32} {n : Nat} (hw : WF P n) (hn : n ≤ 24) : ∀ i, i < n → dpN P (i + 1) i ≤ i := by
  intro i
  refine Nat.strongRecOn i ?_
  intro i ih hi
  rcases (hw i hi).2.1 with h2 | ⟨t, ht, h2⟩
  · rw [dp_0 h2]; omega
  · rw [dp_s hw hn hi ht h2]
    have := ih t ht (by omega)
    omega
def ansM (P : Nat → Nat → Int32) (n p m : Nat) : Int32 := mk (fun i => decide (m ≤ i) && (P i 3 == nI p)) n
theorem ansM_n {P : Nat → Nat → Int32} {n p : Nat} : ansM P n p n = 0 := by
  unfold ansM
  rw [mk_congr (q := fun _ => false) (fun i hi => by rw [decide_eq_false (by omega)]; rfl)]
  induction n with
  | zero => rfl
  | succ n ih => rw [mk, if_neg (by decide), ih]
theorem ansM_s {P : Nat → Nat → Int32} {n p m : Nat} (hn : n ≤ 24) (hm : m < n) : ansM P n p (m + 1) ||| (if P m 3 = nI p then (1 : Int32) <<< (nI m &&& 31) else 0) = ansM P n p m := by
  apply b_ext
  intro i hi
  unfold ansM
  rw [b_or, bt_mk _ (by omega) hi, bt_mk _ (by omega) hi]
  by_cases e : i = m
  · subst e
    rw [decide_eq_false (show ¬ i + 1 ≤ i by omega), decide_eq_true (Nat.le_refl i), decide_eq_true hm]
    by_cases g : P i 3 = nI p
    · rw [if_pos g, bt_one (by omega) hi, g]; simp
    · rw [if_neg g, b_0]; simp [g]
  · have : bt (if P m 3 = nI p then (1 : Int32) <<< (nI m &&& 31) else 0) i = false := by
      split
      · rw [bt_one (by omega) hi, decide_eq_false e]
      · exact b_0 i
    rw [this, Bool.or_false]
    congr 2
    apply decide_eq_decide.mpr
    omega
theorem ansM_e {P : Nat → Nat → Int32} {n p : Nat} (hw : WF P n) (hn : n ≤ 24) (hp : p < n) : ansM P n p (p + 1) = mk (pTo P (nI p)) n := by
  unfold ansM
  apply mk_congr
  intro i hi
  unfold pTo
  by_cases h : P i 3 = nI p
  · rcases (hw i hi).2.1 with h2 | ⟨t, ht, h2⟩
    · rw [h2] at h; exact absurd h.symm (nI_n6 p (by omega))
    · have e : t = p := by rw [h2] at h; exact (nI_eq (by omega) (by omega)).mp h
      rw [decide_eq_true (by omega), Bool.true_and]
  · have : (P i 3 == nI p) = false := by simp [h]
    rw [this, Bool.and_false]
def lwq (M : Mm) (n p : Nat) : Nat → Bool := fun i => pTo (cp M 1) (nI p) i && bSd M 1 n i
theorem lwq_lo {M : Mm} {n p : Nat} (hw : WF (cp M 1) n) (hn : n ≤ 24) (hp : p < n) : lo (mk (pTo (cp M 1) (nI p)) n &&& mk (bSd M 1 n) n) 24 0 = ldn (lwq M n p) (n - (p + 1)) (p + 1) := by
  rw [mk_and _ _ (by omega)]
  refine lo_at hn hp (fun i hi => ?_)
  show (pTo (cp M 1) (nI p) i && bSd M 1 n i) = false
  have : pTo (cp M 1) (nI p) i = false := by
    unfold pTo
    rcases (hw i (by omega)).2.1 with h2 | ⟨t, ht, h2⟩
    · rw [h2]; simp; exact fun g => nI_n6 p (by omega) g.symm
    · rw [h2]; simp; intro g; have := (nI_eq (a := t) (b := p) (by omega) (by omega)).mp g; omega
  rw [this, Bool.false_and]
theorem ldn_s {q : Nat → Bool} {n m : Nat} (hm : m < n) : ldn q (n - m) m = if q m = true then nI m else ldn q (n - (m + 1)) (m + 1) := by
  rw [show n - m = (n - (m + 1)) + 1 by omega, ldn]
theorem tk_le {P : Nat → Nat → Int32} {pg s : Int32} (h : 0 ≤ pg) : ∀ k, tk P pg s k ≤ pg := by
  intro k
  induction k with
  | zero => exact h
  | succ k ih =>
    rw [tk]
    split
    · split
      · rename_i g; exact g
      · exact ih
    · exact ih
theorem uS_tk {M : Mm} {n : Nat} (hn : n ≤ 24) (hw : WF (cp M 1) n) (s : Int32) : ∀ k, k ≤ n → sm (cp M 1) s (uX M n) k = tk (cp M 1) (M.1 1 5) s k := by
  intro k
  induction k with
  | zero => intro _; rfl
  | succ k ih =>
    intro hk
    rw [sm, tk, ih (by omega), uX_bt hn (by omega)]
    have h6 := (hw k (by omega)).2.2
    by_cases h0 : cp M 1 k 0 = s
    · subst h0
      rcases h6 with h6 | h6
      · have e1 : pWd (cp M 1) k = false := by unfold pWd; rw [h6]; rfl
        have e2 : pSk (cp M 1) (M.1 1 5) k = !decide (tk (cp M 1) (M.1 1 5) (cp M 1 k 0) k + cp M 1 k 1 ≤ M.1 1 5) := by unfold pSk stK; rw [h6]; simp
        rw [e1, e2, if_pos (show cp M 1 k 0 = cp M 1 k 0 ∧ cp M 1 k 6 = 0 from ⟨rfl, h6⟩)]
        by_cases g : tk (cp M 1) (M.1 1 5) (cp M 1 k 0) k + cp M 1 k 1 ≤ M.1 1 5
        · rw [if_pos g, decide_eq_true g]; simp
        · rw [if_neg g, decide_eq_false g]; simp
      · have e1 : pWd (cp M 1) k = true := by unfold pWd; rw [h6]; rfl
        rw [e1, if_neg (show ¬ (cp M 1 k 0 = cp M 1 k 0 ∧ cp M 1 k 6 = 0) from fun g => by rw [h6] at g; exact absurd g.2 (by decide))]
        simp
    · rw [if_neg (fun g => h0 g.1), if_neg (fun g => h0 g.1)]
theorem of_0 {M : Mm} {n i : Nat} : ofR M n i 0 = cp M 1 i 0 := by unfold ofR; rw [if_pos rfl]; rfl
theorem of_1 {M : Mm} {n i : Nat} : ofR M n i 1 = cp M 1 i 1 := by unfold ofR; rw [if_neg (by decide), if_pos rfl]; rfl
theorem of_2 {M : Mm} {n i : Nat} : ofR M n i 2 = cp M 1 i 4 := by unfold ofR; rw [if_neg (by decide), if_neg (by decide), if_pos rfl]; rfl
theorem of_3 {M : Mm} {n i : Nat} : ofR M n i 3 = cp M 1 i 3 := by unfold ofR; rw [if_neg (by decide), if_neg (by decide), if_neg (by decide), if_pos rfl]; rfl
theorem of_4 {M : Mm} {n i : Nat} : ofR M n i 4 = cp M 1 i 2 := by unfold ofR; rw [if_neg (by decide), if_neg (by decide), if_neg (by decide), if_neg (by decide), if_pos rfl]; rfl
theorem of_5 {M : Mm} {n i : Nat} : ofR M n i 5 = (if bSd M 1 n i = true then 1 else 0) := by unfold ofR; rw [if_neg (by decide), if_neg (by decide), if_neg (by decide), if_neg (by decide), if_neg (by decide), if_pos rfl]
theorem of_6 {M : Mm} {n i : Nat} : ofR M n i 6 = rsR M 1 n i := by unfold ofR; rw [if_neg (by decide), if_neg (by decide), if_neg (by decide), if_neg (by decide), if_neg (by decide), if_neg (by decide), if_pos rfl]
theorem of_7 {M : Mm} {n i : Nat} : ofR M n i 7 = lo (mk (pTo (cp M 1) (nI i)) n &&& mk (bSd M 1 n) n) 24 0 := by unfold ofR; rw [if_neg (by decide), if_neg (by decide), if_neg (by decide), if_neg (by decide), if_neg (by decide), if_neg (by decide), if_neg (by decide), if_pos rfl]
theorem of_8 {M : Mm} {n i : Nat} : ofR M n i 8 = mk (pTo (cp M 1) (nI i)) n := by unfold ofR; rw [if_neg (by decide), if_neg (by decide), if_neg (by decide), if_neg (by decide), if_neg (by decide), if_neg (by decide), if_neg (by decide), if_neg (by decide), if_pos rfl]
theorem of_9 {M : Mm} {n i : Nat} : ofR M n i 9 = nI (dpN (cp M 1) (i + 1) i) := by unfold ofR; rw [if_neg (by decide), if_neg (by decide), if_neg (by decide), if_neg (by decide), if_neg (by decide), if_neg (by decide), if_neg (by decide), if_neg (by decide), if_neg (by decide), if_pos rfl]
theorem of_10 {M : Mm} {n i : Nat} : ofR M n i 10 = dlR M 1 i := by unfold ofR; rw [if_neg (by decide), if_neg (by decide), if_neg (by decide), if_neg (by decide), if_neg (by decide), if_neg (by decide), if_neg (by decide), if_neg (by decide), if_neg (by decide), if_neg (by decide), if_pos rfl]
theorem kc_0 {M : Mm} {n : Nat} : coR M n 0 0 = M.1 1 2 := by unfold coR; rw [if_pos rfl]
theorem kc_1 {M : Mm} {n : Nat} : coR M n 0 1 = M.1 1 1 := by unfold coR; rw [if_neg (by decide), if_pos rfl]
theorem kc_2 {M : Mm} {n : Nat} : coR M n 0 2 = bc (mk (pTo (cp M 1) (-6)) n) := by unfold coR; rw [if_neg (by decide), if_neg (by decide), if_pos rfl]
theorem kc_3 {M : Mm} {n : Nat} : coR M n 0 3 = bc (mk (bSd M 1 n) n) := by unfold coR; rw [if_neg (by decide), if_neg (by decide), if_neg (by decide), if_pos rfl]
theorem kc_4 {M : Mm} {n : Nat} : coR M n 0 4 = bc (mk (pTo (cp M 1) (-6)) n &&& mk (bSd M 1 n) n) := by unfold coR; rw [if_neg (by decide), if_neg (by decide), if_neg (by decide), if_neg (by decide), if_pos rfl]
theorem kc_5 {M : Mm} {n : Nat} : coR M n 0 5 = bc (mk (bOut M 1) n) := by unfold coR; rw [if_neg (by decide), if_neg (by decide), if_neg (by decide), if_neg (by decide), if_neg (by decide), if_pos rfl]
theorem kc_6 {M : Mm} {n : Nat} : coR M n 0 6 = bc ((mk (fun _ => true) n &&& (mk (bOut M 1) n ^^^ (-1))) &&& (mk (bSd M 1 n) n ^^^ (-1))) := by unfold coR; rw [if_neg (by decide), if_neg (by decide), if_neg (by decide), if_neg (by decide), if_neg (by decide), if_neg (by decide), if_pos rfl]
theorem kc_7 {M : Mm} {n : Nat} : coR M n 0 7 = sm (cp M 1) 0 (uX M n) n := by unfold coR; rw [if_neg (by decide), if_neg (by decide), if_neg (by decide), if_neg (by decide), if_neg (by decide), if_neg (by decide), if_neg (by decide), if_pos rfl]; rfl
theorem kc_8 {M : Mm} {n : Nat} : coR M n 0 8 = sm (cp M 1) 1 (uX M n) n := by unfold coR; rw [if_neg (by decide), if_neg (by decide), if_neg (by decide), if_neg (by decide), if_neg (by decide), if_neg (by decide), if_neg (by decide), if_neg (by decide), if_pos rfl]; rfl
theorem kc_9 {M : Mm} {n : Nat} : coR M n 0 9 = M.1 1 3 := by unfold coR; rw [if_neg (by decide), if_neg (by decide), if_neg (by decide), if_neg (by decide), if_neg (by decide), if_neg (by decide), if_neg (by decide), if_neg (by decide), if_neg (by decide), if_pos rfl]
theorem po_0 {M : Mm} {n : Nat} : poR M n 0 = mk (bSd M 1 n) n := by unfold poR; rw [if_pos rfl]
theorem po_1 {M : Mm} {n : Nat} : poR M n 1 = mk (pTo (cp M 1) (-6)) n &&& mk (bSd M 1 n) n := by unfold poR; rw [if_neg (by decide), if_pos rfl]
theorem po_2 {M : Mm} {n : Nat} : poR M n 2 = mk (bOut M 1) n := by unfold poR; rw [if_neg (by decide), if_neg (by decide), if_pos rfl]
theorem po_3 {M : Mm} {n : Nat} : poR M n 3 = (mk (fun _ => true) n &&& (mk (bOut M 1) n ^^^ (-1))) &&& (mk (bSd M 1 n) n ^^^ (-1)) := by unfold poR; rw [if_neg (by decide), if_neg (by decide), if_neg (by decide), if_pos rfl]
theorem po_4 {M : Mm} {n : Nat} : poR M n 4 = mk (pSd (cp M 1) 0) n := by unfold poR; rw [if_neg (by decide), if_neg (by decide), if_neg (by decide), if_neg (by decide), if_pos rfl]
theorem po_5 {M : Mm} {n : Nat} : poR M n 5 = mk (pSd (cp M 1) 1) n := by unfold poR; rw [if_neg (by decide), if_neg (by decide), if_neg (by decide), if_neg (by decide), if_neg (by decide), if_pos rfl]
theorem an_mk {M : Mm} {n : Nat} (hn : n ≤ 24) : (mk (fun _ => true) n &&& (mk (bOut M 1) n ^^^ (-1))) &&& (mk (bSd M 1 n) n ^^^ (-1)) = mk (anq M n) n := by
  rw [mk_not _ _ (by omega), mk_not _ _ (by omega)]
  exact mk_congr (fun i _ => by unfold anq; rw [Bool.true_and])
def cs1 (M : Mm) (n : Nat) : Int32 := mk (bSd M 1 n) n &&& mk (pCl (cp M 1)) n
theorem cs1_mk {M : Mm} {n : Nat} (hn : n ≤ 24) : cs1 M n = mk (fun i => bSd M 1 n i && pCl (cp M 1) i) n := mk_and _ _ (by omega)
theorem co4_eq {M : Mm} {n : Nat} (hn : n ≤ 24) : coR M n 0 4 = nI (cnt (fun i => bSd M 1 n i && pCl (cp M 1) i) n) := by
  rw [kc_4, mk_and _ _ (by omega), bc_mk hn]
  exact congrArg nI (cnt_congr (fun i _ => Bool.and_comm _ _))
theorem co6_eq {M : Mm} {n : Nat} (hn : n ≤ 24) : coR M n 0 6 = nI (cnt (anq M n) n) := by rw [kc_6, an_mk hn, bc_mk hn]
def sF (M : Mm) (n : Nat) : Nat → Int32 := upd (sS M n n) 1 (cs1 M n)
theorem po_S {M : Mm} {n k : Nat} (hn : n ≤ 24) (hk : k < 6) : poR M n (nI k) = sF M n k := by
  rcases (show k = 0 ∨ k = 1 ∨ k = 2 ∨ k = 3 ∨ k = 4 ∨ k = 5 by omega) with rfl | rfl | rfl | rfl | rfl | rfl
  · exact po_0
  · refine po_1.trans ?_
    show _ = cs1 M n
    unfold cs1
    rw [mk_and _ _ (by omega), mk_and _ _ (by omega)]
    exact mk_congr (fun i _ => Bool.and_comm _ _)
  · exact po_2
  · exact po_3.trans (an_mk hn)
  · exact po_4
  · exact po_5
theorem sF_45 {M : Mm} {n k : Nat} (hk : k < 2) : sF M n (4 + k) = mk (pSd (cp M 1) (nI k)) n := by
  rcases (show k = 0 ∨ k = 1 by omega) with rfl | rfl
  · rfl
  · rfl
theorem sS_45 {M : Mm} {n p s : Nat} {a b c : Int32} (hs : s < 2) : upd (upd (upd (sS M n p) 0 a) 2 b) 3 c (4 + s) = mk (pSd (cp M 1) (nI s)) p := by
  rcases (show s = 0 ∨ s = 1 by omega) with rfl | rfl
  · rfl
  · rfl
theorem uS_le {M : Mm} {n : Nat} (hn : n ≤ 24) (hw : WF (cp M 1) n) (h : 0 ≤ M.1 1 5) (s : Int32) : ¬ M.1 1 5 < sm (cp M 1) s (uX M n) n := by
  rw [uS_tk hn hw s n (Nat.le_refl n)]
  exact Int32.not_lt.mpr (tk_le h n)
theorem cnt_s1 {M : Mm} {n : Nat} {t : Int32} : cnt (fun i => (bSd M 1 n i && pCl (cp M 1) i) && pSd (cp M 1) t i) n = cnt (fun i => clP (cp M 1) t i && bSd M 1 n i) n := cnt_congr (fun i _ => by
  show ((bSd M 1 n i && pTo (cp M 1) (-6) i) && pSd (cp M 1) t i) = ((pTo (cp M 1) (-6) i && pSd (cp M 1) t i) && bSd M 1 n i)
  cases bSd M 1 n i <;> cases pTo (cp M 1) (-6) i <;> cases pSd (cp M 1) t i <;> rfl)
theorem yet_eq {M : Mm} {n p la dy : Nat} (hw : WF (cp M 1) n) (h9 : sm9 (cp M 1) n) (hp : p < n) (hn : n ≤ 24) (hl : la ≤ 60) (hd : dy ≤ 999) (h4 : M.1 1 4 = nI la) (h2 : M.1 1 2 = nI dy) : dlR M 1 p = if toV (cp M 1) p < 0 ∨ ¬ nI dy ≤ cp M 1 p 5 + nI la then -6 else cp M 1 p 5 + nI la - nI dy := by
  obtain ⟨⟨s, hs, e⟩, _⟩ := h9 p hp
  have e5 : M.1 (1 + 2 + p) 5 = nI s := e
  have h3 : M.1 (1 + 2 + p) 3 = -6 ↔ toV (cp M 1) p < 0 := (toV_lt hw hn hp).symm
  have hk : 0 ≤ nI s + nI la - nI dy ↔ nI dy ≤ nI s + nI la := by
    rw [nI_add, Int32.le_iff_toInt_le, Int32.le_iff_toInt_le, Int32.toInt_sub, nI_toInt (by omega), nI_toInt (by omega), Int.bmod_eq_of_le (by omega) (by omega)]
    show (0 : Int) ≤ _ ↔ _
    omega
  unfold dlR
  rw [e5, h4, h2, e]
  by_cases g : toV (cp M 1) p < 0
  · rw [if_pos (Or.inl (h3.mpr g)), if_pos (Or.inl g)]
  · by_cases g2 : nI dy ≤ nI s + nI la
    · rw [if_neg (fun h => h.elim (fun h => g (h3.mp h)) (fun h => h (hk.mpr g2))), if_neg (fun h => h.elim g (fun h => h g2))]
    · rw [if_pos (Or.inr (fun h => g2 (hk.mp h))), if_pos (Or.inr g2)]
theorem toV_ge {P : Nat → Nat → Int32} {n i : Nat} (hw : WF P n) (hn : n ≤ 24) (hi : i < n) (h : 0 ≤ toV P i) : ¬ P i 3 = -6 := fun e => absurd ((toV_lt hw hn hi).mpr e) (Int32.not_lt.mpr h)
theorem toV_ng {P : Nat → Nat → Int32} {n i : Nat} (hw : WF P n) (hn : n ≤ 24) (hi : i < n) (h : ¬ 0 ≤ toV P i) : P i 3 = -6 := (toV_lt hw hn hi).mp (Int32.not_le.mp h)
