def rf : Nat → Nat
  | 0 => 0
  | 1 => 1
  | 2 => 5
  | 3 => 4
  | 4 => 2
  | 5 => 3
  | n => n
def rp (Z : Nat → Int32) : Nat → Nat → Int32 := fun i j => Z (5 + 7 * i + rf j)
def b01 (b : Bool) : Int32 := if b = true then 1 else 0
theorem b01_0 {b : Bool} : b01 b = 0 ↔ b = false := by cases b <;> decide
theorem b01_f {b : Bool} (h : b01 b = 0) : b = false := b01_0.mp h
theorem b01_t {b : Bool} (h : ¬ b01 b = 0) : b = true := by
  cases b
  · exact absurd rfl h
  · rfl
theorem b01_v (b : Bool) : b01 b = 0 ∨ b01 b = 1 := by cases b; exact Or.inl rfl; exact Or.inr rfl
theorem b01_p {c : Prop} [Decidable c] (h : c) : (1 : Int32) = b01 (decide c) := by rw [decide_eq_true h]; rfl
theorem b01_q {c : Prop} [Decidable c] (h : ¬ c) : (0 : Int32) = b01 (decide c) := by rw [decide_eq_false h]; rfl
def inv (v a c : Int32) : Bool := !decide (v < a) && !decide (c < v)
def wd1 (Z : Nat → Int32) (i : Nat) : Bool := rp Z i 6 == 1
theorem ix7 (i w : Nat) : (5 : Int32) + 7 * nI i + nI w = nI (5 + 7 * i + w) := by
  show nI 5 + nI 7 * nI i + nI w = _
  rw [pk_mul, nI_add, nI_add]
theorem zero_or (x : Int32) : x ||| 0 = x := Int32.or_zero
def ry (Z : Nat → Int32) (i : Nat) : Int32 := if wd1 Z i = true then 1 else if pSk (rp Z) (Z 1) i = true then 2 else if pLp (rp Z) (Z 2) (Z 0) i = true then 3 else if pBl (rp Z) (Z 4) i = true then 4 else 0
def wyR (M : Mm) (k : Nat) : Nat → Int32 := fun j => if j < k then ry (M.1 271) j else M.1 276 j
def tkR (M : Mm) (k : Nat) : Nat → Int32 := fun j => if j = 0 then tk (rp (M.1 271)) (M.1 271 1) 0 k else if j = 1 then tk (rp (M.1 271)) (M.1 271 1) 1 k else M.1 277 j
def wt (M : Mm) (w t : Nat → Int32) : Mm := mrow (mrow M 276 w) 277 t
theorem wt_276 {M : Mm} {w t : Nat → Int32} {j : Nat} {v : Int32} : mset (wt M w t) 276 j v = wt M (upd w j v) t := by
  unfold wt
  rw [mset_row, mrow_n (by decide), mrow_s, mrow_comm (k := 277) (k2 := 276) (by decide), mrow_mrow]
theorem wt_277 {M : Mm} {w t : Nat → Int32} {j : Nat} {v : Int32} : mset (wt M w t) 277 j v = wt M w (upd t j v) := by
  unfold wt
  rw [mset_mrow]
theorem wt_r6 {M : Mm} {w t : Nat → Int32} : (wt M w t).1 276 = w := by unfold wt; rw [mrow_n (by decide), mrow_s]
theorem wt_r7 {M : Mm} {w t : Nat → Int32} : (wt M w t).1 277 = t := by unfold wt; rw [mrow_s]
theorem wt_n {M : Mm} {w t : Nat → Int32} {k : Nat} (h : k ≠ 276 ∧ k ≠ 277) : (wt M w t).1 k = M.1 k := by unfold wt; rw [mrow_n h.2, mrow_n h.1]
theorem wt_self {M : Mm} : wt M (M.1 276) (M.1 277) = M := by unfold wt; rw [mrow_comm (by decide), mrow_self, mrow_self]
theorem wt_wt {M : Mm} {w t w2 t2 : Nat → Int32} : wt (wt M w t) w2 t2 = wt M w2 t2 := by
  unfold wt
  rw [mrow_comm (k := 277) (k2 := 276) (by decide), mrow_mrow, mrow_mrow]
theorem wd1_P {Z : Nat → Int32} {n i : Nat} (hw : WF (rp Z) n) (hi : i < n) : wd1 Z i = pWd (rp Z) i := by
  unfold wd1 pWd
  rcases (hw i hi).2.2 with h | h <;> rw [h] <;> rfl
theorem tkR_0 {M : Mm} : upd (upd (M.1 277) 0 0) 1 0 = tkR M 0 := by
  funext j
  unfold upd tkR
  by_cases h1 : j = 1
  · subst h1; rfl
  · by_cases h0 : j = 0
    · subst h0; rfl
    · simp [h0, h1]
theorem wyR_0 {M : Mm} : wyR M 0 = M.1 276 := by funext j; unfold wyR; rw [if_neg (by omega)]
theorem wyR_s {M : Mm} {k : Nat} : upd (wyR M k) k (ry (M.1 271) k) = wyR M (k + 1) := by
  funext j
  unfold upd wyR
  by_cases h : j = k
  · subst h; simp
  · have : (j < k + 1) ↔ (j < k) := by constructor <;> (intro g; omega)
    simp [h, this]
theorem tkR_s {M : Mm} {k n sd : Nat} (hw : WF (rp (M.1 271)) n) (hk : k < n) (hs : rp (M.1 271) k 0 = nI sd) (hsd : sd < 2) : upd (tkR M k) sd (tkR M k sd + (if (wd1 (M.1 271) k || pSk (rp (M.1 271)) (M.1 271 1) k) = true then 0 else rp (M.1 271) k 1)) = tkR M (k + 1) := by
  have hwd := wd1_P hw hk
  have hz : (nI sd = 0 ↔ sd = 0) ∧ (nI sd = 1 ↔ sd = 1) := by
    have : sd = 0 ∨ sd = 1 := by omega
    rcases this with rfl | rfl <;> decide
  have hS : pSk (rp (M.1 271)) (M.1 271 1) k = (rp (M.1 271) k 6 == 0 && !decide (tk (rp (M.1 271)) (M.1 271 1) (nI sd) k + rp (M.1 271) k 1 ≤ M.1 271 1)) := by
    unfold pSk stK
    rw [hs]
    simp
  have key : tkR M k sd + (if (wd1 (M.1 271) k || pSk (rp (M.1 271)) (M.1 271 1) k) = true then 0 else rp (M.1 271) k 1) = tk (rp (M.1 271)) (M.1 271 1) (nI sd) (k + 1) := by
    have e : tkR M k sd = tk (rp (M.1 271)) (M.1 271 1) (nI sd) k := by
      have : sd = 0 ∨ sd = 1 := by omega
      rcases this with rfl | rfl <;> rfl
    rw [e, hwd, hS, tk, hs]
    unfold pWd
    by_cases g : rp (M.1 271) k 6 = 0
    · by_cases g2 : tk (rp (M.1 271)) (M.1 271 1) (nI sd) k + rp (M.1 271) k 1 ≤ M.1 271 1
      · simp [g, g2]
      · simp [g, g2]
    · simp [g]
  rw [key]
  funext j
  unfold upd tkR
  have h01 : sd = 0 ∨ sd = 1 := by omega
  rcases h01 with rfl | rfl
  · by_cases h0 : j = 0
    · subst h0; rfl
    · rw [if_neg h0, if_neg h0, if_neg h0]
      by_cases h1 : j = 1
      · subst h1
        rw [if_pos rfl, if_pos rfl, tk, hs]
        rw [if_neg (fun h => absurd h.1 (by decide))]
      · rw [if_neg h1, if_neg h1]
  · by_cases h1 : j = 1
    · subst h1; rfl
    · rw [if_neg h1]
      by_cases h0 : j = 0
      · subst h0
        rw [if_pos rfl, if_pos rfl, tk, hs]
        rw [if_neg (fun h => absurd h.1 (by decide))]
      · rw [if_neg h0, if_neg h0, if_neg h1, if_neg h1]
theorem anS_top {S : Nat → Bool} {P : Nat → Nat → Int32} {a m i : Nat} (hm : m ≤ a) : anS S P (a + 1) m i = (anS S P a m i || (P a 3 == nI i && S a)) := by
  unfold anS
  rw [List.range_succ, List.any_append]
  simp [hm]
def laS (w : Nat → Int32) (more : Int32) (P : Nat → Nat → Int32) (n : Nat) : Nat → Bool := sd (fun i => w i != 0) (fun i => nI i == more) P n
def laR (w : Nat → Int32) (more : Int32) (P : Nat → Nat → Int32) (n m : Nat) : Nat → Int32 := fun j => if m ≤ j ∧ j < n ∧ w j = 0 ∧ laS w more P n j = false then 5 else w j
theorem laR_n {w : Nat → Int32} {more : Int32} {P : Nat → Nat → Int32} {n : Nat} : laR w more P n n = w := by
  funext j
  unfold laR
  rw [if_neg (by omega)]
theorem laR_0 {w : Nat → Int32} {more : Int32} {P : Nat → Nat → Int32} {n m a : Nat} (h1 : m ≤ a) (h2 : a < n) : (laR w more P n m a = 0) ↔ laS w more P n a = true := by
  unfold laR
  have hs := sd_eq (o := fun i => w i != 0) (q := fun i => nI i == more) (P := P) h2
  by_cases g : w a = 0
  · cases q : laS w more P n a
    · rw [if_pos ⟨h1, h2, g, rfl⟩]; exact ⟨fun h => absurd h (by decide), fun h => by cases h⟩
    · rw [if_neg (fun h => by cases h.2.2.2)]
      exact ⟨fun _ => rfl, fun _ => g⟩
  · rw [if_neg (fun h => g h.2.2.1)]
    refine ⟨fun h => absurd h g, fun h => ?_⟩
    unfold laS at h
    rw [hs] at h
    simp [g] at h
theorem laR_s {w : Nat → Int32} {more : Int32} {P : Nat → Nat → Int32} {n m : Nat} (hm : m < n) : upd (laR w more P n (m + 1)) m (if w m = 0 ∧ laS w more P n m = false then 5 else w m) = laR w more P n m := by
  funext j
  unfold upd laR
  by_cases h : j = m
  · subst h
    rw [if_pos rfl]
    by_cases g : w j = 0 ∧ laS w more P n j = false
    · rw [if_pos g, if_pos ⟨Nat.le_refl _, hm, g⟩]
    · rw [if_neg g, if_neg (fun q => g q.2.2)]
  · rw [if_neg h]
    have : (m + 1 ≤ j) ↔ (m ≤ j) := by constructor <;> (intro g; omega)
    simp [this]
def lkW (M : Mm) (n : Nat) : Nat → Int32 := laR (wyR M n) (-6) (rp (M.1 271)) n 0
def lkM (M : Mm) (n : Nat) : Mm := wt M (lkW M n) (tkR M n)
def cpy (f g : Nat → Int32) (a o k : Nat) : Nat → Int32 := fun j => if a ≤ j ∧ j < a + k then g (o + (j - a)) else f j
theorem cpy_0 {f g : Nat → Int32} {a o : Nat} : cpy f g a o 0 = f := by funext j; unfold cpy; rw [if_neg (by omega)]
theorem cpy_s {f g : Nat → Int32} {a o k : Nat} : upd (cpy f g a o k) (a + k) (g (o + k)) = cpy f g a o (k + 1) := by
  funext j
  unfold upd cpy
  by_cases h : j = a + k
  · subst h
    rw [if_pos rfl, if_pos (by omega)]
    congr 1
    omega
  · rw [if_neg h]
    by_cases g2 : a ≤ j ∧ j < a + k
    · rw [if_pos g2, if_pos (by omega)]
    · rw [if_neg g2, if_neg (by omega)]
def shf (f : Nat → Int32) (k : Nat) : Nat → Int32 := fun j => if j < k then f (j + 173) else f j
theorem shf_0 {f : Nat → Int32} : shf f 0 = f := by funext j; unfold shf; rw [if_neg (by omega)]
theorem shf_s {f : Nat → Int32} {k : Nat} : upd (shf f k) k (shf f k (k + 173)) = shf f (k + 1) := by
  funext j
  unfold upd shf
  by_cases h : j = k
  · subst h
    rw [if_pos rfl, if_neg (by omega), if_pos (by omega)]
  · rw [if_neg h]
    have : (j < k + 1) ↔ (j < k) := by constructor <;> (intro g; omega)
    simp [this]
def rcM (M : Mm) (k : Nat) : Mm := if k = 6 then mset (mrow M 272 (cpy (shf (M.1 272) 865) (M.1 271) 865 0 173)) 270 4 (nI 6) else mset (mrow M 272 (cpy (M.1 272) (M.1 271) (173 * k) 0 173)) 270 4 (nI (k + 1))
theorem rc_norm {M : Mm} {f g : Nat → Int32} {v w : Int32} : mset (mrow (mset (mrow M 272 f) 270 4 v) 272 g) 270 4 w = mset (mrow M 272 g) 270 4 w := by
  refine Prod.ext (funext fun k => ?_) rfl
  by_cases e : k = 270
  · subst e
    rw [mset_s, mset_s, mrow_n (by decide), mset_s, mrow_n (by decide), mrow_n (by decide)]
    funext j
    unfold upd
    by_cases h : j = 4
    · rw [if_pos h, if_pos h]
    · rw [if_neg h, if_neg h, if_neg h]
  · rw [mset_n e, mset_n e]
    by_cases e2 : k = 272
    · subst e2; rw [mrow_s, mrow_s]
    · rw [mrow_n e2, mset_n e, mrow_n e2, mrow_n e2]
theorem rcM_n {M : Mm} {k j : Nat} (h : j ≠ 270 ∧ j ≠ 272) : (rcM M k).1 j = M.1 j := by
  unfold rcM
  split
  · rw [mset_n h.1, mrow_n h.2]
  · rw [mset_n h.1, mrow_n h.2]
theorem lo_init {M : Mm} : mset (mset M 277 0 0) 277 1 0 = wt M (M.1 276) (upd (upd (M.1 277) 0 0) 1 0) := by
  have e : M = wt M (M.1 276) (M.1 277) := wt_self.symm
  rw [← wt_277, ← wt_277, wt_self]
theorem lo_sk {M : Mm} {n k s : Nat} (hw : WF (rp (M.1 271)) n) (hk : k < n) (hs : rp (M.1 271) k 0 = nI s) (hsd : s < 2) : pSk (rp (M.1 271)) (M.1 271 1) k = (!wd1 (M.1 271) k && (!decide (tkR M k s + rp (M.1 271) k 1 ≤ M.1 271 1))) := by
  have e : tkR M k s = tk (rp (M.1 271)) (M.1 271 1) (nI s) k := by
    have : s = 0 ∨ s = 1 := by omega
    rcases this with rfl | rfl <;> rfl
  rw [e, wd1_P hw hk]
  unfold pSk stK pWd
  rw [hs]
  simp [bne]
theorem lk_norm {M : Mm} {w t w2 : Nat → Int32} : wt M w2 t = mrow (wt M w t) 276 w2 := by
  unfold wt
  rw [mrow_comm (k := 277) (k2 := 276) (by decide), mrow_mrow]
