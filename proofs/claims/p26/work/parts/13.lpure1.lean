theorem nI_sub {a b : Nat} (h : b ≤ a) : nI a - nI b = nI (a - b) := by
  have e : nI a = nI (a - b) + nI b := by rw [nI_add, Nat.sub_add_cancel h]
  rw [e, Int32.add_sub_cancel]
theorem nI_mul (a b : Nat) : nI a * nI b = nI (a * b) := (Int32.ofNat_mul a b).symm
theorem nI_mod {a b : Nat} (ha : a < 2 ^ 31) (hb : b < 2 ^ 31) : nI a - nI a / nI b * nI b = nI (a % b) := by
  have e : nI a / nI b = nI (a / b) := (Int32.ofNat_div ha hb).symm
  have h1 : a / b * b ≤ a := Nat.div_mul_le_self a b
  have h2 : a / b * b + a % b = a := Nat.div_add_mod' a b
  rw [e, nI_mul, nI_sub h1]
  congr 1
  omega
theorem lw_nn (v : Int32) : ∃ j, j < 2 ^ 31 ∧ v &&& 2147483647 = nI j := nI_of (by
  intro h
  rw [Int32.lt_iff_toInt_lt] at h
  have h2 : (v &&& 2147483647).toBitVec.msb = true := by
    rw [BitVec.msb_eq_toInt]
    exact decide_eq_true h
  rw [Int32.toBitVec_and, BitVec.msb_and] at h2
  have h3 : (2147483647 : Int32).toBitVec.msb = false := by decide
  rw [h3, Bool.and_false] at h2
  cases h2)
def lo0 (v : Int32) (n : Nat) : Nat := (v &&& 2147483647).toNatClampNeg % n
theorem lo0_lt {v : Int32} {n : Nat} (h : 0 < n) : lo0 v n < n := Nat.mod_lt _ h
theorem lo0_eq {v : Int32} {n : Nat} (hn : n < 2 ^ 31) : (v &&& 2147483647) - (v &&& 2147483647) / nI n * nI n = nI (lo0 v n) := by
  obtain ⟨j, hj, e⟩ := lw_nn v
  unfold lo0
  rw [e, nI_clamp hj, nI_mod hj hn]
theorem b_1 {i : Nat} (hi : i < 32) : bt 1 i = decide (i = 0) := by
  have h := bt_one (k := 0) (i := i) (by omega) hi
  rw [show ((1 : Int32) <<< (nI 0 &&& 31)) = 1 from by decide] at h
  exact h
theorem shr1 {x : Int32} {k : Nat} (hk : k < 31) : (x >>> (nI k &&& 31)) &&& 1 = if bt x k = true then 1 else 0 := by
  apply b_ext
  intro i hi
  rw [b_and, b_sshr k (by omega) x hi, b_1 hi]
  by_cases e : i = 0
  · subst e
    rw [decide_eq_true rfl, Bool.and_true, if_pos (by omega), Nat.add_zero]
    cases h : bt x k
    · rw [if_neg (by decide), b_0]
    · rw [if_pos rfl, b_1 hi]; rfl
  · rw [decide_eq_false e, Bool.and_false]
    cases bt x k
    · rw [if_neg (by decide), b_0]
    · rw [if_pos rfl, b_1 hi, decide_eq_false e]
theorem shr1n {x : Int32} {k : Nat} (hk : k < 31) : (x >>> (nI k &&& 31)) &&& 1 = nI (if bt x k = true then 1 else 0) := by
  rw [shr1 hk]
  split <;> rfl
theorem cnt_pos {q : Nat → Bool} {n : Nat} : 0 < cnt q n ↔ ∃ i, i < n ∧ q i = true := by
  induction n with
  | zero => simp [cnt]
  | succ n ih =>
    rw [cnt]
    constructor
    · intro h
      by_cases g : q n = true
      · exact ⟨n, by omega, g⟩
      · rw [if_neg g] at h
        obtain ⟨i, h1, h2⟩ := ih.mp h
        exact ⟨i, by omega, h2⟩
    · rintro ⟨i, h1, h2⟩
      by_cases g : i = n
      · subst g; rw [if_pos h2]; omega
      · have := ih.mpr ⟨i, by omega, h2⟩
        omega
theorem cnt_bt {p : Nat → Bool} {n : Nat} (hn : n ≤ 24) : cnt (bt (mk p n)) 24 = cnt p n := by
  rw [cnt_ext hn (fun i hi => by
    by_cases h : i < 32
    · rw [bt_mk _ (by omega) h, decide_eq_false (by omega)]; rfl
    · exact b_big (by omega))]
  exact cnt_congr (fun i hi => by rw [bt_mk _ (by omega) (by omega), decide_eq_true hi, Bool.true_and])
def rz1 (P : Nat → Nat → Int32) (d la pg ov : Int32) (i : Nat) : Int32 := if pWd P i = true then 1 else if pSk P pg i = true then 2 else if pLp P d la i = true then 3 else if pBl P ov i = true then 4 else 0
theorem rz1_0 {P : Nat → Nat → Int32} {d la pg ov : Int32} {i : Nat} : (rz1 P d la pg ov i != 0) = pOut P d la pg ov i := by
  unfold rz1 pOut
  cases pWd P i <;> cases pSk P pg i <;> cases pLp P d la i <;> cases pBl P ov i <;> rfl
theorem rz1_12 {P : Nat → Nat → Int32} {d la pg ov : Int32} {i : Nat} : (¬ rz1 P d la pg ov i = 1 ∧ ¬ rz1 P d la pg ov i = 2) ↔ (pWd P i = false ∧ pSk P pg i = false) := by
  unfold rz1
  cases pWd P i <;> cases pSk P pg i <;> cases pLp P d la i <;> cases pBl P ov i <;> simp (decide := true)
theorem tk_rz {P : Nat → Nat → Int32} {d la pg ov s : Int32} {q n : Nat} (hw : WF P n) (hq : q < n) : tk P pg s (q + 1) = tk P pg s q + (if P q 0 = s ∧ ¬ rz1 P d la pg ov q = 1 ∧ ¬ rz1 P d la pg ov q = 2 then P q 1 else 0) := by
  simp only [rz1_12]
  rw [tk]
  have h6 := (hw q hq).2.2
  by_cases h0 : P q 0 = s
  · subst h0
    rcases h6 with h6 | h6
    · have e1 : pWd P q = false := by unfold pWd; rw [h6]; rfl
      have e2 : pSk P pg q = !decide (tk P pg (P q 0) q + P q 1 ≤ pg) := by unfold pSk stK; rw [h6]; simp
      rw [if_pos ⟨rfl, h6⟩, e1, e2]
      by_cases g : tk P pg (P q 0) q + P q 1 ≤ pg
      · rw [if_pos g, if_pos (by simp [g])]
      · rw [if_neg g, if_neg (by simp [g]), Int32.add_zero]
    · have e1 : pWd P q = true := by unfold pWd; rw [h6]; rfl
      rw [if_neg (fun g => by rw [h6] at g; exact absurd g.2 (by decide)), e1, if_neg (by simp), Int32.add_zero]
  · rw [if_neg (fun g => h0 g.1), if_neg (fun g => h0 g.1), Int32.add_zero]
def toV (P : Nat → Nat → Int32) (i : Nat) : Int32 := if P i 3 = -6 then -1 else P i 3
theorem toV_c {P : Nat → Nat → Int32} {n i : Nat} (hw : WF P n) (hi : i < n) : (P i 3 = -6 ∧ toV P i = -1) ∨ ∃ t, t < i ∧ P i 3 = nI t ∧ toV P i = nI t := by
  unfold toV
  rcases (hw i hi).2.1 with h | ⟨t, h1, h2⟩
  · exact Or.inl ⟨h, if_pos h⟩
  · by_cases e : P i 3 = -6
    · exact Or.inl ⟨e, if_pos e⟩
    · exact Or.inr ⟨t, h1, h2, by rw [if_neg e, h2]⟩
theorem nI_n6 : ∀ t, t < 24 → ¬ nI t = -6 := by decide +kernel
theorem nI_n1 : ∀ t, t < 24 → ¬ nI t = -1 := by decide +kernel
theorem toV_lt {P : Nat → Nat → Int32} {n i : Nat} (hw : WF P n) (hn : n ≤ 24) (hi : i < n) : toV P i < 0 ↔ P i 3 = -6 := by
  rcases toV_c hw hi with ⟨h1, h2⟩ | ⟨t, h0, h1, h2⟩
  · rw [h1, h2]; decide
  · rw [h1, h2]
    exact ⟨fun h => absurd h (nI_pos (by omega)), fun h => absurd h (nI_n6 t (by omega))⟩
theorem toV_eq {P : Nat → Nat → Int32} {n i p : Nat} (hw : WF P n) (hn : n ≤ 24) (hi : i < n) (hp : p < 24) : toV P i = nI p ↔ P i 3 = nI p := by
  rcases toV_c hw hi with ⟨h1, h2⟩ | ⟨t, h0, h1, h2⟩
  · rw [h1, h2]
    exact ⟨fun h => absurd h.symm (nI_n1 p hp), fun h => absurd h.symm (nI_n6 p hp)⟩
  · rw [h1, h2]
def sm9 (P : Nat → Nat → Int32) (n : Nat) : Prop := ∀ i, i < n → (∃ s, s ≤ 999 ∧ P i 5 = nI s) ∧ (∃ c, c < 1024 ∧ P i 2 = nI c) ∧ ∃ g, 1 ≤ g ∧ g ≤ 9 ∧ P i 1 = nI g
def LSt (M : Mm) (P : Nat → Nat → Int32) (n : Nat) : Prop := ∀ i, i < n → M.1 270 i = P i 0 ∧ M.1 271 i = P i 1 ∧ M.1 272 i = P i 4 ∧ M.1 273 i = P i 5 ∧ M.1 274 i = toV P i ∧ M.1 275 i = P i 2 ∧ M.1 276 i = P i 6
theorem lp_eq {P : Nat → Nat → Int32} {i dy l : Nat} (h : sm9 P (i + 1)) (hd : dy ≤ 3000) (hl : l ≤ 60) (h3 : ¬ P i 3 = -6) : pLp P (nI dy) (nI l) i = !decide (nI dy ≤ P i 5 + nI l) := by
  obtain ⟨⟨s, hs, e⟩, _⟩ := h i (by omega)
  unfold pLp
  rw [e]
  have e1 : (P i 3 != -6) = true := by simp [h3]
  rw [e1, Bool.true_and, nI_add]
  congr 1
  apply decide_eq_decide.mpr
  rw [Int32.le_iff_toInt_le, Int32.le_iff_toInt_le, Int32.toInt_sub, nI_toInt (by omega), nI_toInt (by omega), nI_toInt (by omega), nI_toInt (by omega), Int.bmod_eq_of_le (by omega) (by omega)]
  omega
theorem bl_eq {x y : Int32} : ((x &&& (y ^^^ (-1))) == 0) = decide (x ||| y = y) := by
  rw [Bool.eq_iff_iff, beq_iff_eq, decide_eq_true_eq]
  constructor
  · intro h
    apply b_ext
    intro i hi
    have h1 : bt (x &&& (y ^^^ (-1))) i = false := by rw [h, b_0]
    rw [b_and, b_xor, b_m1 i hi] at h1
    rw [b_or]
    revert h1
    cases bt x i <;> cases bt y i <;> simp
  · intro h
    apply b_ext
    intro i hi
    have h1 : bt (x ||| y) i = bt y i := by rw [h]
    rw [b_or] at h1
    rw [b_and, b_xor, b_m1 i hi, b_0]
    revert h1
    cases bt x i <;> cases bt y i <;> simp
def rzW (P : Nat → Nat → Int32) (d la pg ov more : Int32) (n : Nat) : Nat → Int32 := fun i => if rz1 P d la pg ov i = 0 then (if sd (pOut P d la pg ov) (bt more) P n i = true then 0 else 5) else rz1 P d la pg ov i
def r1A (f : Nat → Int32) (P : Nat → Nat → Int32) (d la pg ov : Int32) (p : Nat) : Nat → Int32 := fun i => if i < p then rz1 P d la pg ov i else f i
def r2A (f : Nat → Int32) (P : Nat → Nat → Int32) (d la pg ov more : Int32) (n m : Nat) : Nat → Int32 := fun i => if i < n then (if m ≤ i then rzW P d la pg ov more n i else rz1 P d la pg ov i) else f i
theorem r1A_0 {f : Nat → Int32} {P : Nat → Nat → Int32} {d la pg ov : Int32} : r1A f P d la pg ov 0 = f := by funext i; unfold r1A; rw [if_neg (by omega)]
theorem r1A_s {f : Nat → Int32} {P : Nat → Nat → Int32} {d la pg ov : Int32} {p : Nat} : upd (r1A f P d la pg ov p) p (rz1 P d la pg ov p) = r1A f P d la pg ov (p + 1) := by
  funext i
  unfold upd r1A
  by_cases h : i = p
  · subst h; simp
  · have : (i < p + 1) ↔ (i < p) := by constructor <;> (intro g; omega)
    simp [h, this]
theorem r2A_n {f : Nat → Int32} {P : Nat → Nat → Int32} {d la pg ov more : Int32} {n : Nat} : r2A f P d la pg ov more n n = r1A f P d la pg ov n := by
  funext i
  unfold r2A r1A
  by_cases h : i < n
  · rw [if_pos h, if_pos h, if_neg (by omega)]
  · rw [if_neg h, if_neg h]
theorem r2A_s {f : Nat → Int32} {P : Nat → Nat → Int32} {d la pg ov more : Int32} {n m : Nat} (hm : m < n) : upd (r2A f P d la pg ov more n (m + 1)) m (rzW P d la pg ov more n m) = r2A f P d la pg ov more n m := by
  funext i
  unfold upd r2A
  by_cases h : i = m
  · subst h; simp [hm]
  · have : (m + 1 ≤ i) ↔ (m ≤ i) := by constructor <;> (intro g; omega)
    simp [h, this]
theorem r2A_k {f : Nat → Int32} {P : Nat → Nat → Int32} {d la pg ov more : Int32} {n m : Nat} (hm : m < n) (h : ¬ rz1 P d la pg ov m = 0) : r2A f P d la pg ov more n (m + 1) = r2A f P d la pg ov more n m := by
  funext i
  unfold r2A
  by_cases e : i = m
  · subst e; rw [if_pos hm, if_pos hm, if_neg (by omega), if_pos (Nat.le_refl _)]; unfold rzW; rw [if_neg h]
  · have : (m + 1 ≤ i) ↔ (m ≤ i) := by constructor <;> (intro g; omega)
    simp [this]
def rzA (f : Nat → Int32) (P : Nat → Nat → Int32) (d la pg ov more : Int32) (n : Nat) : Nat → Int32 := fun i => if i < n then rzW P d la pg ov more n i else f i
theorem r2A_0 {f : Nat → Int32} {P : Nat → Nat → Int32} {d la pg ov more : Int32} {n : Nat} : r2A f P d la pg ov more n 0 = rzA f P d la pg ov more n := by
  funext i
  unfold r2A rzA
  rw [if_pos (Nat.zero_le i)]
theorem rzW_0 {P : Nat → Nat → Int32} {d la pg ov more : Int32} {n i : Nat} (hi : i < n) : rzW P d la pg ov more n i = 0 ↔ sd (pOut P d la pg ov) (bt more) P n i = true := by
  unfold rzW
  constructor
  · intro h
    by_cases g : rz1 P d la pg ov i = 0
    · rw [if_pos g] at h
      cases hs : sd (pOut P d la pg ov) (bt more) P n i
      · rw [hs, if_neg (by decide)] at h; exact absurd h (by decide)
      · rfl
    · rw [if_neg g] at h; exact absurd h g
  · intro h
    have h1 := h
    rw [sd_eq hi] at h1
    have h2 : pOut P d la pg ov i = false := by
      cases hp : pOut P d la pg ov i
      · rfl
      · rw [hp] at h1; simp at h1
    have h3 : rz1 P d la pg ov i = 0 := by
      have := rz1_0 (P := P) (d := d) (la := la) (pg := pg) (ov := ov) (i := i)
      rw [h2] at this
      simpa using this
    rw [if_pos h3, if_pos h]
def stQ (P : Nat → Nat → Int32) (d la pg ov more : Int32) (n p : Nat) : Nat → Bool := fun a => decide (p < a) && (P a 3 == nI p && sd (pOut P d la pg ov) (bt more) P n a)
def stN (P : Nat → Nat → Int32) (d la pg ov more : Int32) (n p a : Nat) : Nat := (if bt more p = true then 1 else 0) + cnt (stQ P d la pg ov more n p) a
theorem stN_0 {P : Nat → Nat → Int32} {d la pg ov more : Int32} {n p : Nat} : stN P d la pg ov more n p (p + 1) = if bt more p = true then 1 else 0 := by
  unfold stN
  have : ¬ 0 < cnt (stQ P d la pg ov more n p) (p + 1) := by
    rw [cnt_pos]
    rintro ⟨i, h1, h2⟩
    unfold stQ at h2
    rw [decide_eq_false (by omega)] at h2
    cases h2
  omega
theorem stN_s {P : Nat → Nat → Int32} {d la pg ov more : Int32} {n p a : Nat} (hp : p < a) (ha : a < n) : stN P d la pg ov more n p (a + 1) = stN P d la pg ov more n p a + (if P a 3 = nI p ∧ rzW P d la pg ov more n a = 0 then 1 else 0) := by
  unfold stN
  rw [cnt, Nat.add_assoc]
  congr 2
  unfold stQ
  rw [decide_eq_true hp, Bool.true_and]
  by_cases h : P a 3 = nI p ∧ rzW P d la pg ov more n a = 0
  · rw [if_pos h, if_pos (by rw [h.1, (rzW_0 ha).mp h.2]; simp)]
  · rw [if_neg h, if_neg (fun g => h (by simp only [Bool.and_eq_true, beq_iff_eq] at g; exact ⟨g.1, (rzW_0 ha).mpr g.2⟩))]
theorem stN_le {P : Nat → Nat → Int32} {d la pg ov more : Int32} {n p a : Nat} : stN P d la pg ov more n p a ≤ 1 + a := by
  unfold stN
  have := cnt_le (stQ P d la pg ov more n p) a
  split <;> omega
theorem stN_e {P : Nat → Nat → Int32} {d la pg ov more : Int32} {n p : Nat} (hp : p < n) (h : rz1 P d la pg ov p = 0) : stN P d la pg ov more n p n = 0 ↔ sd (pOut P d la pg ov) (bt more) P n p = true := by
  have ho : pOut P d la pg ov p = false := by rw [← rz1_0, h]; rfl
  rw [sd_eq hp, ho]
  unfold stN
  have key : anS (sd (pOut P d la pg ov) (bt more) P n) P n (p + 1) p = true ↔ 0 < cnt (stQ P d la pg ov more n p) n := by
    rw [cnt_pos]
    unfold anS stQ
    rw [List.any_eq_true]
    constructor
    · rintro ⟨a, h1, h2⟩
      exact ⟨a, List.mem_range.mp h1, h2⟩
    · rintro ⟨a, h1, h2⟩
      exact ⟨a, List.mem_range.mpr h1, h2⟩
  cases hb : bt more p
  · rw [if_neg (by decide)]
    cases ha : anS (sd (pOut P d la pg ov) (bt more) P n) P n (p + 1) p
    · rw [ha] at key
      have : ¬ 0 < cnt (stQ P d la pg ov more n p) n := fun g => Bool.noConfusion (key.mpr g)
      exact ⟨fun _ => rfl, fun _ => by omega⟩
    · have := key.mp ha
      exact ⟨fun _ => by omega, fun g => Bool.noConfusion g⟩
  · rw [if_pos rfl]
    exact ⟨fun g => by omega, fun g => by simp at g⟩
def fbL2 (w : Int64) : Nat → Int64 → Int32 → Int64 × Int32
  | 0, x, e => (x, e)
  | f + 1, x, e => if 0 ≤ lg_cmp x w then (x, e) else fbL2 w f (x * 2) (e + Int32.ofInt (-1))
theorem fbL2_0 {w : Int64} {f : Nat} {x : Int64} {e : Int32} (h : 0 ≤ lg_cmp x w) : fbL2 w f x e = (x, e) := by
  cases f with
  | zero => rfl
  | succ f => rw [fbL2, if_pos h]
def lsE (w : Int64) : Nat → Int64 → Bool
  | 0, x => decide (0 ≤ lg_cmp x w)
  | f + 1, x => decide (0 ≤ lg_cmp x w) || lsE w f (x * 2)
theorem lsE_s {w : Int64} {f : Nat} {x : Int64} (h : lsE w f x = true) (hc : ¬ 0 ≤ lg_cmp x w) : ∃ f2, f = f2 + 1 ∧ lsE w f2 (x * 2) = true := by
  cases f with
  | zero => exact absurd (of_decide_eq_true h) hc
  | succ f =>
    rw [lsE, decide_eq_false hc, Bool.false_or] at h
    exact ⟨f, rfl, h⟩
def lsD (w x : Int64) : Int64 := if 0 < lg_cmp (2 * (x * 8388608 - x * 8388608 / w * w)) w ∨ (lg_cmp (2 * (x * 8388608 - x * 8388608 / w * w)) w = 0 ∧ lg_cmp (x * 8388608 / w - x * 8388608 / w / 2 * 2) 1 = 0) then 1 else 0
def lsF (w x : Int64) (e : Int32) : Int32 := e * 8388608 + (x * 8388608 / w + lsD w x - 8388608).toInt32
theorem ls_all : ∀ w, w < 25 → w = 0 ∨ ((nI w).toInt64 ≠ 0 ∧ ∀ a, a < 25 → a ≤ w → a = 0 ∨ (lsE (nI w).toInt64 6 (nI a).toInt64 = true ∧ lsF (nI w).toInt64 (fbL2 (nI w).toInt64 6 (nI a).toInt64 127).1 (fbL2 (nI w).toInt64 6 (nI a).toInt64 127).2 = fbR a w)) := by decide +kernel
theorem rz1_v {P : Nat → Nat → Int32} {dy la n p : Nat} {pg ov : Int32} (hw : WF P n) (hp : p < n) (h9 : sm9 P n) (hd : dy ≤ 3000) (hl : la ≤ 60) : rz1 P (nI dy) (nI la) pg ov p = if P p 6 = 1 then 1 else if ¬ P p 1 + tk P pg (P p 0) p ≤ pg then 2 else if ¬ (if P p 3 = -6 ∨ nI dy ≤ P p 5 + nI la then (0 : Int32) else 1) = 0 then 3 else if ¬ (if P p 2 ≤ 0 ∨ ¬ P p 2 ||| ov = ov then (0 : Int32) else 1) = 0 then 4 else 0 := by
  have h6 := (hw p hp).2.2
  have hlp : pLp P (nI dy) (nI la) p = !decide (P p 3 = -6 ∨ nI dy ≤ P p 5 + nI la) := by
    by_cases h3 : P p 3 = -6
    · unfold pLp
      simp [h3]
    · rw [lp_eq (fun i hi => h9 i (by omega)) hd hl h3]
      simp [h3]
  have hbl : pBl P ov p = !decide (P p 2 ≤ 0 ∨ ¬ P p 2 ||| ov = ov) := by
    unfold pBl
    rw [bl_eq]
    obtain ⟨_, ⟨c, hc, e⟩, _⟩ := h9 p hp
    rw [e]
    rcases Nat.eq_zero_or_pos c with h | h
    · subst h
      simp (decide := true)
    · have e1 : (nI c != 0) = true := by simp [nI_ne0 h (by omega)]
      have e2 : ¬ nI c ≤ 0 := nI_nle h (by omega)
      simp [e1, e2]
  unfold rz1
  rw [hlp, hbl]
  rcases h6 with h6 | h6
  · have e1 : pWd P p = false := by unfold pWd; rw [h6]; rfl
    have e2 : pSk P pg p = !decide (P p 1 + tk P pg (P p 0) p ≤ pg) := by unfold pSk stK; rw [h6, Int32.add_comm]; simp
    rw [e1, e2, if_neg (show ¬ false = true by decide), if_neg (show ¬ P p 6 = 1 by rw [h6]; decide)]
    by_cases g1 : P p 1 + tk P pg (P p 0) p ≤ pg
    · rw [decide_eq_true g1, if_neg (show ¬ (!true) = true by decide), if_neg (show ¬ ¬ P p 1 + tk P pg (P p 0) p ≤ pg from fun h => h g1)]
      have k3 : (if (!decide (P p 2 ≤ 0 ∨ ¬ P p 2 ||| ov = ov)) = true then (4 : Int32) else 0) = if ¬ (if P p 2 ≤ 0 ∨ ¬ P p 2 ||| ov = ov then (0 : Int32) else 1) = 0 then 4 else 0 := by
        by_cases g3 : P p 2 ≤ 0 ∨ ¬ P p 2 ||| ov = ov
        · rw [decide_eq_true g3, if_pos g3]; rfl
        · rw [decide_eq_false g3, if_neg g3]; rfl
      by_cases g2 : P p 3 = -6 ∨ nI dy ≤ P p 5 + nI la
      · rw [decide_eq_true g2, if_pos g2]; exact k3
      · rw [decide_eq_false g2, if_neg g2]; rfl
    · rw [decide_eq_false g1, if_pos (show (!false) = true by decide), if_pos g1]
  · have e1 : pWd P p = true := by unfold pWd; rw [h6]; rfl
    rw [e1, if_pos rfl, if_pos h6]
def mput (M : Mm) (r o n : Nat) (g : Nat → Int32) : Mm := mrow M r (fun x => if o ≤ x ∧ x < o + n then g (x - o) else M.1 r x)
theorem mput_at {M : Mm} {r o n k : Nat} {g : Nat → Int32} (h : k < n) : (mput M r o n g).1 r (o + k) = g k := by
  unfold mput
  rw [mrow_s, if_pos (by omega), Nat.add_sub_cancel_left]
theorem mput_o {M : Mm} {r o n r2 : Nat} {g : Nat → Int32} (h : r2 ≠ r) : (mput M r o n g).1 r2 = M.1 r2 := by unfold mput; rw [mrow_n h]
theorem mput_2 {M : Mm} {r o n : Nat} {g : Nat → Int32} : (mput M r o n g).2 = M.2 := rfl
theorem mput_set {M : Mm} {r o n k : Nat} {g : Nat → Int32} {v : Int32} (h : k < n) : mset (mput M r o n g) r (o + k) v = mput M r o n (upd g k v) := by
  unfold mput
  rw [mset_mrow]
  congr 1
  funext x
  unfold upd
  by_cases h1 : x = o + k
  · subst h1; rw [if_pos rfl, if_pos (by omega), if_pos (by omega)]
  · rw [if_neg h1]
    show (if o ≤ x ∧ x < o + n then g (x - o) else M.1 r x) = _
    by_cases h2 : o ≤ x ∧ x < o + n
    · rw [if_pos h2, if_pos h2, if_neg (by omega)]
    · rw [if_neg h2, if_neg h2]
theorem mput_self {M : Mm} {r o n : Nat} : mput M r o n (fun z9 => M.1 r (o + z9)) = M := by
  unfold mput
  have e : (fun x => if o ≤ x ∧ x < o + n then M.1 r (o + (x - o)) else M.1 r x) = M.1 r := by
    funext x
    by_cases h2 : o ≤ x ∧ x < o + n
    · rw [if_pos h2, show o + (x - o) = x by omega]
    · rw [if_neg h2]
  rw [e, mrow_self]
theorem mput_cg {M : Mm} {r o n : Nat} {g g' : Nat → Int32} (h : ∀ k, k < n → g k = g' k) : mput M r o n g = mput M r o n g' := by
  unfold mput
  congr 1
  funext x
  by_cases h2 : o ≤ x ∧ x < o + n
  · rw [if_pos h2, if_pos h2, h _ (by omega)]
  · rw [if_neg h2, if_neg h2]
theorem mput_mput {M : Mm} {r o n : Nat} {g g' : Nat → Int32} : mput (mput M r o n g) r o n g' = mput M r o n g' := by
  unfold mput
  rw [mrow_mrow, mrow_s]
  congr 1
  funext x
  by_cases h2 : o ≤ x ∧ x < o + n
  · rw [if_pos h2, if_pos h2]
  · rw [if_neg h2, if_neg h2, if_neg h2]
