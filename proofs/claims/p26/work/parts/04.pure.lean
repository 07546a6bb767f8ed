theorem upTo {P : Nat → Prop} (N : Nat) (step : ∀ n, n ≤ N → (n < N → P (n + 1)) → P n) : ∀ n, n ≤ N → P n := by
  have h : ∀ d n, n + d = N → P n := by
    intro d
    induction d with
    | zero => intro n hn; exact step n (by omega) (fun h => absurd h (by omega))
    | succ d ih => intro n hn; exact step n (by omega) (fun _ => ih (n + 1) (by omega))
  exact fun n hn => h (N - n) n (by omega)
theorem downTo {P : Nat → Prop} (step : ∀ n, (∀ m, m < n → P m) → P n) : ∀ n, P n := fun n => Nat.strongRecOn n step
theorem nI_inc (n : Nat) : nI n + Int32.ofInt 1 = nI (n + 1) := nI_1 n
theorem nI_dec (n : Nat) : nI (n + 1) + Int32.ofInt (-1) = nI n := by
  rw [nI_succ]
  have e : Int32.ofInt (-1) = -1 := by decide
  rw [e, Int32.add_assoc]
  have e2 : (1 : Int32) + -1 = 0 := by decide
  rw [e2, Int32.add_zero]
def mk (p : Nat → Bool) : Nat → Int32
  | 0 => 0
  | n + 1 => if p n = true then mk p n ||| ((1 : Int32) <<< (nI n &&& 31)) else mk p n
theorem mk_t {p : Nat → Bool} {n : Nat} (h : p n = true) : mk p n ||| ((1 : Int32) <<< (nI n &&& 31)) = mk p (n + 1) := by rw [mk, if_pos h]
theorem mk_f {p : Nat → Bool} {n : Nat} (h : p n = false) : mk p n = mk p (n + 1) := by rw [mk, if_neg (by rw [h]; decide)]
theorem of_le {a k : Nat} (h : nI a ≤ nI k) (ha : a < 2 ^ 31) (hk : k < 2 ^ 31) : a ≤ k := (nI_leI ha hk).mp h
theorem of_nle {a k : Nat} (h : ¬ nI a ≤ nI k) (ha : a < 2 ^ 31) (hk : k < 2 ^ 31) : k < a := Nat.lt_of_not_le (fun q => h ((nI_leI ha hk).mpr q))
theorem of_lt {a k : Nat} (h : nI a < nI k) (ha : a < 2 ^ 31) (hk : k < 2 ^ 31) : a < k := (nI_ltI ha hk).mp h
theorem of_nlt {a k : Nat} (h : ¬ nI a < nI k) (ha : a < 2 ^ 31) (hk : k < 2 ^ 31) : k ≤ a := Nat.le_of_not_lt (fun q => h ((nI_ltI ha hk).mpr q))
def bt (x : Int32) (i : Nat) : Bool := x.toBitVec.getLsbD i
theorem b_ext {x y : Int32} (h : ∀ i, i < 32 → bt x i = bt y i) : x = y := Int32.toBitVec_inj.mp (BitVec.eq_of_getLsbD_eq (fun i hi => h i hi))
theorem b_or (x y : Int32) (i : Nat) : bt (x ||| y) i = (bt x i || bt y i) := by unfold bt; rw [Int32.toBitVec_or, BitVec.getLsbD_or]
theorem b_and (x y : Int32) (i : Nat) : bt (x &&& y) i = (bt x i && bt y i) := by unfold bt; rw [Int32.toBitVec_and, BitVec.getLsbD_and]
theorem b_xor (x y : Int32) (i : Nat) : bt (x ^^^ y) i = (bt x i ^^ bt y i) := by unfold bt; rw [Int32.toBitVec_xor, BitVec.getLsbD_xor]
theorem b_big {x : Int32} {i : Nat} (h : 32 ≤ i) : bt x i = false := BitVec.getLsbD_of_ge _ _ h
theorem b_255 (i : Nat) : bt 255 i = decide (i < 8) := by
  rcases Nat.lt_or_ge i 32 with h | h
  · exact (by decide +kernel : ∀ i, i < 32 → bt 255 i = decide (i < 8)) i h
  · rw [b_big h, decide_eq_false (by omega)]
theorem b_65535 (i : Nat) : bt 65535 i = decide (i < 16) := by
  rcases Nat.lt_or_ge i 32 with h | h
  · exact (by decide +kernel : ∀ i, i < 32 → bt 65535 i = decide (i < 16)) i h
  · rw [b_big h, decide_eq_false (by omega)]
theorem b_m1 : ∀ i, i < 32 → bt (-1) i = true := by decide +kernel
theorem b_0 (i : Nat) : bt 0 i = false := BitVec.getLsbD_zero
theorem s_l : ∀ n, n < 32 → ((nI n &&& 31).toBitVec.smod 32).toNat = n := by decide +kernel
theorem s_u : ∀ n, n < 32 → (((nI n).toUInt32 &&& Int32.toUInt32 31).toBitVec % 32).toNat = n := by decide +kernel
theorem b_shl (n : Nat) (hn : n < 32) (x : Int32) {i : Nat} (hi : i < 32) : bt (x <<< (nI n &&& 31)) i = (decide (n ≤ i) && bt x (i - n)) := by
  unfold bt
  rw [Int32.toBitVec_shiftLeft]
  show (x.toBitVec <<< ((nI n &&& 31).toBitVec.smod 32).toNat).getLsbD i = _
  rw [s_l n hn, BitVec.getLsbD_shiftLeft]
  rcases Nat.lt_or_ge i n with h | h
  · simp [h, Nat.not_le.mpr h]
  · simp [hi, h, Nat.not_lt.mpr h]
theorem b_ushr (n : Nat) (hn : n < 32) (x : Int32) (i : Nat) : bt ((x.toUInt32 >>> ((nI n).toUInt32 &&& Int32.toUInt32 31)).toInt32) i = bt x (n + i) := by
  show (x.toUInt32 >>> ((nI n).toUInt32 &&& Int32.toUInt32 31)).toBitVec.getLsbD i = x.toUInt32.toBitVec.getLsbD (n + i)
  rw [UInt32.toBitVec_shiftRight]
  show (x.toUInt32.toBitVec >>> (((nI n).toUInt32 &&& Int32.toUInt32 31).toBitVec % 32).toNat).getLsbD i = _
  rw [s_u n hn, BitVec.getLsbD_ushiftRight]
theorem b_sshr (n : Nat) (hn : n < 32) (x : Int32) {i : Nat} (hi : i < 32) : bt (x >>> (nI n &&& 31)) i = if n + i < 32 then bt x (n + i) else bt x 31 := by
  unfold bt
  rw [Int32.toBitVec_shiftRight]
  show (x.toBitVec.sshiftRight ((nI n &&& 31).toBitVec.smod 32).toNat).getLsbD i = _
  rw [s_l n hn, BitVec.getLsbD_sshiftRight, BitVec.msb_eq_getLsbD_last]
  simp [hi]
theorem b_shl8 (x : Int32) {i : Nat} (hi : i < 32) : bt (x <<< ((8 : Int32) &&& 31)) i = (decide (8 ≤ i) && bt x (i - 8)) := b_shl 8 (by omega) x hi
theorem b_shl16 (x : Int32) {i : Nat} (hi : i < 32) : bt (x <<< ((16 : Int32) &&& 31)) i = (decide (16 ≤ i) && bt x (i - 16)) := b_shl 16 (by omega) x hi
theorem b_shl24 (x : Int32) {i : Nat} (hi : i < 32) : bt (x <<< ((24 : Int32) &&& 31)) i = (decide (24 ≤ i) && bt x (i - 24)) := b_shl 24 (by omega) x hi
theorem b_sshr8 (x : Int32) {i : Nat} (hi : i < 32) : bt (x >>> ((8 : Int32) &&& 31)) i = if 8 + i < 32 then bt x (8 + i) else bt x 31 := b_sshr 8 (by omega) x hi
def mkF (x : Int32) (p : Nat → Bool) : Nat → Int32
  | 0 => x
  | n + 1 => if p n = true then mkF x p n ||| ((1 : Int32) <<< (nI n &&& 31)) else mkF x p n
theorem mkF_t {x : Int32} {p : Nat → Bool} {n : Nat} (h : p n = true) : mkF x p n ||| ((1 : Int32) <<< (nI n &&& 31)) = mkF x p (n + 1) := by rw [mkF, if_pos h]
theorem mkF_f {x : Int32} {p : Nat → Bool} {n : Nat} (h : p n = false) : mkF x p n = mkF x p (n + 1) := by rw [mkF, if_neg (by rw [h]; decide)]
theorem mk_F (p : Nat → Bool) (n : Nat) : mkF 0 p n = mk p n := by
  induction n with
  | zero => rfl
  | succ n ih => rw [mkF, mk, ih]
def cp (M : Mm) (b : Nat) : Nat → Nat → Int32 := fun i j => M.1 (b + 2 + i) j
def pWd (P : Nat → Nat → Int32) (i : Nat) : Bool := P i 6 != 0
def pCl (P : Nat → Nat → Int32) (i : Nat) : Bool := P i 3 == -6
def pTo (P : Nat → Nat → Int32) (t : Int32) (i : Nat) : Bool := P i 3 == t
def pSd (P : Nat → Nat → Int32) (s : Int32) (i : Nat) : Bool := P i 0 == s
def pLp (P : Nat → Nat → Int32) (d la : Int32) (i : Nat) : Bool := P i 3 != -6 && !decide (d - P i 5 ≤ la)
def pBl (P : Nat → Nat → Int32) (ov : Int32) (i : Nat) : Bool := P i 2 != 0 && (P i 2 &&& (ov ^^^ (-1))) == 0
def tk (P : Nat → Nat → Int32) (pg s : Int32) : Nat → Int32
  | 0 => 0
  | k + 1 => if P k 0 = s ∧ P k 6 = 0 then (if tk P pg s k + P k 1 ≤ pg then tk P pg s k + P k 1 else tk P pg s k) else tk P pg s k
def stK (P : Nat → Nat → Int32) (pg s : Int32) (k : Nat) : Bool := P k 0 == s && P k 6 == 0 && !decide (tk P pg s k + P k 1 ≤ pg)
def pSk (P : Nat → Nat → Int32) (pg : Int32) (i : Nat) : Bool := stK P pg (P i 0) i
def pOut (P : Nat → Nat → Int32) (d la pg ov : Int32) (i : Nat) : Bool := pWd P i || pSk P pg i || pLp P d la i || pBl P ov i
def tgt (P : Nat → Nat → Int32) (i : Nat) : Int32 := if P i 3 = -6 then 0 else (1 : Int32) <<< (P i 3 &&& 31)
def sm (P : Nat → Nat → Int32) (s x : Int32) : Nat → Int32
  | 0 => 0
  | k + 1 => if P k 0 = s ∧ bt x k = false then sm P s x k + P k 1 else sm P s x k
def hasv (x y : Int32) : Int32 := if ((x.toUInt32 >>> (y.toUInt32 &&& Int32.toUInt32 31)).toInt32 &&& 1) = 1 then 1 else 0
theorem hasv_nI (x : Int32) {k : Nat} (hk : k < 32) : hasv x (nI k) = if bt x k = true then 1 else 0 := by
  have e : ((x.toUInt32 >>> ((nI k).toUInt32 &&& Int32.toUInt32 31)).toInt32 &&& 1) = if bt x k = true then 1 else 0 := by
    apply b_ext
    intro i hi
    rw [b_and, b_ushr k hk]
    rcases Nat.eq_zero_or_pos i with rfl | h0
    · rw [Nat.add_zero]
      have h10 : bt (1 : Int32) 0 = true := by decide
      rw [h10, Bool.and_true]
      cases bt x k
      · exact (b_0 0).symm
      · exact h10.symm
    · have h1 : bt (1 : Int32) i = false := by
        have : ∀ i, i < 32 → 0 < i → bt (1 : Int32) i = false := by decide +kernel
        exact this i hi h0
      have h2 : ∀ c : Prop, [Decidable c] → bt (if c then (1 : Int32) else 0) i = false := by
        intro c _
        split
        · exact h1
        · exact b_0 i
      rw [h1, Bool.and_false, h2]
  unfold hasv
  rw [e]
  by_cases h : bt x k = true
  · rw [if_pos h]; rfl
  · rw [if_neg h]; rfl
theorem hasv_0 {x : Int32} {k : Nat} (hk : k < 32) : hasv x (nI k) = 0 ↔ bt x k = false := by
  rw [hasv_nI x hk]
  cases bt x k <;> decide
theorem hasv_01 (x y : Int32) : hasv x y = 0 ∨ hasv x y = 1 := by
  unfold hasv
  split
  · exact Or.inr rfl
  · exact Or.inl rfl
theorem bt_one {k i : Nat} (hk : k < 32) (hi : i < 32) : bt ((1 : Int32) <<< (nI k &&& 31)) i = decide (i = k) := by
  rw [b_shl k hk 1 hi]
  have h1 : ∀ j, j < 32 → bt (1 : Int32) j = decide (j = 0) := by decide +kernel
  rw [h1 (i - k) (by omega)]
  by_cases h : k ≤ i
  · by_cases h2 : i = k
    · subst h2; simp
    · have : i - k ≠ 0 := by omega
      simp [h2, this]
  · have : i ≠ k := by omega
    simp [h, this]
theorem bt_mkF (x : Int32) (p : Nat → Bool) {n i : Nat} (hn : n ≤ 32) (hi : i < 32) : bt (mkF x p n) i = (bt x i || (decide (i < n) && p i)) := by
  induction n with
  | zero => simp [mkF]
  | succ n ih =>
    have ih := ih (by omega)
    rw [mkF]
    by_cases h : p n = true
    · rw [if_pos h, b_or, ih, bt_one (by omega) hi]
      by_cases h2 : i = n
      · subst h2; simp [h]
      · have e : decide (i < n + 1) = decide (i < n) := by by_cases g : i < n <;> simp [g] <;> omega
        simp [h2, e]
    · rw [if_neg h, ih]
      by_cases h2 : i = n
      · subst h2; simp [h]
      · have e : decide (i < n + 1) = decide (i < n) := by by_cases g : i < n <;> simp [g] <;> omega
        simp [e]
theorem bt_mk (p : Nat → Bool) {n i : Nat} (hn : n ≤ 32) (hi : i < 32) : bt (mk p n) i = (decide (i < n) && p i) := by
  rw [← mk_F, bt_mkF 0 p hn hi, b_0, Bool.false_or]
theorem mk_congr {p q : Nat → Bool} {n : Nat} (h : ∀ i, i < n → p i = q i) : mk p n = mk q n := by
  induction n with
  | zero => rfl
  | succ n ih => rw [mk, mk, ih (fun i hi => h i (by omega)), h n (by omega)]
theorem mk_or (p q : Nat → Bool) {n : Nat} (hn : n ≤ 32) : mk p n ||| mk q n = mk (fun i => p i || q i) n := by
  apply b_ext
  intro i hi
  rw [b_or, bt_mk p hn hi, bt_mk q hn hi, bt_mk _ hn hi]
  cases decide (i < n) <;> simp
theorem mk_and (p q : Nat → Bool) {n : Nat} (hn : n ≤ 32) : mk p n &&& mk q n = mk (fun i => p i && q i) n := by
  apply b_ext
  intro i hi
  rw [b_and, bt_mk p hn hi, bt_mk q hn hi, bt_mk _ hn hi]
  cases decide (i < n) <;> simp
theorem mk_not (p q : Nat → Bool) {n : Nat} (hn : n ≤ 32) : mk p n &&& (mk q n ^^^ (-1)) = mk (fun i => p i && !q i) n := by
  apply b_ext
  intro i hi
  rw [b_and, b_xor, bt_mk p hn hi, bt_mk q hn hi, bt_mk _ hn hi, b_m1 i hi]
  cases decide (i < n) <;> simp
theorem mk_xor (p q : Nat → Bool) {n : Nat} (hn : n ≤ 32) : mk p n ^^^ mk q n = mk (fun i => p i ^^ q i) n := by
  apply b_ext
  intro i hi
  rw [b_xor, bt_mk p hn hi, bt_mk q hn hi, bt_mk _ hn hi]
  cases decide (i < n) <;> simp
theorem mk_inj {p q : Nat → Bool} {n : Nat} (hn : n ≤ 32) (h : mk p n = mk q n) : ∀ i, i < n → p i = q i := by
  intro i hi
  have h1 := bt_mk p hn (show i < 32 by omega)
  have h2 := bt_mk q hn (show i < 32 by omega)
  rw [h, h2] at h1
  simpa [hi] using h1.symm
theorem mk_eq_iff {p q : Nat → Bool} {n : Nat} (hn : n ≤ 32) : mk p n = mk q n ↔ ∀ i, i < n → p i = q i := ⟨mk_inj hn, mk_congr⟩
def skA (P : Nat → Nat → Int32) (pg : Int32) (n : Nat) : Nat → Int32
  | 0 => 0
  | s + 1 => mkF (skA P pg n s) (stK P pg (nI s)) n
def WF (P : Nat → Nat → Int32) (n : Nat) : Prop := ∀ i, i < n → (P i 0 = 0 ∨ P i 0 = 1) ∧ (P i 3 = -6 ∨ ∃ t, t < i ∧ P i 3 = nI t) ∧ (P i 6 = 0 ∨ P i 6 = 1)
theorem skA_mk {P : Nat → Nat → Int32} {pg : Int32} {n : Nat} (hw : WF P n) (hn : n ≤ 24) : skA P pg n 2 = mk (pSk P pg) n := by
  apply b_ext
  intro i hi
  rw [skA, skA, skA, bt_mkF _ _ (by omega) hi, bt_mkF _ _ (by omega) hi, bt_mk _ (by omega) hi, b_0, Bool.false_or]
  by_cases h : i < n
  · have e0 : nI 0 = 0 := rfl
    have e1 : nI 1 = 1 := rfl
    rw [e0, e1]
    unfold pSk
    rcases (hw i h).1 with g | g
    · rw [g]
      have : stK P pg 1 i = false := by unfold stK; rw [g]; rfl
      rw [this]; simp
    · rw [g]
      have : stK P pg 0 i = false := by unfold stK; rw [g]; rfl
      rw [this]; simp
  · simp [h]
def bOut (M : Mm) (b : Nat) : Nat → Bool := pOut (cp M b) (M.1 b 2) (M.1 b 4) (M.1 b 5) (M.1 b 3)
theorem out_mk {M : Mm} {b n : Nat} (hw : WF (cp M b) n) (hn : n ≤ 24) : ((mkF 0 (pWd (cp M b)) n ||| skA (cp M b) (M.1 b 5) n 2) ||| mkF 0 (pLp (cp M b) (M.1 b 2) (M.1 b 4)) n) ||| mkF 0 (pBl (cp M b) (M.1 b 3)) n = mk (bOut M b) n := by
  rw [skA_mk hw hn, mk_F, mk_F, mk_F, mk_or _ _ (by omega), mk_or _ _ (by omega), mk_or _ _ (by omega)]
  rfl
def anS (S : Nat → Bool) (P : Nat → Nat → Int32) (n m i : Nat) : Bool := (List.range n).any (fun a => decide (m ≤ a) && (P a 3 == nI i && S a))
def sdF (o q : Nat → Bool) (P : Nat → Nat → Int32) (n : Nat) : Nat → Nat → Bool
  | 0, _ => false
  | f + 1, i => !o i && !q i && !(anS (sdF o q P n f) P n (i + 1) i)
def sd (o q : Nat → Bool) (P : Nat → Nat → Int32) (n i : Nat) : Bool := sdF o q P n (n - i) i
theorem anS_congr {S S' : Nat → Bool} {P : Nat → Nat → Int32} {n m i : Nat} (h : ∀ a, m ≤ a → a < n → S a = S' a) : anS S P n m i = anS S' P n m i := by
  unfold anS
  rw [Bool.eq_iff_iff, List.any_eq_true, List.any_eq_true]
  constructor
  · rintro ⟨a, ha, hb⟩
    refine ⟨a, ha, ?_⟩
    simp only [Bool.and_eq_true, decide_eq_true_eq] at hb ⊢
    exact ⟨hb.1, hb.2.1, by rw [← h a hb.1 (List.mem_range.mp ha)]; exact hb.2.2⟩
  · rintro ⟨a, ha, hb⟩
    refine ⟨a, ha, ?_⟩
    simp only [Bool.and_eq_true, decide_eq_true_eq] at hb ⊢
    exact ⟨hb.1, hb.2.1, by rw [h a hb.1 (List.mem_range.mp ha)]; exact hb.2.2⟩
theorem sdF_fuel {o q : Nat → Bool} {P : Nat → Nat → Int32} {n : Nat} : ∀ f g i, n - i ≤ f → n - i ≤ g → i < n → sdF o q P n f i = sdF o q P n g i := by
  intro f
  induction f with
  | zero => intro g i h1 h2 h3; omega
  | succ f ih =>
    intro g i h1 h2 h3
    cases g with
    | zero => omega
    | succ g =>
      rw [sdF, sdF, anS_congr (fun a ha hb => ih g a (by omega) (by omega) hb)]
theorem sd_eq {o q : Nat → Bool} {P : Nat → Nat → Int32} {n i : Nat} (hi : i < n) : sd o q P n i = (!o i && !q i && !(anS (sd o q P n) P n (i + 1) i)) := by
  have h : sd o q P n i = sdF o q P n (n - i - 1 + 1) i := by unfold sd; congr 1; omega
  rw [h, sdF, anS_congr (S' := sd o q P n) (fun a ha hb => sdF_fuel _ _ a (by omega) (by omega) hb)]
theorem sd_uniq {o q S : Nat → Bool} {P : Nat → Nat → Int32} {n : Nat} (h : ∀ i, i < n → S i = (!o i && !q i && !(anS S P n (i + 1) i))) : ∀ i, i < n → S i = sd o q P n i := by
  have key : ∀ d i, n - i ≤ d → i < n → S i = sd o q P n i := by
    intro d
    induction d with
    | zero => intro i h1 h2; omega
    | succ d ih =>
      intro i h1 h2
      rw [h i h2, sd_eq h2, anS_congr (fun a ha hb => ih a (by omega) hb)]
  exact fun i hi => key (n - i) i (Nat.le_refl _) hi
theorem anS_step {S : Nat → Bool} {P : Nat → Nat → Int32} {n m i : Nat} (hm : m < n) : anS S P n m i = ((P m 3 == nI i && S m) || anS S P n (m + 1) i) := by
  unfold anS
  rw [Bool.eq_iff_iff, Bool.or_eq_true, List.any_eq_true, List.any_eq_true]
  constructor
  · rintro ⟨a, ha, hb⟩
    simp only [Bool.and_eq_true, decide_eq_true_eq] at hb
    rcases Nat.lt_or_ge m a with g | g
    · exact Or.inr ⟨a, ha, by simp only [Bool.and_eq_true, decide_eq_true_eq]; exact ⟨g, hb.2⟩⟩
    · have : a = m := by omega
      subst this
      exact Or.inl (by simp only [Bool.and_eq_true]; exact hb.2)
  · rintro (h | ⟨a, ha, hb⟩)
    · exact ⟨m, List.mem_range.mpr hm, by simp only [Bool.and_eq_true, decide_eq_true_eq]; exact ⟨Nat.le_refl _, by simpa using h⟩⟩
    · simp only [Bool.and_eq_true, decide_eq_true_eq] at hb
      exact ⟨a, ha, by simp only [Bool.and_eq_true, decide_eq_true_eq]; exact ⟨by omega, hb.2⟩⟩
theorem anS_end {S : Nat → Bool} {P : Nat → Nat → Int32} {n i : Nat} : anS S P n n i = false := by
  unfold anS
  rw [Bool.eq_false_iff]
  intro h
  obtain ⟨a, ha, hb⟩ := List.any_eq_true.mp h
  simp only [Bool.and_eq_true, decide_eq_true_eq] at hb
  have := List.mem_range.mp ha
  omega
theorem bt_tgt {P : Nat → Nat → Int32} {n m i : Nat} (hw : WF P n) (hn : n ≤ 24) (hm : m < n) (hi : i < 32) : bt (tgt P m) i = (P m 3 == nI i) := by
  unfold tgt
  have hlit : (-6 : Int32) = nI 4294967290 := by decide
  rcases (hw m hm).2.1 with g | ⟨t, ht, g⟩
  · rw [if_pos g, b_0, g, hlit]
    have : ¬ nI 4294967290 = nI i := by
      have h : ∀ i, i < 32 → ¬ nI 4294967290 = nI i := by decide +kernel
      exact h i hi
    simp [this]
  · have hne : ¬ P m 3 = -6 := by
      rw [g, hlit]
      have h : ∀ t, t < 24 → ¬ nI t = nI 4294967290 := by decide +kernel
      exact h t (by omega)
    rw [if_neg hne, g, bt_one (by omega) hi]
    by_cases e : i = t
    · subst e; simp
    · have : ¬ nI t = nI i := fun h => e ((nI_eq (by omega) (by omega)).mp h).symm
      simp [e, this]
def bSd (M : Mm) (b n : Nat) : Nat → Bool := sd (bOut M b) (fun _ => false) (cp M b) n
def cnt (p : Nat → Bool) : Nat → Nat
  | 0 => 0
  | n + 1 => cnt p n + (if p n = true then 1 else 0)
def fileM (M : Mm) (b n : Nat) (s p c t : Int32) : Mm := mset (mset (mset (mset (mset (mset (mset (mset M (b + 2 + n) 0 s) (b + 2 + n) 1 p) (b + 2 + n) 2 c) (b + 2 + n) 3 t) (b + 2 + n) 4 (M.1 b 2)) (b + 2 + n) 5 (M.1 b 2)) (b + 2 + n) 6 0) b 1 (nI (n + 1))
def cbf (p c : Int32) : Int32 := if p < 1 ∨ 9 < p ∨ c < 0 ∨ 1023 < c then 0 else 1
def fcR (n : Nat) (s p c : Int32) : Int32 := if s < 0 ∨ 1 < s ∨ cbf p c = 0 then -2 else if n < 24 then nI n else -4
def fcM (M : Mm) (b n : Nat) (s p c : Int32) : Mm := if s < 0 ∨ 1 < s ∨ cbf p c = 0 then M else if n < 24 then fileM M b n s p c (-6) else M
def faR (M : Mm) (b n i : Nat) (p c : Int32) : Int32 := if cbf p c = 0 then -2 else if n < 24 then (if M.1 (b + 2 + i) 6 = 0 then nI n else -5) else -4
def faM (M : Mm) (b n i : Nat) (p c : Int32) : Mm := if cbf p c = 0 then M else if n < 24 then (if M.1 (b + 2 + i) 6 = 0 then fileM M b n (1 - M.1 (b + 2 + i) 0) p c (nI i) else M) else M
def adR (M : Mm) (b : Nat) (s v : Int32) : Int32 := if s = 0 ∧ ¬ v < 1 ∧ ¬ 60 < v then M.1 b 4 else if s = 1 ∧ ¬ v < 1 ∧ ¬ 99 < v then M.1 b 5 else -2
def adM (M : Mm) (b : Nat) (s v : Int32) : Mm := if s = 0 ∧ ¬ v < 1 ∧ ¬ 60 < v then mset M b 4 v else if s = 1 ∧ ¬ v < 1 ∧ ¬ 99 < v then mset M b 5 v else M
theorem upd_s {f : Nat → Int32} {k : Nat} {x : Int32} : upd f k x k = x := if_pos rfl
theorem upd_n {f : Nat → Int32} {k j : Nat} {x : Int32} (h : j ≠ k) : upd f k x j = f j := if_neg h
def bc1 (x : Int32) : Int32 := x - ((x.toUInt32 >>> ((1 : Int32).toUInt32 &&& Int32.toUInt32 31)).toInt32 &&& 1431655765)
def bc2 (x : Int32) : Int32 := (x &&& 858993459) + ((x.toUInt32 >>> ((2 : Int32).toUInt32 &&& Int32.toUInt32 31)).toInt32 &&& 858993459)
def bc3 (x : Int32) : Int32 := (x + (x.toUInt32 >>> ((4 : Int32).toUInt32 &&& Int32.toUInt32 31)).toInt32) &&& 252645135
def bc4 (x : Int32) : Int32 := x + (x.toUInt32 >>> ((8 : Int32).toUInt32 &&& Int32.toUInt32 31)).toInt32
def bc5 (x : Int32) : Int32 := x + (x.toUInt32 >>> ((16 : Int32).toUInt32 &&& Int32.toUInt32 31)).toInt32
def bc (x : Int32) : Int32 := bc5 (bc4 (bc3 (bc2 (bc1 x)))) &&& 63
def tbR (M : Mm) (b n i : Nat) : Int32 := if M.1 (b + 2 + i) 6 = 0 then bc (mk (bSd (mset M (b + 2 + i) 6 1) b n) n) else -5
def tbM (M : Mm) (b i : Nat) : Mm := if M.1 (b + 2 + i) 6 = 0 then mset M (b + 2 + i) 6 1 else M
def prR (M : Mm) (b i : Nat) : Int32 := if M.1 (b + 2 + i) 3 = -6 ∨ ¬ M.1 (b + 2 + i) 6 = 0 then -5 else M.1 b 2 - M.1 (b + 2 + i) 5
def prM (M : Mm) (b i : Nat) : Mm := if M.1 (b + 2 + i) 3 = -6 ∨ ¬ M.1 (b + 2 + i) 6 = 0 then M else mset M (b + 2 + i) 5 (M.1 b 2)
def tcR (M : Mm) (b : Nat) (w : Int32) : Int32 := if w < 0 ∨ ¬ w < 10 then -1 else hasv (M.1 b 3 ^^^ ((1 : Int32) <<< (w &&& 31))) w
def tcM (M : Mm) (b : Nat) (w : Int32) : Mm := if w < 0 ∨ ¬ w < 10 then M else mset M b 3 (M.1 b 3 ^^^ ((1 : Int32) <<< (w &&& 31)))
def moR (M : Mm) (b n : Nat) (d : Int32) : Int32 := if d < 1 ∨ ¬ d ≤ 99 then -2 else if M.1 b 2 + d ≤ 999 then bc (mk (bSd (mset M b 2 (M.1 b 2 + d)) b n) n) else -5
def moM (M : Mm) (b : Nat) (d : Int32) : Mm := if d < 1 ∨ ¬ d ≤ 99 then M else if M.1 b 2 + d ≤ 999 then mset M b 2 (M.1 b 2 + d) else M
def rsR (M : Mm) (b n i : Nat) : Int32 := if pWd (cp M b) i = true then 1 else if pSk (cp M b) (M.1 b 5) i = true then 2 else if pLp (cp M b) (M.1 b 2) (M.1 b 4) i = true then 3 else if pBl (cp M b) (M.1 b 3) i = true then 4 else if bSd M b n i = true then 0 else 5
def dpN (P : Nat → Nat → Int32) : Nat → Nat → Nat
  | 0, _ => 0
  | f + 1, i => if P i 3 = -6 then 0 else dpN P f (P i 3).toNatClampNeg + 1
def dlR (M : Mm) (b i : Nat) : Int32 := if M.1 (b + 2 + i) 3 = -6 ∨ ¬ 0 ≤ M.1 (b + 2 + i) 5 + M.1 b 4 - M.1 b 2 then -6 else M.1 (b + 2 + i) 5 + M.1 b 4 - M.1 b 2
def naP (P : Nat → Nat → Int32) (n i : Nat) : Bool := !((List.range n).any (fun a => P a 3 == nI i))
def waA (P : Nat → Nat → Int32) (n : Nat) : Nat → Int32
  | 0 => ((1 : Int32) <<< (nI n &&& 31)) - 1
  | k + 1 => waA P n k &&& (tgt P k ^^^ (-1))
theorem cp_mset_b {M : Mm} {b j : Nat} {v : Int32} : cp (mset M b j v) b = cp M b := by
  funext i j'
  unfold cp
  rw [mset_n (by omega)]
theorem cp_mset_p {M : Mm} {b i j : Nat} {v : Int32} : cp (mset M (b + 2 + i) j v) b = fun i' j' => if i' = i ∧ j' = j then v else cp M b i' j' := by
  funext i' j'
  unfold cp
  by_cases h : i' = i
  · subst h
    rw [mset_s]
    unfold upd
    by_cases g : j' = j
    · simp [g]
    · simp [g]
  · rw [mset_n (by omega)]
    simp [h]
theorem WF_wd {M : Mm} {b n i : Nat} {v : Int32} (hv : v = 0 ∨ v = 1) (h : WF (cp M b) n) : WF (cp (mset M (b + 2 + i) 6 v) b) n := by
  rw [cp_mset_p]
  intro k hk
  obtain ⟨h1, h2, h3⟩ := h k hk
  refine ⟨by simpa using h1, by simpa using h2, ?_⟩
  by_cases g : k = i
  · simp [g, hv]
  · simpa [g] using h3
theorem hasv_ne {x : Int32} {k : Nat} (hk : k < 32) (h : ¬ hasv x (nI k) = 0) : bt x k = true := by
  cases q : bt x k
  · exact absurd ((hasv_0 hk).mpr q) h
  · rfl
theorem hasv_eq {x : Int32} {k : Nat} (hk : k < 32) (h : hasv x (nI k) = 0) : bt x k = false := (hasv_0 hk).mp h
theorem nI_dm (m : Nat) : nI m + Int32.ofInt (-1) = nI m - 1 := by
  have e : Int32.ofInt (-1) = -1 := by decide
  rw [e, Int32.sub_eq_add_neg]
theorem stF {S : Nat → Bool} {n m i : Nat} (h : S m = false) : (decide (i < n) && (decide (m + 1 ≤ i) && S i)) = (decide (i < n) && (decide (m ≤ i) && S i)) := by
  by_cases e : i = m
  · subst e; simp [h]
  · have : decide (m + 1 ≤ i) = decide (m ≤ i) := by by_cases g : m ≤ i <;> simp [g] <;> omega
    rw [this]
theorem stT {S : Nat → Bool} {n m i : Nat} (hm : m < n) (h : S m = true) : ((decide (i < n) && (decide (m + 1 ≤ i) && S i)) || decide (i = m)) = (decide (i < n) && (decide (m ≤ i) && S i)) := by
  by_cases e : i = m
  · subst e; simp [h, hm]
  · have : decide (m + 1 ≤ i) = decide (m ≤ i) := by by_cases g : m ≤ i <;> simp [g] <;> omega
    rw [this]; simp [e]
theorem sd_congr {o o' q q' : Nat → Bool} {P : Nat → Nat → Int32} {n : Nat} (ho : ∀ i, i < n → o i = o' i) (hq : ∀ i, i < n → q i = q' i) : ∀ i, i < n → sd o q P n i = sd o' q' P n i :=
  sd_uniq (fun i hi => by rw [sd_eq hi, ho i hi, hq i hi])
theorem bSd_bt {M : Mm} {b n : Nat} (hn : n ≤ 24) : mk (sd (bt (mk (bOut M b) n)) (bt 0) (cp M b) n) n = mk (bSd M b n) n := by
  refine mk_congr (sd_congr (fun i hi => ?_) (fun i hi => ?_))
  · rw [bt_mk _ (by omega) (by omega)]; simp [hi]
  · exact b_0 i
theorem dpN_fuel {P : Nat → Nat → Int32} {n : Nat} (hw : WF P n) (hn : n ≤ 24) : ∀ f g i, i < f → i < g → i < n → dpN P f i = dpN P g i := by
  intro f
  induction f with
  | zero => intro g i h1; omega
  | succ f ih =>
    intro g i h1 h2 h3
    cases g with
    | zero => omega
    | succ g =>
      rw [dpN, dpN]
      by_cases hc : P i 3 = -6
      · rw [if_pos hc, if_pos hc]
      · rw [if_neg hc, if_neg hc]
        obtain ⟨t, ht, e⟩ := (hw i h3).2.1.resolve_left hc
        rw [e, nI_clamp (by omega), ih g t (by omega) (by omega) (by omega)]
def ptM (M : Mm) (k k2 : Nat) : Mm := (fun k' => if k' = k then (fun j => if j < 7 then M.1 k2 j else M.1 k j) else M.1 k', M.2)
def cpB (M : Mm) (b c n : Nat) : Mm := (fun k => if k = b then (fun j => if 1 ≤ j ∧ j ≤ 5 then M.1 c j else M.1 b j) else if b + 2 ≤ k ∧ k < b + 2 + n then (fun j => if j < 7 then M.1 (c + (k - b)) j else M.1 k j) else M.1 k, M.2)
theorem isB_apart {b c : Nat} (hb : isB b) (hc : isB c) (h : b ≠ c) : b + 26 ≤ c ∨ c + 26 ≤ b := by
  rcases isB_cases hb with g | g | g | g | g | g | g | g | g | g <;> rcases isB_cases hc with g' | g' | g' | g' | g' | g' | g' | g' | g' | g' <;> omega
theorem cpB_b {M : Mm} {b c n : Nat} : (cpB M b c n).1 b = fun j => if 1 ≤ j ∧ j ≤ 5 then M.1 c j else M.1 b j := by unfold cpB; exact if_pos rfl
theorem cpB_in {M : Mm} {b c n i : Nat} (h : i < n) : (cpB M b c n).1 (b + 2 + i) = fun j => if j < 7 then M.1 (c + 2 + i) j else M.1 (b + 2 + i) j := by
  unfold cpB
  show (if b + 2 + i = b then _ else _) = _
  rw [if_neg (by omega), if_pos ⟨by omega, by omega⟩]
  have e : c + (b + 2 + i - b) = c + 2 + i := by omega
  rw [e]
theorem cpB_out {M : Mm} {b c n k : Nat} (h1 : k ≠ b) (h2 : k < b + 2 ∨ b + 2 + n ≤ k) : (cpB M b c n).1 k = M.1 k := by
  unfold cpB
  show (if k = b then _ else _) = _
  rw [if_neg h1, if_neg (by omega)]
theorem cpB_step {M : Mm} {b c k : Nat} (hb : isB b) (hc : isB c) (h : b ≠ c) (hk : k < 24) : ptM (cpB M b c k) (b + 2 + k) (c + 2 + k) = cpB M b c (k + 1) := by
  have ha := isB_apart hb hc h
  refine Prod.ext (funext fun k' => ?_) rfl
  show (if k' = b + 2 + k then (fun j => if j < 7 then (cpB M b c k).1 (c + 2 + k) j else (cpB M b c k).1 (b + 2 + k) j) else (cpB M b c k).1 k') = (cpB M b c (k + 1)).1 k'
  by_cases e : k' = b + 2 + k
  · subst e
    rw [if_pos rfl, cpB_in (n := k + 1) (i := k) (by omega), cpB_out (k := c + 2 + k) (by omega) (by omega), cpB_out (k := b + 2 + k) (by omega) (by omega)]
  · rw [if_neg e]
    unfold cpB
    show (if k' = b then _ else if b + 2 ≤ k' ∧ k' < b + 2 + k then _ else _) = (if k' = b then _ else if b + 2 ≤ k' ∧ k' < b + 2 + (k + 1) then _ else _)
    have e2 : (b + 2 ≤ k' ∧ k' < b + 2 + k) ↔ (b + 2 ≤ k' ∧ k' < b + 2 + (k + 1)) := by constructor <;> (intro g; omega)
    by_cases g : b + 2 ≤ k' ∧ k' < b + 2 + k
    · rw [if_pos g, if_pos (e2.mp g)]
    · rw [if_neg g, if_neg (fun q => g (e2.mpr q))]
theorem cpB_0 {M : Mm} {b c : Nat} (h : b ≠ c) : mset (mset (mset (mset (mset M b 1 (M.1 c 1)) b 2 (M.1 c 2)) b 3 (M.1 c 3)) b 4 (M.1 c 4)) b 5 (M.1 c 5) = cpB M b c 0 := by
  refine Prod.ext (funext fun k' => ?_) rfl
  by_cases e : k' = b
  · subst e
    rw [cpB_b]
    simp only [mset_s]
    funext j
    unfold upd
    by_cases h1 : j = 1
    · subst h1; simp
    by_cases h2 : j = 2
    · subst h2; simp
    by_cases h3 : j = 3
    · subst h3; simp
    by_cases h4 : j = 4
    · subst h4; simp
    by_cases h5 : j = 5
    · subst h5; simp
    have : ¬ (1 ≤ j ∧ j ≤ 5) := by omega
    simp [h1, h2, h3, h4, h5, this]
  · rw [cpB_out e (by omega)]
    simp only [mset_n e]
theorem ptM_7 {M : Mm} {k k2 : Nat} (h : k ≠ k2) : mset (mset (mset (mset (mset (mset (mset M k 0 (M.1 k2 0)) k 1 (M.1 k2 1)) k 2 (M.1 k2 2)) k 3 (M.1 k2 3)) k 4 (M.1 k2 4)) k 5 (M.1 k2 5)) k 6 (M.1 k2 6) = ptM M k k2 := by
  refine Prod.ext (funext fun k' => ?_) rfl
  by_cases e : k' = k
  · subst e
    unfold ptM
    show _ = if k' = k' then _ else _
    rw [if_pos rfl]
    simp only [mset_s]
    funext j
    unfold upd
    by_cases h0 : j = 0
    · subst h0; simp
    by_cases h1 : j = 1
    · subst h1; simp
    by_cases h2 : j = 2
    · subst h2; simp
    by_cases h3 : j = 3
    · subst h3; simp
    by_cases h4 : j = 4
    · subst h4; simp
    by_cases h5 : j = 5
    · subst h5; simp
    by_cases h6 : j = 6
    · subst h6; simp
    have : ¬ j < 7 := by omega
    simp [h0, h1, h2, h3, h4, h5, h6, this]
  · unfold ptM
    show _ = if k' = k then _ else _
    rw [if_neg e]
    simp only [mset_n e]
theorem nar_b {x : Int32} (h : x = 0 ∨ x = 1) : narrow .boolean (.int x) = .int x := by rcases h with rfl | rfl <;> rfl
theorem fit_b {x : Int32} (h : x = 0 ∨ x = 1) : fits .boolean (.int x) = true := by rcases h with rfl | rfl <;> rfl
theorem isB_no {b j : Nat} (hb : isB b) (hj : j < 26) : b + j ≠ 0 ∧ (b + j < 27 ∨ 35 ≤ b + j) ∧ b + j ≠ 217 ∧ b + j < 270 := by
  rcases isB_cases hb with g | g | g | g | g | g | g | g | g | g <;> omega
def mrow (M : Mm) (k : Nat) (f : Nat → Int32) : Mm := (fun k' => if k' = k then f else M.1 k', M.2)
theorem mrow_s {M : Mm} {k : Nat} {f : Nat → Int32} : (mrow M k f).1 k = f := if_pos rfl
theorem mrow_n {M : Mm} {k k' : Nat} {f : Nat → Int32} (h : k' ≠ k) : (mrow M k f).1 k' = M.1 k' := if_neg h
theorem mrow_2 {M : Mm} {k : Nat} {f : Nat → Int32} : (mrow M k f).2 = M.2 := rfl
theorem mset_2 {M : Mm} {k j : Nat} {v : Int32} : (mset M k j v).2 = M.2 := rfl
theorem mset_row {M : Mm} {k j : Nat} {v : Int32} : mset M k j v = mrow M k (upd (M.1 k) j v) := rfl
theorem mrow_mrow {M : Mm} {k : Nat} {f g : Nat → Int32} : mrow (mrow M k f) k g = mrow M k g := by
  refine Prod.ext (funext fun k' => ?_) rfl
  by_cases h : k' = k
  · subst h; rw [mrow_s, mrow_s]
  · rw [mrow_n h, mrow_n h, mrow_n h]
theorem mrow_self {M : Mm} {k : Nat} : mrow M k (M.1 k) = M := by
  refine Prod.ext (funext fun k' => ?_) rfl
  by_cases h : k' = k
  · subst h; rw [mrow_s]
  · rw [mrow_n h]
theorem mset_mrow {M : Mm} {k j : Nat} {f : Nat → Int32} {v : Int32} : mset (mrow M k f) k j v = mrow M k (upd f j v) := by
  rw [mset_row, mrow_s, mrow_mrow]
theorem mrow_comm {M : Mm} {k k2 : Nat} {f g : Nat → Int32} (h : k ≠ k2) : mrow (mrow M k f) k2 g = mrow (mrow M k2 g) k f := by
  refine Prod.ext (funext fun k' => ?_) rfl
  by_cases e : k' = k
  · subst e; rw [mrow_n h, mrow_s, mrow_s]
  · rw [mrow_n e]
    by_cases e2 : k' = k2
    · subst e2; rw [mrow_s, mrow_s]
    · rw [mrow_n e2, mrow_n e2, mrow_n e]
def wM (M : Mm) (q : (Nat → Int32) × (Nat → Int32)) : Mm := mrow (mrow M 28 q.1) 29 q.2
theorem wM_28 {M : Mm} {q : (Nat → Int32) × (Nat → Int32)} {j : Nat} {v : Int32} : mset (wM M q) 28 j v = wM M (upd q.1 j v, q.2) := by
  unfold wM
  rw [mset_row, mrow_n (by decide), mrow_s, mrow_comm (k := 29) (k2 := 28) (by decide), mrow_mrow]
theorem wM_29 {M : Mm} {q : (Nat → Int32) × (Nat → Int32)} {j : Nat} {v : Int32} : mset (wM M q) 29 j v = wM M (q.1, upd q.2 j v) := by
  unfold wM
  rw [mset_mrow]
theorem wM_r28 {M : Mm} {q : (Nat → Int32) × (Nat → Int32)} : (wM M q).1 28 = q.1 := by unfold wM; rw [mrow_n (by decide), mrow_s]
theorem wM_r29 {M : Mm} {q : (Nat → Int32) × (Nat → Int32)} : (wM M q).1 29 = q.2 := by unfold wM; rw [mrow_s]
theorem wM_n {M : Mm} {q : (Nat → Int32) × (Nat → Int32)} {k : Nat} (h : k < 28 ∨ 30 ≤ k) : (wM M q).1 k = M.1 k := by unfold wM; rw [mrow_n (by omega), mrow_n (by omega)]
theorem wM_self {M : Mm} : wM M (M.1 28, M.1 29) = M := by unfold wM; rw [mrow_comm (by decide), mrow_self, mrow_self]
def imin (x y : Int32) : Int32 := if y < x then y else x
def att (t : Int32) (x y : Int32) (q : (Nat → Int32) × (Nat → Int32)) : (Nat → Int32) × (Nat → Int32) := if t = -6 then q else (upd q.1 t.toNatClampNeg (imin (q.1 t.toNatClampNeg) y), upd q.2 t.toNatClampNeg (imin 1000 (q.2 t.toNatClampNeg + x)))
def wS1 (o na : Nat → Bool) (i : Nat) (q : (Nat → Int32) × (Nat → Int32)) : (Nat → Int32) × (Nat → Int32) := (if o i = true then upd q.1 i 0 else if na i = true then upd q.1 i 1 else q.1, if o i = true then upd q.2 i 1000 else q.2)
def wStep (P : Nat → Nat → Int32) (o na : Nat → Bool) (i : Nat) (q : (Nat → Int32) × (Nat → Int32)) : (Nat → Int32) × (Nat → Int32) := att (P i 3) ((wS1 o na i q).1 i) ((wS1 o na i q).2 i) (wS1 o na i q)
def wAll (P : Nat → Nat → Int32) (o na : Nat → Bool) (n : Nat) (q0 : (Nat → Int32) × (Nat → Int32)) : Nat → (Nat → Int32) × (Nat → Int32)
  | 0 => q0
  | k + 1 => if 23 - k < n then wStep P o na (23 - k) (wAll P o na n q0 k) else wAll P o na n q0 k
def wI (M : Mm) (k : Nat) : (Nat → Int32) × (Nat → Int32) := (fun j => if j < k then 1000 else M.1 28 j, fun j => if j < k then 0 else M.1 29 j)
theorem wI_0 {M : Mm} : wM M (wI M 0) = M := by
  have e : wI M 0 = (M.1 28, M.1 29) := by unfold wI; simp
  rw [e, wM_self]
theorem fill_s {f : Nat → Int32} {v : Int32} {k : Nat} : upd (fun j => if j < k then v else f j) k v = fun j => if j < k + 1 then v else f j := by
  funext j
  unfold upd
  by_cases h : j = k
  · subst h; simp
  · have : (j < k + 1) ↔ (j < k) := by constructor <;> (intro g; omega)
    simp [h, this]
theorem wI_s {M : Mm} {k : Nat} : mset (mset (wM M (wI M k)) 28 k 1000) 29 k 0 = wM M (wI M (k + 1)) := by
  rw [wM_28, wM_29]
  unfold wI
  rw [fill_s, fill_s]
theorem bt_all {n i : Nat} (hn : n ≤ 24) (hi : i < 32) : bt (((1 : Int32) <<< (nI n &&& 31)) - 1) i = decide (i < n) := by
  have h : ∀ n, n < 25 → ∀ i, i < 32 → bt (((1 : Int32) <<< (nI n &&& 31)) - 1) i = decide (i < n) := by decide +kernel
  exact h n (by omega) i hi
theorem bt_waA {P : Nat → Nat → Int32} {n k i : Nat} (hw : WF P n) (hn : n ≤ 24) (hk : k ≤ n) (hi : i < 32) : bt (waA P n k) i = (decide (i < n) && !((List.range k).any (fun a => P a 3 == nI i))) := by
  induction k with
  | zero => rw [waA, bt_all hn hi]; simp
  | succ k ih =>
    rw [waA, b_and, ih (by omega), b_xor, bt_tgt hw hn (by omega) hi, b_m1 i hi, List.range_succ, List.any_append]
    simp only [List.any_cons, List.any_nil, Bool.or_false, Bool.xor_true]
    cases decide (i < n) <;> cases (List.range k).any (fun a => P a 3 == nI i) <;> cases (P k 3 == nI i) <;> rfl
theorem wa_mk {P : Nat → Nat → Int32} {n : Nat} (hw : WF P n) (hn : n ≤ 24) : waA P n n = mk (naP P n) n := by
  apply b_ext
  intro i hi
  rw [bt_waA hw hn (Nat.le_refl n) hi, bt_mk _ (by omega) hi]
  rfl
theorem all_mk {n : Nat} (hn : n ≤ 24) : (((1 : Int32) <<< (nI n &&& 31)) - 1) = mk (fun _ => true) n := by
  apply b_ext
  intro i hi
  rw [bt_all hn hi, bt_mk _ (by omega) hi, Bool.and_true]
def rot (h : Nat → Nat) : Nat → Nat := fun i => if i < 6 then h (i + 1) else if i = 6 then h 0 else h i
def roS (h : Nat → Nat) (k : Nat) : Nat → Nat := fun i => if i < k then h (i + 1) else if i = k then h 0 else h i
theorem roS_0 {h : Nat → Nat} : roS h 0 = h := by
  funext i
  unfold roS
  by_cases e : i = 0
  · subst e; simp
  · simp [e]
theorem roS_s {h : Nat → Nat} {k : Nat} (_hk : k < 6) : va_up (va_up (roS h k) k (h (k + 1))) (k + 1) (h 0) = roS h (k + 1) := by
  funext i
  unfold va_up roS
  by_cases e : i = k + 1
  · subst e; simp
  · by_cases e2 : i = k
    · subst e2; simp
    · have : (i < k + 1) ↔ (i < k) := by constructor <;> (intro g; omega)
      simp [e, e2, this]
theorem roS_e {h : Nat → Nat} : roS h 6 = rot h := rfl
theorem mhis_2 {M : Mm} {h : Nat → Nat} : (mhis M h).2 = h := rfl
theorem mhis_1 {M : Mm} {h : Nat → Nat} : (mhis M h).1 = M.1 := rfl
theorem mhis_mhis {M : Mm} {h g : Nat → Nat} : mhis (mhis M h) g = mhis M g := rfl
theorem mhis_self {M : Mm} : mhis M M.2 = M := rfl
def seM (M : Mm) (k : Nat) (x : Int32) : Mm := if x < 0 then M else if k < 6 then mset M 33 1 (nI (k + 1)) else mhis M (rot M.2)
def sgn (x : Int64) (p : Int32) : Int32 := (((x.toUInt64 >>> ((8 * p).toInt64.toUInt64 &&& Int64.toUInt64 63)).toInt64 &&& 255).toInt32.toUInt32 % 65536).toInt32
def snE (x : Int64) (k : Nat) : Int32 := if k < 8 ∧ ¬ lg_cmp ((x.toUInt64 >>> ((8 * nI k).toInt64.toUInt64 &&& Int64.toUInt64 63)).toInt64) 0 = 0 then 0 else nI k
def snL (x : Int64) : Nat → Nat → Int32
  | 0, k => snE x k
  | f + 1, k => if sgn x (nI k) = 0 then snE x k else if sgn x (nI k) < 33 ∨ ¬ sgn x (nI k) ≤ 126 then 0 else snL x f (k + 1)
def chA (s : Nat → Int32) (l a : Nat) : Int32 := if a < l then s a else 0
def isCh (M : Mm) (l : Nat) : Prop := ∀ j, j < l → narrow .char (.int (M.1 31 j)) = .int (M.1 31 j) ∧ fits .char (.int (M.1 31 j)) = true
