theorem zero_or (x : Int32) : x ||| 0 = x := Int32.or_zero
def nv (q : Nat → Bool) : Nat → Nat
  | 0 => 0
  | n + 1 => nv q n + (if q n = true then 2 ^ n else 0)
theorem nv_lt (q : Nat → Bool) (n : Nat) : nv q n < 2 ^ n := by
  induction n with
  | zero => exact Nat.one_pos
  | succ n ih =>
    rw [nv, Nat.pow_succ]
    split <;> omega
theorem nv_bit (q : Nat → Bool) (n i : Nat) : (nv q n).testBit i = (decide (i < n) && q i) := by
  induction n with
  | zero => simp [nv]
  | succ n ih =>
    rw [nv]
    split
    · rename_i h
      rw [Nat.add_comm]
      rcases Nat.lt_trichotomy i n with g | g | g
      · rw [Nat.testBit_two_pow_add_gt g, ih]
        simp [g, Nat.lt_succ_of_lt g]
      · subst g
        rw [Nat.testBit_two_pow_add_eq, ih]
        simp [h]
      · have hlt : 2 ^ n + nv q n < 2 ^ i := by
          have h1 := nv_lt q n
          have h2 : 2 ^ (n + 1) ≤ 2 ^ i := Nat.pow_le_pow_right (by decide) g
          rw [Nat.pow_succ] at h2
          omega
        rw [Nat.testBit_lt_two_pow hlt]
        have : ¬ i < n + 1 := by omega
        simp [this]
    · rename_i h
      rw [Nat.add_zero, ih]
      by_cases g : i = n
      · subst g
        have : q i = false := by cases e : q i; rfl; exact absurd e h
        simp [this]
      · have e : decide (i < n + 1) = decide (i < n) := by by_cases g2 : i < n <;> simp [g2] <;> omega
        rw [e]
theorem bt_nI (v i : Nat) (hi : i < 32) : bt (nI v) i = v.testBit i := by
  unfold bt
  show (BitVec.ofNat 32 v).getLsbD i = _
  rw [BitVec.getLsbD_ofNat]
  simp [hi]
theorem mk_nv (q : Nat → Bool) {n : Nat} (hn : n ≤ 32) : mk q n = nI (nv q n) := by
  apply b_ext
  intro i hi
  rw [bt_mk q hn hi, bt_nI _ _ hi, nv_bit]
theorem nv_low {q : Nat → Bool} {n m : Nat} (hm : m < n) (hq : q m = true) (hl : ∀ i, i < m → q i = false) : nv q n = 2 ^ (m + 1) * (nv q n / 2 ^ (m + 1)) + 2 ^ m := by
  have h : nv q n % 2 ^ (m + 1) = 2 ^ m := by
    apply Nat.eq_of_testBit_eq
    intro i
    rw [Nat.testBit_mod_two_pow, nv_bit, Nat.testBit_two_pow]
    rcases Nat.lt_trichotomy i m with g | g | g
    · have h1 : ¬ m = i := by omega
      rw [hl i g]; simp [h1]
    · subst g; simp [hm, hq]
    · have h1 : ¬ m = i := by omega
      have h2 : ¬ i < m + 1 := by omega
      simp [h1, h2]
  have h2 := Nat.div_add_mod (nv q n) (2 ^ (m + 1))
  rw [h] at h2
  exact h2.symm
theorem mk_step {q : Nat → Bool} {n m : Nat} (hn : n ≤ 24) (hm : m < n) (hq : q m = true) (hl : ∀ i, i < m → q i = false) : mk q n &&& (mk q n - 1) = mk (fun i => q i && !decide (i = m)) n := by
  have hv := nv_low hm hq hl
  have hp : 0 < 2 ^ m := Nat.two_pow_pos m
  have hv1 : nv q n - 1 = 2 ^ (m + 1) * (nv q n / 2 ^ (m + 1)) + (2 ^ m - 1) := by omega
  have hlt : 2 ^ m < 2 ^ (m + 1) := by rw [Nat.pow_succ]; omega
  rw [mk_nv q (by omega)]
  have e1 : nI (nv q n) - 1 = nI (nv q n - 1) := by
    obtain ⟨w, hw⟩ : ∃ w, nv q n = w + 1 := ⟨nv q n - 1, by omega⟩
    rw [hw, nI_pred]
    rfl
  rw [e1]
  apply b_ext
  intro i hi
  rw [b_and, bt_nI _ _ hi, bt_nI _ _ hi, bt_mk _ (by omega) hi, nv_bit]
  rcases Nat.lt_trichotomy i m with g | g | g
  · rw [hl i g]; simp
  · subst g
    have : (nv q n - 1).testBit i = false := by
      rw [hv1, Nat.testBit_two_pow_mul_add _ (by omega), if_pos (by omega), Nat.testBit_two_pow_sub_one]
      simp
    rw [this]; simp
  · have h2 : (nv q n - 1).testBit i = (nv q n).testBit i := by
      rw [hv1]
      conv => rhs; rw [hv]
      rw [Nat.testBit_two_pow_mul_add _ (by omega), Nat.testBit_two_pow_mul_add _ hlt, if_neg (by omega), if_neg (by omega)]
    have h3 : ¬ i = m := by omega
    rw [h2, nv_bit]
    simp [h3]
theorem cnt_congr {p q : Nat → Bool} {n : Nat} (h : ∀ i, i < n → p i = q i) : cnt p n = cnt q n := by
  induction n with
  | zero => rfl
  | succ n ih => rw [cnt, cnt, ih (fun i hi => h i (by omega)), h n (by omega)]
theorem cnt_rm {q : Nat → Bool} {n m : Nat} (hm : m < n) (hq : q m = true) : cnt q n = cnt (fun i => q i && !decide (i = m)) n + 1 := by
  induction n with
  | zero => omega
  | succ n ih =>
    rw [cnt, cnt]
    by_cases e : n = m
    · subst e
      rw [cnt_congr (q := q) (p := fun i => q i && !decide (i = n)) (fun i hi => by have : ¬ i = n := by omega
                                                                                    simp [this])]
      simp [hq]
    · rw [ih (by omega)]
      simp [e]
      omega
theorem cnt_0 {q : Nat → Bool} {n : Nat} (h : mk q n = 0) (hn : n ≤ 24) : cnt q n = 0 := by
  have hq : ∀ i, i < n → q i = false := by
    intro i hi
    have h1 := bt_mk q (show n ≤ 32 by omega) (show i < 32 by omega)
    rw [h, b_0] at h1
    simpa [hi] using h1.symm
  clear h
  induction n with
  | zero => rfl
  | succ n ih => rw [cnt, ih (by omega) (fun i hi => hq i (by omega)), hq n (by omega)]; rfl
theorem ex_low {q : Nat → Bool} {n : Nat} (hn : n ≤ 24) (h : ¬ mk q n = 0) : ∃ m, m < n ∧ q m = true ∧ ∀ i, i < m → q i = false := by
  induction n with
  | zero => exact absurd rfl h
  | succ n ih =>
    by_cases g : mk q n = 0
    · have hq : ∀ i, i < n → q i = false := by
        intro i hi
        have h1 := bt_mk q (show n ≤ 32 by omega) (show i < 32 by omega)
        rw [g, b_0] at h1
        simpa [hi] using h1.symm
      refine ⟨n, by omega, ?_, hq⟩
      cases e : q n
      · exfalso
        rw [mk, g, if_neg (by rw [e]; decide)] at h
        exact h rfl
      · rfl
    · obtain ⟨m, h1, h2, h3⟩ := ih (by omega) g
      exact ⟨m, by omega, h2, h3⟩
theorem cnt_le (q : Nat → Bool) (n : Nat) : cnt q n ≤ n := by
  induction n with
  | zero => exact Nat.le_refl 0
  | succ n ih => rw [cnt]; split <;> omega
theorem and_cat {A m : Nat} (R N : Nat) (hA : A < 256) (hm : m < 256) : (A + 256 * R) &&& (m + 256 * N) = (A &&& m) + 256 * (R &&& N) := by
  apply Nat.eq_of_testBit_eq
  intro i
  have e : ∀ a r : Nat, a < 2 ^ 8 → (a + 256 * r).testBit i = if i < 8 then a.testBit i else r.testBit (i - 8) := by
    intro a r ha
    rw [Nat.add_comm]
    exact Nat.testBit_two_pow_mul_add r ha i
  rw [Nat.testBit_and, e A R hA, e m N hm, e (A &&& m) (R &&& N) (Nat.and_lt_two_pow A hm)]
  split <;> rw [Nat.testBit_and]
theorem nx_and (a b : Nat) : nI a &&& nI b = nI (a &&& b) := by
  apply Int32.toBitVec_inj.1
  show BitVec.ofNat 32 a &&& BitVec.ofNat 32 b = BitVec.ofNat 32 (a &&& b)
  apply BitVec.eq_of_getLsbD_eq
  intro i hi
  simp [hi]
theorem bb1 : ∀ A, A < 256 → ∀ r, r < 2 → (A / 2 + 128 * r) &&& 85 = A / 2 &&& 85 ∧ A / 2 &&& 85 ≤ A := by decide +kernel
theorem bb2 : ∀ A, A < 256 → ∀ r, r < 4 → (A / 4 + 64 * r) &&& 51 = A / 4 &&& 51 := by decide +kernel
theorem bb3 : ∀ A, A < 69 → ∀ r, r < 5 → (A + A / 16 + 16 * r) &&& 15 = (A + A / 16) &&& 15 ∧ A + A / 16 + 16 * r < 256 := by decide +kernel
def s1 (A : Nat) : Nat := A - (A / 2 &&& 85)
def s2 (A : Nat) : Nat := (A &&& 51) + (A / 4 &&& 51)
def s3 (A : Nat) : Nat := (A + A / 16) &&& 15
theorem sb2 : ∀ A, A < 256 → s1 A < 256 ∧ s2 (s1 A) < 69 ∧ s2 (s1 A) % 16 < 5 ∧ s3 (s2 (s1 A)) = cnt (fun i => A.testBit i) 8 := by decide +kernel
theorem S1c {A R N : Nat} (hA : A < 256) : (A + 256 * R) - ((A + 256 * R) / 2 &&& (85 + 256 * N)) = s1 A + 256 * (R - (R / 2 &&& N)) := by
  have e : (A + 256 * R) / 2 = (A / 2 + 128 * (R % 2)) + 256 * (R / 2) := by omega
  have h := bb1 A hA (R % 2) (by omega)
  have h2 : R / 2 &&& N ≤ R := Nat.le_trans Nat.and_le_left (Nat.div_le_self R 2)
  rw [e, and_cat _ _ (by omega) (by decide), h.1]
  unfold s1
  omega
theorem S2c {A R N : Nat} (hA : A < 256) : ((A + 256 * R) &&& (51 + 256 * N)) + ((A + 256 * R) / 4 &&& (51 + 256 * N)) = s2 A + 256 * ((R &&& N) + (R / 4 &&& N)) := by
  have e : (A + 256 * R) / 4 = (A / 4 + 64 * (R % 4)) + 256 * (R / 4) := by omega
  rw [e, and_cat _ _ hA (by decide), and_cat _ _ (by omega) (by decide), bb2 A hA (R % 4) (by omega)]
  unfold s2
  omega
theorem S3c {A R N : Nat} (hA : A < 69) (hR : R % 16 < 5) : ((A + 256 * R) + (A + 256 * R) / 16) &&& (15 + 256 * N) = s3 A + 256 * ((R + R / 16) &&& N) := by
  have e : (A + 256 * R) + (A + 256 * R) / 16 = (A + A / 16 + 16 * (R % 16)) + 256 * (R + R / 16) := by omega
  have h := bb3 A hA (R % 16) hR
  rw [e, and_cat _ _ h.2 (by decide), h.1]
  rfl
def bcN (x : Nat) : Nat :=
  let y := x - (x / 2 &&& 1431655765)
  let z := (y &&& 858993459) + (y / 4 &&& 858993459)
  let w := (z + z / 16) &&& 252645135
  let t := w + w / 256
  (t + t / 65536) &&& 63
theorem bcN_3 {A B C : Nat} (hA : A < 256) (hB : B < 256) (hC : C < 256) : bcN (A + 256 * (B + 256 * C)) = cnt (fun i => A.testBit i) 8 + cnt (fun i => B.testBit i) 8 + cnt (fun i => C.testBit i) 8 := by
  have a := sb2 A hA
  have b := sb2 B hB
  have c := sb2 C hC
  have la := cnt_le (fun i => A.testBit i) 8
  have lb := cnt_le (fun i => B.testBit i) 8
  have lc := cnt_le (fun i => C.testBit i) 8
  have y : (A + 256 * (B + 256 * C)) - ((A + 256 * (B + 256 * C)) / 2 &&& 1431655765) = s1 A + 256 * (s1 B + 256 * (s1 C + 256 * 0)) := by
    have h3 := S1c (A := C) (R := 0) (N := 85) hC
    rw [show (0 : Nat) - (0 / 2 &&& 85) = 0 by decide, Nat.mul_zero, Nat.add_zero] at h3
    rw [show (1431655765 : Nat) = 85 + 256 * (85 + 256 * (85 + 256 * 85)) by decide, S1c hA, S1c hB, h3]
  have z : ((s1 A + 256 * (s1 B + 256 * (s1 C + 256 * 0))) &&& 858993459) + ((s1 A + 256 * (s1 B + 256 * (s1 C + 256 * 0))) / 4 &&& 858993459) = s2 (s1 A) + 256 * (s2 (s1 B) + 256 * (s2 (s1 C) + 256 * 0)) := by
    rw [show (858993459 : Nat) = 51 + 256 * (51 + 256 * (51 + 256 * 51)) by decide, S2c a.1, S2c b.1, S2c c.1]
    rfl
  have w : ((s2 (s1 A) + 256 * (s2 (s1 B) + 256 * (s2 (s1 C) + 256 * 0))) + (s2 (s1 A) + 256 * (s2 (s1 B) + 256 * (s2 (s1 C) + 256 * 0))) / 16) &&& 252645135 = s3 (s2 (s1 A)) + 256 * (s3 (s2 (s1 B)) + 256 * (s3 (s2 (s1 C)) + 256 * 0)) := by
    rw [show (252645135 : Nat) = 15 + 256 * (15 + 256 * (15 + 256 * 15)) by decide, S3c a.2.1 (by have := b.2.2.1; omega), S3c b.2.1 (by have := c.2.2.1; omega), S3c c.2.1 (by decide)]
    rfl
  unfold bcN
  dsimp only
  rw [y, z, w, a.2.2.2, b.2.2.2, c.2.2.2]
  rw [show (63 : Nat) = 2 ^ 6 - 1 by decide, Nat.and_two_pow_sub_one_eq_mod]
  clear y z w a b c
  generalize cnt (fun i => A.testBit i) 8 = a at la ⊢
  generalize cnt (fun i => B.testBit i) 8 = b at lb ⊢
  generalize cnt (fun i => C.testBit i) 8 = c at lc ⊢
  have h1 : (a + 256 * (b + 256 * (c + 256 * 0))) / 256 = b + 256 * c := by omega
  rw [h1]
  have h2 : (a + 256 * (b + 256 * (c + 256 * 0)) + (b + 256 * c)) / 65536 = c := by omega
  rw [h2]
  omega
theorem bc_nI {x : Nat} (hx : x < 2 ^ 24) : bc (nI x) = nI (bcN x) := by
  have h1 : x / 2 &&& 1431655765 ≤ x := Nat.le_trans Nat.and_le_left (Nat.div_le_self x 2)
  have e1 : bc1 (nI x) = nI (x - (x / 2 &&& 1431655765)) := by
    unfold bc1
    rw [pk_ushrN (by omega) 1 1 (by decide), show (1431655765 : Int32) = nI 1431655765 from rfl, nx_and, pk_sub (by rw [Nat.pow_one]; exact h1), Nat.pow_one]
  have e2 : ∀ y, y < 2 ^ 24 → bc2 (nI y) = nI ((y &&& 858993459) + (y / 4 &&& 858993459)) := by
    intro y hy
    unfold bc2
    rw [pk_ushrN (by omega) 2 2 (by decide), show (858993459 : Int32) = nI 858993459 from rfl, nx_and, nx_and, nI_add]
  have e3 : ∀ z, z < 2 ^ 26 → bc3 (nI z) = nI ((z + z / 16) &&& 252645135) := by
    intro z hz
    unfold bc3
    rw [pk_ushrN (by omega) 4 4 (by decide), nI_add, show (252645135 : Int32) = nI 252645135 from rfl, nx_and]
  have e4 : ∀ w, w < 2 ^ 28 → bc4 (nI w) = nI (w + w / 256) := by
    intro w hw
    unfold bc4
    rw [pk_ushrN (by omega) 8 8 (by decide), nI_add]
  have e5 : ∀ w, w < 2 ^ 30 → bc5 (nI w) = nI (w + w / 65536) := by
    intro w hw
    unfold bc5
    rw [pk_ushrN (by omega) 16 16 (by decide), nI_add]
  have hy : x - (x / 2 &&& 1431655765) < 2 ^ 24 := by omega
  have b2 : ∀ y, y < 2 ^ 24 → (y &&& 858993459) + (y / 4 &&& 858993459) < 2 ^ 26 := by
    intro y hy
    have q1 : y &&& 858993459 ≤ y := Nat.and_le_left
    have q2 : y / 4 &&& 858993459 ≤ y / 4 := Nat.and_le_left
    omega
  have b3 : ∀ z, (z + z / 16) &&& 252645135 < 2 ^ 28 := by
    intro z
    have q1 : (z + z / 16) &&& 252645135 ≤ 252645135 := Nat.and_le_right
    omega
  have b4 : ∀ w, w < 2 ^ 28 → w + w / 256 < 2 ^ 30 := by
    intro w hw
    omega
  unfold bc
  rw [e1, e2 _ hy, e3 _ (b2 _ hy), e4 _ (b3 _), e5 _ (b4 _ (b3 _))]
  exact nx_and _ 63
theorem cnt_split (p : Nat → Bool) (a b : Nat) : cnt p (a + b) = cnt p a + cnt (fun i => p (a + i)) b := by
  induction b with
  | zero => rfl
  | succ b ih => rw [← Nat.add_assoc, cnt, cnt, ih]; omega
theorem cnt_ext {p : Nat → Bool} {n m : Nat} (h : n ≤ m) (hp : ∀ i, n ≤ i → p i = false) : cnt p m = cnt p n := by
  obtain ⟨d, rfl⟩ : ∃ d, m = n + d := ⟨m - n, by omega⟩
  rw [cnt_split]
  have : cnt (fun i => p (n + i)) d = 0 := by
    induction d with
    | zero => rfl
    | succ d ih => rw [cnt, ih (by omega), hp _ (by omega)]; rfl
  omega
theorem bc_mk {p : Nat → Bool} {n : Nat} (hn : n ≤ 24) : bc (mk p n) = nI (cnt p n) := by
  have hlt : nv p n < 2 ^ 24 := Nat.lt_of_lt_of_le (nv_lt p n) (Nat.pow_le_pow_right (by decide) hn)
  rw [mk_nv p (by omega), bc_nI hlt]
  congr 1
  have e : nv p n = nv p n % 256 + 256 * (nv p n / 256 % 256 + 256 * (nv p n / 65536)) := by omega
  conv => lhs; rw [e]
  rw [bcN_3 (by omega) (by omega) (by omega)]
  have t0 : ∀ i, i < 8 → (nv p n % 256).testBit i = (nv p n).testBit i := by
    intro i hi
    rw [show (256 : Nat) = 2 ^ 8 by decide, Nat.testBit_mod_two_pow]
    simp [hi]
  have t1 : ∀ i, i < 8 → (nv p n / 256 % 256).testBit i = (nv p n).testBit (8 + i) := by
    intro i hi
    rw [show (256 : Nat) = 2 ^ 8 by decide, Nat.testBit_mod_two_pow, Nat.testBit_div_two_pow, Nat.add_comm]
    simp [hi]
  have t2 : ∀ i, i < 8 → (nv p n / 65536).testBit i = (nv p n).testBit (16 + i) := by
    intro i hi
    rw [show (65536 : Nat) = 2 ^ 16 by decide, Nat.testBit_div_two_pow, Nat.add_comm]
  rw [cnt_congr (q := fun i => (nv p n).testBit i) t0, cnt_congr (q := fun i => (nv p n).testBit (8 + i)) t1, cnt_congr (q := fun i => (nv p n).testBit (16 + i)) t2]
  have c1 := cnt_split (fun i => (nv p n).testBit i) 8 16
  have c2 := cnt_split (fun i => (nv p n).testBit (8 + i)) 8 8
  have c3 : cnt (fun i => (nv p n).testBit i) 24 = cnt p n := by
    rw [cnt_ext hn (fun i hi => by rw [nv_bit, decide_eq_false (by omega)]; rfl)]
    exact cnt_congr (fun i hi => by rw [nv_bit, decide_eq_true hi]; rfl)
  have c4 : cnt (fun i => (nv p n).testBit (8 + (8 + i))) 8 = cnt (fun i => (nv p n).testBit (16 + i)) 8 := cnt_congr (fun i _ => by congr 1; omega)
  have c1 : cnt (fun i => (nv p n).testBit i) 24 = cnt (fun i => (nv p n).testBit i) 8 + cnt (fun i => (nv p n).testBit (8 + i)) 16 := c1
  have c2 : cnt (fun i => (nv p n).testBit (8 + i)) 16 = cnt (fun i => (nv p n).testBit (8 + i)) 8 + cnt (fun i => (nv p n).testBit (8 + (8 + i))) 8 := c2
  rw [c4] at c2
  omega
theorem cnt_mono {p q : Nat → Bool} {n : Nat} (h : ∀ i, p i = true → q i = true) : cnt p n ≤ cnt q n := by
  induction n with
  | zero => exact Nat.le_refl _
  | succ n ih =>
    rw [cnt, cnt]
    by_cases g : p n = true
    · rw [if_pos g, if_pos (h n g)]; omega
    · rw [if_neg g]; omega
theorem mk_0 {q : Nat → Bool} {n : Nat} (h : cnt q n = 0) : mk q n = 0 := by
  rw [mk_congr (q := fun _ => false) (fun i hi => ?_)]
  · induction n with
    | zero => rfl
    | succ n ih => rw [mk, ih (by rw [cnt] at h; omega), if_neg (by decide)]
  · induction n with
    | zero => omega
    | succ n ih =>
      rw [cnt] at h
      by_cases e : i = n
      · subst e
        cases hq : q i
        · rfl
        · rw [if_pos hq] at h; omega
      · exact ih (by omega) (by omega)
abbrev fbX (w x : Int64) (e : Int32) : Prop := 0 ≤ lg_cmp x w ∨ e ≤ 0
def fbE (w : Int64) : Nat → Int64 → Int32 → Bool
  | 0, x, e => decide (fbX w x e)
  | f + 1, x, e => decide (fbX w x e) || fbE w f (x * 2) (e + Int32.ofInt (-1))
theorem fbL_0 {w : Int64} {f : Nat} {x : Int64} {e : Int32} (h : fbX w x e) : fbL w f x e = (x, e) := by
  cases f with
  | zero => rfl
  | succ f => rw [fbL, if_pos h]
theorem fbE_s {w : Int64} {f : Nat} {x : Int64} {e : Int32} (h : fbE w f x e = true) (hc : ¬ fbX w x e) : ∃ f2, f = f2 + 1 ∧ fbE w f2 (x * 2) (e + Int32.ofInt (-1)) = true := by
  cases f with
  | zero => exact absurd (of_decide_eq_true h) hc
  | succ f =>
    rw [fbE, decide_eq_false hc, Bool.false_or] at h
    exact ⟨f, rfl, h⟩
theorem fb_all : ∀ w, w < 25 → w = 0 ∨ ((nI w).toInt64 ≠ 0 ∧ ∀ a, a < 25 → a = 0 ∨ fbE (nI w).toInt64 6 (nI a).toInt64 127 = true) := by decide +kernel
def clP (P : Nat → Nat → Int32) (t : Int32) : Nat → Bool := fun i => pTo P (-6) i && pSd P t i
def shF (M : Mm) (n : Nat) (t : Int32) : Int32 := if cnt (clP (cp M 1) t) n = 0 then -6 else fbR (cnt (fun i => clP (cp M 1) t i && bSd M 1 n i) n) (cnt (clP (cp M 1) t) n)
