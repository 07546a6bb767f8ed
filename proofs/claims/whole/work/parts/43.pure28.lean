def mnA (S : Nat → Nat) (P : Nat → Nat → Int32) (t : Int32) (i : Nat) : Nat → Nat
  | 0 => 1000
  | a + 1 => if i < a ∧ P a 3 = t then min (mnA S P t i a) (S a) else mnA S P t i a
def smA (F : Nat → Nat) (P : Nat → Nat → Int32) (t : Int32) (i : Nat) : Nat → Nat
  | 0 => 0
  | a + 1 => if i < a ∧ P a 3 = t then smA F P t i a + F a else smA F P t i a
def mnD (S : Nat → Nat) (P : Nat → Nat → Int32) (t : Int32) (n : Nat) : Nat → Nat
  | 0 => 1000
  | f + 1 => if P (n - (f + 1)) 3 = t then min (mnD S P t n f) (S (n - (f + 1))) else mnD S P t n f
def smD (F : Nat → Nat) (P : Nat → Nat → Int32) (t : Int32) (n : Nat) : Nat → Nat
  | 0 => 0
  | f + 1 => if P (n - (f + 1)) 3 = t then min 1000 (smD F P t n f + F (n - (f + 1))) else smD F P t n f
theorem mnA_le {S : Nat → Nat} {P : Nat → Nat → Int32} {t : Int32} {i : Nat} : ∀ a, mnA S P t i a ≤ 1000 := by
  intro a
  induction a with
  | zero => exact Nat.le_refl _
  | succ a ih => rw [mnA]; split <;> omega
theorem mnD_le {S : Nat → Nat} {P : Nat → Nat → Int32} {t : Int32} {n : Nat} : ∀ f, mnD S P t n f ≤ 1000 := by
  intro a
  induction a with
  | zero => exact Nat.le_refl _
  | succ a ih => rw [mnD]; split <;> omega
theorem smD_le {F : Nat → Nat} {P : Nat → Nat → Int32} {t : Int32} {n : Nat} : ∀ f, smD F P t n f ≤ 1000 := by
  intro a
  induction a with
  | zero => exact Nat.zero_le _
  | succ a ih => rw [smD]; split <;> omega
theorem smA_le {F : Nat → Nat} {P : Nat → Nat → Int32} {t : Int32} {i n : Nat} (hF : ∀ a, a < n → F a ≤ 1000) : ∀ a, a ≤ n → smA F P t i a ≤ 1000 * a := by
  intro a
  induction a with
  | zero => intro _; exact Nat.zero_le _
  | succ a ih =>
    intro h
    have := ih (by omega)
    have := hF a (by omega)
    rw [smA]
    split <;> omega
theorem mn_eq {S : Nat → Nat} {P : Nat → Nat → Int32} {t : Int32} {i n : Nat} (h : ∀ a, a < n → P a 3 = t → i < a) : ∀ f, f ≤ n → min (mnA S P t i (n - f)) (mnD S P t n f) = mnA S P t i n := by
  intro f
  induction f with
  | zero => intro _; have := mnA_le (S := S) (P := P) (t := t) (i := i) n; rw [mnD, Nat.sub_zero]; omega
  | succ f ih =>
    intro hf
    have e := ih (by omega)
    obtain ⟨a, ha⟩ : ∃ a, n - f = a + 1 := ⟨n - f - 1, by omega⟩
    have ha2 : n - (f + 1) = a := by omega
    rw [ha, mnA] at e
    rw [mnD, ha2]
    by_cases c : P a 3 = t
    · rw [if_pos ⟨h a (by omega) c, c⟩] at e
      rw [if_pos c]
      omega
    · rw [if_neg (fun g => c g.2)] at e
      rw [if_neg c]
      exact e
theorem sm_eq {F : Nat → Nat} {P : Nat → Nat → Int32} {t : Int32} {i n : Nat} (h : ∀ a, a < n → P a 3 = t → i < a) : ∀ f, f ≤ n → min 1000 (smA F P t i (n - f) + smD F P t n f) = min 1000 (smA F P t i n) := by
  intro f
  induction f with
  | zero => intro _; rw [smD, Nat.sub_zero, Nat.add_zero]
  | succ f ih =>
    intro hf
    have e := ih (by omega)
    obtain ⟨a, ha⟩ : ∃ a, n - f = a + 1 := ⟨n - f - 1, by omega⟩
    have ha2 : n - (f + 1) = a := by omega
    rw [ha, smA] at e
    rw [smD, ha2]
    by_cases c : P a 3 = t
    · rw [if_pos ⟨h a (by omega) c, c⟩] at e
      rw [if_pos c]
      omega
    · rw [if_neg (fun g => c g.2)] at e
      rw [if_neg c]
      exact e
theorem mnA_0 {S : Nat → Nat} {P : Nat → Nat → Int32} {t : Int32} {i : Nat} : ∀ m, m ≤ i + 1 → mnA S P t i m = 1000 := by
  intro m
  induction m with
  | zero => intro _; rfl
  | succ m ih => intro h; rw [mnA, if_neg (fun g => by omega), ih (by omega)]
theorem smA_0 {F : Nat → Nat} {P : Nat → Nat → Int32} {t : Int32} {i : Nat} : ∀ m, m ≤ i + 1 → smA F P t i m = 0 := by
  intro m
  induction m with
  | zero => intro _; rfl
  | succ m ih => intro h; rw [smA, if_neg (fun g => by omega), ih (by omega)]
theorem mn_top {S : Nat → Nat} {P : Nat → Nat → Int32} {t : Int32} {i n : Nat} (hi : i < n) (h : ∀ a, a < n → P a 3 = t → i < a) : mnD S P t n (n - (i + 1)) = mnA S P t i n := by
  have e := mn_eq (S := S) h (n - (i + 1)) (by omega)
  have := mnD_le (S := S) (P := P) (t := t) (n := n) (n - (i + 1))
  rw [mnA_0 _ (by omega)] at e
  omega
theorem sm_top {F : Nat → Nat} {P : Nat → Nat → Int32} {t : Int32} {i n : Nat} (hi : i < n) (h : ∀ a, a < n → P a 3 = t → i < a) : smD F P t n (n - (i + 1)) = min 1000 (smA F P t i n) := by
  have e := sm_eq (F := F) h (n - (i + 1)) (by omega)
  have := smD_le (F := F) (P := P) (t := t) (n := n) (n - (i + 1))
  rw [smA_0 _ (by omega)] at e
  omega
theorem lcF_nI {P : Nat → Nat → Int32} {t : Int32} {fl : Nat → Int32} {F : Nat → Nat} {i n : Nat} (h : ∀ a, i < a → a < n → fl a = nI (F a)) : ∀ a, a ≤ n → lcF P t fl i a = nI (smA F P t i a) := by
  intro a
  induction a with
  | zero => intro _; rfl
  | succ a ih =>
    intro ha
    rw [lcF, smA, ih (by omega)]
    by_cases c : i < a ∧ P a 3 = t
    · rw [if_pos c, if_pos c, h a c.1 (by omega), nI_add]
    · rw [if_neg c, if_neg c]
theorem lcL_nI {P : Nat → Nat → Int32} {t : Int32} {st : Nat → Int32} {S : Nat → Nat} {i n : Nat} (h : ∀ a, i < a → a < n → st a = nI (S a) ∧ S a ≤ 1000) : ∀ a, a ≤ n → lcL P t st i 1000 a = nI (mnA S P t i a) := by
  intro a
  induction a with
  | zero => intro _; rfl
  | succ a ih =>
    intro ha
    rw [lcL, mnA, ih (by omega)]
    by_cases c : i < a ∧ P a 3 = t
    · obtain ⟨h1, h2⟩ := h a c.1 (by omega)
      have hm := mnA_le (S := S) (P := P) (t := t) (i := i) a
      rw [if_pos c, if_pos c, h1]
      by_cases g : mnA S P t i a ≤ S a
      · rw [if_pos (nI_le g (by omega)), Nat.min_eq_left g]
      · rw [if_neg (fun q => g (of_le q (by omega) (by omega))), Nat.min_eq_right (by omega)]
    · rw [if_neg c, if_neg c]
theorem lcL_no {P : Nat → Nat → Int32} {t : Int32} {st : Nat → Int32} {x : Int32} {i n : Nat} (h : ∀ a, a < n → ¬ P a 3 = t) : ∀ a, a ≤ n → lcL P t st i x a = x := by
  intro a
  induction a with
  | zero => intro _; rfl
  | succ a ih => intro ha; rw [lcL, if_neg (fun g => h a (by omega) g.2), ih (by omega)]
