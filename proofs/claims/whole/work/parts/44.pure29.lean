theorem mnA_c {S S2 : Nat → Nat} {P : Nat → Nat → Int32} {t : Int32} {i n : Nat} (h : ∀ a, i < a → a < n → S a = S2 a) : ∀ a, a ≤ n → mnA S P t i a = mnA S2 P t i a := by
  intro a
  induction a with
  | zero => intro _; rfl
  | succ a ih =>
    intro ha
    rw [mnA, mnA, ih (by omega)]
    by_cases c : i < a ∧ P a 3 = t
    · rw [if_pos c, if_pos c, h a c.1 (by omega)]
    · rw [if_neg c, if_neg c]
theorem smA_c {S S2 : Nat → Nat} {P : Nat → Nat → Int32} {t : Int32} {i n : Nat} (h : ∀ a, i < a → a < n → S a = S2 a) : ∀ a, a ≤ n → smA S P t i a = smA S2 P t i a := by
  intro a
  induction a with
  | zero => intro _; rfl
  | succ a ih =>
    intro ha
    rw [smA, smA, ih (by omega)]
    by_cases c : i < a ∧ P a 3 = t
    · rw [if_pos c, if_pos c, h a c.1 (by omega)]
    · rw [if_neg c, if_neg c]
def fsV (o : Nat → Bool) (P : Nat → Nat → Int32) (n a : Nat) (S : Nat → Nat) : Nat := if o a = true then 0 else if naP P n a = true then 1 else mnA S P (nI a) a n
def fsW (o : Nat → Bool) (P : Nat → Nat → Int32) (n a : Nat) (F : Nat → Nat) : Nat := if o a = true then 1000 else min 1000 (smA F P (nI a) a n)
def fsT (o : Nat → Bool) (P : Nat → Nat → Int32) (n : Nat) : Nat → (Nat → Nat) × (Nat → Nat)
  | 0 => (fun _ => 0, fun _ => 0)
  | k + 1 => (fun j => if j = n - 1 - k then fsV o P n j (fsT o P n k).2 else (fsT o P n k).1 j, fun j => if j = n - 1 - k then fsW o P n j (fsT o P n k).1 else (fsT o P n k).2 j)
theorem fsT_le {o : Nat → Bool} {P : Nat → Nat → Int32} {n : Nat} : ∀ k j, (fsT o P n k).1 j ≤ 1000 ∧ (fsT o P n k).2 j ≤ 1000 := by
  intro k
  induction k with
  | zero => intro j; exact ⟨Nat.zero_le _, Nat.zero_le _⟩
  | succ k ih =>
    intro j
    have := mnA_le (S := (fsT o P n k).2) (P := P) (t := nI j) (i := j) n
    refine ⟨?_, ?_⟩
    · show (if j = n - 1 - k then fsV o P n j (fsT o P n k).2 else (fsT o P n k).1 j) ≤ 1000
      split
      · unfold fsV
        split
        · omega
        · split <;> omega
      · exact (ih j).1
    · show (if j = n - 1 - k then fsW o P n j (fsT o P n k).1 else (fsT o P n k).2 j) ≤ 1000
      split
      · unfold fsW
        split <;> omega
      · exact (ih j).2
theorem fsT_st {o : Nat → Bool} {P : Nat → Nat → Int32} {n j : Nat} : ∀ d k, k + d ≤ n → n - k ≤ j → j < n → (fsT o P n (k + d)).1 j = (fsT o P n k).1 j ∧ (fsT o P n (k + d)).2 j = (fsT o P n k).2 j := by
  intro d
  induction d with
  | zero => intro k _ _ _; exact ⟨rfl, rfl⟩
  | succ d ih =>
    intro k h1 h2 h3
    have := ih k (by omega) h2 h3
    have hj : ¬ j = n - 1 - (k + d) := by omega
    refine ⟨?_, ?_⟩
    · show (if j = n - 1 - (k + d) then _ else (fsT o P n (k + d)).1 j) = _
      rw [if_neg hj]; exact this.1
    · show (if j = n - 1 - (k + d) then _ else (fsT o P n (k + d)).2 j) = _
      rw [if_neg hj]; exact this.2
theorem fsT_n {o : Nat → Bool} {P : Nat → Nat → Int32} {n j k : Nat} (h1 : k ≤ n) (h2 : n - k ≤ j) (h3 : j < n) : (fsT o P n n).1 j = (fsT o P n k).1 j ∧ (fsT o P n n).2 j = (fsT o P n k).2 j := by
  have := fsT_st (o := o) (P := P) (n - k) k (by omega) h2 h3
  rw [show k + (n - k) = n by omega] at this
  exact this
theorem fsE {o : Nat → Bool} {P : Nat → Nat → Int32} {n i : Nat} (hi : i < n) : (fsT o P n n).1 i = fsV o P n i (fsT o P n n).2 ∧ (fsT o P n n).2 i = fsW o P n i (fsT o P n n).1 := by
  have e := fsT_n (o := o) (P := P) (k := n - i) (j := i) (by omega) (by omega) hi
  have hk : n - i = (n - 1 - i) + 1 := by omega
  have hc1 : ∀ a, i < a → a < n → (fsT o P n n).2 a = (fsT o P n (n - 1 - i)).2 a := fun a h1 h2 => (fsT_n (by omega) (by omega) h2).2
  have hc2 : ∀ a, i < a → a < n → (fsT o P n n).1 a = (fsT o P n (n - 1 - i)).1 a := fun a h1 h2 => (fsT_n (by omega) (by omega) h2).1
  have hx : i = n - 1 - (n - 1 - i) := by omega
  refine ⟨?_, ?_⟩
  · rw [e.1, hk]
    show (if i = n - 1 - (n - 1 - i) then fsV o P n i (fsT o P n (n - 1 - i)).2 else _) = _
    rw [if_pos hx]
    unfold fsV
    rw [mnA_c hc1 n (Nat.le_refl n)]
  · rw [e.2, hk]
    show (if i = n - 1 - (n - 1 - i) then fsW o P n i (fsT o P n (n - 1 - i)).1 else _) = _
    rw [if_pos hx]
    unfold fsW
    rw [smA_c hc2 n (Nat.le_refl n)]
theorem na_no {P : Nat → Nat → Int32} {n i : Nat} (h : naP P n i = true) : ∀ a, a < n → ¬ P a 3 = nI i := by
  intro a ha e
  unfold naP at h
  rw [Bool.not_eq_true'] at h
  have : (List.range n).any (fun a => P a 3 == nI i) = true := List.any_eq_true.mpr ⟨a, List.mem_range.mpr ha, by rw [e]; simp⟩
  rw [h] at this
  cases this
theorem na_mk {P : Nat → Nat → Int32} {n i : Nat} (hn : n ≤ 24) : (mk (pTo P (nI i)) n = 0) ↔ naP P n i = true := by
  constructor
  · intro h
    unfold naP
    rw [Bool.not_eq_true', Bool.eq_false_iff]
    intro g
    obtain ⟨a, ha, hb⟩ := List.any_eq_true.mp g
    have ha := List.mem_range.mp ha
    have e := bt_mk (pTo P (nI i)) (n := n) (i := a) (by omega) (by omega)
    rw [h, b_0, decide_eq_true ha, Bool.true_and] at e
    unfold pTo at e
    rw [hb] at e
    cases e
  · intro h
    have hno := na_no h
    rw [mk_congr (q := fun _ => false) (fun a ha => by unfold pTo; rw [beq_eq_false_iff_ne]; exact hno a ha)]
    clear h hno
    induction n with
    | zero => rfl
    | succ n ih => rw [mk, ih (by omega), if_neg (by decide)]
theorem lc_fs {M : Mm} {n : Nat} {o : Nat → Bool} (hn : n ≤ 24) (ho : ∀ i, i < n → inv (lkW M n i) 1 4 = o i) : ∀ k, k ≤ n → ∀ j, n - k ≤ j → j < n → (lcS M n k).2 j = nI ((fsT o (rp (M.1 271)) n k).1 j) ∧ (lcS M n k).1 j = nI ((fsT o (rp (M.1 271)) n k).2 j) := by
  intro k
  induction k with
  | zero => intro _ j h1 h2; omega
  | succ k ih =>
    intro hk j h1 h2
    have ihk := ih (by omega)
    by_cases e : j = n - 1 - k
    · subst e
      have hf := lcF_nI (P := rp (M.1 271)) (t := nI (n - 1 - k)) (fl := (lcS M n k).2) (F := (fsT o (rp (M.1 271)) n k).1) (i := n - 1 - k) (n := n) (fun a g1 g2 => (ihk a (by omega) g2).1) n (Nat.le_refl n)
      have hl := lcL_nI (P := rp (M.1 271)) (t := nI (n - 1 - k)) (st := (lcS M n k).1) (S := (fsT o (rp (M.1 271)) n k).2) (i := n - 1 - k) (n := n) (fun a g1 g2 => ⟨(ihk a (by omega) g2).2, (fsT_le k a).2⟩) n (Nat.le_refl n)
      have hb := smA_le (F := (fsT o (rp (M.1 271)) n k).1) (P := rp (M.1 271)) (t := nI (n - 1 - k)) (i := n - 1 - k) (n := n) (fun a _ => (fsT_le k a).1) n (Nat.le_refl n)
      refine ⟨?_, ?_⟩
      · show upd (lcS M n k).2 (n - 1 - k) _ (n - 1 - k) = nI (if n - 1 - k = n - 1 - k then fsV o (rp (M.1 271)) n (n - 1 - k) (fsT o (rp (M.1 271)) n k).2 else _)
        rw [upd_s, if_pos rfl, ho _ h2]
        unfold fsV
        by_cases c : o (n - 1 - k) = true
        · rw [if_pos c, if_pos c]; rfl
        · rw [if_neg c, if_neg c]
          by_cases g : naP (rp (M.1 271)) n (n - 1 - k) = true
          · rw [if_pos g, if_pos ((na_mk hn).mpr g), lcL_no (na_no g) n (Nat.le_refl n)]; rfl
          · rw [if_neg g, if_neg (fun z => g ((na_mk hn).mp z))]; exact hl
      · show upd (lcS M n k).1 (n - 1 - k) _ (n - 1 - k) = nI (if n - 1 - k = n - 1 - k then fsW o (rp (M.1 271)) n (n - 1 - k) (fsT o (rp (M.1 271)) n k).1 else _)
        rw [upd_s, if_pos rfl, ho _ h2, hf]
        unfold fsW
        by_cases c : o (n - 1 - k) = true
        · rw [if_pos c, if_pos (Or.inl c)]; rfl
        · rw [if_neg c]
          by_cases g : smA (fsT o (rp (M.1 271)) n k).1 (rp (M.1 271)) (nI (n - 1 - k)) (n - 1 - k) n < 1000
          · rw [if_neg (fun z => z.elim c (fun z => z (nI_lt (b := 1000) g (by decide)))), Nat.min_eq_right (by omega)]
          · have z1 : ¬ nI (smA (fsT o (rp (M.1 271)) n k).1 (rp (M.1 271)) (nI (n - 1 - k)) (n - 1 - k) n) < (1000 : Int32) := nI_nlt (b := 1000) (Nat.not_lt.mp g) (by omega)
            rw [if_pos (Or.inr z1), Nat.min_eq_left (Nat.not_lt.mp g)]
            rfl
    · have := ihk j (by omega) h2
      refine ⟨?_, ?_⟩
      · show upd (lcS M n k).2 (n - 1 - k) _ j = nI (if j = n - 1 - k then _ else (fsT o (rp (M.1 271)) n k).1 j)
        rw [upd_n e, if_neg e]
        exact this.1
      · show upd (lcS M n k).1 (n - 1 - k) _ j = nI (if j = n - 1 - k then _ else (fsT o (rp (M.1 271)) n k).2 j)
        rw [upd_n e, if_neg e]
        exact this.2
