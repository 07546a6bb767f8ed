theorem nI_ne6 {t : Nat} (h : t < 24) : ¬ nI t = -6 := nI_n6 t h
def mnA (S : Nat → Nat) (P : Nat → Nat → Int32) (t : Int32) (i : Nat) : Nat → Nat
  | 0 => 1000
  | a + 1 => if i < a ∧ P a 3 = t then min (mnA S P t i a) (S a) else mnA S P t i a
def smA (F : Nat → Nat) (P : Nat → Nat → Int32) (t : Int32) (i : Nat) : Nat → Nat
  | 0 => 0
  | a + 1 => if i < a ∧ P a 3 = t then smA F P t i a + F a else smA F P t i a
def mnD (S : Nat → Nat) (P : Nat → Nat → Int32) (t : Int32) (n : Nat) : Nat → Nat
  | 0 => 1000
  | f + 1 => if P (n - (f + 1)) 3 = t then min (mnD S P t n f) (S (n - (f + 1))) else mnD S P t n f
def smD (F : Nat → Nat) (P : Nat → Nat → Int32) (t : Int32) (n : Nat) : Nat → Nat
  | 0 => 0
  | f + 1 => if P (n - (f + 1)) 3 = t then min 1000 (smD F P t n f + F (n - (f + 1))) else smD F P t n f
theorem mnA_le {S : Nat → Nat} {P : Nat → Nat → Int32} {t : Int32} {i : Nat} : ∀ a, mnA S P t i a ≤ 1000 := by
  intro a
  induction a with
  | zero => exact Nat.le_refl _
  | succ a ih => rw [mnA]; split <;> omega
theorem mnD_le {S : Nat → Nat} {P : Nat → Nat → Int32} {t : Int32} {n : Nat} : ∀ f, mnD S P t n f ≤ 1000 := by
  intro a
  induction a with
  | zero => exact Nat.le_refl _
  | succ a ih => rw [mnD]; split <;> omega
theorem smD_le {F : Nat → Nat} {P : Nat → Nat → Int32} {t : Int32} {n : Nat} : ∀ f, smD F P t n f ≤ 1000 := by
  intro a
  induction a with
  | zero => exact Nat.zero_le _
  | succ a ih => rw [smD]; split <;> omega
theorem smA_le {F : Nat → Nat} {P : Nat → Nat → Int32} {t : Int32} {i n : Nat} (hF : ∀ a, a < n → F a ≤ 1000) : ∀ a, a ≤ n → smA F P t i a ≤ 1000 * a := by
  intro a
  induction a with
  | zero => intro _; exact Nat.zero_le _
  | succ a ih =>
    intro h
    have := ih (by omega)
    have := hF a (by omega)
    rw [smA]
    split <;> omega
theorem mn_eq {S : Nat → Nat} {P : Nat → Nat → Int32} {t : Int32} {i n : Nat} (h : ∀ a, a < n → P a 3 = t → i < a) : ∀ f, f ≤ n → min (mnA S P t i (n - f)) (mnD S P t n f) = mnA S P t i n := by
  intro f
  induction f with
  | zero => intro _; have := mnA_le (S := S) (P := P) (t := t) (i := i) n; rw [mnD, Nat.sub_zero]; omega
  | succ f ih =>
    intro hf
    have e := ih (by omega)
    obtain ⟨a, ha⟩ : ∃ a, n - f = a + 1 := ⟨n - f - 1, by omega⟩
    have ha2 : n - (f + 1) = a := by omega
    rw [ha, mnA] at e
    rw [mnD, ha2]
    by_cases c : P a 3 = t
    · rw [if_pos ⟨h a (by omega) c, c⟩] at e
      rw [if_pos c]
      omega
    · rw [if_neg (fun g => c g.2)] at e
      rw [if_neg c]
      exact e
theorem sm_eq {F : Nat → Nat} {P : Nat → Nat → Int32} {t : Int32} {i n : Nat} (h : ∀ a, a < n → P a 3 = t → i < a) : ∀ f, f ≤ n → min 1000 (smA F P t i (n - f) + smD F P t n f) = min 1000 (smA F P t i n) := by
  intro f
  induction f with
  | zero => intro _; rw [smD, Nat.sub_zero, Nat.add_zero]
  | succ f ih =>
    intro hf
    have e := ih (by omega)
    obtain ⟨a, ha⟩ : ∃ a, n - f = a + 1 := ⟨n - f - 1, by omega⟩
    have ha2 : n - (f + 1) = a := by omega
    rw [ha, smA] at e
    rw [smD, ha2]
    by_cases c : P a 3 = t
    · rw [if_pos ⟨h a (by omega) c, c⟩] at e
      rw [if_pos c]
      omega
    · rw [if_neg (fun g => c g.2)] at e
      rw [if_neg c]
      exact e
theorem mnA_0 {S : Nat → Nat} {P : Nat → Nat → Int32} {t : Int32} {i : Nat} : ∀ m, m ≤ i + 1 → mnA S P t i m = 1000 := by
  intro m
  induction m with
  | zero => intro _; rfl
  | succ m ih => intro h; rw [mnA, if_neg (fun g => by omega), ih (by omega)]
theorem smA_0 {F : Nat → Nat} {P : Nat → Nat → Int32} {t : Int32} {i : Nat} : ∀ m, m ≤ i + 1 → smA F P t i m = 0 := by
  intro m
  induction m with
  | zero => intro _; rfl
  | succ m ih => intro h; rw [smA, if_neg (fun g => by omega), ih (by omega)]
theorem mn_top {S : Nat → Nat} {P : Nat → Nat → Int32} {t : Int32} {i n : Nat} (hi : i < n) (h : ∀ a, a < n → P a 3 = t → i < a) : mnD S P t n (n - (i + 1)) = mnA S P t i n := by
  have e := mn_eq (S := S) h (n - (i + 1)) (by omega)
  have := mnD_le (S := S) (P := P) (t := t) (n := n) (n - (i + 1))
  rw [mnA_0 _ (by omega)] at e
  omega
theorem sm_top {F : Nat → Nat} {P : Nat → Nat → Int32} {t : Int32} {i n : Nat} (hi : i < n) (h : ∀ a, a < n → P a 3 = t → i < a) : smD F P t n (n - (i + 1)) = min 1000 (smA F P t i n) := by
  have e := sm_eq (F := F) h (n - (i + 1)) (by omega)
  have := smD_le (F := F) (P := P) (t := t) (n := n) (n - (i + 1))
  rw [smA_0 _ (by omega)] at e
  omega
theorem mnA_c {S S2 : Nat → Nat} {P : Nat → Nat → Int32} {t : Int32} {i n : Nat} (h : ∀ a, i < a → a < n → S a = S2 a) : ∀ a, a ≤ n → mnA S P t i a = mnA S2 P t i a := by
  intro a
  induction a with
  | zero => intro _; rfl
  | succ a ih =>
    intro ha
    rw [mnA, mnA, ih (by omega)]
    by_cases c : i < a ∧ P a 3 = t
    · rw [if_pos c, if_pos c, h a c.1 (by omega)]
    · rw [if_neg c, if_neg c]
theorem smA_c {S S2 : Nat → Nat} {P : Nat → Nat → Int32} {t : Int32} {i n : Nat} (h : ∀ a, i < a → a < n → S a = S2 a) : ∀ a, a ≤ n → smA S P t i a = smA S2 P t i a := by
  intro a
  induction a with
  | zero => intro _; rfl
  | succ a ih =>
    intro ha
    rw [smA, smA, ih (by omega)]
    by_cases c : i < a ∧ P a 3 = t
    · rw [if_pos c, if_pos c, h a c.1 (by omega)]
    · rw [if_neg c, if_neg c]
def fsV (o : Nat → Bool) (P : Nat → Nat → Int32) (n a : Nat) (S : Nat → Nat) : Nat := if o a = true then 0 else if naP P n a = true then 1 else mnA S P (nI a) a n
def fsW (o : Nat → Bool) (P : Nat → Nat → Int32) (n a : Nat) (F : Nat → Nat) : Nat := if o a = true then 1000 else min 1000 (smA F P (nI a) a n)
def fsT (o : Nat → Bool) (P : Nat → Nat → Int32) (n : Nat) : Nat → (Nat → Nat) × (Nat → Nat)
  | 0 => (fun _ => 0, fun _ => 0)
  | k + 1 => (fun j => if j = n - 1 - k then fsV o P n j (fsT o P n k).2 else (fsT o P n k).1 j, fun j => if j = n - 1 - k then fsW o P n j (fsT o P n k).1 else (fsT o P n k).2 j)
theorem fsT_le {o : Nat → Bool} {P : Nat → Nat → Int32} {n : Nat} : ∀ k j, (fsT o P n k).1 j ≤ 1000 ∧ (fsT o P n k).2 j ≤ 1000 := by
  intro k
  induction k with
  | zero => intro j; exact ⟨Nat.zero_le _, Nat.zero_le _⟩
  | succ k ih =>
    intro j
    have := mnA_le (S := (fsT o P n k).2) (P := P) (t := nI j) (i := j) n
    refine ⟨?_, ?_⟩
    · show (if j = n - 1 - k then fsV o P n j (fsT o P n k).2 else (fsT o P n k).1 j) ≤ 1000
      split
      · unfold fsV
        split
        · omega
        · split <;> omega
      · exact (ih j).1
    · show (if j = n - 1 - k then fsW o P n j (fsT o P n k).1 else (fsT o P n k).2 j) ≤ 1000
      split
      · unfold fsW
        split <;> omega
      · exact (ih j).2
theorem fsT_st {o : Nat → Bool} {P : Nat → Nat → Int32} {n j : Nat} : ∀ d k, k + d ≤ n → n - k ≤ j → j < n → (fsT o P n (k + d)).1 j = (fsT o P n k).1 j ∧ (fsT o P n (k + d)).2 j = (fsT o P n k).2 j := by
  intro d
  induction d with
  | zero => intro k _ _ _; exact ⟨rfl, rfl⟩
  | succ d ih =>
    intro k h1 h2 h3
    have := ih k (by omega) h2 h3
    have hj : ¬ j = n - 1 - (k + d) := by omega
    refine ⟨?_, ?_⟩
    · show (if j = n - 1 - (k + d) then _ else (fsT o P n (k + d)).1 j) = _
      rw [if_neg hj]; exact this.1
    · show (if j = n - 1 - (k + d) then _ else (fsT o P n (k + d)).2 j) = _
      rw [if_neg hj]; exact this.2
theorem fsT_n {o : Nat → Bool} {P : Nat → Nat → Int32} {n j k : Nat} (h1 : k ≤ n) (h2 : n - k ≤ j) (h3 : j < n) : (fsT o P n n).1 j = (fsT o P n k).1 j ∧ (fsT o P n n).2 j = (fsT o P n k).2 j := by
  have := fsT_st (o := o) (P := P) (n - k) k (by omega) h2 h3
  rw [show k + (n - k) = n by omega] at this
  exact this
theorem fsE {o : Nat → Bool} {P : Nat → Nat → Int32} {n i : Nat} (hi : i < n) : (fsT o P n n).1 i = fsV o P n i (fsT o P n n).2 ∧ (fsT o P n n).2 i = fsW o P n i (fsT o P n n).1 := by
  have e := fsT_n (o := o) (P := P) (k := n - i) (j := i) (by omega) (by omega) hi
  have hk : n - i = (n - 1 - i) + 1 := by omega
  have hc1 : ∀ a, i < a → a < n → (fsT o P n n).2 a = (fsT o P n (n - 1 - i)).2 a := fun a h1 h2 => (fsT_n (by omega) (by omega) h2).2
  have hc2 : ∀ a, i < a → a < n → (fsT o P n n).1 a = (fsT o P n (n - 1 - i)).1 a := fun a h1 h2 => (fsT_n (by omega) (by omega) h2).1
  have hx : i = n - 1 - (n - 1 - i) := by omega
  refine ⟨?_, ?_⟩
  · rw [e.1, hk]
    show (if i = n - 1 - (n - 1 - i) then fsV o P n i (fsT o P n (n - 1 - i)).2 else _) = _
    rw [if_pos hx]
    unfold fsV
    rw [mnA_c hc1 n (Nat.le_refl n)]
  · rw [e.2, hk]
    show (if i = n - 1 - (n - 1 - i) then fsW o P n i (fsT o P n (n - 1 - i)).1 else _) = _
    rw [if_pos hx]
    unfold fsW
    rw [smA_c hc2 n (Nat.le_refl n)]
theorem na_no {P : Nat → Nat → Int32} {n i : Nat} (h : naP P n i = true) : ∀ a, a < n → ¬ P a 3 = nI i := by
  intro a ha e
  unfold naP at h
  rw [Bool.not_eq_true'] at h
  have : (List.range n).any (fun a => P a 3 == nI i) = true := List.any_eq_true.mpr ⟨a, List.mem_range.mpr ha, by rw [e]; simp⟩
  rw [h] at this
  cases this
theorem wS1_1 {o na : Nat → Bool} {i : Nat} {q : (Nat → Int32) × (Nat → Int32)} : (wS1 o na i q).1 = if o i = true then upd q.1 i 0 else if na i = true then upd q.1 i 1 else q.1 := rfl
theorem wS1_2 {o na : Nat → Bool} {i : Nat} {q : (Nat → Int32) × (Nat → Int32)} : (wS1 o na i q).2 = if o i = true then upd q.2 i 1000 else q.2 := rfl
theorem imin_nI {a b : Nat} (ha : a < 2 ^ 31) (hb : b < 2 ^ 31) : imin (nI a) (nI b) = nI (min a b) := by
  unfold imin
  by_cases g : b < a
  · rw [if_pos (nI_lt g ha), Nat.min_eq_right (by omega)]
  · rw [if_neg (nI_nlt (by omega) hb), Nat.min_eq_left (by omega)]
def wInv (P : Nat → Nat → Int32) (n : Nat) (F S : Nat → Nat) (p : Nat) (q : (Nat → Int32) × (Nat → Int32)) : Prop := ∀ j, j < n → if n - p ≤ j then q.1 j = nI (F j) ∧ q.2 j = nI (S j) else q.1 j = nI (mnD S P (nI j) n p) ∧ q.2 j = nI (smD F P (nI j) n p)
theorem wInv_s {P : Nat → Nat → Int32} {o : Nat → Bool} {n p : Nat} {F S : Nat → Nat} {q : (Nat → Int32) × (Nat → Int32)} (hn : n ≤ 24) (hw : WF P n) (hFS : ∀ i, i < n → F i = fsV o P n i S ∧ S i = fsW o P n i F ∧ F i ≤ 1000 ∧ S i ≤ 1000) (hp : p < n) (h : wInv P n F S p q) : wInv P n F S (p + 1) (wStep P o (naP P n) (n - (p + 1)) q) := by
  have hi : n - (p + 1) < n := by omega
  generalize hie : n - (p + 1) = i at hi
  have hgt : ∀ t a, a < n → P a 3 = nI t → t < n → t < a := by
    intro t a ha e ht
    rcases (hw a ha).2.1 with g | ⟨u, hu, g⟩
    · rw [g] at e
      exact absurd e.symm (nI_ne6 (by omega))
    · rw [g] at e
      have := (nI_eq (by omega) (by omega)).mp e
      omega
  obtain ⟨hF, hS, hFl, hSl⟩ := hFS i hi
  have hin : n - (i + 1) = p := by omega
  have hqi := h i hi
  rw [if_neg (by omega)] at hqi
  have hm := mn_top (S := S) (P := P) (t := nI i) hi (fun a ha e => hgt i a ha e hi)
  have hs := sm_top (F := F) (P := P) (t := nI i) hi (fun a ha e => hgt i a ha e hi)
  rw [hin] at hm hs
  have hv1 : (wS1 o (naP P n) i q).1 i = nI (F i) := by
    rw [wS1_1]
    rw [hF]
    unfold fsV
    by_cases c : o i = true
    · rw [if_pos c, if_pos c]; exact upd_s
    · rw [if_neg c, if_neg c]
      by_cases g : naP P n i = true
      · rw [if_pos g, if_pos g]; exact upd_s
      · rw [if_neg g, if_neg g, ← hm]; exact hqi.1
  have hv2 : (wS1 o (naP P n) i q).2 i = nI (S i) := by
    rw [wS1_2]
    rw [hS]
    unfold fsW
    by_cases c : o i = true
    · rw [if_pos c, if_pos c]; exact upd_s
    · rw [if_neg c, if_neg c, ← hs]; exact hqi.2
  have hu1 : ∀ j, j ≠ i → (wS1 o (naP P n) i q).1 j = q.1 j := by
    intro j hj
    rw [wS1_1]
    by_cases c : o i = true
    · rw [if_pos c]; exact upd_n hj
    · rw [if_neg c]
      by_cases g : naP P n i = true
      · rw [if_pos g]; exact upd_n hj
      · rw [if_neg g]
  have hu2 : ∀ j, j ≠ i → (wS1 o (naP P n) i q).2 j = q.2 j := by
    intro j hj
    rw [wS1_2]
    by_cases c : o i = true
    · rw [if_pos c]; exact upd_n hj
    · rw [if_neg c]
  intro j hj
  unfold wStep
  rw [hv1, hv2]
  unfold att
  rcases (hw i hi).2.1 with g | ⟨t, ht, g⟩
  · rw [if_pos g, hie]
    by_cases c : i ≤ j
    · rw [if_pos c]
      by_cases e : j = i
      · subst e; exact ⟨hv1, hv2⟩
      · have := h j hj
        rw [if_pos (by omega)] at this
        rw [hu1 j e, hu2 j e]
        exact this
    · rw [if_neg c, hu1 j (by omega), hu2 j (by omega)]
      have := h j hj
      rw [if_neg (by omega)] at this
      rw [mnD, smD, hie, if_neg (by rw [g]; exact fun e => nI_ne6 (by omega) e.symm), if_neg (by rw [g]; exact fun e => nI_ne6 (by omega) e.symm)]
      exact this
  · have g6 : ¬ P i 3 = -6 := by rw [g]; exact nI_ne6 (by omega)
    rw [if_neg g6, g, nI_clamp (by omega), hie]
    have hqt := h t (by omega)
    rw [if_neg (by omega)] at hqt
    by_cases c : i ≤ j
    · rw [if_pos c]
      have hjt : j ≠ t := by omega
      show upd (wS1 o (naP P n) i q).1 t _ j = _ ∧ upd (wS1 o (naP P n) i q).2 t _ j = _
      rw [upd_n hjt, upd_n hjt]
      by_cases e : j = i
      · subst e; exact ⟨hv1, hv2⟩
      · have := h j hj
        rw [if_pos (by omega)] at this
        rw [hu1 j e, hu2 j e]
        exact this
    · rw [if_neg c]
      show upd (wS1 o (naP P n) i q).1 t _ j = _ ∧ upd (wS1 o (naP P n) i q).2 t _ j = _
      by_cases e : j = t
      · subst e
        have b1 := mnD_le (S := S) (P := P) (t := nI j) (n := n) p
        have b2 := smD_le (F := F) (P := P) (t := nI j) (n := n) p
        rw [upd_s, upd_s, hu1 j (by omega), hu2 j (by omega), hqt.1, hqt.2, mnD, smD, hie, if_pos g, if_pos g, nI_add, imin_nI (by omega) (by omega)]
        exact ⟨rfl, imin_nI (a := 1000) (by decide) (by omega)⟩
      · rw [upd_n e, upd_n e, hu1 j (by omega), hu2 j (by omega)]
        have hne : ¬ P i 3 = nI j := by
          rw [g]
          exact fun z => e ((nI_eq (by omega) (by omega)).mp z).symm
        have := h j hj
        rw [if_neg (by omega)] at this
        rw [mnD, smD, hie, if_neg hne, if_neg hne]
        exact this
theorem wAll_i {P : Nat → Nat → Int32} {o : Nat → Bool} {n : Nat} {F S : Nat → Nat} {q0 : (Nat → Int32) × (Nat → Int32)} (hn : n ≤ 24) (hw : WF P n) (hFS : ∀ i, i < n → F i = fsV o P n i S ∧ S i = fsW o P n i F ∧ F i ≤ 1000 ∧ S i ≤ 1000) (h0 : wInv P n F S 0 q0) : ∀ k, k ≤ 24 → wInv P n F S (k + n - 24) (wAll P o (naP P n) n q0 k) := by
  intro k
  induction k with
  | zero => intro _; rw [show 0 + n - 24 = 0 by omega]; exact h0
  | succ k ih =>
    intro hk
    have ihk := ih (by omega)
    rw [wAll]
    by_cases c : 23 - k < n
    · rw [if_pos c]
      have := wInv_s hn hw hFS (show k + n - 24 < n by omega) ihk
      rw [show n - (k + n - 24 + 1) = 23 - k by omega, show k + n - 24 + 1 = k + 1 + n - 24 by omega] at this
      exact this
    · rw [if_neg c, show k + 1 + n - 24 = k + n - 24 by omega]
      exact ihk
