theorem fs_cost {M : Mm} {n i : Nat} (hn : n ≤ 24) (hw : WF (cp M 1) n) (hi : i < n) : (wAll (cp M 1) (bOut M 1) (naP (cp M 1) n) n (wI M 24) 24).1 i = nI ((fsT (bOut M 1) (cp M 1) n n).1 i) ∧ (wAll (cp M 1) (bOut M 1) (naP (cp M 1) n) n (wI M 24) 24).2 i = nI ((fsT (bOut M 1) (cp M 1) n n).2 i) := by
  have hFS : ∀ j, j < n → (fsT (bOut M 1) (cp M 1) n n).1 j = fsV (bOut M 1) (cp M 1) n j (fsT (bOut M 1) (cp M 1) n n).2 ∧ (fsT (bOut M 1) (cp M 1) n n).2 j = fsW (bOut M 1) (cp M 1) n j (fsT (bOut M 1) (cp M 1) n n).1 ∧ (fsT (bOut M 1) (cp M 1) n n).1 j ≤ 1000 ∧ (fsT (bOut M 1) (cp M 1) n n).2 j ≤ 1000 := by
    intro j hj
    have e := fsE (o := bOut M 1) (P := cp M 1) hj
    exact ⟨e.1, e.2, (fsT_le n j).1, (fsT_le n j).2⟩
  have h0 : wInv (cp M 1) n (fsT (bOut M 1) (cp M 1) n n).1 (fsT (bOut M 1) (cp M 1) n n).2 0 (wI M 24) := by
    intro j hj
    rw [if_neg (by omega)]
    unfold wI
    exact ⟨if_pos (by omega), if_pos (by omega)⟩
  have hf := wAll_i hn hw hFS h0 24 (Nat.le_refl 24) i hi
  rw [if_pos (by omega)] at hf
  exact hf
def isF (P : Nat → Nat → Int32) (p : Nat) : Nat → Nat → Bool
  | 0, x => decide (x = p)
  | f + 1, x => decide (x = p) || (if P x 3 = -6 then false else isF P p f (P x 3).toNatClampNeg)
def isD (P : Nat → Nat → Int32) (p x : Nat) : Bool := isF P p x x
theorem isF_fuel {P : Nat → Nat → Int32} {n p : Nat} (hw : WF P n) (hn : n ≤ 24) : ∀ x f g, x < n → x ≤ f → x ≤ g → isF P p f x = isF P p g x := by
  intro x
  refine Nat.strongRecOn x ?_
  intro x ih f g hx hf hg
  rcases (hw x hx).2.1 with h | ⟨t, ht, h⟩
  · cases f with
    | zero =>
      cases g with
      | zero => rfl
      | succ g => rw [isF, isF, if_pos h, Bool.or_false]
    | succ f =>
      cases g with
      | zero => rw [isF, isF, if_pos h, Bool.or_false]
      | succ g => rw [isF, isF, if_pos h, if_pos h]
  · obtain ⟨f, rfl⟩ : ∃ f', f = f' + 1 := ⟨f - 1, by omega⟩
    obtain ⟨g, rfl⟩ : ∃ g', g = g' + 1 := ⟨g - 1, by omega⟩
    have h6 : ¬ P x 3 = -6 := by rw [h]; exact nI_n6 t (by omega)
    rw [isF, isF, if_neg h6, if_neg h6, h, nI_clamp (by omega), ih t ht f g (by omega) (by omega) (by omega)]
theorem isD_s {P : Nat → Nat → Int32} {p : Nat} : isD P p p = true := by
  unfold isD
  cases p with
  | zero => rfl
  | succ p => rw [isF]; simp
theorem isD_c {P : Nat → Nat → Int32} {n p x t : Nat} (hw : WF P n) (hn : n ≤ 24) (hx : x < n) (h : P x 3 = nI t) (ht : t < x) : isD P p x = (decide (x = p) || isD P p t) := by
  unfold isD
  obtain ⟨y, rfl⟩ : ∃ y, x = y + 1 := ⟨x - 1, by omega⟩
  have h6 : ¬ P (y + 1) 3 = -6 := by rw [h]; exact nI_n6 t (by omega)
  rw [isF, if_neg h6, h, nI_clamp (by omega), isF_fuel hw hn t y t (by omega) (by omega) (Nat.le_refl t)]
theorem isD_r {P : Nat → Nat → Int32} {p x : Nat} (h : P x 3 = -6) : isD P p x = decide (x = p) := by
  unfold isD
  cases x with
  | zero => rfl
  | succ y => rw [isF, if_pos h, Bool.or_false]
theorem isD_le {P : Nat → Nat → Int32} {n p : Nat} (hw : WF P n) (hn : n ≤ 24) : ∀ x, x < n → isD P p x = true → p ≤ x := by
  intro x
  refine Nat.strongRecOn x ?_
  intro x ih hx h
  rcases (hw x hx).2.1 with g | ⟨t, ht, g⟩
  · rw [isD_r g] at h
    have := of_decide_eq_true h
    omega
  · rw [isD_c hw hn hx g ht, Bool.or_eq_true, decide_eq_true_eq] at h
    rcases h with h | h
    · omega
    · have := ih t ht (by omega) h
      omega
theorem isD_up {P : Nat → Nat → Int32} {n p a : Nat} (hw : WF P n) (hn : n ≤ 24) (ha : a < n) (hp : P a 3 = nI p) (hpa : p < a) : ∀ x, x < n → isD P a x = true → isD P p x = true := by
  intro x
  refine Nat.strongRecOn x ?_
  intro x ih hx h
  by_cases e : x = a
  · subst e
    rw [isD_c hw hn hx hp hpa, isD_s, Bool.or_true]
  · rcases (hw x hx).2.1 with g | ⟨t, ht, g⟩
    · rw [isD_r g] at h
      exact absurd (of_decide_eq_true h) e
    · rw [isD_c hw hn hx g ht, decide_eq_false e, Bool.false_or] at h
      rw [isD_c hw hn hx g ht, ih t ht (by omega) h, Bool.or_true]
theorem isD_un {P : Nat → Nat → Int32} {n p a b : Nat} (hw : WF P n) (hn : n ≤ 24) (ha : P a 3 = nI p) (hb : P b 3 = nI p) (hpa : p < a) (hpb : p < b) (han : a < n) (hbn : b < n) : ∀ x, x < n → isD P a x = true → isD P b x = true → a = b := by
  intro x
  refine Nat.strongRecOn x ?_
  intro x ih hx h1 h2
  by_cases e1 : x = a
  · by_cases e2 : x = b
    · omega
    · subst e1
      rw [isD_c hw hn hx ha hpa, decide_eq_false e2, Bool.false_or] at h2
      have := isD_le hw hn p (by omega) h2
      omega
  · by_cases e2 : x = b
    · subst e2
      rw [isD_c hw hn hx hb hpb, decide_eq_false e1, Bool.false_or] at h1
      have := isD_le hw hn p (by omega) h1
      omega
    · rcases (hw x hx).2.1 with g | ⟨t, ht, g⟩
      · rw [isD_r g] at h1
        exact absurd (of_decide_eq_true h1) e1
      · rw [isD_c hw hn hx g ht, decide_eq_false e1, Bool.false_or] at h1
        rw [isD_c hw hn hx g ht, decide_eq_false e2, Bool.false_or] at h2
        exact ih t ht (by omega) h1 h2
theorem par_lt {P : Nat → Nat → Int32} {n p a : Nat} (hw : WF P n) (hn : n ≤ 24) (ha : a < n) (hp : p < n) (h : P a 3 = nI p) : p < a := by
  rcases (hw a ha).2.1 with g | ⟨t, ht, g⟩
  · rw [g] at h; exact absurd h.symm (nI_n6 p (by omega))
  · rw [g] at h
    have := (nI_eq (by omega) (by omega)).mp h
    omega
theorem sd_loc {P : Nat → Nat → Int32} {o S S' : Nat → Bool} {n : Nat} (hw : WF P n) (hn : n ≤ 24) : ∀ d p, n - p ≤ d → p < n → (∀ x, x < n → isD P p x = true → S x = S' x) → sd o S P n p = sd o S' P n p := by
  intro d
  induction d with
  | zero => intro p h1 h2; omega
  | succ d ih =>
    intro p h1 hp h
    rw [sd_eq hp, sd_eq hp, h p hp isD_s]
    congr 2
    unfold anS
    have key : ∀ a, a < n → P a 3 = nI p → sd o S P n a = sd o S' P n a := fun a ha e => by
      have hpa := par_lt hw hn ha hp e
      exact ih a (by omega) ha (fun x hx hd => h x hx (isD_up hw hn ha e hpa x hx hd))
    rw [Bool.eq_iff_iff, List.any_eq_true, List.any_eq_true]
    constructor
    · rintro ⟨a, ha, hb⟩
      simp only [Bool.and_eq_true, beq_iff_eq] at hb
      exact ⟨a, ha, by simp only [Bool.and_eq_true, beq_iff_eq]; exact ⟨hb.1, hb.2.1, by rw [← key a (List.mem_range.mp ha) hb.2.1]; exact hb.2.2⟩⟩
    · rintro ⟨a, ha, hb⟩
      simp only [Bool.and_eq_true, beq_iff_eq] at hb
      exact ⟨a, ha, by simp only [Bool.and_eq_true, beq_iff_eq]; exact ⟨hb.1, hb.2.1, by rw [key a (List.mem_range.mp ha) hb.2.1]; exact hb.2.2⟩⟩
theorem cnt_imp {p q : Nat → Bool} {n : Nat} (h : ∀ i, i < n → p i = true → q i = true) : cnt p n ≤ cnt q n := by
  induction n with
  | zero => exact Nat.le_refl _
  | succ n ih =>
    have := ih (fun i hi => h i (by omega))
    rw [cnt, cnt]
    by_cases g : p n = true
    · rw [if_pos g, if_pos (h n (by omega) g)]; omega
    · rw [if_neg g]; omega
theorem cnt_dis {u v w : Nat → Bool} {n : Nat} (h1 : ∀ i, i < n → u i = true → v i = true → False) (h2 : ∀ i, i < n → u i = true → w i = true) (h3 : ∀ i, i < n → v i = true → w i = true) : cnt u n + cnt v n ≤ cnt w n := by
  induction n with
  | zero => exact Nat.le_refl _
  | succ n ih =>
    have := ih (fun i hi => h1 i (by omega)) (fun i hi => h2 i (by omega)) (fun i hi => h3 i (by omega))
    rw [cnt, cnt, cnt]
    by_cases g : u n = true
    · rw [if_pos g, if_pos (h2 n (by omega) g), if_neg (fun z => h1 n (by omega) g z)]; omega
    · by_cases g2 : v n = true
      · rw [if_neg g, if_pos g2, if_pos (h3 n (by omega) g2)]; omega
      · rw [if_neg g, if_neg g2]; omega
theorem cnt_or {u v : Nat → Bool} {n : Nat} : cnt (fun i => u i || v i) n ≤ cnt u n + cnt v n := by
  induction n with
  | zero => exact Nat.le_refl _
  | succ n ih =>
    rw [cnt, cnt, cnt]
    cases u n <;> cases v n <;> simp <;> omega
theorem mnA_sp {S : Nat → Nat} {P : Nat → Nat → Int32} {t : Int32} {i : Nat} : ∀ m, (∀ a, a < m → i < a → P a 3 = t → mnA S P t i m ≤ S a) ∧ (mnA S P t i m = 1000 ∨ ∃ a, a < m ∧ i < a ∧ P a 3 = t ∧ S a = mnA S P t i m) := by
  intro m
  induction m with
  | zero => exact ⟨fun a ha => by omega, Or.inl rfl⟩
  | succ m ih =>
    obtain ⟨h1, h2⟩ := ih
    rw [mnA]
    by_cases c : i < m ∧ P m 3 = t
    · rw [if_pos c]
      refine ⟨fun a ha hi e => ?_, ?_⟩
      · by_cases g : a = m
        · subst g; omega
        · have := h1 a (by omega) hi e
          omega
      · by_cases g : mnA S P t i m ≤ S m
        · rw [Nat.min_eq_left g]
          rcases h2 with h2 | ⟨a, b1, b2, b3, b4⟩
          · exact Or.inl h2
          · exact Or.inr ⟨a, by omega, b2, b3, b4⟩
        · rw [Nat.min_eq_right (by omega)]
          exact Or.inr ⟨m, by omega, c.1, c.2, rfl⟩
    · rw [if_neg c]
      refine ⟨fun a ha hi e => ?_, ?_⟩
      · by_cases g : a = m
        · subst g; exact absurd ⟨hi, e⟩ c
        · exact h1 a (by omega) hi e
      · rcases h2 with h2 | ⟨a, b1, b2, b3, b4⟩
        · exact Or.inl h2
        · exact Or.inr ⟨a, by omega, b2, b3, b4⟩
def kids (P : Nat → Nat → Int32) (t : Int32) (i m : Nat) (q : Nat → Nat → Bool) : Nat → Bool := fun x => (List.range m).any (fun a => (decide (i < a) && P a 3 == t) && q a x)
theorem kids_s {P : Nat → Nat → Int32} {t : Int32} {i m : Nat} {q : Nat → Nat → Bool} {x : Nat} : kids P t i (m + 1) q x = (kids P t i m q x || ((decide (i < m) && P m 3 == t) && q m x)) := by
  unfold kids
  rw [List.range_succ, List.any_append]
  simp
theorem kids_t {P : Nat → Nat → Int32} {t : Int32} {i m : Nat} {q : Nat → Nat → Bool} {x : Nat} : kids P t i m q x = true ↔ ∃ a, a < m ∧ i < a ∧ P a 3 = t ∧ q a x = true := by
  unfold kids
  rw [List.any_eq_true]
  constructor
  · rintro ⟨a, ha, hb⟩
    simp only [Bool.and_eq_true, decide_eq_true_eq, beq_iff_eq] at hb
    exact ⟨a, List.mem_range.mp ha, hb.1.1, hb.1.2, hb.2⟩
  · rintro ⟨a, ha, h1, h2, h3⟩
    exact ⟨a, List.mem_range.mpr ha, by simp only [Bool.and_eq_true, decide_eq_true_eq, beq_iff_eq]; exact ⟨⟨h1, h2⟩, h3⟩⟩
theorem sm_dis {P : Nat → Nat → Int32} {t : Int32} {i n : Nat} {q : Nat → Nat → Bool} {F : Nat → Nat} (hF : ∀ a, a < n → i < a → P a 3 = t → F a ≤ cnt (q a) n) (hd : ∀ a b x, a < n → b < n → i < a → i < b → P a 3 = t → P b 3 = t → x < n → q a x = true → q b x = true → a = b) : ∀ m, m ≤ n → smA F P t i m ≤ cnt (kids P t i m q) n := by
  intro m
  induction m with
  | zero => intro _; exact Nat.zero_le _
  | succ m ih =>
    intro hm
    have ih := ih (by omega)
    rw [smA]
    by_cases c : i < m ∧ P m 3 = t
    · rw [if_pos c]
      have h1 := hF m (by omega) c.1 c.2
      have h2 : cnt (kids P t i m q) n + cnt (q m) n ≤ cnt (kids P t i (m + 1) q) n := by
        refine cnt_dis (fun x hx hu hv => ?_) (fun x _ hu => ?_) (fun x _ hv => ?_)
        · obtain ⟨a, ha, g1, g2, g3⟩ := kids_t.mp hu
          have := hd a m x (by omega) (by omega) g1 c.1 g2 c.2 hx g3 hv
          omega
        · rw [kids_s, hu, Bool.true_or]
        · rw [kids_s, decide_eq_true c.1, hv]
          simp [c.2]
      omega
    · rw [if_neg c]
      exact Nat.le_trans ih (cnt_imp (fun x _ hu => by rw [kids_s, hu, Bool.true_or]))
theorem sm_uni {P : Nat → Nat → Int32} {t : Int32} {i n : Nat} {q : Nat → Nat → Bool} {F : Nat → Nat} (hF : ∀ a, a < n → i < a → P a 3 = t → cnt (q a) n ≤ F a) : ∀ m, m ≤ n → cnt (kids P t i m q) n ≤ smA F P t i m := by
  intro m
  induction m with
  | zero =>
    intro _
    have : ¬ 0 < cnt (kids P t i 0 q) n := by
      rw [cnt_pos]
      rintro ⟨x, _, hx⟩
      obtain ⟨a, ha, _⟩ := kids_t.mp hx
      omega
    rw [smA]; omega
  | succ m ih =>
    intro hm
    have ih := ih (by omega)
    rw [smA]
    by_cases c : i < m ∧ P m 3 = t
    · rw [if_pos c]
      have h1 := hF m (by omega) c.1 c.2
      have h2 : cnt (kids P t i (m + 1) q) n ≤ cnt (fun x => kids P t i m q x || q m x) n := cnt_imp (fun x _ hu => by
        rw [kids_s, Bool.or_eq_true] at hu
        rw [Bool.or_eq_true]
        rcases hu with hu | hu
        · exact Or.inl hu
        · rw [Bool.and_eq_true] at hu; exact Or.inr hu.2)
      have h3 := cnt_or (u := kids P t i m q) (v := q m) (n := n)
      omega
    · rw [if_neg c]
      exact Nat.le_trans (cnt_imp (fun x _ hu => by
        rw [kids_s, Bool.or_eq_true] at hu
        rcases hu with hu | hu
        · exact hu
        · simp only [Bool.and_eq_true, decide_eq_true_eq, beq_iff_eq] at hu
          exact absurd hu.1 c)) ih
theorem smA_sp {F : Nat → Nat} {P : Nat → Nat → Int32} {t : Int32} {i : Nat} : ∀ m a, a < m → i < a → P a 3 = t → F a ≤ smA F P t i m := by
  intro m
  induction m with
  | zero => intro a ha; omega
  | succ m ih =>
    intro a ha hi e
    rw [smA]
    by_cases g : a = m
    · subst g; rw [if_pos ⟨hi, e⟩]; omega
    · have := ih a (by omega) hi e
      split <;> omega
theorem smA_no {F : Nat → Nat} {P : Nat → Nat → Int32} {t : Int32} {i n : Nat} (h : ∀ a, a < n → ¬ P a 3 = t) : ∀ m, m ≤ n → smA F P t i m = 0 := by
  intro m
  induction m with
  | zero => intro _; rfl
  | succ m ih => intro hm; rw [smA, if_neg (fun g => h m (by omega) g.2), ih (by omega)]
def bare (o : Nat → Bool) (P : Nat → Nat → Int32) (n : Nat) : Nat → Bool := fun i => naP P n i && !o i
theorem an_false {o S : Nat → Bool} {P : Nat → Nat → Int32} {n p : Nat} (h : ∀ a, a < n → P a 3 = nI p → sd o S P n a = false) : anS (sd o S P n) P n (p + 1) p = false := by
  unfold anS
  rw [List.any_eq_false]
  intro a ha hb
  simp only [Bool.and_eq_true, beq_iff_eq] at hb
  rw [h a (List.mem_range.mp ha) hb.2.1] at hb
  exact Bool.noConfusion hb.2.2
theorem an_true {o S : Nat → Bool} {P : Nat → Nat → Int32} {n p a : Nat} (ha : a < n) (hpa : p < a) (e : P a 3 = nI p) (h : sd o S P n a = true) : anS (sd o S P n) P n (p + 1) p = true := by
  unfold anS
  rw [List.any_eq_true]
  exact ⟨a, List.mem_range.mpr ha, by simp only [Bool.and_eq_true, decide_eq_true_eq, beq_iff_eq]; exact ⟨by omega, e, h⟩⟩
theorem cost_lo {o : Nat → Bool} {P : Nat → Nat → Int32} {n : Nat} (hw : WF P n) (hn : n ≤ 24) {S : Nat → Bool} (hS : ∀ x, x < n → S x = true → bare o P n x = true) : ∀ d p, n - p ≤ d → p < n → (sd o S P n p = false → (fsT o P n n).1 p ≤ cnt (fun x => S x && isD P p x) n) ∧ (sd o S P n p = true → (fsT o P n n).2 p ≤ cnt (fun x => S x && isD P p x) n) := by
  intro d
  induction d with
  | zero => intro p h1 h2; omega
  | succ d ih =>
    intro p h1 hp
    have e := fsE (o := o) (P := P) hp
    rw [e.1, e.2]
    have hsub : ∀ a, a < n → P a 3 = nI p → cnt (fun x => S x && isD P a x) n ≤ cnt (fun x => S x && isD P p x) n := fun a ha g => cnt_imp (fun x hx hu => by
      simp only [Bool.and_eq_true] at hu ⊢
      exact ⟨hu.1, isD_up hw hn ha g (par_lt hw hn ha hp g) x hx hu.2⟩)
    refine ⟨fun hs => ?_, fun hs => ?_⟩
    · unfold fsV
      by_cases c : o p = true
      · rw [if_pos c]; omega
      · rw [if_neg c]
        have co : o p = false := by cases h : o p; rfl; exact absurd h c
        rw [sd_eq hp, co] at hs
        by_cases g : naP P n p = true
        · rw [if_pos g]
          have ha : anS (sd o S P n) P n (p + 1) p = false := an_false (fun a ha g2 => absurd g2 (na_no g a ha))
          rw [ha] at hs
          have hSp : S p = true := by revert hs; cases S p <;> simp
          exact cnt_pos.mpr ⟨p, hp, by rw [hSp, isD_s]; rfl⟩
        · rw [if_neg g]
          have hSp : S p = false := by
            cases h : S p
            · rfl
            · have := hS p hp h
              unfold bare at this
              rw [Bool.and_eq_true] at this
              exact absurd this.1 g
          rw [hSp] at hs
          have ha : anS (sd o S P n) P n (p + 1) p = true := by revert hs; cases anS (sd o S P n) P n (p + 1) p <;> simp
          unfold anS at ha
          obtain ⟨a, ha1, ha2⟩ := List.any_eq_true.mp ha
          simp only [Bool.and_eq_true, decide_eq_true_eq, beq_iff_eq] at ha2
          have han := List.mem_range.mp ha1
          have h2 := (mnA_sp (S := (fsT o P n n).2) (P := P) (t := nI p) (i := p) n).1 a han (by omega) ha2.2.1
          have h3 := (ih a (by omega) han).2 ha2.2.2
          have h4 := hsub a han ha2.2.1
          omega
    · unfold fsW
      have hs2 := hs
      rw [sd_eq hp] at hs2
      have co : o p = false := by revert hs2; cases o p <;> simp
      rw [if_neg (by rw [co]; decide)]
      have hk : ∀ a, a < n → p < a → P a 3 = nI p → (fsT o P n n).1 a ≤ cnt (fun x => S x && isD P a x) n := fun a ha hpa g => by
        refine (ih a (by omega) ha).1 ?_
        cases h : sd o S P n a
        · rfl
        · rw [an_true ha hpa g h] at hs2
          revert hs2
          cases o p <;> cases S p <;> simp
      have h2 := sm_dis (P := P) (t := nI p) (i := p) (n := n) (q := fun a x => S x && isD P a x) hk (fun a b x ha hb h1 h2 g1 g2 hx h3 h4 => by
        simp only [Bool.and_eq_true] at h3 h4
        exact isD_un hw hn g1 g2 h1 h2 ha hb x hx h3.2 h4.2) n (Nat.le_refl n)
      have h3 : cnt (kids P (nI p) p n (fun a x => S x && isD P a x)) n ≤ cnt (fun x => S x && isD P p x) n := cnt_imp (fun x hx hu => by
        obtain ⟨a, ha, g1, g2, g3⟩ := kids_t.mp hu
        simp only [Bool.and_eq_true] at g3 ⊢
        exact ⟨g3.1, isD_up hw hn ha g2 g1 x hx g3.2⟩)
      omega
theorem cost_hi {o : Nat → Bool} {P : Nat → Nat → Int32} {n : Nat} (hw : WF P n) (hn : n ≤ 24) : ∀ d p, n - p ≤ d → p < n → ((fsT o P n n).1 p < 1000 → ∃ S : Nat → Bool, (∀ x, x < n → S x = true → bare o P n x = true ∧ isD P p x = true) ∧ sd o S P n p = false ∧ cnt S n ≤ (fsT o P n n).1 p) ∧ ((fsT o P n n).2 p < 1000 → ∃ S : Nat → Bool, (∀ x, x < n → S x = true → bare o P n x = true ∧ isD P p x = true) ∧ sd o S P n p = true ∧ cnt S n ≤ (fsT o P n n).2 p) := by
  intro d
  induction d with
  | zero => intro p h1 h2; omega
  | succ d ih =>
    intro p h1 hp
    have e := fsE (o := o) (P := P) hp
    rw [e.1, e.2]
    have c0 : cnt (fun _ => false) n = 0 := Nat.eq_zero_of_not_pos (fun h => by obtain ⟨i, _, h⟩ := cnt_pos.mp h; exact Bool.noConfusion h)
    refine ⟨fun hs => ?_, fun hs => ?_⟩
    · unfold fsV at hs ⊢
      by_cases c : o p = true
      · rw [if_pos c]
        exact ⟨fun _ => false, fun x _ h => Bool.noConfusion h, by rw [sd_eq hp, c]; rfl, by omega⟩
      · rw [if_neg c] at hs ⊢
        have co : o p = false := by cases h : o p; rfl; exact absurd h c
        by_cases g : naP P n p = true
        · rw [if_pos g]
          refine ⟨fun x => decide (x = p), fun x _ h => ?_, ?_, ?_⟩
          · have := of_decide_eq_true h
            subst this
            exact ⟨by unfold bare; rw [g, co]; rfl, isD_s⟩
          · rw [sd_eq hp, decide_eq_true rfl, co]; rfl
          · have : cnt (fun x => decide (x = p)) n = 1 := by
              have h2 := cnt_rm (q := fun x => decide (x = p)) (n := n) hp (decide_eq_true rfl)
              rw [h2, cnt_congr (q := fun _ => false) (fun i _ => by cases decide (i = p) <;> rfl), c0]
            omega
        · rw [if_neg g] at hs ⊢
          rcases (mnA_sp (S := (fsT o P n n).2) (P := P) (t := nI p) (i := p) n).2 with h2 | ⟨a, ha, hpa, ea, hSa⟩
          · omega
          · obtain ⟨S, hS1, hS2, hS3⟩ := (ih a (by omega) ha).2 (by omega)
            exact ⟨S, fun x hx h => ⟨(hS1 x hx h).1, isD_up hw hn ha ea hpa x hx (hS1 x hx h).2⟩, by rw [sd_eq hp, an_true ha hpa ea hS2]; simp, by omega⟩
    · unfold fsW at hs ⊢
      by_cases c : o p = true
      · rw [if_pos c] at hs; omega
      · rw [if_neg c] at hs ⊢
        have co : o p = false := by cases h : o p; rfl; exact absurd h c
        have hsm : smA (fsT o P n n).1 P (nI p) p n < 1000 := by omega
        have hch : ∀ a, ∃ S : Nat → Bool, a < n → p < a → P a 3 = nI p → (∀ x, x < n → S x = true → bare o P n x = true ∧ isD P a x = true) ∧ sd o S P n a = false ∧ cnt S n ≤ (fsT o P n n).1 a := fun a => by
          by_cases h : a < n ∧ p < a ∧ P a 3 = nI p
          · have := smA_sp (F := (fsT o P n n).1) (P := P) (t := nI p) (i := p) n a h.1 h.2.1 h.2.2
            obtain ⟨S, hS⟩ := (ih a (by omega) h.1).1 (by omega)
            exact ⟨S, fun _ _ _ => hS⟩
          · exact ⟨fun _ => false, fun h1 h2 h3 => absurd ⟨h1, h2, h3⟩ h⟩
        obtain ⟨Q, hQ⟩ := Classical.axiomOfChoice hch
        have hkid : ∀ a x, a < n → p < a → P a 3 = nI p → x < n → isD P a x = true → kids P (nI p) p n Q x = Q a x := fun a x ha hpa ea hx hd => by
          rw [Bool.eq_iff_iff, kids_t]
          constructor
          · rintro ⟨b, hb, hpb, eb, hq⟩
            have := isD_un hw hn ea eb hpa hpb ha hb x hx hd ((hQ b hb hpb eb).1 x hx hq).2
            rw [this]; exact hq
          · intro hq
            exact ⟨a, ha, hpa, ea, hq⟩
        refine ⟨kids P (nI p) p n Q, fun x hx h => ?_, ?_, ?_⟩
        · obtain ⟨a, ha, hpa, ea, hq⟩ := kids_t.mp h
          have := (hQ a ha hpa ea).1 x hx hq
          exact ⟨this.1, isD_up hw hn ha ea hpa x hx this.2⟩
        · have hp0 : kids P (nI p) p n Q p = false := by
            rw [Bool.eq_false_iff]
            intro h
            obtain ⟨a, ha, hpa, ea, hq⟩ := kids_t.mp h
            have := isD_le hw hn p hp ((hQ a ha hpa ea).1 p hp hq).2
            omega
          rw [sd_eq hp, co, hp0, an_false (fun a ha ea => ?_)]
          · rfl
          · have hpa := par_lt hw hn ha hp ea
            rw [sd_loc hw hn n a (by omega) ha (S' := Q a) (fun x hx hd => hkid a x ha hpa ea hx hd)]
            exact (hQ a ha hpa ea).2.1
        · have := sm_uni (P := P) (t := nI p) (i := p) (n := n) (q := Q) (F := (fsT o P n n).1) (fun a ha hpa ea => (hQ a ha hpa ea).2.2) n (Nat.le_refl n)
          omega
def scK (q : Nat → Bool) (k : Nat) : Nat → Bool := fun i => q i && k.testBit (cnt q i)
theorem scK_all {q S : Nat → Bool} : ∀ n, (∀ i, i < n → S i = true → q i = true) → ∃ k, k < 2 ^ cnt q n ∧ ∀ i, i < n → scK q k i = S i := by
  intro n
  induction n with
  | zero => intro _; exact ⟨0, Nat.one_pos, fun i hi => by omega⟩
  | succ n ih =>
    intro h
    obtain ⟨k, hk, hki⟩ := ih (fun i hi => h i (by omega))
    have hcm : ∀ i, i < n → q i = true → cnt q i < cnt q n := fun i hi hq => by
      have h1 : cnt q (i + 1) = cnt q i + 1 := by rw [cnt, if_pos hq]
      have h2 : cnt q (i + 1) ≤ cnt q n := by
        have h3 := cnt_split q (i + 1) (n - (i + 1))
        rw [show i + 1 + (n - (i + 1)) = n by omega] at h3
        omega
      omega
    by_cases g : q n = true
    · refine ⟨k + (if S n = true then 2 ^ cnt q n else 0), ?_, ?_⟩
      · rw [cnt, if_pos g, Nat.pow_succ]; split <;> omega
      · intro i hi
        by_cases e : i = n
        · subst e
          unfold scK
          rw [g, Bool.true_and]
          cases hS : S i
          · rw [if_neg (by decide), Nat.add_zero, Nat.testBit_lt_two_pow hk]
          · rw [if_pos rfl, Nat.add_comm, Nat.testBit_two_pow_add_eq, Nat.testBit_lt_two_pow hk]; rfl
        · have hin : i < n := by omega
          rw [← hki i hin]
          unfold scK
          cases hq : q i
          · rfl
          · have := hcm i hin hq
            split
            · rw [Nat.add_comm, Nat.testBit_two_pow_add_gt this]
            · rw [Nat.add_zero]
    · refine ⟨k, by rw [cnt, if_neg g]; exact hk, fun i hi => ?_⟩
      by_cases e : i = n
      · subst e
        unfold scK
        have hq : q i = false := by cases h : q i; rfl; exact absurd h g
        have hS : S i = false := by cases hs : S i; rfl; exact absurd (h i (by omega) hs) g
        rw [hq, hS]; rfl
      · exact hki i (by omega)
def mnOK (o : Nat → Bool) (P : Nat → Nat → Int32) (n p K : Nat) (st : Bool) (x : Int32) : Prop := (x = -6 ∧ ∀ k, k < K → ¬ sd o (scK (bare o P n) k) P n p = st) ∨ ∃ c, c ≤ 24 ∧ x = nI c ∧ (∃ k, k < K ∧ sd o (scK (bare o P n) k) P n p = st ∧ cnt (scK (bare o P n) k) n = c) ∧ ∀ k, k < K → sd o (scK (bare o P n) k) P n p = st → c ≤ cnt (scK (bare o P n) k) n
theorem mn_fin {o : Nat → Bool} {P : Nat → Nat → Int32} {n p v : Nat} {st : Bool} {x : Int32} (hn : n ≤ 24) (hv : v ≤ 1000) (hlo : ∀ S : Nat → Bool, (∀ x, x < n → S x = true → bare o P n x = true) → sd o S P n p = st → v ≤ cnt S n) (hhi : v < 1000 → ∃ S : Nat → Bool, (∀ x, x < n → S x = true → bare o P n x = true) ∧ sd o S P n p = st ∧ cnt S n ≤ v) (hp : p < n) (h : mnOK o P n p (2 ^ cnt (bare o P n) n) st x) : x = if nI v < 1000 then nI v else -6 := by
  have hsub : ∀ k x, x < n → scK (bare o P n) k x = true → bare o P n x = true := fun k x _ h => by
    unfold scK at h
    rw [Bool.and_eq_true] at h
    exact h.1
  have hex : v < 1000 → ∃ k, k < 2 ^ cnt (bare o P n) n ∧ sd o (scK (bare o P n) k) P n p = st ∧ cnt (scK (bare o P n) k) n = v := fun hv2 => by
    obtain ⟨S, hS1, hS2, hS3⟩ := hhi hv2
    obtain ⟨k, hk, hki⟩ := scK_all n hS1
    have e1 : sd o (scK (bare o P n) k) P n p = st := by rw [← hS2]; exact sd_cg (fun _ _ => rfl) hki (fun _ _ => rfl) p hp
    have e2 : cnt (scK (bare o P n) k) n = cnt S n := cnt_congr hki
    have := hlo _ (hsub k) e1
    exact ⟨k, hk, e1, by omega⟩
  rcases h with ⟨h1, h2⟩ | ⟨c, hc, h1, ⟨k, hk, h2, h3⟩, h4⟩
  · by_cases g : v < 1000
    · obtain ⟨k, hk, e1, _⟩ := hex g
      exact absurd e1 (h2 k hk)
    · rw [h1, if_neg (show ¬ nI v < 1000 from nI_nlt (b := 1000) (by omega) (by omega))]
  · have g1 := hlo _ (hsub k) h2
    have g : v < 1000 := by omega
    obtain ⟨k2, hk2, e1, e2⟩ := hex g
    have := h4 k2 hk2 e1
    rw [h1, if_pos (show nI v < 1000 from nI_lt (b := 1000) g (by decide)), show c = v by omega]
theorem mn_fall {o : Nat → Bool} {P : Nat → Nat → Int32} {n p : Nat} {x : Int32} (hw : WF P n) (hn : n ≤ 24) (hp : p < n) (h : mnOK o P n p (2 ^ cnt (bare o P n) n) false x) : x = if nI ((fsT o P n n).1 p) < 1000 then nI ((fsT o P n n).1 p) else -6 := by
  refine mn_fin hn (fsT_le n p).1 (fun S hS e => Nat.le_trans ((cost_lo hw hn hS n p (by omega) hp).1 e) (cnt_imp (fun x _ hu => by rw [Bool.and_eq_true] at hu; exact hu.1))) (fun hv => ?_) hp h
  obtain ⟨S, h1, h2, h3⟩ := (cost_hi hw hn n p (by omega) hp).1 hv
  exact ⟨S, fun x hx g => (h1 x hx g).1, h2, h3⟩
theorem mn_stand {o : Nat → Bool} {P : Nat → Nat → Int32} {n p : Nat} {x : Int32} (hw : WF P n) (hn : n ≤ 24) (hp : p < n) (h : mnOK o P n p (2 ^ cnt (bare o P n) n) true x) : x = if nI ((fsT o P n n).2 p) < 1000 then nI ((fsT o P n n).2 p) else -6 := by
  refine mn_fin hn (fsT_le n p).2 (fun S hS e => Nat.le_trans ((cost_lo hw hn hS n p (by omega) hp).2 e) (cnt_imp (fun x _ hu => by rw [Bool.and_eq_true] at hu; exact hu.1))) (fun hv => ?_) hp h
  obtain ⟨S, h1, h2, h3⟩ := (cost_hi hw hn n p (by omega) hp).2 hv
  exact ⟨S, fun x hx g => (h1 x hx g).1, h2, h3⟩
theorem mnOK_0 {o : Nat → Bool} {P : Nat → Nat → Int32} {n p : Nat} {st : Bool} : mnOK o P n p 0 st (-6) := Or.inl ⟨rfl, fun k hk => by omega⟩
theorem mnOK_n {o : Nat → Bool} {P : Nat → Nat → Int32} {n p K : Nat} {st : Bool} {x : Int32} (h : mnOK o P n p K st x) (hs : ¬ sd o (scK (bare o P n) K) P n p = st) : mnOK o P n p (K + 1) st x := by
  rcases h with ⟨h1, h2⟩ | ⟨c, hc, h1, ⟨k, hk, h2, h3⟩, h4⟩
  · refine Or.inl ⟨h1, fun k hk => ?_⟩
    by_cases e : k = K
    · rw [e]; exact hs
    · exact h2 k (by omega)
  · refine Or.inr ⟨c, hc, h1, ⟨k, by omega, h2, h3⟩, fun j hj e => ?_⟩
    by_cases g : j = K
    · rw [g] at e; exact absurd e hs
    · exact h4 j (by omega) e
theorem mnOK_y {o : Nat → Bool} {P : Nat → Nat → Int32} {n p K : Nat} {st : Bool} {x : Int32} (hn : n ≤ 24) (h : mnOK o P n p K st x) (hs : sd o (scK (bare o P n) K) P n p = st) : mnOK o P n p (K + 1) st (if x < 0 ∨ nI (cnt (scK (bare o P n) K) n) < x then nI (cnt (scK (bare o P n) K) n) else x) := by
  have hc0 := cnt_le (scK (bare o P n) K) n
  rcases h with ⟨h1, h2⟩ | ⟨c, hc, h1, ⟨k, hk, h2, h3⟩, h4⟩
  · rw [if_pos (Or.inl (by rw [h1]; decide))]
    refine Or.inr ⟨_, by omega, rfl, ⟨K, by omega, hs, rfl⟩, fun j hj e => ?_⟩
    by_cases g : j = K
    · rw [g]; exact Nat.le_refl _
    · exact absurd e (h2 j (by omega))
  · by_cases g : cnt (scK (bare o P n) K) n < c
    · rw [if_pos (Or.inr (by rw [h1]; exact nI_lt g (by omega)))]
      refine Or.inr ⟨_, by omega, rfl, ⟨K, by omega, hs, rfl⟩, fun j hj e => ?_⟩
      by_cases g2 : j = K
      · rw [g2]; exact Nat.le_refl _
      · have := h4 j (by omega) e; omega
    · rw [if_neg (fun z => z.elim (fun z => by rw [h1] at z; exact nI_pos (by omega) z) (fun z => by rw [h1] at z; exact nI_nlt (by omega) (by omega) z))]
      refine Or.inr ⟨c, hc, h1, ⟨k, by omega, h2, h3⟩, fun j hj e => ?_⟩
      by_cases g2 : j = K
      · rw [g2]; omega
      · exact h4 j (by omega) e
