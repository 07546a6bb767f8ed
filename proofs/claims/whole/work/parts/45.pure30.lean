theorem wS1_1 {o na : Nat → Bool} {i : Nat} {q : (Nat → Int32) × (Nat → Int32)} : (wS1 o na i q).1 = if o i = true then upd q.1 i 0 else if na i = true then upd q.1 i 1 else q.1 := rfl
theorem wS1_2 {o na : Nat → Bool} {i : Nat} {q : (Nat → Int32) × (Nat → Int32)} : (wS1 o na i q).2 = if o i = true then upd q.2 i 1000 else q.2 := rfl
theorem imin_nI {a b : Nat} (ha : a < 2 ^ 31) (hb : b < 2 ^ 31) : imin (nI a) (nI b) = nI (min a b) := by
  unfold imin
  by_cases g : b < a
  · rw [if_pos (nI_lt g ha), Nat.min_eq_right (by omega)]
  · rw [if_neg (nI_nlt (by omega) hb), Nat.min_eq_left (by omega)]
def wInv (P : Nat → Nat → Int32) (n : Nat) (F S : Nat → Nat) (p : Nat) (q : (Nat → Int32) × (Nat → Int32)) : Prop := ∀ j, j < n → if n - p ≤ j then q.1 j = nI (F j) ∧ q.2 j = nI (S j) else q.1 j = nI (mnD S P (nI j) n p) ∧ q.2 j = nI (smD F P (nI j) n p)
theorem wInv_s {P : Nat → Nat → Int32} {o : Nat → Bool} {n p : Nat} {F S : Nat → Nat} {q : (Nat → Int32) × (Nat → Int32)} (hn : n ≤ 24) (hw : WF P n) (hFS : ∀ i, i < n → F i = fsV o P n i S ∧ S i = fsW o P n i F ∧ F i ≤ 1000 ∧ S i ≤ 1000) (hp : p < n) (h : wInv P n F S p q) : wInv P n F S (p + 1) (wStep P o (naP P n) (n - (p + 1)) q) := by
  have hi : n - (p + 1) < n := by omega
  generalize hie : n - (p + 1) = i at hi
  have hgt : ∀ t a, a < n → P a 3 = nI t → t < n → t < a := by
    intro t a ha e ht
    rcases (hw a ha).2.1 with g | ⟨u, hu, g⟩
    · rw [g] at e
      exact absurd e.symm (nI_ne6 (by omega))
    · rw [g] at e
      have := (nI_eq (by omega) (by omega)).mp e
      omega
  obtain ⟨hF, hS, hFl, hSl⟩ := hFS i hi
  have hin : n - (i + 1) = p := by omega
  have hqi := h i hi
  rw [if_neg (by omega)] at hqi
  have hm := mn_top (S := S) (P := P) (t := nI i) hi (fun a ha e => hgt i a ha e hi)
  have hs := sm_top (F := F) (P := P) (t := nI i) hi (fun a ha e => hgt i a ha e hi)
  rw [hin] at hm hs
  have hv1 : (wS1 o (naP P n) i q).1 i = nI (F i) := by
    rw [wS1_1]
    rw [hF]
    unfold fsV
    by_cases c : o i = true
    · rw [if_pos c, if_pos c]; exact upd_s
    · rw [if_neg c, if_neg c]
      by_cases g : naP P n i = true
      · rw [if_pos g, if_pos g]; exact upd_s
      · rw [if_neg g, if_neg g, ← hm]; exact hqi.1
  have hv2 : (wS1 o (naP P n) i q).2 i = nI (S i) := by
    rw [wS1_2]
    rw [hS]
    unfold fsW
    by_cases c : o i = true
    · rw [if_pos c, if_pos c]; exact upd_s
    · rw [if_neg c, if_neg c, ← hs]; exact hqi.2
  have hu1 : ∀ j, j ≠ i → (wS1 o (naP P n) i q).1 j = q.1 j := by
    intro j hj
    rw [wS1_1]
    by_cases c : o i = true
    · rw [if_pos c]; exact upd_n hj
    · rw [if_neg c]
      by_cases g : naP P n i = true
      · rw [if_pos g]; exact upd_n hj
      · rw [if_neg g]
  have hu2 : ∀ j, j ≠ i → (wS1 o (naP P n) i q).2 j = q.2 j := by
    intro j hj
    rw [wS1_2]
    by_cases c : o i = true
    · rw [if_pos c]; exact upd_n hj
    · rw [if_neg c]
  intro j hj
  unfold wStep
  rw [hv1, hv2]
  unfold att
  rcases (hw i hi).2.1 with g | ⟨t, ht, g⟩
  · rw [if_pos g, hie]
    by_cases c : i ≤ j
    · rw [if_pos c]
      by_cases e : j = i
      · subst e; exact ⟨hv1, hv2⟩
      · have := h j hj
        rw [if_pos (by omega)] at this
        rw [hu1 j e, hu2 j e]
        exact this
    · rw [if_neg c, hu1 j (by omega), hu2 j (by omega)]
      have := h j hj
      rw [if_neg (by omega)] at this
      rw [mnD, smD, hie, if_neg (by rw [g]; exact fun e => nI_ne6 (by omega) e.symm), if_neg (by rw [g]; exact fun e => nI_ne6 (by omega) e.symm)]
      exact this
  · have g6 : ¬ P i 3 = -6 := by rw [g]; exact nI_ne6 (by omega)
    rw [if_neg g6, g, nI_clamp (by omega), hie]
    have hqt := h t (by omega)
    rw [if_neg (by omega)] at hqt
    by_cases c : i ≤ j
    · rw [if_pos c]
      have hjt : j ≠ t := by omega
      show upd (wS1 o (naP P n) i q).1 t _ j = _ ∧ upd (wS1 o (naP P n) i q).2 t _ j = _
      rw [upd_n hjt, upd_n hjt]
      by_cases e : j = i
      · subst e; exact ⟨hv1, hv2⟩
      · have := h j hj
        rw [if_pos (by omega)] at this
        rw [hu1 j e, hu2 j e]
        exact this
    · rw [if_neg c]
      show upd (wS1 o (naP P n) i q).1 t _ j = _ ∧ upd (wS1 o (naP P n) i q).2 t _ j = _
      by_cases e : j = t
      · subst e
        have b1 := mnD_le (S := S) (P := P) (t := nI j) (n := n) p
        have b2 := smD_le (F := F) (P := P) (t := nI j) (n := n) p
        rw [upd_s, upd_s, hu1 j (by omega), hu2 j (by omega), hqt.1, hqt.2, mnD, smD, hie, if_pos g, if_pos g, nI_add, imin_nI (by omega) (by omega)]
        exact ⟨rfl, imin_nI (a := 1000) (by decide) (by omega)⟩
      · rw [upd_n e, upd_n e, hu1 j (by omega), hu2 j (by omega)]
        have hne : ¬ P i 3 = nI j := by
          rw [g]
          exact fun z => e ((nI_eq (by omega) (by omega)).mp z).symm
        have := h j hj
        rw [if_neg (by omega)] at this
        rw [mnD, smD, hie, if_neg hne, if_neg hne]
        exact this
theorem wAll_i {P : Nat → Nat → Int32} {o : Nat → Bool} {n : Nat} {F S : Nat → Nat} {q0 : (Nat → Int32) × (Nat → Int32)} (hn : n ≤ 24) (hw : WF P n) (hFS : ∀ i, i < n → F i = fsV o P n i S ∧ S i = fsW o P n i F ∧ F i ≤ 1000 ∧ S i ≤ 1000) (h0 : wInv P n F S 0 q0) : ∀ k, k ≤ 24 → wInv P n F S (k + n - 24) (wAll P o (naP P n) n q0 k) := by
  intro k
  induction k with
  | zero => intro _; rw [show 0 + n - 24 = 0 by omega]; exact h0
  | succ k ih =>
    intro hk
    have ihk := ih (by omega)
    rw [wAll]
    by_cases c : 23 - k < n
    · rw [if_pos c]
      have := wInv_s hn hw hFS (show k + n - 24 < n by omega) ihk
      rw [show n - (k + n - 24 + 1) = 23 - k by omega, show k + n - 24 + 1 = k + 1 + n - 24 by omega] at this
      exact this
    · rw [if_neg c, show k + 1 + n - 24 = k + n - 24 by omega]
      exact ihk
theorem e_cost {M : Mm} {n i : Nat} (h : Vb M 1 (M.1 271) n) (hi : i < n) : (wAll (cp M 1) (bOut M 1) (naP (cp M 1) n) n (wI M 24) 24).1 i = (lcS M n n).2 i ∧ (wAll (cp M 1) (bOut M 1) (naP (cp M 1) n) n (wI M 24) 24).2 i = (lcS M n n).1 i ∧ ∃ f s, f ≤ 1000 ∧ s ≤ 1000 ∧ (lcS M n n).2 i = nI f ∧ (lcS M n n).1 i = nI s := by
  have hn := h.2.2.1
  have hl := lc_fs (M := M) (o := bOut M 1) hn (fun a ha => lk_o h ha) n (Nat.le_refl n) i (by omega) hi
  have hA := h.2.2.2.1
  have hna : ∀ a, naP (cp M 1) n a = naP (rp (M.1 271)) n a := by
    intro a
    unfold naP
    congr 1
    rw [Bool.eq_iff_iff, List.any_eq_true, List.any_eq_true]
    constructor
    · rintro ⟨b, hb, hc⟩
      exact ⟨b, hb, by rw [← hA b (List.mem_range.mp hb) 3 (by decide)]; exact hc⟩
    · rintro ⟨b, hb, hc⟩
      exact ⟨b, hb, by rw [hA b (List.mem_range.mp hb) 3 (by decide)]; exact hc⟩
  have mc : ∀ (S : Nat → Nat) t j, ∀ a, a ≤ n → mnA S (rp (M.1 271)) t j a = mnA S (cp M 1) t j a := by
    intro S t j a
    induction a with
    | zero => intro _; rfl
    | succ a ih => intro ha; rw [mnA, mnA, ih (by omega), hA a (by omega) 3 (by decide)]
  have sc : ∀ (S : Nat → Nat) t j, ∀ a, a ≤ n → smA S (rp (M.1 271)) t j a = smA S (cp M 1) t j a := by
    intro S t j a
    induction a with
    | zero => intro _; rfl
    | succ a ih => intro ha; rw [smA, smA, ih (by omega), hA a (by omega) 3 (by decide)]
  have hFS : ∀ j, j < n → (fsT (bOut M 1) (rp (M.1 271)) n n).1 j = fsV (bOut M 1) (cp M 1) n j (fsT (bOut M 1) (rp (M.1 271)) n n).2 ∧ (fsT (bOut M 1) (rp (M.1 271)) n n).2 j = fsW (bOut M 1) (cp M 1) n j (fsT (bOut M 1) (rp (M.1 271)) n n).1 ∧ (fsT (bOut M 1) (rp (M.1 271)) n n).1 j ≤ 1000 ∧ (fsT (bOut M 1) (rp (M.1 271)) n n).2 j ≤ 1000 := by
    intro j hj
    have e := fsE (o := bOut M 1) (P := rp (M.1 271)) hj
    refine ⟨?_, ?_, (fsT_le n j).1, (fsT_le n j).2⟩
    · rw [e.1]
      unfold fsV
      rw [hna, mc _ _ _ n (Nat.le_refl n)]
    · rw [e.2]
      unfold fsW
      rw [sc _ _ _ n (Nat.le_refl n)]
  have h0 : wInv (cp M 1) n (fsT (bOut M 1) (rp (M.1 271)) n n).1 (fsT (bOut M 1) (rp (M.1 271)) n n).2 0 (wI M 24) := by
    intro j hj
    rw [if_neg (by omega)]
    unfold wI
    exact ⟨if_pos (by omega), if_pos (by omega)⟩
  have hf := wAll_i hn h.2.2.2.2.2.2.2.2 hFS h0 24 (Nat.le_refl 24) i hi
  rw [if_pos (by omega)] at hf
  exact ⟨hf.1.trans hl.1.symm, hf.2.trans hl.2.symm, _, _, (fsT_le n i).1, (fsT_le n i).2, hl.1, hl.2⟩
