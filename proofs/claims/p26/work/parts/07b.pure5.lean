abbrev Tq : Type := Int32 × Nat × (Nat → Int32)
def RdOK (M : Mm) (s : Nat → Int32) (l : Nat) : Prop := M.1 31 = s ∧ M.1 30 1 = nI l ∧ l ≤ 80 ∧ isCh M l
theorem RdOK.row {M : Mm} {s q : Nat → Int32} {l : Nat} (h : RdOK M s l) : RdOK (mrow M 32 q) s l := by
  obtain ⟨h1, h2, h3, h4⟩ := h
  exact ⟨by rw [mrow_n (by decide)]; exact h1, by rw [mrow_n (by decide)]; exact h2, h3, fun j hj => by rw [mrow_n (by decide)]; exact h4 j hj⟩
def td (s : Nat → Int32) (l : Nat) (lo hi : Int32) (a : Nat) (q : Nat → Int32) : Tq := if chA s l a < lo ∨ ¬ chA s l a ≤ hi then (0, a, q) else (1, a + 1, upd (upd q 1 (chA s l a - 48)) 0 (nI (a + 1)))
def tkc (s : Nat → Int32) (l : Nat) (c : Int32) (a : Nat) (q : Nat → Int32) : Tq := if chA s l a = c then (1, a + 1, upd q 0 (nI (a + 1))) else (0, a, q)
def rdg (s : Nat → Int32) (l : Nat) (lo hi : Int32) (a : Nat) (q : Nat → Int32) : Tq := if (td s l lo hi a q).1 = 0 then (0, (td s l lo hi a q).2) else (1, (td s l lo hi a q).2.1, upd (td s l lo hi a q).2.2 3 ((td s l lo hi a q).2.2 1))
def rnm2 (s : Nat → Int32) (l : Nat) (t : Tq) : Tq := if (td s l 48 57 t.2.1 t.2.2).1 = 0 then (1, (td s l 48 57 t.2.1 t.2.2).2) else (1, (td s l 48 57 t.2.1 t.2.2).2.1, upd (td s l 48 57 t.2.1 t.2.2).2.2 3 (10 * (td s l 48 57 t.2.1 t.2.2).2.2 3 + (td s l 48 57 t.2.1 t.2.2).2.2 1))
def rnm (s : Nat → Int32) (l : Nat) (a : Nat) (q : Nat → Int32) : Tq := if (rdg s l 48 57 a q).1 = 0 then (0, (rdg s l 48 57 a q).2) else if (rdg s l 48 57 a q).2.2 3 ≤ 0 then (1, (rdg s l 48 57 a q).2) else rnm2 s l (rdg s l 48 57 a q)
def rcl (s : Nat → Int32) (l : Nat) : Nat → Nat → (Nat → Int32) → Nat × (Nat → Int32)
  | 0, a, q => (a, q)
  | f + 1, a, q => if (td s l 48 57 a q).1 = 0 then (td s l 48 57 a q).2 else rcl s l f (td s l 48 57 a q).2.1 (upd (td s l 48 57 a q).2.2 5 ((td s l 48 57 a q).2.2 5 ||| ((1 : Int32) <<< ((td s l 48 57 a q).2.2 1 &&& 31))))
def rcs (s : Nat → Int32) (l : Nat) (a : Nat) (q : Nat → Int32) : Tq := if (tkc s l 43 a (upd q 5 0)).1 = 0 then (1, (tkc s l 43 a (upd q 5 0)).2) else (if (rcl s l 80 (tkc s l 43 a (upd q 5 0)).2.1 (tkc s l 43 a (upd q 5 0)).2.2).2 5 = 0 then 0 else 1, rcl s l 80 (tkc s l 43 a (upd q 5 0)).2.1 (tkc s l 43 a (upd q 5 0)).2.2)
def rpp (s : Nat → Int32) (l : Nat) (a : Nat) (q : Nat → Int32) : Tq := if (tkc s l 47 a q).1 = 0 then (0, (tkc s l 47 a q).2) else if (td s l 49 57 (tkc s l 47 a q).2.1 (tkc s l 47 a q).2.2).1 = 0 then (0, (td s l 49 57 (tkc s l 47 a q).2.1 (tkc s l 47 a q).2.2).2) else rcs s l (td s l 49 57 (tkc s l 47 a q).2.1 (tkc s l 47 a q).2.2).2.1 (upd (td s l 49 57 (tkc s l 47 a q).2.1 (tkc s l 47 a q).2.2).2.2 4 ((td s l 49 57 (tkc s l 47 a q).2.1 (tkc s l 47 a q).2.2).2.2 1))
def thn (t u : Tq) : Tq := if t.1 = 0 then (0, t.2) else (if u.1 = 0 then 0 else 1, u.2)
def ror (s : Nat → Int32) (l : Nat) (a : Nat) (q : Nat → Int32) : Tq :=
  if chA s l a = 99 then thn (rdg s l 48 49 (a + 1) (upd (upd q 2 (chA s l a)) 0 (nI (a + 1)))) (rpp s l (rdg s l 48 49 (a + 1) (upd (upd q 2 (chA s l a)) 0 (nI (a + 1)))).2.1 (rdg s l 48 49 (a + 1) (upd (upd q 2 (chA s l a)) 0 (nI (a + 1)))).2.2)
  else if chA s l a = 97 then thn (rnm s l (a + 1) (upd (upd q 2 (chA s l a)) 0 (nI (a + 1)))) (rpp s l (rnm s l (a + 1) (upd (upd q 2 (chA s l a)) 0 (nI (a + 1)))).2.1 (rnm s l (a + 1) (upd (upd q 2 (chA s l a)) 0 (nI (a + 1)))).2.2)
  else if chA s l a = 119 ∨ chA s l a = 114 ∨ chA s l a = 116 then rnm s l (a + 1) (upd (upd q 2 (chA s l a)) 0 (nI (a + 1)))
  else if chA s l a = 111 then rdg s l 48 57 (a + 1) (upd (upd q 2 (chA s l a)) 0 (nI (a + 1)))
  else (0, a, upd q 2 (chA s l a))
def ffl (s : Nat → Int32) (l : Nat) : Nat → Nat → (Nat → Int32) → Int32 × (Nat → Int32)
  | 0, a, q => (nI a, q)
  | f + 1, a, q => if (ror s l a q).1 = 0 then (nI (ror s l a q).2.1, (ror s l a q).2.2) else if ¬ nI (ror s l a q).2.1 < nI l then (-6, (ror s l a q).2.2) else if (tkc s l 59 (ror s l a q).2.1 (ror s l a q).2.2).1 = 0 then (nI (tkc s l 59 (ror s l a q).2.1 (ror s l a q).2.2).2.1, (tkc s l 59 (ror s l a q).2.1 (ror s l a q).2.2).2.2) else ffl s l f (tkc s l 59 (ror s l a q).2.1 (ror s l a q).2.2).2.1 (tkc s l 59 (ror s l a q).2.1 (ror s l a q).2.2).2.2
theorem ord7 (c : Int32) : c = 99 ∨ c = 97 ∨ c = 119 ∨ c = 114 ∨ c = 116 ∨ c = 111 ∨ (¬ c = 99 ∧ ¬ c = 97 ∧ ¬ c = 119 ∧ ¬ c = 114 ∧ ¬ c = 116 ∧ ¬ c = 111) := by
  by_cases h1 : c = 99
  · exact Or.inl h1
  by_cases h2 : c = 97
  · exact Or.inr (Or.inl h2)
  by_cases h3 : c = 119
  · exact Or.inr (Or.inr (Or.inl h3))
  by_cases h4 : c = 114
  · exact Or.inr (Or.inr (Or.inr (Or.inl h4)))
  by_cases h5 : c = 116
  · exact Or.inr (Or.inr (Or.inr (Or.inr (Or.inl h5))))
  by_cases h6 : c = 111
  · exact Or.inr (Or.inr (Or.inr (Or.inr (Or.inr (Or.inl h6)))))
  · exact Or.inr (Or.inr (Or.inr (Or.inr (Or.inr (Or.inr ⟨h1, h2, h3, h4, h5, h6⟩)))))
def okT (l : Nat) (t : Tq) : Prop := t.2.2 0 = nI t.2.1 ∧ t.2.1 ≤ l
theorem chA_lt {s : Nat → Int32} {l a : Nat} (h : ¬ chA s l a = 0) : a < l := by
  unfold chA at h
  by_cases g : a < l
  · exact g
  · rw [if_neg g] at h; exact absurd rfl h
theorem okT_u {l a : Nat} {r : Int32} {q : Nat → Int32} (h : a ≤ l) : okT l (r, a, upd q 0 (nI a)) := ⟨(upd_s : upd q 0 (nI a) 0 = nI a), h⟩
theorem okT_n {l a j : Nat} {r v : Int32} {q : Nat → Int32} (hj : (0 : Nat) ≠ j) (h0 : q 0 = nI a) (h : a ≤ l) : okT l (r, a, upd q j v) := ⟨((upd_n hj).trans h0 : upd q j v 0 = nI a), h⟩
theorem td_ok {s : Nat → Int32} {l a : Nat} {lo hi : Int32} {q : Nat → Int32} (hlo : (0 : Int32) < lo) (h0 : q 0 = nI a) (ha : a ≤ l) : okT l (td s l lo hi a q) := by
  unfold td
  by_cases g : chA s l a < lo ∨ ¬ chA s l a ≤ hi
  · rw [if_pos g]; exact ⟨h0, ha⟩
  · rw [if_neg g]
    have : a < l := chA_lt (s := s) (fun e => g (Or.inl (by rw [e]; exact hlo)))
    exact okT_u (by omega)
theorem tkc_ok {s : Nat → Int32} {l a : Nat} {c : Int32} {q : Nat → Int32} (hc : ¬ c = 0) (h0 : q 0 = nI a) (ha : a ≤ l) : okT l (tkc s l c a q) := by
  unfold tkc
  by_cases g : chA s l a = c
  · rw [if_pos g]
    have : a < l := chA_lt (s := s) (fun e => hc (by rw [← g, e]))
    exact okT_u (by omega)
  · rw [if_neg g]; exact ⟨h0, ha⟩
theorem rdg_ok {s : Nat → Int32} {l a : Nat} {lo hi : Int32} {q : Nat → Int32} (hlo : (0 : Int32) < lo) (h0 : q 0 = nI a) (ha : a ≤ l) : okT l (rdg s l lo hi a q) := by
  have h := td_ok (s := s) (hi := hi) hlo h0 ha
  unfold rdg
  by_cases g : (td s l lo hi a q).1 = 0
  · rw [if_pos g]; exact h
  · rw [if_neg g]; exact okT_n (by decide) h.1 h.2
theorem rnm_ok {s : Nat → Int32} {l a : Nat} {q : Nat → Int32} (h0 : q 0 = nI a) (ha : a ≤ l) : okT l (rnm s l a q) := by
  have h := rdg_ok (s := s) (lo := 48) (hi := 57) (by decide) h0 ha
  have h2 := td_ok (s := s) (lo := 48) (hi := 57) (by decide) h.1 h.2
  unfold rnm
  by_cases g : (rdg s l 48 57 a q).1 = 0
  · rw [if_pos g]; exact h
  · rw [if_neg g]
    by_cases g2 : (rdg s l 48 57 a q).2.2 3 ≤ 0
    · rw [if_pos g2]; exact h
    · rw [if_neg g2]
      unfold rnm2
      by_cases g3 : (td s l 48 57 (rdg s l 48 57 a q).2.1 (rdg s l 48 57 a q).2.2).1 = 0
      · rw [if_pos g3]; exact h2
      · rw [if_neg g3]; exact okT_n (by decide) h2.1 h2.2
theorem rcl_ok {s : Nat → Int32} {l : Nat} : ∀ (f a : Nat) (q : Nat → Int32), q 0 = nI a → a ≤ l → (rcl s l f a q).2 0 = nI (rcl s l f a q).1 ∧ (rcl s l f a q).1 ≤ l := by
  intro f
  induction f with
  | zero => intro a q h0 ha; exact ⟨h0, ha⟩
  | succ f ih =>
    intro a q h0 ha
    have h := td_ok (s := s) (lo := 48) (hi := 57) (by decide) h0 ha
    rw [rcl]
    by_cases g : (td s l 48 57 a q).1 = 0
    · rw [if_pos g]; exact h
    · rw [if_neg g]; exact ih _ _ (by rw [upd_n (by decide)]; exact h.1) h.2
theorem rcs_ok {s : Nat → Int32} {l a : Nat} {q : Nat → Int32} (h0 : q 0 = nI a) (ha : a ≤ l) : okT l (rcs s l a q) := by
  have h := tkc_ok (s := s) (c := 43) (q := upd q 5 0) (by decide) (by rw [upd_n (by decide)]; exact h0) ha
  unfold rcs
  by_cases g : (tkc s l 43 a (upd q 5 0)).1 = 0
  · rw [if_pos g]; exact h
  · rw [if_neg g]; exact rcl_ok 80 _ _ h.1 h.2
theorem rpp_ok {s : Nat → Int32} {l a : Nat} {q : Nat → Int32} (h0 : q 0 = nI a) (ha : a ≤ l) : okT l (rpp s l a q) := by
  have h := tkc_ok (s := s) (c := 47) (by decide) h0 ha
  have h2 := td_ok (s := s) (lo := 49) (hi := 57) (by decide) h.1 h.2
  unfold rpp
  by_cases g : (tkc s l 47 a q).1 = 0
  · rw [if_pos g]; exact h
  · rw [if_neg g]
    by_cases g2 : (td s l 49 57 (tkc s l 47 a q).2.1 (tkc s l 47 a q).2.2).1 = 0
    · rw [if_pos g2]; exact h2
    · rw [if_neg g2]; exact rcs_ok (by rw [upd_n (by decide)]; exact h2.1) h2.2
theorem thn_ok {l : Nat} {t u : Tq} (h : okT l t) (h2 : okT l u) : okT l (thn t u) := by
  unfold thn
  by_cases g : t.1 = 0
  · rw [if_pos g]; exact h
  · rw [if_neg g]; exact h2
theorem ror_ok {s : Nat → Int32} {l a : Nat} {q : Nat → Int32} (h0 : q 0 = nI a) (ha : a ≤ l) : okT l (ror s l a q) := by
  have hu : (upd (upd q 2 (chA s l a)) 0 (nI (a + 1))) 0 = nI (a + 1) := upd_s
  have hz : ∀ c : Int32, ¬ c = 0 → chA s l a = c → a + 1 ≤ l := fun c hc e => by
    have : a < l := chA_lt (s := s) (by rw [e]; exact hc)
    omega
  unfold ror
  by_cases g1 : chA s l a = 99
  · rw [if_pos g1]
    have h := rdg_ok (s := s) (lo := 48) (hi := 49) (by decide) hu (hz _ (by decide) g1)
    exact thn_ok h (rpp_ok h.1 h.2)
  rw [if_neg g1]
  by_cases g2 : chA s l a = 97
  · rw [if_pos g2]
    have h := rnm_ok (s := s) hu (hz _ (by decide) g2)
    exact thn_ok h (rpp_ok h.1 h.2)
  rw [if_neg g2]
  by_cases g3 : chA s l a = 119 ∨ chA s l a = 114 ∨ chA s l a = 116
  · rw [if_pos g3]
    refine rnm_ok hu ?_
    rcases g3 with g | g | g
    · exact hz _ (by decide) g
    · exact hz _ (by decide) g
    · exact hz _ (by decide) g
  rw [if_neg g3]
  by_cases g4 : chA s l a = 111
  · rw [if_pos g4]
    exact rdg_ok (by decide) hu (hz _ (by decide) g4)
  rw [if_neg g4]
  exact okT_n (by decide) h0 ha
theorem chA_c {M : Mm} {s : Nat → Int32} {l a : Nat} (h : RdOK M s l) : narrow .char (.int (chA s l a)) = .int (chA s l a) ∧ fits .char (.int (chA s l a)) = true := by
  unfold chA
  by_cases g : a < l
  · rw [if_pos g, ← h.1]; exact h.2.2.2 a g
  · rw [if_neg g]; exact ⟨rfl, rfl⟩
theorem dz_val {x : Int32} (h : x = 0 ∨ x = 1) : narrow .boolean (.int x) = .int x := nar_b h
theorem td_01 {s : Nat → Int32} {l a : Nat} {lo hi : Int32} {q : Nat → Int32} : (td s l lo hi a q).1 = 0 ∨ (td s l lo hi a q).1 = 1 := by unfold td; split; exact Or.inl rfl; exact Or.inr rfl
theorem rdg_01 {s : Nat → Int32} {l a : Nat} {lo hi : Int32} {q : Nat → Int32} : (rdg s l lo hi a q).1 = 0 ∨ (rdg s l lo hi a q).1 = 1 := by unfold rdg; split; exact Or.inl rfl; exact Or.inr rfl
theorem rnm_01 {s : Nat → Int32} {l a : Nat} {q : Nat → Int32} : (rnm s l a q).1 = 0 ∨ (rnm s l a q).1 = 1 := by
  unfold rnm
  split
  · exact Or.inl rfl
  split
  · exact Or.inr rfl
  unfold rnm2
  split
  · exact Or.inr rfl
  · exact Or.inr rfl
theorem rcs_01 {s : Nat → Int32} {l a : Nat} {q : Nat → Int32} : (rcs s l a q).1 = 0 ∨ (rcs s l a q).1 = 1 := by
  unfold rcs
  split
  · exact Or.inr rfl
  · show (if _ then (0 : Int32) else 1) = 0 ∨ (if _ then (0 : Int32) else 1) = 1
    split
    · exact Or.inl rfl
    · exact Or.inr rfl
theorem rpp_01 {s : Nat → Int32} {l a : Nat} {q : Nat → Int32} : (rpp s l a q).1 = 0 ∨ (rpp s l a q).1 = 1 := by
  unfold rpp
  split
  · exact Or.inl rfl
  split
  · exact Or.inl rfl
  · exact rcs_01
