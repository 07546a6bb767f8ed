def qM (M : Mm) (T V : Nat → Int32) : Mm := mrow (mrow M 278 T) 2 V
theorem qM_o {M : Mm} {T V : Nat → Int32} {k : Nat} (h : k ≠ 278 ∧ k ≠ 2) : (qM M T V).1 k = M.1 k := by unfold qM; rw [mrow_n h.2, mrow_n h.1]
theorem qM_T {M : Mm} {T V : Nat → Int32} : (qM M T V).1 278 = T := by unfold qM; rw [mrow_n (by decide), mrow_s]
theorem qM_V {M : Mm} {T V : Nat → Int32} : (qM M T V).1 2 = V := mrow_s
theorem qM_sT {M : Mm} {T V : Nat → Int32} {x : Nat} {v : Int32} : mset (qM M T V) 278 (0 + x) v = qM M (upd T x v) V := by
  unfold qM
  rw [Nat.zero_add, mrow_comm (by decide), mset_mrow, mrow_comm (by decide)]
theorem qM_put {M : Mm} {T V g : Nat → Int32} {o n : Nat} : mput (qM M T V) 2 o n g = qM M T (fun x => if o ≤ x ∧ x < o + n then g (x - o) else V x) := by
  unfold mput qM
  rw [mrow_mrow, mrow_s]
theorem qM_r2 {M : Mm} {V : Nat → Int32} : qM M (M.1 278) V = mrow M 2 V := by unfold qM; rw [mrow_self]
theorem lpR_r2 {M : Mm} {f : Nat → Int32} {n : Nat} : lpR (mrow M 2 f) n = lpR M n := by
  unfold lpR lpN
  simp only [cp_r2]
theorem ciS_r2 {M : Mm} {f : Nat → Int32} {n d : Nat} : ciS (mrow M 2 f) n d = ciS M n d := by
  unfold ciS ciX
  simp only [cp_r2, mrow_n (show (1 : Nat) ≠ 2 by decide)]
theorem ciF_r2 {M : Mm} {f : Nat → Int32} {n : Nat} : ∀ k d, ciF (mrow M 2 f) n k d = ciF M n k d := by
  intro k
  induction k with
  | zero => intro d; rfl
  | succ k ih => intro d; rw [ciF, ciF, ciS_r2, bS_r2, ih]
theorem sd_cg {o o' q q' : Nat → Bool} {P P' : Nat → Nat → Int32} {n : Nat} (ho : ∀ i, i < n → o i = o' i) (hq : ∀ i, i < n → q i = q' i) (hP : ∀ i, i < n → P i 3 = P' i 3) : ∀ i, i < n → sd o q P n i = sd o' q' P' n i := by
  refine sd_uniq (fun i hi => ?_)
  rw [sd_eq hi, ho i hi, hq i hi]
  congr 2
  unfold anS
  rw [Bool.eq_iff_iff, List.any_eq_true, List.any_eq_true]
  constructor
  · rintro ⟨a, ha, hb⟩
    exact ⟨a, ha, by rw [← hP a (List.mem_range.mp ha)]; exact hb⟩
  · rintro ⟨a, ha, hb⟩
    exact ⟨a, ha, by rw [hP a (List.mem_range.mp ha)]; exact hb⟩
def sdk (M : Mm) (n d : Nat) : Nat → Bool := sd (pOut (cp M 1) (M.1 1 2 + nI d) (M.1 1 4) (M.1 1 5) (M.1 1 3)) (bt 0) (cp M 1) n
theorem ciS_eq {M : Mm} {n d : Nat} (hn : n ≤ 24) : ciS M n d = mk (sdk M n d) n := by
  unfold ciS sdk
  refine mk_congr (sd_cg (fun i hi => ?_) (fun _ _ => rfl) (fun _ _ => rfl))
  unfold ciX pOut
  rw [b_or, b_or, b_or, bt_mk _ (by omega) (by omega), bt_mk _ (by omega) (by omega), bt_mk _ (by omega) (by omega), bt_mk _ (by omega) (by omega), decide_eq_true hi]
  cases pWd (cp M 1) i <;> cases pSk (cp M 1) (M.1 1 5) i <;> cases pLp (cp M 1) (M.1 1 2 + nI d) (M.1 1 4) i <;> cases pBl (cp M 1) (M.1 1 3) i <;> rfl
def fdF (M : Mm) (n : Nat) : Nat → Nat → Int32
  | 0, _ => -6
  | f + 1, k => if mk (sdk M n k) n = mk (bSd M 1 n) n then fdF M n f (k + 1) else nI k
theorem ci_fd {M : Mm} {n : Nat} (hn : n ≤ 24) : ∀ f d, ciF M n f d = fdF M n f d := by
  intro f
  induction f with
  | zero => intro d; rfl
  | succ f ih => intro d; rw [ciF, fdF, ciS_eq hn, ih]
theorem fdF_last {M : Mm} {n : Nat} : ∀ f k, (mk (sdk M n (k + f + 1)) n = mk (bSd M 1 n) n ↔ mk (sdk M n (k + f)) n = mk (bSd M 1 n) n) → fdF M n (f + 2) k = fdF M n (f + 1) k := by
  intro f
  induction f with
  | zero =>
    intro k h
    show (if mk (sdk M n k) n = mk (bSd M 1 n) n then (if mk (sdk M n (k + 1)) n = mk (bSd M 1 n) n then (-6 : Int32) else nI (k + 1)) else nI k) = if mk (sdk M n k) n = mk (bSd M 1 n) n then (-6 : Int32) else nI k
    by_cases e : mk (sdk M n k) n = mk (bSd M 1 n) n
    · rw [if_pos e, if_pos e, if_pos (h.mpr e)]
    · rw [if_neg e, if_neg e]
  | succ f ih =>
    intro k h
    have h1 := ih (k + 1) (by rw [show k + 1 + f + 1 = k + (f + 1) + 1 by omega, show k + 1 + f = k + (f + 1) by omega]; exact h)
    show (if mk (sdk M n k) n = mk (bSd M 1 n) n then fdF M n (f + 2) (k + 1) else nI k) = if mk (sdk M n k) n = mk (bSd M 1 n) n then fdF M n (f + 1) (k + 1) else nI k
    rw [h1]
def s5d (P : Nat → Nat → Int32) (n dy : Nat) : Prop := ∀ i, i < n → ∃ s, s ≤ dy ∧ P i 5 = nI s
theorem sdk_last {M : Mm} {n la dy : Nat} (h9 : sm9 (cp M 1) n) (h5d : s5d (cp M 1) n dy) (hla : la ≤ 60) (hdy : dy ≤ 999) (h4 : M.1 1 4 = nI la) (h2 : M.1 1 2 = nI dy) : ∀ i, i < n → sdk M n 62 i = sdk M n 61 i := by
  unfold sdk
  refine sd_cg (fun i hi => ?_) (fun _ _ => rfl) (fun _ _ => rfl)
  unfold pOut
  have e : pLp (cp M 1) (M.1 1 2 + nI 62) (M.1 1 4) i = pLp (cp M 1) (M.1 1 2 + nI 61) (M.1 1 4) i := by
    rw [h2, h4, nI_add, nI_add]
    by_cases h3 : cp M 1 i 3 = -6
    · unfold pLp
      simp [h3]
    · obtain ⟨s, hs, e5⟩ := h5d i hi
      rw [lp_eq (fun j hj => h9 j (by omega)) (by omega) hla h3, lp_eq (fun j hj => h9 j (by omega)) (by omega) hla h3, e5, nI_add]
      rw [decide_eq_false (nI_ge (show s + la < dy + 62 by omega) (by omega)), decide_eq_false (nI_ge (show s + la < dy + 61 by omega) (by omega))]
  rw [e]
theorem fd_62 {M : Mm} {n la dy : Nat} (hn : n ≤ 24) (h9 : sm9 (cp M 1) n) (h5d : s5d (cp M 1) n dy) (hla : la ≤ 60) (hdy : dy ≤ 999) (h4 : M.1 1 4 = nI la) (h2 : M.1 1 2 = nI dy) : ciF M n 61 1 = fdF M n 62 1 := by
  rw [ci_fd hn]
  exact (fdF_last 60 1 (by rw [mk_congr (sdk_last h9 h5d hla hdy h4 h2)])).symm
def bI (b : Bool) : Int32 := if b = true then 1 else 0
theorem bI_0 {b : Bool} : bI b = 0 ↔ b = false := by cases b <;> decide
theorem bI_eq {a b : Bool} : bI a = bI b ↔ a = b := by cases a <;> cases b <;> decide
def oth (M : Mm) (n k p : Nat) : Bool := (List.range p).any (fun i => sdk M n k i != bSd M 1 n i)
theorem oth_s {M : Mm} {n k p : Nat} : oth M n k (p + 1) = (oth M n k p || (sdk M n k p != bSd M 1 n p)) := by
  unfold oth
  rw [List.range_succ, List.any_append]
  simp
theorem oth_n {M : Mm} {n k : Nat} (hn : n ≤ 24) : oth M n k n = false ↔ mk (sdk M n k) n = mk (bSd M 1 n) n := by
  rw [mk_eq_iff (by omega)]
  unfold oth
  constructor
  · intro h i hi
    have h1 := List.any_eq_false.mp h i (List.mem_range.mpr hi)
    revert h1
    cases sdk M n k i <;> cases bSd M 1 n i <;> simp
  · intro h
    refine List.any_eq_false.mpr (fun i hi => ?_)
    rw [h i (List.mem_range.mp hi)]
    simp
theorem fd_s {M : Mm} {n m : Nat} (hn : n ≤ 24) (hm : m < 62) : fdF M n (62 - m) (m + 1) = if oth M n (m + 1) n = true then nI (m + 1) else fdF M n (62 - (m + 1)) (m + 2) := by
  rw [show 62 - m = (62 - (m + 1)) + 1 by omega, fdF]
  by_cases h : mk (sdk M n (m + 1)) n = mk (bSd M 1 n) n
  · rw [if_pos h, if_neg (by rw [(oth_n hn).mpr h]; decide)]
  · rw [if_neg h, if_pos (by cases ho : oth M n (m + 1) n; exact absurd ((oth_n hn).mp ho) h; rfl)]
theorem rzW_2 {P : Nat → Nat → Int32} {d la pg ov more : Int32} {n i : Nat} (hw : WF P n) (hi : i < n) : rzW P d la pg ov more n i = 2 ↔ pSk P pg i = true := by
  have h6 := (hw i hi).2.2
  have hs : pSk P pg i = true → pWd P i = false := by
    intro h
    unfold pSk stK at h
    unfold pWd
    simp only [Bool.and_eq_true, beq_iff_eq] at h
    rw [h.1.2]; rfl
  unfold rzW rz1
  revert hs
  generalize sd (pOut P d la pg ov) (bt more) P n i = b
  cases pWd P i <;> cases pSk P pg i <;> cases pLp P d la i <;> cases pBl P ov i <;> cases b <;> simp (decide := true)
def pgN (P : Nat → Nat → Int32) (i : Nat) : Nat := (P i 1).toNatClampNeg
theorem pgN_e {P : Nat → Nat → Int32} {n i : Nat} (h9 : sm9 P n) (hi : i < n) : P i 1 = nI (pgN P i) ∧ pgN P i ≤ 9 := by
  obtain ⟨_, _, g, h1, h2, e⟩ := h9 i hi
  unfold pgN
  rw [e, nI_clamp (by omega)]
  exact ⟨rfl, h2⟩
def smN (P : Nat → Nat → Int32) (s : Int32) : Nat → Nat
  | 0 => 0
  | k + 1 => if P k 0 = s ∧ P k 6 = 0 then smN P s k + pgN P k else smN P s k
def tkN (P : Nat → Nat → Int32) (g : Nat) (s : Int32) : Nat → Nat
  | 0 => 0
  | k + 1 => if P k 0 = s ∧ P k 6 = 0 then (if tkN P g s k + pgN P k ≤ g then tkN P g s k + pgN P k else tkN P g s k) else tkN P g s k
theorem smN_le {P : Nat → Nat → Int32} {n : Nat} {s : Int32} (h9 : sm9 P n) : ∀ k, k ≤ n → smN P s k ≤ 9 * k := by
  intro k
  induction k with
  | zero => intro _; exact Nat.le_refl _
  | succ k ih =>
    intro hk
    have := ih (by omega)
    have := (pgN_e h9 (show k < n by omega)).2
    rw [smN]
    split <;> omega
theorem tkN_le {P : Nat → Nat → Int32} {g : Nat} {s : Int32} : ∀ k, tkN P g s k ≤ g ∧ tkN P g s k ≤ smN P s k := by
  intro k
  induction k with
  | zero => exact ⟨Nat.zero_le _, Nat.le_refl _⟩
  | succ k ih =>
    rw [tkN, smN]
    split
    · split <;> omega
    · exact ih
theorem smN_mono {P : Nat → Nat → Int32} {s : Int32} : ∀ k n, k ≤ n → smN P s k ≤ smN P s n := by
  intro k n
  induction n with
  | zero => intro h; rw [show k = 0 by omega]; exact Nat.le_refl _
  | succ n ih =>
    intro h
    by_cases e : k = n + 1
    · rw [e]; exact Nat.le_refl _
    · have := ih (by omega)
      rw [smN]
      split <;> omega
theorem sm_N {P : Nat → Nat → Int32} {n : Nat} {s : Int32} (h9 : sm9 P n) (hn : n ≤ 24) : ∀ k, k ≤ n → sm P s (mk (pWd P) n) k = nI (smN P s k) := by
  intro k
  induction k with
  | zero => intro _; rfl
  | succ k ih =>
    intro hk
    rw [sm, smN, ih (by omega)]
    have hb : bt (mk (pWd P) n) k = false ↔ P k 6 = 0 := by
      rw [bt_mk _ (by omega) (by omega), decide_eq_true (by omega), Bool.true_and]
      unfold pWd
      simp
    by_cases h : P k 0 = s ∧ P k 6 = 0
    · rw [if_pos h, if_pos ⟨h.1, hb.mpr h.2⟩]
      have e := (pgN_e h9 (show k < n by omega)).1
      rw [← nI_add, ← e]
    · rw [if_neg h, if_neg (fun g => h ⟨g.1, hb.mp g.2⟩)]
theorem tk_N {P : Nat → Nat → Int32} {n g : Nat} {s : Int32} (h9 : sm9 P n) (hg : g ≤ 999) : ∀ k, k ≤ n → tk P (nI g) s k = nI (tkN P g s k) := by
  intro k
  induction k with
  | zero => intro _; rfl
  | succ k ih =>
    intro hk
    have e := pgN_e h9 (show k < n by omega)
    have hl := tkN_le (P := P) (g := g) (s := s) k
    rw [tk, tkN, ih (by omega), e.1, nI_add]
    by_cases h : P k 0 = s ∧ P k 6 = 0
    · rw [if_pos h, if_pos h]
      by_cases h2 : tkN P g s k + pgN P k ≤ g
      · rw [if_pos h2, if_pos (nI_le h2 (by omega))]
      · rw [if_neg h2, if_neg (nI_ge (by omega) (by omega))]
    · rw [if_neg h, if_neg h]
theorem sk_N {P : Nat → Nat → Int32} {n g i : Nat} (h9 : sm9 P n) (hg : g ≤ 999) (hi : i < n) : pSk P (nI g) i = true ↔ (P i 6 = 0 ∧ g < tkN P g (P i 0) i + pgN P i) := by
  have e := pgN_e h9 hi
  have hl := tkN_le (P := P) (g := g) (s := P i 0) i
  unfold pSk stK
  rw [tk_N h9 hg i (by omega), e.1, nI_add]
  simp only [beq_self_eq_true, Bool.true_and, Bool.and_eq_true, beq_iff_eq, Bool.not_eq_true', decide_eq_false_iff_not]
  rw [nI_leI (by omega) (by omega)]
  constructor
  · rintro ⟨h1, h2⟩; exact ⟨h1, by omega⟩
  · rintro ⟨h1, h2⟩; exact ⟨h1, by omega⟩
def stkB (P : Nat → Nat → Int32) (g p : Nat) : Bool := (List.range p).any (fun i => pSk P (nI g) i)
theorem stkB_s {P : Nat → Nat → Int32} {g p : Nat} : stkB P g (p + 1) = (stkB P g p || pSk P (nI g) p) := by
  unfold stkB
  rw [List.range_succ, List.any_append]
  simp
theorem stkB_n {P : Nat → Nat → Int32} {n g : Nat} (h9 : sm9 P n) (hw : WF P n) (hg : g ≤ 999) : stkB P g n = true ↔ (g < smN P 0 n ∨ g < smN P 1 n) := by
  unfold stkB
  rw [List.any_eq_true]
  constructor
  · rintro ⟨i, hi, hb⟩
    have hi := List.mem_range.mp hi
    obtain ⟨h6, hk⟩ := (sk_N h9 hg hi).mp hb
    have h1 := (tkN_le (P := P) (g := g) (s := P i 0) i).2
    have h2 : smN P (P i 0) (i + 1) = smN P (P i 0) i + pgN P i := by rw [smN, if_pos ⟨rfl, h6⟩]
    have h3 := smN_mono (P := P) (s := P i 0) (i + 1) n (by omega)
    rcases (hw i hi).1 with h0 | h0
    · rw [h0] at h1 h2 h3 hk; exact Or.inl (by omega)
    · rw [h0] at h1 h2 h3 hk; exact Or.inr (by omega)
  · intro h
    refine Decidable.byContradiction (fun hno => ?_)
    have hall : ∀ i, i < n → P i 6 = 0 → tkN P g (P i 0) i + pgN P i ≤ g := fun i hi h6 =>
      Decidable.byContradiction (fun hc => hno ⟨i, List.mem_range.mpr hi, (sk_N h9 hg hi).mpr ⟨h6, by omega⟩⟩)
    have key : ∀ s k, k ≤ n → tkN P g s k = smN P s k := by
      intro s k
      induction k with
      | zero => intro _; rfl
      | succ k ih =>
        intro hk
        rw [tkN, smN, ← ih (by omega)]
        by_cases hc : P k 0 = s ∧ P k 6 = 0
        · rw [if_pos hc, if_pos hc, if_pos (by rw [← hc.1]; exact hall k (by omega) hc.2)]
        · rw [if_neg hc, if_neg hc]
    have h0 := (tkN_le (P := P) (g := g) (s := 0) n).1
    have h1 := (tkN_le (P := P) (g := g) (s := 1) n).1
    rw [key _ n (Nat.le_refl n)] at h0 h1
    omega
theorem imax_nI {a b : Nat} (ha : a < 2 ^ 31) (hb : b < 2 ^ 31) : imax (nI a) (nI b) = nI (max a b) := by
  unfold imax
  by_cases g : a < b
  · rw [if_pos (nI_lt g hb), Nat.max_eq_right (by omega)]
  · rw [if_neg (nI_nlt (by omega) ha), Nat.max_eq_left (by omega)]
theorem lp_c {M : Mm} {n : Nat} (h9 : sm9 (cp M 1) n) (hw : WF (cp M 1) n) (hn : n ≤ 24) : (lpR M n = -6 ∧ stkB (cp M 1) 99 n = true) ∨ ∃ L, 1 ≤ L ∧ L ≤ 99 ∧ lpR M n = nI L ∧ stkB (cp M 1) L n = false ∧ (2 ≤ L → stkB (cp M 1) (L - 1) n = true) := by
  have h0 := smN_le (s := 0) h9 n (Nat.le_refl n)
  have h1 := smN_le (s := 1) h9 n (Nat.le_refl n)
  have e : lpN M n = nI (max 1 (max (smN (cp M 1) 0 n) (smN (cp M 1) 1 n))) := by
    unfold lpN
    rw [sm_N h9 hn n (Nat.le_refl n), sm_N h9 hn n (Nat.le_refl n), imax_nI (by omega) (by omega)]
    exact imax_nI (a := 1) (by omega) (by omega)
  generalize hL : max 1 (max (smN (cp M 1) 0 n) (smN (cp M 1) 1 n)) = L at e
  by_cases h : L ≤ 99
  · refine Or.inr ⟨L, by omega, h, ?_, ?_, ?_⟩
    · unfold lpR
      rw [e, if_pos (show nI L ≤ 99 from nI_le (b := 99) h (by omega))]
    · rw [Bool.eq_false_iff]
      intro hc
      have := (stkB_n h9 hw (by omega)).mp hc
      omega
    · intro h2
      exact (stkB_n h9 hw (by omega)).mpr (by omega)
  · refine Or.inl ⟨?_, ?_⟩
    · unfold lpR
      rw [e, if_neg (show ¬ nI L ≤ 99 from nI_ge (a := 99) (b := L) (by omega) (by omega))]
    · exact (stkB_n h9 hw (by omega)).mpr (by omega)
theorem lp_g {M : Mm} {n k : Nat} (h9 : sm9 (cp M 1) n) (hw : WF (cp M 1) n) (hn : n ≤ 24) (hk : k < 2) : ∃ g, g ≤ 99 ∧ (lpR M n = -6 → g = 99) ∧ (¬ lpR M n = -6 → lpR M n - nI k = nI g) ∧ (g = 0 ∨ bI (stkB (cp M 1) g n) = if lpR M n = -6 ∨ k = 1 then (1 : Int32) else 0) := by
  rcases lp_c h9 hw hn with ⟨h1, h2⟩ | ⟨L, h1, h2, e, h3, h4⟩
  · exact ⟨99, Nat.le_refl _, fun _ => rfl, fun g => absurd h1 g, Or.inr (by rw [h2, if_pos (Or.inl h1)]; rfl)⟩
  · have hne : ¬ lpR M n = -6 := by rw [e]; exact (by decide +kernel : ∀ t, t < 100 → ¬ nI t = -6) L (by omega)
    refine ⟨L - k, by omega, fun g => absurd g hne, fun _ => by rw [e]; exact nI_sub (by omega), ?_⟩
    rcases (show k = 0 ∨ k = 1 by omega) with rfl | rfl
    · exact Or.inr (by rw [Nat.sub_zero, h3, if_neg (fun g => g.elim hne (by decide))]; rfl)
    · by_cases g2 : 2 ≤ L
      · exact Or.inr (by rw [h4 g2, if_pos (Or.inr rfl)]; rfl)
      · exact Or.inl (by omega)
theorem l_reasonsQ {Y : Yt} {M : Mm} {P : Nat → Nat → Int32} {n la dy wa : Nat} {pg ov more : Int32} {T V : Nat → Int32} (hn : n ≤ 24) (hw : WF P n) (h9 : sm9 P n) (hS : LSt M P n) (hla : la ≤ 60) (hdy : dy ≤ 3000) (hT0 : T 0 = nI la) (hT1 : T 1 = pg) (hT2 : T 2 = nI dy) (hT3 : T 3 = nI n) (hT4 : T 4 = ov) (hC : aC Y 2 0 wa 24) : ∃ V2 : Nat → Int32, (∀ i, i < n → V2 i = rzW P (nI dy) (nI la) pg ov more n i) ∧ Fn Y yL_reasons wsL_reasons { frames := 0, cells := 0, slots := 0, locals := 0 } [.ref (Y.2.2.2.1 270), .ref (Y.2.2.2.1 271), .ref (Y.2.2.2.1 273), .ref (Y.2.2.2.1 274), .ref (Y.2.2.2.1 275), .ref (Y.2.2.2.1 276), .ref wa, .ref (Y.2.2.2.1 278), .int more] (qM M T V) none (qM M T V2) := by
  refine ⟨fun x => if 0 ≤ x ∧ x < 0 + 24 then rzA (fun z9 => (qM M T V).1 2 (0 + z9)) P (nI dy) (nI la) pg ov more n (x - 0) else V x, fun i hi => ?_, ?_⟩
  · show (if 0 ≤ i ∧ i < 0 + 24 then _ else _) = _
    rw [if_pos (by omega), Nat.sub_zero]
    unfold rzA
    rw [if_pos hi]
  · have h := l_reasons (Y := Y) (M := qM M T V) (P := P) (la := la) (dy := dy) (pg := pg) (ov := ov) (more := more) hn hw h9 (fun i hi => by simp only [qM_o (show (270 : Nat) ≠ 278 ∧ (270 : Nat) ≠ 2 by decide), qM_o (show (271 : Nat) ≠ 278 ∧ (271 : Nat) ≠ 2 by decide), qM_o (show (272 : Nat) ≠ 278 ∧ (272 : Nat) ≠ 2 by decide), qM_o (show (273 : Nat) ≠ 278 ∧ (273 : Nat) ≠ 2 by decide), qM_o (show (274 : Nat) ≠ 278 ∧ (274 : Nat) ≠ 2 by decide), qM_o (show (275 : Nat) ≠ 278 ∧ (275 : Nat) ≠ 2 by decide), qM_o (show (276 : Nat) ≠ 278 ∧ (276 : Nat) ≠ 2 by decide)]; exact hS i hi) hla hdy (by rw [qM_T]; exact hT0) (by rw [qM_T]; exact hT1) (by rw [qM_T]; exact hT2) (by rw [qM_T]; exact hT3) (by rw [qM_T]; exact hT4) hC (Or.inr rfl)
    rw [qM_put] at h
    exact h
