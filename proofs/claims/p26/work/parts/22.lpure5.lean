theorem mk_top {q : Nat → Bool} {p : Nat} (hp : p < 24) : bt (mk q (p + 1)) p = q p := by
  rw [bt_mk _ (by omega) (by omega), decide_eq_true (by omega), Bool.true_and]
theorem bI_i {b : Bool} : (if b = true then (1 : Int32) else 0) = bI b := rfl
theorem bI_1 {b : Bool} : bI b = 1 ↔ b = true := by cases b <;> decide
def hasB (P : Nat → Nat → Int32) (p a : Nat) : Bool := (List.range a).any (fun j => decide (p < j) && P j 3 == nI p)
theorem hasB_s {P : Nat → Nat → Int32} {p a : Nat} (h : p < a) : hasB P p (a + 1) = (hasB P p a || (P a 3 == nI p)) := by
  unfold hasB
  rw [List.range_succ, List.any_append]
  simp [h]
theorem hasB_0 {P : Nat → Nat → Int32} {p : Nat} : hasB P p (p + 1) = false := by
  unfold hasB
  rw [List.any_eq_false]
  intro j hj h
  have := List.mem_range.mp hj
  simp only [Bool.and_eq_true, decide_eq_true_eq] at h
  omega
theorem hasB_n {P : Nat → Nat → Int32} {n p : Nat} (hw : WF P n) (hn : n ≤ 24) (hp : p < n) : hasB P p n = !naP P n p := by
  unfold hasB naP
  rw [Bool.not_not, Bool.eq_iff_iff, List.any_eq_true, List.any_eq_true]
  constructor
  · rintro ⟨a, ha, h⟩
    rw [Bool.and_eq_true] at h
    exact ⟨a, ha, h.2⟩
  · rintro ⟨a, ha, h⟩
    refine ⟨a, ha, ?_⟩
    have := par_lt hw hn (List.mem_range.mp ha) hp (by simpa using h)
    rw [Bool.and_eq_true]
    exact ⟨decide_eq_true this, h⟩
def bq (M : Mm) (n : Nat) : Nat → Bool := bare (bOut M 1) (cp M 1) n
def chq (M : Mm) (n p : Nat) : Nat → Bool := fun i => pCl (cp M 1) i && (sd (bOut M 1) (bt ((1 : Int32) <<< (nI p &&& 31))) (cp M 1) n i != bSd M 1 n i)
theorem ba2_r2 {M : Mm} {f : Nat → Int32} {n k : Nat} {o na : Nat → Bool} {P : Nat → Nat → Int32} : ba2 (mrow M 2 f) n k o na P = ba2 M n k o na P := rfl
theorem baS_r2 {M : Mm} {f : Nat → Int32} {n : Nat} : ∀ k, baS (mrow M 2 f) n k = baS M n k := by
  intro k
  induction k with
  | zero => rfl
  | succ k ih => rw [baS, baS, ih]; simp only [cp_r2, bO_r2, ba2_r2]
theorem ba2_eq {M : Mm} {n p : Nat} (hn : n ≤ 24) : ba2 M n p (bOut M 1) (naP (cp M 1) n) (cp M 1) = nI (cnt (chq M n p) n) := by
  unfold ba2
  rw [mk_xor _ _ (by omega), mk_and _ _ (by omega), bc_mk hn]
  refine congrArg nI (cnt_congr (fun i hi => ?_))
  unfold chq
  have ho : ∀ j, j < n → bt (mk (bOut M 1) n) j = bOut M 1 j := fun j hj => by rw [bt_mk _ (by omega) (by omega), decide_eq_true hj, Bool.true_and]
  rw [sd_cg (P' := cp M 1) ho (fun _ _ => rfl) (fun _ _ => rfl) i hi, sd_cg (q' := fun _ => false) (P' := cp M 1) ho (fun j _ => b_0 j) (fun _ _ => rfl) i hi]
  show ((sd (bOut M 1) (bt ((1 : Int32) <<< (nI p &&& 31))) (cp M 1) n i ^^ bSd M 1 n i) && pTo (cp M 1) (-6) i) = (pTo (cp M 1) (-6) i && _)
  cases sd (bOut M 1) (bt ((1 : Int32) <<< (nI p &&& 31))) (cp M 1) n i <;> cases bSd M 1 n i <;> cases pTo (cp M 1) (-6) i <;> rfl
theorem bq_bt {M : Mm} {n p : Nat} (hn : n ≤ 24) (hp : p < n) : bt (mk (naP (cp M 1) n) n &&& (mk (bOut M 1) n ^^^ (-1))) p = bq M n p := by
  rw [mk_not _ _ (by omega), bt_mk _ (by omega) (by omega), decide_eq_true hp, Bool.true_and]
  rfl
theorem baS_y {M : Mm} {n p : Nat} (hn : n ≤ 24) (hp : p < n) (h : bq M n p = true) : baS M n (p + 1) = if nI (cnt (chq M n p) n) ≤ (baS M n p).2 then baS M n p else (nI p, nI (cnt (chq M n p) n)) := by
  rw [baS, bq_bt hn hp, if_pos h, ba2_eq hn]
theorem baS_n {M : Mm} {n p : Nat} (hn : n ≤ 24) (hp : p < n) (h : bq M n p = false) : baS M n (p + 1) = baS M n p := by
  rw [baS, bq_bt hn hp, if_neg (by rw [h]; decide)]
theorem baS_e {M : Mm} {n : Nat} (hn : n ≤ 24) : ∀ d, n + d ≤ 24 → baS M n (n + d) = baS M n n := by
  intro d
  induction d with
  | zero => intro _; rfl
  | succ d ih =>
    intro hd
    rw [show n + (d + 1) = (n + d) + 1 by omega, baS, if_neg, ih (by omega)]
    rw [mk_not _ _ (by omega), bt_mk _ (by omega) (by omega), decide_eq_false (by omega), Bool.false_and]
    decide
theorem baS_24 {M : Mm} {n : Nat} (hn : n ≤ 24) : baS M n 24 = baS M n n := by
  have := baS_e (M := M) hn (24 - n) (by omega)
  rw [show n + (24 - n) = 24 by omega] at this
  exact this
theorem shl2 : ∀ b, b ≤ 7 → (1 : Int32) <<< (nI b &&& 31) = nI (2 ^ b) := by
  have h : ∀ b, b < 8 → (1 : Int32) <<< (nI b &&& 31) = nI (2 ^ b) := by decide +kernel
  exact fun b hb => h b (by omega)
theorem and1 : ∀ j, j < 128 → nI j &&& 1 = nI (j % 2) := by decide +kernel
theorem shr2 : ∀ j, j < 128 → nI j >>> ((1 : Int32) &&& 31) = nI (j / 2) := by decide +kernel
theorem scK_s {q : Nat → Bool} {k p : Nat} (hp : p < 24) (h : q p = true) : mk (scK q k) p ||| (nI ((k >>> cnt q p) % 2) <<< (nI p &&& 31)) = mk (scK q k) (p + 1) := by
  rw [← mkz1]
  congr 1
  have e : scK q k p = decide ((k >>> cnt q p) % 2 = 1) := by
    unfold scK
    rw [h, Bool.true_and, Nat.testBit]
    have h1 : (k >>> cnt q p) % 2 = 0 ∨ (k >>> cnt q p) % 2 = 1 := by omega
    rw [Nat.and_comm, Nat.and_one_is_mod]
    rcases h1 with h1 | h1 <;> rw [h1] <;> rfl
  rw [e]
  have h1 : (k >>> cnt q p) % 2 = 0 ∨ (k >>> cnt q p) % 2 = 1 := by omega
  rcases h1 with h1 | h1
  · rw [h1, if_neg (by decide)]
    exact (by decide +kernel : ∀ p, p < 24 → nI 0 <<< (nI p &&& 31) = 0) p hp
  · rw [h1, if_pos (by decide)]
    rfl
theorem scK_n {q : Nat → Bool} {k p : Nat} (h : q p = false) : mk (scK q k) p = mk (scK q k) (p + 1) := mk_f (by unfold scK; rw [h]; rfl)
theorem shr_s {k c : Nat} : (k >>> c) / 2 = k >>> (c + 1) := by rw [Nat.shiftRight_succ]
theorem shr_le {k c : Nat} (h : k < 128) : k >>> c < 128 := by
  rw [Nat.shiftRight_eq_div_pow]
  exact Nat.lt_of_le_of_lt (Nat.div_le_self _ _) h
theorem l_reasonsR {Y : Yt} {M : Mm} {n la dy wa : Nat} {more : Int32} {Vv : Nat → Int32} (hn : n ≤ 24) (hw : WF (cp M 1) n) (h9 : sm9 (cp M 1) n) (hS : LSt M (cp M 1) n) (hla : la ≤ 60) (hdy : dy ≤ 3000) (hT0 : M.1 278 0 = M.1 1 4) (hT1 : M.1 278 1 = M.1 1 5) (hT2 : M.1 278 2 = M.1 1 2) (hT3 : M.1 278 3 = nI n) (hT4 : M.1 278 4 = M.1 1 3) (h4 : M.1 1 4 = nI la) (h2 : M.1 1 2 = nI dy) (hC : aC Y 2 0 wa 24) : ∃ V2 : Nat → Int32, (∀ i, i < n → (V2 i = 0 ↔ sd (bOut M 1) (bt more) (cp M 1) n i = true)) ∧ (∀ x, 24 ≤ x → V2 x = Vv x) ∧ Fn Y yL_reasons wsL_reasons { frames := 0, cells := 0, slots := 0, locals := 0 } [.ref (Y.2.2.2.1 270), .ref (Y.2.2.2.1 271), .ref (Y.2.2.2.1 273), .ref (Y.2.2.2.1 274), .ref (Y.2.2.2.1 275), .ref (Y.2.2.2.1 276), .ref wa, .ref (Y.2.2.2.1 278), .int more] (mrow M 2 Vv) none (mrow M 2 V2) := by
  refine ⟨fun x => if 0 ≤ x ∧ x < 0 + 24 then rzA (fun z9 => (mrow M 2 Vv).1 2 (0 + z9)) (cp M 1) (nI dy) (nI la) (M.1 1 5) (M.1 1 3) more n (x - 0) else Vv x, fun i hi => ?_, fun x hx => if_neg (by omega), ?_⟩
  · show ((if 0 ≤ i ∧ i < 0 + 24 then _ else _) = (0 : Int32)) ↔ _
    rw [if_pos (by omega), Nat.sub_zero]
    unfold rzA
    rw [if_pos hi, rzW_0 hi]
    unfold bOut
    rw [h2, h4]
  · have h := l_reasons (Y := Y) (M := mrow M 2 Vv) (P := cp M 1) (la := la) (dy := dy) (pg := M.1 1 5) (ov := M.1 1 3) (more := more) hn hw h9 (fun i hi => by simp only [mrow_n (show (270 : Nat) ≠ 2 by decide), mrow_n (show (271 : Nat) ≠ 2 by decide), mrow_n (show (272 : Nat) ≠ 2 by decide), mrow_n (show (273 : Nat) ≠ 2 by decide), mrow_n (show (274 : Nat) ≠ 2 by decide), mrow_n (show (275 : Nat) ≠ 2 by decide), mrow_n (show (276 : Nat) ≠ 2 by decide)]; exact hS i hi) hla hdy (by rw [mrow_n (by decide)]; exact hT0.trans h4) (by rw [mrow_n (by decide)]; exact hT1) (by rw [mrow_n (by decide)]; exact hT2.trans h2) (by rw [mrow_n (by decide)]; exact hT3) (by rw [mrow_n (by decide)]; exact hT4) hC (Or.inr rfl)
    have e : ∀ g : Nat → Int32, mput (mrow M 2 Vv) 2 0 24 g = mrow M 2 (fun x => if 0 ≤ x ∧ x < 0 + 24 then g (x - 0) else Vv x) := fun g => by unfold mput; rw [mrow_mrow, mrow_s]
    rw [e] at h
    exact h
def okS (M : Mm) (n k p : Nat) (Vv : Nat → Int32) : Prop := ∀ i, i < n → mnOK (bOut M 1) (cp M 1) n i (if i < p then k + 1 else k) false (Vv (64 + i)) ∧ mnOK (bOut M 1) (cp M 1) n i (if i < p then k + 1 else k) true (Vv (128 + i))
theorem okS_st {M : Mm} {n k p : Nat} {Vv V2 : Nat → Int32} {x : Int32} (hn : n ≤ 24) (h : okS M n k p Vv) (hp : p < n) (hs : sd (bOut M 1) (scK (bq M n) k) (cp M 1) n p = true) (hx : x = if Vv (128 + p) < 0 ∨ nI (cnt (scK (bq M n) k) n) < Vv (128 + p) then nI (cnt (scK (bq M n) k) n) else Vv (128 + p)) (hV : V2 = upd Vv (128 + p) x) : okS M n k (p + 1) V2 := by
  intro i hi
  have h1 := h i hi
  subst hV
  rw [upd_n (show 64 + i ≠ 128 + p by omega)]
  by_cases e : i = p
  · subst e
    rw [if_neg (by omega)] at h1
    rw [if_pos (by omega), upd_s, hx]
    exact ⟨mnOK_n h1.1 (fun g => by rw [show sd (bOut M 1) (scK (bare (bOut M 1) (cp M 1) n) k) (cp M 1) n i = true from hs] at g; cases g), mnOK_y hn h1.2 hs⟩
  · rw [upd_n (show 128 + i ≠ 128 + p by omega)]
    by_cases g : i < p
    · rw [if_pos g] at h1; rw [if_pos (by omega)]; exact h1
    · rw [if_neg g] at h1; rw [if_neg (by omega)]; exact h1
theorem okS_fa {M : Mm} {n k p : Nat} {Vv V2 : Nat → Int32} {x : Int32} (hn : n ≤ 24) (h : okS M n k p Vv) (hp : p < n) (hs : sd (bOut M 1) (scK (bq M n) k) (cp M 1) n p = false) (hx : x = if Vv (64 + p) < 0 ∨ nI (cnt (scK (bq M n) k) n) < Vv (64 + p) then nI (cnt (scK (bq M n) k) n) else Vv (64 + p)) (hV : V2 = upd Vv (64 + p) x) : okS M n k (p + 1) V2 := by
  intro i hi
  have h1 := h i hi
  subst hV
  rw [upd_n (show 128 + i ≠ 64 + p by omega)]
  by_cases e : i = p
  · subst e
    rw [if_neg (by omega)] at h1
    rw [if_pos (by omega), upd_s, hx]
    exact ⟨mnOK_y hn h1.1 hs, mnOK_n h1.2 (fun g => by rw [show sd (bOut M 1) (scK (bare (bOut M 1) (cp M 1) n) k) (cp M 1) n i = false from hs] at g; cases g)⟩
  · rw [upd_n (show 64 + i ≠ 64 + p by omega)]
    by_cases g : i < p
    · rw [if_pos g] at h1; rw [if_pos (by omega)]; exact h1
    · rw [if_neg g] at h1; rw [if_neg (by omega)]; exact h1
theorem okS_n {M : Mm} {n k : Nat} {Vv : Nat → Int32} (h : okS M n k n Vv) : okS M n (k + 1) 0 Vv := by
  intro i hi
  have h1 := h i hi
  rw [if_pos hi] at h1
  rw [if_neg (by omega)]
  exact h1
theorem okS_0 {M : Mm} {n : Nat} {Vv : Nat → Int32} (hn : n ≤ 24) (h : ∀ j, j < 24 → Vv (64 + j) = -6 ∧ Vv (128 + j) = -6) : okS M n 0 0 Vv := by
  intro i hi
  rw [if_neg (by omega), (h i (by omega)).1, (h i (by omega)).2]
  exact ⟨mnOK_0, mnOK_0⟩
def aM (M : Mm) (Vv : Nat → Int32) (q : (Nat → Int32) × (Nat → Int32)) : Mm := wM (mrow M 2 Vv) q
theorem aM_o {M : Mm} {Vv : Nat → Int32} {q : (Nat → Int32) × (Nat → Int32)} {k : Nat} (h : k ≠ 2 ∧ k ≠ 28 ∧ k ≠ 29) : (aM M Vv q).1 k = M.1 k := by
  unfold aM
  rw [wM_n (by omega), mrow_n h.1]
theorem aM_2 {M : Mm} {Vv : Nat → Int32} {q : (Nat → Int32) × (Nat → Int32)} : (aM M Vv q).1 2 = Vv := by
  unfold aM
  rw [wM_n (by omega), mrow_s]
theorem aM_cp {M : Mm} {Vv : Nat → Int32} {q : (Nat → Int32) × (Nat → Int32)} {i : Nat} (hi : i < 24) : cp (aM M Vv q) 1 i = cp M 1 i := by
  funext j
  unfold cp
  rw [aM_o (by omega)]
theorem aM_wM {M : Mm} {Vv : Nat → Int32} {q q2 : (Nat → Int32) × (Nat → Int32)} : wM (aM M Vv q) q2 = aM M Vv q2 := by
  unfold aM wM
  rw [mrow_comm (k := 29) (k2 := 28) (by decide), mrow_mrow, mrow_mrow]
theorem aM_0 {M : Mm} {Vv : Nat → Int32} : mrow M 2 Vv = aM M Vv ((mrow M 2 Vv).1 28, (mrow M 2 Vv).1 29) := wM_self.symm
theorem aM_r {M : Mm} {Vv : Nat → Int32} {q : (Nat → Int32) × (Nat → Int32)} : aM M Vv q = mrow (wM M q) 2 Vv := by
  unfold aM wM
  rw [mrow_comm (k := 2) (k2 := 28) (by decide), mrow_comm (k := 2) (k2 := 29) (by decide)]
theorem tk_cg {P P' : Nat → Nat → Int32} {pg s : Int32} {n : Nat} (h : ∀ i, i < n → P i = P' i) : ∀ k, k ≤ n → tk P pg s k = tk P' pg s k := by
  intro k
  induction k with
  | zero => intro _; rfl
  | succ k ih => intro hk; rw [tk, tk, ih (by omega), h k (by omega)]
theorem pOut_cg {P P' : Nat → Nat → Int32} {d la pg ov : Int32} {n : Nat} (h : ∀ i, i < n → P i = P' i) {i : Nat} (hi : i < n) : pOut P d la pg ov i = pOut P' d la pg ov i := by
  unfold pOut pWd pSk stK pLp pBl
  rw [tk_cg h i (by omega), h i hi]
theorem bO_cg {M M' : Mm} {n : Nat} (h : ∀ i, i < n → cp M' 1 i = cp M 1 i) (h1 : M'.1 1 = M.1 1) : ∀ i, i < n → bOut M' 1 i = bOut M 1 i := by
  intro i hi
  unfold bOut
  rw [h1]
  exact pOut_cg h hi
theorem bS_cg {M M' : Mm} {n : Nat} (h : ∀ i, i < n → cp M' 1 i = cp M 1 i) (h1 : M'.1 1 = M.1 1) : ∀ i, i < n → bSd M' 1 n i = bSd M 1 n i := fun i hi => sd_cg (bO_cg h h1) (fun _ _ => rfl) (fun j hj => by rw [h j hj]) i hi
theorem wv_cg {M M' : Mm} {n : Nat} (h : ∀ i, i < n → cp M' 1 i = cp M 1 i) (h1 : M'.1 1 = M.1 1) : ∀ i, i < n → wv M' n i = wv M n i := by
  intro i hi
  rw [(wv_all hi).1, (wv_all hi).1]
  unfold rsR
  rw [bS_cg h h1 i hi, h1]
  unfold pWd pSk stK pLp pBl
  rw [tk_cg h i (by omega), h i hi]
theorem WF_cg {P P' : Nat → Nat → Int32} {n : Nat} (h : ∀ i, i < n → P' i = P i) (hw : WF P n) : WF P' n := fun i hi => by rw [h i hi]; exact hw i hi
theorem na_cg {P P' : Nat → Nat → Int32} {n i : Nat} (h : ∀ i, i < n → P' i = P i) : naP P' n i = naP P n i := by
  unfold naP
  congr 1
  rw [Bool.eq_iff_iff, List.any_eq_true, List.any_eq_true]
  constructor
  · rintro ⟨a, ha, hb⟩
    exact ⟨a, ha, by rw [← h a (List.mem_range.mp ha)]; exact hb⟩
  · rintro ⟨a, ha, hb⟩
    exact ⟨a, ha, by rw [h a (List.mem_range.mp ha)]; exact hb⟩
theorem cnt_cg {p q : Nat → Bool} {n : Nat} (h : ∀ i, i < n → p i = q i) : ∀ k, k ≤ n → cnt p k = cnt q k := fun k hk => cnt_congr (fun i hi => h i (by omega))
theorem mnOK_cg {o o' : Nat → Bool} {P P' : Nat → Nat → Int32} {n p K : Nat} {st : Bool} {x : Int32} (ho : ∀ i, i < n → o' i = o i) (h : ∀ i, i < n → P' i = P i) (hp : p < n) (hk : mnOK o P n p K st x) : mnOK o' P' n p K st x := by
  have hb : ∀ i, i < n → bare o' P' n i = bare o P n i := fun i hi => by unfold bare; rw [na_cg h, ho i hi]
  have hs : ∀ k i, i < n → scK (bare o' P' n) k i = scK (bare o P n) k i := fun k i hi => by unfold scK; rw [hb i hi, cnt_cg hb i (by omega)]
  have e1 : ∀ k, sd o' (scK (bare o' P' n) k) P' n p = sd o (scK (bare o P n) k) P n p := fun k => sd_cg ho (hs k) (fun j hj => by rw [h j hj]) p hp
  have e2 : ∀ k, cnt (scK (bare o' P' n) k) n = cnt (scK (bare o P n) k) n := fun k => cnt_congr (hs k)
  rcases hk with ⟨h1, h2⟩ | ⟨c, hc, h1, ⟨k, hk, h2, h3⟩, h4⟩
  · exact Or.inl ⟨h1, fun k hk => by rw [e1]; exact h2 k hk⟩
  · exact Or.inr ⟨c, hc, h1, ⟨k, hk, by rw [e1]; exact h2, by rw [e2]; exact h3⟩, fun j hj e => by rw [e2]; rw [e1] at e; exact h4 j hj e⟩
theorem aM_fs {M : Mm} {Vv : Nat → Int32} {q : (Nat → Int32) × (Nat → Int32)} {n p K : Nat} (hn : n ≤ 24) (hw : WF (cp M 1) n) (hp : p < n) (hK : K = 2 ^ cnt (bq M n) n) (h : okS M n K 0 Vv) : Vv (64 + p) = (if nI ((fsT (bOut (aM M Vv q) 1) (cp (aM M Vv q) 1) n n).1 p) < 1000 then nI ((fsT (bOut (aM M Vv q) 1) (cp (aM M Vv q) 1) n n).1 p) else -6) ∧ Vv (128 + p) = (if nI ((fsT (bOut (aM M Vv q) 1) (cp (aM M Vv q) 1) n n).2 p) < 1000 then nI ((fsT (bOut (aM M Vv q) 1) (cp (aM M Vv q) 1) n n).2 p) else -6) := by
  have hc : ∀ i, i < n → cp (aM M Vv q) 1 i = cp M 1 i := fun i hi => aM_cp (by omega)
  have ho := bO_cg (M := M) (M' := aM M Vv q) hc (aM_o (by decide))
  have hb : cnt (bare (bOut (aM M Vv q) 1) (cp (aM M Vv q) 1) n) n = cnt (bq M n) n := cnt_congr (fun i hi => by unfold bq bare; rw [na_cg hc, ho i hi])
  have h1 := h p hp
  rw [if_neg (by omega), hK] at h1
  have hw2 := WF_cg hc hw
  refine ⟨mn_fall hw2 hn hp ?_, mn_stand hw2 hn hp ?_⟩
  · rw [hb]; exact mnOK_cg ho hc hp h1.1
  · rw [hb]; exact mnOK_cg ho hc hp h1.2
