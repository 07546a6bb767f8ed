abbrev Mm : Type := (Nat → Nat → Int32) × (Nat → Nat)
def mset (M : Mm) (k j : Nat) (v : Int32) : Mm := (fun k' => if k' = k then upd (M.1 k) j v else M.1 k', M.2)
def mhis (M : Mm) (h : Nat → Nat) : Mm := (M.1, h)
abbrev Yt : Type := Launch × va_G × (Nat → ClassId) × (Nat → Nat) × Nat × List (Nat × Nat)
def isB (b : Nat) : Prop := b = 1 ∨ (∃ i, i < 7 ∧ b = 35 + 26 * i) ∨ b = 218 ∨ b = 244
def cGb (cy : Nat → ClassId) (ad : Nat → Nat) (r : Nat → Int32) (b k : Nat) : va_E :=
  if k = b then .inr (0, [.ref (ad (b + 1)), .int (r 1), .int (r 2), .int (r 3), .int (r 4), .int (r 5)])
  else if k = b + 1 then .inl (cy 4, 24, .inr (.inr (.inr (.inr (fun i => some (ad (b + 2 + i)))))))
  else .inr (4, [.int (r 0), .int (r 1), .int (r 2), .int (r 3), .int (r 4), .int (r 5), .int (r 6)])
def cG1 (cy : Nat → ClassId) (ad : Nat → Nat) (h : Nat → Nat) (r : Nat → Int32) (k : Nat) : va_E :=
  if k = 27 then .inr (1, [.ref (ad 28), .ref (ad 29)])
  else if k = 30 then .inr (3, [.ref (ad 31), .int (r 1)])
  else if k = 31 then .inl (cy 0, 80, .inl r)
  else if k = 32 then .inr (5, [.int (r 0), .int (r 1), .int (r 2), .int (r 3), .int (r 4), .int (r 5)])
  else if k = 33 then .inr (2, [.ref (ad 34), .int (r 1)])
  else if k = 34 then .inl (cy 3, 7, .inr (.inr (.inr (.inr (fun i => some (ad (h i)))))))
  else .inl (cy 1, 24, .inl r)
def cG2 (cy : Nat → ClassId) (_ad : Nat → Nat) (r : Nat → Int32) (k : Nat) : va_E :=
  if k = 278 then .inl (cy 1, 5, .inl r)
  else .inl (cy 1, 24, .inl r)
def cG (cy : Nat → ClassId) (ad : Nat → Nat) (h : Nat → Nat) (r : Nat → Int32) (k : Nat) : va_E :=
  if k < 27 then (if k = 0 then .inr (6, [.ref (ad 1), .ref (ad 27), .ref (ad 30), .ref (ad 32), .ref (ad 33), .ref (ad 217), .int (r 6)]) else cGb cy ad r 1 k)
  else if k < 35 then cG1 cy ad h r k
  else if k < 217 then cGb cy ad r (35 + 26 * ((k - 35) / 26)) k
  else if k = 217 then .inl (cy 3, 2, .inr (.inr (.inr (.inr (fun i => some (ad (218 + 26 * i)))))))
  else if k < 270 then cGb cy ad r (218 + 26 * ((k - 218) / 26)) k
  else cG2 cy ad r k
theorem isB_cases {b : Nat} (h : isB b) : b = 1 ∨ b = 35 ∨ b = 61 ∨ b = 87 ∨ b = 113 ∨ b = 139 ∨ b = 165 ∨ b = 191 ∨ b = 218 ∨ b = 244 := by
  rcases h with h | ⟨i, hi, h⟩ | h | h <;> omega
theorem isB_lt {b : Nat} (h : isB b) : b + 26 ≤ 270 := by
  rcases isB_cases h with h | h | h | h | h | h | h | h | h | h <;> omega
theorem isB_1 : isB 1 := Or.inl rfl
theorem isB_218 : isB 218 := Or.inr (Or.inr (Or.inl rfl))
theorem isB_244 : isB 244 := Or.inr (Or.inr (Or.inr rfl))
theorem isB_h {i : Nat} (h : i < 7) : isB (35 + 26 * i) := Or.inr (Or.inl ⟨i, h, rfl⟩)
theorem cG_gb {cy : Nat → ClassId} {ad : Nat → Nat} {h : Nat → Nat} {r : Nat → Int32} {b : Nat} (hb : isB b) (j : Nat) (hj : j < 26) : cG cy ad h r (b + j) = cGb cy ad r b (b + j) := by
  unfold cG
  rcases hb with rfl | ⟨i, hi, rfl⟩ | rfl | rfl
  · rw [if_pos (by omega), if_neg (by omega)]
  · rw [if_neg (by omega), if_neg (by omega), if_pos (by omega)]
    have e : (35 + 26 * i + j - 35) / 26 = i := by omega
    rw [e]
  · rw [if_neg (by omega), if_neg (by omega), if_neg (by omega), if_neg (by omega), if_pos (by omega)]
    have e : (218 + j - 218) / 26 = 0 := by omega
    rw [e]
  · rw [if_neg (by omega), if_neg (by omega), if_neg (by omega), if_neg (by omega), if_pos (by omega)]
    have e : (244 + j - 218) / 26 = 1 := by omega
    rw [e]
theorem cG_B {cy : Nat → ClassId} {ad : Nat → Nat} {h : Nat → Nat} {r : Nat → Int32} {b : Nat} (hb : isB b) : cG cy ad h r b = .inr (0, [.ref (ad (b + 1)), .int (r 1), .int (r 2), .int (r 3), .int (r 4), .int (r 5)]) := by
  have e := cG_gb (cy := cy) (ad := ad) (h := h) (r := r) hb 0 (by omega)
  rw [Nat.add_zero] at e
  rw [e, cGb, if_pos rfl]
theorem cG_R {cy : Nat → ClassId} {ad : Nat → Nat} {h : Nat → Nat} {r : Nat → Int32} {b : Nat} (hb : isB b) : cG cy ad h r (b + 1) = .inl (cy 4, 24, .inr (.inr (.inr (.inr (fun i => some (ad (b + 2 + i))))))) := by
  rw [cG_gb hb 1 (by omega), cGb, if_neg (by omega), if_pos rfl]
theorem cG_P {cy : Nat → ClassId} {ad : Nat → Nat} {h : Nat → Nat} {r : Nat → Int32} {b i : Nat} (hb : isB b) (hi : i < 24) : cG cy ad h r (b + 2 + i) = .inr (4, [.int (r 0), .int (r 1), .int (r 2), .int (r 3), .int (r 4), .int (r 5), .int (r 6)]) := by
  rw [show b + 2 + i = b + (2 + i) by omega, cG_gb hb (2 + i) (by omega), cGb, if_neg (by omega), if_neg (by omega)]
def scF (M : Mm) (j : Nat) : Nat → Int32 := fun x => if x < 64 then M.1 2 (64 * j + x) else 0
theorem scF_at {M : Mm} {j x : Nat} (h : x < 64) : scF M j x = M.1 2 (64 * j + x) := if_pos h
def sw (cy : Nat → ClassId) (M : Mm) : Nat → List (Nat × Nat) → va_W
  | _, [] => []
  | i, q :: t => (q.1, .inl (cy 1, q.2, .inl (scF M i))) :: sw cy M (i + 1) t
theorem sw_get {cy : Nat → ClassId} {M : Mm} {sc : List (Nat × Nat)} {i j : Nat} : (sw cy M i sc)[j]? = (sc[j]?).map (fun q => (q.1, .inl (cy 1, q.2, .inl (scF M (i + j))))) := by
  induction sc generalizing i j with
  | nil => rfl
  | cons q t ih =>
    cases j with
    | zero => rfl
    | succ j =>
      show (sw cy M (i + 1) t)[j]? = (t[j]?).map _
      rw [ih, show i + 1 + j = i + (j + 1) by omega]
theorem sw_len {cy : Nat → ClassId} {M : Mm} {sc : List (Nat × Nat)} {i : Nat} : (sw cy M i sc).length = sc.length := by
  induction sc generalizing i with
  | nil => rfl
  | cons p t ih => show (sw cy M (i + 1) t).length + 1 = t.length + 1; rw [ih]
theorem sw_ext {cy : Nat → ClassId} {M M' : Mm} {sc : List (Nat × Nat)} {i : Nat} (h : ∀ j, j < sc.length → scF M (i + j) = scF M' (i + j)) : sw cy M i sc = sw cy M' i sc := by
  apply List.ext_getElem?
  intro j
  rw [sw_get, sw_get]
  cases hj : sc[j]? with
  | none => rfl
  | some q => rw [Option.map_some, Option.map_some, h j (List.getElem?_eq_some_iff.mp hj).1]
theorem sw_congr {cy : Nat → ClassId} {M M' : Mm} {sc : List (Nat × Nat)} {i : Nat} (h : M.1 2 = M'.1 2) : sw cy M i sc = sw cy M' i sc := sw_ext (fun j _ => by unfold scF; rw [h])
theorem sw_push {cy : Nat → ClassId} {M : Mm} {sc : List (Nat × Nat)} {i q n : Nat} : sw cy M i (sc ++ [(q, n)]) = sw cy M i sc ++ [(q, .inl (cy 1, n, .inl (scF M (i + sc.length))))] := by
  induction sc generalizing i with
  | nil => rfl
  | cons p t ih =>
    show _ :: sw cy M (i + 1) (t ++ [(q, n)]) = _ :: (sw cy M (i + 1) t ++ _)
    rw [ih, show i + 1 + t.length = i + (t.length + 1) by omega]
    rfl
def fx (cy : Nat → ClassId) (ad : Nat → Nat) (M : Mm) : va_W := (List.range 279).map (fun k => (ad k, cG cy ad M.2 (M.1 k) k))
def wl (cy : Nat → ClassId) (ad : Nat → Nat) (sc : List (Nat × Nat)) (M : Mm) : va_W := fx cy ad M ++ sw cy M 0 sc
theorem fx_len {cy : Nat → ClassId} {ad : Nat → Nat} {M : Mm} : (fx cy ad M).length = 279 := by unfold fx; rw [List.length_map, List.length_range]
theorem fx_get {cy : Nat → ClassId} {ad : Nat → Nat} {M : Mm} {k : Nat} (hk : k < 279) : (fx cy ad M)[k]? = some (ad k, cG cy ad M.2 (M.1 k) k) := by
  unfold fx
  rw [List.getElem?_map, List.getElem?_range hk, Option.map_some]
theorem fx_congr {cy : Nat → ClassId} {ad : Nat → Nat} {M M' : Mm} (h : ∀ k, k < 279 → cG cy ad M.2 (M.1 k) k = cG cy ad M'.2 (M'.1 k) k) : fx cy ad M = fx cy ad M' := by
  unfold fx
  exact List.map_congr_left (fun i hi => by rw [h i (List.mem_range.mp hi)])
theorem wl_get {cy : Nat → ClassId} {ad : Nat → Nat} {sc : List (Nat × Nat)} {M : Mm} {k : Nat} {e : va_E} (hk : k < 279) (he : cG cy ad M.2 (M.1 k) k = e) : (wl cy ad sc M)[k]? = some (ad k, e) := by
  unfold wl
  rw [List.getElem?_append_left (by rw [fx_len]; exact hk), fx_get hk, he]
theorem wl_gets {cy : Nat → ClassId} {ad : Nat → Nat} {sc : List (Nat × Nat)} {M : Mm} {j a n : Nat} (h : sc[j]? = some (a, n)) : (wl cy ad sc M)[279 + j]? = some (a, .inl (cy 1, n, .inl (scF M j))) := by
  unfold wl
  rw [List.getElem?_append_right (by rw [fx_len]; omega), fx_len, Nat.add_sub_cancel_left, sw_get, h, Nat.zero_add]
  rfl
theorem fx_set {cy : Nat → ClassId} {ad : Nat → Nat} {M M' : Mm} {k : Nat} {e : va_E} (he : cG cy ad M'.2 (M'.1 k) k = e) (ho : ∀ k', k' ≠ k → cG cy ad M'.2 (M'.1 k') k' = cG cy ad M.2 (M.1 k') k') : (fx cy ad M).set k (ad k, e) = fx cy ad M' := by
  unfold fx
  apply List.ext_getElem?
  intro i
  rw [List.getElem?_set, List.length_map, List.length_range]
  by_cases hik : k = i
  · subst hik
    rw [if_pos rfl]
    by_cases hk : k < 279
    · rw [if_pos hk, List.getElem?_map, List.getElem?_range hk, Option.map_some, he]
    · rw [if_neg hk, List.getElem?_map, List.getElem?_eq_none (by simp; omega)]
      rfl
  · rw [if_neg hik, List.getElem?_map, List.getElem?_map]
    by_cases hi : i < 279
    · rw [List.getElem?_range hi, Option.map_some, Option.map_some, ho i (fun h => hik h.symm)]
    · rw [List.getElem?_eq_none (by simp; omega)]
      rfl
theorem wl_set {cy : Nat → ClassId} {ad : Nat → Nat} {sc : List (Nat × Nat)} {M M' : Mm} {k : Nat} {e : va_E} (hk : k < 279) (he : cG cy ad M'.2 (M'.1 k) k = e) (ho : ∀ k', k' ≠ k → cG cy ad M'.2 (M'.1 k') k' = cG cy ad M.2 (M.1 k') k') (hs : M.1 2 = M'.1 2) : (wl cy ad sc M).set k (ad k, e) = wl cy ad sc M' := by
  unfold wl
  rw [List.set_append_left _ _ (by rw [fx_len]; exact hk), fx_set he ho, sw_congr hs]
theorem mset_s {M : Mm} {k j : Nat} {v : Int32} : (mset M k j v).1 k = upd (M.1 k) j v := by unfold mset; exact if_pos rfl
theorem mset_n {M : Mm} {k j k' : Nat} {v : Int32} (h : k' ≠ k) : (mset M k j v).1 k' = M.1 k' := by unfold mset; exact if_neg h
theorem wl_mset {cy : Nat → ClassId} {ad : Nat → Nat} {sc : List (Nat × Nat)} {M : Mm} {k j : Nat} {v : Int32} {e : va_E} (hk : k < 279 ∧ k ≠ 2) (he : cG cy ad M.2 (upd (M.1 k) j v) k = e) : (wl cy ad sc M).set k (ad k, e) = wl cy ad sc (mset M k j v) :=
  wl_set hk.1 (by rw [mset_s]; exact he) (fun k' h => by rw [mset_n h]; rfl) (mset_n (fun h => hk.2 h.symm)).symm
theorem sw_set {cy : Nat → ClassId} {M : Mm} {sc : List (Nat × Nat)} {j a n x : Nat} {v : Int32} (h : sc[j]? = some (a, n)) (hx : x < 64) : (sw cy M 0 sc).set j (a, .inl (cy 1, n, .inl (upd (scF M j) x v))) = sw cy (mset M 2 (64 * j + x) v) 0 sc := by
  apply List.ext_getElem?
  intro k
  rw [List.getElem?_set, sw_get, sw_get, sw_len, Nat.zero_add]
  by_cases e : j = k
  · subst e
    have hj : j < sc.length := (List.getElem?_eq_some_iff.mp h).1
    have e2 : upd (scF M j) x v = scF (mset M 2 (64 * j + x) v) j := by
      funext y
      unfold scF upd
      rw [mset_s]
      unfold upd
      by_cases h1 : y = x
      · subst h1; rw [if_pos rfl, if_pos hx, if_pos rfl]
      · rw [if_neg h1]
        show (if y < 64 then M.1 2 (64 * j + y) else 0) = _
        by_cases h2 : y < 64
        · rw [if_pos h2, if_pos h2, if_neg (by omega)]
        · rw [if_neg h2, if_neg h2]
    rw [if_pos rfl, if_pos hj, h, e2]
    rfl
  · rw [if_neg e]
    cases h2 : sc[k]? with
    | none => rfl
    | some q =>
      have e2 : scF M k = scF (mset M 2 (64 * j + x) v) k := by
        funext y
        unfold scF
        rw [mset_s]
        unfold upd
        by_cases h2 : y < 64
        · rw [if_pos h2, if_pos h2, if_neg (by omega)]
        · rw [if_neg h2, if_neg h2]
      rw [Option.map_some, Option.map_some, e2]
theorem cG_n2r {cy : Nat → ClassId} {ad : Nat → Nat} {h : Nat → Nat} {r : Nat → Int32} {k ci : Nat} {fs : List Value} (he : cG cy ad h r k = .inr (ci, fs)) : k ≠ 2 := by
  rintro rfl
  simp [cG, cGb] at he
theorem cG_n2i {cy : Nat → ClassId} {ad : Nat → Nat} {h : Nat → Nat} {r f : Nat → Int32} {k n : Nat} {cA : ClassId} (he : cG cy ad h r k = .inl (cA, n, .inl f)) : k ≠ 2 := by
  rintro rfl
  simp [cG, cGb] at he
theorem cG_2 {cy : Nat → ClassId} {ad : Nat → Nat} {h : Nat → Nat} {f g : Nat → Int32} : cG cy ad h f 2 = cG cy ad h g 2 := rfl
theorem wl_msets {cy : Nat → ClassId} {ad : Nat → Nat} {sc : List (Nat × Nat)} {M : Mm} {j a n x : Nat} {v : Int32} (h : sc[j]? = some (a, n)) (hx : x < 64) : (wl cy ad sc M).set (279 + j) (a, .inl (cy 1, n, .inl (upd (scF M j) x v))) = wl cy ad sc (mset M 2 (64 * j + x) v) := by
  unfold wl
  rw [List.set_append_right _ _ (by rw [fx_len]; omega), fx_len, Nat.add_sub_cancel_left, sw_set h hx]
  rw [fx_congr (M := M) (M' := mset M 2 (64 * j + x) v) (fun k hk => by
    by_cases e : k = 2
    · subst e; exact cG_2
    · rw [mset_n e]; rfl)]
def lg : List (Option Value) → Nat → Option Value
  | [], _ => none
  | a :: _, 0 => a
  | _ :: t, n + 1 => lg t n
def lset : List (Option Value) → Nat → Option Value → List (Option Value)
  | [], _, _ => []
  | _ :: t, 0, v => v :: t
  | a :: t, n + 1, v => a :: lset t n v
def la : Nat → List (Option Value) → List (Nat × Value)
  | _, [] => []
  | k, none :: t => la (k + 1) t
  | k, some v :: t => (k, v) :: la (k + 1) t
theorem la_mem {L : List (Option Value)} {k : Nat} {q : Nat × Value} : q ∈ la k L ↔ k ≤ q.1 ∧ lg L (q.1 - k) = some q.2 := by
  induction L generalizing k with
  | nil => simp [la, lg]
  | cons a t ih =>
    obtain ⟨i, v⟩ := q
    have h2 : (i, v) ∈ la (k + 1) t ↔ k + 1 ≤ i ∧ lg t (i - (k + 1)) = some v := ih
    rcases Nat.lt_trichotomy i k with h | h | h
    · cases a with
      | none => simp only [la]; rw [h2]; constructor <;> (intro g; omega)
      | some w => simp only [la, List.mem_cons, Prod.mk.injEq]; rw [h2]; constructor <;> (intro g; omega)
    · subst h
      rw [Nat.sub_self]
      cases a with
      | none => simp only [la, lg]; rw [h2]; constructor <;> intro g; omega; cases g.2
      | some w =>
        simp only [la, List.mem_cons, Prod.mk.injEq, lg]; rw [h2]
        constructor
        · intro g
          rcases g with g | g
          · exact ⟨Nat.le_refl _, by rw [g.2]⟩
          · omega
        · intro g
          exact Or.inl ⟨trivial, (Option.some.inj g.2).symm⟩
    · obtain ⟨d, rfl⟩ : ∃ d, i = k + 1 + d := ⟨i - (k + 1), by omega⟩
      have e1 : k + 1 + d - k = d + 1 := by omega
      have e2 : k + 1 + d - (k + 1) = d := by omega
      rw [e1]
      rw [e2] at h2
      cases a with
      | none => simp only [la, lg]; rw [h2]; constructor <;> (intro g; exact ⟨by omega, g.2⟩)
      | some w =>
        simp only [la, lg, List.mem_cons, Prod.mk.injEq]; rw [h2]
        constructor
        · intro g
          rcases g with g | g
          · omega
          · exact ⟨by omega, g.2⟩
        · intro g
          exact Or.inr ⟨by omega, g.2⟩
theorem lset_len {L : List (Option Value)} {i : Nat} {v : Option Value} : (lset L i v).length = L.length := by
  induction L generalizing i with
  | nil => rfl
  | cons a t ih =>
    cases i with
    | zero => rfl
    | succ n => show (lset t n v).length + 1 = t.length + 1; rw [ih]
theorem lg_lset_n {L : List (Option Value)} {i j : Nat} {v : Option Value} (h : j ≠ i) : lg (lset L i v) j = lg L j := by
  induction L generalizing i j with
  | nil => rfl
  | cons a t ih =>
    cases i with
    | zero => cases j with
      | zero => exact absurd rfl h
      | succ n => rfl
    | succ i => cases j with
      | zero => rfl
      | succ n => exact ih (fun e => h (by rw [e]))
theorem lg_lset_s {L : List (Option Value)} {i : Nat} {v w : Value} (h : lg (lset L i (some v)) i = some w) : w = v := by
  induction L generalizing i with
  | nil => cases h
  | cons a t ih =>
    cases i with
    | zero => exact (Option.some.inj h).symm
    | succ i => exact ih h
theorem lg_lset_o {L : List (Option Value)} {i : Nat} {w : Value} (h : lg (lset L i none) i = some w) : False := by
  induction L generalizing i with
  | nil => cases h
  | cons a t ih =>
    cases i with
    | zero => cases h
    | succ i => exact ih h
def lc (L : List (Option Value)) : Nat → Bool
  | 0 => true
  | j + 1 => match lg L j with
    | some (.long _) => false
    | some (.double _) => false
    | _ => true
theorem lc_spec {L : List (Option Value)} {i j : Nat} {v : Value} (h : lc L i = true) (hj : j + 1 = i) (hv : lg L j = some v) : v.category ≠ 2 := by
  subst hj
  intro hc
  simp only [lc, hv] at h
  cases v <;> simp_all [Value.category]
def lw (ls : Array Slot) (L : List (Option Value)) : Prop := lv_has ls L.length (la 0 L)
theorem lw_at {ls : Array Slot} {L : List (Option Value)} {i : Nat} {v : Value} (h : lw ls L) (hg : lg L i = some v) : ls[i]? = some (.val v) := h.2.2 (i, v) (la_mem.mpr ⟨Nat.zero_le _, hg⟩)
theorem lw_set1 {ls : Array Slot} {L : List (Option Value)} {i : Nat} {v : Value} (hc : lc L i = true) (h : lv_has ls L.length ((i, v) :: (la 0 L).filter (fun q => !(q.1 == i) && !(q.1 + 1 == i && q.2.category == 2)))) : lw ls (lset L i (some v)) := by
  refine ⟨by rw [lset_len]; exact h.1, h.2.1, fun q hq => h.2.2 q ?_⟩
  obtain ⟨j, w⟩ := q
  have hg : lg (lset L i (some v)) j = some w := (la_mem.mp hq).2
  by_cases hj : j = i
  · subst hj
    rw [lg_lset_s hg]
    exact List.mem_cons_self
  · rw [lg_lset_n hj] at hg
    refine List.mem_cons_of_mem _ (List.mem_filter.mpr ⟨la_mem.mpr ⟨Nat.zero_le _, hg⟩, ?_⟩)
    have h2 : j + 1 = i → w.category ≠ 2 := fun e => lc_spec hc e hg
    by_cases h3 : j + 1 = i
    · simp [hj, h2 h3]
    · simp [hj, h3]
theorem lw_set2 {ls : Array Slot} {L : List (Option Value)} {i : Nat} {v : Value} (hc : lc L i = true) (h : lv_has ls L.length ((i, v) :: (la 0 L).filter (fun q => !(q.1 == i) && (!(q.1 == i + 1) && !(q.1 + 1 == i && q.2.category == 2))))) : lw ls (lset (lset L i (some v)) (i + 1) none) := by
  refine ⟨by rw [lset_len, lset_len]; exact h.1, h.2.1, fun q hq => h.2.2 q ?_⟩
  obtain ⟨j, w⟩ := q
  have hg : lg (lset (lset L i (some v)) (i + 1) none) j = some w := (la_mem.mp hq).2
  by_cases h1 : j = i + 1
  · subst h1
    exact absurd hg (fun g => lg_lset_o g)
  · rw [lg_lset_n h1] at hg
    by_cases hj : j = i
    · subst hj
      rw [lg_lset_s hg]
      exact List.mem_cons_self
    · rw [lg_lset_n hj] at hg
      refine List.mem_cons_of_mem _ (List.mem_filter.mpr ⟨la_mem.mpr ⟨Nat.zero_le _, hg⟩, ?_⟩)
      have h2 : j + 1 = i → w.category ≠ 2 := fun e => lc_spec hc e hg
      by_cases h3 : j + 1 = i
      · simp [hj, h1, h2 h3]
      · simp [hj, h1, h3]
def lsub (L : List (Option Value)) : Nat → List (Option Value) → Prop
  | _, [] => True
  | k, none :: t => lsub L (k + 1) t
  | k, some v :: t => lg L k = some v ∧ lsub L (k + 1) t
theorem lsub_mem {L : List (Option Value)} {k : Nat} {L' : List (Option Value)} (h : lsub L k L') : ∀ q ∈ la k L', lg L q.1 = some q.2 := by
  induction L' generalizing k with
  | nil => intro q hq; cases hq
  | cons a t ih =>
    cases a with
    | none => exact ih h
    | some v =>
      intro q hq
      rcases List.mem_cons.mp hq with rfl | hq
      · exact h.1
      · exact ih h.2 q hq
theorem lw_sub {ls : Array Slot} {L L' : List (Option Value)} (hlen : L'.length = L.length) (h : lsub L 0 L') (hl : lw ls L) : lw ls L' :=
  ⟨by rw [hlen]; exact hl.1, hl.2.1, fun q hq => lw_at hl (lsub_mem h q hq)⟩
abbrev XT : Type := Program × Env × Room × State × MethodId × Array Value × List Frame × Method × Code × Nat × Nat × (State → Prop) × (Nat → Prop)
def V (Y : Yt) (X : XT) (M : Mm) (pc : Nat) (L : List (Option Value)) (st : List Value) : Prop :=
  match Y, X with
  | (l, D, cy, ad, z, sc), (p, e, R, s, m, args, below, meth, c, cells, slots, Q, A) =>
    ∀ (H : Heap) (locs : List Loc) (ls : Array Slot), va_P D vwCl (wl cy ad sc M) H → va_S A s.heap H locs → lw ls L → W p l e R s m args below meth c H locs cells slots Q (F0 m pc ls st)
def tq (cy : Nat → ClassId) : List (ClassId × FieldType) := [(cy 0, .char), (cy 1, .int), (cy 2, .int), (cy 3, .object "PointAnswers$Bundle"), (cy 4, .object "PointAnswers$Point")]
def nM : List (String × Nat × MethodName × String) := [("PointAnswers", 11, ⟨"PointAnswers$Bundle", "<init>", "()V"⟩, "PointAnswers"), ("PointAnswers$Bundle", 24, ⟨"PointAnswers$Point", "<init>", "()V"⟩, "PointAnswers"), ("PointAnswers", 18, ⟨"PointAnswers$Costs", "<init>", "()V"⟩, "PointAnswers"), ("PointAnswers", 25, ⟨"PointAnswers$Pad", "<init>", "()V"⟩, "PointAnswers"), ("PointAnswers", 32, ⟨"PointAnswers$Reader", "<init>", "()V"⟩, "PointAnswers"), ("PointAnswers", 39, ⟨"PointAnswers$History", "<init>", "()V"⟩, "PointAnswers"), ("PointAnswers$History", 17, ⟨"PointAnswers$Bundle", "<init>", "()V"⟩, "PointAnswers"), ("PointAnswers", 48, ⟨"PointAnswers$History", "prepare", "(LPointAnswers$Bundle;)V"⟩, "PointAnswers"), ("PointAnswers$History", 26, ⟨"PointAnswers$Bundle", "become", "(LPointAnswers$Bundle;)V"⟩, "PointAnswers"), ("PointAnswers$Bundle", 38, ⟨"PointAnswers$Point", "become", "(LPointAnswers$Point;)V"⟩, "PointAnswers"), ("PointAnswers", 52, ⟨"PointAnswers$Bundle", "adjust", "(II)I"⟩, "PointAnswers"), ("PointAnswers", 56, ⟨"PointAnswers$History", "settle", "(I)I"⟩, "PointAnswers"), ("PointAnswers", 60, ⟨"PointAnswers$Bundle", "fileClaim", "(III)I"⟩, "PointAnswers"), ("PointAnswers", 64, ⟨"PointAnswers$Bundle", "fileAnswer", "(III)I"⟩, "PointAnswers"), ("PointAnswers", 67, ⟨"PointAnswers$Bundle", "takeBack", "(I)I"⟩, "PointAnswers"), ("PointAnswers$Bundle", 86, ⟨"PointAnswers", "has", "(II)Z"⟩, "PointAnswers"), ("PointAnswers", 70, ⟨"PointAnswers$Bundle", "prolong", "(I)I"⟩, "PointAnswers"), ("PointAnswers", 73, ⟨"PointAnswers$Bundle", "turnCase", "(I)I"⟩, "PointAnswers"), ("PointAnswers", 76, ⟨"PointAnswers$Bundle", "moveOn", "(I)I"⟩, "PointAnswers"), ("PointAnswers", 79, ⟨"PointAnswers$Bundle", "find", "(I)LPointAnswers$Point;"⟩, "PointAnswers"), ("PointAnswers", 101, ⟨"PointAnswers$Bundle", "standing", "()I"⟩, "PointAnswers"), ("PointAnswers", 109, ⟨"PointAnswers$Bundle", "reasonAgainst", "(I)I"⟩, "PointAnswers"), ("PointAnswers", 112, ⟨"PointAnswers$Bundle", "answersTo", "(I)I"⟩, "PointAnswers"), ("PointAnswers", 118, ⟨"PointAnswers$Bundle", "depthOf", "(I)I"⟩, "PointAnswers"), ("PointAnswers", 121, ⟨"PointAnswers$Bundle", "daysLeft", "(LPointAnswers$Point;)I"⟩, "PointAnswers"), ("PointAnswers", 131, ⟨"PointAnswers$Bundle", "claims", "()I"⟩, "PointAnswers"), ("PointAnswers", 139, ⟨"PointAnswers$Bundle", "out", "()I"⟩, "PointAnswers"), ("PointAnswers", 142, ⟨"PointAnswers$Bundle", "answered", "()I"⟩, "PointAnswers"), ("PointAnswers", 145, ⟨"PointAnswers$Bundle", "withdrawn", "()I"⟩, "PointAnswers"), ("PointAnswers", 148, ⟨"PointAnswers$Bundle", "struck", "()I"⟩, "PointAnswers"), ("PointAnswers", 151, ⟨"PointAnswers$Bundle", "pagesOf", "(II)I"⟩, "PointAnswers"), ("PointAnswers", 169, ⟨"PointAnswers$Bundle", "ofSide", "(I)I"⟩, "PointAnswers"), ("PointAnswers", 184, ⟨"PointAnswers$Bundle", "standingIf", "(II)I"⟩, "PointAnswers"), ("PointAnswers", 187, ⟨"PointAnswers$Bundle", "withoutAnswers", "()I"⟩, "PointAnswers"), ("PointAnswers", 175, ⟨"PointAnswers$Costs", "weigh", "(LPointAnswers$Bundle;)V"⟩, "PointAnswers"), ("PointAnswers$Costs", 18, ⟨"PointAnswers$Bundle", "out", "()I"⟩, "PointAnswers"), ("PointAnswers$Costs", 24, ⟨"PointAnswers$Bundle", "withoutAnswers", "()I"⟩, "PointAnswers"), ("PointAnswers$Costs", 33, ⟨"PointAnswers$Bundle", "find", "(I)LPointAnswers$Point;"⟩, "PointAnswers"), ("PointAnswers$Costs", 37, ⟨"PointAnswers", "has", "(II)Z"⟩, "PointAnswers"), ("PointAnswers", 178, ⟨"PointAnswers$Costs", "answersToFall", "(I)I"⟩, "PointAnswers"), ("PointAnswers", 181, ⟨"PointAnswers$Costs", "answersToStand", "(I)I"⟩, "PointAnswers"), ("PointAnswers", 190, ⟨"PointAnswers$Bundle", "baseless", "()I"⟩, "PointAnswers"), ("PointAnswers", 193, ⟨"PointAnswers$Bundle", "lapsedOn", "(I)I"⟩, "PointAnswers")]
def nF : List (String × Nat × String × String × String × String) := [("PointAnswers$Bundle", 58, "PointAnswers$Point", "side", "I", "PointAnswers"), ("PointAnswers", 83, "PointAnswers$Point", "side", "I", "PointAnswers"), ("PointAnswers$Bundle", 61, "PointAnswers$Point", "pages", "I", "PointAnswers"), ("PointAnswers", 89, "PointAnswers$Point", "pages", "I", "PointAnswers"), ("PointAnswers$Bundle", 64, "PointAnswers$Point", "cases", "I", "PointAnswers"), ("PointAnswers", 98, "PointAnswers$Point", "cases", "I", "PointAnswers"), ("PointAnswers$Costs", 41, "PointAnswers$Point", "target", "I", "PointAnswers"), ("PointAnswers$Bundle", 67, "PointAnswers$Point", "target", "I", "PointAnswers"), ("PointAnswers", 95, "PointAnswers$Point", "target", "I", "PointAnswers"), ("PointAnswers$Bundle", 70, "PointAnswers$Point", "filed", "I", "PointAnswers"), ("PointAnswers", 92, "PointAnswers$Point", "filed", "I", "PointAnswers"), ("PointAnswers$Bundle", 73, "PointAnswers$Point", "lastsFrom", "I", "PointAnswers"), ("PointAnswers$Bundle", 54, "PointAnswers$Point", "withdrawn", "Z", "PointAnswers"), ("PointAnswers", 128, "PointAnswers$Bundle", "size", "I", "PointAnswers"), ("PointAnswers", 125, "PointAnswers$Bundle", "day", "I", "PointAnswers"), ("PointAnswers", 154, "PointAnswers$Bundle", "overruled", "I", "PointAnswers"), ("PointAnswers", 157, "PointAnswers$Bundle", "lapse", "I", "PointAnswers"), ("PointAnswers", 160, "PointAnswers$Bundle", "allowedPages", "I", "PointAnswers"), ("PointAnswers", 163, "PointAnswers$Pad", "length", "I", "PointAnswers"), ("PointAnswers", 166, "PointAnswers$History", "kept", "I", "PointAnswers")]
def Nn (U : State) : Prop := (∀ q ∈ nM, va_Nw (.methodLinkNest q.1 q.2.1 q.2.2.1 q.2.2.2) U) ∧ (∀ q ∈ nF, va_Nw (.fieldLinkNest q.1 q.2.1 q.2.2.1 q.2.2.2.1 q.2.2.2.2.1 q.2.2.2.2.2) U)
theorem Nn.warm {s U : State} (hW : s.WarmedH U.vm) (h : Nn s) : Nn U := ⟨fun q hq => va_Nw.warmM hW (h.1 q hq), fun q hq => va_Nw.warmF hW (h.2 q hq)⟩
theorem Nn.same {s U : State} (hv : s.vm = U.vm) (h : Nn s) : Nn U := ⟨fun q hq => va_Nw.same rfl hv (h.1 q hq), fun q hq => va_Nw.same rfl hv (h.2 q hq)⟩
def fA (z : Nat) : Nat → Prop := fun q => z ≤ q
def Dd (cy : Nat → ClassId) (ad : Nat → Nat) (z : Nat) (sc : List (Nat × Nat)) : Prop := ∀ M : Mm, va_D (fA z) (wl cy ad sc M)
theorem wl_D {cy : Nat → ClassId} {ad : Nat → Nat} {z : Nat} {sc : List (Nat × Nat)} {A : Nat → Prop} {C : Prop} (hd : Dd cy ad z sc) (hA : A = fA z ∧ C) (M : Mm) : va_D A (wl cy ad sc M) := by
  rw [hA.1]
  exact hd M
theorem zl_of {D : va_G} {cy : Nat → ClassId} {ad : Nat → Nat} {z : Nat} {sc : List (Nat × Nat)} (hdd : Dd cy ad z sc) {M : Mm} {H : Heap} (hP : va_P D vwCl (wl cy ad sc M) H) : z ≤ H.size := by
  have hg : (wl cy ad sc M)[0]? = some (ad 0, _) := wl_get (by decide) rfl
  have h1 : z ≤ ad 0 := (hdd M).2 0 _ hg
  have h2 : ad 0 < H.size := (hP 0 _ hg).lt
  exact Nat.le_trans h1 (Nat.le_of_lt h2)
def vOK (Y : Yt) (X : XT) (ins : List (Nat × Instr × Nat)) (nL : Nat) (own : String) (rm : Room) (ret : Option FieldType) : Prop :=
  match Y, X with
  | (l, D, cy, ad, z, sc), (p, e, R, s, m, args, below, meth, c, cells, slots, Q, A) =>
    p.tables.exec = Jvm.exec ∧ (∀ i q, gi ins i = some q → decode c.code q.1 = .ok q.2) ∧ c.maxLocals = nL ∧ (∀ w ∈ wT, w.before args s = true) ∧ s.vm.findClass own = some m.cls ∧ va_K D vwCl (tq cy) s ∧ (Dd cy ad z sc ∧ (A = fA z ∧ z ≤ s.heap.size)) ∧ Nn s ∧ R = rm ∧ meth.sig.returnType = ret ∧ meth.locks = false ∧ cells ≤ R.cells ∧ slots ≤ R.slots
def vQ (Y : Yt) (X : XT) (rv : Option Value) (M' : Mm) : Prop :=
  match Y, X with
  | (l, D, cy, ad, z, sc), (p, e, R, s, m, args, below, meth, c, cells, slots, Q, A) =>
    Q = MQ below (fun _ st oc t => oc = .returned rv ∧ va_P D vwCl (wl cy ad sc M') t.heap ∧ va_F (fA z) st t) args s cells slots (fA z) ∧ A = fA z
def wd (Y : Yt) (M : Mm) (U : State) : Prop :=
  match Y with
  | (l, D, cy, ad, z, sc) => va_P D vwCl (wl cy ad sc M) U.heap ∧ va_K D vwCl (tq cy) U ∧ Dd cy ad z sc ∧ Nn U
def Fn (Y : Yt) (y : MethodName) (ws : List Cond) (rm : Room) (As : List Value) (M : Mm) (rv : Option Value) (M' : Mm) : Prop :=
  match Y with
  | (l, D, cy, ad, z, sc) => Met l y ws rm (va_Pc As (wd (l, D, cy, ad, z, sc) M)) (fun _ st oc t => oc = .returned rv ∧ va_P D vwCl (wl cy ad sc M') t.heap ∧ va_F (fA z) st t) 0 0 (fA z)
theorem Fn.of {Y : Yt} {y : MethodName} {rm : Room} {As : List Value} {M M' : Mm} {rv : Option Value} {cc : ByteArray} {ins : List (Nat × Instr × Nat)} {maxL : Nat} {ret : Option FieldType} (hy : plainName y.cls = true) (hdc : ins.all (fun q => decide (decode cc q.1 = .ok q.2)) = true) (L0 : List (Option Value)) (hen : (lg_sl As).length ≤ maxL) (hL0 : L0.length = maxL) (hsub : la 0 L0 = lv_args 0 As)
    (body : ∀ X : XT, vOK Y X ins maxL y.cls rm ret → vQ Y X rv M' → V Y X M 0 L0 []) : Fn Y y (Cond.code y cc maxL ret :: wT) rm As M rv M' := by
  obtain ⟨l, D, cy, ad, z, sc⟩ := Y
  refine Met.ofW (cc := cc) (maxL := maxL) (ret := ret) hy rfl ?_
  intro p e s m args below meth c s₁ B hml hv
  obtain ⟨rfl, hP, hK, hD, hN⟩ := hv
  have hl := lv_entry As hen
  rw [← hsub] at hl
  rw [lg_entry_eq]
  exact body (p, e, rm, s, m, As.toArray, below, meth, c, 0, 0, MQ below (fun _ st oc t => oc = .returned rv ∧ va_P D vwCl (wl cy ad sc M') t.heap ∧ va_F (fA z) st t) As.toArray s 0 0 (fA z), fA z)
    ⟨B.exec, by rw [B.bytes]; exact dcd hdc, hml, fun w hw => atoms_spec (ws := Cond.code y cc maxL ret :: wT) B.pre w (List.mem_cons_of_mem _ hw), findClass_of_methodNamed B.named, hK, ⟨hD, rfl, zl_of hD hP⟩, hN, rfl, B.returns, B.notSynchronized, Nat.zero_le _, Nat.zero_le _⟩ ⟨rfl, rfl⟩ s.heap [] _ hP va_S.rf (by subst hL0; exact hl)
section VV
variable {Y : Yt} {X : XT} {M M' : Mm} {pc : Nat} {L : List (Option Value)} {st : List Value} {ins : List (Nat × Instr × Nat)} {nL : Nat} {own : String} {rm : Room} {ret : Option FieldType}
theorem v_iconst (hX : vOK Y X ins nL own rm ret) {n : Int} {v : Int32} (ix : Nat) (hd : gi ins ix = some (pc, .iconst n, 1)) (hv : Int32.ofInt n = v) (kk : V Y X M (pc + 1) L (.int v :: st)) : V Y X M pc L st := by
  obtain ⟨l, D, cy, ad, z, sc⟩ := Y
  obtain ⟨p, e, R, s, m, args, below, meth, c, cells, slots, Q, A⟩ := X
  obtain ⟨hx, hcd, hml, hts, hown, hK, ⟨hdd, hda⟩, hN, rfl, hret, hlk, hcl, hsl⟩ := hX
  intro H locs ls hP hS hl
  have hd := hcd ix _ hd
  exact lv_iconst hx rfl hd hv (kk H locs ls hP hS hl)
theorem v_bipush (hX : vOK Y X ins nL own rm ret) {n : Int} {v : Int32} (ix : Nat) (hd : gi ins ix = some (pc, .bipush n, 2)) (hv : (Int8.ofInt n).toInt32 = v) (kk : V Y X M (pc + 2) L (.int v :: st)) : V Y X M pc L st := by
  obtain ⟨l, D, cy, ad, z, sc⟩ := Y
  obtain ⟨p, e, R, s, m, args, below, meth, c, cells, slots, Q, A⟩ := X
  obtain ⟨hx, hcd, hml, hts, hown, hK, ⟨hdd, hda⟩, hN, rfl, hret, hlk, hcl, hsl⟩ := hX
  intro H locs ls hP hS hl
  have hd := hcd ix _ hd
  exact lv_bipush hx rfl hd hv (kk H locs ls hP hS hl)
theorem v_sipush (hX : vOK Y X ins nL own rm ret) {n : Int} {v : Int32} (ix : Nat) (hd : gi ins ix = some (pc, .sipush n, 3)) (hv : (Int16.ofInt n).toInt32 = v) (kk : V Y X M (pc + 3) L (.int v :: st)) : V Y X M pc L st := by
  obtain ⟨l, D, cy, ad, z, sc⟩ := Y
  obtain ⟨p, e, R, s, m, args, below, meth, c, cells, slots, Q, A⟩ := X
  obtain ⟨hx, hcd, hml, hts, hown, hK, ⟨hdd, hda⟩, hN, rfl, hret, hlk, hcl, hsl⟩ := hX
  intro H locs ls hP hS hl
  have hd := hcd ix _ hd
  exact lv_sipush hx rfl hd hv (kk H locs ls hP hS hl)
theorem v_lconst (hX : vOK Y X ins nL own rm ret) {n : Fin 2} {v : Int64} (ix : Nat) (hd : gi ins ix = some (pc, .lconst n, 1)) (hv : Int64.ofNat (n : Nat) = v) (kk : V Y X M (pc + 1) L (.long v :: st)) : V Y X M pc L st := by
  obtain ⟨l, D, cy, ad, z, sc⟩ := Y
  obtain ⟨p, e, R, s, m, args, below, meth, c, cells, slots, Q, A⟩ := X
  obtain ⟨hx, hcd, hml, hts, hown, hK, ⟨hdd, hda⟩, hN, rfl, hret, hlk, hcl, hsl⟩ := hX
  intro H locs ls hP hS hl
  have hd := hcd ix _ hd
  exact lv_lconst hx rfl hd hv (kk H locs ls hP hS hl)
theorem v_null (hX : vOK Y X ins nL own rm ret) (ix : Nat) (hd : gi ins ix = some (pc, .aconst_null, 1)) (kk : V Y X M (pc + 1) L (.null :: st)) : V Y X M pc L st := by
  obtain ⟨l, D, cy, ad, z, sc⟩ := Y
  obtain ⟨p, e, R, s, m, args, below, meth, c, cells, slots, Q, A⟩ := X
  obtain ⟨hx, hcd, hml, hts, hown, hK, ⟨hdd, hda⟩, hN, rfl, hret, hlk, hcl, hsl⟩ := hX
  intro H locs ls hP hS hl
  have hd := hcd ix _ hd
  exact lv_null hx rfl hd (kk H locs ls hP hS hl)
theorem v_iload_n (hX : vOK Y X ins nL own rm ret) {k : Fin 4} (i : Nat) {x : Int32} (ix : Nat) (hd : gi ins ix = some (pc, .iload_n k, 1)) (hi : (k : Nat) = i) (hg : lg L i = some (.int x)) (kk : V Y X M (pc + 1) L (.int x :: st)) : V Y X M pc L st := by
  obtain ⟨l, D, cy, ad, z, sc⟩ := Y
  obtain ⟨p, e, R, s, m, args, below, meth, c, cells, slots, Q, A⟩ := X
  obtain ⟨hx, hcd, hml, hts, hown, hK, ⟨hdd, hda⟩, hN, rfl, hret, hlk, hcl, hsl⟩ := hX
  intro H locs ls hP hS hl
  have hd := hcd ix _ hd
  exact lv_iload_n hx rfl hd hi (lw_at hl hg) (kk H locs ls hP hS hl)
theorem v_iload (hX : vOK Y X ins nL own rm ret) {i : Nat} {x : Int32} (ix : Nat) (hd : gi ins ix = some (pc, .iload i, 2)) (hg : lg L i = some (.int x)) (kk : V Y X M (pc + 2) L (.int x :: st)) : V Y X M pc L st := by
  obtain ⟨l, D, cy, ad, z, sc⟩ := Y
  obtain ⟨p, e, R, s, m, args, below, meth, c, cells, slots, Q, A⟩ := X
  obtain ⟨hx, hcd, hml, hts, hown, hK, ⟨hdd, hda⟩, hN, rfl, hret, hlk, hcl, hsl⟩ := hX
  intro H locs ls hP hS hl
  have hd := hcd ix _ hd
  exact lv_iload hx rfl hd (lw_at hl hg) (kk H locs ls hP hS hl)
theorem v_lload_n (hX : vOK Y X ins nL own rm ret) {k : Fin 4} (i : Nat) {x : Int64} (ix : Nat) (hd : gi ins ix = some (pc, .lload_n k, 1)) (hi : (k : Nat) = i) (hg : lg L i = some (.long x)) (kk : V Y X M (pc + 1) L (.long x :: st)) : V Y X M pc L st := by
  obtain ⟨l, D, cy, ad, z, sc⟩ := Y
  obtain ⟨p, e, R, s, m, args, below, meth, c, cells, slots, Q, A⟩ := X
  obtain ⟨hx, hcd, hml, hts, hown, hK, ⟨hdd, hda⟩, hN, rfl, hret, hlk, hcl, hsl⟩ := hX
  intro H locs ls hP hS hl
  have hd := hcd ix _ hd
  exact lv_lload_n hx rfl hd hi (lw_at hl hg) (kk H locs ls hP hS hl)
theorem v_lload (hX : vOK Y X ins nL own rm ret) {i : Nat} {x : Int64} (ix : Nat) (hd : gi ins ix = some (pc, .lload i, 2)) (hg : lg L i = some (.long x)) (kk : V Y X M (pc + 2) L (.long x :: st)) : V Y X M pc L st := by
  obtain ⟨l, D, cy, ad, z, sc⟩ := Y
  obtain ⟨p, e, R, s, m, args, below, meth, c, cells, slots, Q, A⟩ := X
  obtain ⟨hx, hcd, hml, hts, hown, hK, ⟨hdd, hda⟩, hN, rfl, hret, hlk, hcl, hsl⟩ := hX
  intro H locs ls hP hS hl
  have hd := hcd ix _ hd
  exact lv_lload hx rfl hd (lw_at hl hg) (kk H locs ls hP hS hl)
theorem v_aload_n (hX : vOK Y X ins nL own rm ret) {k : Fin 4} (i : Nat) {x : Nat} (ix : Nat) (hd : gi ins ix = some (pc, .aload_n k, 1)) (hi : (k : Nat) = i) (hg : lg L i = some (.ref x)) (kk : V Y X M (pc + 1) L (.ref x :: st)) : V Y X M pc L st := by
  obtain ⟨l, D, cy, ad, z, sc⟩ := Y
  obtain ⟨p, e, R, s, m, args, below, meth, c, cells, slots, Q, A⟩ := X
  obtain ⟨hx, hcd, hml, hts, hown, hK, ⟨hdd, hda⟩, hN, rfl, hret, hlk, hcl, hsl⟩ := hX
  intro H locs ls hP hS hl
  have hd := hcd ix _ hd
  exact lv_aload_n hx rfl hd hi (lw_at hl hg) (kk H locs ls hP hS hl)
theorem v_aload (hX : vOK Y X ins nL own rm ret) {i : Nat} {x : Nat} (ix : Nat) (hd : gi ins ix = some (pc, .aload i, 2)) (hg : lg L i = some (.ref x)) (kk : V Y X M (pc + 2) L (.ref x :: st)) : V Y X M pc L st := by
  obtain ⟨l, D, cy, ad, z, sc⟩ := Y
  obtain ⟨p, e, R, s, m, args, below, meth, c, cells, slots, Q, A⟩ := X
  obtain ⟨hx, hcd, hml, hts, hown, hK, ⟨hdd, hda⟩, hN, rfl, hret, hlk, hcl, hsl⟩ := hX
  intro H locs ls hP hS hl
  have hd := hcd ix _ hd
  exact lv_aload hx rfl hd (lw_at hl hg) (kk H locs ls hP hS hl)
theorem v_aload_nN (hX : vOK Y X ins nL own rm ret) {k : Fin 4} (i : Nat) (ix : Nat) (hd : gi ins ix = some (pc, .aload_n k, 1)) (hi : (k : Nat) = i) (hg : lg L i = some .null) (kk : V Y X M (pc + 1) L (.null :: st)) : V Y X M pc L st := by
  obtain ⟨l, D, cy, ad, z, sc⟩ := Y
  obtain ⟨p, e, R, s, m, args, below, meth, c, cells, slots, Q, A⟩ := X
  obtain ⟨hx, hcd, hml, hts, hown, hK, ⟨hdd, hda⟩, hN, rfl, hret, hlk, hcl, hsl⟩ := hX
  intro H locs ls hP hS hl
  have hd := hcd ix _ hd
  exact lv_aload_nN hx rfl hd hi (lw_at hl hg) (kk H locs ls hP hS hl)
theorem v_aloadN (hX : vOK Y X ins nL own rm ret) {i : Nat} (ix : Nat) (hd : gi ins ix = some (pc, .aload i, 2)) (hg : lg L i = some .null) (kk : V Y X M (pc + 2) L (.null :: st)) : V Y X M pc L st := by
  obtain ⟨l, D, cy, ad, z, sc⟩ := Y
  obtain ⟨p, e, R, s, m, args, below, meth, c, cells, slots, Q, A⟩ := X
  obtain ⟨hx, hcd, hml, hts, hown, hK, ⟨hdd, hda⟩, hN, rfl, hret, hlk, hcl, hsl⟩ := hX
  intro H locs ls hP hS hl
  have hd := hcd ix _ hd
  exact lv_aloadN hx rfl hd (lw_at hl hg) (kk H locs ls hP hS hl)
theorem v_istore_n (hX : vOK Y X ins nL own rm ret) {k : Fin 4} (i : Nat) {x : Int32} (ix : Nat) (hd : gi ins ix = some (pc, .istore_n k, 1)) (hi : (k : Nat) = i) (hn : i < L.length) (hc : lc L i = true) (kk : V Y X M (pc + 1) (lset L i (some (.int x))) st) : V Y X M pc L (.int x :: st) := by
  obtain ⟨l, D, cy, ad, z, sc⟩ := Y
  obtain ⟨p, e, R, s, m, args, below, meth, c, cells, slots, Q, A⟩ := X
  obtain ⟨hx, hcd, hml, hts, hown, hK, ⟨hdd, hda⟩, hN, rfl, hret, hlk, hcl, hsl⟩ := hX
  intro H locs ls hP hS hl
  have hd := hcd ix _ hd
  exact lv_istore_n hx rfl hd hi hl hn rfl (fun ls2 h2 => kk H locs ls2 hP hS (lw_set1 hc h2))
theorem v_istore (hX : vOK Y X ins nL own rm ret) {i : Nat} {x : Int32} (ix : Nat) (hd : gi ins ix = some (pc, .istore i, 2)) (hn : i < L.length) (hc : lc L i = true) (kk : V Y X M (pc + 2) (lset L i (some (.int x))) st) : V Y X M pc L (.int x :: st) := by
  obtain ⟨l, D, cy, ad, z, sc⟩ := Y
  obtain ⟨p, e, R, s, m, args, below, meth, c, cells, slots, Q, A⟩ := X
  obtain ⟨hx, hcd, hml, hts, hown, hK, ⟨hdd, hda⟩, hN, rfl, hret, hlk, hcl, hsl⟩ := hX
  intro H locs ls hP hS hl
  have hd := hcd ix _ hd
  exact lv_istore hx rfl hd hl hn rfl (fun ls2 h2 => kk H locs ls2 hP hS (lw_set1 hc h2))
theorem v_astore_n (hX : vOK Y X ins nL own rm ret) {k : Fin 4} (i : Nat) {x : Nat} (ix : Nat) (hd : gi ins ix = some (pc, .astore_n k, 1)) (hi : (k : Nat) = i) (hn : i < L.length) (hc : lc L i = true) (kk : V Y X M (pc + 1) (lset L i (some (.ref x))) st) : V Y X M pc L (.ref x :: st) := by
  obtain ⟨l, D, cy, ad, z, sc⟩ := Y
  obtain ⟨p, e, R, s, m, args, below, meth, c, cells, slots, Q, A⟩ := X
  obtain ⟨hx, hcd, hml, hts, hown, hK, ⟨hdd, hda⟩, hN, rfl, hret, hlk, hcl, hsl⟩ := hX
  intro H locs ls hP hS hl
  have hd := hcd ix _ hd
  exact lv_astore_n hx rfl hd hi hl hn rfl (fun ls2 h2 => kk H locs ls2 hP hS (lw_set1 hc h2))
theorem v_astore (hX : vOK Y X ins nL own rm ret) {i : Nat} {x : Nat} (ix : Nat) (hd : gi ins ix = some (pc, .astore i, 2)) (hn : i < L.length) (hc : lc L i = true) (kk : V Y X M (pc + 2) (lset L i (some (.ref x))) st) : V Y X M pc L (.ref x :: st) := by
  obtain ⟨l, D, cy, ad, z, sc⟩ := Y
  obtain ⟨p, e, R, s, m, args, below, meth, c, cells, slots, Q, A⟩ := X
  obtain ⟨hx, hcd, hml, hts, hown, hK, ⟨hdd, hda⟩, hN, rfl, hret, hlk, hcl, hsl⟩ := hX
  intro H locs ls hP hS hl
  have hd := hcd ix _ hd
  exact lv_astore hx rfl hd hl hn rfl (fun ls2 h2 => kk H locs ls2 hP hS (lw_set1 hc h2))
theorem v_astore_nN (hX : vOK Y X ins nL own rm ret) {k : Fin 4} (i : Nat) (ix : Nat) (hd : gi ins ix = some (pc, .astore_n k, 1)) (hi : (k : Nat) = i) (hn : i < L.length) (hc : lc L i = true) (kk : V Y X M (pc + 1) (lset L i (some .null)) st) : V Y X M pc L (.null :: st) := by
  obtain ⟨l, D, cy, ad, z, sc⟩ := Y
  obtain ⟨p, e, R, s, m, args, below, meth, c, cells, slots, Q, A⟩ := X
  obtain ⟨hx, hcd, hml, hts, hown, hK, ⟨hdd, hda⟩, hN, rfl, hret, hlk, hcl, hsl⟩ := hX
  intro H locs ls hP hS hl
  have hd := hcd ix _ hd
  exact lv_astore_nN hx rfl hd hi hl hn rfl (fun ls2 h2 => kk H locs ls2 hP hS (lw_set1 hc h2))
theorem v_astoreN (hX : vOK Y X ins nL own rm ret) {i : Nat} (ix : Nat) (hd : gi ins ix = some (pc, .astore i, 2)) (hn : i < L.length) (hc : lc L i = true) (kk : V Y X M (pc + 2) (lset L i (some .null)) st) : V Y X M pc L (.null :: st) := by
  obtain ⟨l, D, cy, ad, z, sc⟩ := Y
  obtain ⟨p, e, R, s, m, args, below, meth, c, cells, slots, Q, A⟩ := X
  obtain ⟨hx, hcd, hml, hts, hown, hK, ⟨hdd, hda⟩, hN, rfl, hret, hlk, hcl, hsl⟩ := hX
  intro H locs ls hP hS hl
  have hd := hcd ix _ hd
  exact lv_astoreN hx rfl hd hl hn rfl (fun ls2 h2 => kk H locs ls2 hP hS (lw_set1 hc h2))
theorem v_lstore_n (hX : vOK Y X ins nL own rm ret) {k : Fin 4} (i : Nat) {x : Int64} (ix : Nat) (hd : gi ins ix = some (pc, .lstore_n k, 1)) (hi : (k : Nat) = i) (hn : i + 1 < L.length) (hc : lc L i = true) (kk : V Y X M (pc + 1) (lset (lset L i (some (.long x))) (i + 1) none) st) : V Y X M pc L (.long x :: st) := by
  obtain ⟨l, D, cy, ad, z, sc⟩ := Y
  obtain ⟨p, e, R, s, m, args, below, meth, c, cells, slots, Q, A⟩ := X
  obtain ⟨hx, hcd, hml, hts, hown, hK, ⟨hdd, hda⟩, hN, rfl, hret, hlk, hcl, hsl⟩ := hX
  intro H locs ls hP hS hl
  have hd := hcd ix _ hd
  exact lv_lstore_n hx rfl hd hi hl hn rfl (fun ls2 h2 => kk H locs ls2 hP hS (lw_set2 hc h2))
theorem v_lstore (hX : vOK Y X ins nL own rm ret) {i : Nat} {x : Int64} (ix : Nat) (hd : gi ins ix = some (pc, .lstore i, 2)) (hn : i + 1 < L.length) (hc : lc L i = true) (kk : V Y X M (pc + 2) (lset (lset L i (some (.long x))) (i + 1) none) st) : V Y X M pc L (.long x :: st) := by
  obtain ⟨l, D, cy, ad, z, sc⟩ := Y
  obtain ⟨p, e, R, s, m, args, below, meth, c, cells, slots, Q, A⟩ := X
  obtain ⟨hx, hcd, hml, hts, hown, hK, ⟨hdd, hda⟩, hN, rfl, hret, hlk, hcl, hsl⟩ := hX
  intro H locs ls hP hS hl
  have hd := hcd ix _ hd
  exact lv_lstore hx rfl hd hl hn rfl (fun ls2 h2 => kk H locs ls2 hP hS (lw_set2 hc h2))
theorem v_iinc (hX : vOK Y X ins nL own rm ret) {i : Nat} {n : Int} {x v : Int32} (ix : Nat) (hd : gi ins ix = some (pc, .iinc i n, 3)) (hg : lg L i = some (.int x)) (hv : x + Int32.ofInt n = v) (hn : i < L.length) (hc : lc L i = true) (kk : V Y X M (pc + 3) (lset L i (some (.int v))) st) : V Y X M pc L st := by
  obtain ⟨l, D, cy, ad, z, sc⟩ := Y
  obtain ⟨p, e, R, s, m, args, below, meth, c, cells, slots, Q, A⟩ := X
  obtain ⟨hx, hcd, hml, hts, hown, hK, ⟨hdd, hda⟩, hN, rfl, hret, hlk, hcl, hsl⟩ := hX
  intro H locs ls hP hS hl
  have hd := hcd ix _ hd
  obtain ⟨q, hq⟩ : ∃ q, (la 0 L)[q]? = some (i, Value.int x) := List.getElem?_of_mem (la_mem.mpr ⟨Nat.zero_le _, hg⟩)
  exact lv_iinc hx rfl hd hl hq hv hn rfl (fun ls2 h2 => kk H locs ls2 hP hS (lw_set1 hc h2))
theorem v_iadd (hX : vOK Y X ins nL own rm ret) {x y : Int32} (ix : Nat) (hd : gi ins ix = some (pc, .iadd, 1)) (kk : V Y X M (pc + 1) L (.int (x + y) :: st)) : V Y X M pc L (.int y :: .int x :: st) := by
  obtain ⟨l, D, cy, ad, z, sc⟩ := Y
  obtain ⟨p, e, R, s, m, args, below, meth, c, cells, slots, Q, A⟩ := X
  obtain ⟨hx, hcd, hml, hts, hown, hK, ⟨hdd, hda⟩, hN, rfl, hret, hlk, hcl, hsl⟩ := hX
  intro H locs ls hP hS hl
  have hd := hcd ix _ hd
  exact lv_iadd hx rfl hd (kk H locs ls hP hS hl)
theorem v_isub (hX : vOK Y X ins nL own rm ret) {x y : Int32} (ix : Nat) (hd : gi ins ix = some (pc, .isub, 1)) (kk : V Y X M (pc + 1) L (.int (x - y) :: st)) : V Y X M pc L (.int y :: .int x :: st) := by
  obtain ⟨l, D, cy, ad, z, sc⟩ := Y
  obtain ⟨p, e, R, s, m, args, below, meth, c, cells, slots, Q, A⟩ := X
  obtain ⟨hx, hcd, hml, hts, hown, hK, ⟨hdd, hda⟩, hN, rfl, hret, hlk, hcl, hsl⟩ := hX
  intro H locs ls hP hS hl
  have hd := hcd ix _ hd
  exact lv_isub hx rfl hd (kk H locs ls hP hS hl)
theorem v_imul (hX : vOK Y X ins nL own rm ret) {x y : Int32} (ix : Nat) (hd : gi ins ix = some (pc, .imul, 1)) (kk : V Y X M (pc + 1) L (.int (x * y) :: st)) : V Y X M pc L (.int y :: .int x :: st) := by
  obtain ⟨l, D, cy, ad, z, sc⟩ := Y
  obtain ⟨p, e, R, s, m, args, below, meth, c, cells, slots, Q, A⟩ := X
  obtain ⟨hx, hcd, hml, hts, hown, hK, ⟨hdd, hda⟩, hN, rfl, hret, hlk, hcl, hsl⟩ := hX
  intro H locs ls hP hS hl
  have hd := hcd ix _ hd
  exact lv_imul hx rfl hd (kk H locs ls hP hS hl)
theorem v_iand (hX : vOK Y X ins nL own rm ret) {x y : Int32} (ix : Nat) (hd : gi ins ix = some (pc, .iand, 1)) (kk : V Y X M (pc + 1) L (.int (x &&& y) :: st)) : V Y X M pc L (.int y :: .int x :: st) := by
  obtain ⟨l, D, cy, ad, z, sc⟩ := Y
  obtain ⟨p, e, R, s, m, args, below, meth, c, cells, slots, Q, A⟩ := X
  obtain ⟨hx, hcd, hml, hts, hown, hK, ⟨hdd, hda⟩, hN, rfl, hret, hlk, hcl, hsl⟩ := hX
  intro H locs ls hP hS hl
  have hd := hcd ix _ hd
  exact lv_iand hx rfl hd (kk H locs ls hP hS hl)
theorem v_ior (hX : vOK Y X ins nL own rm ret) {x y : Int32} (ix : Nat) (hd : gi ins ix = some (pc, .ior, 1)) (kk : V Y X M (pc + 1) L (.int (x ||| y) :: st)) : V Y X M pc L (.int y :: .int x :: st) := by
  obtain ⟨l, D, cy, ad, z, sc⟩ := Y
  obtain ⟨p, e, R, s, m, args, below, meth, c, cells, slots, Q, A⟩ := X
  obtain ⟨hx, hcd, hml, hts, hown, hK, ⟨hdd, hda⟩, hN, rfl, hret, hlk, hcl, hsl⟩ := hX
  intro H locs ls hP hS hl
  have hd := hcd ix _ hd
  exact lv_ior hx rfl hd (kk H locs ls hP hS hl)
theorem v_ixor (hX : vOK Y X ins nL own rm ret) {x y : Int32} (ix : Nat) (hd : gi ins ix = some (pc, .ixor, 1)) (kk : V Y X M (pc + 1) L (.int (x ^^^ y) :: st)) : V Y X M pc L (.int y :: .int x :: st) := by
  obtain ⟨l, D, cy, ad, z, sc⟩ := Y
  obtain ⟨p, e, R, s, m, args, below, meth, c, cells, slots, Q, A⟩ := X
  obtain ⟨hx, hcd, hml, hts, hown, hK, ⟨hdd, hda⟩, hN, rfl, hret, hlk, hcl, hsl⟩ := hX
  intro H locs ls hP hS hl
  have hd := hcd ix _ hd
  exact lv_ixor hx rfl hd (kk H locs ls hP hS hl)
theorem v_ishl (hX : vOK Y X ins nL own rm ret) {x y : Int32} (ix : Nat) (hd : gi ins ix = some (pc, .ishl, 1)) (kk : V Y X M (pc + 1) L (.int (x <<< (y &&& 31)) :: st)) : V Y X M pc L (.int y :: .int x :: st) := by
  obtain ⟨l, D, cy, ad, z, sc⟩ := Y
  obtain ⟨p, e, R, s, m, args, below, meth, c, cells, slots, Q, A⟩ := X
  obtain ⟨hx, hcd, hml, hts, hown, hK, ⟨hdd, hda⟩, hN, rfl, hret, hlk, hcl, hsl⟩ := hX
  intro H locs ls hP hS hl
  have hd := hcd ix _ hd
  exact lv_ishl hx rfl hd (kk H locs ls hP hS hl)
theorem v_ishr (hX : vOK Y X ins nL own rm ret) {x y : Int32} (ix : Nat) (hd : gi ins ix = some (pc, .ishr, 1)) (kk : V Y X M (pc + 1) L (.int (x >>> (y &&& 31)) :: st)) : V Y X M pc L (.int y :: .int x :: st) := by
  obtain ⟨l, D, cy, ad, z, sc⟩ := Y
  obtain ⟨p, e, R, s, m, args, below, meth, c, cells, slots, Q, A⟩ := X
  obtain ⟨hx, hcd, hml, hts, hown, hK, ⟨hdd, hda⟩, hN, rfl, hret, hlk, hcl, hsl⟩ := hX
  intro H locs ls hP hS hl
  have hd := hcd ix _ hd
  exact lv_ishr hx rfl hd (kk H locs ls hP hS hl)
theorem v_iushr (hX : vOK Y X ins nL own rm ret) {x y v : Int32} (ix : Nat) (hd : gi ins ix = some (pc, .iushr, 1)) (hv : (x.toUInt32 >>> (y.toUInt32 &&& Int32.toUInt32 31)).toInt32 = v) (kk : V Y X M (pc + 1) L (.int v :: st)) : V Y X M pc L (.int y :: .int x :: st) := by
  obtain ⟨l, D, cy, ad, z, sc⟩ := Y
  obtain ⟨p, e, R, s, m, args, below, meth, c, cells, slots, Q, A⟩ := X
  obtain ⟨hx, hcd, hml, hts, hown, hK, ⟨hdd, hda⟩, hN, rfl, hret, hlk, hcl, hsl⟩ := hX
  intro H locs ls hP hS hl
  have hd := hcd ix _ hd
  exact lv_iushr hx rfl hd hv (kk H locs ls hP hS hl)
theorem v_ladd (hX : vOK Y X ins nL own rm ret) {x y : Int64} (ix : Nat) (hd : gi ins ix = some (pc, .ladd, 1)) (kk : V Y X M (pc + 1) L (.long (x + y) :: st)) : V Y X M pc L (.long y :: .long x :: st) := by
  obtain ⟨l, D, cy, ad, z, sc⟩ := Y
  obtain ⟨p, e, R, s, m, args, below, meth, c, cells, slots, Q, A⟩ := X
  obtain ⟨hx, hcd, hml, hts, hown, hK, ⟨hdd, hda⟩, hN, rfl, hret, hlk, hcl, hsl⟩ := hX
  intro H locs ls hP hS hl
  have hd := hcd ix _ hd
  exact lv_ladd hx rfl hd (kk H locs ls hP hS hl)
theorem v_lsub (hX : vOK Y X ins nL own rm ret) {x y : Int64} (ix : Nat) (hd : gi ins ix = some (pc, .lsub, 1)) (kk : V Y X M (pc + 1) L (.long (x - y) :: st)) : V Y X M pc L (.long y :: .long x :: st) := by
  obtain ⟨l, D, cy, ad, z, sc⟩ := Y
  obtain ⟨p, e, R, s, m, args, below, meth, c, cells, slots, Q, A⟩ := X
  obtain ⟨hx, hcd, hml, hts, hown, hK, ⟨hdd, hda⟩, hN, rfl, hret, hlk, hcl, hsl⟩ := hX
  intro H locs ls hP hS hl
  have hd := hcd ix _ hd
  exact lv_lsub hx rfl hd (kk H locs ls hP hS hl)
theorem v_lmul (hX : vOK Y X ins nL own rm ret) {x y : Int64} (ix : Nat) (hd : gi ins ix = some (pc, .lmul, 1)) (kk : V Y X M (pc + 1) L (.long (x * y) :: st)) : V Y X M pc L (.long y :: .long x :: st) := by
  obtain ⟨l, D, cy, ad, z, sc⟩ := Y
  obtain ⟨p, e, R, s, m, args, below, meth, c, cells, slots, Q, A⟩ := X
  obtain ⟨hx, hcd, hml, hts, hown, hK, ⟨hdd, hda⟩, hN, rfl, hret, hlk, hcl, hsl⟩ := hX
  intro H locs ls hP hS hl
  have hd := hcd ix _ hd
  exact lv_lmul hx rfl hd (kk H locs ls hP hS hl)
theorem v_land (hX : vOK Y X ins nL own rm ret) {x y : Int64} (ix : Nat) (hd : gi ins ix = some (pc, .land, 1)) (kk : V Y X M (pc + 1) L (.long (x &&& y) :: st)) : V Y X M pc L (.long y :: .long x :: st) := by
  obtain ⟨l, D, cy, ad, z, sc⟩ := Y
  obtain ⟨p, e, R, s, m, args, below, meth, c, cells, slots, Q, A⟩ := X
  obtain ⟨hx, hcd, hml, hts, hown, hK, ⟨hdd, hda⟩, hN, rfl, hret, hlk, hcl, hsl⟩ := hX
  intro H locs ls hP hS hl
  have hd := hcd ix _ hd
  exact lv_land hx rfl hd (kk H locs ls hP hS hl)
theorem v_lor (hX : vOK Y X ins nL own rm ret) {x y : Int64} (ix : Nat) (hd : gi ins ix = some (pc, .lor, 1)) (kk : V Y X M (pc + 1) L (.long (x ||| y) :: st)) : V Y X M pc L (.long y :: .long x :: st) := by
  obtain ⟨l, D, cy, ad, z, sc⟩ := Y
  obtain ⟨p, e, R, s, m, args, below, meth, c, cells, slots, Q, A⟩ := X
  obtain ⟨hx, hcd, hml, hts, hown, hK, ⟨hdd, hda⟩, hN, rfl, hret, hlk, hcl, hsl⟩ := hX
  intro H locs ls hP hS hl
  have hd := hcd ix _ hd
  exact lv_lor hx rfl hd (kk H locs ls hP hS hl)
theorem v_ldiv (hX : vOK Y X ins nL own rm ret) {x y : Int64} (hne : ¬ y = 0) (ix : Nat) (hd : gi ins ix = some (pc, .ldiv, 1)) (kk : V Y X M (pc + 1) L (.long (x / y) :: st)) : V Y X M pc L (.long y :: .long x :: st) := by
  obtain ⟨l, D, cy, ad, z, sc⟩ := Y
  obtain ⟨p, e, R, s, m, args, below, meth, c, cells, slots, Q, A⟩ := X
  obtain ⟨hx, hcd, hml, hts, hown, hK, ⟨hdd, hda⟩, hN, rfl, hret, hlk, hcl, hsl⟩ := hX
  intro H locs ls hP hS hl
  have hd := hcd ix _ hd
  exact lv_ldiv hx rfl hd hne (kk H locs ls hP hS hl)
theorem v_lrem (hX : vOK Y X ins nL own rm ret) {x y : Int64} (hne : ¬ y = 0) (ix : Nat) (hd : gi ins ix = some (pc, .lrem, 1)) (kk : V Y X M (pc + 1) L (.long (x - x / y * y) :: st)) : V Y X M pc L (.long y :: .long x :: st) := by
  obtain ⟨l, D, cy, ad, z, sc⟩ := Y
  obtain ⟨p, e, R, s, m, args, below, meth, c, cells, slots, Q, A⟩ := X
  obtain ⟨hx, hcd, hml, hts, hown, hK, ⟨hdd, hda⟩, hN, rfl, hret, hlk, hcl, hsl⟩ := hX
  intro H locs ls hP hS hl
  have hd := hcd ix _ hd
  exact lv_lrem hx rfl hd hne (kk H locs ls hP hS hl)
theorem v_lushr (hX : vOK Y X ins nL own rm ret) {x : Int64} {y : Int32} {v : Int64} (ix : Nat) (hd : gi ins ix = some (pc, .lushr, 1)) (hv : (x.toUInt64 >>> (y.toInt64.toUInt64 &&& Int64.toUInt64 63)).toInt64 = v) (kk : V Y X M (pc + 1) L (.long v :: st)) : V Y X M pc L (.int y :: .long x :: st) := by
  obtain ⟨l, D, cy, ad, z, sc⟩ := Y
  obtain ⟨p, e, R, s, m, args, below, meth, c, cells, slots, Q, A⟩ := X
  obtain ⟨hx, hcd, hml, hts, hown, hK, ⟨hdd, hda⟩, hN, rfl, hret, hlk, hcl, hsl⟩ := hX
  intro H locs ls hP hS hl
  have hd := hcd ix _ hd
  exact lv_lushr hx rfl hd hv (kk H locs ls hP hS hl)
theorem v_lshl (hX : vOK Y X ins nL own rm ret) {x : Int64} {y : Int32} {v : Int64} (ix : Nat) (hd : gi ins ix = some (pc, .lshl, 1)) (hv : x <<< (y.toInt64 &&& 63) = v) (kk : V Y X M (pc + 1) L (.long v :: st)) : V Y X M pc L (.int y :: .long x :: st) := by
  obtain ⟨l, D, cy, ad, z, sc⟩ := Y
  obtain ⟨p, e, R, s, m, args, below, meth, c, cells, slots, Q, A⟩ := X
  obtain ⟨hx, hcd, hml, hts, hown, hK, ⟨hdd, hda⟩, hN, rfl, hret, hlk, hcl, hsl⟩ := hX
  intro H locs ls hP hS hl
  have hd := hcd ix _ hd
  exact lv_lshl hx rfl hd hv (kk H locs ls hP hS hl)
theorem v_i2l (hX : vOK Y X ins nL own rm ret) {x : Int32} {v : Int64} (ix : Nat) (hd : gi ins ix = some (pc, .i2l, 1)) (hv : x.toInt64 = v) (kk : V Y X M (pc + 1) L (.long v :: st)) : V Y X M pc L (.int x :: st) := by
  obtain ⟨l, D, cy, ad, z, sc⟩ := Y
  obtain ⟨p, e, R, s, m, args, below, meth, c, cells, slots, Q, A⟩ := X
  obtain ⟨hx, hcd, hml, hts, hown, hK, ⟨hdd, hda⟩, hN, rfl, hret, hlk, hcl, hsl⟩ := hX
  intro H locs ls hP hS hl
  have hd := hcd ix _ hd
  exact lv_i2l hx rfl hd hv (kk H locs ls hP hS hl)
theorem v_l2i (hX : vOK Y X ins nL own rm ret) {x : Int64} {v : Int32} (ix : Nat) (hd : gi ins ix = some (pc, .l2i, 1)) (hv : x.toInt32 = v) (kk : V Y X M (pc + 1) L (.int v :: st)) : V Y X M pc L (.long x :: st) := by
  obtain ⟨l, D, cy, ad, z, sc⟩ := Y
  obtain ⟨p, e, R, s, m, args, below, meth, c, cells, slots, Q, A⟩ := X
  obtain ⟨hx, hcd, hml, hts, hown, hK, ⟨hdd, hda⟩, hN, rfl, hret, hlk, hcl, hsl⟩ := hX
  intro H locs ls hP hS hl
  have hd := hcd ix _ hd
  exact lv_l2i hx rfl hd hv (kk H locs ls hP hS hl)
theorem v_i2c (hX : vOK Y X ins nL own rm ret) {x : Int32} {v : Int32} (ix : Nat) (hd : gi ins ix = some (pc, .i2c, 1)) (hv : (x.toUInt32 % 65536).toInt32 = v) (kk : V Y X M (pc + 1) L (.int v :: st)) : V Y X M pc L (.int x :: st) := by
  obtain ⟨l, D, cy, ad, z, sc⟩ := Y
  obtain ⟨p, e, R, s, m, args, below, meth, c, cells, slots, Q, A⟩ := X
  obtain ⟨hx, hcd, hml, hts, hown, hK, ⟨hdd, hda⟩, hN, rfl, hret, hlk, hcl, hsl⟩ := hX
  intro H locs ls hP hS hl
  have hd := hcd ix _ hd
  exact lv_i2c hx rfl hd hv (kk H locs ls hP hS hl)
theorem v_lcmp (hX : vOK Y X ins nL own rm ret) {x y : Int64} (ix : Nat) (hd : gi ins ix = some (pc, .lcmp, 1)) (kk : V Y X M (pc + 1) L (.int (lg_cmp x y) :: st)) : V Y X M pc L (.long y :: .long x :: st) := by
  obtain ⟨l, D, cy, ad, z, sc⟩ := Y
  obtain ⟨p, e, R, s, m, args, below, meth, c, cells, slots, Q, A⟩ := X
  obtain ⟨hx, hcd, hml, hts, hown, hK, ⟨hdd, hda⟩, hN, rfl, hret, hlk, hcl, hsl⟩ := hX
  intro H locs ls hP hS hl
  have hd := hcd ix _ hd
  exact W.lcmp hx rfl hd (kk H locs ls hP hS hl)
theorem v_dup (hX : vOK Y X ins nL own rm ret) {v : Value} (ix : Nat) (hd : gi ins ix = some (pc, .dup, 1)) (hc : v.category = 1) (kk : V Y X M (pc + 1) L (v :: v :: st)) : V Y X M pc L (v :: st) := by
  obtain ⟨l, D, cy, ad, z, sc⟩ := Y
  obtain ⟨p, e, R, s, m, args, below, meth, c, cells, slots, Q, A⟩ := X
  obtain ⟨hx, hcd, hml, hts, hown, hK, ⟨hdd, hda⟩, hN, rfl, hret, hlk, hcl, hsl⟩ := hX
  intro H locs ls hP hS hl
  have hd := hcd ix _ hd
  exact lv_dup hx rfl hd hc (kk H locs ls hP hS hl)
theorem v_dup2 (hX : vOK Y X ins nL own rm ret) {a b : Value} (ix : Nat) (hd : gi ins ix = some (pc, .dup2, 1)) (h1 : a.category = 1) (h2 : b.category = 1) (kk : V Y X M (pc + 1) L (a :: b :: a :: b :: st)) : V Y X M pc L (a :: b :: st) := by
  obtain ⟨l, D, cy, ad, z, sc⟩ := Y
  obtain ⟨p, e, R, s, m, args, below, meth, c, cells, slots, Q, A⟩ := X
  obtain ⟨hx, hcd, hml, hts, hown, hK, ⟨hdd, hda⟩, hN, rfl, hret, hlk, hcl, hsl⟩ := hX
  intro H locs ls hP hS hl
  have hd := hcd ix _ hd
  exact lv_dup2_11 hx rfl hd h1 h2 (kk H locs ls hP hS hl)
theorem v_pop (hX : vOK Y X ins nL own rm ret) {v : Value} (ix : Nat) (hd : gi ins ix = some (pc, .pop, 1)) (hc : v.category = 1) (kk : V Y X M (pc + 1) L st) : V Y X M pc L (v :: st) := by
  obtain ⟨l, D, cy, ad, z, sc⟩ := Y
  obtain ⟨p, e, R, s, m, args, below, meth, c, cells, slots, Q, A⟩ := X
  obtain ⟨hx, hcd, hml, hts, hown, hK, ⟨hdd, hda⟩, hN, rfl, hret, hlk, hcl, hsl⟩ := hX
  intro H locs ls hP hS hl
  have hd := hcd ix _ hd
  exact lv_pop hx rfl hd hc (kk H locs ls hP hS hl)
theorem v_dup_x1 (hX : vOK Y X ins nL own rm ret) {a b : Value} (ix : Nat) (hd : gi ins ix = some (pc, .dup_x1, 1)) (h1 : a.category = 1) (h2 : b.category = 1) (kk : V Y X M (pc + 1) L (a :: b :: a :: st)) : V Y X M pc L (a :: b :: st) := by
  obtain ⟨l, D, cy, ad, z, sc⟩ := Y
  obtain ⟨p, e, R, s, m, args, below, meth, c, cells, slots, Q, A⟩ := X
  obtain ⟨hx, hcd, hml, hts, hown, hK, ⟨hdd, hda⟩, hN, rfl, hret, hlk, hcl, hsl⟩ := hX
  intro H locs ls hP hS hl
  have hd := hcd ix _ hd
  exact lv_dup_x1 hx rfl hd h1 h2 (kk H locs ls hP hS hl)
theorem v_if_eq (hX : vOK Y X ins nL own rm ret) {x : Int32} {off : Int} {tgt : Nat} (ix : Nat) (hd : gi ins ix = some (pc, .ifCond .eq off, 3)) (ht : (pc : Int) + off = (tgt : Int)) (kt : x = 0 → V Y X M tgt L st) (kf : ¬ x = 0 → V Y X M (pc + 3) L st) : V Y X M pc L (.int x :: st) := by
  obtain ⟨l, D, cy, ad, z, sc⟩ := Y
  obtain ⟨p, e, R, s, m, args, below, meth, c, cells, slots, Q, A⟩ := X
  obtain ⟨hx, hcd, hml, hts, hown, hK, ⟨hdd, hda⟩, hN, rfl, hret, hlk, hcl, hsl⟩ := hX
  intro H locs ls hP hS hl
  have hd := hcd ix _ hd
  exact lv_if_eq hx rfl hd ht (fun h => kt h H locs ls hP hS hl) (fun h => kf h H locs ls hP hS hl)
theorem v_icmp_eq (hX : vOK Y X ins nL own rm ret) {x y : Int32} {off : Int} {tgt : Nat} (ix : Nat) (hd : gi ins ix = some (pc, .if_icmp .eq off, 3)) (ht : (pc : Int) + off = (tgt : Int)) (kt : x = y → V Y X M tgt L st) (kf : ¬ x = y → V Y X M (pc + 3) L st) : V Y X M pc L (.int y :: .int x :: st) := by
  obtain ⟨l, D, cy, ad, z, sc⟩ := Y
  obtain ⟨p, e, R, s, m, args, below, meth, c, cells, slots, Q, A⟩ := X
  obtain ⟨hx, hcd, hml, hts, hown, hK, ⟨hdd, hda⟩, hN, rfl, hret, hlk, hcl, hsl⟩ := hX
  intro H locs ls hP hS hl
  have hd := hcd ix _ hd
  exact lv_icmp_eq hx rfl hd ht (fun h => kt h H locs ls hP hS hl) (fun h => kf h H locs ls hP hS hl)
theorem v_if_ne (hX : vOK Y X ins nL own rm ret) {x : Int32} {off : Int} {tgt : Nat} (ix : Nat) (hd : gi ins ix = some (pc, .ifCond .ne off, 3)) (ht : (pc : Int) + off = (tgt : Int)) (kt : ¬ x = 0 → V Y X M tgt L st) (kf : x = 0 → V Y X M (pc + 3) L st) : V Y X M pc L (.int x :: st) := by
  obtain ⟨l, D, cy, ad, z, sc⟩ := Y
  obtain ⟨p, e, R, s, m, args, below, meth, c, cells, slots, Q, A⟩ := X
  obtain ⟨hx, hcd, hml, hts, hown, hK, ⟨hdd, hda⟩, hN, rfl, hret, hlk, hcl, hsl⟩ := hX
  intro H locs ls hP hS hl
  have hd := hcd ix _ hd
  exact lv_if_ne hx rfl hd ht (fun h => kt h H locs ls hP hS hl) (fun h => kf h H locs ls hP hS hl)
theorem v_icmp_ne (hX : vOK Y X ins nL own rm ret) {x y : Int32} {off : Int} {tgt : Nat} (ix : Nat) (hd : gi ins ix = some (pc, .if_icmp .ne off, 3)) (ht : (pc : Int) + off = (tgt : Int)) (kt : ¬ x = y → V Y X M tgt L st) (kf : x = y → V Y X M (pc + 3) L st) : V Y X M pc L (.int y :: .int x :: st) := by
  obtain ⟨l, D, cy, ad, z, sc⟩ := Y
  obtain ⟨p, e, R, s, m, args, below, meth, c, cells, slots, Q, A⟩ := X
  obtain ⟨hx, hcd, hml, hts, hown, hK, ⟨hdd, hda⟩, hN, rfl, hret, hlk, hcl, hsl⟩ := hX
  intro H locs ls hP hS hl
  have hd := hcd ix _ hd
  exact lv_icmp_ne hx rfl hd ht (fun h => kt h H locs ls hP hS hl) (fun h => kf h H locs ls hP hS hl)
theorem v_if_lt (hX : vOK Y X ins nL own rm ret) {x : Int32} {off : Int} {tgt : Nat} (ix : Nat) (hd : gi ins ix = some (pc, .ifCond .lt off, 3)) (ht : (pc : Int) + off = (tgt : Int)) (kt : x < 0 → V Y X M tgt L st) (kf : ¬ x < 0 → V Y X M (pc + 3) L st) : V Y X M pc L (.int x :: st) := by
  obtain ⟨l, D, cy, ad, z, sc⟩ := Y
  obtain ⟨p, e, R, s, m, args, below, meth, c, cells, slots, Q, A⟩ := X
  obtain ⟨hx, hcd, hml, hts, hown, hK, ⟨hdd, hda⟩, hN, rfl, hret, hlk, hcl, hsl⟩ := hX
  intro H locs ls hP hS hl
  have hd := hcd ix _ hd
  exact lv_if_lt hx rfl hd ht (fun h => kt h H locs ls hP hS hl) (fun h => kf h H locs ls hP hS hl)
theorem v_icmp_lt (hX : vOK Y X ins nL own rm ret) {x y : Int32} {off : Int} {tgt : Nat} (ix : Nat) (hd : gi ins ix = some (pc, .if_icmp .lt off, 3)) (ht : (pc : Int) + off = (tgt : Int)) (kt : x < y → V Y X M tgt L st) (kf : ¬ x < y → V Y X M (pc + 3) L st) : V Y X M pc L (.int y :: .int x :: st) := by
  obtain ⟨l, D, cy, ad, z, sc⟩ := Y
  obtain ⟨p, e, R, s, m, args, below, meth, c, cells, slots, Q, A⟩ := X
  obtain ⟨hx, hcd, hml, hts, hown, hK, ⟨hdd, hda⟩, hN, rfl, hret, hlk, hcl, hsl⟩ := hX
  intro H locs ls hP hS hl
  have hd := hcd ix _ hd
  exact lv_icmp_lt hx rfl hd ht (fun h => kt h H locs ls hP hS hl) (fun h => kf h H locs ls hP hS hl)
theorem v_if_ge (hX : vOK Y X ins nL own rm ret) {x : Int32} {off : Int} {tgt : Nat} (ix : Nat) (hd : gi ins ix = some (pc, .ifCond .ge off, 3)) (ht : (pc : Int) + off = (tgt : Int)) (kt : 0 ≤ x → V Y X M tgt L st) (kf : ¬ 0 ≤ x → V Y X M (pc + 3) L st) : V Y X M pc L (.int x :: st) := by
  obtain ⟨l, D, cy, ad, z, sc⟩ := Y
  obtain ⟨p, e, R, s, m, args, below, meth, c, cells, slots, Q, A⟩ := X
  obtain ⟨hx, hcd, hml, hts, hown, hK, ⟨hdd, hda⟩, hN, rfl, hret, hlk, hcl, hsl⟩ := hX
  intro H locs ls hP hS hl
  have hd := hcd ix _ hd
  exact lv_if_ge hx rfl hd ht (fun h => kt h H locs ls hP hS hl) (fun h => kf h H locs ls hP hS hl)
theorem v_icmp_ge (hX : vOK Y X ins nL own rm ret) {x y : Int32} {off : Int} {tgt : Nat} (ix : Nat) (hd : gi ins ix = some (pc, .if_icmp .ge off, 3)) (ht : (pc : Int) + off = (tgt : Int)) (kt : y ≤ x → V Y X M tgt L st) (kf : ¬ y ≤ x → V Y X M (pc + 3) L st) : V Y X M pc L (.int y :: .int x :: st) := by
  obtain ⟨l, D, cy, ad, z, sc⟩ := Y
  obtain ⟨p, e, R, s, m, args, below, meth, c, cells, slots, Q, A⟩ := X
  obtain ⟨hx, hcd, hml, hts, hown, hK, ⟨hdd, hda⟩, hN, rfl, hret, hlk, hcl, hsl⟩ := hX
  intro H locs ls hP hS hl
  have hd := hcd ix _ hd
  exact lv_icmp_ge hx rfl hd ht (fun h => kt h H locs ls hP hS hl) (fun h => kf h H locs ls hP hS hl)
theorem v_if_gt (hX : vOK Y X ins nL own rm ret) {x : Int32} {off : Int} {tgt : Nat} (ix : Nat) (hd : gi ins ix = some (pc, .ifCond .gt off, 3)) (ht : (pc : Int) + off = (tgt : Int)) (kt : 0 < x → V Y X M tgt L st) (kf : ¬ 0 < x → V Y X M (pc + 3) L st) : V Y X M pc L (.int x :: st) := by
  obtain ⟨l, D, cy, ad, z, sc⟩ := Y
  obtain ⟨p, e, R, s, m, args, below, meth, c, cells, slots, Q, A⟩ := X
  obtain ⟨hx, hcd, hml, hts, hown, hK, ⟨hdd, hda⟩, hN, rfl, hret, hlk, hcl, hsl⟩ := hX
  intro H locs ls hP hS hl
  have hd := hcd ix _ hd
  exact lv_if_gt hx rfl hd ht (fun h => kt h H locs ls hP hS hl) (fun h => kf h H locs ls hP hS hl)
theorem v_icmp_gt (hX : vOK Y X ins nL own rm ret) {x y : Int32} {off : Int} {tgt : Nat} (ix : Nat) (hd : gi ins ix = some (pc, .if_icmp .gt off, 3)) (ht : (pc : Int) + off = (tgt : Int)) (kt : y < x → V Y X M tgt L st) (kf : ¬ y < x → V Y X M (pc + 3) L st) : V Y X M pc L (.int y :: .int x :: st) := by
  obtain ⟨l, D, cy, ad, z, sc⟩ := Y
  obtain ⟨p, e, R, s, m, args, below, meth, c, cells, slots, Q, A⟩ := X
  obtain ⟨hx, hcd, hml, hts, hown, hK, ⟨hdd, hda⟩, hN, rfl, hret, hlk, hcl, hsl⟩ := hX
  intro H locs ls hP hS hl
  have hd := hcd ix _ hd
  exact lv_icmp_gt hx rfl hd ht (fun h => kt h H locs ls hP hS hl) (fun h => kf h H locs ls hP hS hl)
theorem v_if_le (hX : vOK Y X ins nL own rm ret) {x : Int32} {off : Int} {tgt : Nat} (ix : Nat) (hd : gi ins ix = some (pc, .ifCond .le off, 3)) (ht : (pc : Int) + off = (tgt : Int)) (kt : x ≤ 0 → V Y X M tgt L st) (kf : ¬ x ≤ 0 → V Y X M (pc + 3) L st) : V Y X M pc L (.int x :: st) := by
  obtain ⟨l, D, cy, ad, z, sc⟩ := Y
  obtain ⟨p, e, R, s, m, args, below, meth, c, cells, slots, Q, A⟩ := X
  obtain ⟨hx, hcd, hml, hts, hown, hK, ⟨hdd, hda⟩, hN, rfl, hret, hlk, hcl, hsl⟩ := hX
  intro H locs ls hP hS hl
  have hd := hcd ix _ hd
  exact lv_if_le hx rfl hd ht (fun h => kt h H locs ls hP hS hl) (fun h => kf h H locs ls hP hS hl)
theorem v_icmp_le (hX : vOK Y X ins nL own rm ret) {x y : Int32} {off : Int} {tgt : Nat} (ix : Nat) (hd : gi ins ix = some (pc, .if_icmp .le off, 3)) (ht : (pc : Int) + off = (tgt : Int)) (kt : x ≤ y → V Y X M tgt L st) (kf : ¬ x ≤ y → V Y X M (pc + 3) L st) : V Y X M pc L (.int y :: .int x :: st) := by
  obtain ⟨l, D, cy, ad, z, sc⟩ := Y
  obtain ⟨p, e, R, s, m, args, below, meth, c, cells, slots, Q, A⟩ := X
  obtain ⟨hx, hcd, hml, hts, hown, hK, ⟨hdd, hda⟩, hN, rfl, hret, hlk, hcl, hsl⟩ := hX
  intro H locs ls hP hS hl
  have hd := hcd ix _ hd
  exact lv_icmp_le hx rfl hd ht (fun h => kt h H locs ls hP hS hl) (fun h => kf h H locs ls hP hS hl)
theorem v_goto (hX : vOK Y X ins nL own rm ret) {off : Int} {tgt : Nat} (ix : Nat) (hd : gi ins ix = some (pc, .goto off, 3)) (ht : (pc : Int) + off = (tgt : Int)) (kk : V Y X M tgt L st) : V Y X M pc L st := by
  obtain ⟨l, D, cy, ad, z, sc⟩ := Y
  obtain ⟨p, e, R, s, m, args, below, meth, c, cells, slots, Q, A⟩ := X
  obtain ⟨hx, hcd, hml, hts, hown, hK, ⟨hdd, hda⟩, hN, rfl, hret, hlk, hcl, hsl⟩ := hX
  intro H locs ls hP hS hl
  have hd := hcd ix _ hd
  exact lv_goto hx rfl hd ht (kk H locs ls hP hS hl)
theorem v_ifnull (hX : vOK Y X ins nL own rm ret) {x : Nat} {off : Int} (ix : Nat) (hd : gi ins ix = some (pc, .ifnull off, 3)) (kk : V Y X M (pc + 3) L st) : V Y X M pc L (.ref x :: st) := by
  obtain ⟨l, D, cy, ad, z, sc⟩ := Y
  obtain ⟨p, e, R, s, m, args, below, meth, c, cells, slots, Q, A⟩ := X
  obtain ⟨hx, hcd, hml, hts, hown, hK, ⟨hdd, hda⟩, hN, rfl, hret, hlk, hcl, hsl⟩ := hX
  intro H locs ls hP hS hl
  have hd := hcd ix _ hd
  exact lv_ifnull hx rfl hd (kk H locs ls hP hS hl)
theorem v_ifnullN (hX : vOK Y X ins nL own rm ret) {off : Int} {tgt : Nat} (ix : Nat) (hd : gi ins ix = some (pc, .ifnull off, 3)) (ht : (pc : Int) + off = (tgt : Int)) (kk : V Y X M tgt L st) : V Y X M pc L (.null :: st) := by
  obtain ⟨l, D, cy, ad, z, sc⟩ := Y
  obtain ⟨p, e, R, s, m, args, below, meth, c, cells, slots, Q, A⟩ := X
  obtain ⟨hx, hcd, hml, hts, hown, hK, ⟨hdd, hda⟩, hN, rfl, hret, hlk, hcl, hsl⟩ := hX
  intro H locs ls hP hS hl
  have hd := hcd ix _ hd
  exact lv_ifnullN hx rfl hd ht (kk H locs ls hP hS hl)
theorem v_ifnonnull (hX : vOK Y X ins nL own rm ret) {x : Nat} {off : Int} {tgt : Nat} (ix : Nat) (hd : gi ins ix = some (pc, .ifnonnull off, 3)) (ht : (pc : Int) + off = (tgt : Int)) (kk : V Y X M tgt L st) : V Y X M pc L (.ref x :: st) := by
  obtain ⟨l, D, cy, ad, z, sc⟩ := Y
  obtain ⟨p, e, R, s, m, args, below, meth, c, cells, slots, Q, A⟩ := X
  obtain ⟨hx, hcd, hml, hts, hown, hK, ⟨hdd, hda⟩, hN, rfl, hret, hlk, hcl, hsl⟩ := hX
  intro H locs ls hP hS hl
  have hd := hcd ix _ hd
  exact lv_ifnonnull hx rfl hd ht (kk H locs ls hP hS hl)
theorem v_ifnonnullN (hX : vOK Y X ins nL own rm ret) {off : Int} (ix : Nat) (hd : gi ins ix = some (pc, .ifnonnull off, 3)) (kk : V Y X M (pc + 3) L st) : V Y X M pc L (.null :: st) := by
  obtain ⟨l, D, cy, ad, z, sc⟩ := Y
  obtain ⟨p, e, R, s, m, args, below, meth, c, cells, slots, Q, A⟩ := X
  obtain ⟨hx, hcd, hml, hts, hown, hK, ⟨hdd, hda⟩, hN, rfl, hret, hlk, hcl, hsl⟩ := hX
  intro H locs ls hP hS hl
  have hd := hcd ix _ hd
  exact lv_ifnonnullN hx rfl hd (kk H locs ls hP hS hl)
theorem v_tableIn (hX : vOK Y X ins nL own rm ret) {dflt lo hi : Int} {offs : Array Int} {len : Nat} {x : Int32} {off : Int} {tgt : Nat} (ix : Nat) (hd : gi ins ix = some (pc, .tableswitch dflt lo hi offs, len)) (h1 : ¬ x.toInt < lo) (h2 : ¬ hi < x.toInt) (ho : offs[(x.toInt - lo).toNat]? = some off) (ht : (pc : Int) + off = (tgt : Int)) (kk : V Y X M tgt L st) : V Y X M pc L (.int x :: st) := by
  obtain ⟨l, D, cy, ad, z, sc⟩ := Y
  obtain ⟨p, e, R, s, m, args, below, meth, c, cells, slots, Q, A⟩ := X
  obtain ⟨hx, hcd, hml, hts, hown, hK, ⟨hdd, hda⟩, hN, rfl, hret, hlk, hcl, hsl⟩ := hX
  intro H locs ls hP hS hl
  have hd := hcd ix _ hd
  exact lv_tableIn hx rfl hd h1 h2 ho ht (kk H locs ls hP hS hl)
theorem v_tableOut (hX : vOK Y X ins nL own rm ret) {dflt lo hi : Int} {offs : Array Int} {len : Nat} {x : Int32} {tgt : Nat} (ix : Nat) (hd : gi ins ix = some (pc, .tableswitch dflt lo hi offs, len)) (h : x.toInt < lo ∨ hi < x.toInt) (ht : (pc : Int) + dflt = (tgt : Int)) (kk : V Y X M tgt L st) : V Y X M pc L (.int x :: st) := by
  obtain ⟨l, D, cy, ad, z, sc⟩ := Y
  obtain ⟨p, e, R, s, m, args, below, meth, c, cells, slots, Q, A⟩ := X
  obtain ⟨hx, hcd, hml, hts, hown, hK, ⟨hdd, hda⟩, hN, rfl, hret, hlk, hcl, hsl⟩ := hX
  intro H locs ls hP hS hl
  have hd := hcd ix _ hd
  exact lv_tableOut hx rfl hd h ht (kk H locs ls hP hS hl)
theorem v_lookup (hX : vOK Y X ins nL own rm ret) {dflt : Int} {ps : Array (Int × Int)} {len : Nat} {x : Int32} {off : Int} {tgt : Nat} (ix : Nat) (hd : gi ins ix = some (pc, .lookupswitch dflt ps, len)) (hp : (ps.toList.zip (ps.toList.drop 1)).all (fun (a, next) => a.1 < next.1) = true) (ho : Op.lookupswitch.offset ps.toList dflt x.toInt = off) (ht : (pc : Int) + off = (tgt : Int)) (kk : V Y X M tgt L st) : V Y X M pc L (.int x :: st) := by
  obtain ⟨l, D, cy, ad, z, sc⟩ := Y
  obtain ⟨p, e, R, s, m, args, below, meth, c, cells, slots, Q, A⟩ := X
  obtain ⟨hx, hcd, hml, hts, hown, hK, ⟨hdd, hda⟩, hN, rfl, hret, hlk, hcl, hsl⟩ := hX
  intro H locs ls hP hS hl
  have hd := hcd ix _ hd
  exact lv_lookup hx rfl hd hp ho ht (kk H locs ls hP hS hl)
theorem v_ldcw (hX : vOK Y X ins nL own rm ret) {index : Nat} {v : Int32} (hm : Cond.constant own index v ∈ wT) (ix : Nat) (hd : gi ins ix = some (pc, .ldc_w index, 3)) (kk : V Y X M (pc + 3) L (.int v :: st)) : V Y X M pc L st := by
  obtain ⟨l, D, cy, ad, z, sc⟩ := Y
  obtain ⟨p, e, R, s, m, args, below, meth, c, cells, slots, Q, A⟩ := X
  obtain ⟨hx, hcd, hml, hts, hown, hK, ⟨hdd, hda⟩, hN, rfl, hret, hlk, hcl, hsl⟩ := hX
  intro H locs ls hP hS hl
  have hd := hcd ix _ hd
  exact lv_ldcw hx rfl hown (hts _ hm) hd (kk H locs ls hP hS hl)
theorem v_ldc (hX : vOK Y X ins nL own rm ret) {index : Nat} {v : Int32} (hm : Cond.constant own index v ∈ wT) (ix : Nat) (hd : gi ins ix = some (pc, .ldc index, 2)) (kk : V Y X M (pc + 2) L (.int v :: st)) : V Y X M pc L st := by
  obtain ⟨l, D, cy, ad, z, sc⟩ := Y
  obtain ⟨p, e, R, s, m, args, below, meth, c, cells, slots, Q, A⟩ := X
  obtain ⟨hx, hcd, hml, hts, hown, hK, ⟨hdd, hda⟩, hN, rfl, hret, hlk, hcl, hsl⟩ := hX
  intro H locs ls hP hS hl
  have hd := hcd ix _ hd
  exact lv_ldc hx rfl hown (hts _ hm) hd (kk H locs ls hP hS hl)
theorem v_ldc2 (hX : vOK Y X ins nL own rm ret) {index : Nat} {v : Int64} (hm : Cond.constantLong own index v ∈ wT) (ix : Nat) (hd : gi ins ix = some (pc, .ldc2_w index, 3)) (kk : V Y X M (pc + 3) L (.long v :: st)) : V Y X M pc L st := by
  obtain ⟨l, D, cy, ad, z, sc⟩ := Y
  obtain ⟨p, e, R, s, m, args, below, meth, c, cells, slots, Q, A⟩ := X
  obtain ⟨hx, hcd, hml, hts, hown, hK, ⟨hdd, hda⟩, hN, rfl, hret, hlk, hcl, hsl⟩ := hX
  intro H locs ls hP hS hl
  have hd := hcd ix _ hd
  exact lv_ldc2 hx rfl hown (hts _ hm) hd (kk H locs ls hP hS hl)
theorem v_get (hX : vOK Y X ins nL own rm ret) {k ci N index : Nat} {C ref : String} {T : u_T} {fs : List Value} (hk : k < 279) (he : cG Y.2.2.1 Y.2.2.2.1 M.2 (M.1 k) k = .inr (ci, fs)) (hc : vwCl[ci]? = some (C, T, N)) (hin : ∀ w ∈ u_ws C T N, w ∈ wT) (j : Nat) (hj : j < N) (hlink : Cond.fieldLink own index ref (T j).2.1 (T j).2.2.1 ∈ wT) (hr : ref = (T j).1) {v : Value} (hv : fs[j]? = some v) (ix : Nat) (hd : gi ins ix = some (pc, .getfield index, 3)) (kk : V Y X M (pc + 3) L (v :: st)) : V Y X M pc L (.ref (Y.2.2.2.1 k) :: st) := by
  obtain ⟨l, D, cy, ad, z, sc⟩ := Y
  obtain ⟨p, e, R, s, m, args, below, meth, c, cells, slots, Q, A⟩ := X
  obtain ⟨hx, hcd, hml, hts, hown, hK, ⟨hdd, hda⟩, hN, rfl, hret, hlk, hcl, hsl⟩ := hX
  intro H locs ls hP hS hl
  have hd := hcd ix _ hd
  exact va_get (D := D) (ws := wl cy ad sc M) (tys := tq cy) hx rfl hts hin hown hK hP k (wl_get hk he) hc j hj (hts _ hlink) (fun _ h => by rw [hr]; exact h) hv hd (kk H locs ls hP hS hl)
theorem v_getN (hX : vOK Y X ins nL own rm ret) {k ci N index : Nat} {C ref host : String} {T : u_T} {fs : List Value} (hk : k < 279) (he : cG Y.2.2.1 Y.2.2.2.1 M.2 (M.1 k) k = .inr (ci, fs)) (hc : vwCl[ci]? = some (C, T, N)) (hin : ∀ w ∈ u_ws C T N, w ∈ wT) (j : Nat) (hj : j < N) (hlink : (own, index, ref, (T j).2.1, (T j).2.2.1, host) ∈ nF) (hr : ref = (T j).1) {v : Value} (hv : fs[j]? = some v) (ix : Nat) (hd : gi ins ix = some (pc, .getfield index, 3)) (kk : V Y X M (pc + 3) L (v :: st)) : V Y X M pc L (.ref (Y.2.2.2.1 k) :: st) := by
  obtain ⟨l, D, cy, ad, z, sc⟩ := Y
  obtain ⟨p, e, R, s, m, args, below, meth, c, cells, slots, Q, A⟩ := X
  obtain ⟨hx, hcd, hml, hts, hown, hK, ⟨hdd, hda⟩, hN, rfl, hret, hlk, hcl, hsl⟩ := hX
  intro H locs ls hP hS hl
  have hd := hcd ix _ hd
  exact va_getN (D := D) (ws := wl cy ad sc M) (tys := tq cy) hx rfl hts hin hown hK hP k (wl_get hk he) hc j hj (va_Nw.use rfl (hN.2 _ hlink)) (fun _ h => by rw [hr]; exact h) hv hd (kk H locs ls hP hS hl)
theorem v_put (hX : vOK Y X ins nL own rm ret) {k ci N index : Nat} {C ref : String} {T : u_T} {fs : List Value} (hk : k < 279) (he : cG Y.2.2.1 Y.2.2.2.1 M.2 (M.1 k) k = .inr (ci, fs)) (hc : vwCl[ci]? = some (C, T, N)) (hin : ∀ w ∈ u_ws C T N, w ∈ wT) (ty0 : Nat → FieldType) (hty : ∀ k, k < N → parseFieldDescriptor (T k).2.2.1 = some (ty0 k)) (hnm : ∀ a, a < N → ∀ b, b < N → a ≠ b → (T a).2.1 ≠ (T b).2.1) (j : Nat) (hj : j < N) (hlink : Cond.fieldLink own index ref (T j).2.1 (T j).2.2.1 ∈ wT) (hr : ref = (T j).1) (hfin : (T j).2.2.2 = false) {x : Int32} (hn : narrow (ty0 j) (.int x) = .int x) (hfit : fits (ty0 j) (.int x) = true) (hlen : j < fs.length) (he2 : cG Y.2.2.1 Y.2.2.2.1 M.2 (upd (M.1 k) j x) k = .inr (ci, fs.set j (.int x))) (ix : Nat) (hd : gi ins ix = some (pc, .putfield index, 3)) (kk : V Y X (mset M k j x) (pc + 3) L st) : V Y X M pc L (.int x :: .ref (Y.2.2.2.1 k) :: st) := by
  obtain ⟨l, D, cy, ad, z, sc⟩ := Y
  obtain ⟨p, e, R, s, m, args, below, meth, c, cells, slots, Q, A⟩ := X
  obtain ⟨hx, hcd, hml, hts, hown, hK, ⟨hdd, hda⟩, hN, rfl, hret, hlk, hcl, hsl⟩ := hX
  intro H locs ls hP hS hl
  have hd := hcd ix _ hd
  refine va_put (D := D) (ws := wl cy ad sc M) (tys := tq cy) hx rfl hts hin ty0 hty hnm hown hK hP (wl_D hdd hda M) hS k (wl_get hk he) hc j hj (hts _ hlink) (fun _ h => by rw [hr]; exact h) hfin (hty j hj) hn hfit hlen hd (fun H1 locs1 hP1 _ hS1 => ?_)
  rw [wl_mset ⟨hk, cG_n2r he⟩ he2] at hP1
  exact kk H1 locs1 ls hP1 hS1 hl
theorem v_putN (hX : vOK Y X ins nL own rm ret) {k ci N index : Nat} {C ref host : String} {T : u_T} {fs : List Value} (hk : k < 279) (he : cG Y.2.2.1 Y.2.2.2.1 M.2 (M.1 k) k = .inr (ci, fs)) (hc : vwCl[ci]? = some (C, T, N)) (hin : ∀ w ∈ u_ws C T N, w ∈ wT) (ty0 : Nat → FieldType) (hty : ∀ k, k < N → parseFieldDescriptor (T k).2.2.1 = some (ty0 k)) (hnm : ∀ a, a < N → ∀ b, b < N → a ≠ b → (T a).2.1 ≠ (T b).2.1) (j : Nat) (hj : j < N) (hlink : (own, index, ref, (T j).2.1, (T j).2.2.1, host) ∈ nF) (hr : ref = (T j).1) (hfin : (T j).2.2.2 = false) {x : Int32} (hn : narrow (ty0 j) (.int x) = .int x) (hfit : fits (ty0 j) (.int x) = true) (hlen : j < fs.length) (he2 : cG Y.2.2.1 Y.2.2.2.1 M.2 (upd (M.1 k) j x) k = .inr (ci, fs.set j (.int x))) (ix : Nat) (hd : gi ins ix = some (pc, .putfield index, 3)) (kk : V Y X (mset M k j x) (pc + 3) L st) : V Y X M pc L (.int x :: .ref (Y.2.2.2.1 k) :: st) := by
  obtain ⟨l, D, cy, ad, z, sc⟩ := Y
  obtain ⟨p, e, R, s, m, args, below, meth, c, cells, slots, Q, A⟩ := X
  obtain ⟨hx, hcd, hml, hts, hown, hK, ⟨hdd, hda⟩, hN, rfl, hret, hlk, hcl, hsl⟩ := hX
  intro H locs ls hP hS hl
  have hd := hcd ix _ hd
  refine va_putN (D := D) (ws := wl cy ad sc M) (tys := tq cy) hx rfl hts hin ty0 hty hnm hown hK hP (wl_D hdd hda M) hS k (wl_get hk he) hc j hj (va_Nw.use rfl (hN.2 _ hlink)) (fun _ h => by rw [hr]; exact h) hfin (hty j hj) hn hfit hlen hd (fun H1 locs1 hP1 _ hS1 => ?_)
  rw [wl_mset ⟨hk, cG_n2r he⟩ he2] at hP1
  exact kk H1 locs1 ls hP1 hS1 hl
theorem v_iald (hX : vOK Y X ins nL own rm ret) {k n : Nat} {f : Nat → Int32} (hk : k < 279) (he : cG Y.2.2.1 Y.2.2.2.1 M.2 (M.1 k) k = .inl (Y.2.2.1 1, n, .inl f)) {i : Int32} (hin : vp_in i n) (ix : Nat) (hd : gi ins ix = some (pc, .iaload, 1)) (kk : V Y X M (pc + 1) L (.int (f i.toNatClampNeg) :: st)) : V Y X M pc L (.int i :: .ref (Y.2.2.2.1 k) :: st) := by
  obtain ⟨l, D, cy, ad, z, sc⟩ := Y
  obtain ⟨p, e, R, s, m, args, below, meth, c, cells, slots, Q, A⟩ := X
  obtain ⟨hx, hcd, hml, hts, hown, hK, ⟨hdd, hda⟩, hN, rfl, hret, hlk, hcl, hsl⟩ := hX
  intro H locs ls hP hS hl
  have hd := hcd ix _ hd
  exact va_iald (D := D) (ws := wl cy ad sc M) (tys := tq cy) hx rfl hK hP k 1 (wl_get hk he) rfl hin hd (kk H locs ls hP hS hl)
theorem v_cald (hX : vOK Y X ins nL own rm ret) {k n : Nat} {f : Nat → Int32} (hk : k < 279) (he : cG Y.2.2.1 Y.2.2.2.1 M.2 (M.1 k) k = .inl (Y.2.2.1 0, n, .inl f)) {i : Int32} (hin : vp_in i n) (ix : Nat) (hd : gi ins ix = some (pc, .caload, 1)) (kk : V Y X M (pc + 1) L (.int (f i.toNatClampNeg) :: st)) : V Y X M pc L (.int i :: .ref (Y.2.2.2.1 k) :: st) := by
  obtain ⟨l, D, cy, ad, z, sc⟩ := Y
  obtain ⟨p, e, R, s, m, args, below, meth, c, cells, slots, Q, A⟩ := X
  obtain ⟨hx, hcd, hml, hts, hown, hK, ⟨hdd, hda⟩, hN, rfl, hret, hlk, hcl, hsl⟩ := hX
  intro H locs ls hP hS hl
  have hd := hcd ix _ hd
  exact va_cald (D := D) (ws := wl cy ad sc M) (tys := tq cy) hx rfl hK hP k 0 (wl_get hk he) rfl hin hd (kk H locs ls hP hS hl)
theorem v_iast (hX : vOK Y X ins nL own rm ret) {k n : Nat} {f : Nat → Int32} (hk : k < 279) (he : cG Y.2.2.1 Y.2.2.2.1 M.2 (M.1 k) k = .inl (Y.2.2.1 1, n, .inl f)) (hf : f = M.1 k) {i x : Int32} (hin : vp_in i n) (he2 : cG Y.2.2.1 Y.2.2.2.1 M.2 (upd (M.1 k) i.toNatClampNeg x) k = .inl (Y.2.2.1 1, n, .inl (upd (M.1 k) i.toNatClampNeg x))) (ix : Nat) (hd : gi ins ix = some (pc, .iastore, 1)) (kk : V Y X (mset M k i.toNatClampNeg x) (pc + 1) L st) : V Y X M pc L (.int x :: .int i :: .ref (Y.2.2.2.1 k) :: st) := by
  obtain ⟨l, D, cy, ad, z, sc⟩ := Y
  obtain ⟨p, e, R, s, m, args, below, meth, c, cells, slots, Q, A⟩ := X
  obtain ⟨hx, hcd, hml, hts, hown, hK, ⟨hdd, hda⟩, hN, rfl, hret, hlk, hcl, hsl⟩ := hX
  intro H locs ls hP hS hl
  have hd := hcd ix _ hd
  subst hf
  refine va_iast (D := D) (ws := wl cy ad sc M) (tys := tq cy) hx rfl hK hP (wl_D hdd hda M) hS k 1 (wl_get hk he) rfl hin hd (fun H1 locs1 hP1 _ hS1 => ?_)
  rw [wl_mset ⟨hk, cG_n2i he⟩ he2] at hP1
  exact kk H1 locs1 ls hP1 hS1 hl
theorem v_cast (hX : vOK Y X ins nL own rm ret) {k n : Nat} {f : Nat → Int32} (hk : k < 279) (he : cG Y.2.2.1 Y.2.2.2.1 M.2 (M.1 k) k = .inl (Y.2.2.1 0, n, .inl f)) (hf : f = M.1 k) {i x : Int32} (hin : vp_in i n) (he2 : cG Y.2.2.1 Y.2.2.2.1 M.2 (upd (M.1 k) i.toNatClampNeg (vp_nar .char x)) k = .inl (Y.2.2.1 0, n, .inl (upd (M.1 k) i.toNatClampNeg (vp_nar .char x)))) (ix : Nat) (hd : gi ins ix = some (pc, .castore, 1)) (kk : V Y X (mset M k i.toNatClampNeg (vp_nar .char x)) (pc + 1) L st) : V Y X M pc L (.int x :: .int i :: .ref (Y.2.2.2.1 k) :: st) := by
  obtain ⟨l, D, cy, ad, z, sc⟩ := Y
  obtain ⟨p, e, R, s, m, args, below, meth, c, cells, slots, Q, A⟩ := X
  obtain ⟨hx, hcd, hml, hts, hown, hK, ⟨hdd, hda⟩, hN, rfl, hret, hlk, hcl, hsl⟩ := hX
  intro H locs ls hP hS hl
  have hd := hcd ix _ hd
  subst hf
  refine va_cast (D := D) (ws := wl cy ad sc M) (tys := tq cy) hx rfl hK hP (wl_D hdd hda M) hS k 0 (wl_get hk he) rfl hin hd (fun H1 locs1 hP1 _ hS1 => ?_)
  rw [wl_mset ⟨hk, cG_n2i he⟩ he2] at hP1
  exact kk H1 locs1 ls hP1 hS1 hl
theorem v_aald (hX : vOK Y X ins nL own rm ret) {k n t0 : Nat} {Cn : String} {f : Nat → Option Nat} {v : Nat} (hk : k < 279) (he : cG Y.2.2.1 Y.2.2.2.1 M.2 (M.1 k) k = .inl (Y.2.2.1 t0, n, .inr (.inr (.inr (.inr f))))) (ht : (tq Y.2.2.1)[t0]? = some (Y.2.2.1 t0, .object Cn)) {i : Int32} (hin : vp_in i n) (hv : f i.toNatClampNeg = some v) (ix : Nat) (hd : gi ins ix = some (pc, .aaload, 1)) (kk : V Y X M (pc + 1) L (.ref v :: st)) : V Y X M pc L (.int i :: .ref (Y.2.2.2.1 k) :: st) := by
  obtain ⟨l, D, cy, ad, z, sc⟩ := Y
  obtain ⟨p, e, R, s, m, args, below, meth, c, cells, slots, Q, A⟩ := X
  obtain ⟨hx, hcd, hml, hts, hown, hK, ⟨hdd, hda⟩, hN, rfl, hret, hlk, hcl, hsl⟩ := hX
  intro H locs ls hP hS hl
  have hd := hcd ix _ hd
  refine va_aldq (D := D) (ws := wl cy ad sc M) (tys := tq cy) hx rfl hK hP k t0 (wl_get hk he) ht hin hd ?_
  rw [hv]
  exact kk H locs ls hP hS hl
theorem v_alen (hX : vOK Y X ins nL own rm ret) {k t0 : Nat} {a : vp_A} {ty : FieldType} {v : Int32} (hk : k < 279) (he : cG Y.2.2.1 Y.2.2.2.1 M.2 (M.1 k) k = .inl (Y.2.2.1 t0, a)) (ht : (tq Y.2.2.1)[t0]? = some (Y.2.2.1 t0, ty)) (hv : Int32.ofNat a.1 = v) (ix : Nat) (hd : gi ins ix = some (pc, .arraylength, 1)) (kk : V Y X M (pc + 1) L (.int v :: st)) : V Y X M pc L (.ref (Y.2.2.2.1 k) :: st) := by
  obtain ⟨l, D, cy, ad, z, sc⟩ := Y
  obtain ⟨p, e, R, s, m, args, below, meth, c, cells, slots, Q, A⟩ := X
  obtain ⟨hx, hcd, hml, hts, hown, hK, ⟨hdd, hda⟩, hN, rfl, hret, hlk, hcl, hsl⟩ := hX
  intro H locs ls hP hS hl
  have hd := hcd ix _ hd
  exact va_alen (D := D) (ws := wl cy ad sc M) (tys := tq cy) hx rfl hK hP k t0 (wl_get hk he) ht hv hd (kk H locs ls hP hS hl)
theorem v_iret (hX : vOK Y X ins nL own rm ret) {ty : FieldType} {x : Int32} {rv : Option Value} (hQ : vQ Y X rv M') (hr : ret = some ty) (hn : narrow ty (.int x) = .int x) (hv : rv = some (.int x)) (hM : M' = M) (ix : Nat) (hd : gi ins ix = some (pc, .ireturn, 1)) : V Y X M pc L [.int x] := by
  obtain ⟨l, D, cy, ad, z, sc⟩ := Y
  obtain ⟨p, e, R, s, m, args, below, meth, c, cells, slots, Q, A⟩ := X
  obtain ⟨hx, hcd, hml, hts, hown, hK, ⟨hdd, hda⟩, hN, rfl, hret, hlk, hcl, hsl⟩ := hX
  intro H locs ls hP hS hl
  have hd := hcd ix _ hd
  obtain ⟨rfl, rfl⟩ := hQ
  subst hv
  subst hM
  exact W.zret hx rfl (hret.trans hr) hn (fun t ht _ => ⟨rfl, by rw [ht]; exact hP, hS.F ht⟩) hS.2.2 hd hlk
theorem v_aret (hX : vOK Y X ins nL own rm ret) {ty : FieldType} {x : Value} {rv : Option Value} (hQ : vQ Y X rv M') (hr : ret = some ty) (hrt : (∃ n, ty = .object n) ∨ ∃ t, ty = .array t) (hx2 : x = .null ∨ ∃ a, x = .ref a) (hv : rv = some x) (hM : M' = M) (ix : Nat) (hd : gi ins ix = some (pc, .areturn, 1)) : V Y X M pc L [x] := by
  obtain ⟨l, D, cy, ad, z, sc⟩ := Y
  obtain ⟨p, e, R, s, m, args, below, meth, c, cells, slots, Q, A⟩ := X
  obtain ⟨hx, hcd, hml, hts, hown, hK, ⟨hdd, hda⟩, hN, rfl, hret, hlk, hcl, hsl⟩ := hX
  intro H locs ls hP hS hl
  have hd := hcd ix _ hd
  obtain ⟨rfl, rfl⟩ := hQ
  subst hv
  subst hM
  exact W.aret hx rfl (hret.trans hr) hrt hx2 (fun t ht _ => ⟨rfl, by rw [ht]; exact hP, hS.F ht⟩) hS.2.2 hd hlk
theorem v_vret (hX : vOK Y X ins nL own rm ret) {rv : Option Value} (hQ : vQ Y X rv M') (hr : ret = none) (hv : rv = none) (hM : M' = M) (ix : Nat) (hd : gi ins ix = some (pc, .return_, 1)) : V Y X M pc L [] := by
  obtain ⟨l, D, cy, ad, z, sc⟩ := Y
  obtain ⟨p, e, R, s, m, args, below, meth, c, cells, slots, Q, A⟩ := X
  obtain ⟨hx, hcd, hml, hts, hown, hK, ⟨hdd, hda⟩, hN, rfl, hret, hlk, hcl, hsl⟩ := hX
  intro H locs ls hP hS hl
  have hd := hcd ix _ hd
  obtain ⟨rfl, rfl⟩ := hQ
  subst hv
  subst hM
  exact W.vret hx rfl (hret.trans hr) (fun t ht _ => ⟨rfl, by rw [ht]; exact hP, hS.F ht⟩) hS.2.2 hd hlk
theorem V.sub {L' : List (Option Value)} (k : V Y X M pc L' st) (hlen : L'.length = L.length) (h : lsub L 0 L') : V Y X M pc L st := by
  obtain ⟨l, D, cy, ad, z, sc⟩ := Y
  obtain ⟨p, e, R, s, m, args, below, meth, c, cells, slots, Q, A⟩ := X
  intro H locs ls hP hS hl
  exact k H locs ls hP hS (lw_sub hlen h hl)
theorem V.subM {L' : List (Option Value)} {M2 : Mm} (k : V Y X M2 pc L' st) (hM : M = M2) (hlen : L'.length = L.length) (h : lsub L 0 L') : V Y X M pc L st := by
  subst hM
  exact V.sub k hlen h
theorem V.mem {M2 : Mm} (hM : M = M2) (k : V Y X M2 pc L st) : V Y X M pc L st := by
  subst hM
  exact k
theorem v_run {p : Program} {l : Launch} {e : Env} {R : Room} {s : State} {m : MethodId} {args : Array Value} {below : List Frame} {meth : Method} {c : Code} {H : Heap} {locs : List Loc} {cells slots : Nat} {Q : State → Prop} {pc : Nat} {ls : Array Slot} {rest st0 : List Value} {A0 A1 : Nat → Prop} {H0 : Heap} {D : va_G} {w1 : va_W} {rv : Option Value}
    (hr : va_Run p l e R s m args below meth c H locs cells slots 0 0 (F0 m pc ls st0) rest (fun st oc t => oc = .returned rv ∧ va_P D vwCl w1 t.heap ∧ va_F A1 st t) A1) (hS : va_S A0 H0 H locs) (hA : ∀ q, A1 q → A0 q)
    (kk : ∀ (H1 : Heap) (locs1 : List Loc), va_P D vwCl w1 H1 → va_S A0 H0 H1 locs1 → W p l e R s m args below meth c H1 locs1 cells slots Q (F0 m (pc + 3) ls (rv.toList ++ rest))) : W p l e R s m args below meth c H locs cells slots Q (F0 m pc ls st0) := by
  intro T hT X
  obtain ⟨v, st₀, t, T', L, h0, X', hL, e1, e2, ⟨hv, hp, hz, hk⟩, st⟩ := hr T hT X
  cases hv
  rw [h0] at hz hk
  obtain ⟨t2, a1, b1⟩ := kk T'.heap (locs ++ L) (by rw [e1]; exact hp)
    ⟨Nat.le_trans hS.1 (by rw [e1]; exact hz), fun q h1 h2 => by rw [e1, hk q (Nat.lt_of_lt_of_le h1 hS.1) (fun z => h2 (hA q z))]; exact hS.2.1 q h1 h2, fun q hq => by
      rcases List.mem_append.mp hq with h | h
      · exact hS.2.2 q h
      · exact hA _ (hL q h)⟩ T' rfl X'
  exact ⟨t2, st t2 a1, b1⟩
theorem gW {w : Cond} (h : w ∈ wT) : w ∈ wT ∧ ((w.onTables && w.keeps) = true ∨ ∃ ty, w = .arrayClass ty) := ⟨h, good_of_word (List.mem_filter.mp h).2⟩
theorem gV {own C : String} {index n : Nat} {y : MethodName} {b1 : ByteArray} {r : Option FieldType} (hcw : Cond.code y b1 n r ∈ wT) (hlink : Cond.methodLink own index y ∈ wT) (hinst : Cond.instanceMethod y ∈ wT) (hsel : Cond.selects C y y ∈ wT) (hini : Cond.initialized C ∈ wT) : GoodIn wT (wsV own index C y (Cond.code y b1 n r :: wT)) := by
  intro w hw
  simp only [wsV, List.cons_append, List.nil_append, List.mem_cons] at hw
  rcases hw with rfl | rfl | rfl | rfl | rfl | hw
  · exact gW hlink
  · exact gW hinst
  · exact gW hsel
  · exact gW hini
  · exact gW hcw
  · exact gW hw
theorem gS {own : String} {index n : Nat} {y : MethodName} {b1 : ByteArray} {r : Option FieldType} (hcw : Cond.code y b1 n r ∈ wT) (hlink : Cond.methodLink own index y ∈ wT) (hstt : Cond.static y ∈ wT) (hini : Cond.initialized y.cls ∈ wT) : GoodIn wT (va_wsS own index y (Cond.code y b1 n r :: wT)) := by
  intro w hw
  simp only [va_wsS, List.cons_append, List.nil_append, List.mem_cons] at hw
  rcases hw with rfl | rfl | rfl | rfl | hw
  · exact gW hlink
  · exact gW hstt
  · exact gW hini
  · exact gW hcw
  · exact gW hw
theorem wd_blind {Y : Yt} {M : Mm} {As : List Value} : FrameBlind (va_Pc As (wd Y M)) := by
  obtain ⟨l, D, cy, ad, z, sc⟩ := Y
  intro a U g mk h
  obtain ⟨h1, h2, h3, h4, h5⟩ := h
  exact ⟨h1, h2, va_K.moved (u := U) (U := U.calling g mk a) (Vm.Alike.refl U.vm) h3, h4, Nn.same (s := U) (U := U.calling g mk a) rfl h5⟩
theorem fA_sub {z : Nat} {A : Nat → Prop} {C : Prop} (h : A = fA z ∧ C) : ∀ q, fA z q → A q := by
  intro q hq
  rw [h.1]
  exact hq
theorem v_callV (hX : vOK Y X ins nL own rm ret) (nA : Nat) {y : MethodName}  {rmc : Room} {rv : Option Value} {bytes : ByteArray} {maxL index : Nat} {retc : Option FieldType} {st0 : List Value} {As : List Value} {C : String} {k ci : Nat} {T : u_T} {N : Nat} {fs : List Value} (hk : k < 279) (he : cG Y.2.2.1 Y.2.2.2.1 M.2 (M.1 k) k = .inr (ci, fs)) (hc : vwCl[ci]? = some (C, T, N)) (hF : Fn Y y (Cond.code y bytes maxL retc :: wT) rmc (.ref (Y.2.2.2.1 k) :: As) M rv M') (hcw : Cond.code y bytes maxL retc ∈ wT) (hlink : Cond.methodLink own index y ∈ wT) (hinst : Cond.instanceMethod y ∈ wT) (hsel : Cond.selects C y y ∈ wT) (hini : Cond.initialized C ∈ wT) (hdd2 : y.cls = C ∧ y.cls ≠ "java/lang/invoke/MethodHandle" ∧ y.cls ≠ "java/lang/invoke/VarHandle" ∧ (parseMethodDescriptor y.desc).map (fun d => d.parameters.length) = some nA) (hR : (rmc.cells = 0 ∧ rmc.slots = 0) ∧ rmc.frames + 1 ≤ rm.frames ∧ 8 + (maxL + 11) + rmc.locals ≤ rm.locals) (hL : L.length = nL) (hW : (st.map fun v => v.category).sum ≤ 8) (hnA : As.length = nA) (hst : st0 = As.reverse ++ .ref (Y.2.2.2.1 k) :: st) (ix : Nat) (hd : gi ins ix = some (pc, .invokevirtual index, 3)) (kk : V Y X M' (pc + 3) L (rv.toList ++ st)) : V Y X M pc L st0 := by
  obtain ⟨l, D, cy, ad, z, sc⟩ := Y
  obtain ⟨p, e, R, s, m, args, below, meth, c, cells, slots, Q, A⟩ := X
  obtain ⟨hx, hcd, hml, hts, hown, hK, ⟨hdd, hda⟩, hN, rfl, hret, hlk, hcl, hsl⟩ := hX
  intro H locs ls hP hS hl
  have hd := hcd ix _ hd
  obtain ⟨cb, hcb1, hcb2, hcb3⟩ := va_recv (q0 := k) hK hP hc (wl_get hk he)
  refine v_run (w1 := wl cy ad sc M') (A1 := fA z) (rest := st) (va_runV (As := As) (rest := st) ⟨hx, rfl, hml, hown, hts⟩ hF (cwV nA hts (gV hcw hlink hinst hsel hini) rfl hR.1.1 hR.1.2 hdd2 hR.2) ⟨wd_blind, ⟨cb, hcb1, hcb2, hcb3⟩, fun U hU hW => ⟨rfl, by rw [hU]; exact hP, va_K.moved hW.alike hK, hdd, Nn.warm hW hN⟩⟩ rfl hnA (hl.1.trans hL) hst (lv_room hW) hd ⟨hcl, hsl⟩) hS (fA_sub hda) (fun H1 locs1 hP1 hS1 => kk H1 locs1 ls hP1 hS1 hl)
theorem v_callVN (hX : vOK Y X ins nL own rm ret) (nA : Nat) {y : MethodName}  {rmc : Room} {rv : Option Value} {bytes : ByteArray} {maxL index : Nat} {retc : Option FieldType} {st0 : List Value} {As : List Value} {C host : String} {k ci : Nat} {T : u_T} {N : Nat} {fs : List Value} (hk : k < 279) (he : cG Y.2.2.1 Y.2.2.2.1 M.2 (M.1 k) k = .inr (ci, fs)) (hc : vwCl[ci]? = some (C, T, N)) (hF : Fn Y y (Cond.code y bytes maxL retc :: wT) rmc (.ref (Y.2.2.2.1 k) :: As) M rv M') (hcw : Cond.code y bytes maxL retc ∈ wT) (hlink : (own, index, y, host) ∈ nM) (hini : Cond.initialized y.cls ∈ wT) (hinst : Cond.instanceMethod y ∈ wT) (hsel : Cond.selects C y y ∈ wT) (hdd2 : y.cls ≠ "java/lang/invoke/MethodHandle" ∧ y.cls ≠ "java/lang/invoke/VarHandle" ∧ (parseMethodDescriptor y.desc).map (fun d => d.parameters.length) = some nA) (hR : (rmc.cells = 0 ∧ rmc.slots = 0) ∧ rmc.frames + 1 ≤ rm.frames ∧ 8 + (maxL + 11) + rmc.locals ≤ rm.locals) (hL : L.length = nL) (hW : (st.map fun v => v.category).sum ≤ 8) (hnA : As.length = nA) (hst : st0 = As.reverse ++ .ref (Y.2.2.2.1 k) :: st) (ix : Nat) (hd : gi ins ix = some (pc, .invokevirtual index, 3)) (kk : V Y X M' (pc + 3) L (rv.toList ++ st)) : V Y X M pc L st0 := by
  obtain ⟨l, D, cy, ad, z, sc⟩ := Y
  obtain ⟨p, e, R, s, m, args, below, meth, c, cells, slots, Q, A⟩ := X
  obtain ⟨hx, hcd, hml, hts, hown, hK, ⟨hdd, hda⟩, hN, rfl, hret, hlk, hcl, hsl⟩ := hX
  intro H locs ls hP hS hl
  have hd := hcd ix _ hd
  obtain ⟨cb, hcb1, hcb2, hcb3⟩ := va_recv (q0 := k) hK hP hc (wl_get hk he)
  refine v_run (w1 := wl cy ad sc M') (A1 := fA z) (rest := st) (va_runVN (As := As) (rest := st) ⟨hx, rfl, hml, hown, hts⟩ hF ⟨va_cnB nA hts (gI hcw) rfl hR.1.1 hR.1.2 (hN.1 _ hlink) (hts _ hini) hdd2 hR.2, hts _ hinst, hts _ hsel⟩ ⟨wd_blind, ⟨cb, hcb1, hcb2, hcb3⟩, fun U hU hW => ⟨rfl, by rw [hU]; exact hP, va_K.moved hW.alike hK, hdd, Nn.warm hW hN⟩⟩ rfl hnA (hl.1.trans hL) hst (lv_room hW) hd ⟨hcl, hsl⟩) hS (fA_sub hda) (fun H1 locs1 hP1 hS1 => kk H1 locs1 ls hP1 hS1 hl)
theorem v_callS (hX : vOK Y X ins nL own rm ret) (nA : Nat) {y : MethodName}  {rmc : Room} {rv : Option Value} {bytes : ByteArray} {maxL index : Nat} {retc : Option FieldType} {st0 : List Value} {As : List Value} (hF : Fn Y y (Cond.code y bytes maxL retc :: wT) rmc As M rv M') (hcw : Cond.code y bytes maxL retc ∈ wT) (hlink : Cond.methodLink own index y ∈ wT) (hstt : Cond.static y ∈ wT) (hini : Cond.initialized y.cls ∈ wT) (hdd2 : y.cls ≠ "java/lang/invoke/MethodHandle" ∧ y.cls ≠ "java/lang/invoke/VarHandle" ∧ (parseMethodDescriptor y.desc).map (fun d => d.parameters.length) = some nA) (hR : (rmc.cells = 0 ∧ rmc.slots = 0) ∧ rmc.frames + 1 ≤ rm.frames ∧ 8 + (maxL + 11) + rmc.locals ≤ rm.locals) (hL : L.length = nL) (hW : (st.map fun v => v.category).sum ≤ 8) (hnA : As.length = nA) (hst : st0 = As.reverse ++ st) (ix : Nat) (hd : gi ins ix = some (pc, .invokestatic index, 3)) (kk : V Y X M' (pc + 3) L (rv.toList ++ st)) : V Y X M pc L st0 := by
  obtain ⟨l, D, cy, ad, z, sc⟩ := Y
  obtain ⟨p, e, R, s, m, args, below, meth, c, cells, slots, Q, A⟩ := X
  obtain ⟨hx, hcd, hml, hts, hown, hK, ⟨hdd, hda⟩, hN, rfl, hret, hlk, hcl, hsl⟩ := hX
  intro H locs ls hP hS hl
  have hd := hcd ix _ hd
  refine v_run (w1 := wl cy ad sc M') (A1 := fA z) (rest := st) (va_runS (As := As) (rest := st) ⟨hx, rfl, hml, hown, hts⟩ hF (va_cwS nA hts (gS hcw hlink hstt hini) rfl hR.1.1 hR.1.2 hdd2 hR.2) ⟨wd_blind, fun U hU hW => ⟨rfl, by rw [hU]; exact hP, va_K.moved hW.alike hK, hdd, Nn.warm hW hN⟩⟩ rfl hnA (hl.1.trans hL) hst (lv_room hW) hd ⟨hcl, hsl⟩) hS (fA_sub hda) (fun H1 locs1 hP1 hS1 => kk H1 locs1 ls hP1 hS1 hl)
theorem v_callSN (hX : vOK Y X ins nL own rm ret) (nA : Nat) {y : MethodName}  {rmc : Room} {rv : Option Value} {bytes : ByteArray} {maxL index : Nat} {retc : Option FieldType} {st0 : List Value} {As : List Value} {host : String} (hF : Fn Y y (Cond.code y bytes maxL retc :: wT) rmc As M rv M') (hcw : Cond.code y bytes maxL retc ∈ wT) (hlink : (own, index, y, host) ∈ nM) (hini : Cond.initialized y.cls ∈ wT) (hstt : Cond.static y ∈ wT) (hdd2 : y.cls ≠ "java/lang/invoke/MethodHandle" ∧ y.cls ≠ "java/lang/invoke/VarHandle" ∧ (parseMethodDescriptor y.desc).map (fun d => d.parameters.length) = some nA) (hR : (rmc.cells = 0 ∧ rmc.slots = 0) ∧ rmc.frames + 1 ≤ rm.frames ∧ 8 + (maxL + 11) + rmc.locals ≤ rm.locals) (hL : L.length = nL) (hW : (st.map fun v => v.category).sum ≤ 8) (hnA : As.length = nA) (hst : st0 = As.reverse ++ st) (ix : Nat) (hd : gi ins ix = some (pc, .invokestatic index, 3)) (kk : V Y X M' (pc + 3) L (rv.toList ++ st)) : V Y X M pc L st0 := by
  obtain ⟨l, D, cy, ad, z, sc⟩ := Y
  obtain ⟨p, e, R, s, m, args, below, meth, c, cells, slots, Q, A⟩ := X
  obtain ⟨hx, hcd, hml, hts, hown, hK, ⟨hdd, hda⟩, hN, rfl, hret, hlk, hcl, hsl⟩ := hX
  intro H locs ls hP hS hl
  have hd := hcd ix _ hd
  refine v_run (w1 := wl cy ad sc M') (A1 := fA z) (rest := st) (va_runSN (As := As) (rest := st) ⟨hx, rfl, hml, hown, hts⟩ hF ⟨va_cnB nA hts (gI hcw) rfl hR.1.1 hR.1.2 (hN.1 _ hlink) (hts _ hini) hdd2 hR.2, hts _ hstt, trivial⟩ ⟨wd_blind, fun U hU hW => ⟨rfl, by rw [hU]; exact hP, va_K.moved hW.alike hK, hdd, Nn.warm hW hN⟩⟩ rfl hnA (hl.1.trans hL) hst (lv_room hW) hd ⟨hcl, hsl⟩) hS (fA_sub hda) (fun H1 locs1 hP1 hS1 => kk H1 locs1 ls hP1 hS1 hl)
theorem v_mmin (hX : vOK Y X ins nL own rm ret) {index : Nat} {x y : Int32} (hlink : Cond.methodLink own index Lib.Math.min.name ∈ wT) (hstat : Cond.static Lib.Math.min.name ∈ wT) (hini : Cond.initialized "java/lang/Math" ∈ wT) (hcode : Cond.code Lib.Math.min.name Lib.Math.min.code 2 (some .int) ∈ wT) (hfr : 1 ≤ rm.frames) (hlo : (st.map fun v => v.category).sum + 13 ≤ rm.locals) (hL : L.length = nL) (ix : Nat) (hd : gi ins ix = some (pc, .invokestatic index, 3)) (kk : V Y X M (pc + 3) L (.int (if y < x then y else x) :: st)) : V Y X M pc L (.int y :: .int x :: st) := by
  obtain ⟨l, D, cy, ad, z, sc⟩ := Y
  obtain ⟨p, e, R, s, m, args, below, meth, c, cells, slots, Q, A⟩ := X
  obtain ⟨hx, hcd, hml, hts, hown, hK, ⟨hdd, hda⟩, hN, rfl, hret, hlk, hcl, hsl⟩ := hX
  intro H locs ls hP hS hl
  have hd := hcd ix _ hd
  exact va_mmin hx rfl (by rw [hl.1, hL]; exact hml) hown (hts _ hlink) (hts _ hstat) (hts _ hini) (hts _ hcode) hfr hlo hcl hsl hd (kk H locs ls hP hS hl)
theorem v_mmax (hX : vOK Y X ins nL own rm ret) {index : Nat} {x y : Int32} (hlink : Cond.methodLink own index Lib.Math.max.name ∈ wT) (hstat : Cond.static Lib.Math.max.name ∈ wT) (hini : Cond.initialized "java/lang/Math" ∈ wT) (hcode : Cond.code Lib.Math.max.name Lib.Math.max.code 2 (some .int) ∈ wT) (hfr : 1 ≤ rm.frames) (hlo : (st.map fun v => v.category).sum + 13 ≤ rm.locals) (hL : L.length = nL) (ix : Nat) (hd : gi ins ix = some (pc, .invokestatic index, 3)) (kk : V Y X M (pc + 3) L (.int (if x < y then y else x) :: st)) : V Y X M pc L (.int y :: .int x :: st) := by
  obtain ⟨l, D, cy, ad, z, sc⟩ := Y
  obtain ⟨p, e, R, s, m, args, below, meth, c, cells, slots, Q, A⟩ := X
  obtain ⟨hx, hcd, hml, hts, hown, hK, ⟨hdd, hda⟩, hN, rfl, hret, hlk, hcl, hsl⟩ := hX
  intro H locs ls hP hS hl
  have hd := hcd ix _ hd
  exact va_mmax hx rfl (by rw [hl.1, hL]; exact hml) hown (hts _ hlink) (hts _ hstat) (hts _ hini) (hts _ hcode) hfr hlo hcl hsl hd (kk H locs ls hP hS hl)
end VV
