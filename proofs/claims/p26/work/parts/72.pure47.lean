def iB (k : Nat) : Bool := k == 1 || ((decide (35 ≤ k) && (decide (k < 217) && (k - 35) % 26 == 0)) || (k == 218 || k == 244))
theorem iB_b {b : Nat} (h : isB b) : iB b = true := by
  rcases isB_cases h with g | g | g | g | g | g | g | g | g | g <;> rw [g] <;> rfl
theorem iB_all : ∀ j, j < 26 → j = 0 ∨ (iB (1 + j) = false ∧ iB (35 + j) = false ∧ iB (61 + j) = false ∧ iB (87 + j) = false ∧ iB (113 + j) = false ∧ iB (139 + j) = false ∧ iB (165 + j) = false ∧ iB (191 + j) = false ∧ iB (218 + j) = false ∧ iB (244 + j) = false) := by decide +kernel
theorem iB_n {b j : Nat} (h : isB b) (hj : j < 26) (h0 : j ≠ 0) : iB (b + j) = false := by
  obtain ⟨a1, a2, a3, a4, a5, a6, a7, a8, a9, a10⟩ := (iB_all j hj).resolve_left h0
  rcases isB_cases h with g | g | g | g | g | g | g | g | g | g <;> rw [g] <;> assumption
def M0 : Mm := (fun k j => if iB k = true then (if j = 4 then 14 else if j = 5 then 30 else 0) else 0, fun i => 35 + 26 * i)
theorem M0_b {b : Nat} (h : isB b) : M0.1 b = fun j => if j = 4 then 14 else if j = 5 then 30 else 0 := by
  have := isB_lt h
  funext j
  show (if iB b = true then _ else _) = _
  rw [if_pos (iB_b h)]
theorem M0_n {b j : Nat} (h : isB b) (hj : j < 26) (h0 : j ≠ 0) : M0.1 (b + j) = fun _ => 0 := by
  have := isB_lt h
  funext i
  show (if iB (b + j) = true then _ else _) = _
  rw [if_neg (by rw [iB_n h hj h0]; decide)]
def Gc (cy : Nat → ClassId) (z : Nat) (k : Nat) : va_E := cG cy (fun i => z + i) M0.2 (M0.1 k) k
def pE : va_E := .inr (4, [.int 0, .int 0, .int 0, .int 0, .int 0, .int 0, .int 0])
def nB : va_E := .inr (0, [.null, .int 0, .int 0, .int 0, .int 0, .int 0])
def fB (z b : Nat) : va_E := .inr (0, [.ref (z + (b + 1)), .int 0, .int 0, .int 0, .int 14, .int 30])
def bE (cy : Nat → ClassId) (z b : Nat) (E : Nat → va_E) : Nat → va_E := fun i => if i = b then fB z b else if i = b + 1 then .inl (cy 4, 24, .inr (.inr (.inr (.inr (fun j => some (z + (b + 2 + j))))))) else if i < b then E i else pE
def bJ (cy : Nat → ClassId) (z b : Nat) (E : Nat → va_E) (t : Nat) : Nat → va_E := fun i => if i = b then fB z b else if i = b + 1 then .inl (cy 4, 24, .inr (.inr (.inr (.inr (fun j => if j < t then some (z + (b + 2 + j)) else none))))) else if i < b then E i else pE
theorem bJ_b {cy : Nat → ClassId} {z b t : Nat} {E : Nat → va_E} : bJ cy z b E t b = fB z b := if_pos rfl
theorem bJ_r {cy : Nat → ClassId} {z b t : Nat} {E : Nat → va_E} : bJ cy z b E t (b + 1) = .inl (cy 4, 24, .inr (.inr (.inr (.inr (fun j => if j < t then some (z + (b + 2 + j)) else none))))) := by
  unfold bJ
  rw [if_neg (by omega), if_pos rfl]
theorem bJ_p {cy : Nat → ClassId} {z b t j : Nat} {E : Nat → va_E} : bJ cy z b E t (b + 2 + j) = pE := by
  unfold bJ
  rw [if_neg (by omega), if_neg (by omega), if_neg (by omega)]
theorem bJ_l {cy : Nat → ClassId} {z b t i : Nat} {E : Nat → va_E} (h : i < b) : bJ cy z b E t i = E i := by
  unfold bJ
  rw [if_neg (by omega), if_neg (by omega), if_pos h]
theorem bE_b {cy : Nat → ClassId} {z b : Nat} {E : Nat → va_E} : bE cy z b E b = fB z b := if_pos rfl
theorem bE_l {cy : Nat → ClassId} {z b i : Nat} {E : Nat → va_E} (h : i < b) : bE cy z b E i = E i := by
  unfold bE
  rw [if_neg (by omega), if_neg (by omega), if_pos h]
theorem Gc_b {cy : Nat → ClassId} {z b i : Nat} {E : Nat → va_E} (h : isB b) (h1 : b ≤ i) (h2 : i < b + 26) : bE cy z b E i = Gc cy z i := by
  obtain ⟨j, rfl⟩ : ∃ j, i = b + j := ⟨i - b, by omega⟩
  have hg := cG_gb (cy := cy) (ad := fun i => z + i) (h := M0.2) (r := M0.1 (b + j)) h j (by omega)
  show bE cy z b E (b + j) = cG cy (fun i => z + i) M0.2 (M0.1 (b + j)) (b + j)
  rw [hg]
  by_cases h0 : j = 0
  · subst h0
    rw [Nat.add_zero, bE_b, M0_b h]
    unfold cGb
    rw [if_pos rfl]
    rfl
  · rw [M0_n h (by omega) h0]
    by_cases h1 : j = 1
    · subst h1
      unfold bE cGb
      rw [if_neg (show ¬ b + 1 = b by omega), if_neg (show ¬ b + 1 = b by omega), if_pos rfl, if_pos rfl]
    · unfold bE cGb
      rw [if_neg (show ¬ b + j = b by omega), if_neg (show ¬ b + j = b + 1 by omega), if_neg (show ¬ b + j < b by omega), if_neg (show ¬ b + j = b by omega), if_neg (show ¬ b + j = b + 1 by omega)]
      rfl
theorem nI_cn {j : Nat} (h : j < 2 ^ 31) : (nI j).toNatClampNeg = j := nI_clamp h
theorem vpin {j n : Nat} (h : j < n) (hn : n < 2 ^ 31) : vp_in (nI j) n := vp_in_nI h hn
theorem Vc.nn {Y : Yc} {X : XT} {n0 n n2 sl sl2 : Nat} {E : Nat → va_E} {pc : Nat} {L : List (Option Value)} {st : List Value} (h : n = n2) (h2 : sl = sl2) (kk : Vc Y X n0 E n2 sl2 pc L st) : Vc Y X n0 E n sl pc L st := by
  subst h h2
  exact kk
