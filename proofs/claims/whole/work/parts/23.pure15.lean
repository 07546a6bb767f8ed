theorem x4n (m : Nat) : (4 : Int32) * nI m = nI (4 * m) := by rw [show (4 : Int32) = nI 4 from rfl, pk_mul]
def isO (c : Int32) : Bool := decide (c = 99) || (decide (c = 97) || (decide (c = 119) || (decide (c = 114) || (decide (c = 111) || decide (c = 116)))))
theorem nm_le {s : Nat → Int32} {l : Nat} {t : Nat × Int32} : t.1 ≤ (nmS s l t).1 ∧ (nmS s l t).1 ≤ t.1 + 2 := by
  have h := wn_le (a := t.1) (w := t.2) (b := inv (dgv s l t.1) 0 9)
  unfold nmS
  split
  · exact ⟨Nat.le_trans h.1 (Nat.le_succ _), Nat.succ_le_succ h.2⟩
  · exact ⟨h.1, Nat.le_trans h.2 (Nat.le_succ _)⟩
def oV1 (s : Nat → Int32) (l : Nat) (c : Int32) (t : Nat × Int32) : Int32 := if c = 99 then dgv s l t.1 else if c = 111 then dgv s l t.1 else nmV s l t
def oT2 (s : Nat → Int32) (l : Nat) (c : Int32) (t : Nat × Int32) : Nat × Int32 := if c = 99 then dgS s l 0 1 t else if c = 111 then dgS s l 0 9 t else nmS s l t
theorem oT2_le {s : Nat → Int32} {l : Nat} {c : Int32} {t : Nat × Int32} : t.1 ≤ (oT2 s l c t).1 ∧ (oT2 s l c t).1 ≤ t.1 + 2 := by
  unfold oT2
  split
  · exact ⟨wn_le.1, Nat.le_trans wn_le.2 (Nat.le_succ _)⟩
  · split
    · exact ⟨wn_le.1, Nat.le_trans wn_le.2 (Nat.le_succ _)⟩
    · exact nm_le
def oT1 (s : Nat → Int32) (l a : Nat) (w : Int32) : Nat × Int32 := wn a w (isO (chB s l a))
def oT3 (s : Nat → Int32) (l : Nat) (t : Nat × Int32) : Nat × Int32 := wn t.1 t.2 (decide (chB s l t.1 = 47))
def oTa (s : Nat → Int32) (l a : Nat) (w : Int32) : Nat × Int32 := oT2 s l (chB s l a) (oT1 s l a w)
def oTb (s : Nat → Int32) (l : Nat) (t : Nat × Int32) : Nat × Int32 := dgS s l 1 9 (oT3 s l t)
def ordT (s : Nat → Int32) (l a : Nat) (w : Int32) : Nat × Int32 := if chB s l a = 99 ∨ chB s l a = 97 then ctS s l (oTb s l (oTa s l a w)) else oTa s l a w
def ordR (s : Nat → Int32) (l a : Nat) (w : Int32) (o : Nat → Int32) (m : Nat) : Nat → Int32 := upd (upd o (4 * m) (chB s l a)) (4 * m + 1) (oV1 s l (chB s l a) (oT1 s l a w))
def ordO (s : Nat → Int32) (l a : Nat) (w : Int32) (o : Nat → Int32) (m : Nat) : Nat → Int32 := if chB s l a = 99 ∨ chB s l a = 97 then upd (upd (ordR s l a w o m) (4 * m + 2) (dgv s l (oT3 s l (oTa s l a w)).1)) (4 * m + 3) (ctV s l (oTb s l (oTa s l a w))) else ordR s l a w o m
theorem oTb_le {s : Nat → Int32} {l : Nat} {t : Nat × Int32} : (oT3 s l t).1 ≤ t.1 + 1 ∧ (oTb s l t).1 ≤ t.1 + 2 := by
  have h1 : (oT3 s l t).1 ≤ t.1 + 1 := wn_le.2
  have h2 : (oTb s l t).1 ≤ (oT3 s l t).1 + 1 := wn_le.2
  exact ⟨h1, by omega⟩
theorem x4p {m : Nat} (j : Nat) {x : Int32} (h : x = nI j) : nI (4 * m) + x = nI (4 * m + j) := by rw [h, nI_add]
