theorem flM_n {M : Mm} {n k : Nat} {s t p c : Int32} (h : k ≠ 271) : (flM M n s t p c).1 k = M.1 k := by
  unfold flM
  rw [mset_n h, mset_n h, mset_n h, mset_n h, mset_n h, mset_n h, mset_n h, mset_n h]
theorem doM_n {M : Mm} {n i k : Nat} (h : k ≠ 271) : (doM M n i).1 k = M.1 k := by
  unfold doM
  split
  · exact flM_n h
  split
  · exact flM_n h
  split
  · exact mset_n h
  split
  · exact mset_n h
  split
  · exact mset_n h
  · exact mset_n h
theorem doM_2 {M : Mm} {n i : Nat} : (doM M n i).2 = M.2 := by
  unfold doM
  split
  · rfl
  split
  · rfl
  split
  · rfl
  split
  · rfl
  split
  · rfl
  · rfl
theorem doM_z {M : Mm} {n k : Nat} (hz : M.1 271 3 = nI n) (hn : n ≤ 24) (hb : doB M n k = true) : ∃ n2, (doM M n k).1 271 3 = nI n2 ∧ n2 ≤ 24 := by
  have h0 : 0 ≤ doW M n k := of_decide_eq_true hb
  unfold doW at h0
  unfold doM
  split
  · rename_i hc
    have := wY_99 hc h0
    exact ⟨n + 1, mset_271s, by omega⟩
  split
  · rename_i hc
    have := (wY_97 hn hc h0).1
    exact ⟨n + 1, mset_271s, by omega⟩
  split
  · exact ⟨n, by rw [mset_271 (by omega)]; exact hz, hn⟩
  split
  · exact ⟨n, by rw [mset_271 (by omega)]; exact hz, hn⟩
  split
  · exact ⟨n, by rw [mset_271 (by decide)]; exact hz, hn⟩
  · exact ⟨n, by unfold ovM; rw [mset_271 (by decide)]; exact hz, hn⟩
def nz (M : Mm) : Nat := (M.1 271 3).toNatClampNeg
theorem nz_eq {M : Mm} {n : Nat} (h : M.1 271 3 = nI n) (hn : n ≤ 24) : nz M = n := by unfold nz; rw [h, nI_clamp (by omega)]
def dL : Nat → Nat → Mm → Nat × Mm
  | 0, i, M => (i, M)
  | f + 1, i, M => if doB M (nz M) i = true then dL f (i + 1) (doM M (nz M) i) else (i, M)
theorem rdF_le {s : Nat → Int32} {l : Nat} : ∀ f m a o, (rdF s l f m a o).2.2.2 ≤ m + f := by
  intro f
  induction f with
  | zero => intro m a o; exact Nat.le_refl _
  | succ f ih =>
    intro m a o
    rw [rdF]
    split
    · split
      · have := ih (m + 1) ((ordT s l a (-6)).1 + 1) (ordO s l a (-6) o m)
        omega
      · show m + 1 ≤ _
        omega
    · show m + 1 ≤ _
      omega
theorem rcM_r {M : Mm} {k j : Nat} (h : j ≠ 4) : (rcM M k).1 270 j = M.1 270 j := by
  unfold rcM
  split <;> rw [mset_s, upd_n h, mrow_n (by decide)]
