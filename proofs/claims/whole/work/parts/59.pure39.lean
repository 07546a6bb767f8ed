theorem shr_bit (x : Int32) {j : Nat} (hj : j < 10) : bt (x >>> (nI j &&& 31)) 0 = bt x j := by
  have key : ∀ j, j < 10 → ((nI j &&& 31).toBitVec.smod 32#32).toNat = j := by decide +kernel
  unfold bt
  rw [Int32.toBitVec_shiftRight]
  show (x.toBitVec.sshiftRight ((nI j &&& 31).toBitVec.smod 32#32).toNat).getLsbD 0 = _
  rw [key j hj, BitVec.getLsbD_sshiftRight]
  simp
  intro h
  omega
theorem ov_v (x : Int32) {j : Nat} (hj : j < 10) : (x >>> (nI j &&& 31)) &&& 1 = hasv x (nI j) := by
  rw [hasv_nI x (by omega)]
  have h := shr_bit x hj
  apply b_ext
  intro i hi
  rw [b_and]
  by_cases e : i = 0
  · subst e
    rw [h]
    cases bt x j <;> decide
  · have h1 : ∀ i, i < 32 → i = 0 ∨ bt 1 i = false := by decide +kernel
    rw [(h1 i hi).resolve_left e, Bool.and_false]
    cases bt x j
    · exact (b_0 i).symm
    · exact ((h1 i hi).resolve_left e).symm
