theorem seM_r {X : Mm} {k : Nat} {r : Int32} (hr : ¬ r < 0) (hk : k ≤ 6) (h33 : X.1 33 1 = nI k) : (∀ q, q ≠ 33 → (seM X k r).1 q = X.1 q) ∧ (seM X k r).1 33 1 = nI (if k = 6 then 6 else k + 1) ∧ (seM X k r).2 = if k < 6 then X.2 else rot X.2 := by
  unfold seM
  rw [if_neg hr]
  by_cases c : k < 6
  · rw [if_pos c, if_pos c, if_neg (by omega)]
    exact ⟨fun q hq => mset_n hq, by rw [mset_s, upd_s], rfl⟩
  · have e : k = 6 := by omega
    rw [if_neg c, if_neg c, if_pos e]
    exact ⟨fun q _ => rfl, by rw [mhis_1, h33, e], rfl⟩
theorem rcM_4 {M : Mm} {k : Nat} : (rcM M k).1 270 4 = nI (if k = 6 then 6 else k + 1) := by
  unfold rcM
  by_cases c : k = 6
  · rw [if_pos c, if_pos c, mset_s, upd_s]
  · rw [if_neg c, if_neg c, mset_s, upd_s]
theorem rcM_272 {M M1 : Mm} {k : Nat} (h1 : M1.1 271 = M.1 271) (h2 : M1.1 272 = M.1 272) : (rcM M1 k).1 272 = (rcM M k).1 272 := by
  unfold rcM
  by_cases c : k = 6
  · rw [if_pos c, if_pos c, mset_n (by decide), mset_n (by decide), mrow_s, mrow_s, h1, h2]
  · rw [if_neg c, if_neg c, mset_n (by decide), mset_n (by decide), mrow_s, mrow_s, h1, h2]
theorem rcM_2 {M : Mm} {k : Nat} : (rcM M k).2 = M.2 := by
  unfold rcM
  split <;> rfl
