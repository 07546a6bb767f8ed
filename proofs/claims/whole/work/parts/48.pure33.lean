theorem inv01 {t : Int32} (h : inv t 0 1 = true) : t = 0 ∨ t = 1 := by
  unfold inv at h
  rw [Bool.and_eq_true, Bool.not_eq_true', Bool.not_eq_true', decide_eq_false_iff_not, decide_eq_false_iff_not, Int32.lt_iff_toInt_lt, Int32.lt_iff_toInt_lt] at h
  have h0 : (0 : Int32).toInt = 0 := by decide
  have h1 : (1 : Int32).toInt = 1 := by decide
  rw [h0, h1] at h
  by_cases e : t.toInt = 0
  · exact Or.inl (Int32.toInt_inj.mp (by rw [e, h0]))
  · exact Or.inr (Int32.toInt_inj.mp (by rw [h1]; omega))
theorem sq_ci {M : Mm} {n : Nat} {now : Int32} (hz : (mset (rci n now 100 1 (lkM M n)).2 271 2 (M.1 271 2)).1 271 = M.1 271) : Sq M (mset (rci n now 100 1 (lkM M n)).2 271 2 (M.1 271 2)) := by
  have h2 : ∀ f d B, (rci n now f d B).2.2 = B.2 := by
    intro f
    induction f with
    | zero => intro d B; rfl
    | succ f ih =>
      intro d B
      rw [rci]
      split
      · rw [ih]; rfl
      · rfl
  have q := sq_lk (M := M) (n := n)
  refine ⟨by rw [mset_2, h2]; rfl, fun k a b c d e => ?_, ?_, ?_⟩
  · by_cases e1 : k = 271
    · rw [e1]; exact hz
    · rw [mset_n e1, rci_n ⟨e1, by omega, by omega⟩]
      exact q.2.1 k a b c d e
  · rw [mset_n (by decide), rci_n (by decide)]
    exact q.2.2.1
  · rw [mset_n (by decide), rci_n (by decide)]
    exact q.2.2.2
def Pr (Y : Yt) (y1 : MethodName) (w1 : List Cond) (r1 : Room) (y2 : MethodName) (w2 : List Cond) (r2 : Room) (As : List Value) (M : Mm) : Prop := ∃ (r : Int32) (M1 M2 : Mm), Fn Y y1 w1 r1 (.ref (Y.2.2.2 0) :: As) M (some (.int r)) M1 ∧ Fn Y y2 w2 r2 (.ref (Y.2.2.2 270) :: As) M1 (some (.int r)) M2 ∧ Sim M2
