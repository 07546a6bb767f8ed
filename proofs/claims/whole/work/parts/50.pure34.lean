theorem cost_q {M M2 : Mm} {n i : Nat} (h : Vb M 1 (M.1 271) n) (hz : M2.1 271 = M.1 271) (hi : i < n) : (lcS M2 n n).2 i = (lcS M n n).2 i ∧ (lcS M2 n n).1 i = (lcS M n n).1 i := by
  have hn := h.2.2.1
  have a := lc_fs (M := M) (o := bOut M 1) hn (fun a ha => lk_o h ha) n (Nat.le_refl n) i (by omega) hi
  have b := lc_fs (M := M2) (o := bOut M 1) hn (fun a ha => by rw [lkW_z hz ha]; exact lk_o h ha) n (Nat.le_refl n) i (by omega) hi
  rw [hz] at b
  exact ⟨b.1.trans a.1.symm, b.2.trans a.2.symm⟩
theorem e_lim {f : Nat} (hf : f ≤ 1000) : (if nI f < 1000 then nI f else (-6 : Int32)) = if nI f = 1000 then -6 else nI f := by
  by_cases g : f = 1000
  · rw [g]; rfl
  · have a1 : nI f < (1000 : Int32) := nI_lt (a := f) (b := 1000) (by omega) (by decide)
    have a2 : ¬ nI f = (1000 : Int32) := fun z => g ((nI_eq (a := f) (b := 1000) (by omega) (by decide)).mp z)
    rw [if_pos a1, if_neg a2]
