theorem cG_h {cy : Nat → ClassId} {ad : Nat → Nat} {h h' : Nat → Nat} {r : Nat → Int32} {k : Nat} (hk : k ≠ 34) : cG cy ad h r k = cG cy ad h' r k := by
  unfold cG cG1
  simp only [if_neg hk]
theorem wl_mhis {cy : Nat → ClassId} {ad : Nat → Nat} {sc : List (Nat × Nat)} {M : Mm} {j b : Nat} : (wl cy ad sc M).set 34 (ad 34, .inl (cy 3, 7, .inr (.inr (.inr (.inr (va_up (fun j => some (ad (M.2 j))) j (some (ad b)))))))) = wl cy ad sc (mhis M (va_up M.2 j b)) := by
  have e : (va_up (fun j => some (ad (M.2 j))) j (some (ad b))) = fun i => some (ad (va_up M.2 j b i)) := by
    funext i
    unfold va_up
    by_cases h : i = j
    · rw [if_pos h, if_pos h]
    · rw [if_neg h, if_neg h]
  rw [e]
  exact wl_set (k := 34) (M' := mhis M (va_up M.2 j b)) (by decide) rfl (fun k' h => cG_h (r := M.1 k') h) rfl
section VA
variable {Y : Yt} {X : XT} {M : Mm} {pc : Nat} {L : List (Option Value)} {st : List Value} {ins : List (Nat × Instr × Nat)} {nL : Nat} {own : String} {rm : Room} {ret : Option FieldType}
theorem v_aast34 (hX : vOK Y X ins nL own rm ret) {i : Int32} {b : Nat} (hb : isB b) (hin : vp_in i 7) (ix : Nat) (hd : gi ins ix = some (pc, .aastore, 1)) (kk : V Y X (mhis M (va_up M.2 i.toNatClampNeg b)) (pc + 1) L st) : V Y X M pc L (.ref (Y.2.2.2.1 b) :: .int i :: .ref (Y.2.2.2.1 34) :: st) := by
  obtain ⟨l, D, cy, ad, z, sc⟩ := Y
  obtain ⟨p, e, R, s, m, args, below, meth, c, cells, slots, Q, A⟩ := X
  obtain ⟨hx, hcd, hml, hts, hown, hK, ⟨hdd, hda⟩, hN, rfl, hret, hlk, hcl, hsl⟩ := hX
  intro H locs ls hP hS hl
  have hd2 := hcd ix _ hd
  have ha : (wl cy ad sc M)[34]? = some (ad 34, .inl (cy 3, 7, .inr (.inr (.inr (.inr (fun j => some (ad (M.2 j)))))))) := wl_get (by decide) rfl
  have hv : (wl cy ad sc M)[b]? = some (ad b, _) := wl_get (by have := isB_lt hb; omega) (cG_B hb)
  refine va_astq (D := D) (cl := vwCl) (ws := wl cy ad sc M) (tys := tq cy) (r := (RX0, TX0, 6)) hx rfl hK hP (wl_D hdd hda M) hS 34 3 b 0 ha rfl hv rfl hin hd2 (fun H1 locs1 hP1 _ hS1 => ?_)
  rw [wl_mhis] at hP1
  exact kk H1 locs1 ls hP1 hS1 hl
end VA
