def sc (X : XT) (b L : Nat) (xs : Nat → Int32) : Prop :=
  match X with
  | (_, _, _, s, _, _, _, _, _, _, _, _, A) => va_X b L xs s s.heap ∧ b < s.heap.size ∧ ¬ A b
section VL
variable {Y : Yt} {X : XT} {M : Mm} {pc : Nat} {L : List (Option Value)} {st : List Value} {ins : List (Nat × Instr × Nat)} {nL : Nat} {own : String} {rm : Room} {ret : Option FieldType}
theorem v_sld (hX : vOK Y X ins nL own rm ret) {b N : Nat} {xs : Nat → Int32} (hs : sc X b N xs) {i : Int32} (hin : vp_in i N) (ix : Nat) (hd : gi ins ix = some (pc, .iaload, 1)) (kk : V Y X M (pc + 1) L (.int (xs i.toNatClampNeg) :: st)) : V Y X M pc L (.int i :: .ref b :: st) := by
  obtain ⟨l, D, cy, ad⟩ := Y
  obtain ⟨p, e, R, s, m, args, below, meth, c, cells, slots, Q, A⟩ := X
  obtain ⟨hx, hcd, hml, hts, hown, hK, ⟨hdd, hda⟩, hN, rfl, hret, hlk, hcl, hsl⟩ := hX
  intro H locs ls hP hS hl
  have hd := hcd ix _ hd
  exact va_sld hx rfl hs.1 hs.2.1 hs.2.2 hS hin hd (kk H locs ls hP hS hl)
theorem v_slen (hX : vOK Y X ins nL own rm ret) {b N : Nat} {xs : Nat → Int32} (hs : sc X b N xs) (ix : Nat) (hd : gi ins ix = some (pc, .arraylength, 1)) (kk : V Y X M (pc + 1) L (.int (nI N) :: st)) : V Y X M pc L (.ref b :: st) := by
  obtain ⟨l, D, cy, ad⟩ := Y
  obtain ⟨p, e, R, s, m, args, below, meth, c, cells, slots, Q, A⟩ := X
  obtain ⟨hx, hcd, hml, hts, hown, hK, ⟨hdd, hda⟩, hN, rfl, hret, hlk, hcl, hsl⟩ := hX
  intro H locs ls hP hS hl
  have hd := hcd ix _ hd
  exact va_slen hx rfl hs.1 hs.2.1 hs.2.2 hS hd (kk H locs ls hP hS hl)
end VL
theorem Vc.toV {l : Launch} {D : va_G} {cy : Nat → ClassId} {z : Nat} {p : Program} {e : Env} {R : Room} {s : State} {m : MethodId} {args : Array Value} {below : List Frame} {meth : Method} {c : Code} {c1 c2 : Nat} {Q : State → Prop} {A : Nat → Prop} {E : Nat → va_E} {sl pc : Nat} {L : List (Option Value)} {st : List Value} (hE : ∀ i, i < 281 → E i = Gc cy z i) (hsl : sl ≤ 7302250)
    (kk : V (l, D, cy, fun i => z + i) (p, e, R, s, m, args, below, meth, c, 600000, 7302250, Q, A) M0 pc L st) : Vc (l, D, cy, z) (p, e, R, s, m, args, below, meth, c, c1, c2, Q, A) 0 E 281 sl pc L st := by
  intro H locs ls hz hP hS hl
  have e : kw z E 281 = wl cy (fun i => z + i) M0 := kw_congr hE
  rw [e] at hP
  exact W.widen (Nat.le_of_ble_eq_true rfl) hsl (kk H locs ls hP hS hl)
theorem sim0 : Sim M0 := by
  refine ⟨⟨0, ⟨rfl, rfl, Nat.zero_le _, fun i hi => absurd hi (Nat.not_lt_zero i), rfl, rfl, rfl, rfl, fun i hi => absurd hi (Nat.not_lt_zero i)⟩, ⟨0, 14, 30, rfl, by decide, rfl, by decide, rfl, by decide, fun i hi => absurd hi (Nat.not_lt_zero i)⟩⟩, ⟨0, Nat.zero_le _, rfl, rfl, fun i hi => ⟨i, hi, rfl⟩, fun i j _ _ e => ?_, fun j hj => absurd hj (Nat.not_lt_zero j)⟩, fun s hs => ⟨Or.inr ⟨b_0 s, rfl⟩, fun g => absurd g (by show ¬ bt 0 s = true; rw [b_0]; decide)⟩, ⟨0, Nat.zero_le _, rfl, rfl, fun i hi => absurd hi (Nat.not_lt_zero i)⟩⟩
  have e : 35 + 26 * i = 35 + 26 * j := e
  omega
