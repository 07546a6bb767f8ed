theorem wl_0 {cy : Nat → ClassId} {z : Nat} {M : Mm} : wl cy (fun i => z + i) [] M = kw z (fun k => cG cy (fun i => z + i) M.2 (M.1 k) k) 279 := by
  unfold wl kw fx
  exact List.append_nil _
theorem Dd0 {cy : Nat → ClassId} {z : Nat} : Dd cy (fun i => z + i) z [] := fun M => by
  rw [wl_0]
  exact kw_D
theorem Vc.toV {l : Launch} {D : va_G} {cy : Nat → ClassId} {z : Nat} {p : Program} {e : Env} {R : Room} {s : State} {m : MethodId} {args : Array Value} {below : List Frame} {meth : Method} {c : Code} {c1 c2 : Nat} {Q : State → Prop} {A : Nat → Prop} {E : Nat → va_E} {sl pc : Nat} {L : List (Option Value)} {st : List Value} (hE : ∀ i, i < 279 → E i = Gc cy z i) (hsl : sl ≤ 2333)
    (kk : V (l, D, cy, fun i => z + i, z, []) (p, e, R, s, m, args, below, meth, c, 279, 2333, Q, A) M0 pc L st) : Vc (l, D, cy, z) (p, e, R, s, m, args, below, meth, c, c1, c2, Q, A) 0 E 279 sl pc L st := by
  intro H locs ls hz hP hS hl
  have e : kw z E 279 = wl cy (fun i => z + i) [] M0 := by
    rw [wl_0]
    exact kw_congr hE
  rw [e] at hP
  exact W.widen (Nat.le_of_ble_eq_true rfl) hsl (kk H locs ls hP hS hl)
def M1s : Mm := mset (mset M0 278 0 14) 278 1 30
theorem li_0 : LI M1s 0 14 0 := by
  refine ⟨⟨rfl, Nat.zero_le _, fun i hi => absurd hi (Nat.not_lt_zero i), fun i hi => absurd hi (Nat.not_lt_zero i), fun i hi => absurd hi (Nat.not_lt_zero i), fun i t hi _ => absurd hi (Nat.not_lt_zero i), rfl, by decide, rfl, by decide, ?_⟩, ⟨0, Nat.zero_le _, rfl, fun i hi => ⟨isB_h hi, ?_⟩⟩, fun i hi => absurd hi (Nat.not_lt_zero i), fun i _ _ => rfl, rfl, rfl, rfl, rfl, rfl⟩
  · show (0 : Int32) ≤ 30
    decide
  · show 35 + 26 * i ≠ 1
    omega
