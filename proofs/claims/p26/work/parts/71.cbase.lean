def kw (z : Nat) (E : Nat → va_E) (n : Nat) : va_W := (List.range n).map (fun i => (z + i, E i))
def eu (E : Nat → va_E) (k : Nat) (e : va_E) : Nat → va_E := fun i => if i = k then e else E i
theorem eu_s {E : Nat → va_E} {k : Nat} {e : va_E} : eu E k e k = e := if_pos rfl
theorem eu_n {E : Nat → va_E} {k i : Nat} {e : va_E} (h : i ≠ k) : eu E k e i = E i := if_neg h
theorem kw_get {z : Nat} {E : Nat → va_E} {n i : Nat} (hi : i < n) : (kw z E n)[i]? = some (z + i, E i) := by
  unfold kw
  rw [List.getElem?_map, List.getElem?_range hi, Option.map_some]
theorem kw_at {z : Nat} {E : Nat → va_E} {n i : Nat} {q : Nat × va_E} (h : (kw z E n)[i]? = some q) : i < n ∧ q = (z + i, E i) := by
  by_cases hi : i < n
  · rw [kw_get hi] at h
    exact ⟨hi, (Option.some.inj h).symm⟩
  · unfold kw at h
    rw [List.getElem?_map, List.getElem?_eq_none (by simp; omega)] at h
    cases h
theorem kw_D {z : Nat} {E : Nat → va_E} {n : Nat} : va_D (fun q => z ≤ q) (kw z E n) := by
  refine ⟨fun i j p q hp hq e => ?_, fun k q hq => ?_⟩
  · rw [(kw_at hp).2, (kw_at hq).2] at e
    have e : z + i = z + j := e
    omega
  · rw [(kw_at hq).2]
    exact Nat.le_add_right z k
theorem kw_len {z : Nat} {E : Nat → va_E} {n : Nat} : (kw z E n).length = n := by unfold kw; rw [List.length_map, List.length_range]
theorem kw_congr {z : Nat} {E E' : Nat → va_E} {n : Nat} (h : ∀ i, i < n → E i = E' i) : kw z E n = kw z E' n := by
  unfold kw
  exact List.map_congr_left (fun i hi => by rw [h i (List.mem_range.mp hi)])
theorem kw_set {z : Nat} {E : Nat → va_E} {n k : Nat} {e : va_E} : (kw z E n).set k (z + k, e) = kw z (eu E k e) n := by
  apply List.ext_getElem?
  intro i
  rw [List.getElem?_set, kw_len]
  by_cases hi : i < n
  · rw [kw_get hi, kw_get hi]
    by_cases hik : k = i
    · subst hik
      rw [if_pos rfl, if_pos hi, eu_s]
    · rw [if_neg hik, eu_n (fun h => hik h.symm)]
  · have e1 : (kw z E n)[i]? = none := List.getElem?_eq_none (by rw [kw_len]; omega)
    have e2 : (kw z (eu E k e) n)[i]? = none := List.getElem?_eq_none (by rw [kw_len]; omega)
    rw [e1, e2]
    by_cases hik : k = i
    · rw [if_pos hik, if_neg (by omega)]
    · rw [if_neg hik]
theorem kw_push {z : Nat} {E : Nat → va_E} {n : Nat} {e : va_E} : kw z E n ++ [(z + n, e)] = kw z (eu E n e) (n + 1) := by
  apply List.ext_getElem?
  intro i
  rcases Nat.lt_trichotomy i n with h | h | h
  · rw [List.getElem?_append_left (by rw [kw_len]; exact h), kw_get h, kw_get (by omega), eu_n (by omega)]
  · subst h
    rw [List.getElem?_append_right (by rw [kw_len]; exact Nat.le_refl _), kw_len, Nat.sub_self, kw_get (by omega), eu_s]
    rfl
  · rw [List.getElem?_eq_none (by rw [List.length_append, kw_len]; simp; omega), List.getElem?_eq_none (by rw [kw_len]; omega)]
abbrev Yc : Type := Launch × va_G × (Nat → ClassId) × Nat
def Vc (Y : Yc) (X : XT) (n0 : Nat) (E : Nat → va_E) (n sl pc : Nat) (L : List (Option Value)) (st : List Value) : Prop :=
  match Y, X with
  | (l, D, cy, z), (p, e, R, s, m, args, below, meth, c, _, _, Q, A) =>
    ∀ (H : Heap) (locs : List Loc) (ls : Array Slot), H.size = z + n → va_P D vwCl (kw z E n) H → va_S A s.heap H locs → lw ls L → W p l e R s m args below meth c H locs (n - n0) sl Q (F0 m pc ls st)
def AOs (U : State) : Prop := va_AO "PointAnswers$Bundle" U ∧ va_AO "PointAnswers$Point" U
def cOK (Y : Yc) (X : XT) (n0 : Nat) (ins : List (Nat × Instr × Nat)) (nL : Nat) (own : String) (rm : Room) : Prop :=
  match Y, X with
  | (l, D, cy, z), (p, e, R, s, m, args, below, meth, c, _, _, Q, A) =>
    p.tables.exec = Jvm.exec ∧ (∀ i q, gi ins i = some q → decode c.code q.1 = .ok q.2) ∧ c.maxLocals = nL ∧ (∀ w ∈ wT, w.before args s = true) ∧ s.vm.findClass own = some m.cls ∧ va_K D vwCl (tq cy) s ∧ A = (fun q : Nat => z ≤ q) ∧ s.heap.size = z + n0 ∧ Nn s ∧ AOs s ∧ R = rm
def cIN (X : XT) : Prop :=
  match X with
  | (_, _, _, _, _, _, _, meth, _, _, _, _, _) => meth.name = "<init>" ∧ meth.sig.returnType = none ∧ meth.locks = false
def cQ (Y : Yc) (X : XT) (n0 : Nat) (E' : Nat → va_E) (mc ms : Nat) : Prop :=
  match Y, X with
  | (l, D, cy, z), (p, e, R, s, m, args, below, meth, c, _, _, Q, A) =>
    Q = MQ below (fun _ st oc t => oc = .returned none ∧ va_P D vwCl (kw z E' (n0 + mc)) t.heap ∧ va_F (fun q : Nat => z ≤ q) st t) args s mc ms (fun q : Nat => z ≤ q)
def cd (Y : Yc) (E : Nat → va_E) (n : Nat) (U : State) : Prop :=
  match Y with
  | (l, D, cy, z) => U.heap.size = z + n ∧ va_P D vwCl (kw z E n) U.heap ∧ va_K D vwCl (tq cy) U ∧ Nn U ∧ AOs U
def Cn (Y : Yc) (y : MethodName) (ws : List Cond) (rm : Room) (i0 n : Nat) (E E' : Nat → va_E) (mc ms : Nat) : Prop :=
  match Y with
  | (l, D, cy, z) => Met l y ws rm (va_Pc [.ref (z + i0)] (cd (l, D, cy, z) E n)) (fun _ st oc t => oc = .returned none ∧ va_P D vwCl (kw z E' (n + mc)) t.heap ∧ va_F (fun q : Nat => z ≤ q) st t) mc ms (fun q : Nat => z ≤ q)
theorem Cn.of {Y : Yc} {y : MethodName} {rm : Room} {i0 n : Nat} {E E' : Nat → va_E} {mc ms : Nat} {cc : ByteArray} {ins : List (Nat × Instr × Nat)} {maxL : Nat} (hy : plainName y.cls = true) (hin : y.name = "<init>") (hdc : ins.all (fun q => decide (decode cc q.1 = .ok q.2)) = true) (L0 : List (Option Value)) (hen : (lg_sl [Value.ref (Y.2.2.2 + i0)]).length ≤ maxL) (hL0 : L0.length = maxL) (hsub : la 0 L0 = lv_args 0 [Value.ref (Y.2.2.2 + i0)])
    (body : ∀ X : XT, cOK Y X n ins maxL y.cls rm → cIN X → cQ Y X n E' mc ms → Vc Y X n E n 0 0 L0 []) : Cn Y y (Cond.code y cc maxL none :: wT) rm i0 n E E' mc ms := by
  obtain ⟨l, D, cy, z⟩ := Y
  subst hL0
  refine Met.ofW (cc := cc) (maxL := L0.length) (ret := none) hy rfl ?_
  intro p e s m args below meth c s₁ B hml hv
  obtain ⟨rfl, hsz, hP, hK, hN, hAO⟩ := hv
  have hl := lv_entry [Value.ref (z + i0)] hen
  rw [← hsub] at hl
  rw [lg_entry_eq]
  have k := body (p, e, rm, s, m, [Value.ref (z + i0)].toArray, below, meth, c, 0, 0, MQ below (fun _ st oc t => oc = .returned none ∧ va_P D vwCl (kw z E' (n + mc)) t.heap ∧ va_F (fun q : Nat => z ≤ q) st t) [Value.ref (z + i0)].toArray s mc ms (fun q : Nat => z ≤ q), fun q : Nat => z ≤ q)
    ⟨B.exec, by rw [B.bytes]; exact dcd hdc, hml, fun w hw => atoms_spec (ws := Cond.code y cc L0.length none :: wT) B.pre w (List.mem_cons_of_mem _ hw), findClass_of_methodNamed B.named, hK, rfl, hsz, hN, hAO, rfl⟩ ⟨(name_of_methodNamed B.named B.method).1.trans hin, B.returns, B.notSynchronized⟩ rfl s.heap [] _ hsz hP va_S.rf hl
  rw [Nat.sub_self] at k
  exact k
theorem AOs.alike {u U : State} (hvm : u.vm.Alike U.vm) (h : AOs u) : AOs U := ⟨h.1.moved hvm, h.2.moved hvm⟩
theorem cd_blind {Y : Yc} {E : Nat → va_E} {n : Nat} {As : List Value} : FrameBlind (va_Pc As (cd Y E n)) := by
  obtain ⟨l, D, cy, z⟩ := Y
  intro a U g mk h
  obtain ⟨h1, h2, h3, h4, h5, h6⟩ := h
  exact ⟨h1, h2, h3, va_K.moved (u := U) (U := U.calling g mk a) (Vm.Alike.refl U.vm) h4, Nn.same (s := U) (U := U.calling g mk a) rfl h5, AOs.alike (u := U) (U := U.calling g mk a) (Vm.Alike.refl U.vm) h6⟩
section VU
variable {p : Program} {l : Launch} {e : Env} {R : Room} {s : State} {m : MethodId} {args : Array Value} {below : List Frame} {meth : Method} {c : Code} {H : Heap} {locs : List Loc} {cells slots : Nat} {Q : State → Prop}
theorem c_up {g : JFrame} (kk : H.size ≤ s.heap.size + cells → W p l e R s m args below meth c H locs cells slots Q g) : W p l e R s m args below meth c H locs cells slots Q g := fun T hT X => kk (by have h := X.heapSize; rw [hT] at h; exact h) T hT X
theorem c_run {pc : Nat} {ls : Array Slot} {rest st0 : List Value} {A0 A1 : Nat → Prop} {H0 : Heap} {D : va_G} {w1 : va_W} {mc ms : Nat}
    (hr : va_Run p l e R s m args below meth c H locs cells slots mc ms (F0 m pc ls st0) rest (fun st oc t => oc = .returned none ∧ va_P D vwCl w1 t.heap ∧ va_F A1 st t) A1) (hS : va_S A0 H0 H locs) (hA : ∀ q, A1 q → A0 q)
    (kk : ∀ (H1 : Heap) (locs1 : List Loc), va_P D vwCl w1 H1 → va_S A0 H0 H1 locs1 → W p l e R s m args below meth c H1 locs1 (cells + mc) (slots + ms) Q (F0 m (pc + 3) ls rest)) : W p l e R s m args below meth c H locs cells slots Q (F0 m pc ls st0) := by
  intro T hT X
  obtain ⟨v, st₀, t, T', L, h0, X', hL, e1, e2, ⟨hv, hp, hz, hk⟩, st⟩ := hr T hT X
  cases hv
  rw [h0] at hz hk
  obtain ⟨t2, a1, b1⟩ := kk T'.heap (locs ++ L) (by rw [e1]; exact hp)
    ⟨Nat.le_trans hS.1 (by rw [e1]; exact hz), fun q h1 h2 => by rw [e1, hk q (Nat.lt_of_lt_of_le h1 hS.1) (fun z => h2 (hA q z))]; exact hS.2.1 q h1 h2, fun q hq => by
      rcases List.mem_append.mp hq with h | h
      · exact hS.2.2 q h
      · exact hA _ (hL q h)⟩ T' rfl X'
  exact ⟨t2, st t2 a1, b1⟩
end VU
theorem kw_lo {D : va_G} {z n : Nat} {E : Nat → va_E} {H : Heap} (hP : va_P D vwCl (kw z E n) H) (hn : 0 < n) : z + n ≤ H.size := by
  have h := (hP (n - 1) _ (kw_get (by omega))).lt
  have h : z + (n - 1) < H.size := h
  omega
theorem kw_new {D : va_G} {z n q : Nat} {E : Nat → va_E} {e : va_E} {H : Heap} (hP : va_P D vwCl (kw z E n ++ [(q, e)]) H) (hD : va_D (fun q : Nat => z ≤ q) (kw z E n ++ [(q, e)])) (hH : H.size ≤ z + (n + 1)) : q = z + n ∧ H.size = z + (n + 1) ∧ va_P D vwCl (kw z (eu E n e) (n + 1)) H := by
  have hg : (kw z E n ++ [(q, e)])[n]? = some (q, e) := by
    rw [List.getElem?_append_right (by rw [kw_len]; exact Nat.le_refl _), kw_len, Nat.sub_self]
    rfl
  have h1 : q < H.size := (hP n _ hg).lt
  have h2 : z ≤ q := hD.2 n _ hg
  have h3 : ∀ i, i < n → z + i ≠ q := fun i hi he => by
    have := hD.1 i n (z + i, E i) (q, e) (by rw [List.getElem?_append_left (by rw [kw_len]; exact hi)]; exact kw_get hi) hg he
    omega
  have h4 : q = z + n := by
    rcases Nat.lt_or_ge q (z + n) with g | g
    · exact absurd (show z + (q - z) = q by omega) (h3 (q - z) (by omega))
    · omega
  subst h4
  refine ⟨rfl, by omega, ?_⟩
  rw [← kw_push]
  exact hP
theorem cA_prim {D : va_G} {cl : List vw_C} {cy : Nat → ClassId} {s : State} {cA : ClassId} {ty : FieldType} {t : Nat} (hK : va_K D cl (tq cy ++ [(cA, ty)]) s) (ht : (tq cy)[t]? = some (cy t, ty)) (hty : ty = .int ∨ ty = .char ∨ ty = .boolean) : cA = cy t := by
  have hlt : t < (tq cy).length := (List.getElem?_eq_some_iff.mp ht).1
  have h1 := (hK.2 t _ (by rw [List.getElem?_append_left hlt]; exact ht)).2
  have h2 := (hK.2 5 (cA, ty) rfl).2
  rcases hty with rfl | rfl | rfl
  · exact Option.some.inj ((show s.vm.findClass _ = some cA from h2).symm.trans (show s.vm.findClass _ = some (cy t) from h1))
  · exact Option.some.inj ((show s.vm.findClass _ = some cA from h2).symm.trans (show s.vm.findClass _ = some (cy t) from h1))
  · exact Option.some.inj ((show s.vm.findClass _ = some cA from h2).symm.trans (show s.vm.findClass _ = some (cy t) from h1))
theorem cA_ref {D : va_G} {cl : List vw_C} {cy : Nat → ClassId} {s : State} {cA : ClassId} {C : String} {t : Nat} (hK : va_K D cl (tq cy ++ [(cA, .object C)]) s) (ht : (tq cy)[t]? = some (cy t, .object C)) : cA = cy t := by
  have hlt : t < (tq cy).length := (List.getElem?_eq_some_iff.mp ht).1
  obtain ⟨_, _, _, _, _, h1⟩ := (hK.2 t _ (by rw [List.getElem?_append_left hlt]; exact ht)).2
  obtain ⟨_, _, _, _, _, h2⟩ := (hK.2 5 (cA, .object C) rfl).2
  exact Option.some.inj (h2.symm.trans h1)
section VCR
variable {Y : Yc} {X : XT} {n0 n sl : Nat} {E : Nat → va_E} {pc : Nat} {L : List (Option Value)} {st : List Value} {ins : List (Nat × Instr × Nat)} {nL : Nat} {own : String} {rm : Room}
theorem Vc.congr {E' : Nat → va_E} (h : ∀ i, i < n → E i = E' i) (kk : Vc Y X n0 E' n sl pc L st) : Vc Y X n0 E n sl pc L st := by
  obtain ⟨l, D, cy, z⟩ := Y
  obtain ⟨p, e, R, s, m, args, below, meth, c, c1, c2, Q, A⟩ := X
  intro H locs ls hz hP hS hl
  rw [kw_congr h] at hP
  exact kk H locs ls hz hP hS hl
theorem Vc.sub {L' : List (Option Value)} (k : Vc Y X n0 E n sl pc L' st) (hlen : L'.length = L.length) (h : lsub L 0 L') : Vc Y X n0 E n sl pc L st := by
  obtain ⟨l, D, cy, z⟩ := Y
  obtain ⟨p, e, R, s, m, args, below, meth, c, c1, c2, Q, A⟩ := X
  intro H locs ls hz hP hS hl
  exact k H locs ls hz hP hS (lw_sub hlen h hl)
theorem Vc.arr {k cA m : Nat} {f g : Nat → Option Nat} (h : ∀ j, j < m → f j = g j) (kk : Vc Y X n0 (eu E k (.inl (cA, m, .inr (.inr (.inr (.inr g)))))) n sl pc L st) : Vc Y X n0 (eu E k (.inl (cA, m, .inr (.inr (.inr (.inr f)))))) n sl pc L st := by
  obtain ⟨l, D, cy, z⟩ := Y
  obtain ⟨p, e, R, s, m2, args, below, meth, c, c1, c2, Q, A⟩ := X
  intro H locs ls hz hP hS hl
  refine kk H locs ls hz (fun i q hq => ?_) hS hl
  obtain ⟨hi, rfl⟩ := kw_at hq
  have h0 := hP i _ (kw_get hi)
  by_cases e : i = k
  · subst e
    rw [eu_s] at h0 ⊢
    have e2 : vp_cell cA (m, .inr (.inr (.inr (.inr g)))) = vp_cell cA (m, .inr (.inr (.inr (.inr f)))) := by
      rw [vp_cell_q, vp_cell_q]
      unfold arrV
      congr 2
      funext j
      show va_rf (g j.val) = va_rf (f j.val)
      rw [h j.val j.isLt]
    show H[_]? = some (vp_cell cA (m, .inr (.inr (.inr (.inr g)))))
    rw [e2]
    exact h0
  · rw [eu_n e] at h0 ⊢
    exact h0
theorem c_iconst (hX : cOK Y X n0 ins nL own rm) {k : Int} {v : Int32} (ix : Nat) (hd : gi ins ix = some (pc, .iconst k, 1)) (hv : Int32.ofInt k = v) (kk : Vc Y X n0 E n sl (pc + 1) L (.int v :: st)) : Vc Y X n0 E n sl pc L st := by
  obtain ⟨l, D, cy, z⟩ := Y
  obtain ⟨p, e, R, s, m, args, below, meth, c, c1, c2, Q, A⟩ := X
  obtain ⟨hx, hcd, hml, hts, hown, hK, rfl, hsz, hN, hAO, rfl⟩ := hX
  intro H locs ls hz hP hS hl
  have hd := hcd ix _ hd
  exact lv_iconst hx rfl hd hv (kk H locs ls hz hP hS hl)
theorem c_bipush (hX : cOK Y X n0 ins nL own rm) {k : Int} {v : Int32} (ix : Nat) (hd : gi ins ix = some (pc, .bipush k, 2)) (hv : (Int8.ofInt k).toInt32 = v) (kk : Vc Y X n0 E n sl (pc + 2) L (.int v :: st)) : Vc Y X n0 E n sl pc L st := by
  obtain ⟨l, D, cy, z⟩ := Y
  obtain ⟨p, e, R, s, m, args, below, meth, c, c1, c2, Q, A⟩ := X
  obtain ⟨hx, hcd, hml, hts, hown, hK, rfl, hsz, hN, hAO, rfl⟩ := hX
  intro H locs ls hz hP hS hl
  have hd := hcd ix _ hd
  exact lv_bipush hx rfl hd hv (kk H locs ls hz hP hS hl)
theorem c_sipush (hX : cOK Y X n0 ins nL own rm) {k : Int} {v : Int32} (ix : Nat) (hd : gi ins ix = some (pc, .sipush k, 3)) (hv : (Int16.ofInt k).toInt32 = v) (kk : Vc Y X n0 E n sl (pc + 3) L (.int v :: st)) : Vc Y X n0 E n sl pc L st := by
  obtain ⟨l, D, cy, z⟩ := Y
  obtain ⟨p, e, R, s, m, args, below, meth, c, c1, c2, Q, A⟩ := X
  obtain ⟨hx, hcd, hml, hts, hown, hK, rfl, hsz, hN, hAO, rfl⟩ := hX
  intro H locs ls hz hP hS hl
  have hd := hcd ix _ hd
  exact lv_sipush hx rfl hd hv (kk H locs ls hz hP hS hl)
theorem c_iload_n (hX : cOK Y X n0 ins nL own rm) {k : Fin 4} (i : Nat) {x : Int32} (ix : Nat) (hd : gi ins ix = some (pc, .iload_n k, 1)) (hi : (k : Nat) = i) (hg : lg L i = some (.int x)) (kk : Vc Y X n0 E n sl (pc + 1) L (.int x :: st)) : Vc Y X n0 E n sl pc L st := by
  obtain ⟨l, D, cy, z⟩ := Y
  obtain ⟨p, e, R, s, m, args, below, meth, c, c1, c2, Q, A⟩ := X
  obtain ⟨hx, hcd, hml, hts, hown, hK, rfl, hsz, hN, hAO, rfl⟩ := hX
  intro H locs ls hz hP hS hl
  have hd := hcd ix _ hd
  exact lv_iload_n hx rfl hd hi (lw_at hl hg) (kk H locs ls hz hP hS hl)
theorem c_istore_n (hX : cOK Y X n0 ins nL own rm) {k : Fin 4} (i : Nat) {x : Int32} (ix : Nat) (hd : gi ins ix = some (pc, .istore_n k, 1)) (hi : (k : Nat) = i) (hn : i < L.length) (hc : lc L i = true) (kk : Vc Y X n0 E n sl (pc + 1) (lset L i (some (.int x))) st) : Vc Y X n0 E n sl pc L (.int x :: st) := by
  obtain ⟨l, D, cy, z⟩ := Y
  obtain ⟨p, e, R, s, m, args, below, meth, c, c1, c2, Q, A⟩ := X
  obtain ⟨hx, hcd, hml, hts, hown, hK, rfl, hsz, hN, hAO, rfl⟩ := hX
  intro H locs ls hz hP hS hl
  have hd := hcd ix _ hd
  exact lv_istore_n hx rfl hd hi hl hn rfl (fun ls2 h2 => kk H locs ls2 hz hP hS (lw_set1 hc h2))
theorem c_aload_n (hX : cOK Y X n0 ins nL own rm) {k : Fin 4} (i : Nat) {x : Nat} (ix : Nat) (hd : gi ins ix = some (pc, .aload_n k, 1)) (hi : (k : Nat) = i) (hg : lg L i = some (.ref x)) (kk : Vc Y X n0 E n sl (pc + 1) L (.ref x :: st)) : Vc Y X n0 E n sl pc L st := by
  obtain ⟨l, D, cy, z⟩ := Y
  obtain ⟨p, e, R, s, m, args, below, meth, c, c1, c2, Q, A⟩ := X
  obtain ⟨hx, hcd, hml, hts, hown, hK, rfl, hsz, hN, hAO, rfl⟩ := hX
  intro H locs ls hz hP hS hl
  have hd := hcd ix _ hd
  exact lv_aload_n hx rfl hd hi (lw_at hl hg) (kk H locs ls hz hP hS hl)
theorem c_astore_n (hX : cOK Y X n0 ins nL own rm) {k : Fin 4} (i : Nat) {x : Nat} (ix : Nat) (hd : gi ins ix = some (pc, .astore_n k, 1)) (hi : (k : Nat) = i) (hn : i < L.length) (hc : lc L i = true) (kk : Vc Y X n0 E n sl (pc + 1) (lset L i (some (.ref x))) st) : Vc Y X n0 E n sl pc L (.ref x :: st) := by
  obtain ⟨l, D, cy, z⟩ := Y
  obtain ⟨p, e, R, s, m, args, below, meth, c, c1, c2, Q, A⟩ := X
  obtain ⟨hx, hcd, hml, hts, hown, hK, rfl, hsz, hN, hAO, rfl⟩ := hX
  intro H locs ls hz hP hS hl
  have hd := hcd ix _ hd
  exact lv_astore_n hx rfl hd hi hl hn rfl (fun ls2 h2 => kk H locs ls2 hz hP hS (lw_set1 hc h2))
theorem c_astore (hX : cOK Y X n0 ins nL own rm) {i : Nat} {x : Nat} (ix : Nat) (hd : gi ins ix = some (pc, .astore i, 2)) (hn : i < L.length) (hc : lc L i = true) (kk : Vc Y X n0 E n sl (pc + 2) (lset L i (some (.ref x))) st) : Vc Y X n0 E n sl pc L (.ref x :: st) := by
  obtain ⟨l, D, cy, z⟩ := Y
  obtain ⟨p, e, R, s, m, args, below, meth, c, c1, c2, Q, A⟩ := X
  obtain ⟨hx, hcd, hml, hts, hown, hK, rfl, hsz, hN, hAO, rfl⟩ := hX
  intro H locs ls hz hP hS hl
  have hd := hcd ix _ hd
  exact lv_astore hx rfl hd hl hn rfl (fun ls2 h2 => kk H locs ls2 hz hP hS (lw_set1 hc h2))
theorem c_iinc (hX : cOK Y X n0 ins nL own rm) {i : Nat} {k : Int} {x v : Int32} (ix : Nat) (hd : gi ins ix = some (pc, .iinc i k, 3)) (hg : lg L i = some (.int x)) (hv : x + Int32.ofInt k = v) (hn : i < L.length) (hc : lc L i = true) (kk : Vc Y X n0 E n sl (pc + 3) (lset L i (some (.int v))) st) : Vc Y X n0 E n sl pc L st := by
  obtain ⟨l, D, cy, z⟩ := Y
  obtain ⟨p, e, R, s, m, args, below, meth, c, c1, c2, Q, A⟩ := X
  obtain ⟨hx, hcd, hml, hts, hown, hK, rfl, hsz, hN, hAO, rfl⟩ := hX
  intro H locs ls hz hP hS hl
  have hd := hcd ix _ hd
  obtain ⟨q, hq⟩ : ∃ q, (la 0 L)[q]? = some (i, Value.int x) := List.getElem?_of_mem (la_mem.mpr ⟨Nat.zero_le _, hg⟩)
  exact lv_iinc hx rfl hd hl hq hv hn rfl (fun ls2 h2 => kk H locs ls2 hz hP hS (lw_set1 hc h2))
theorem c_dup (hX : cOK Y X n0 ins nL own rm) {v : Value} (ix : Nat) (hd : gi ins ix = some (pc, .dup, 1)) (hc : v.category = 1) (kk : Vc Y X n0 E n sl (pc + 1) L (v :: v :: st)) : Vc Y X n0 E n sl pc L (v :: st) := by
  obtain ⟨l, D, cy, z⟩ := Y
  obtain ⟨p, e, R, s, m, args, below, meth, c, c1, c2, Q, A⟩ := X
  obtain ⟨hx, hcd, hml, hts, hown, hK, rfl, hsz, hN, hAO, rfl⟩ := hX
  intro H locs ls hz hP hS hl
  have hd := hcd ix _ hd
  exact lv_dup hx rfl hd hc (kk H locs ls hz hP hS hl)
theorem c_goto (hX : cOK Y X n0 ins nL own rm) {off : Int} {tgt : Nat} (ix : Nat) (hd : gi ins ix = some (pc, .goto off, 3)) (ht : (pc : Int) + off = (tgt : Int)) (kk : Vc Y X n0 E n sl tgt L st) : Vc Y X n0 E n sl pc L st := by
  obtain ⟨l, D, cy, z⟩ := Y
  obtain ⟨p, e, R, s, m, args, below, meth, c, c1, c2, Q, A⟩ := X
  obtain ⟨hx, hcd, hml, hts, hown, hK, rfl, hsz, hN, hAO, rfl⟩ := hX
  intro H locs ls hz hP hS hl
  have hd := hcd ix _ hd
  exact lv_goto hx rfl hd ht (kk H locs ls hz hP hS hl)
theorem c_icmp_ge (hX : cOK Y X n0 ins nL own rm) {x y : Int32} {off : Int} {tgt : Nat} (ix : Nat) (hd : gi ins ix = some (pc, .if_icmp .ge off, 3)) (ht : (pc : Int) + off = (tgt : Int)) (kt : y ≤ x → Vc Y X n0 E n sl tgt L st) (kf : ¬ y ≤ x → Vc Y X n0 E n sl (pc + 3) L st) : Vc Y X n0 E n sl pc L (.int y :: .int x :: st) := by
  obtain ⟨l, D, cy, z⟩ := Y
  obtain ⟨p, e, R, s, m, args, below, meth, c, c1, c2, Q, A⟩ := X
  obtain ⟨hx, hcd, hml, hts, hown, hK, rfl, hsz, hN, hAO, rfl⟩ := hX
  intro H locs ls hz hP hS hl
  have hd := hcd ix _ hd
  exact lv_icmp_ge hx rfl hd ht (fun h => kt h H locs ls hz hP hS hl) (fun h => kf h H locs ls hz hP hS hl)
theorem c_get (hX : cOK Y X n0 ins nL own rm) {k ci N index : Nat} {C ref : String} {T : u_T} {fs : List Value} (hk : k < n) (he : E k = .inr (ci, fs)) (hc : vwCl[ci]? = some (C, T, N)) (hin : ∀ w ∈ u_ws C T N, w ∈ wT) (j : Nat) (hj : j < N) (hlink : Cond.fieldLink own index ref (T j).2.1 (T j).2.2.1 ∈ wT) (hr : ref = (T j).1) {v : Value} (hv : fs[j]? = some v) (ix : Nat) (hd : gi ins ix = some (pc, .getfield index, 3)) (kk : Vc Y X n0 E n sl (pc + 3) L (v :: st)) : Vc Y X n0 E n sl pc L (.ref (Y.2.2.2 + k) :: st) := by
  obtain ⟨l, D, cy, z⟩ := Y
  obtain ⟨p, e, R, s, m, args, below, meth, c, c1, c2, Q, A⟩ := X
  obtain ⟨hx, hcd, hml, hts, hown, hK, rfl, hsz, hN, hAO, rfl⟩ := hX
  intro H locs ls hz hP hS hl
  have hd := hcd ix _ hd
  exact va_get (D := D) (ws := kw z E n) (tys := tq cy) hx rfl hts hin hown hK hP k (by rw [kw_get hk, he]) hc j hj (hts _ hlink) (fun _ h => by rw [hr]; exact h) hv hd (kk H locs ls hz hP hS hl)
theorem c_put (hX : cOK Y X n0 ins nL own rm) {k ci N index : Nat} {C ref : String} {T : u_T} {fs : List Value} (hk : k < n) (hn0 : n0 ≤ n) (he : E k = .inr (ci, fs)) (hc : vwCl[ci]? = some (C, T, N)) (hin : ∀ w ∈ u_ws C T N, w ∈ wT) (ty0 : Nat → FieldType) (hty : ∀ k, k < N → parseFieldDescriptor (T k).2.2.1 = some (ty0 k)) (hnm : ∀ a, a < N → ∀ b, b < N → a ≠ b → (T a).2.1 ≠ (T b).2.1) (j : Nat) (hj : j < N) (hlink : Cond.fieldLink own index ref (T j).2.1 (T j).2.2.1 ∈ wT) (hr : ref = (T j).1) (hfin : (T j).2.2.2 = false) {v : Value} (hn : narrow (ty0 j) v = v) (hfit : fits (ty0 j) v = true) (hlen : j < fs.length) (ix : Nat) (hd : gi ins ix = some (pc, .putfield index, 3)) (kk : Vc Y X n0 (eu E k (.inr (ci, fs.set j v))) n sl (pc + 3) L st) : Vc Y X n0 E n sl pc L (v :: .ref (Y.2.2.2 + k) :: st) := by
  obtain ⟨l, D, cy, z⟩ := Y
  obtain ⟨p, e, R, s, m, args, below, meth, c, c1, c2, Q, A⟩ := X
  obtain ⟨hx, hcd, hml, hts, hown, hK, rfl, hsz, hN, hAO, rfl⟩ := hX
  intro H locs ls hz hP hS hl
  have hd := hcd ix _ hd
  refine va_put (D := D) (ws := kw z E n) (tys := tq cy) hx rfl hts hin ty0 hty hnm hown hK hP kw_D hS k (by rw [kw_get hk, he]) hc j hj (hts _ hlink) (fun _ h => by rw [hr]; exact h) hfin (hty j hj) hn hfit hlen hd (fun H1 locs1 hP1 _ hS1 => ?_)
  rw [kw_set] at hP1
  exact c_up (fun hup => kk H1 locs1 ls (Nat.le_antisymm (by omega) (kw_lo hP1 (by omega))) hP1 hS1 hl)
theorem c_putF (hX : cOK Y X n0 ins nL own rm) {k ci N index : Nat} {C ref : String} {T : u_T} {fs : List Value} (hk : k < n) (hn0 : n0 ≤ n) (he : E k = .inr (ci, fs)) (hc : vwCl[ci]? = some (C, T, N)) (hin : ∀ w ∈ u_ws C T N, w ∈ wT) (ty0 : Nat → FieldType) (hty : ∀ k, k < N → parseFieldDescriptor (T k).2.2.1 = some (ty0 k)) (hnm : ∀ a, a < N → ∀ b, b < N → a ≠ b → (T a).2.1 ≠ (T b).2.1) (j : Nat) (hj : j < N) (hlink : Cond.fieldLink own index ref (T j).2.1 (T j).2.2.1 ∈ wT) (hr : ref = (T j).1) (hI : cIN X) (hfin : (T j).2.2.2 = true) (hdecl : (T j).1 = own) {v : Value} (hn : narrow (ty0 j) v = v) (hfit : fits (ty0 j) v = true) (hlen : j < fs.length) (ix : Nat) (hd : gi ins ix = some (pc, .putfield index, 3)) (kk : Vc Y X n0 (eu E k (.inr (ci, fs.set j v))) n sl (pc + 3) L st) : Vc Y X n0 E n sl pc L (v :: .ref (Y.2.2.2 + k) :: st) := by
  obtain ⟨l, D, cy, z⟩ := Y
  obtain ⟨p, e, R, s, m, args, below, meth, c, c1, c2, Q, A⟩ := X
  obtain ⟨hx, hcd, hml, hts, hown, hK, rfl, hsz, hN, hAO, rfl⟩ := hX
  intro H locs ls hz hP hS hl
  have hd := hcd ix _ hd
  refine va_putF (D := D) (ws := kw z E n) (tys := tq cy) hx rfl hts hin ty0 hty hnm hown hK hP kw_D hS k (by rw [kw_get hk, he]) hc j hj (hts _ hlink) (fun _ h => by rw [hr]; exact h) hfin hI.1 hdecl (hty j hj) hn hfit hlen hd (fun H1 locs1 hP1 _ hS1 => ?_)
  rw [kw_set] at hP1
  exact c_up (fun hup => kk H1 locs1 ls (Nat.le_antisymm (by omega) (kw_lo hP1 (by omega))) hP1 hS1 hl)
theorem c_alen (hX : cOK Y X n0 ins nL own rm) {k t0 : Nat} {a : vp_A} {ty : FieldType} {v : Int32} (hk : k < n) (he : E k = .inl (Y.2.2.1 t0, a)) (ht : (tq Y.2.2.1)[t0]? = some (Y.2.2.1 t0, ty)) (hv : Int32.ofNat a.1 = v) (ix : Nat) (hd : gi ins ix = some (pc, .arraylength, 1)) (kk : Vc Y X n0 E n sl (pc + 1) L (.int v :: st)) : Vc Y X n0 E n sl pc L (.ref (Y.2.2.2 + k) :: st) := by
  obtain ⟨l, D, cy, z⟩ := Y
  obtain ⟨p, e, R, s, m, args, below, meth, c, c1, c2, Q, A⟩ := X
  obtain ⟨hx, hcd, hml, hts, hown, hK, rfl, hsz, hN, hAO, rfl⟩ := hX
  intro H locs ls hz hP hS hl
  have hd := hcd ix _ hd
  exact va_alen (D := D) (ws := kw z E n) (tys := tq cy) hx rfl hK hP k t0 (by rw [kw_get hk, he]) ht hv hd (kk H locs ls hz hP hS hl)
theorem c_aast (hX : cOK Y X n0 ins nL own rm) {k t0 v ci N j : Nat} {C : String} {T : u_T} {f : Nat → Option Nat} {vs : List Value} {i : Int32} {m0 : Nat} (hk : k < n) (hn0 : n0 ≤ n) (he : E k = .inl (Y.2.2.1 t0, m0, .inr (.inr (.inr (.inr f))))) (ht : (tq Y.2.2.1)[t0]? = some (Y.2.2.1 t0, .object C)) (hvn : v < n) (hv : E v = .inr (ci, vs)) (hc : vwCl[ci]? = some (C, T, N)) (hi : i.toNatClampNeg = j) (hin : vp_in i m0) (ix : Nat) (hd : gi ins ix = some (pc, .aastore, 1)) (kk : Vc Y X n0 (eu E k (.inl (Y.2.2.1 t0, m0, .inr (.inr (.inr (.inr (va_up f j (some (Y.2.2.2 + v)))))))) ) n sl (pc + 1) L st) : Vc Y X n0 E n sl pc L (.ref (Y.2.2.2 + v) :: .int i :: .ref (Y.2.2.2 + k) :: st) := by
  obtain ⟨l, D, cy, z⟩ := Y
  obtain ⟨p, e, R, s, m, args, below, meth, c, c1, c2, Q, A⟩ := X
  obtain ⟨hx, hcd, hml, hts, hown, hK, rfl, hsz, hN, hAO, rfl⟩ := hX
  intro H locs ls hz hP hS hl
  have hd := hcd ix _ hd
  subst hi
  refine va_astq (D := D) (cl := vwCl) (ws := kw z E n) (tys := tq cy) (r := (C, T, N)) hx rfl hK hP kw_D hS k t0 v ci (by rw [kw_get hk, he]) ht (by rw [kw_get hvn, hv]) hc hin hd (fun H1 locs1 hP1 _ hS1 => ?_)
  rw [kw_set] at hP1
  exact c_up (fun hup => kk H1 locs1 ls (Nat.le_antisymm (by omega) (kw_lo hP1 (by omega))) hP1 hS1 hl)
theorem c_iast (hX : cOK Y X n0 ins nL own rm) {k j : Nat} {f : Nat → Int32} {i x : Int32} {m0 : Nat} (hk : k < n) (hn0 : n0 ≤ n) (he : E k = .inl (Y.2.2.1 1, m0, .inl f)) (hi : i.toNatClampNeg = j) (hin : vp_in i m0) (ix : Nat) (hd : gi ins ix = some (pc, .iastore, 1)) (kk : Vc Y X n0 (eu E k (.inl (Y.2.2.1 1, m0, .inl (upd f j x)))) n sl (pc + 1) L st) : Vc Y X n0 E n sl pc L (.int x :: .int i :: .ref (Y.2.2.2 + k) :: st) := by
  obtain ⟨l, D, cy, z⟩ := Y
  obtain ⟨p, e, R, s, m, args, below, meth, c, c1, c2, Q, A⟩ := X
  obtain ⟨hx, hcd, hml, hts, hown, hK, rfl, hsz, hN, hAO, rfl⟩ := hX
  intro H locs ls hz hP hS hl
  have hd := hcd ix _ hd
  subst hi
  refine va_iast (D := D) (ws := kw z E n) (tys := tq cy) hx rfl hK hP kw_D hS k 1 (by rw [kw_get hk, he]) rfl hin hd (fun H1 locs1 hP1 _ hS1 => ?_)
  rw [kw_set] at hP1
  exact c_up (fun hup => kk H1 locs1 ls (Nat.le_antisymm (by omega) (kw_lo hP1 (by omega))) hP1 hS1 hl)
theorem c_new (hX : cOK Y X n0 ins nL own rm) {ci N index : Nat} {C : String} {T : u_T} {fs : List Value} (hn0 : n0 ≤ n) (hc : vwCl[ci]? = some (C, T, N)) (hin : ∀ w ∈ u_ws C T N, w ∈ wT) (ty : Nat → FieldType) (hty : ∀ k, k < N → parseFieldDescriptor (T k).2.2.1 = some (ty k)) (hcl : Cond.classLink own index C ∈ wT) (hinst : Cond.instantiable C N ∈ wT) (hini : Cond.initialized C ∈ wT) (hfs : ∀ j, j < N → defaultValue (ty j) = vp_V fs j) (hcells : n - n0 + 1 ≤ rm.cells) (hslots : sl + N ≤ rm.slots) (ix : Nat) (hd : gi ins ix = some (pc, .new index, 3)) (kk : Vc Y X n0 (eu E n (.inr (ci, fs))) (n + 1) (sl + N) (pc + 3) L (.ref (Y.2.2.2 + n) :: st)) : Vc Y X n0 E n sl pc L st := by
  obtain ⟨l, D, cy, z⟩ := Y
  obtain ⟨p, e, R, s, m, args, below, meth, c, c1, c2, Q, A⟩ := X
  obtain ⟨hx, hcd, hml, hts, hown, hK, rfl, hsz, hN, hAO, rfl⟩ := hX
  intro H locs ls hz hP hS hl
  have hd := hcd ix _ hd
  refine va_new (D := D) (ws := kw z E n) (tys := tq cy) (ci := ci) (fs := fs) hx rfl hts hin ty hty hown (hts _ hcl) (hts _ hinst) (hts _ hini) hK hP kw_D hS (fun q h => by omega) hc hfs hcells hslots hd (fun q H1 hP1 hD1 hS1 => ?_)
  refine c_up (fun hup => ?_)
  obtain ⟨rfl, hz1, hP2⟩ := kw_new hP1 hD1 (by omega)
  have k1 := kk H1 locs ls hz1 hP2 hS1 hl
  rw [show n + 1 - n0 = n - n0 + 1 by omega] at k1
  exact k1
theorem c_newai (hX : cOK Y X n0 ins nL own rm) {x : Int32} {m0 : Nat} (hn0 : n0 ≤ n) (hx0 : ¬ x < 0) (hx1 : x.toNatClampNeg = m0) (hb : m0 * 4 ≤ 536870912) (hcells : n - n0 + 1 ≤ rm.cells) (hslots : sl + m0 ≤ rm.slots) (ix : Nat) (hd : gi ins ix = some (pc, .newarray .int, 2)) (kk : Vc Y X n0 (eu E n (.inl (Y.2.2.1 1, m0, .inl (fun _ => 0)))) (n + 1) (sl + m0) (pc + 2) L (.ref (Y.2.2.2 + n) :: st)) : Vc Y X n0 E n sl pc L (.int x :: st) := by
  obtain ⟨l, D, cy, z⟩ := Y
  obtain ⟨p, e, R, s, m, args, below, meth, c, c1, c2, Q, A⟩ := X
  obtain ⟨hx, hcd, hml, hts, hown, hK, rfl, hsz, hN, hAO, rfl⟩ := hX
  intro H locs ls hz hP hS hl
  have hd := hcd ix _ hd
  refine va_newa (D := D) (ws := kw z E n) (tys := tq cy) (atype := .int) (ty := .int) (a0 := (m0, .inl (fun _ => 0))) hx rfl (hts _ tw_141) rfl hK hP kw_D hS (fun q h => by omega) (fun cA => rfl) hx0 hx1 (by show m0 * 4 ≤ _; omega) hcells hslots hd (fun q cA H1 hK1 hP1 hD1 hS1 => ?_)
  have hcA := cA_prim (t := 1) hK1 rfl (by simp)
  subst hcA
  refine c_up (fun hup => ?_)
  obtain ⟨rfl, hz1, hP2⟩ := kw_new hP1 hD1 (by omega)
  have k1 := kk H1 locs ls hz1 hP2 hS1 hl
  rw [show n + 1 - n0 = n - n0 + 1 by omega] at k1
  exact k1
theorem c_newac (hX : cOK Y X n0 ins nL own rm) {x : Int32} {m0 : Nat} (hn0 : n0 ≤ n) (hx0 : ¬ x < 0) (hx1 : x.toNatClampNeg = m0) (hb : m0 * 4 ≤ 536870912) (hcells : n - n0 + 1 ≤ rm.cells) (hslots : sl + m0 ≤ rm.slots) (ix : Nat) (hd : gi ins ix = some (pc, .newarray .char, 2)) (kk : Vc Y X n0 (eu E n (.inl (Y.2.2.1 0, m0, .inl (fun _ => 0)))) (n + 1) (sl + m0) (pc + 2) L (.ref (Y.2.2.2 + n) :: st)) : Vc Y X n0 E n sl pc L (.int x :: st) := by
  obtain ⟨l, D, cy, z⟩ := Y
  obtain ⟨p, e, R, s, m, args, below, meth, c, c1, c2, Q, A⟩ := X
  obtain ⟨hx, hcd, hml, hts, hown, hK, rfl, hsz, hN, hAO, rfl⟩ := hX
  intro H locs ls hz hP hS hl
  have hd := hcd ix _ hd
  refine va_newa (D := D) (ws := kw z E n) (tys := tq cy) (atype := .char) (ty := .char) (a0 := (m0, .inl (fun _ => 0))) hx rfl (hts _ tw_155) rfl hK hP kw_D hS (fun q h => by omega) (fun cA => rfl) hx0 hx1 (by show m0 * 2 ≤ _; omega) hcells hslots hd (fun q cA H1 hK1 hP1 hD1 hS1 => ?_)
  have hcA := cA_prim (t := 0) hK1 rfl (by simp)
  subst hcA
  refine c_up (fun hup => ?_)
  obtain ⟨rfl, hz1, hP2⟩ := kw_new hP1 hD1 (by omega)
  have k1 := kk H1 locs ls hz1 hP2 hS1 hl
  rw [show n + 1 - n0 = n - n0 + 1 by omega] at k1
  exact k1
theorem c_newqB (hX : cOK Y X n0 ins nL own rm) {x : Int32} {m0 index : Nat} (hn0 : n0 ≤ n) (hcl : Cond.classLink own index "PointAnswers$Bundle" ∈ wT) (hx0 : ¬ x < 0) (hx1 : x.toNatClampNeg = m0) (hb : m0 * 4 ≤ 536870912) (hcells : n - n0 + 1 ≤ rm.cells) (hslots : sl + m0 ≤ rm.slots) (ix : Nat) (hd : gi ins ix = some (pc, .anewarray index, 3)) (kk : Vc Y X n0 (eu E n (.inl (Y.2.2.1 3, m0, .inr (.inr (.inr (.inr (fun _ => none))))))) (n + 1) (sl + m0) (pc + 3) L (.ref (Y.2.2.2 + n) :: st)) : Vc Y X n0 E n sl pc L (.int x :: st) := by
  obtain ⟨l, D, cy, z⟩ := Y
  obtain ⟨p, e, R, s, m, args, below, meth, c, c1, c2, Q, A⟩ := X
  obtain ⟨hx, hcd, hml, hts, hown, hK, rfl, hsz, hN, hAO, rfl⟩ := hX
  intro H locs ls hz hP hS hl
  have hd := hcd ix _ hd
  refine va_newq (D := D) (cl := vwCl) (ws := kw z E n) (tys := tq cy) (C := "PointAnswers$Bundle") hx rfl hown (hts _ hcl) hAO.1 hK hP kw_D hS (fun q h => by omega) hx0 hx1 hb hcells hslots hd (fun q cA H1 hK1 hP1 hD1 hS1 => ?_)
  have hcA := cA_ref (t := 3) hK1 rfl
  subst hcA
  refine c_up (fun hup => ?_)
  obtain ⟨rfl, hz1, hP2⟩ := kw_new hP1 hD1 (by omega)
  have k1 := kk H1 locs ls hz1 hP2 hS1 hl
  rw [show n + 1 - n0 = n - n0 + 1 by omega] at k1
  exact k1
theorem c_newqP (hX : cOK Y X n0 ins nL own rm) {x : Int32} {m0 index : Nat} (hn0 : n0 ≤ n) (hcl : Cond.classLink own index "PointAnswers$Point" ∈ wT) (hx0 : ¬ x < 0) (hx1 : x.toNatClampNeg = m0) (hb : m0 * 4 ≤ 536870912) (hcells : n - n0 + 1 ≤ rm.cells) (hslots : sl + m0 ≤ rm.slots) (ix : Nat) (hd : gi ins ix = some (pc, .anewarray index, 3)) (kk : Vc Y X n0 (eu E n (.inl (Y.2.2.1 4, m0, .inr (.inr (.inr (.inr (fun _ => none))))))) (n + 1) (sl + m0) (pc + 3) L (.ref (Y.2.2.2 + n) :: st)) : Vc Y X n0 E n sl pc L (.int x :: st) := by
  obtain ⟨l, D, cy, z⟩ := Y
  obtain ⟨p, e, R, s, m, args, below, meth, c, c1, c2, Q, A⟩ := X
  obtain ⟨hx, hcd, hml, hts, hown, hK, rfl, hsz, hN, hAO, rfl⟩ := hX
  intro H locs ls hz hP hS hl
  have hd := hcd ix _ hd
  refine va_newq (D := D) (cl := vwCl) (ws := kw z E n) (tys := tq cy) (C := "PointAnswers$Point") hx rfl hown (hts _ hcl) hAO.2 hK hP kw_D hS (fun q h => by omega) hx0 hx1 hb hcells hslots hd (fun q cA H1 hK1 hP1 hD1 hS1 => ?_)
  have hcA := cA_ref (t := 4) hK1 rfl
  subst hcA
  refine c_up (fun hup => ?_)
  obtain ⟨rfl, hz1, hP2⟩ := kw_new hP1 hD1 (by omega)
  have k1 := kk H1 locs ls hz1 hP2 hS1 hl
  rw [show n + 1 - n0 = n - n0 + 1 by omega] at k1
  exact k1
theorem c_objInit (hX : cOK Y X n0 ins nL own rm) {v index : Nat} (hlink : Cond.methodLink own index Lib.objectInit ∈ wT) (hL : L.length = nL) (hW : (st.map fun v => v.category).sum ≤ 8) (hfr : 1 ≤ rm.frames) (hlo : 20 ≤ rm.locals) (ix : Nat) (hd : gi ins ix = some (pc, .invokespecial index, 3)) (kk : Vc Y X n0 E n sl (pc + 3) L st) : Vc Y X n0 E n sl pc L (.ref v :: st) := by
  obtain ⟨l, D, cy, z⟩ := Y
  obtain ⟨p, e, R, s, m, args, below, meth, c, c1, c2, Q, A⟩ := X
  obtain ⟨hx, hcd, hml, hts, hown, hK, rfl, hsz, hN, hAO, rfl⟩ := hX
  intro H locs ls hz hP hS hl
  have hd := hcd ix _ hd
  exact W.objInit hx rfl hown (hts _ hlink) (hts _ tw_54) (hts _ tw_55) rfl (by rw [hml, ← hL]; exact hl.1) rfl hd hfr (by show 2 * 0 + _ + 12 ≤ _; omega) (kk H locs ls hz hP hS hl)
theorem c_callIN (hX : cOK Y X n0 ins nL own rm) {i0 mc ms index maxL : Nat} {E2 : Nat → va_E} {y : MethodName} {bytes : ByteArray} {rmc : Room} (hn : 0 < n) (hn0 : n0 ≤ n) (hF : Cn Y y (Cond.code y bytes maxL none :: wT) rmc i0 n E E2 mc ms) (hcw : Cond.code y bytes maxL none ∈ wT) {host : String} (hlink : (own, index, y, host) ∈ nM) (hini : Cond.initialized y.cls ∈ wT) (hinst : Cond.instanceMethod y ∈ wT) (hy1 : y.name = "<init>") (hdd2 : y.cls ≠ "java/lang/invoke/MethodHandle" ∧ y.cls ≠ "java/lang/invoke/VarHandle" ∧ (parseMethodDescriptor y.desc).map (fun d => d.parameters.length) = some 0) (hR : (rmc.cells = mc ∧ rmc.slots = ms) ∧ rmc.frames + 1 ≤ rm.frames ∧ 8 + (maxL + 11) + rmc.locals ≤ rm.locals) (hcs : n - n0 + mc ≤ rm.cells ∧ sl + ms ≤ rm.slots) (hL : L.length = nL) (hW : (st.map fun v => v.category).sum ≤ 8) (ix : Nat) (hd : gi ins ix = some (pc, .invokespecial index, 3)) (kk : Vc Y X n0 E2 (n + mc) (sl + ms) (pc + 3) L st) : Vc Y X n0 E n sl pc L (.ref (Y.2.2.2 + i0) :: st) := by
  obtain ⟨l, D, cy, z⟩ := Y
  obtain ⟨p, e, R, s, m, args, below, meth, c, c1, c2, Q, A⟩ := X
  obtain ⟨hx, hcd, hml, hts, hown, hK, rfl, hsz, hN, hAO, rfl⟩ := hX
  intro H locs ls hz hP hS hl
  have hd := hcd ix _ hd
  refine c_run (mc := mc) (ms := ms) (w1 := kw z E2 (n + mc)) (A1 := fun q : Nat => z ≤ q) (rest := st) (va_runIN (As := []) (rest := st) ⟨hx, rfl, hml, hown, hts⟩ hF ⟨va_cnB 0 hts (gI hcw) rfl hR.1.1 hR.1.2 (hN.1 _ hlink) (hts _ hini) hdd2 hR.2, hy1, hts _ hinst⟩ ⟨cd_blind, fun U hU hW2 => ⟨rfl, by rw [hU]; exact hz, by rw [hU]; exact hP, va_K.moved hW2.alike hK, Nn.warm hW2 hN, AOs.alike hW2.alike hAO⟩⟩ rfl rfl (hl.1.trans hL) rfl (lv_room hW) hd hcs) hS (fun _ h => h) (fun H1 locs1 hP1 hS1 => ?_)
  refine c_up (fun hup => ?_)
  have k1 := kk H1 locs1 ls (Nat.le_antisymm (by omega) (kw_lo hP1 (by omega))) hP1 hS1 hl
  rw [show n + mc - n0 = n - n0 + mc by omega] at k1
  exact k1
theorem c_callI (hX : cOK Y X n0 ins nL own rm) {i0 mc ms index maxL : Nat} {E2 : Nat → va_E} {y : MethodName} {bytes : ByteArray} {rmc : Room} (hn : 0 < n) (hn0 : n0 ≤ n) (hF : Cn Y y (Cond.code y bytes maxL none :: wT) rmc i0 n E E2 mc ms) (hcw : Cond.code y bytes maxL none ∈ wT) (hlink : Cond.methodLink own index y ∈ wT) (hini : Cond.initialized y.cls ∈ wT) (hinst : Cond.instanceMethod y ∈ wT) (hy1 : y.name = "<init>") (hdd2 : y.cls ≠ "java/lang/invoke/MethodHandle" ∧ y.cls ≠ "java/lang/invoke/VarHandle" ∧ (parseMethodDescriptor y.desc).map (fun d => d.parameters.length) = some 0) (hR : (rmc.cells = mc ∧ rmc.slots = ms) ∧ rmc.frames + 1 ≤ rm.frames ∧ 8 + (maxL + 11) + rmc.locals ≤ rm.locals) (hcs : n - n0 + mc ≤ rm.cells ∧ sl + ms ≤ rm.slots) (hL : L.length = nL) (hW : (st.map fun v => v.category).sum ≤ 8) (ix : Nat) (hd : gi ins ix = some (pc, .invokespecial index, 3)) (kk : Vc Y X n0 E2 (n + mc) (sl + ms) (pc + 3) L st) : Vc Y X n0 E n sl pc L (.ref (Y.2.2.2 + i0) :: st) := by
  obtain ⟨l, D, cy, z⟩ := Y
  obtain ⟨p, e, R, s, m, args, below, meth, c, c1, c2, Q, A⟩ := X
  obtain ⟨hx, hcd, hml, hts, hown, hK, rfl, hsz, hN, hAO, rfl⟩ := hX
  intro H locs ls hz hP hS hl
  have hd := hcd ix _ hd
  refine c_run (mc := mc) (ms := ms) (w1 := kw z E2 (n + mc)) (A1 := fun q : Nat => z ≤ q) (rest := st) (va_runI (As := []) (rest := st) ⟨hx, rfl, hml, hown, hts⟩ hF (cwI 0 hts (gI hcw) rfl hR.1.1 hR.1.2 (hts _ hini) (hts _ hlink) (hts _ hinst) hy1 hdd2 hR.2) ⟨cd_blind, fun U hU hW2 => ⟨rfl, by rw [hU]; exact hz, by rw [hU]; exact hP, va_K.moved hW2.alike hK, Nn.warm hW2 hN, AOs.alike hW2.alike hAO⟩⟩ rfl rfl (hl.1.trans hL) rfl (lv_room hW) hd hcs) hS (fun _ h => h) (fun H1 locs1 hP1 hS1 => ?_)
  refine c_up (fun hup => ?_)
  have k1 := kk H1 locs1 ls (Nat.le_antisymm (by omega) (kw_lo hP1 (by omega))) hP1 hS1 hl
  rw [show n + mc - n0 = n - n0 + mc by omega] at k1
  exact k1
theorem c_vret (hX : cOK Y X n0 ins nL own rm) {E2 : Nat → va_E} {mc ms : Nat} (hI : cIN X) (hQ : cQ Y X n0 E2 mc ms) (hn : n = n0 + mc) (hsl : sl = ms) (hE : ∀ i, i < n → E i = E2 i) (ix : Nat) (hd : gi ins ix = some (pc, .return_, 1)) : Vc Y X n0 E n sl pc L [] := by
  obtain ⟨l, D, cy, z⟩ := Y
  obtain ⟨p, e, R, s, m, args, below, meth, c, c1, c2, Q, A⟩ := X
  obtain ⟨hx, hcd, hml, hts, hown, hK, rfl, hsz, hN, hAO, rfl⟩ := hX
  intro H locs ls hz hP hS hl
  have hd := hcd ix _ hd
  obtain rfl := hQ
  subst hsl
  rw [kw_congr hE] at hP
  subst hn
  rw [Nat.add_sub_cancel_left]
  exact W.vret hx rfl hI.2.1 (fun t ht _ => ⟨rfl, by rw [ht]; exact hP, hS.F ht⟩) hS.2.2 hd hI.2.2
end VCR
