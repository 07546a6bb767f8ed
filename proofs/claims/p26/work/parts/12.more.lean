def aC (Y : Yt) (k a n : Nat) : Prop := (k < 279 ∧ a = Y.2.2.2.1 k ∧ ∀ h r, cG Y.2.2.1 Y.2.2.2.1 h r k = .inl (Y.2.2.1 1, n, .inl r)) ∨ (∃ j, k = 279 + j ∧ Y.2.2.2.2.2[j]? = some (a, n))
def xc (X : XT) (a b : Nat) : XT :=
  match X with
  | (p, e, R, s, m, args, below, meth, c, cells, slots, Q, A) => (p, e, R, s, m, args, below, meth, c, cells + a, slots + b, Q, A)
def xce (X : XT) : Nat :=
  match X with
  | (_, _, _, _, _, _, _, _, _, cells, _, _, _) => cells
def xsl (X : XT) : Nat :=
  match X with
  | (_, _, _, _, _, _, _, _, _, _, slots, _, _) => slots
def pY (Y : Yt) (q n : Nat) : Yt := (Y.1, Y.2.1, Y.2.2.1, Y.2.2.2.1, Y.2.2.2.2.1, Y.2.2.2.2.2 ++ [(q, n)])
def sl (Y : Yt) : Nat := Y.2.2.2.2.2.length
theorem xce_xc {X : XT} {a b : Nat} : xce (xc X a b) = xce X + a := rfl
theorem xsl_xc {X : XT} {a b : Nat} : xsl (xc X a b) = xsl X + b := rfl
theorem xc_xc {X : XT} {a b a2 b2 : Nat} : xc (xc X a b) a2 b2 = xc X (a + a2) (b + b2) := by
  obtain ⟨p, e, R, s, m, args, below, meth, c, cells, slots, Q, A⟩ := X
  show (_, _, _, _, _, _, _, _, _, _, _, _, _) = (_, _, _, _, _, _, _, _, _, _, _, _, _)
  rw [Nat.add_assoc, Nat.add_assoc]
theorem vOK.xc {Y : Yt} {X : XT} {ins : List (Nat × Instr × Nat)} {nL : Nat} {own : String} {rm : Room} {ret : Option FieldType} (hX : vOK Y X ins nL own rm ret) {a b : Nat} (ha : xce X + a ≤ rm.cells) (hb : xsl X + b ≤ rm.slots) : vOK Y (xc X a b) ins nL own rm ret := by
  obtain ⟨l, D, cy, ad, z, sc⟩ := Y
  obtain ⟨p, e, R, s, m, args, below, meth, c, cells, slots, Q, A⟩ := X
  obtain ⟨hx, hcd, hml, hts, hown, hK, hdd, hN, rfl, hret, hlk, hcl, hsl⟩ := hX
  exact ⟨hx, hcd, hml, hts, hown, hK, hdd, hN, rfl, hret, hlk, ha, hb⟩
theorem mrow_newc {cy : Nat → ClassId} {ad : Nat → Nat} {sc : List (Nat × Nat)} {M : Mm} {q n : Nat} : wl cy ad sc M ++ [(q, .inl (cy 1, n, .inl (fun _ => 0)))] = wl cy ad (sc ++ [(q, n)]) (mrow M (279 + sc.length) (fun _ => 0)) := by
  unfold wl
  rw [sw_push, mrow_s, List.append_assoc]
  have e1 : fx cy ad (mrow M (279 + sc.length) (fun _ => 0)) = fx cy ad M := fx_congr (fun k hk => by rw [mrow_n (by omega)]; rfl)
  have e2 : sw cy (mrow M (279 + sc.length) (fun _ => 0)) 279 sc = sw cy M 279 sc := by
    apply List.ext_getElem?
    intro k
    rw [sw_get, sw_get]
    cases h : sc[k]? with
    | none => rfl
    | some p =>
      have hk : k < sc.length := (List.getElem?_eq_some_iff.mp h).1
      show some _ = some _
      rw [mrow_n (by omega)]
  rw [e1, e2]
section VM
variable {Y : Yt} {X : XT} {M M' : Mm} {pc : Nat} {L : List (Option Value)} {st : List Value} {ins : List (Nat × Instr × Nat)} {nL : Nat} {own : String} {rm : Room} {ret : Option FieldType}
theorem aC.get {k a n : Nat} (h : aC Y k a n) (M : Mm) : (wl Y.2.2.1 Y.2.2.2.1 Y.2.2.2.2.2 M)[k]? = some (a, .inl (Y.2.2.1 1, n, .inl (M.1 k))) := by
  rcases h with ⟨hk, rfl, hc⟩ | ⟨j, rfl, hj⟩
  · exact wl_get hk (hc M.2 (M.1 k))
  · exact wl_gets hj
theorem aC.set {k a n x : Nat} {v : Int32} (h : aC Y k a n) (M : Mm) : (wl Y.2.2.1 Y.2.2.2.1 Y.2.2.2.2.2 M).set k (a, .inl (Y.2.2.1 1, n, .inl (upd (M.1 k) x v))) = wl Y.2.2.1 Y.2.2.2.1 Y.2.2.2.2.2 (mset M k x v) := by
  rcases h with ⟨hk, rfl, hc⟩ | ⟨j, rfl, hj⟩
  · exact wl_mset hk (hc M.2 _)
  · exact wl_msets hj
theorem aC.push {k a n q m : Nat} (h : aC Y k a n) : aC (pY Y q m) k a n := by
  rcases h with h | ⟨j, hk, hj⟩
  · exact Or.inl h
  · exact Or.inr ⟨j, hk, by
      have hl : j < Y.2.2.2.2.2.length := (List.getElem?_eq_some_iff.mp hj).1
      show (Y.2.2.2.2.2 ++ [(q, m)])[j]? = _
      rw [List.getElem?_append_left hl]
      exact hj⟩
theorem aC.new {q m : Nat} : aC (pY Y q m) (279 + sl Y) q m := Or.inr ⟨sl Y, rfl, by
  show (Y.2.2.2.2.2 ++ [(q, m)])[Y.2.2.2.2.2.length]? = _
  rw [List.getElem?_append_right (Nat.le_refl _), Nat.sub_self]
  rfl⟩
theorem v_ialg (hX : vOK Y X ins nL own rm ret) {k a n : Nat} (hC : aC Y k a n) {i : Int32} (hin : vp_in i n) (ix : Nat) (hd : gi ins ix = some (pc, .iaload, 1)) (kk : V Y X M (pc + 1) L (.int (M.1 k i.toNatClampNeg) :: st)) : V Y X M pc L (.int i :: .ref a :: st) := by
  obtain ⟨l, D, cy, ad, z, sc⟩ := Y
  obtain ⟨p, e, R, s, m, args, below, meth, c, cells, slots, Q, A⟩ := X
  obtain ⟨hx, hcd, hml, hts, hown, hK, ⟨hdd, hda⟩, hN, rfl, hret, hlk, hcl, hsl⟩ := hX
  intro H locs ls hP hS hl
  have hd := hcd ix _ hd
  exact va_iald (D := D) (ws := wl cy ad sc M) (tys := tq cy) hx rfl hK hP k 1 (hC.get M) rfl hin hd (kk H locs ls hP hS hl)
theorem v_iasg (hX : vOK Y X ins nL own rm ret) {k a n : Nat} (hC : aC Y k a n) {i x : Int32} (hin : vp_in i n) (ix : Nat) (hd : gi ins ix = some (pc, .iastore, 1)) (kk : V Y X (mset M k i.toNatClampNeg x) (pc + 1) L st) : V Y X M pc L (.int x :: .int i :: .ref a :: st) := by
  obtain ⟨l, D, cy, ad, z, sc⟩ := Y
  obtain ⟨p, e, R, s, m, args, below, meth, c, cells, slots, Q, A⟩ := X
  obtain ⟨hx, hcd, hml, hts, hown, hK, ⟨hdd, hda⟩, hN, rfl, hret, hlk, hcl, hsl⟩ := hX
  intro H locs ls hP hS hl
  have hd := hcd ix _ hd
  refine va_iast (D := D) (ws := wl cy ad sc M) (tys := tq cy) hx rfl hK hP (wl_D hdd hda M) hS k 1 (hC.get M) rfl hin hd (fun H1 locs1 hP1 _ hS1 => ?_)
  have e : (wl cy ad sc M).set k (a, .inl (cy 1, n, .inl (upd (M.1 k) i.toNatClampNeg x))) = wl cy ad sc (mset M k i.toNatClampNeg x) := hC.set M
  rw [e] at hP1
  exact kk H1 locs1 ls hP1 hS1 hl
theorem v_irem (hX : vOK Y X ins nL own rm ret) {x y v : Int32} (hne : ¬ y = 0) (hv : x - x / y * y = v) (ix : Nat) (hd : gi ins ix = some (pc, .irem, 1)) (kk : V Y X M (pc + 1) L (.int v :: st)) : V Y X M pc L (.int y :: .int x :: st) := by
  obtain ⟨l, D, cy, ad, z, sc⟩ := Y
  obtain ⟨p, e, R, s, m, args, below, meth, c, cells, slots, Q, A⟩ := X
  obtain ⟨hx, hcd, hml, hts, hown, hK, ⟨hdd, hda⟩, hN, rfl, hret, hlk, hcl, hsl⟩ := hX
  intro H locs ls hP hS hl
  have hd := hcd ix _ hd
  exact lv_irem hx rfl hd hne hv (kk H locs ls hP hS hl)
theorem cI_of {D : va_G} {cl : List vw_C} {cy : Nat → ClassId} {s : State} {cA : ClassId} (hK : va_K D cl (tq cy ++ [(cA, .int)]) s) : cA = cy 1 := by
  have h1 := (hK.2 1 (cy 1, .int) rfl).2
  have h2 := (hK.2 5 (cA, .int) rfl).2
  exact Option.some.inj ((show s.vm.findClass _ = some cA from h2).symm.trans (show s.vm.findClass _ = some (cy 1) from h1))
theorem Dd.push {cy : Nat → ClassId} {ad : Nat → Nat} {z : Nat} {sc : List (Nat × Nat)} {M : Mm} {q n : Nat} (h : va_D (fA z) (wl cy ad sc M ++ [(q, .inl (cy 1, n, .inl (fun _ => 0)))])) : Dd cy ad z (sc ++ [(q, n)]) := by
  rw [mrow_newc] at h
  have key : ∀ (M1 M2 : Mm) (sc2 : List (Nat × Nat)) (i : Nat) (p : Nat × va_E), (wl cy ad sc2 M1)[i]? = some p → ∃ p2, (wl cy ad sc2 M2)[i]? = some p2 ∧ p2.1 = p.1 := by
    intro M1 M2 sc2 i p hp
    by_cases hi : i < 279
    · rw [wl_get (M := M1) hi rfl] at hp
      exact ⟨_, wl_get hi rfl, by rw [← Option.some.inj hp]⟩
    · obtain ⟨j, rfl⟩ : ∃ j, i = 279 + j := ⟨i - 279, by omega⟩
      unfold wl at hp ⊢
      rw [List.getElem?_append_right (by rw [fx_len]; omega), fx_len, Nat.add_sub_cancel_left, sw_get] at hp ⊢
      cases hj : sc2[j]? with
      | none => rw [hj] at hp; cases hp
      | some r =>
        rw [hj] at hp
        exact ⟨_, rfl, by rw [← Option.some.inj hp]⟩
  intro M2
  refine ⟨fun i j p r hp hr e => ?_, fun k r hr => ?_⟩
  · obtain ⟨p2, h1, e1⟩ := key M2 _ _ i p hp
    obtain ⟨r2, h2, e2⟩ := key M2 _ _ j r hr
    exact h.1 i j p2 r2 h1 h2 (by rw [e1, e2, e])
  · obtain ⟨r2, h2, e2⟩ := key M2 _ _ k r hr
    rw [← e2]
    exact h.2 k r2 h2
theorem v_newi (hX : vOK Y X ins nL own rm ret) {x : Int32} {m0 : Nat} (hx0 : ¬ x < 0) (hx1 : x.toNatClampNeg = m0) (hb : m0 * 4 ≤ 536870912) (hcells : xce X + 1 ≤ rm.cells) (hslots : xsl X + m0 ≤ rm.slots) (ix : Nat) (hd : gi ins ix = some (pc, .newarray .int, 2)) (kk : ∀ q : Nat, vOK (pY Y q m0) (xc X 1 m0) ins nL own rm ret → V (pY Y q m0) (xc X 1 m0) (mrow M (279 + sl Y) (fun _ => 0)) (pc + 2) L (.ref q :: st)) : V Y X M pc L (.int x :: st) := by
  obtain ⟨l, D, cy, ad, z, sc⟩ := Y
  obtain ⟨p, e, R, s, m, args, below, meth, c, cells, slots, Q, A⟩ := X
  obtain ⟨hx, hcd, hml, hts, hown, hK, ⟨hdd, hda⟩, hN, rfl, hret, hlk, hcl, hsl⟩ := hX
  intro H locs ls hP hS hl
  have hd2 := hcd ix _ hd
  obtain ⟨rfl, hz⟩ := hda
  refine va_newa (D := D) (ws := wl cy ad sc M) (tys := tq cy) (atype := .int) (ty := .int) (a0 := (m0, .inl (fun _ => 0))) hx rfl (hts _ tw_141) rfl hK hP (hdd M) hS (fun q hq => Nat.le_trans hz hq) (fun cA => rfl) hx0 hx1 (by show m0 * 4 ≤ _; omega) hcells hslots hd2 (fun q cA H1 hK1 hP1 hD1 hS1 => ?_)
  have hcA := cI_of hK1
  subst hcA
  have hdd2 := Dd.push hD1
  rw [mrow_newc] at hP1
  exact kk q ⟨hx, hcd, hml, hts, hown, hK, ⟨hdd2, rfl, hz⟩, hN, rfl, hret, hlk, hcells, hslots⟩ H1 locs ls hP1 hS1 hl
def vQA (Y : Yt) (X : XT) (rv : Option Value) (PM : Mm → Prop) (mc ms : Nat) : Prop :=
  match Y, X with
  | (l, D, cy, ad, z, sc), (p, e, R, s, m, args, below, meth, c, cells, slots, Q, A) =>
    Q = MQ below (fun _ st oc t => oc = .returned rv ∧ (∃ M' : Mm, PM M' ∧ va_P D vwCl (wl cy ad sc M') t.heap) ∧ va_F (fA z) st t) args s mc ms (fA z)
def FnA (Y : Yt) (y : MethodName) (ws : List Cond) (rm : Room) (As : List Value) (M : Mm) (rv : Option Value) (PM : Mm → Prop) (mc ms : Nat) : Prop :=
  match Y with
  | (l, D, cy, ad, z, sc) => Met l y ws rm (va_Pc As (wd (l, D, cy, ad, z, sc) M)) (fun _ st oc t => oc = .returned rv ∧ (∃ M' : Mm, PM M' ∧ va_P D vwCl (wl cy ad sc M') t.heap) ∧ va_F (fA z) st t) mc ms (fA z)
theorem vQA.xc {rv : Option Value} {PM : Mm → Prop} {mc ms a b : Nat} (h : vQA Y X rv PM mc ms) : vQA Y (xc X a b) rv PM mc ms := by
  obtain ⟨l, D, cy, ad, z, sc⟩ := Y
  obtain ⟨p, e, R, s, m, args, below, meth, c, cells, slots, Q, A⟩ := X
  exact h
theorem FnA.of {y : MethodName} {rm : Room} {As : List Value} {rv : Option Value} {PM : Mm → Prop} {mc ms : Nat} {cc : ByteArray} {ins : List (Nat × Instr × Nat)} {maxL : Nat} {ret : Option FieldType} (hy : plainName y.cls = true) (hdc : ins.all (fun q => decide (decode cc q.1 = .ok q.2)) = true) (L0 : List (Option Value)) (hen : (lg_sl As).length ≤ maxL) (hL0 : L0.length = maxL) (hsub : la 0 L0 = lv_args 0 As)
    (body : ∀ X : XT, vOK Y X ins maxL y.cls rm ret → xce X = 0 → xsl X = 0 → vQA Y X rv PM mc ms → V Y X M 0 L0 []) : FnA Y y (Cond.code y cc maxL ret :: wT) rm As M rv PM mc ms := by
  obtain ⟨l, D, cy, ad, z, sc⟩ := Y
  refine Met.ofW (cc := cc) (maxL := maxL) (ret := ret) hy rfl ?_
  intro p e s m args below meth c s₁ B hml hv
  obtain ⟨rfl, hP, hK, hD, hN⟩ := hv
  have hl := lv_entry As hen
  rw [← hsub] at hl
  rw [lg_entry_eq]
  exact body (p, e, rm, s, m, As.toArray, below, meth, c, 0, 0, MQ below (fun _ st oc t => oc = .returned rv ∧ (∃ M' : Mm, PM M' ∧ va_P D vwCl (wl cy ad sc M') t.heap) ∧ va_F (fA z) st t) As.toArray s mc ms (fA z), fA z)
    ⟨B.exec, by rw [B.bytes]; exact dcd hdc, hml, fun w hw => atoms_spec (ws := Cond.code y cc maxL ret :: wT) B.pre w (List.mem_cons_of_mem _ hw), findClass_of_methodNamed B.named, hK, ⟨hD, rfl, zl_of hD hP⟩, hN, rfl, B.returns, B.notSynchronized, Nat.zero_le _, Nat.zero_le _⟩ rfl rfl rfl s.heap [] _ hP va_S.rf (by subst hL0; exact hl)
theorem wl_pre {cy : Nat → ClassId} {ad : Nat → Nat} {sc t : List (Nat × Nat)} {M : Mm} {D : va_G} {H : Heap} (h : va_P D vwCl (wl cy ad (sc ++ t) M) H) : va_P D vwCl (wl cy ad sc M) H := by
  intro k q hq
  refine h k q ?_
  by_cases hk : k < 279
  · rw [wl_get (M := M) hk rfl] at hq ⊢
    exact hq
  · obtain ⟨j, rfl⟩ : ∃ j, k = 279 + j := ⟨k - 279, by omega⟩
    unfold wl at hq ⊢
    rw [List.getElem?_append_right (by rw [fx_len]; omega), fx_len, Nat.add_sub_cancel_left, sw_get] at hq ⊢
    cases hj : sc[j]? with
    | none => rw [hj] at hq; cases hq
    | some r =>
      rw [List.getElem?_append_left (List.getElem?_eq_some_iff.mp hj).1]
      exact hq
theorem v_ireA {Y2 : Yt} (hX : vOK Y2 X ins nL own rm ret) {t : List (Nat × Nat)} (hY : Y2 = (Y.1, Y.2.1, Y.2.2.1, Y.2.2.2.1, Y.2.2.2.2.1, Y.2.2.2.2.2 ++ t)) {ty : FieldType} {x : Int32} {rv : Option Value} {PM : Mm → Prop} {mc ms : Nat} (hQ : vQA Y X rv PM mc ms) (hc : xce X ≤ mc) (hs : xsl X ≤ ms) (hr : ret = some ty) (hn : narrow ty (.int x) = .int x) (hv : rv = some (.int x)) (hM : PM M) (ix : Nat) (hd : gi ins ix = some (pc, .ireturn, 1)) : V Y2 X M pc L [.int x] := by
  subst hY
  obtain ⟨l, D, cy, ad, z, sc⟩ := Y
  obtain ⟨p, e, R, s, m, args, below, meth, c, cells, slots, Q, A⟩ := X
  obtain ⟨hx, hcd, hml, hts, hown, hK, ⟨hdd, hda, hz⟩, hN, rfl, hret, hlk, hcl, hsl⟩ := hX
  intro H locs ls hP hS hl
  have hd := hcd ix _ hd
  subst hda
  obtain rfl := hQ
  subst hv
  exact W.widen hc hs (W.zret hx rfl (hret.trans hr) hn (fun t2 ht _ => ⟨rfl, ⟨M, hM, by rw [ht]; exact wl_pre hP⟩, hS.F ht⟩) hS.2.2 hd hlk)
theorem v_runA {p : Program} {l : Launch} {e : Env} {R : Room} {s : State} {m : MethodId} {args : Array Value} {below : List Frame} {meth : Method} {c : Code} {H : Heap} {locs : List Loc} {cells slots mc ms : Nat} {Q : State → Prop} {pc : Nat} {ls : Array Slot} {rest st0 : List Value} {A0 A1 : Nat → Prop} {H0 : Heap} {PH : Heap → Prop} {rv : Option Value}
    (hr : va_Run p l e R s m args below meth c H locs cells slots mc ms (F0 m pc ls st0) rest (fun st oc t => oc = .returned rv ∧ PH t.heap ∧ va_F A1 st t) A1) (hS : va_S A0 H0 H locs) (hA : ∀ q, A1 q → A0 q)
    (kk : ∀ (H1 : Heap) (locs1 : List Loc), PH H1 → va_S A0 H0 H1 locs1 → W p l e R s m args below meth c H1 locs1 (cells + mc) (slots + ms) Q (F0 m (pc + 3) ls (rv.toList ++ rest))) : W p l e R s m args below meth c H locs cells slots Q (F0 m pc ls st0) := by
  intro T hT X
  obtain ⟨v, st₀, t, T', L, h0, X', hL, e1, e2, ⟨hv, hp, hz, hk⟩, st⟩ := hr T hT X
  cases hv
  rw [h0] at hz hk
  obtain ⟨t2, a1, b1⟩ := kk T'.heap (locs ++ L) (by rw [e1]; exact hp)
    ⟨Nat.le_trans hS.1 (by rw [e1]; exact hz), fun q h1 h2 => by rw [e1, hk q (Nat.lt_of_lt_of_le h1 hS.1) (fun z => h2 (hA q z))]; exact hS.2.1 q h1 h2, fun q hq => by
      rcases List.mem_append.mp hq with h | h
      · exact hS.2.2 q h
      · exact hA _ (hL q h)⟩ T' rfl X'
  exact ⟨t2, st t2 a1, b1⟩
theorem v_callSA (hX : vOK Y X ins nL own rm ret) (nA : Nat) {y : MethodName} {rmc : Room} {rv : Option Value} {bytes : ByteArray} {maxL index mc ms : Nat} {retc : Option FieldType} {st0 : List Value} {As : List Value} {PM : Mm → Prop} (hF : FnA Y y (Cond.code y bytes maxL retc :: wT) rmc As M rv PM mc ms) (hcw : Cond.code y bytes maxL retc ∈ wT) (hlink : Cond.methodLink own index y ∈ wT) (hstt : Cond.static y ∈ wT) (hini : Cond.initialized y.cls ∈ wT) (hdd2 : y.cls ≠ "java/lang/invoke/MethodHandle" ∧ y.cls ≠ "java/lang/invoke/VarHandle" ∧ (parseMethodDescriptor y.desc).map (fun d => d.parameters.length) = some nA) (hR : (rmc.cells = mc ∧ rmc.slots = ms) ∧ rmc.frames + 1 ≤ rm.frames ∧ 8 + (maxL + 11) + rmc.locals ≤ rm.locals) (hcs : xce X + mc ≤ rm.cells ∧ xsl X + ms ≤ rm.slots) (hL : L.length = nL) (hW : (st.map fun v => v.category).sum ≤ 8) (hnA : As.length = nA) (hst : st0 = As.reverse ++ st) (ix : Nat) (hd : gi ins ix = some (pc, .invokestatic index, 3)) (kk : ∀ M' : Mm, PM M' → V Y (xc X mc ms) M' (pc + 3) L (rv.toList ++ st)) : V Y X M pc L st0 := by
  obtain ⟨l, D, cy, ad, z, sc⟩ := Y
  obtain ⟨p, e, R, s, m, args, below, meth, c, cells, slots, Q, A⟩ := X
  obtain ⟨hx, hcd, hml, hts, hown, hK, ⟨hdd, hda⟩, hN, rfl, hret, hlk, hcl, hsl⟩ := hX
  intro H locs ls hP hS hl
  have hd := hcd ix _ hd
  refine v_runA (PH := fun H1 => ∃ M' : Mm, PM M' ∧ va_P D vwCl (wl cy ad sc M') H1) (A1 := fA z) (rest := st) (mc := mc) (ms := ms) (va_runS (As := As) (rest := st) ⟨hx, rfl, hml, hown, hts⟩ hF (va_cwS nA hts (gS hcw hlink hstt hini) rfl hR.1.1 hR.1.2 hdd2 hR.2) ⟨wd_blind, fun U hU hW => ⟨rfl, by rw [hU]; exact hP, va_K.moved hW.alike hK, hdd, Nn.warm hW hN⟩⟩ rfl hnA (hl.1.trans hL) hst (lv_room hW) hd hcs) hS (fA_sub hda) (fun H1 locs1 hP1 hS1 => ?_)
  obtain ⟨M', h1, h2⟩ := hP1
  exact kk M' h1 H1 locs1 ls h2 hS1 hl
end VM
