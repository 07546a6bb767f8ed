def aC (Y : Yt) (r o a n : Nat) : Prop := (o = 0 ∧ r ≠ 2 ∧ r < 279 ∧ a = Y.2.2.2.1 r ∧ ∀ h f, cG Y.2.2.1 Y.2.2.2.1 h f r = .inl (Y.2.2.1 1, n, .inl f)) ∨ (r = 2 ∧ n ≤ 64 ∧ ∃ j, o = 64 * j ∧ Y.2.2.2.2.2[j]? = some (a, n))
def zf (M : Mm) (j : Nat) : Nat → Int32 := fun x => if x < 64 * j then M.1 2 x else 0
def xc (X : XT) (a b : Nat) : XT :=
  match X with
  | (p, e, R, s, m, args, below, meth, c, cells, slots, Q, A) => (p, e, R, s, m, args, below, meth, c, cells + a, slots + b, Q, A)
def xce (X : XT) : Nat :=
  match X with
  | (_, _, _, _, _, _, _, _, _, cells, _, _, _) => cells
def xsl (X : XT) : Nat :=
  match X with
  | (_, _, _, _, _, _, _, _, _, _, slots, _, _) => slots
def pY (Y : Yt) (q n : Nat) : Yt := (Y.1, Y.2.1, Y.2.2.1, Y.2.2.2.1, Y.2.2.2.2.1, Y.2.2.2.2.2 ++ [(q, n)])
def sl (Y : Yt) : Nat := Y.2.2.2.2.2.length
theorem xce_xc {X : XT} {a b : Nat} : xce (xc X a b) = xce X + a := rfl
theorem xsl_xc {X : XT} {a b : Nat} : xsl (xc X a b) = xsl X + b := rfl
theorem xc_xc {X : XT} {a b a2 b2 : Nat} : xc (xc X a b) a2 b2 = xc X (a + a2) (b + b2) := by
  obtain ⟨p, e, R, s, m, args, below, meth, c, cells, slots, Q, A⟩ := X
  show (_, _, _, _, _, _, _, _, _, _, _, _, _) = (_, _, _, _, _, _, _, _, _, _, _, _, _)
  rw [Nat.add_assoc, Nat.add_assoc]
theorem vOK.xc {Y : Yt} {X : XT} {ins : List (Nat × Instr × Nat)} {nL : Nat} {own : String} {rm : Room} {ret : Option FieldType} (hX : vOK Y X ins nL own rm ret) {a b : Nat} (ha : xce X + a ≤ rm.cells) (hb : xsl X + b ≤ rm.slots) : vOK Y (xc X a b) ins nL own rm ret := by
  obtain ⟨l, D, cy, ad, z, sc⟩ := Y
  obtain ⟨p, e, R, s, m, args, below, meth, c, cells, slots, Q, A⟩ := X
  obtain ⟨hx, hcd, hml, hts, hown, hK, hdd, hN, rfl, hret, hlk, hcl, hsl⟩ := hX
  exact ⟨hx, hcd, hml, hts, hown, hK, hdd, hN, rfl, hret, hlk, ha, hb⟩
theorem mrow_newc {cy : Nat → ClassId} {ad : Nat → Nat} {sc : List (Nat × Nat)} {M : Mm} {q n : Nat} : wl cy ad sc M ++ [(q, .inl (cy 1, n, .inl (fun _ => 0)))] = wl cy ad (sc ++ [(q, n)]) (mrow M 2 (zf M sc.length)) := by
  unfold wl
  have e0 : scF (mrow M 2 (zf M sc.length)) (0 + sc.length) = fun _ => 0 := by
    funext x
    unfold scF zf
    rw [mrow_s, Nat.zero_add]
    by_cases h : x < 64
    · rw [if_pos h, if_neg (by omega)]
    · rw [if_neg h]
  have e1 : fx cy ad (mrow M 2 (zf M sc.length)) = fx cy ad M := fx_congr (fun k hk => by
    by_cases e : k = 2
    · subst e; exact cG_2
    · rw [mrow_n e]; rfl)
  have e2 : sw cy (mrow M 2 (zf M sc.length)) 0 sc = sw cy M 0 sc := sw_ext (fun j hj => by
    funext x
    unfold scF zf
    rw [mrow_s, Nat.zero_add]
    by_cases h : x < 64
    · rw [if_pos h, if_pos h, if_pos (by omega)]
    · rw [if_neg h, if_neg h])
  rw [sw_push, e0, List.append_assoc, e1, e2]
section VM
variable {Y : Yt} {X : XT} {M M' : Mm} {pc : Nat} {L : List (Option Value)} {st : List Value} {ins : List (Nat × Instr × Nat)} {nL : Nat} {own : String} {rm : Room} {ret : Option FieldType}
theorem aC.get {r o a n : Nat} (h : aC Y r o a n) (M : Mm) : ∃ k f, (wl Y.2.2.1 Y.2.2.2.1 Y.2.2.2.2.2 M)[k]? = some (a, .inl (Y.2.2.1 1, n, .inl f)) ∧ (∀ x, x < n → f x = M.1 r (o + x)) ∧ ∀ x v, x < n → (wl Y.2.2.1 Y.2.2.2.1 Y.2.2.2.2.2 M).set k (a, .inl (Y.2.2.1 1, n, .inl (upd f x v))) = wl Y.2.2.1 Y.2.2.2.1 Y.2.2.2.2.2 (mset M r (o + x) v) := by
  rcases h with ⟨rfl, h2, hk, rfl, hc⟩ | ⟨rfl, hn, j, rfl, hj⟩
  · refine ⟨r, M.1 r, wl_get hk (hc M.2 (M.1 r)), fun x _ => by rw [Nat.zero_add], fun x v _ => ?_⟩
    rw [Nat.zero_add]
    exact wl_mset ⟨hk, h2⟩ (hc M.2 _)
  · exact ⟨279 + j, scF M j, wl_gets hj, fun x hx => scF_at (by omega), fun x v hx => wl_msets hj (by omega)⟩
theorem aC.push {r o a n q m : Nat} (h : aC Y r o a n) : aC (pY Y q m) r o a n := by
  rcases h with h | ⟨h1, h2, j, hk, hj⟩
  · exact Or.inl h
  · exact Or.inr ⟨h1, h2, j, hk, by
      have hl : j < Y.2.2.2.2.2.length := (List.getElem?_eq_some_iff.mp hj).1
      show (Y.2.2.2.2.2 ++ [(q, m)])[j]? = _
      rw [List.getElem?_append_left hl]
      exact hj⟩
theorem aC.new {q m : Nat} (hm : m ≤ 64) : aC (pY Y q m) 2 (64 * sl Y) q m := Or.inr ⟨rfl, hm, sl Y, rfl, by
  show (Y.2.2.2.2.2 ++ [(q, m)])[Y.2.2.2.2.2.length]? = _
  rw [List.getElem?_append_right (Nat.le_refl _), Nat.sub_self]
  rfl⟩
theorem v_ialg (hX : vOK Y X ins nL own rm ret) {r o a n : Nat} (hC : aC Y r o a n) {i : Int32} (hin : vp_in i n) (ix : Nat) (hd : gi ins ix = some (pc, .iaload, 1)) (kk : V Y X M (pc + 1) L (.int (M.1 r (o + i.toNatClampNeg)) :: st)) : V Y X M pc L (.int i :: .ref a :: st) := by
  obtain ⟨l, D, cy, ad, z, sc⟩ := Y
  obtain ⟨p, e, R, s, m, args, below, meth, c, cells, slots, Q, A⟩ := X
  obtain ⟨hx, hcd, hml, hts, hown, hK, ⟨hdd, hda⟩, hN, rfl, hret, hlk, hcl, hsl⟩ := hX
  intro H locs ls hP hS hl
  have hd := hcd ix _ hd
  obtain ⟨k, f, h1, h2, _⟩ := hC.get M
  refine va_iald (D := D) (ws := wl cy ad sc M) (tys := tq cy) hx rfl hK hP k 1 h1 rfl hin hd ?_
  rw [h2 _ (Nat.not_le.mp (fun g => hin (Or.inr g)))]
  exact kk H locs ls hP hS hl
theorem v_iasg (hX : vOK Y X ins nL own rm ret) {r o a n : Nat} (hC : aC Y r o a n) {i x : Int32} (hin : vp_in i n) (ix : Nat) (hd : gi ins ix = some (pc, .iastore, 1)) (kk : V Y X (mset M r (o + i.toNatClampNeg) x) (pc + 1) L st) : V Y X M pc L (.int x :: .int i :: .ref a :: st) := by
  obtain ⟨l, D, cy, ad, z, sc⟩ := Y
  obtain ⟨p, e, R, s, m, args, below, meth, c, cells, slots, Q, A⟩ := X
  obtain ⟨hx, hcd, hml, hts, hown, hK, ⟨hdd, hda⟩, hN, rfl, hret, hlk, hcl, hsl⟩ := hX
  intro H locs ls hP hS hl
  have hd := hcd ix _ hd
  obtain ⟨k, f, h1, h2, h3⟩ := hC.get M
  refine va_iast (D := D) (ws := wl cy ad sc M) (tys := tq cy) hx rfl hK hP (wl_D hdd hda M) hS k 1 h1 rfl hin hd (fun H1 locs1 hP1 _ hS1 => ?_)
  have h3 := h3 i.toNatClampNeg x (Nat.not_le.mp (fun g => hin (Or.inr g)))
  have h3 : (wl cy ad sc M).set k (a, .inl (cy 1, n, .inl (upd f i.toNatClampNeg x))) = wl cy ad sc (mset M r (o + i.toNatClampNeg) x) := h3
  rw [h3] at hP1
  exact kk H1 locs1 ls hP1 hS1 hl
theorem v_irem (hX : vOK Y X ins nL own rm ret) {x y v : Int32} (hne : ¬ y = 0) (hv : x - x / y * y = v) (ix : Nat) (hd : gi ins ix = some (pc, .irem, 1)) (kk : V Y X M (pc + 1) L (.int v :: st)) : V Y X M pc L (.int y :: .int x :: st) := by
  obtain ⟨l, D, cy, ad, z, sc⟩ := Y
  obtain ⟨p, e, R, s, m, args, below, meth, c, cells, slots, Q, A⟩ := X
  obtain ⟨hx, hcd, hml, hts, hown, hK, ⟨hdd, hda⟩, hN, rfl, hret, hlk, hcl, hsl⟩ := hX
  intro H locs ls hP hS hl
  have hd := hcd ix _ hd
  subst hv
  exact lv_irem hx rfl hd hne (kk H locs ls hP hS hl)
theorem cI_of {D : va_G} {cl : List vw_C} {cy : Nat → ClassId} {s : State} {cA : ClassId} (hK : va_K D cl (tq cy ++ [(cA, .int)]) s) : cA = cy 1 := by
  have h1 := (hK.2 1 (cy 1, .int) rfl).2
  have h2 := (hK.2 5 (cA, .int) rfl).2
  exact Option.some.inj ((show s.vm.findClass _ = some cA from h2).symm.trans (show s.vm.findClass _ = some (cy 1) from h1))
theorem Dd.push {cy : Nat → ClassId} {ad : Nat → Nat} {z : Nat} {sc : List (Nat × Nat)} {M : Mm} {q n : Nat} (h : va_D (fA z) (wl cy ad sc M ++ [(q, .inl (cy 1, n, .inl (fun _ => 0)))])) : Dd cy ad z (sc ++ [(q, n)]) := by
  rw [mrow_newc] at h
  have key : ∀ (M1 M2 : Mm) (sc2 : List (Nat × Nat)) (i : Nat) (p : Nat × va_E), (wl cy ad sc2 M1)[i]? = some p → ∃ p2, (wl cy ad sc2 M2)[i]? = some p2 ∧ p2.1 = p.1 := by
    intro M1 M2 sc2 i p hp
    by_cases hi : i < 279
    · rw [wl_get (M := M1) hi rfl] at hp
      exact ⟨_, wl_get hi rfl, by rw [← Option.some.inj hp]⟩
    · obtain ⟨j, rfl⟩ : ∃ j, i = 279 + j := ⟨i - 279, by omega⟩
      unfold wl at hp ⊢
      rw [List.getElem?_append_right (by rw [fx_len]; omega), fx_len, Nat.add_sub_cancel_left, sw_get] at hp ⊢
      cases hj : sc2[j]? with
      | none => rw [hj] at hp; cases hp
      | some r =>
        rw [hj] at hp
        exact ⟨_, rfl, by rw [← Option.some.inj hp]⟩
  intro M2
  refine ⟨fun i j p r hp hr e => ?_, fun k r hr => ?_⟩
  · obtain ⟨p2, h1, e1⟩ := key M2 _ _ i p hp
    obtain ⟨r2, h2, e2⟩ := key M2 _ _ j r hr
    exact h.1 i j p2 r2 h1 h2 (by rw [e1, e2, e])
  · obtain ⟨r2, h2, e2⟩ := key M2 _ _ k r hr
    rw [← e2]
    exact h.2 k r2 h2
theorem v_newi (hX : vOK Y X ins nL own rm ret) {x : Int32} {m0 : Nat} (hx0 : ¬ x < 0) (hx1 : x.toNatClampNeg = m0) (hb : m0 * 4 ≤ 536870912) (hcells : xce X + 1 ≤ rm.cells) (hslots : xsl X + m0 ≤ rm.slots) (ix : Nat) (hd : gi ins ix = some (pc, .newarray .int, 2)) (kk : ∀ q : Nat, vOK (pY Y q m0) (xc X 1 m0) ins nL own rm ret → V (pY Y q m0) (xc X 1 m0) (mrow M 2 (zf M (sl Y))) (pc + 2) L (.ref q :: st)) : V Y X M pc L (.int x :: st) := by
  obtain ⟨l, D, cy, ad, z, sc⟩ := Y
  obtain ⟨p, e, R, s, m, args, below, meth, c, cells, slots, Q, A⟩ := X
  obtain ⟨hx, hcd, hml, hts, hown, hK, ⟨hdd, hda⟩, hN, rfl, hret, hlk, hcl, hsl⟩ := hX
  intro H locs ls hP hS hl
  have hd2 := hcd ix _ hd
  obtain ⟨rfl, hz⟩ := hda
  refine va_newa (D := D) (ws := wl cy ad sc M) (tys := tq cy) (atype := .int) (ty := .int) (a0 := (m0, .inl (fun _ => 0))) hx rfl (hts _ tw_141) rfl hK hP (hdd M) hS (fun q hq => Nat.le_trans hz hq) (fun cA => rfl) hx0 hx1 (by show m0 * 4 ≤ _; omega) hcells hslots hd2 (fun q cA H1 hK1 hP1 hD1 hS1 => ?_)
  have hcA := cI_of hK1
  subst hcA
  have hdd2 := Dd.push hD1
  rw [mrow_newc] at hP1
  exact kk q ⟨hx, hcd, hml, hts, hown, hK, ⟨hdd2, rfl, hz⟩, hN, rfl, hret, hlk, hcells, hslots⟩ H1 locs ls hP1 hS1 hl
def vQA (Y : Yt) (X : XT) (rv : Option Value) (PM : Mm → Prop) (mc ms : Nat) : Prop :=
  match Y, X with
  | (l, D, cy, ad, z, sc), (p, e, R, s, m, args, below, meth, c, cells, slots, Q, A) =>
    Q = MQ below (fun _ st oc t => oc = .returned rv ∧ (∃ M' : Mm, PM M' ∧ va_P D vwCl (wl cy ad sc M') t.heap) ∧ va_F (fA z) st t) args s mc ms (fA z)
def FnA (Y : Yt) (y : MethodName) (ws : List Cond) (rm : Room) (As : List Value) (M : Mm) (rv : Option Value) (PM : Mm → Prop) (mc ms : Nat) : Prop :=
  match Y with
  | (l, D, cy, ad, z, sc) => Met l y ws rm (va_Pc As (wd (l, D, cy, ad, z, sc) M)) (fun _ st oc t => oc = .returned rv ∧ (∃ M' : Mm, PM M' ∧ va_P D vwCl (wl cy ad sc M') t.heap) ∧ va_F (fA z) st t) mc ms (fA z)
theorem vQA.xc {rv : Option Value} {PM : Mm → Prop} {mc ms a b : Nat} (h : vQA Y X rv PM mc ms) : vQA Y (xc X a b) rv PM mc ms := by
  obtain ⟨l, D, cy, ad, z, sc⟩ := Y
  obtain ⟨p, e, R, s, m, args, below, meth, c, cells, slots, Q, A⟩ := X
  exact h
theorem FnA.of {y : MethodName} {rm : Room} {As : List Value} {rv : Option Value} {PM : Mm → Prop} {mc ms : Nat} {cc : ByteArray} {ins : List (Nat × Instr × Nat)} {maxL : Nat} {ret : Option FieldType} (hy : plainName y.cls = true) (hdc : ins.all (fun q => decide (decode cc q.1 = .ok q.2)) = true) (L0 : List (Option Value)) (hen : (lg_sl As).length ≤ maxL) (hL0 : L0.length = maxL) (hsub : la 0 L0 = lv_args 0 As)
    (body : ∀ X : XT, vOK Y X ins maxL y.cls rm ret → xce X = 0 → xsl X = 0 → vQA Y X rv PM mc ms → V Y X M 0 L0 []) : FnA Y y (Cond.code y cc maxL ret :: wT) rm As M rv PM mc ms := by
  obtain ⟨l, D, cy, ad, z, sc⟩ := Y
  refine Met.ofW (cc := cc) (maxL := maxL) (ret := ret) hy rfl ?_
  intro p e s m args below meth c s₁ B hml hv
  obtain ⟨rfl, hP, hK, hD, hN⟩ := hv
  have hl := lv_entry As hen
  rw [← hsub] at hl
  rw [lg_entry_eq]
  exact body (p, e, rm, s, m, As.toArray, below, meth, c, 0, 0, MQ below (fun _ st oc t => oc = .returned rv ∧ (∃ M' : Mm, PM M' ∧ va_P D vwCl (wl cy ad sc M') t.heap) ∧ va_F (fA z) st t) As.toArray s mc ms (fA z), fA z)
    ⟨B.exec, by rw [B.bytes]; exact dcd hdc, hml, fun w hw => atoms_spec (ws := Cond.code y cc maxL ret :: wT) B.pre w (List.mem_cons_of_mem _ hw), findClass_of_methodNamed B.named, hK, ⟨hD, rfl, zl_of hD hP⟩, hN, rfl, B.returns, B.notSynchronized, Nat.zero_le _, Nat.zero_le _⟩ rfl rfl rfl s.heap [] _ hP va_S.rf (by subst hL0; exact hl)
theorem wl_pre {cy : Nat → ClassId} {ad : Nat → Nat} {sc t : List (Nat × Nat)} {M : Mm} {D : va_G} {H : Heap} (h : va_P D vwCl (wl cy ad (sc ++ t) M) H) : va_P D vwCl (wl cy ad sc M) H := by
  intro k q hq
  refine h k q ?_
  by_cases hk : k < 279
  · rw [wl_get (M := M) hk rfl] at hq ⊢
    exact hq
  · obtain ⟨j, rfl⟩ : ∃ j, k = 279 + j := ⟨k - 279, by omega⟩
    unfold wl at hq ⊢
    rw [List.getElem?_append_right (by rw [fx_len]; omega), fx_len, Nat.add_sub_cancel_left, sw_get] at hq ⊢
    cases hj : sc[j]? with
    | none => rw [hj] at hq; cases hq
    | some r =>
      rw [List.getElem?_append_left (List.getElem?_eq_some_iff.mp hj).1]
      exact hq
theorem v_ireA {Y2 : Yt} (hX : vOK Y2 X ins nL own rm ret) {t : List (Nat × Nat)} (hY : Y2 = (Y.1, Y.2.1, Y.2.2.1, Y.2.2.2.1, Y.2.2.2.2.1, t)) (h0 : Y.2.2.2.2.2 = []) {ty : FieldType} {x : Int32} {rv : Option Value} {PM : Mm → Prop} {mc ms : Nat} {M0 : Mm} (hQ : vQA Y X rv PM mc ms) (hc : xce X ≤ mc) (hs : xsl X ≤ ms) (hr : ret = some ty) (hn : narrow ty (.int x) = .int x) (hv : rv = some (.int x)) (hM : PM M0) (hE : ∃ f, M = mrow M0 2 f) (ix : Nat) (hd : gi ins ix = some (pc, .ireturn, 1)) : V Y2 X M pc L [.int x] := by
  subst hY
  obtain ⟨l, D, cy, ad, z, sc⟩ := Y
  obtain ⟨p, e, R, s, m, args, below, meth, c, cells, slots, Q, A⟩ := X
  obtain ⟨hx, hcd, hml, hts, hown, hK, ⟨hdd, hda, hz⟩, hN, rfl, hret, hlk, hcl, hsl⟩ := hX
  intro H locs ls hP hS hl
  have hd := hcd ix _ hd
  subst hda
  have h0 : sc = [] := h0
  subst h0
  obtain rfl := hQ
  subst hv
  obtain ⟨f, rfl⟩ := hE
  have e1 : wl cy ad [] (mrow M0 2 f) = wl cy ad [] M0 := by
    unfold wl
    rw [fx_congr (M := mrow M0 2 f) (M' := M0) (fun k hk => by
      by_cases e : k = 2
      · subst e; exact cG_2
      · rw [mrow_n e]; rfl)]
    rfl
  have hP2 : va_P D vwCl (wl cy ad [] M0) H := by
    rw [← e1]
    exact wl_pre (t := t) (by rw [List.nil_append]; exact hP)
  exact W.widen hc hs (W.zret hx rfl (hret.trans hr) hn (fun t2 ht _ => ⟨rfl, ⟨M0, hM, by rw [ht]; exact hP2⟩, hS.F ht⟩) hS.2.2 hd hlk)
theorem v_runA {p : Program} {l : Launch} {e : Env} {R : Room} {s : State} {m : MethodId} {args : Array Value} {below : List Frame} {meth : Method} {c : Code} {H : Heap} {locs : List Loc} {cells slots mc ms : Nat} {Q : State → Prop} {pc : Nat} {ls : Array Slot} {rest st0 : List Value} {A0 A1 : Nat → Prop} {H0 : Heap} {PH : Heap → Prop} {rv : Option Value}
    (hr : va_Run p l e R s m args below meth c H locs cells slots mc ms (F0 m pc ls st0) rest (fun st oc t => oc = .returned rv ∧ PH t.heap ∧ va_F A1 st t) A1) (hS : va_S A0 H0 H locs) (hA : ∀ q, A1 q → A0 q)
    (kk : ∀ (H1 : Heap) (locs1 : List Loc), PH H1 → va_S A0 H0 H1 locs1 → W p l e R s m args below meth c H1 locs1 (cells + mc) (slots + ms) Q (F0 m (pc + 3) ls (rv.toList ++ rest))) : W p l e R s m args below meth c H locs cells slots Q (F0 m pc ls st0) := by
  intro T hT X
  obtain ⟨v, st₀, t, T', L, h0, X', hL, e1, e2, ⟨hv, hp, hz, hk⟩, st⟩ := hr T hT X
  cases hv
  rw [h0] at hz hk
  obtain ⟨t2, a1, b1⟩ := kk T'.heap (locs ++ L) (by rw [e1]; exact hp)
    ⟨Nat.le_trans hS.1 (by rw [e1]; exact hz), fun q h1 h2 => by rw [e1, hk q (Nat.lt_of_lt_of_le h1 hS.1) (fun z => h2 (hA q z))]; exact hS.2.1 q h1 h2, fun q hq => by
      rcases List.mem_append.mp hq with h | h
      · exact hS.2.2 q h
      · exact hA _ (hL q h)⟩ T' rfl X'
  exact ⟨t2, st t2 a1, b1⟩
theorem v_callSA (hX : vOK Y X ins nL own rm ret) (nA : Nat) {y : MethodName} {rmc : Room} {rv : Option Value} {bytes : ByteArray} {maxL index mc ms : Nat} {retc : Option FieldType} {st0 : List Value} {As : List Value} {PM : Mm → Prop} (hF : FnA Y y (Cond.code y bytes maxL retc :: wT) rmc As M rv PM mc ms) (hcw : Cond.code y bytes maxL retc ∈ wT) (hlink : Cond.methodLink own index y ∈ wT) (hstt : Cond.static y ∈ wT) (hini : Cond.initialized y.cls ∈ wT) (hdd2 : y.cls ≠ "java/lang/invoke/MethodHandle" ∧ y.cls ≠ "java/lang/invoke/VarHandle" ∧ (parseMethodDescriptor y.desc).map (fun d => d.parameters.length) = some nA) (hR : (rmc.cells = mc ∧ rmc.slots = ms) ∧ rmc.frames + 1 ≤ rm.frames ∧ 8 + (maxL + 11) + rmc.locals ≤ rm.locals) (hcs : xce X + mc ≤ rm.cells ∧ xsl X + ms ≤ rm.slots) (hL : L.length = nL) (hW : (st.map fun v => v.category).sum ≤ 8) (hnA : As.length = nA) (hst : st0 = As.reverse ++ st) (ix : Nat) (hd : gi ins ix = some (pc, .invokestatic index, 3)) (kk : ∀ M' : Mm, PM M' → V Y (xc X mc ms) M' (pc + 3) L (rv.toList ++ st)) : V Y X M pc L st0 := by
  obtain ⟨l, D, cy, ad, z, sc⟩ := Y
  obtain ⟨p, e, R, s, m, args, below, meth, c, cells, slots, Q, A⟩ := X
  obtain ⟨hx, hcd, hml, hts, hown, hK, ⟨hdd, hda⟩, hN, rfl, hret, hlk, hcl, hsl⟩ := hX
  intro H locs ls hP hS hl
  have hd := hcd ix _ hd
  refine v_runA (PH := fun H1 => ∃ M' : Mm, PM M' ∧ va_P D vwCl (wl cy ad sc M') H1) (A1 := fA z) (rest := st) (mc := mc) (ms := ms) (va_runS (As := As) (rest := st) ⟨hx, rfl, hml, hown, hts⟩ hF (va_cwS nA hts (gS hcw hlink hstt hini) rfl hR.1.1 hR.1.2 hdd2 hR.2) ⟨wd_blind, fun U hU hW => ⟨rfl, by rw [hU]; exact hP, va_K.moved hW.alike hK, hdd, Nn.warm hW hN⟩⟩ rfl hnA (hl.1.trans hL) hst (lv_room hW) hd hcs) hS (fA_sub hda) (fun H1 locs1 hP1 hS1 => ?_)
  obtain ⟨M', h1, h2⟩ := hP1
  exact kk M' h1 H1 locs1 ls h2 hS1 hl
def scp (X : XT) (b N : Nat) (xs : Nat → Int32) : Prop :=
  match X with
  | (_, _, _, s, _, _, _, _, _, _, _, _, A) => va_X b N xs s s.heap ∧ b < s.heap.size ∧ ¬ A b
theorem scp.xc {b N a2 b2 : Nat} {xs : Nat → Int32} (h : scp X b N xs) : scp (xc X a2 b2) b N xs := by
  obtain ⟨p, e, R, s, m, args, below, meth, c, cells, slots, Q, A⟩ := X
  exact h
theorem v_sld (hX : vOK Y X ins nL own rm ret) {b N : Nat} {xs : Nat → Int32} (hs : scp X b N xs) {i : Int32} (hin : vp_in i N) (ix : Nat) (hd : gi ins ix = some (pc, .iaload, 1)) (kk : V Y X M (pc + 1) L (.int (xs i.toNatClampNeg) :: st)) : V Y X M pc L (.int i :: .ref b :: st) := by
  obtain ⟨l, D, cy, ad, z, sc⟩ := Y
  obtain ⟨p, e, R, s, m, args, below, meth, c, cells, slots, Q, A⟩ := X
  obtain ⟨hx, hcd, hml, hts, hown, hK, ⟨hdd, hda⟩, hN, rfl, hret, hlk, hcl, hsl⟩ := hX
  intro H locs ls hP hS hl
  have hd := hcd ix _ hd
  exact va_sld hx rfl hs.1 hs.2.1 hs.2.2 hS hin hd (kk H locs ls hP hS hl)
theorem v_slen (hX : vOK Y X ins nL own rm ret) {b N : Nat} {xs : Nat → Int32} (hs : scp X b N xs) (ix : Nat) (hd : gi ins ix = some (pc, .arraylength, 1)) (kk : V Y X M (pc + 1) L (.int (nI N) :: st)) : V Y X M pc L (.ref b :: st) := by
  obtain ⟨l, D, cy, ad, z, sc⟩ := Y
  obtain ⟨p, e, R, s, m, args, below, meth, c, cells, slots, Q, A⟩ := X
  obtain ⟨hx, hcd, hml, hts, hown, hK, ⟨hdd, hda⟩, hN, rfl, hret, hlk, hcl, hsl⟩ := hX
  intro H locs ls hP hS hl
  have hd := hcd ix _ hd
  exact va_slen hx rfl hs.1 hs.2.1 hs.2.2 hS hd (kk H locs ls hP hS hl)
def wdS (Y : Yt) (M : Mm) (b N : Nat) (xs : Nat → Int32) (U : State) : Prop := wd Y M U ∧ va_X b N xs U U.heap ∧ b < Y.2.2.2.2.1
def FnS (Y : Yt) (y : MethodName) (ws : List Cond) (rm : Room) (As : List Value) (M : Mm) (rv : Option Value) (b N : Nat) (xs : Nat → Int32) : Prop :=
  match Y with
  | (l, D, cy, ad, z, sc) => Met l y ws rm (va_Pc As (wdS (l, D, cy, ad, z, sc) M b N xs)) (fun _ st oc t => oc = .returned rv ∧ va_P D vwCl (wl cy ad sc M) t.heap ∧ va_F (fA z) st t) 0 0 (fA z)
theorem FnS.of {y : MethodName} {rm : Room} {As : List Value} {rv : Option Value} {cc : ByteArray} {maxL : Nat} {ret : Option FieldType} {b N : Nat} {xs : Nat → Int32} (hy : plainName y.cls = true) (hdc : ins.all (fun q => decide (decode cc q.1 = .ok q.2)) = true) (L0 : List (Option Value)) (hen : (lg_sl As).length ≤ maxL) (hL0 : L0.length = maxL) (hsub : la 0 L0 = lv_args 0 As)
    (body : ∀ X : XT, vOK Y X ins maxL y.cls rm ret → vQ Y X rv M → scp X b N xs → V Y X M 0 L0 []) : FnS Y y (Cond.code y cc maxL ret :: wT) rm As M rv b N xs := by
  obtain ⟨l, D, cy, ad, z, sc⟩ := Y
  refine Met.ofW (cc := cc) (maxL := maxL) (ret := ret) hy rfl ?_
  intro p e s m args below meth c s₁ B hml hv
  obtain ⟨rfl, ⟨hP, hK, hD, hN⟩, hXs, hbz⟩ := hv
  have hl := lv_entry As hen
  rw [← hsub] at hl
  rw [lg_entry_eq]
  have hbl : b < s.heap.size := by
    obtain ⟨scr, h1, _⟩ := hXs
    exact (Array.getElem?_eq_some_iff.mp h1).1
  exact body (p, e, rm, s, m, As.toArray, below, meth, c, 0, 0, MQ below (fun _ st oc t => oc = .returned rv ∧ va_P D vwCl (wl cy ad sc M) t.heap ∧ va_F (fA z) st t) As.toArray s 0 0 (fA z), fA z)
    ⟨B.exec, by rw [B.bytes]; exact dcd hdc, hml, fun w hw => atoms_spec (ws := Cond.code y cc maxL ret :: wT) B.pre w (List.mem_cons_of_mem _ hw), findClass_of_methodNamed B.named, hK, ⟨hD, rfl, zl_of hD hP⟩, hN, rfl, B.returns, B.notSynchronized, Nat.zero_le _, Nat.zero_le _⟩ ⟨rfl, rfl⟩ ⟨hXs, hbl, Nat.not_le.mpr hbz⟩ s.heap [] _ hP va_S.rf (by subst hL0; exact hl)
theorem va_X.alike {b N : Nat} {xs : Nat → Int32} {u U : State} {H H' : Heap} (hvm : u.vm.Alike U.vm) (hH : H'[b]? = H[b]?) (h : va_X b N xs u H) : va_X b N xs U H' := by
  obtain ⟨scr, h1, h2, h3, h4, h5⟩ := h
  exact ⟨scr, by rw [hH]; exact h1, State.isArrayOf_alike hvm h2, h3, h4, h5⟩
theorem wdS_blind {b N : Nat} {xs : Nat → Int32} {As : List Value} : FrameBlind (va_Pc As (wdS Y M b N xs)) := by
  intro a U g mk h
  obtain ⟨h1, h2, h3, h4⟩ := h
  have h5 := wd_blind (Y := Y) (M := M) (As := As) a U g mk ⟨h1, h2⟩
  exact ⟨h1, h5.2, va_X.alike (Vm.Alike.refl U.vm) rfl h3, h4⟩
theorem v_callSS (hX : vOK Y X ins nL own rm ret) (nA : Nat) {y : MethodName} {rmc : Room} {rv : Option Value} {bytes : ByteArray} {maxL index : Nat} {retc : Option FieldType} {st0 : List Value} {As : List Value} {b N : Nat} {xs : Nat → Int32} (hsc : scp X b N xs) (hF : FnS Y y (Cond.code y bytes maxL retc :: wT) rmc As M rv b N xs) (hcw : Cond.code y bytes maxL retc ∈ wT) (hlink : Cond.methodLink own index y ∈ wT) (hstt : Cond.static y ∈ wT) (hini : Cond.initialized y.cls ∈ wT) (hdd2 : y.cls ≠ "java/lang/invoke/MethodHandle" ∧ y.cls ≠ "java/lang/invoke/VarHandle" ∧ (parseMethodDescriptor y.desc).map (fun d => d.parameters.length) = some nA) (hR : (rmc.cells = 0 ∧ rmc.slots = 0) ∧ rmc.frames + 1 ≤ rm.frames ∧ 8 + (maxL + 11) + rmc.locals ≤ rm.locals) (hL : L.length = nL) (hW : (st.map fun v => v.category).sum ≤ 8) (hnA : As.length = nA) (hst : st0 = As.reverse ++ st) (ix : Nat) (hd : gi ins ix = some (pc, .invokestatic index, 3)) (kk : V Y X M (pc + 3) L (rv.toList ++ st)) : V Y X M pc L st0 := by
  obtain ⟨l, D, cy, ad, z, sc⟩ := Y
  obtain ⟨p, e, R, s, m, args, below, meth, c, cells, slots, Q, A⟩ := X
  obtain ⟨hx, hcd, hml, hts, hown, hK, ⟨hdd, hda, hz⟩, hN, rfl, hret, hlk, hcl, hsl⟩ := hX
  intro H locs ls hP hS hl
  have hd := hcd ix _ hd
  obtain ⟨hs1, hs2, hs3⟩ := hsc
  subst hda
  refine v_run (w1 := wl cy ad sc M) (A1 := fA z) (rest := st) (va_runS (As := As) (rest := st) ⟨hx, rfl, hml, hown, hts⟩ hF (va_cwS nA hts (gS hcw hlink hstt hini) rfl hR.1.1 hR.1.2 hdd2 hR.2) ⟨wdS_blind, fun U hU hW => ⟨rfl, ⟨by rw [hU]; exact hP, va_K.moved hW.alike hK, hdd, Nn.warm hW hN⟩, va_X.alike hW.alike (by rw [hU]; exact hS.2.1 b hs2 hs3) hs1, Nat.not_le.mp hs3⟩⟩ rfl hnA (hl.1.trans hL) hst (lv_room hW) hd ⟨hcl, hsl⟩) hS (fun _ h => h) (fun H1 locs1 hP1 hS1 => kk H1 locs1 ls hP1 hS1 hl)
theorem aC_270 : aC Y 270 0 (Y.2.2.2.1 270) 24 := Or.inl ⟨rfl, by decide, by decide, rfl, fun _ _ => rfl⟩
theorem aC_271 : aC Y 271 0 (Y.2.2.2.1 271) 24 := Or.inl ⟨rfl, by decide, by decide, rfl, fun _ _ => rfl⟩
theorem aC_272 : aC Y 272 0 (Y.2.2.2.1 272) 24 := Or.inl ⟨rfl, by decide, by decide, rfl, fun _ _ => rfl⟩
theorem aC_273 : aC Y 273 0 (Y.2.2.2.1 273) 24 := Or.inl ⟨rfl, by decide, by decide, rfl, fun _ _ => rfl⟩
theorem aC_274 : aC Y 274 0 (Y.2.2.2.1 274) 24 := Or.inl ⟨rfl, by decide, by decide, rfl, fun _ _ => rfl⟩
theorem aC_275 : aC Y 275 0 (Y.2.2.2.1 275) 24 := Or.inl ⟨rfl, by decide, by decide, rfl, fun _ _ => rfl⟩
theorem aC_276 : aC Y 276 0 (Y.2.2.2.1 276) 24 := Or.inl ⟨rfl, by decide, by decide, rfl, fun _ _ => rfl⟩
theorem aC_277 : aC Y 277 0 (Y.2.2.2.1 277) 24 := Or.inl ⟨rfl, by decide, by decide, rfl, fun _ _ => rfl⟩
theorem aC_278 : aC Y 278 0 (Y.2.2.2.1 278) 5 := Or.inl ⟨rfl, by decide, by decide, rfl, fun _ _ => rfl⟩
theorem l_cell {Y : Yt} {M : Mm} {b N k : Nat} {xs : Nat → Int32} (hN : N < 2 ^ 31) (hk : k < 2 ^ 31) : FnS Y yL_cell wsL_cell { frames := 0, cells := 0, slots := 0, locals := 0 } [.ref b, .int (nI k)] M (some (.int (if k < N then xs k else 32452867 * nI k + 15485863))) b N xs := by
  refine FnS.of (cc := cL_cell) (ins := iL_cell) (maxL := 2) (ret := (some .int)) (by decide) dL_cell [some (.ref b), some (.int (nI k))] (Nat.le_of_ble_eq_true rfl) rfl rfl ?_
  intro X hX hQ hs
  refine v_iload_n hX 1 0 rfl rfl rfl ?_
  refine v_aload_n hX 0 1 rfl rfl rfl ?_
  refine v_slen hX hs 2 rfl ?_
  refine v_icmp_ge hX (tgt := 12) 3 rfl (by decide) (fun c3 => ?_) (fun c3 => ?_)
  · have h : ¬ k < N := by have := of_le c3 (by omega) (by omega); omega
    rw [if_neg h] at hQ
    refine v_ldc hX tw_352 8 rfl ?_
    refine v_iload_n hX 1 9 rfl rfl rfl ?_
    refine v_imul hX 10 rfl ?_
    refine v_ldc hX tw_353 11 rfl ?_
    refine v_iadd hX 12 rfl ?_
    exact v_iret hX hQ rfl rfl rfl rfl 13 rfl
  · have h : k < N := of_nle c3 (by omega) (by omega)
    rw [if_pos h] at hQ
    refine v_aload_n hX 0 4 rfl rfl rfl ?_
    refine v_iload_n hX 1 5 rfl rfl rfl ?_
    refine v_sld hX hs (vp_in_nI h (by omega)) 6 rfl ?_
    rw [nI_clamp hk]
    refine v_goto hX (tgt := 19) 7 rfl (by decide) ?_
    exact v_iret hX hQ rfl rfl rfl rfl 13 rfl
end VM
