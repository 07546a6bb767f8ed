section
def lw_okq (q : MethodName × Nat) : Prop := (q.1.cls ≠ "java/lang/invoke/MethodHandle" ∧ q.1.cls ≠ "java/lang/invoke/VarHandle") ∧ Cond.instantiable q.1.cls q.2 ∈ tables_1 ∧ Cond.privateMethod q.1 ∈ tables_1 ∧ Cond.instanceMethod q.1 ∈ tables_1
theorem lw_p0 : lw_okq (⟨"PointAnswers$History", "prepare", "(LPointAnswers$Bundle;)V"⟩, 2) := ⟨⟨by decide +kernel, by decide +kernel⟩, List.mem_of_getElem? (i := 138) (by decide +kernel), List.mem_of_getElem? (i := 180) (by decide +kernel), List.mem_of_getElem? (i := 181) (by decide +kernel)⟩
theorem lw_p1 : lw_okq (⟨"PointAnswers$History", "rowAt", "(I)LPointAnswers$Bundle;"⟩, 2) := ⟨⟨by decide +kernel, by decide +kernel⟩, List.mem_of_getElem? (i := 138) (by decide +kernel), List.mem_of_getElem? (i := 184) (by decide +kernel), List.mem_of_getElem? (i := 185) (by decide +kernel)⟩
theorem lw_p2 : lw_okq (⟨"PointAnswers$Bundle", "become", "(LPointAnswers$Bundle;)V"⟩, 6) := ⟨⟨by decide +kernel, by decide +kernel⟩, List.mem_of_getElem? (i := 19) (by decide +kernel), List.mem_of_getElem? (i := 188) (by decide +kernel), List.mem_of_getElem? (i := 189) (by decide +kernel)⟩
theorem lw_p3 : lw_okq (⟨"PointAnswers$Bundle", "find", "(I)LPointAnswers$Point;"⟩, 6) := ⟨⟨by decide +kernel, by decide +kernel⟩, List.mem_of_getElem? (i := 19) (by decide +kernel), List.mem_of_getElem? (i := 192) (by decide +kernel), List.mem_of_getElem? (i := 193) (by decide +kernel)⟩
theorem lw_p4 : lw_okq (⟨"PointAnswers$Point", "become", "(LPointAnswers$Point;)V"⟩, 7) := ⟨⟨by decide +kernel, by decide +kernel⟩, List.mem_of_getElem? (i := 26) (by decide +kernel), List.mem_of_getElem? (i := 196) (by decide +kernel), List.mem_of_getElem? (i := 197) (by decide +kernel)⟩
theorem lw_p5 : lw_okq (⟨"PointAnswers$Bundle", "adjust", "(II)I"⟩, 6) := ⟨⟨by decide +kernel, by decide +kernel⟩, List.mem_of_getElem? (i := 19) (by decide +kernel), List.mem_of_getElem? (i := 200) (by decide +kernel), List.mem_of_getElem? (i := 201) (by decide +kernel)⟩
theorem lw_p6 : lw_okq (⟨"PointAnswers$History", "settle", "(I)I"⟩, 2) := ⟨⟨by decide +kernel, by decide +kernel⟩, List.mem_of_getElem? (i := 138) (by decide +kernel), List.mem_of_getElem? (i := 204) (by decide +kernel), List.mem_of_getElem? (i := 205) (by decide +kernel)⟩
theorem lw_p7 : lw_okq (⟨"PointAnswers$History", "dropOldest", "()V"⟩, 2) := ⟨⟨by decide +kernel, by decide +kernel⟩, List.mem_of_getElem? (i := 138) (by decide +kernel), List.mem_of_getElem? (i := 208) (by decide +kernel), List.mem_of_getElem? (i := 209) (by decide +kernel)⟩
theorem lw_p8 : lw_okq (⟨"PointAnswers$Bundle", "fileClaim", "(III)I"⟩, 6) := ⟨⟨by decide +kernel, by decide +kernel⟩, List.mem_of_getElem? (i := 19) (by decide +kernel), List.mem_of_getElem? (i := 216) (by decide +kernel), List.mem_of_getElem? (i := 217) (by decide +kernel)⟩
theorem lw_p9 : lw_okq (⟨"PointAnswers$Bundle", "file", "(IIII)I"⟩, 6) := ⟨⟨by decide +kernel, by decide +kernel⟩, List.mem_of_getElem? (i := 19) (by decide +kernel), List.mem_of_getElem? (i := 223) (by decide +kernel), List.mem_of_getElem? (i := 224) (by decide +kernel)⟩
theorem lw_p10 : lw_okq (⟨"PointAnswers$Bundle", "freeRow", "()LPointAnswers$Point;"⟩, 6) := ⟨⟨by decide +kernel, by decide +kernel⟩, List.mem_of_getElem? (i := 19) (by decide +kernel), List.mem_of_getElem? (i := 227) (by decide +kernel), List.mem_of_getElem? (i := 228) (by decide +kernel)⟩
theorem lw_p11 : lw_okq (⟨"PointAnswers$Bundle", "fileAnswer", "(III)I"⟩, 6) := ⟨⟨by decide +kernel, by decide +kernel⟩, List.mem_of_getElem? (i := 19) (by decide +kernel), List.mem_of_getElem? (i := 235) (by decide +kernel), List.mem_of_getElem? (i := 236) (by decide +kernel)⟩
theorem lw_p12 : lw_okq (⟨"PointAnswers$Bundle", "takeBack", "(I)I"⟩, 6) := ⟨⟨by decide +kernel, by decide +kernel⟩, List.mem_of_getElem? (i := 19) (by decide +kernel), List.mem_of_getElem? (i := 243) (by decide +kernel), List.mem_of_getElem? (i := 244) (by decide +kernel)⟩
theorem lw_p13 : lw_okq (⟨"PointAnswers$Bundle", "standing", "()I"⟩, 6) := ⟨⟨by decide +kernel, by decide +kernel⟩, List.mem_of_getElem? (i := 19) (by decide +kernel), List.mem_of_getElem? (i := 247) (by decide +kernel), List.mem_of_getElem? (i := 248) (by decide +kernel)⟩
theorem lw_p14 : lw_okq (⟨"PointAnswers$Bundle", "out", "()I"⟩, 6) := ⟨⟨by decide +kernel, by decide +kernel⟩, List.mem_of_getElem? (i := 19) (by decide +kernel), List.mem_of_getElem? (i := 251) (by decide +kernel), List.mem_of_getElem? (i := 252) (by decide +kernel)⟩
theorem lw_p15 : lw_okq (⟨"PointAnswers$Bundle", "withdrawn", "()I"⟩, 6) := ⟨⟨by decide +kernel, by decide +kernel⟩, List.mem_of_getElem? (i := 19) (by decide +kernel), List.mem_of_getElem? (i := 255) (by decide +kernel), List.mem_of_getElem? (i := 256) (by decide +kernel)⟩
def lw_privs_1 : List (MethodName × Nat) := [(⟨"PointAnswers$History", "prepare", "(LPointAnswers$Bundle;)V"⟩, 2), (⟨"PointAnswers$History", "rowAt", "(I)LPointAnswers$Bundle;"⟩, 2), (⟨"PointAnswers$Bundle", "become", "(LPointAnswers$Bundle;)V"⟩, 6), (⟨"PointAnswers$Bundle", "find", "(I)LPointAnswers$Point;"⟩, 6), (⟨"PointAnswers$Point", "become", "(LPointAnswers$Point;)V"⟩, 7), (⟨"PointAnswers$Bundle", "adjust", "(II)I"⟩, 6), (⟨"PointAnswers$History", "settle", "(I)I"⟩, 2), (⟨"PointAnswers$History", "dropOldest", "()V"⟩, 2), (⟨"PointAnswers$Bundle", "fileClaim", "(III)I"⟩, 6), (⟨"PointAnswers$Bundle", "file", "(IIII)I"⟩, 6), (⟨"PointAnswers$Bundle", "freeRow", "()LPointAnswers$Point;"⟩, 6), (⟨"PointAnswers$Bundle", "fileAnswer", "(III)I"⟩, 6), (⟨"PointAnswers$Bundle", "takeBack", "(I)I"⟩, 6), (⟨"PointAnswers$Bundle", "standing", "()I"⟩, 6), (⟨"PointAnswers$Bundle", "out", "()I"⟩, 6), (⟨"PointAnswers$Bundle", "withdrawn", "()I"⟩, 6)]
theorem lw_r1 : ∀ q ∈ lw_privs_1, lw_okq q := List.forall_mem_cons.mpr ⟨lw_p0, List.forall_mem_cons.mpr ⟨lw_p1, List.forall_mem_cons.mpr ⟨lw_p2, List.forall_mem_cons.mpr ⟨lw_p3, List.forall_mem_cons.mpr ⟨lw_p4, List.forall_mem_cons.mpr ⟨lw_p5, List.forall_mem_cons.mpr ⟨lw_p6, List.forall_mem_cons.mpr ⟨lw_p7, List.forall_mem_cons.mpr ⟨lw_p8, List.forall_mem_cons.mpr ⟨lw_p9, List.forall_mem_cons.mpr ⟨lw_p10, List.forall_mem_cons.mpr ⟨lw_p11, List.forall_mem_cons.mpr ⟨lw_p12, List.forall_mem_cons.mpr ⟨lw_p13, List.forall_mem_cons.mpr ⟨lw_p14, List.forall_mem_cons.mpr ⟨lw_p15, fun _ h => absurd h List.not_mem_nil⟩⟩⟩⟩⟩⟩⟩⟩⟩⟩⟩⟩⟩⟩⟩⟩
theorem lw_p16 : lw_okq (⟨"PointAnswers$Bundle", "struck", "()I"⟩, 6) := ⟨⟨by decide +kernel, by decide +kernel⟩, List.mem_of_getElem? (i := 19) (by decide +kernel), List.mem_of_getElem? (i := 259) (by decide +kernel), List.mem_of_getElem? (i := 260) (by decide +kernel)⟩
theorem lw_p17 : lw_okq (⟨"PointAnswers$Bundle", "lapsedOn", "(I)I"⟩, 6) := ⟨⟨by decide +kernel, by decide +kernel⟩, List.mem_of_getElem? (i := 19) (by decide +kernel), List.mem_of_getElem? (i := 263) (by decide +kernel), List.mem_of_getElem? (i := 264) (by decide +kernel)⟩
theorem lw_p18 : lw_okq (⟨"PointAnswers$Bundle", "baseless", "()I"⟩, 6) := ⟨⟨by decide +kernel, by decide +kernel⟩, List.mem_of_getElem? (i := 19) (by decide +kernel), List.mem_of_getElem? (i := 267) (by decide +kernel), List.mem_of_getElem? (i := 268) (by decide +kernel)⟩
theorem lw_p19 : lw_okq (⟨"PointAnswers$Bundle", "standingIf", "(II)I"⟩, 6) := ⟨⟨by decide +kernel, by decide +kernel⟩, List.mem_of_getElem? (i := 19) (by decide +kernel), List.mem_of_getElem? (i := 271) (by decide +kernel), List.mem_of_getElem? (i := 272) (by decide +kernel)⟩
theorem lw_p20 : lw_okq (⟨"PointAnswers$Bundle", "targetOf", "(I)I"⟩, 6) := ⟨⟨by decide +kernel, by decide +kernel⟩, List.mem_of_getElem? (i := 19) (by decide +kernel), List.mem_of_getElem? (i := 278) (by decide +kernel), List.mem_of_getElem? (i := 279) (by decide +kernel)⟩
theorem lw_p21 : lw_okq (⟨"PointAnswers$Bundle", "prolong", "(I)I"⟩, 6) := ⟨⟨by decide +kernel, by decide +kernel⟩, List.mem_of_getElem? (i := 19) (by decide +kernel), List.mem_of_getElem? (i := 292) (by decide +kernel), List.mem_of_getElem? (i := 293) (by decide +kernel)⟩
theorem lw_p22 : lw_okq (⟨"PointAnswers$Bundle", "turnCase", "(I)I"⟩, 6) := ⟨⟨by decide +kernel, by decide +kernel⟩, List.mem_of_getElem? (i := 19) (by decide +kernel), List.mem_of_getElem? (i := 300) (by decide +kernel), List.mem_of_getElem? (i := 301) (by decide +kernel)⟩
theorem lw_p23 : lw_okq (⟨"PointAnswers$Bundle", "moveOn", "(I)I"⟩, 6) := ⟨⟨by decide +kernel, by decide +kernel⟩, List.mem_of_getElem? (i := 19) (by decide +kernel), List.mem_of_getElem? (i := 308) (by decide +kernel), List.mem_of_getElem? (i := 309) (by decide +kernel)⟩
theorem lw_p24 : lw_okq (⟨"PointAnswers$Bundle", "reasonAgainst", "(I)I"⟩, 6) := ⟨⟨by decide +kernel, by decide +kernel⟩, List.mem_of_getElem? (i := 19) (by decide +kernel), List.mem_of_getElem? (i := 334) (by decide +kernel), List.mem_of_getElem? (i := 335) (by decide +kernel)⟩
theorem lw_p25 : lw_okq (⟨"PointAnswers$Bundle", "answersTo", "(I)I"⟩, 6) := ⟨⟨by decide +kernel, by decide +kernel⟩, List.mem_of_getElem? (i := 19) (by decide +kernel), List.mem_of_getElem? (i := 338) (by decide +kernel), List.mem_of_getElem? (i := 339) (by decide +kernel)⟩
theorem lw_p26 : lw_okq (⟨"PointAnswers$Bundle", "depthOf", "(I)I"⟩, 6) := ⟨⟨by decide +kernel, by decide +kernel⟩, List.mem_of_getElem? (i := 19) (by decide +kernel), List.mem_of_getElem? (i := 345) (by decide +kernel), List.mem_of_getElem? (i := 346) (by decide +kernel)⟩
theorem lw_p27 : lw_okq (⟨"PointAnswers$Bundle", "daysLeft", "(LPointAnswers$Point;)I"⟩, 6) := ⟨⟨by decide +kernel, by decide +kernel⟩, List.mem_of_getElem? (i := 19) (by decide +kernel), List.mem_of_getElem? (i := 349) (by decide +kernel), List.mem_of_getElem? (i := 350) (by decide +kernel)⟩
theorem lw_p28 : lw_okq (⟨"PointAnswers$Bundle", "claims", "()I"⟩, 6) := ⟨⟨by decide +kernel, by decide +kernel⟩, List.mem_of_getElem? (i := 19) (by decide +kernel), List.mem_of_getElem? (i := 357) (by decide +kernel), List.mem_of_getElem? (i := 358) (by decide +kernel)⟩
theorem lw_p29 : lw_okq (⟨"PointAnswers$Bundle", "answered", "()I"⟩, 6) := ⟨⟨by decide +kernel, by decide +kernel⟩, List.mem_of_getElem? (i := 19) (by decide +kernel), List.mem_of_getElem? (i := 364) (by decide +kernel), List.mem_of_getElem? (i := 365) (by decide +kernel)⟩
theorem lw_p30 : lw_okq (⟨"PointAnswers$Bundle", "all", "()I"⟩, 6) := ⟨⟨by decide +kernel, by decide +kernel⟩, List.mem_of_getElem? (i := 19) (by decide +kernel), List.mem_of_getElem? (i := 368) (by decide +kernel), List.mem_of_getElem? (i := 369) (by decide +kernel)⟩
theorem lw_p31 : lw_okq (⟨"PointAnswers$Bundle", "pagesOf", "(II)I"⟩, 6) := ⟨⟨by decide +kernel, by decide +kernel⟩, List.mem_of_getElem? (i := 19) (by decide +kernel), List.mem_of_getElem? (i := 374) (by decide +kernel), List.mem_of_getElem? (i := 375) (by decide +kernel)⟩
def lw_privs_2 : List (MethodName × Nat) := [(⟨"PointAnswers$Bundle", "struck", "()I"⟩, 6), (⟨"PointAnswers$Bundle", "lapsedOn", "(I)I"⟩, 6), (⟨"PointAnswers$Bundle", "baseless", "()I"⟩, 6), (⟨"PointAnswers$Bundle", "standingIf", "(II)I"⟩, 6), (⟨"PointAnswers$Bundle", "targetOf", "(I)I"⟩, 6), (⟨"PointAnswers$Bundle", "prolong", "(I)I"⟩, 6), (⟨"PointAnswers$Bundle", "turnCase", "(I)I"⟩, 6), (⟨"PointAnswers$Bundle", "moveOn", "(I)I"⟩, 6), (⟨"PointAnswers$Bundle", "reasonAgainst", "(I)I"⟩, 6), (⟨"PointAnswers$Bundle", "answersTo", "(I)I"⟩, 6), (⟨"PointAnswers$Bundle", "depthOf", "(I)I"⟩, 6), (⟨"PointAnswers$Bundle", "daysLeft", "(LPointAnswers$Point;)I"⟩, 6), (⟨"PointAnswers$Bundle", "claims", "()I"⟩, 6), (⟨"PointAnswers$Bundle", "answered", "()I"⟩, 6), (⟨"PointAnswers$Bundle", "all", "()I"⟩, 6), (⟨"PointAnswers$Bundle", "pagesOf", "(II)I"⟩, 6)]
theorem lw_r2 : ∀ q ∈ lw_privs_2, lw_okq q := List.forall_mem_cons.mpr ⟨lw_p16, List.forall_mem_cons.mpr ⟨lw_p17, List.forall_mem_cons.mpr ⟨lw_p18, List.forall_mem_cons.mpr ⟨lw_p19, List.forall_mem_cons.mpr ⟨lw_p20, List.forall_mem_cons.mpr ⟨lw_p21, List.forall_mem_cons.mpr ⟨lw_p22, List.forall_mem_cons.mpr ⟨lw_p23, List.forall_mem_cons.mpr ⟨lw_p24, List.forall_mem_cons.mpr ⟨lw_p25, List.forall_mem_cons.mpr ⟨lw_p26, List.forall_mem_cons.mpr ⟨lw_p27, List.forall_mem_cons.mpr ⟨lw_p28, List.forall_mem_cons.mpr ⟨lw_p29, List.forall_mem_cons.mpr ⟨lw_p30, List.forall_mem_cons.mpr ⟨lw_p31, fun _ h => absurd h List.not_mem_nil⟩⟩⟩⟩⟩⟩⟩⟩⟩⟩⟩⟩⟩⟩⟩⟩
theorem lw_p32 : lw_okq (⟨"PointAnswers$Bundle", "ofSide", "(I)I"⟩, 6) := ⟨⟨by decide +kernel, by decide +kernel⟩, List.mem_of_getElem? (i := 19) (by decide +kernel), List.mem_of_getElem? (i := 385) (by decide +kernel), List.mem_of_getElem? (i := 386) (by decide +kernel)⟩
theorem lw_p33 : lw_okq (⟨"PointAnswers$Bundle", "withoutAnswers", "()I"⟩, 6) := ⟨⟨by decide +kernel, by decide +kernel⟩, List.mem_of_getElem? (i := 19) (by decide +kernel), List.mem_of_getElem? (i := 412) (by decide +kernel), List.mem_of_getElem? (i := 413) (by decide +kernel)⟩
theorem lw_p34 : lw_okq (⟨"PointAnswers$Costs", "weigh", "(LPointAnswers$Bundle;)V"⟩, 2) := ⟨⟨by decide +kernel, by decide +kernel⟩, List.mem_of_getElem? (i := 91) (by decide +kernel), List.mem_of_getElem? (i := 420) (by decide +kernel), List.mem_of_getElem? (i := 421) (by decide +kernel)⟩
theorem lw_p35 : lw_okq (⟨"PointAnswers$Costs", "addToTarget", "(III)V"⟩, 2) := ⟨⟨by decide +kernel, by decide +kernel⟩, List.mem_of_getElem? (i := 91) (by decide +kernel), List.mem_of_getElem? (i := 431) (by decide +kernel), List.mem_of_getElem? (i := 432) (by decide +kernel)⟩
theorem lw_p36 : lw_okq (⟨"PointAnswers$Costs", "answersToFall", "(I)I"⟩, 2) := ⟨⟨by decide +kernel, by decide +kernel⟩, List.mem_of_getElem? (i := 91) (by decide +kernel), List.mem_of_getElem? (i := 435) (by decide +kernel), List.mem_of_getElem? (i := 436) (by decide +kernel)⟩
theorem lw_p37 : lw_okq (⟨"PointAnswers$Costs", "answersToStand", "(I)I"⟩, 2) := ⟨⟨by decide +kernel, by decide +kernel⟩, List.mem_of_getElem? (i := 91) (by decide +kernel), List.mem_of_getElem? (i := 446) (by decide +kernel), List.mem_of_getElem? (i := 447) (by decide +kernel)⟩
def lw_privs_3 : List (MethodName × Nat) := [(⟨"PointAnswers$Bundle", "ofSide", "(I)I"⟩, 6), (⟨"PointAnswers$Bundle", "withoutAnswers", "()I"⟩, 6), (⟨"PointAnswers$Costs", "weigh", "(LPointAnswers$Bundle;)V"⟩, 2), (⟨"PointAnswers$Costs", "addToTarget", "(III)V"⟩, 2), (⟨"PointAnswers$Costs", "answersToFall", "(I)I"⟩, 2), (⟨"PointAnswers$Costs", "answersToStand", "(I)I"⟩, 2)]
theorem lw_r3 : ∀ q ∈ lw_privs_3, lw_okq q := List.forall_mem_cons.mpr ⟨lw_p32, List.forall_mem_cons.mpr ⟨lw_p33, List.forall_mem_cons.mpr ⟨lw_p34, List.forall_mem_cons.mpr ⟨lw_p35, List.forall_mem_cons.mpr ⟨lw_p36, List.forall_mem_cons.mpr ⟨lw_p37, fun _ h => absurd h List.not_mem_nil⟩⟩⟩⟩⟩⟩
def lw_privs : List (MethodName × Nat) := lw_privs_1 ++ (lw_privs_2 ++ (lw_privs_3))
def lw_tbl : List Cond := k2_sels lw_privs ++ tables_1
theorem lw_privs_ok : ∀ q ∈ lw_privs, lw_okq q := by
  show ∀ q ∈ lw_privs_1 ++ (lw_privs_2 ++ (lw_privs_3)), lw_okq q
  exact List.forall_mem_append.mpr ⟨lw_r1, List.forall_mem_append.mpr ⟨lw_r2, lw_r3⟩⟩
end
section
def gi {α : Type} : List α → Nat → Option α
  | [], _ => none
  | a :: _, 0 => some a
  | _ :: t, n + 1 => gi t n
theorem gi_mem {α : Type} {l : List α} {i : Nat} {a : α} (h : gi l i = some a) : a ∈ l := by
  induction l generalizing i with
  | nil => cases h
  | cons x t ih =>
    cases i with
    | zero => rw [show x = a from Option.some.inj h]; exact List.mem_cons_self
    | succ n => exact List.mem_cons_of_mem _ (ih h)
theorem dcd {cc : ByteArray} {ins : List (Nat × Instr × Nat)} (h : ins.all (fun q => decide (decode cc q.1 = .ok q.2)) = true) (i : Nat) (q : Nat × Instr × Nat) (hi : gi ins i = some q) : decode cc q.1 = .ok q.2 := by
  have h1 := List.all_eq_true.mp h q (gi_mem hi)
  exact of_decide_eq_true h1
def wT : List Cond := lw_tbl.filter goodWord
theorem tw {w : Cond} (i : Nat) (h : lw_tbl[i]? = some w) (hg : goodWord w = true) : w ∈ wT := List.mem_filter.mpr ⟨List.mem_of_getElem? h, hg⟩
theorem wT_tbl : ∀ w ∈ wT, w ∈ lw_tbl := fun _ h => (List.mem_filter.mp h).1
theorem gI {b1 : ByteArray} {y : MethodName} {n : Nat} {r : Option FieldType} (h : Cond.code y b1 n r ∈ wT) : GoodIn wT (Cond.code y b1 n r :: wT) := by
  intro w hw
  rcases List.mem_cons.mp hw with rfl | hw
  · exact ⟨h, good_of_word (List.mem_filter.mp h).2⟩
  · exact ⟨hw, good_of_word (List.mem_filter.mp hw).2⟩
def RX0 : String := "PointAnswers$Bundle"
def TX0 : u_T := fun k => match k with
  | 0 => ("PointAnswers$Bundle", "rows", "[LPointAnswers$Point;", true)
  | 1 => ("PointAnswers$Bundle", "size", "I", false)
  | 2 => ("PointAnswers$Bundle", "day", "I", false)
  | 3 => ("PointAnswers$Bundle", "overruled", "I", false)
  | 4 => ("PointAnswers$Bundle", "lapse", "I", false)
  | _ => ("PointAnswers$Bundle", "allowedPages", "I", false)
def tyX0 : Nat → FieldType := fun k => match k with
  | 0 => .array (.object "PointAnswers$Point")
  | 1 => .int
  | 2 => .int
  | 3 => .int
  | 4 => .int
  | _ => .int
theorem nmX0 : ∀ a, a < 6 → ∀ b, b < 6 → a ≠ b → (TX0 a).2.1 ≠ (TX0 b).2.1 := by decide +kernel
theorem tyX0_ok : ∀ k, k < 6 → parseFieldDescriptor (TX0 k).2.2.1 = some (tyX0 k) := by decide +kernel
theorem inX0 : ∀ w ∈ u_ws RX0 TX0 6, w ∈ wT := by decide +kernel
def RX1 : String := "PointAnswers$Costs"
def TX1 : u_T := fun k => match k with
  | 0 => ("PointAnswers$Costs", "fall", "[I", true)
  | _ => ("PointAnswers$Costs", "stand", "[I", true)
def tyX1 : Nat → FieldType := fun k => match k with
  | 0 => .array .int
  | _ => .array .int
theorem nmX1 : ∀ a, a < 2 → ∀ b, b < 2 → a ≠ b → (TX1 a).2.1 ≠ (TX1 b).2.1 := by decide +kernel
theorem tyX1_ok : ∀ k, k < 2 → parseFieldDescriptor (TX1 k).2.2.1 = some (tyX1 k) := by decide +kernel
theorem inX1 : ∀ w ∈ u_ws RX1 TX1 2, w ∈ wT := by decide +kernel
def RX2 : String := "PointAnswers$History"
def TX2 : u_T := fun k => match k with
  | 0 => ("PointAnswers$History", "rows", "[LPointAnswers$Bundle;", true)
  | _ => ("PointAnswers$History", "kept", "I", false)
def tyX2 : Nat → FieldType := fun k => match k with
  | 0 => .array (.object "PointAnswers$Bundle")
  | _ => .int
theorem nmX2 : ∀ a, a < 2 → ∀ b, b < 2 → a ≠ b → (TX2 a).2.1 ≠ (TX2 b).2.1 := by decide +kernel
theorem tyX2_ok : ∀ k, k < 2 → parseFieldDescriptor (TX2 k).2.2.1 = some (tyX2 k) := by decide +kernel
theorem inX2 : ∀ w ∈ u_ws RX2 TX2 2, w ∈ wT := by decide +kernel
def RX3 : String := "PointAnswers$Pad"
def TX3 : u_T := fun k => match k with
  | 0 => ("PointAnswers$Pad", "signs", "[C", true)
  | _ => ("PointAnswers$Pad", "length", "I", false)
def tyX3 : Nat → FieldType := fun k => match k with
  | 0 => .array .char
  | _ => .int
theorem nmX3 : ∀ a, a < 2 → ∀ b, b < 2 → a ≠ b → (TX3 a).2.1 ≠ (TX3 b).2.1 := by decide +kernel
theorem tyX3_ok : ∀ k, k < 2 → parseFieldDescriptor (TX3 k).2.2.1 = some (tyX3 k) := by decide +kernel
theorem inX3 : ∀ w ∈ u_ws RX3 TX3 2, w ∈ wT := by decide +kernel
def RX4 : String := "PointAnswers$Point"
def TX4 : u_T := fun k => match k with
  | 0 => ("PointAnswers$Point", "side", "I", false)
  | 1 => ("PointAnswers$Point", "pages", "I", false)
  | 2 => ("PointAnswers$Point", "cases", "I", false)
  | 3 => ("PointAnswers$Point", "target", "I", false)
  | 4 => ("PointAnswers$Point", "filed", "I", false)
  | 5 => ("PointAnswers$Point", "lastsFrom", "I", false)
  | _ => ("PointAnswers$Point", "withdrawn", "Z", false)
def tyX4 : Nat → FieldType := fun k => match k with
  | 0 => .int
  | 1 => .int
  | 2 => .int
  | 3 => .int
  | 4 => .int
  | 5 => .int
  | _ => .boolean
theorem nmX4 : ∀ a, a < 7 → ∀ b, b < 7 → a ≠ b → (TX4 a).2.1 ≠ (TX4 b).2.1 := by decide +kernel
theorem tyX4_ok : ∀ k, k < 7 → parseFieldDescriptor (TX4 k).2.2.1 = some (tyX4 k) := by decide +kernel
theorem inX4 : ∀ w ∈ u_ws RX4 TX4 7, w ∈ wT := by decide +kernel
def RX5 : String := "PointAnswers$Reader"
def TX5 : u_T := fun k => match k with
  | 0 => ("PointAnswers$Reader", "at", "I", false)
  | 1 => ("PointAnswers$Reader", "digit", "I", false)
  | 2 => ("PointAnswers$Reader", "kind", "C", false)
  | 3 => ("PointAnswers$Reader", "number", "I", false)
  | 4 => ("PointAnswers$Reader", "pages", "I", false)
  | _ => ("PointAnswers$Reader", "cases", "I", false)
def tyX5 : Nat → FieldType := fun k => match k with
  | 0 => .int
  | 1 => .int
  | 2 => .char
  | 3 => .int
  | 4 => .int
  | _ => .int
theorem nmX5 : ∀ a, a < 6 → ∀ b, b < 6 → a ≠ b → (TX5 a).2.1 ≠ (TX5 b).2.1 := by decide +kernel
theorem tyX5_ok : ∀ k, k < 6 → parseFieldDescriptor (TX5 k).2.2.1 = some (tyX5 k) := by decide +kernel
theorem inX5 : ∀ w ∈ u_ws RX5 TX5 6, w ∈ wT := by decide +kernel
def RX6 : String := "PointAnswers"
def TX6 : u_T := fun k => match k with
  | 0 => ("PointAnswers", "now", "LPointAnswers$Bundle;", true)
  | 1 => ("PointAnswers", "costs", "LPointAnswers$Costs;", true)
  | 2 => ("PointAnswers", "pad", "LPointAnswers$Pad;", true)
  | 3 => ("PointAnswers", "reader", "LPointAnswers$Reader;", true)
  | 4 => ("PointAnswers", "history", "LPointAnswers$History;", true)
  | 5 => ("PointAnswers", "slots", "[LPointAnswers$Bundle;", true)
  | _ => ("PointAnswers", "savedSlots", "I", false)
def tyX6 : Nat → FieldType := fun k => match k with
  | 0 => .object "PointAnswers$Bundle"
  | 1 => .object "PointAnswers$Costs"
  | 2 => .object "PointAnswers$Pad"
  | 3 => .object "PointAnswers$Reader"
  | 4 => .object "PointAnswers$History"
  | 5 => .array (.object "PointAnswers$Bundle")
  | _ => .int
theorem nmX6 : ∀ a, a < 7 → ∀ b, b < 7 → a ≠ b → (TX6 a).2.1 ≠ (TX6 b).2.1 := by decide +kernel
theorem tyX6_ok : ∀ k, k < 7 → parseFieldDescriptor (TX6 k).2.2.1 = some (tyX6 k) := by decide +kernel
theorem inX6 : ∀ w ∈ u_ws RX6 TX6 7, w ∈ wT := by decide +kernel
abbrev vwCl : List vw_C := [(RX0, TX0, 6), (RX1, TX1, 2), (RX2, TX2, 2), (RX3, TX3, 2), (RX4, TX4, 7), (RX5, TX5, 6), (RX6, TX6, 7)]
abbrev cX4_init : ByteArray := prog_6_method_1_code
def yX4_init : MethodName := ⟨"PointAnswers$Point", "<init>", "()V"⟩
abbrev wsX4_init : List Cond := .code yX4_init cX4_init 1 none :: wT
def iX4_init : List (Nat × Instr × Nat) := [(0, .aload_n 0, 1), (1, .invokespecial 1, 3), (4, .return_, 1)]
theorem dX4_init : iX4_init.all (fun q => decide (decode cX4_init q.1 = .ok q.2)) = true := by decide +kernel
abbrev cX0_init : ByteArray := prog_2_method_1_code
def yX0_init : MethodName := ⟨"PointAnswers$Bundle", "<init>", "()V"⟩
abbrev wsX0_init : List Cond := .code yX0_init cX0_init 2 none :: wT
def iX0_init : List (Nat × Instr × Nat) := [(0, .aload_n 0, 1), (1, .invokespecial 3, 3), (4, .aload_n 0, 1), (5, .bipush 24, 2), (7, .anewarray 9, 3), (10, .putfield 11, 3), (13, .aload_n 0, 1), (14, .bipush 14, 2), (16, .putfield 17, 3), (19, .aload_n 0, 1), (20, .bipush 30, 2), (22, .putfield 21, 3), (25, .iconst 0, 1), (26, .istore_n 1, 1), (27, .iload_n 1, 1), (28, .aload_n 0, 1), (29, .getfield 11, 3), (32, .arraylength, 1), (33, .if_icmp .ge 22, 3), (36, .aload_n 0, 1), (37, .getfield 11, 3), (40, .iload_n 1, 1), (41, .new 9, 3), (44, .dup, 1), (45, .invokespecial 24, 3), (48, .aastore, 1), (49, .iinc 1 1, 3), (52, .goto (-25), 3), (55, .return_, 1)]
theorem dX0_init : iX0_init.all (fun q => decide (decode cX0_init q.1 = .ok q.2)) = true := by decide +kernel
abbrev cX0_find : ByteArray := prog_2_method_3_code
def yX0_find : MethodName := ⟨"PointAnswers$Bundle", "find", "(I)LPointAnswers$Point;"⟩
abbrev wsX0_find : List Cond := .code yX0_find cX0_find 2 (some (.object "PointAnswers$Point")) :: wT
def iX0_find : List (Nat × Instr × Nat) := [(0, .iload_n 1, 1), (1, .ifCond .lt 29, 3), (4, .iload_n 1, 1), (5, .aload_n 0, 1), (6, .getfield 25, 3), (9, .if_icmp .ge 21, 3), (12, .iload_n 1, 1), (13, .aload_n 0, 1), (14, .getfield 11, 3), (17, .arraylength, 1), (18, .if_icmp .ge 12, 3), (21, .aload_n 0, 1), (22, .getfield 11, 3), (25, .iload_n 1, 1), (26, .aaload, 1), (27, .goto 4, 3), (30, .aconst_null, 1), (31, .areturn, 1)]
theorem dX0_find : iX0_find.all (fun q => decide (decode cX0_find q.1 = .ok q.2)) = true := by decide +kernel
abbrev cX4_become : ByteArray := prog_6_method_2_code
def yX4_become : MethodName := ⟨"PointAnswers$Point", "become", "(LPointAnswers$Point;)V"⟩
abbrev wsX4_become : List Cond := .code yX4_become cX4_become 2 none :: wT
def iX4_become : List (Nat × Instr × Nat) := [(0, .aload_n 0, 1), (1, .aload_n 1, 1), (2, .getfield 7, 3), (5, .putfield 7, 3), (8, .aload_n 0, 1), (9, .aload_n 1, 1), (10, .getfield 13, 3), (13, .putfield 13, 3), (16, .aload_n 0, 1), (17, .aload_n 1, 1), (18, .getfield 16, 3), (21, .putfield 16, 3), (24, .aload_n 0, 1), (25, .aload_n 1, 1), (26, .getfield 19, 3), (29, .putfield 19, 3), (32, .aload_n 0, 1), (33, .aload_n 1, 1), (34, .getfield 22, 3), (37, .putfield 22, 3), (40, .aload_n 0, 1), (41, .aload_n 1, 1), (42, .getfield 25, 3), (45, .putfield 25, 3), (48, .aload_n 0, 1), (49, .aload_n 1, 1), (50, .getfield 28, 3), (53, .putfield 28, 3), (56, .return_, 1)]
theorem dX4_become : iX4_become.all (fun q => decide (decode cX4_become q.1 = .ok q.2)) = true := by decide +kernel
abbrev cX0_become : ByteArray := prog_2_method_2_code
def yX0_become : MethodName := ⟨"PointAnswers$Bundle", "become", "(LPointAnswers$Bundle;)V"⟩
abbrev wsX0_become : List Cond := .code yX0_become cX0_become 5 none :: wT
def iX0_become : List (Nat × Instr × Nat) := [(0, .aload_n 0, 1), (1, .aload_n 1, 1), (2, .getfield 25, 3), (5, .putfield 25, 3), (8, .aload_n 0, 1), (9, .aload_n 1, 1), (10, .getfield 28, 3), (13, .putfield 28, 3), (16, .aload_n 0, 1), (17, .aload_n 1, 1), (18, .getfield 31, 3), (21, .putfield 31, 3), (24, .aload_n 0, 1), (25, .aload_n 1, 1), (26, .getfield 17, 3), (29, .putfield 17, 3), (32, .aload_n 0, 1), (33, .aload_n 1, 1), (34, .getfield 21, 3), (37, .putfield 21, 3), (40, .iconst 0, 1), (41, .istore_n 2, 1), (42, .iload_n 2, 1), (43, .aload_n 0, 1), (44, .getfield 11, 3), (47, .arraylength, 1), (48, .if_icmp .ge 46, 3), (51, .iload_n 2, 1), (52, .aload_n 0, 1), (53, .getfield 25, 3), (56, .if_icmp .ge 38, 3), (59, .aload_n 0, 1), (60, .getfield 11, 3), (63, .iload_n 2, 1), (64, .aaload, 1), (65, .astore_n 3, 1), (66, .aload_n 1, 1), (67, .iload_n 2, 1), (68, .invokevirtual 34, 3), (71, .astore 4, 2), (73, .aload_n 3, 1), (74, .ifnull 14, 3), (77, .aload 4, 2), (79, .ifnull 9, 3), (82, .aload_n 3, 1), (83, .aload 4, 2), (85, .invokevirtual 38, 3), (88, .iinc 2 1, 3), (91, .goto (-49), 3), (94, .return_, 1)]
theorem dX0_become : iX0_become.all (fun q => decide (decode cX0_become q.1 = .ok q.2)) = true := by decide +kernel
abbrev cX0_freeRow : ByteArray := prog_2_method_4_code
def yX0_freeRow : MethodName := ⟨"PointAnswers$Bundle", "freeRow", "()LPointAnswers$Point;"⟩
abbrev wsX0_freeRow : List Cond := .code yX0_freeRow cX0_freeRow 1 (some (.object "PointAnswers$Point")) :: wT
def iX0_freeRow : List (Nat × Instr × Nat) := [(0, .aload_n 0, 1), (1, .getfield 25, 3), (4, .ifCond .lt 27, 3), (7, .aload_n 0, 1), (8, .getfield 25, 3), (11, .aload_n 0, 1), (12, .getfield 11, 3), (15, .arraylength, 1), (16, .if_icmp .ge 15, 3), (19, .aload_n 0, 1), (20, .getfield 11, 3), (23, .aload_n 0, 1), (24, .getfield 25, 3), (27, .aaload, 1), (28, .goto 4, 3), (31, .aconst_null, 1), (32, .areturn, 1)]
theorem dX0_freeRow : iX0_freeRow.all (fun q => decide (decode cX0_freeRow q.1 = .ok q.2)) = true := by decide +kernel
abbrev cX0_adjust : ByteArray := prog_2_method_5_code
def yX0_adjust : MethodName := ⟨"PointAnswers$Bundle", "adjust", "(II)I"⟩
abbrev wsX0_adjust : List Cond := .code yX0_adjust cX0_adjust 4 (some .int) :: wT
def iX0_adjust : List (Nat × Instr × Nat) := [(0, .bipush (-2), 2), (2, .istore_n 3, 1), (3, .iload_n 1, 1), (4, .ifCond .ne 24, 3), (7, .iload_n 2, 1), (8, .iconst 1, 1), (9, .if_icmp .lt 19, 3), (12, .iload_n 2, 1), (13, .bipush 60, 2), (15, .if_icmp .gt 13, 3), (18, .aload_n 0, 1), (19, .getfield 17, 3), (22, .istore_n 3, 1), (23, .aload_n 0, 1), (24, .iload_n 2, 1), (25, .putfield 17, 3), (28, .iload_n 1, 1), (29, .iconst 1, 1), (30, .if_icmp .ne 24, 3), (33, .iload_n 2, 1), (34, .iconst 1, 1), (35, .if_icmp .lt 19, 3), (38, .iload_n 2, 1), (39, .bipush 99, 2), (41, .if_icmp .gt 13, 3), (44, .aload_n 0, 1), (45, .getfield 21, 3), (48, .istore_n 3, 1), (49, .aload_n 0, 1), (50, .iload_n 2, 1), (51, .putfield 21, 3), (54, .iload_n 3, 1), (55, .ireturn, 1)]
theorem dX0_adjust : iX0_adjust.all (fun q => decide (decode cX0_adjust q.1 = .ok q.2)) = true := by decide +kernel
abbrev cX0_canBeFiled : ByteArray := prog_2_method_8_code
def yX0_canBeFiled : MethodName := ⟨"PointAnswers$Bundle", "canBeFiled", "(II)Z"⟩
abbrev wsX0_canBeFiled : List Cond := .code yX0_canBeFiled cX0_canBeFiled 2 (some .boolean) :: wT
def iX0_canBeFiled : List (Nat × Instr × Nat) := [(0, .iload_n 0, 1), (1, .iconst 1, 1), (2, .if_icmp .lt 24, 3), (5, .iload_n 0, 1), (6, .bipush 9, 2), (8, .if_icmp .gt 18, 3), (11, .iload_n 1, 1), (12, .ifCond .lt 14, 3), (15, .iload_n 1, 1), (16, .sipush 1023, 3), (19, .if_icmp .gt 7, 3), (22, .iconst 1, 1), (23, .goto 4, 3), (26, .iconst 0, 1), (27, .ireturn, 1)]
theorem dX0_canBeFiled : iX0_canBeFiled.all (fun q => decide (decode cX0_canBeFiled q.1 = .ok q.2)) = true := by decide +kernel
abbrev cX0_file : ByteArray := prog_2_method_9_code
def yX0_file : MethodName := ⟨"PointAnswers$Bundle", "file", "(IIII)I"⟩
abbrev wsX0_file : List Cond := .code yX0_file cX0_file 6 (some .int) :: wT
def iX0_file : List (Nat × Instr × Nat) := [(0, .aload_n 0, 1), (1, .invokevirtual 50, 3), (4, .astore 5, 2), (6, .aload 5, 2), (8, .ifnonnull 6, 3), (11, .bipush (-4), 2), (13, .ireturn, 1), (14, .aload 5, 2), (16, .iload_n 1, 1), (17, .putfield 58, 3), (20, .aload 5, 2), (22, .iload_n 2, 1), (23, .putfield 61, 3), (26, .aload 5, 2), (28, .iload_n 3, 1), (29, .putfield 64, 3), (32, .aload 5, 2), (34, .iload 4, 2), (36, .putfield 67, 3), (39, .aload 5, 2), (41, .aload_n 0, 1), (42, .getfield 28, 3), (45, .putfield 70, 3), (48, .aload 5, 2), (50, .aload_n 0, 1), (51, .getfield 28, 3), (54, .putfield 73, 3), (57, .aload 5, 2), (59, .iconst 0, 1), (60, .putfield 54, 3), (63, .aload_n 0, 1), (64, .dup, 1), (65, .getfield 25, 3), (68, .iconst 1, 1), (69, .iadd, 1), (70, .putfield 25, 3), (73, .aload_n 0, 1), (74, .getfield 25, 3), (77, .iconst 1, 1), (78, .isub, 1), (79, .ireturn, 1)]
theorem dX0_file : iX0_file.all (fun q => decide (decode cX0_file q.1 = .ok q.2)) = true := by decide +kernel
abbrev cX0_fileClaim : ByteArray := prog_2_method_6_code
def yX0_fileClaim : MethodName := ⟨"PointAnswers$Bundle", "fileClaim", "(III)I"⟩
abbrev wsX0_fileClaim : List Cond := .code yX0_fileClaim cX0_fileClaim 4 (some .int) :: wT
def iX0_fileClaim : List (Nat × Instr × Nat) := [(0, .iload_n 1, 1), (1, .ifCond .lt 16, 3), (4, .iload_n 1, 1), (5, .iconst 1, 1), (6, .if_icmp .gt 11, 3), (9, .iload_n 2, 1), (10, .iload_n 3, 1), (11, .invokestatic 42, 3), (14, .ifCond .ne 6, 3), (17, .bipush (-2), 2), (19, .ireturn, 1), (20, .aload_n 0, 1), (21, .iload_n 1, 1), (22, .iload_n 2, 1), (23, .iload_n 3, 1), (24, .bipush (-6), 2), (26, .invokevirtual 46, 3), (29, .ireturn, 1)]
theorem dX0_fileClaim : iX0_fileClaim.all (fun q => decide (decode cX0_fileClaim q.1 = .ok q.2)) = true := by decide +kernel
abbrev cX0_fileAnswer : ByteArray := prog_2_method_7_code
def yX0_fileAnswer : MethodName := ⟨"PointAnswers$Bundle", "fileAnswer", "(III)I"⟩
abbrev wsX0_fileAnswer : List Cond := .code yX0_fileAnswer cX0_fileAnswer 5 (some .int) :: wT
def iX0_fileAnswer : List (Nat × Instr × Nat) := [(0, .aload_n 0, 1), (1, .iload_n 1, 1), (2, .invokevirtual 34, 3), (5, .astore 4, 2), (7, .aload 4, 2), (9, .ifnonnull 5, 3), (12, .iconst (-1), 1), (13, .ireturn, 1), (14, .iload_n 2, 1), (15, .iload_n 3, 1), (16, .invokestatic 42, 3), (19, .ifCond .ne 6, 3), (22, .bipush (-2), 2), (24, .ireturn, 1), (25, .aload_n 0, 1), (26, .invokevirtual 50, 3), (29, .ifnonnull 6, 3), (32, .bipush (-4), 2), (34, .ireturn, 1), (35, .aload 4, 2), (37, .getfield 54, 3), (40, .ifCond .eq 6, 3), (43, .bipush (-5), 2), (45, .ireturn, 1), (46, .aload_n 0, 1), (47, .iconst 1, 1), (48, .aload 4, 2), (50, .getfield 58, 3), (53, .isub, 1), (54, .iload_n 2, 1), (55, .iload_n 3, 1), (56, .iload_n 1, 1), (57, .invokevirtual 46, 3), (60, .ireturn, 1)]
theorem dX0_fileAnswer : iX0_fileAnswer.all (fun q => decide (decode cX0_fileAnswer q.1 = .ok q.2)) = true := by decide +kernel
abbrev cX0_withdrawn : ByteArray := prog_2_method_20_code
def yX0_withdrawn : MethodName := ⟨"PointAnswers$Bundle", "withdrawn", "()I"⟩
abbrev wsX0_withdrawn : List Cond := .code yX0_withdrawn cX0_withdrawn 4 (some .int) :: wT
def iX0_withdrawn : List (Nat × Instr × Nat) := [(0, .iconst 0, 1), (1, .istore_n 1, 1), (2, .iconst 0, 1), (3, .istore_n 2, 1), (4, .iload_n 2, 1), (5, .aload_n 0, 1), (6, .getfield 25, 3), (9, .if_icmp .ge 32, 3), (12, .aload_n 0, 1), (13, .iload_n 2, 1), (14, .invokevirtual 34, 3), (17, .astore_n 3, 1), (18, .aload_n 3, 1), (19, .ifnull 16, 3), (22, .aload_n 3, 1), (23, .getfield 54, 3), (26, .ifCond .eq 9, 3), (29, .iload_n 1, 1), (30, .iconst 1, 1), (31, .iload_n 2, 1), (32, .ishl, 1), (33, .ior, 1), (34, .istore_n 1, 1), (35, .iinc 2 1, 3), (38, .goto (-34), 3), (41, .iload_n 1, 1), (42, .ireturn, 1)]
theorem dX0_withdrawn : iX0_withdrawn.all (fun q => decide (decode cX0_withdrawn q.1 = .ok q.2)) = true := by decide +kernel
abbrev cX0_struck : ByteArray := prog_2_method_21_code
def yX0_struck : MethodName := ⟨"PointAnswers$Bundle", "struck", "()I"⟩
abbrev wsX0_struck : List Cond := .code yX0_struck cX0_struck 6 (some .int) :: wT
def iX0_struck : List (Nat × Instr × Nat) := [(0, .iconst 0, 1), (1, .istore_n 1, 1), (2, .iconst 0, 1), (3, .istore_n 2, 1), (4, .iload_n 2, 1), (5, .iconst 1, 1), (6, .if_icmp .gt 94, 3), (9, .iconst 0, 1), (10, .istore_n 3, 1), (11, .iconst 0, 1), (12, .istore 4, 2), (14, .iload 4, 2), (16, .aload_n 0, 1), (17, .getfield 25, 3), (20, .if_icmp .ge 74, 3), (23, .aload_n 0, 1), (24, .iload 4, 2), (26, .invokevirtual 34, 3), (29, .astore 5, 2), (31, .aload 5, 2), (33, .ifnull 55, 3), (36, .aload 5, 2), (38, .getfield 58, 3), (41, .iload_n 2, 1), (42, .if_icmp .ne 46, 3), (45, .aload 5, 2), (47, .getfield 54, 3), (50, .ifCond .eq 6, 3), (53, .goto 35, 3), (56, .iload_n 3, 1), (57, .aload 5, 2), (59, .getfield 61, 3), (62, .iadd, 1), (63, .aload_n 0, 1), (64, .getfield 21, 3), (67, .if_icmp .le 13, 3), (70, .iload_n 1, 1), (71, .iconst 1, 1), (72, .iload 4, 2), (74, .ishl, 1), (75, .ior, 1), (76, .istore_n 1, 1), (77, .goto 11, 3), (80, .iload_n 3, 1), (81, .aload 5, 2), (83, .getfield 61, 3), (86, .iadd, 1), (87, .istore_n 3, 1), (88, .iinc 4 1, 3), (91, .goto (-77), 3), (94, .iinc 2 1, 3), (97, .goto (-93), 3), (100, .iload_n 1, 1), (101, .ireturn, 1)]
theorem dX0_struck : iX0_struck.all (fun q => decide (decode cX0_struck q.1 = .ok q.2)) = true := by decide +kernel
abbrev cX0_lapsedOn : ByteArray := prog_2_method_22_code
def yX0_lapsedOn : MethodName := ⟨"PointAnswers$Bundle", "lapsedOn", "(I)I"⟩
abbrev wsX0_lapsedOn : List Cond := .code yX0_lapsedOn cX0_lapsedOn 5 (some .int) :: wT
def iX0_lapsedOn : List (Nat × Instr × Nat) := [(0, .iconst 0, 1), (1, .istore_n 2, 1), (2, .iconst 0, 1), (3, .istore_n 3, 1), (4, .iload_n 3, 1), (5, .aload_n 0, 1), (6, .getfield 25, 3), (9, .if_icmp .ge 51, 3), (12, .aload_n 0, 1), (13, .iload_n 3, 1), (14, .invokevirtual 34, 3), (17, .astore 4, 2), (19, .aload 4, 2), (21, .ifnull 33, 3), (24, .aload 4, 2), (26, .getfield 67, 3), (29, .bipush (-6), 2), (31, .if_icmp .eq 23, 3), (34, .iload_n 1, 1), (35, .aload 4, 2), (37, .getfield 73, 3), (40, .isub, 1), (41, .aload_n 0, 1), (42, .getfield 17, 3), (45, .if_icmp .le 9, 3), (48, .iload_n 2, 1), (49, .iconst 1, 1), (50, .iload_n 3, 1), (51, .ishl, 1), (52, .ior, 1), (53, .istore_n 2, 1), (54, .iinc 3 1, 3), (57, .goto (-53), 3), (60, .iload_n 2, 1), (61, .ireturn, 1)]
theorem dX0_lapsedOn : iX0_lapsedOn.all (fun q => decide (decode cX0_lapsedOn q.1 = .ok q.2)) = true := by decide +kernel
abbrev cX0_baseless : ByteArray := prog_2_method_23_code
def yX0_baseless : MethodName := ⟨"PointAnswers$Bundle", "baseless", "()I"⟩
abbrev wsX0_baseless : List Cond := .code yX0_baseless cX0_baseless 4 (some .int) :: wT
def iX0_baseless : List (Nat × Instr × Nat) := [(0, .iconst 0, 1), (1, .istore_n 1, 1), (2, .iconst 0, 1), (3, .istore_n 2, 1), (4, .iload_n 2, 1), (5, .aload_n 0, 1), (6, .getfield 25, 3), (9, .if_icmp .ge 46, 3), (12, .aload_n 0, 1), (13, .iload_n 2, 1), (14, .invokevirtual 34, 3), (17, .astore_n 3, 1), (18, .aload_n 3, 1), (19, .ifnull 30, 3), (22, .aload_n 3, 1), (23, .getfield 64, 3), (26, .ifCond .eq 23, 3), (29, .aload_n 3, 1), (30, .getfield 64, 3), (33, .aload_n 0, 1), (34, .getfield 31, 3), (37, .iconst (-1), 1), (38, .ixor, 1), (39, .iand, 1), (40, .ifCond .ne 9, 3), (43, .iload_n 1, 1), (44, .iconst 1, 1), (45, .iload_n 2, 1), (46, .ishl, 1), (47, .ior, 1), (48, .istore_n 1, 1), (49, .iinc 2 1, 3), (52, .goto (-48), 3), (55, .iload_n 1, 1), (56, .ireturn, 1)]
theorem dX0_baseless : iX0_baseless.all (fun q => decide (decode cX0_baseless q.1 = .ok q.2)) = true := by decide +kernel
abbrev cX0_out : ByteArray := prog_2_method_24_code
def yX0_out : MethodName := ⟨"PointAnswers$Bundle", "out", "()I"⟩
abbrev wsX0_out : List Cond := .code yX0_out cX0_out 1 (some .int) :: wT
def iX0_out : List (Nat × Instr × Nat) := [(0, .aload_n 0, 1), (1, .invokevirtual 98, 3), (4, .aload_n 0, 1), (5, .invokevirtual 100, 3), (8, .ior, 1), (9, .aload_n 0, 1), (10, .aload_n 0, 1), (11, .getfield 28, 3), (14, .invokevirtual 103, 3), (17, .ior, 1), (18, .aload_n 0, 1), (19, .invokevirtual 106, 3), (22, .ior, 1), (23, .ireturn, 1)]
theorem dX0_out : iX0_out.all (fun q => decide (decode cX0_out q.1 = .ok q.2)) = true := by decide +kernel
abbrev cX6_has : ByteArray := prog_1_method_27_code
def yX6_has : MethodName := ⟨"PointAnswers", "has", "(II)Z"⟩
abbrev wsX6_has : List Cond := .code yX6_has cX6_has 2 (some .boolean) :: wT
def iX6_has : List (Nat × Instr × Nat) := [(0, .iload_n 0, 1), (1, .iload_n 1, 1), (2, .iushr, 1), (3, .iconst 1, 1), (4, .iand, 1), (5, .iconst 1, 1), (6, .if_icmp .ne 7, 3), (9, .iconst 1, 1), (10, .goto 4, 3), (13, .iconst 0, 1), (14, .ireturn, 1)]
theorem dX6_has : iX6_has.all (fun q => decide (decode cX6_has q.1 = .ok q.2)) = true := by decide +kernel
abbrev cX0_targetOf : ByteArray := prog_2_method_18_code
def yX0_targetOf : MethodName := ⟨"PointAnswers$Bundle", "targetOf", "(I)I"⟩
abbrev wsX0_targetOf : List Cond := .code yX0_targetOf cX0_targetOf 3 (some .int) :: wT
def iX0_targetOf : List (Nat × Instr × Nat) := [(0, .aload_n 0, 1), (1, .iload_n 1, 1), (2, .invokevirtual 34, 3), (5, .astore_n 2, 1), (6, .aload_n 2, 1), (7, .ifnull 12, 3), (10, .aload_n 2, 1), (11, .getfield 67, 3), (14, .bipush (-6), 2), (16, .if_icmp .ne 7, 3), (19, .iconst 0, 1), (20, .goto 9, 3), (23, .iconst 1, 1), (24, .aload_n 2, 1), (25, .getfield 67, 3), (28, .ishl, 1), (29, .ireturn, 1)]
theorem dX0_targetOf : iX0_targetOf.all (fun q => decide (decode cX0_targetOf q.1 = .ok q.2)) = true := by decide +kernel
abbrev cX0_standingIf : ByteArray := prog_2_method_27_code
def yX0_standingIf : MethodName := ⟨"PointAnswers$Bundle", "standingIf", "(II)I"⟩
abbrev wsX0_standingIf : List Cond := .code yX0_standingIf cX0_standingIf 6 (some .int) :: wT
def iX0_standingIf : List (Nat × Instr × Nat) := [(0, .iload_n 2, 1), (1, .istore_n 3, 1), (2, .iconst 0, 1), (3, .istore 4, 2), (5, .aload_n 0, 1), (6, .getfield 25, 3), (9, .iconst 1, 1), (10, .isub, 1), (11, .istore 5, 2), (13, .iload 5, 2), (15, .ifCond .lt 38, 3), (18, .iload_n 1, 1), (19, .iload_n 3, 1), (20, .ior, 1), (21, .iload 5, 2), (23, .invokestatic 86, 3), (26, .ifCond .ne 21, 3), (29, .iload 4, 2), (31, .iconst 1, 1), (32, .iload 5, 2), (34, .ishl, 1), (35, .ior, 1), (36, .istore 4, 2), (38, .iload_n 3, 1), (39, .aload_n 0, 1), (40, .iload 5, 2), (42, .invokevirtual 95, 3), (45, .ior, 1), (46, .istore_n 3, 1), (47, .iinc 5 (-1), 3), (50, .goto (-37), 3), (53, .iload 4, 2), (55, .ireturn, 1)]
theorem dX0_standingIf : iX0_standingIf.all (fun q => decide (decode cX0_standingIf q.1 = .ok q.2)) = true := by decide +kernel
abbrev cX0_standing : ByteArray := prog_2_method_25_code
def yX0_standing : MethodName := ⟨"PointAnswers$Bundle", "standing", "()I"⟩
abbrev wsX0_standing : List Cond := .code yX0_standing cX0_standing 1 (some .int) :: wT
def iX0_standing : List (Nat × Instr × Nat) := [(0, .aload_n 0, 1), (1, .aload_n 0, 1), (2, .invokevirtual 109, 3), (5, .iconst 0, 1), (6, .invokevirtual 112, 3), (9, .ireturn, 1)]
theorem dX0_standing : iX0_standing.all (fun q => decide (decode cX0_standing q.1 = .ok q.2)) = true := by decide +kernel
abbrev cJ6_bitCount_0f7a4 : ByteArray := prog_10_method_49_code
def yJ6_bitCount_0f7a4 : MethodName := ⟨"java/lang/Integer", "bitCount", "(I)I"⟩
abbrev wsJ6_bitCount_0f7a4 : List Cond := .code yJ6_bitCount_0f7a4 cJ6_bitCount_0f7a4 1 (some .int) :: wT
def iJ6_bitCount_0f7a4 : List (Nat × Instr × Nat) := [(0, .iload_n 0, 1), (1, .iload_n 0, 1), (2, .iconst 1, 1), (3, .iushr, 1), (4, .ldc_w 265, 3), (7, .iand, 1), (8, .isub, 1), (9, .istore_n 0, 1), (10, .iload_n 0, 1), (11, .ldc_w 266, 3), (14, .iand, 1), (15, .iload_n 0, 1), (16, .iconst 2, 1), (17, .iushr, 1), (18, .ldc_w 266, 3), (21, .iand, 1), (22, .iadd, 1), (23, .istore_n 0, 1), (24, .iload_n 0, 1), (25, .iload_n 0, 1), (26, .iconst 4, 1), (27, .iushr, 1), (28, .iadd, 1), (29, .ldc_w 267, 3), (32, .iand, 1), (33, .istore_n 0, 1), (34, .iload_n 0, 1), (35, .iload_n 0, 1), (36, .bipush 8, 2), (38, .iushr, 1), (39, .iadd, 1), (40, .istore_n 0, 1), (41, .iload_n 0, 1), (42, .iload_n 0, 1), (43, .bipush 16, 2), (45, .iushr, 1), (46, .iadd, 1), (47, .istore_n 0, 1), (48, .iload_n 0, 1), (49, .bipush 63, 2), (51, .iand, 1), (52, .ireturn, 1)]
theorem dJ6_bitCount_0f7a4 : iJ6_bitCount_0f7a4.all (fun q => decide (decode cJ6_bitCount_0f7a4 q.1 = .ok q.2)) = true := by decide +kernel
abbrev cX0_takeBack : ByteArray := prog_2_method_10_code
def yX0_takeBack : MethodName := ⟨"PointAnswers$Bundle", "takeBack", "(I)I"⟩
abbrev wsX0_takeBack : List Cond := .code yX0_takeBack cX0_takeBack 3 (some .int) :: wT
def iX0_takeBack : List (Nat × Instr × Nat) := [(0, .aload_n 0, 1), (1, .iload_n 1, 1), (2, .invokevirtual 34, 3), (5, .astore_n 2, 1), (6, .aload_n 2, 1), (7, .ifnonnull 5, 3), (10, .iconst (-1), 1), (11, .ireturn, 1), (12, .aload_n 2, 1), (13, .getfield 54, 3), (16, .ifCond .eq 6, 3), (19, .bipush (-5), 2), (21, .ireturn, 1), (22, .aload_n 2, 1), (23, .iconst 1, 1), (24, .putfield 54, 3), (27, .aload_n 0, 1), (28, .invokevirtual 76, 3), (31, .invokestatic 80, 3), (34, .ireturn, 1)]
theorem dX0_takeBack : iX0_takeBack.all (fun q => decide (decode cX0_takeBack q.1 = .ok q.2)) = true := by decide +kernel
abbrev cX0_prolong : ByteArray := prog_2_method_11_code
def yX0_prolong : MethodName := ⟨"PointAnswers$Bundle", "prolong", "(I)I"⟩
abbrev wsX0_prolong : List Cond := .code yX0_prolong cX0_prolong 4 (some .int) :: wT
def iX0_prolong : List (Nat × Instr × Nat) := [(0, .aload_n 0, 1), (1, .iload_n 1, 1), (2, .invokevirtual 34, 3), (5, .astore_n 2, 1), (6, .aload_n 2, 1), (7, .ifnonnull 5, 3), (10, .iconst (-1), 1), (11, .ireturn, 1), (12, .aload_n 2, 1), (13, .getfield 67, 3), (16, .bipush (-6), 2), (18, .if_icmp .eq 10, 3), (21, .aload_n 2, 1), (22, .getfield 54, 3), (25, .ifCond .eq 6, 3), (28, .bipush (-5), 2), (30, .ireturn, 1), (31, .aload_n 0, 1), (32, .getfield 28, 3), (35, .aload_n 2, 1), (36, .getfield 73, 3), (39, .isub, 1), (40, .istore_n 3, 1), (41, .aload_n 2, 1), (42, .aload_n 0, 1), (43, .getfield 28, 3), (46, .putfield 73, 3), (49, .iload_n 3, 1), (50, .ireturn, 1)]
theorem dX0_prolong : iX0_prolong.all (fun q => decide (decode cX0_prolong q.1 = .ok q.2)) = true := by decide +kernel
abbrev cX0_turnCase : ByteArray := prog_2_method_12_code
def yX0_turnCase : MethodName := ⟨"PointAnswers$Bundle", "turnCase", "(I)I"⟩
abbrev wsX0_turnCase : List Cond := .code yX0_turnCase cX0_turnCase 2 (some .int) :: wT
def iX0_turnCase : List (Nat × Instr × Nat) := [(0, .iload_n 1, 1), (1, .ifCond .lt 9, 3), (4, .iload_n 1, 1), (5, .bipush 10, 2), (7, .if_icmp .lt 5, 3), (10, .iconst (-1), 1), (11, .ireturn, 1), (12, .aload_n 0, 1), (13, .dup, 1), (14, .getfield 31, 3), (17, .iconst 1, 1), (18, .iload_n 1, 1), (19, .ishl, 1), (20, .ixor, 1), (21, .putfield 31, 3), (24, .aload_n 0, 1), (25, .getfield 31, 3), (28, .iload_n 1, 1), (29, .invokestatic 86, 3), (32, .ifCond .eq 7, 3), (35, .iconst 1, 1), (36, .goto 4, 3), (39, .iconst 0, 1), (40, .ireturn, 1)]
theorem dX0_turnCase : iX0_turnCase.all (fun q => decide (decode cX0_turnCase q.1 = .ok q.2)) = true := by decide +kernel
abbrev cX0_moveOn : ByteArray := prog_2_method_13_code
def yX0_moveOn : MethodName := ⟨"PointAnswers$Bundle", "moveOn", "(I)I"⟩
abbrev wsX0_moveOn : List Cond := .code yX0_moveOn cX0_moveOn 2 (some .int) :: wT
def iX0_moveOn : List (Nat × Instr × Nat) := [(0, .iload_n 1, 1), (1, .iconst 1, 1), (2, .if_icmp .lt 9, 3), (5, .iload_n 1, 1), (6, .bipush 99, 2), (8, .if_icmp .le 6, 3), (11, .bipush (-2), 2), (13, .ireturn, 1), (14, .aload_n 0, 1), (15, .getfield 28, 3), (18, .iload_n 1, 1), (19, .iadd, 1), (20, .sipush 999, 3), (23, .if_icmp .le 6, 3), (26, .bipush (-5), 2), (28, .ireturn, 1), (29, .aload_n 0, 1), (30, .dup, 1), (31, .getfield 28, 3), (34, .iload_n 1, 1), (35, .iadd, 1), (36, .putfield 28, 3), (39, .aload_n 0, 1), (40, .invokevirtual 76, 3), (43, .invokestatic 80, 3), (46, .ireturn, 1)]
theorem dX0_moveOn : iX0_moveOn.all (fun q => decide (decode cX0_moveOn q.1 = .ok q.2)) = true := by decide +kernel
abbrev cX0_all : ByteArray := prog_2_method_14_code
def yX0_all : MethodName := ⟨"PointAnswers$Bundle", "all", "()I"⟩
abbrev wsX0_all : List Cond := .code yX0_all cX0_all 1 (some .int) :: wT
def iX0_all : List (Nat × Instr × Nat) := [(0, .iconst 1, 1), (1, .aload_n 0, 1), (2, .getfield 25, 3), (5, .ishl, 1), (6, .iconst 1, 1), (7, .isub, 1), (8, .ireturn, 1)]
theorem dX0_all : iX0_all.all (fun q => decide (decode cX0_all q.1 = .ok q.2)) = true := by decide +kernel
abbrev cX0_answersTo : ByteArray := prog_2_method_16_code
def yX0_answersTo : MethodName := ⟨"PointAnswers$Bundle", "answersTo", "(I)I"⟩
abbrev wsX0_answersTo : List Cond := .code yX0_answersTo cX0_answersTo 5 (some .int) :: wT
def iX0_answersTo : List (Nat × Instr × Nat) := [(0, .iconst 0, 1), (1, .istore_n 2, 1), (2, .iconst 0, 1), (3, .istore_n 3, 1), (4, .iload_n 3, 1), (5, .aload_n 0, 1), (6, .getfield 25, 3), (9, .if_icmp .ge 36, 3), (12, .aload_n 0, 1), (13, .iload_n 3, 1), (14, .invokevirtual 34, 3), (17, .astore 4, 2), (19, .aload 4, 2), (21, .ifnull 18, 3), (24, .aload 4, 2), (26, .getfield 67, 3), (29, .iload_n 1, 1), (30, .if_icmp .ne 9, 3), (33, .iload_n 2, 1), (34, .iconst 1, 1), (35, .iload_n 3, 1), (36, .ishl, 1), (37, .ior, 1), (38, .istore_n 2, 1), (39, .iinc 3 1, 3), (42, .goto (-38), 3), (45, .iload_n 2, 1), (46, .ireturn, 1)]
theorem dX0_answersTo : iX0_answersTo.all (fun q => decide (decode cX0_answersTo q.1 = .ok q.2)) = true := by decide +kernel
abbrev cX0_claims : ByteArray := prog_2_method_15_code
def yX0_claims : MethodName := ⟨"PointAnswers$Bundle", "claims", "()I"⟩
abbrev wsX0_claims : List Cond := .code yX0_claims cX0_claims 1 (some .int) :: wT
def iX0_claims : List (Nat × Instr × Nat) := [(0, .aload_n 0, 1), (1, .bipush (-6), 2), (3, .invokevirtual 89, 3), (6, .ireturn, 1)]
theorem dX0_claims : iX0_claims.all (fun q => decide (decode cX0_claims q.1 = .ok q.2)) = true := by decide +kernel
abbrev cX0_withoutAnswers : ByteArray := prog_2_method_17_code
def yX0_withoutAnswers : MethodName := ⟨"PointAnswers$Bundle", "withoutAnswers", "()I"⟩
abbrev wsX0_withoutAnswers : List Cond := .code yX0_withoutAnswers cX0_withoutAnswers 3 (some .int) :: wT
def iX0_withoutAnswers : List (Nat × Instr × Nat) := [(0, .aload_n 0, 1), (1, .invokevirtual 92, 3), (4, .istore_n 1, 1), (5, .iconst 0, 1), (6, .istore_n 2, 1), (7, .iload_n 2, 1), (8, .aload_n 0, 1), (9, .getfield 25, 3), (12, .if_icmp .ge 19, 3), (15, .iload_n 1, 1), (16, .aload_n 0, 1), (17, .iload_n 2, 1), (18, .invokevirtual 95, 3), (21, .iconst (-1), 1), (22, .ixor, 1), (23, .iand, 1), (24, .istore_n 1, 1), (25, .iinc 2 1, 3), (28, .goto (-21), 3), (31, .iload_n 1, 1), (32, .ireturn, 1)]
theorem dX0_withoutAnswers : iX0_withoutAnswers.all (fun q => decide (decode cX0_withoutAnswers q.1 = .ok q.2)) = true := by decide +kernel
abbrev cX0_ofSide : ByteArray := prog_2_method_19_code
def yX0_ofSide : MethodName := ⟨"PointAnswers$Bundle", "ofSide", "(I)I"⟩
abbrev wsX0_ofSide : List Cond := .code yX0_ofSide cX0_ofSide 5 (some .int) :: wT
def iX0_ofSide : List (Nat × Instr × Nat) := [(0, .iconst 0, 1), (1, .istore_n 2, 1), (2, .iconst 0, 1), (3, .istore_n 3, 1), (4, .iload_n 3, 1), (5, .aload_n 0, 1), (6, .getfield 25, 3), (9, .if_icmp .ge 36, 3), (12, .aload_n 0, 1), (13, .iload_n 3, 1), (14, .invokevirtual 34, 3), (17, .astore 4, 2), (19, .aload 4, 2), (21, .ifnull 18, 3), (24, .aload 4, 2), (26, .getfield 58, 3), (29, .iload_n 1, 1), (30, .if_icmp .ne 9, 3), (33, .iload_n 2, 1), (34, .iconst 1, 1), (35, .iload_n 3, 1), (36, .ishl, 1), (37, .ior, 1), (38, .istore_n 2, 1), (39, .iinc 3 1, 3), (42, .goto (-38), 3), (45, .iload_n 2, 1), (46, .ireturn, 1)]
theorem dX0_ofSide : iX0_ofSide.all (fun q => decide (decode cX0_ofSide q.1 = .ok q.2)) = true := by decide +kernel
abbrev cX0_answered : ByteArray := prog_2_method_26_code
def yX0_answered : MethodName := ⟨"PointAnswers$Bundle", "answered", "()I"⟩
abbrev wsX0_answered : List Cond := .code yX0_answered cX0_answered 1 (some .int) :: wT
def iX0_answered : List (Nat × Instr × Nat) := [(0, .aload_n 0, 1), (1, .invokevirtual 92, 3), (4, .aload_n 0, 1), (5, .invokevirtual 109, 3), (8, .iconst (-1), 1), (9, .ixor, 1), (10, .iand, 1), (11, .aload_n 0, 1), (12, .invokevirtual 76, 3), (15, .iconst (-1), 1), (16, .ixor, 1), (17, .iand, 1), (18, .ireturn, 1)]
theorem dX0_answered : iX0_answered.all (fun q => decide (decode cX0_answered q.1 = .ok q.2)) = true := by decide +kernel
abbrev cX0_reasonAgainst : ByteArray := prog_2_method_28_code
def yX0_reasonAgainst : MethodName := ⟨"PointAnswers$Bundle", "reasonAgainst", "(I)I"⟩
abbrev wsX0_reasonAgainst : List Cond := .code yX0_reasonAgainst cX0_reasonAgainst 2 (some .int) :: wT
def iX0_reasonAgainst : List (Nat × Instr × Nat) := [(0, .aload_n 0, 1), (1, .invokevirtual 98, 3), (4, .iload_n 1, 1), (5, .invokestatic 86, 3), (8, .ifCond .eq 5, 3), (11, .iconst 1, 1), (12, .ireturn, 1), (13, .aload_n 0, 1), (14, .invokevirtual 100, 3), (17, .iload_n 1, 1), (18, .invokestatic 86, 3), (21, .ifCond .eq 5, 3), (24, .iconst 2, 1), (25, .ireturn, 1), (26, .aload_n 0, 1), (27, .aload_n 0, 1), (28, .getfield 28, 3), (31, .invokevirtual 103, 3), (34, .iload_n 1, 1), (35, .invokestatic 86, 3), (38, .ifCond .eq 5, 3), (41, .iconst 3, 1), (42, .ireturn, 1), (43, .aload_n 0, 1), (44, .invokevirtual 106, 3), (47, .iload_n 1, 1), (48, .invokestatic 86, 3), (51, .ifCond .eq 5, 3), (54, .iconst 4, 1), (55, .ireturn, 1), (56, .aload_n 0, 1), (57, .invokevirtual 76, 3), (60, .iload_n 1, 1), (61, .invokestatic 86, 3), (64, .ifCond .eq 7, 3), (67, .iconst 0, 1), (68, .goto 4, 3), (71, .iconst 5, 1), (72, .ireturn, 1)]
theorem dX0_reasonAgainst : iX0_reasonAgainst.all (fun q => decide (decode cX0_reasonAgainst q.1 = .ok q.2)) = true := by decide +kernel
abbrev cX0_depthOf : ByteArray := prog_2_method_29_code
def yX0_depthOf : MethodName := ⟨"PointAnswers$Bundle", "depthOf", "(I)I"⟩
abbrev wsX0_depthOf : List Cond := .code yX0_depthOf cX0_depthOf 4 (some .int) :: wT
def iX0_depthOf : List (Nat × Instr × Nat) := [(0, .iconst 0, 1), (1, .istore_n 2, 1), (2, .aload_n 0, 1), (3, .iload_n 1, 1), (4, .invokevirtual 34, 3), (7, .astore_n 3, 1), (8, .iload_n 2, 1), (9, .bipush 24, 2), (11, .if_icmp .ge 31, 3), (14, .aload_n 3, 1), (15, .ifnull 27, 3), (18, .aload_n 3, 1), (19, .getfield 67, 3), (22, .bipush (-6), 2), (24, .if_icmp .eq 18, 3), (27, .iinc 2 1, 3), (30, .aload_n 0, 1), (31, .aload_n 3, 1), (32, .getfield 67, 3), (35, .invokevirtual 34, 3), (38, .astore_n 3, 1), (39, .goto (-31), 3), (42, .iload_n 2, 1), (43, .ireturn, 1)]
theorem dX0_depthOf : iX0_depthOf.all (fun q => decide (decode cX0_depthOf q.1 = .ok q.2)) = true := by decide +kernel
abbrev cX0_daysLeft : ByteArray := prog_2_method_30_code
def yX0_daysLeft : MethodName := ⟨"PointAnswers$Bundle", "daysLeft", "(LPointAnswers$Point;)I"⟩
abbrev wsX0_daysLeft : List Cond := .code yX0_daysLeft cX0_daysLeft 3 (some .int) :: wT
def iX0_daysLeft : List (Nat × Instr × Nat) := [(0, .aload_n 1, 1), (1, .getfield 73, 3), (4, .aload_n 0, 1), (5, .getfield 17, 3), (8, .iadd, 1), (9, .aload_n 0, 1), (10, .getfield 28, 3), (13, .isub, 1), (14, .istore_n 2, 1), (15, .aload_n 1, 1), (16, .getfield 67, 3), (19, .bipush (-6), 2), (21, .if_icmp .eq 7, 3), (24, .iload_n 2, 1), (25, .ifCond .ge 8, 3), (28, .bipush (-6), 2), (30, .goto 4, 3), (33, .iload_n 2, 1), (34, .ireturn, 1)]
theorem dX0_daysLeft : iX0_daysLeft.all (fun q => decide (decode cX0_daysLeft q.1 = .ok q.2)) = true := by decide +kernel
abbrev cX0_pagesOf : ByteArray := prog_2_method_31_code
def yX0_pagesOf : MethodName := ⟨"PointAnswers$Bundle", "pagesOf", "(II)I"⟩
abbrev wsX0_pagesOf : List Cond := .code yX0_pagesOf cX0_pagesOf 6 (some .int) :: wT
def iX0_pagesOf : List (Nat × Instr × Nat) := [(0, .iconst 0, 1), (1, .istore_n 3, 1), (2, .iconst 0, 1), (3, .istore 4, 2), (5, .iload 4, 2), (7, .aload_n 0, 1), (8, .getfield 25, 3), (11, .if_icmp .ge 48, 3), (14, .aload_n 0, 1), (15, .iload 4, 2), (17, .invokevirtual 34, 3), (20, .astore 5, 2), (22, .aload 5, 2), (24, .ifnull 29, 3), (27, .aload 5, 2), (29, .getfield 58, 3), (32, .iload_n 1, 1), (33, .if_icmp .ne 20, 3), (36, .iload_n 2, 1), (37, .iload 4, 2), (39, .invokestatic 86, 3), (42, .ifCond .ne 11, 3), (45, .iload_n 3, 1), (46, .aload 5, 2), (48, .getfield 61, 3), (51, .iadd, 1), (52, .istore_n 3, 1), (53, .iinc 4 1, 3), (56, .goto (-51), 3), (59, .iload_n 3, 1), (60, .ireturn, 1)]
theorem dX0_pagesOf : iX0_pagesOf.all (fun q => decide (decode cX0_pagesOf q.1 = .ok q.2)) = true := by decide +kernel
abbrev cX1_init : ByteArray := prog_3_method_1_code
def yX1_init : MethodName := ⟨"PointAnswers$Costs", "<init>", "()V"⟩
abbrev wsX1_init : List Cond := .code yX1_init cX1_init 1 none :: wT
def iX1_init : List (Nat × Instr × Nat) := [(0, .aload_n 0, 1), (1, .invokespecial 3, 3), (4, .aload_n 0, 1), (5, .bipush 24, 2), (7, .newarray .int, 2), (9, .putfield 9, 3), (12, .aload_n 0, 1), (13, .bipush 24, 2), (15, .newarray .int, 2), (17, .putfield 15, 3), (20, .return_, 1)]
theorem dX1_init : iX1_init.all (fun q => decide (decode cX1_init q.1 = .ok q.2)) = true := by decide +kernel
abbrev cX1_addToTarget : ByteArray := prog_3_method_3_code
def yX1_addToTarget : MethodName := ⟨"PointAnswers$Costs", "addToTarget", "(III)V"⟩
abbrev wsX1_addToTarget : List Cond := .code yX1_addToTarget cX1_addToTarget 4 none :: wT
def iX1_addToTarget : List (Nat × Instr × Nat) := [(0, .iload_n 1, 1), (1, .ifCond .lt 57, 3), (4, .iload_n 1, 1), (5, .aload_n 0, 1), (6, .getfield 9, 3), (9, .arraylength, 1), (10, .if_icmp .ge 48, 3), (13, .iload_n 1, 1), (14, .aload_n 0, 1), (15, .getfield 15, 3), (18, .arraylength, 1), (19, .if_icmp .ge 39, 3), (22, .aload_n 0, 1), (23, .getfield 9, 3), (26, .iload_n 1, 1), (27, .aload_n 0, 1), (28, .getfield 9, 3), (31, .iload_n 1, 1), (32, .iaload, 1), (33, .iload_n 3, 1), (34, .invokestatic 27, 3), (37, .iastore, 1), (38, .aload_n 0, 1), (39, .getfield 15, 3), (42, .iload_n 1, 1), (43, .sipush 1000, 3), (46, .aload_n 0, 1), (47, .getfield 15, 3), (50, .iload_n 1, 1), (51, .iaload, 1), (52, .iload_n 2, 1), (53, .iadd, 1), (54, .invokestatic 27, 3), (57, .iastore, 1), (58, .return_, 1)]
theorem dX1_addToTarget : iX1_addToTarget.all (fun q => decide (decode cX1_addToTarget q.1 = .ok q.2)) = true := by decide +kernel
abbrev cX1_weigh : ByteArray := prog_3_method_2_code
def yX1_weigh : MethodName := ⟨"PointAnswers$Costs", "weigh", "(LPointAnswers$Bundle;)V"⟩
abbrev wsX1_weigh : List Cond := .code yX1_weigh cX1_weigh 7 none :: wT
def iX1_weigh : List (Nat × Instr × Nat) := [(0, .aload_n 1, 1), (1, .invokevirtual 18, 3), (4, .istore_n 2, 1), (5, .aload_n 1, 1), (6, .invokevirtual 24, 3), (9, .istore_n 3, 1), (10, .aload_n 0, 1), (11, .getfield 9, 3), (14, .arraylength, 1), (15, .aload_n 0, 1), (16, .getfield 15, 3), (19, .arraylength, 1), (20, .invokestatic 27, 3), (23, .istore 4, 2), (25, .iconst 0, 1), (26, .istore 5, 2), (28, .iload 5, 2), (30, .iload 4, 2), (32, .if_icmp .ge 27, 3), (35, .aload_n 0, 1), (36, .getfield 9, 3), (39, .iload 5, 2), (41, .sipush 1000, 3), (44, .iastore, 1), (45, .aload_n 0, 1), (46, .getfield 15, 3), (49, .iload 5, 2), (51, .iconst 0, 1), (52, .iastore, 1), (53, .iinc 5 1, 3), (56, .goto (-28), 3), (59, .iload 4, 2), (61, .iconst 1, 1), (62, .isub, 1), (63, .istore 5, 2), (65, .iload 5, 2), (67, .ifCond .lt 95, 3), (70, .aload_n 1, 1), (71, .iload 5, 2), (73, .invokevirtual 33, 3), (76, .astore 6, 2), (78, .aload 6, 2), (80, .ifnonnull 6, 3), (83, .goto 73, 3), (86, .iload_n 2, 1), (87, .iload 5, 2), (89, .invokestatic 37, 3), (92, .ifCond .eq 24, 3), (95, .aload_n 0, 1), (96, .getfield 9, 3), (99, .iload 5, 2), (101, .iconst 0, 1), (102, .iastore, 1), (103, .aload_n 0, 1), (104, .getfield 15, 3), (107, .iload 5, 2), (109, .sipush 1000, 3), (112, .iastore, 1), (113, .goto 20, 3), (116, .iload_n 3, 1), (117, .iload 5, 2), (119, .invokestatic 37, 3), (122, .ifCond .eq 11, 3), (125, .aload_n 0, 1), (126, .getfield 9, 3), (129, .iload 5, 2), (131, .iconst 1, 1), (132, .iastore, 1), (133, .aload_n 0, 1), (134, .aload 6, 2), (136, .getfield 41, 3), (139, .aload_n 0, 1), (140, .getfield 9, 3), (143, .iload 5, 2), (145, .iaload, 1), (146, .aload_n 0, 1), (147, .getfield 15, 3), (150, .iload 5, 2), (152, .iaload, 1), (153, .invokevirtual 47, 3), (156, .iinc 5 (-1), 3), (159, .goto (-94), 3), (162, .return_, 1)]
theorem dX1_weigh : iX1_weigh.all (fun q => decide (decode cX1_weigh q.1 = .ok q.2)) = true := by decide +kernel
abbrev cX1_reachable : ByteArray := prog_3_method_6_code
def yX1_reachable : MethodName := ⟨"PointAnswers$Costs", "reachable", "(I)I"⟩
abbrev wsX1_reachable : List Cond := .code yX1_reachable cX1_reachable 1 (some .int) :: wT
def iX1_reachable : List (Nat × Instr × Nat) := [(0, .iload_n 0, 1), (1, .sipush 1000, 3), (4, .if_icmp .lt 8, 3), (7, .bipush (-6), 2), (9, .goto 4, 3), (12, .iload_n 0, 1), (13, .ireturn, 1)]
theorem dX1_reachable : iX1_reachable.all (fun q => decide (decode cX1_reachable q.1 = .ok q.2)) = true := by decide +kernel
abbrev cX1_answersToFall : ByteArray := prog_3_method_4_code
def yX1_answersToFall : MethodName := ⟨"PointAnswers$Costs", "answersToFall", "(I)I"⟩
abbrev wsX1_answersToFall : List Cond := .code yX1_answersToFall cX1_answersToFall 2 (some .int) :: wT
def iX1_answersToFall : List (Nat × Instr × Nat) := [(0, .iload_n 1, 1), (1, .ifCond .lt 21, 3), (4, .iload_n 1, 1), (5, .aload_n 0, 1), (6, .getfield 9, 3), (9, .arraylength, 1), (10, .if_icmp .ge 12, 3), (13, .aload_n 0, 1), (14, .getfield 9, 3), (17, .iload_n 1, 1), (18, .iaload, 1), (19, .goto 6, 3), (22, .sipush 1000, 3), (25, .invokestatic 51, 3), (28, .ireturn, 1)]
theorem dX1_answersToFall : iX1_answersToFall.all (fun q => decide (decode cX1_answersToFall q.1 = .ok q.2)) = true := by decide +kernel
abbrev cX1_answersToStand : ByteArray := prog_3_method_5_code
def yX1_answersToStand : MethodName := ⟨"PointAnswers$Costs", "answersToStand", "(I)I"⟩
abbrev wsX1_answersToStand : List Cond := .code yX1_answersToStand cX1_answersToStand 2 (some .int) :: wT
def iX1_answersToStand : List (Nat × Instr × Nat) := [(0, .iload_n 1, 1), (1, .ifCond .lt 21, 3), (4, .iload_n 1, 1), (5, .aload_n 0, 1), (6, .getfield 15, 3), (9, .arraylength, 1), (10, .if_icmp .ge 12, 3), (13, .aload_n 0, 1), (14, .getfield 15, 3), (17, .iload_n 1, 1), (18, .iaload, 1), (19, .goto 6, 3), (22, .sipush 1000, 3), (25, .invokestatic 51, 3), (28, .ireturn, 1)]
theorem dX1_answersToStand : iX1_answersToStand.all (fun q => decide (decode cX1_answersToStand q.1 = .ok q.2)) = true := by decide +kernel
abbrev cX2_init : ByteArray := prog_4_method_1_code
def yX2_init : MethodName := ⟨"PointAnswers$History", "<init>", "()V"⟩
abbrev wsX2_init : List Cond := .code yX2_init cX2_init 2 none :: wT
def iX2_init : List (Nat × Instr × Nat) := [(0, .aload_n 0, 1), (1, .invokespecial 3, 3), (4, .aload_n 0, 1), (5, .bipush 7, 2), (7, .anewarray 9, 3), (10, .putfield 11, 3), (13, .iconst 0, 1), (14, .istore_n 1, 1), (15, .iload_n 1, 1), (16, .aload_n 0, 1), (17, .getfield 11, 3), (20, .arraylength, 1), (21, .if_icmp .ge 22, 3), (24, .aload_n 0, 1), (25, .getfield 11, 3), (28, .iload_n 1, 1), (29, .new 9, 3), (32, .dup, 1), (33, .invokespecial 17, 3), (36, .aastore, 1), (37, .iinc 1 1, 3), (40, .goto (-25), 3), (43, .return_, 1)]
theorem dX2_init : iX2_init.all (fun q => decide (decode cX2_init q.1 = .ok q.2)) = true := by decide +kernel
abbrev cX2_rowAt : ByteArray := prog_4_method_2_code
def yX2_rowAt : MethodName := ⟨"PointAnswers$History", "rowAt", "(I)LPointAnswers$Bundle;"⟩
abbrev wsX2_rowAt : List Cond := .code yX2_rowAt cX2_rowAt 2 (some (.object "PointAnswers$Bundle")) :: wT
def iX2_rowAt : List (Nat × Instr × Nat) := [(0, .iload_n 1, 1), (1, .ifCond .lt 21, 3), (4, .iload_n 1, 1), (5, .aload_n 0, 1), (6, .getfield 11, 3), (9, .arraylength, 1), (10, .if_icmp .ge 12, 3), (13, .aload_n 0, 1), (14, .getfield 11, 3), (17, .iload_n 1, 1), (18, .aaload, 1), (19, .goto 4, 3), (22, .aconst_null, 1), (23, .areturn, 1)]
theorem dX2_rowAt : iX2_rowAt.all (fun q => decide (decode cX2_rowAt q.1 = .ok q.2)) = true := by decide +kernel
abbrev cX2_prepare : ByteArray := prog_4_method_3_code
def yX2_prepare : MethodName := ⟨"PointAnswers$History", "prepare", "(LPointAnswers$Bundle;)V"⟩
abbrev wsX2_prepare : List Cond := .code yX2_prepare cX2_prepare 3 none :: wT
def iX2_prepare : List (Nat × Instr × Nat) := [(0, .aload_n 0, 1), (1, .aload_n 0, 1), (2, .getfield 18, 3), (5, .invokevirtual 22, 3), (8, .astore_n 2, 1), (9, .aload_n 2, 1), (10, .ifnull 8, 3), (13, .aload_n 2, 1), (14, .aload_n 1, 1), (15, .invokevirtual 26, 3), (18, .return_, 1)]
theorem dX2_prepare : iX2_prepare.all (fun q => decide (decode cX2_prepare q.1 = .ok q.2)) = true := by decide +kernel
abbrev cX2_dropOldest : ByteArray := prog_4_method_5_code
def yX2_dropOldest : MethodName := ⟨"PointAnswers$History", "dropOldest", "()V"⟩
abbrev wsX2_dropOldest : List Cond := .code yX2_dropOldest cX2_dropOldest 3 none :: wT
def iX2_dropOldest : List (Nat × Instr × Nat) := [(0, .aload_n 0, 1), (1, .iconst 0, 1), (2, .invokevirtual 22, 3), (5, .astore_n 1, 1), (6, .iconst 0, 1), (7, .istore_n 2, 1), (8, .iload_n 2, 1), (9, .iconst 1, 1), (10, .iadd, 1), (11, .aload_n 0, 1), (12, .getfield 11, 3), (15, .arraylength, 1), (16, .if_icmp .ge 32, 3), (19, .aload_n 0, 1), (20, .getfield 11, 3), (23, .iload_n 2, 1), (24, .aload_n 0, 1), (25, .getfield 11, 3), (28, .iload_n 2, 1), (29, .iconst 1, 1), (30, .iadd, 1), (31, .aaload, 1), (32, .aastore, 1), (33, .aload_n 0, 1), (34, .getfield 11, 3), (37, .iload_n 2, 1), (38, .iconst 1, 1), (39, .iadd, 1), (40, .aload_n 1, 1), (41, .aastore, 1), (42, .iinc 2 1, 3), (45, .goto (-37), 3), (48, .return_, 1)]
theorem dX2_dropOldest : iX2_dropOldest.all (fun q => decide (decode cX2_dropOldest q.1 = .ok q.2)) = true := by decide +kernel
abbrev cX2_settle : ByteArray := prog_4_method_4_code
def yX2_settle : MethodName := ⟨"PointAnswers$History", "settle", "(I)I"⟩
abbrev wsX2_settle : List Cond := .code yX2_settle cX2_settle 2 (some .int) :: wT
def iX2_settle : List (Nat × Instr × Nat) := [(0, .iload_n 1, 1), (1, .ifCond .lt 29, 3), (4, .aload_n 0, 1), (5, .getfield 18, 3), (8, .bipush 6, 2), (10, .if_icmp .ge 16, 3), (13, .aload_n 0, 1), (14, .dup, 1), (15, .getfield 18, 3), (18, .iconst 1, 1), (19, .iadd, 1), (20, .putfield 18, 3), (23, .goto 7, 3), (26, .aload_n 0, 1), (27, .invokevirtual 30, 3), (30, .iload_n 1, 1), (31, .ireturn, 1)]
theorem dX2_settle : iX2_settle.all (fun q => decide (decode cX2_settle q.1 = .ok q.2)) = true := by decide +kernel
abbrev cX3_init : ByteArray := prog_5_method_1_code
def yX3_init : MethodName := ⟨"PointAnswers$Pad", "<init>", "()V"⟩
abbrev wsX3_init : List Cond := .code yX3_init cX3_init 1 none :: wT
def iX3_init : List (Nat × Instr × Nat) := [(0, .aload_n 0, 1), (1, .invokespecial 3, 3), (4, .aload_n 0, 1), (5, .bipush 80, 2), (7, .newarray .char, 2), (9, .putfield 9, 3), (12, .return_, 1)]
theorem dX3_init : iX3_init.all (fun q => decide (decode cX3_init q.1 = .ok q.2)) = true := by decide +kernel
abbrev cX5_init : ByteArray := prog_7_method_1_code
def yX5_init : MethodName := ⟨"PointAnswers$Reader", "<init>", "()V"⟩
abbrev wsX5_init : List Cond := .code yX5_init cX5_init 1 none :: wT
def iX5_init : List (Nat × Instr × Nat) := [(0, .aload_n 0, 1), (1, .invokespecial 3, 3), (4, .return_, 1)]
theorem dX5_init : iX5_init.all (fun q => decide (decode cX5_init q.1 = .ok q.2)) = true := by decide +kernel
abbrev cX6_init : ByteArray := prog_1_method_1_code
def yX6_init : MethodName := ⟨"PointAnswers", "<init>", "()V"⟩
abbrev wsX6_init : List Cond := .code yX6_init cX6_init 2 none :: wT
def iX6_init : List (Nat × Instr × Nat) := [(0, .aload_n 0, 1), (1, .invokespecial 3, 3), (4, .aload_n 0, 1), (5, .new 9, 3), (8, .dup, 1), (9, .invokespecial 11, 3), (12, .putfield 12, 3), (15, .aload_n 0, 1), (16, .new 16, 3), (19, .dup, 1), (20, .invokespecial 18, 3), (23, .putfield 19, 3), (26, .aload_n 0, 1), (27, .new 23, 3), (30, .dup, 1), (31, .invokespecial 25, 3), (34, .putfield 26, 3), (37, .aload_n 0, 1), (38, .new 30, 3), (41, .dup, 1), (42, .invokespecial 32, 3), (45, .putfield 33, 3), (48, .aload_n 0, 1), (49, .new 37, 3), (52, .dup, 1), (53, .invokespecial 39, 3), (56, .putfield 40, 3), (59, .aload_n 0, 1), (60, .iconst 2, 1), (61, .anewarray 9, 3), (64, .putfield 44, 3), (67, .iconst 0, 1), (68, .istore_n 1, 1), (69, .iload_n 1, 1), (70, .aload_n 0, 1), (71, .getfield 44, 3), (74, .arraylength, 1), (75, .if_icmp .ge 22, 3), (78, .aload_n 0, 1), (79, .getfield 44, 3), (82, .iload_n 1, 1), (83, .new 9, 3), (86, .dup, 1), (87, .invokespecial 11, 3), (90, .aastore, 1), (91, .iinc 1 1, 3), (94, .goto (-25), 3), (97, .return_, 1)]
theorem dX6_init : iX6_init.all (fun q => decide (decode cX6_init q.1 = .ok q.2)) = true := by decide +kernel
abbrev cX6_set : ByteArray := prog_1_method_2_code
def yX6_set : MethodName := ⟨"PointAnswers", "set", "(II)I"⟩
abbrev wsX6_set : List Cond := .code yX6_set cX6_set 3 (some .int) :: wT
def iX6_set : List (Nat × Instr × Nat) := [(0, .aload_n 0, 1), (1, .getfield 40, 3), (4, .aload_n 0, 1), (5, .getfield 12, 3), (8, .invokevirtual 48, 3), (11, .aload_n 0, 1), (12, .getfield 40, 3), (15, .aload_n 0, 1), (16, .getfield 12, 3), (19, .iload_n 1, 1), (20, .iload_n 2, 1), (21, .invokevirtual 52, 3), (24, .invokevirtual 56, 3), (27, .ireturn, 1)]
theorem dX6_set : iX6_set.all (fun q => decide (decode cX6_set q.1 = .ok q.2)) = true := by decide +kernel
abbrev cX6_claim : ByteArray := prog_1_method_3_code
def yX6_claim : MethodName := ⟨"PointAnswers", "claim", "(III)I"⟩
abbrev wsX6_claim : List Cond := .code yX6_claim cX6_claim 4 (some .int) :: wT
def iX6_claim : List (Nat × Instr × Nat) := [(0, .aload_n 0, 1), (1, .getfield 40, 3), (4, .aload_n 0, 1), (5, .getfield 12, 3), (8, .invokevirtual 48, 3), (11, .aload_n 0, 1), (12, .getfield 40, 3), (15, .aload_n 0, 1), (16, .getfield 12, 3), (19, .iload_n 1, 1), (20, .iload_n 2, 1), (21, .iload_n 3, 1), (22, .invokevirtual 60, 3), (25, .invokevirtual 56, 3), (28, .ireturn, 1)]
theorem dX6_claim : iX6_claim.all (fun q => decide (decode cX6_claim q.1 = .ok q.2)) = true := by decide +kernel
abbrev cX6_answer : ByteArray := prog_1_method_4_code
def yX6_answer : MethodName := ⟨"PointAnswers", "answer", "(III)I"⟩
abbrev wsX6_answer : List Cond := .code yX6_answer cX6_answer 4 (some .int) :: wT
def iX6_answer : List (Nat × Instr × Nat) := [(0, .aload_n 0, 1), (1, .getfield 40, 3), (4, .aload_n 0, 1), (5, .getfield 12, 3), (8, .invokevirtual 48, 3), (11, .aload_n 0, 1), (12, .getfield 40, 3), (15, .aload_n 0, 1), (16, .getfield 12, 3), (19, .iload_n 1, 1), (20, .iload_n 2, 1), (21, .iload_n 3, 1), (22, .invokevirtual 64, 3), (25, .invokevirtual 56, 3), (28, .ireturn, 1)]
theorem dX6_answer : iX6_answer.all (fun q => decide (decode cX6_answer q.1 = .ok q.2)) = true := by decide +kernel
abbrev cX6_withdraw : ByteArray := prog_1_method_5_code
def yX6_withdraw : MethodName := ⟨"PointAnswers", "withdraw", "(I)I"⟩
abbrev wsX6_withdraw : List Cond := .code yX6_withdraw cX6_withdraw 2 (some .int) :: wT
def iX6_withdraw : List (Nat × Instr × Nat) := [(0, .aload_n 0, 1), (1, .getfield 40, 3), (4, .aload_n 0, 1), (5, .getfield 12, 3), (8, .invokevirtual 48, 3), (11, .aload_n 0, 1), (12, .getfield 40, 3), (15, .aload_n 0, 1), (16, .getfield 12, 3), (19, .iload_n 1, 1), (20, .invokevirtual 67, 3), (23, .invokevirtual 56, 3), (26, .ireturn, 1)]
theorem dX6_withdraw : iX6_withdraw.all (fun q => decide (decode cX6_withdraw q.1 = .ok q.2)) = true := by decide +kernel
abbrev cX6_renew : ByteArray := prog_1_method_6_code
def yX6_renew : MethodName := ⟨"PointAnswers", "renew", "(I)I"⟩
abbrev wsX6_renew : List Cond := .code yX6_renew cX6_renew 2 (some .int) :: wT
def iX6_renew : List (Nat × Instr × Nat) := [(0, .aload_n 0, 1), (1, .getfield 40, 3), (4, .aload_n 0, 1), (5, .getfield 12, 3), (8, .invokevirtual 48, 3), (11, .aload_n 0, 1), (12, .getfield 40, 3), (15, .aload_n 0, 1), (16, .getfield 12, 3), (19, .iload_n 1, 1), (20, .invokevirtual 70, 3), (23, .invokevirtual 56, 3), (26, .ireturn, 1)]
theorem dX6_renew : iX6_renew.all (fun q => decide (decode cX6_renew q.1 = .ok q.2)) = true := by decide +kernel
abbrev cX6_overrule : ByteArray := prog_1_method_7_code
def yX6_overrule : MethodName := ⟨"PointAnswers", "overrule", "(I)I"⟩
abbrev wsX6_overrule : List Cond := .code yX6_overrule cX6_overrule 2 (some .int) :: wT
def iX6_overrule : List (Nat × Instr × Nat) := [(0, .aload_n 0, 1), (1, .getfield 40, 3), (4, .aload_n 0, 1), (5, .getfield 12, 3), (8, .invokevirtual 48, 3), (11, .aload_n 0, 1), (12, .getfield 40, 3), (15, .aload_n 0, 1), (16, .getfield 12, 3), (19, .iload_n 1, 1), (20, .invokevirtual 73, 3), (23, .invokevirtual 56, 3), (26, .ireturn, 1)]
theorem dX6_overrule : iX6_overrule.all (fun q => decide (decode cX6_overrule q.1 = .ok q.2)) = true := by decide +kernel
abbrev cX6_pass : ByteArray := prog_1_method_8_code
def yX6_pass : MethodName := ⟨"PointAnswers", "pass", "(I)I"⟩
abbrev wsX6_pass : List Cond := .code yX6_pass cX6_pass 2 (some .int) :: wT
def iX6_pass : List (Nat × Instr × Nat) := [(0, .aload_n 0, 1), (1, .getfield 40, 3), (4, .aload_n 0, 1), (5, .getfield 12, 3), (8, .invokevirtual 48, 3), (11, .aload_n 0, 1), (12, .getfield 40, 3), (15, .aload_n 0, 1), (16, .getfield 12, 3), (19, .iload_n 1, 1), (20, .invokevirtual 76, 3), (23, .invokevirtual 56, 3), (26, .ireturn, 1)]
theorem dX6_pass : iX6_pass.all (fun q => decide (decode cX6_pass q.1 = .ok q.2)) = true := by decide +kernel
abbrev cX6_lowestOf : ByteArray := prog_1_method_28_code
def yX6_lowestOf : MethodName := ⟨"PointAnswers", "lowestOf", "(I)I"⟩
abbrev wsX6_lowestOf : List Cond := .code yX6_lowestOf cX6_lowestOf 2 (some .int) :: wT
def iX6_lowestOf : List (Nat × Instr × Nat) := [(0, .iconst 0, 1), (1, .istore_n 1, 1), (2, .iload_n 1, 1), (3, .bipush 24, 2), (5, .if_icmp .ge 19, 3), (8, .iload_n 0, 1), (9, .iload_n 1, 1), (10, .invokestatic 105, 3), (13, .ifCond .eq 5, 3), (16, .iload_n 1, 1), (17, .ireturn, 1), (18, .iinc 1 1, 3), (21, .goto (-19), 3), (24, .bipush (-6), 2), (26, .ireturn, 1)]
theorem dX6_lowestOf : iX6_lowestOf.all (fun q => decide (decode cX6_lowestOf q.1 = .ok q.2)) = true := by decide +kernel
abbrev cX6_of : ByteArray := prog_1_method_9_code
def yX6_of : MethodName := ⟨"PointAnswers", "of", "(II)I"⟩
abbrev wsX6_of : List Cond := .code yX6_of cX6_of 4 (some .int) :: wT
def iX6_of : List (Nat × Instr × Nat) := [(0, .aload_n 0, 1), (1, .getfield 12, 3), (4, .iload_n 1, 1), (5, .invokevirtual 79, 3), (8, .astore_n 3, 1), (9, .aload_n 3, 1), (10, .ifnonnull 5, 3), (13, .iconst (-1), 1), (14, .ireturn, 1), (15, .iload_n 2, 1), (16, .tableswitch 161 0 10 #[60, 65, 70, 75, 80, 85, 105, 114, 134, 143, 152], 60), (76, .aload_n 3, 1), (77, .getfield 83, 3), (80, .ireturn, 1), (81, .aload_n 3, 1), (82, .getfield 89, 3), (85, .ireturn, 1), (86, .aload_n 3, 1), (87, .getfield 92, 3), (90, .ireturn, 1), (91, .aload_n 3, 1), (92, .getfield 95, 3), (95, .ireturn, 1), (96, .aload_n 3, 1), (97, .getfield 98, 3), (100, .ireturn, 1), (101, .aload_n 0, 1), (102, .getfield 12, 3), (105, .invokevirtual 101, 3), (108, .iload_n 1, 1), (109, .invokestatic 105, 3), (112, .ifCond .eq 7, 3), (115, .iconst 1, 1), (116, .goto 4, 3), (119, .iconst 0, 1), (120, .ireturn, 1), (121, .aload_n 0, 1), (122, .getfield 12, 3), (125, .iload_n 1, 1), (126, .invokevirtual 109, 3), (129, .ireturn, 1), (130, .aload_n 0, 1), (131, .getfield 12, 3), (134, .iload_n 1, 1), (135, .invokevirtual 112, 3), (138, .aload_n 0, 1), (139, .getfield 12, 3), (142, .invokevirtual 101, 3), (145, .iand, 1), (146, .invokestatic 115, 3), (149, .ireturn, 1), (150, .aload_n 0, 1), (151, .getfield 12, 3), (154, .iload_n 1, 1), (155, .invokevirtual 112, 3), (158, .ireturn, 1), (159, .aload_n 0, 1), (160, .getfield 12, 3), (163, .iload_n 1, 1), (164, .invokevirtual 118, 3), (167, .ireturn, 1), (168, .aload_n 0, 1), (169, .getfield 12, 3), (172, .aload_n 3, 1), (173, .invokevirtual 121, 3), (176, .ireturn, 1), (177, .bipush (-2), 2), (179, .ireturn, 1)]
theorem dX6_of : iX6_of.all (fun q => decide (decode cX6_of q.1 = .ok q.2)) = true := by decide +kernel
abbrev cX6_count : ByteArray := prog_1_method_10_code
def yX6_count : MethodName := ⟨"PointAnswers", "count", "(I)I"⟩
abbrev wsX6_count : List Cond := .code yX6_count cX6_count 2 (some .int) :: wT
def iX6_count : List (Nat × Instr × Nat) := [(0, .iload_n 1, 1), (1, .tableswitch 238 0 13 #[71, 79, 87, 98, 109, 128, 139, 150, 174, 198, 206, 214, 222, 230], 71), (72, .aload_n 0, 1), (73, .getfield 12, 3), (76, .getfield 125, 3), (79, .ireturn, 1), (80, .aload_n 0, 1), (81, .getfield 12, 3), (84, .getfield 128, 3), (87, .ireturn, 1), (88, .aload_n 0, 1), (89, .getfield 12, 3), (92, .invokevirtual 131, 3), (95, .invokestatic 134, 3), (98, .ireturn, 1), (99, .aload_n 0, 1), (100, .getfield 12, 3), (103, .invokevirtual 101, 3), (106, .invokestatic 134, 3), (109, .ireturn, 1), (110, .aload_n 0, 1), (111, .getfield 12, 3), (114, .invokevirtual 131, 3), (117, .aload_n 0, 1), (118, .getfield 12, 3), (121, .invokevirtual 101, 3), (124, .iand, 1), (125, .invokestatic 134, 3), (128, .ireturn, 1), (129, .aload_n 0, 1), (130, .getfield 12, 3), (133, .invokevirtual 139, 3), (136, .invokestatic 134, 3), (139, .ireturn, 1), (140, .aload_n 0, 1), (141, .getfield 12, 3), (144, .invokevirtual 142, 3), (147, .invokestatic 134, 3), (150, .ireturn, 1), (151, .aload_n 0, 1), (152, .getfield 12, 3), (155, .iconst 0, 1), (156, .aload_n 0, 1), (157, .getfield 12, 3), (160, .invokevirtual 145, 3), (163, .aload_n 0, 1), (164, .getfield 12, 3), (167, .invokevirtual 148, 3), (170, .ior, 1), (171, .invokevirtual 151, 3), (174, .ireturn, 1), (175, .aload_n 0, 1), (176, .getfield 12, 3), (179, .iconst 1, 1), (180, .aload_n 0, 1), (181, .getfield 12, 3), (184, .invokevirtual 145, 3), (187, .aload_n 0, 1), (188, .getfield 12, 3), (191, .invokevirtual 148, 3), (194, .ior, 1), (195, .invokevirtual 151, 3), (198, .ireturn, 1), (199, .aload_n 0, 1), (200, .getfield 12, 3), (203, .getfield 154, 3), (206, .ireturn, 1), (207, .aload_n 0, 1), (208, .getfield 12, 3), (211, .getfield 157, 3), (214, .ireturn, 1), (215, .aload_n 0, 1), (216, .getfield 12, 3), (219, .getfield 160, 3), (222, .ireturn, 1), (223, .aload_n 0, 1), (224, .getfield 26, 3), (227, .getfield 163, 3), (230, .ireturn, 1), (231, .aload_n 0, 1), (232, .getfield 40, 3), (235, .getfield 166, 3), (238, .ireturn, 1), (239, .bipush (-2), 2), (241, .ireturn, 1)]
theorem dX6_count : iX6_count.all (fun q => decide (decode cX6_count q.1 = .ok q.2)) = true := by decide +kernel
abbrev cX6_points : ByteArray := prog_1_method_11_code
def yX6_points : MethodName := ⟨"PointAnswers", "points", "(I)I"⟩
abbrev wsX6_points : List Cond := .code yX6_points cX6_points 2 (some .int) :: wT
def iX6_points : List (Nat × Instr × Nat) := [(0, .iload_n 1, 1), (1, .tableswitch 97 0 5 #[39, 47, 63, 71, 79, 88], 39), (40, .aload_n 0, 1), (41, .getfield 12, 3), (44, .invokevirtual 101, 3), (47, .ireturn, 1), (48, .aload_n 0, 1), (49, .getfield 12, 3), (52, .invokevirtual 131, 3), (55, .aload_n 0, 1), (56, .getfield 12, 3), (59, .invokevirtual 101, 3), (62, .iand, 1), (63, .ireturn, 1), (64, .aload_n 0, 1), (65, .getfield 12, 3), (68, .invokevirtual 139, 3), (71, .ireturn, 1), (72, .aload_n 0, 1), (73, .getfield 12, 3), (76, .invokevirtual 142, 3), (79, .ireturn, 1), (80, .aload_n 0, 1), (81, .getfield 12, 3), (84, .iconst 0, 1), (85, .invokevirtual 169, 3), (88, .ireturn, 1), (89, .aload_n 0, 1), (90, .getfield 12, 3), (93, .iconst 1, 1), (94, .invokevirtual 169, 3), (97, .ireturn, 1), (98, .bipush (-2), 2), (100, .ireturn, 1)]
theorem dX6_points : iX6_points.all (fun q => decide (decode cX6_points q.1 = .ok q.2)) = true := by decide +kernel
abbrev cX6_floatBits : ByteArray := prog_1_method_29_code
def yX6_floatBits : MethodName := ⟨"PointAnswers", "floatBits", "(II)I"⟩
abbrev wsX6_floatBits : List Cond := .code yX6_floatBits cX6_floatBits 9 (some .int) :: wT
def iX6_floatBits : List (Nat × Instr × Nat) := [(0, .iload_n 0, 1), (1, .ifCond .le 7, 3), (4, .iload_n 1, 1), (5, .ifCond .gt 5, 3), (8, .iconst 0, 1), (9, .ireturn, 1), (10, .iload_n 0, 1), (11, .i2l, 1), (12, .lstore_n 2, 1), (13, .bipush 127, 2), (15, .istore 4, 2), (17, .lload_n 2, 1), (18, .iload_n 1, 1), (19, .i2l, 1), (20, .lcmp, 1), (21, .ifCond .ge 20, 3), (24, .iload 4, 2), (26, .ifCond .le 15, 3), (29, .lload_n 2, 1), (30, .ldc2_w 257, 3), (33, .lmul, 1), (34, .lstore_n 2, 1), (35, .iinc 4 (-1), 3), (38, .goto (-21), 3), (41, .lload_n 2, 1), (42, .bipush 23, 2), (44, .lshl, 1), (45, .lstore 5, 2), (47, .lload 5, 2), (49, .iload_n 1, 1), (50, .i2l, 1), (51, .ldiv, 1), (52, .lstore 7, 2), (54, .ldc2_w 257, 3), (57, .lload 5, 2), (59, .iload_n 1, 1), (60, .i2l, 1), (61, .lrem, 1), (62, .lmul, 1), (63, .iload_n 1, 1), (64, .i2l, 1), (65, .lcmp, 1), (66, .ifCond .le 9, 3), (69, .lload 7, 2), (71, .lconst 1, 1), (72, .ladd, 1), (73, .lstore 7, 2), (75, .iload 4, 2), (77, .bipush 23, 2), (79, .ishl, 1), (80, .lload 7, 2), (82, .ldc2_w 259, 3), (85, .lsub, 1), (86, .l2i, 1), (87, .iadd, 1), (88, .ireturn, 1)]
theorem dX6_floatBits : iX6_floatBits.all (fun q => decide (decode cX6_floatBits q.1 = .ok q.2)) = true := by decide +kernel
abbrev cX6_share : ByteArray := prog_1_method_12_code
def yX6_share : MethodName := ⟨"PointAnswers", "share", "(I)I"⟩
abbrev wsX6_share : List Cond := .code yX6_share cX6_share 3 (some .int) :: wT
def iX6_share : List (Nat × Instr × Nat) := [(0, .iload_n 1, 1), (1, .ifCond .eq 10, 3), (4, .iload_n 1, 1), (5, .iconst 1, 1), (6, .if_icmp .eq 5, 3), (9, .iconst (-1), 1), (10, .ireturn, 1), (11, .aload_n 0, 1), (12, .getfield 12, 3), (15, .invokevirtual 131, 3), (18, .aload_n 0, 1), (19, .getfield 12, 3), (22, .iload_n 1, 1), (23, .invokevirtual 169, 3), (26, .iand, 1), (27, .istore_n 2, 1), (28, .iload_n 2, 1), (29, .ifCond .ne 6, 3), (32, .bipush (-6), 2), (34, .ireturn, 1), (35, .iload_n 2, 1), (36, .aload_n 0, 1), (37, .getfield 12, 3), (40, .invokevirtual 101, 3), (43, .iand, 1), (44, .invokestatic 134, 3), (47, .iload_n 2, 1), (48, .invokestatic 134, 3), (51, .invokestatic 172, 3), (54, .ireturn, 1)]
theorem dX6_share : iX6_share.all (fun q => decide (decode cX6_share q.1 = .ok q.2)) = true := by decide +kernel
abbrev cX6_toFall : ByteArray := prog_1_method_13_code
def yX6_toFall : MethodName := ⟨"PointAnswers", "toFall", "(I)I"⟩
abbrev wsX6_toFall : List Cond := .code yX6_toFall cX6_toFall 2 (some .int) :: wT
def iX6_toFall : List (Nat × Instr × Nat) := [(0, .aload_n 0, 1), (1, .getfield 12, 3), (4, .iload_n 1, 1), (5, .invokevirtual 79, 3), (8, .ifnonnull 5, 3), (11, .iconst (-1), 1), (12, .ireturn, 1), (13, .aload_n 0, 1), (14, .getfield 19, 3), (17, .aload_n 0, 1), (18, .getfield 12, 3), (21, .invokevirtual 175, 3), (24, .aload_n 0, 1), (25, .getfield 19, 3), (28, .iload_n 1, 1), (29, .invokevirtual 178, 3), (32, .ireturn, 1)]
theorem dX6_toFall : iX6_toFall.all (fun q => decide (decode cX6_toFall q.1 = .ok q.2)) = true := by decide +kernel
abbrev cX6_toStand : ByteArray := prog_1_method_14_code
def yX6_toStand : MethodName := ⟨"PointAnswers", "toStand", "(I)I"⟩
abbrev wsX6_toStand : List Cond := .code yX6_toStand cX6_toStand 2 (some .int) :: wT
def iX6_toStand : List (Nat × Instr × Nat) := [(0, .aload_n 0, 1), (1, .getfield 12, 3), (4, .iload_n 1, 1), (5, .invokevirtual 79, 3), (8, .ifnonnull 5, 3), (11, .iconst (-1), 1), (12, .ireturn, 1), (13, .aload_n 0, 1), (14, .getfield 12, 3), (17, .invokevirtual 139, 3), (20, .iload_n 1, 1), (21, .invokestatic 105, 3), (24, .ifCond .eq 6, 3), (27, .bipush (-5), 2), (29, .ireturn, 1), (30, .aload_n 0, 1), (31, .getfield 19, 3), (34, .aload_n 0, 1), (35, .getfield 12, 3), (38, .invokevirtual 175, 3), (41, .aload_n 0, 1), (42, .getfield 19, 3), (45, .iload_n 1, 1), (46, .invokevirtual 181, 3), (49, .ireturn, 1)]
theorem dX6_toStand : iX6_toStand.all (fun q => decide (decode cX6_toStand q.1 = .ok q.2)) = true := by decide +kernel
abbrev cX6_bestAnswer : ByteArray := prog_1_method_15_code
def yX6_bestAnswer : MethodName := ⟨"PointAnswers", "bestAnswer", "(I)I"⟩
abbrev wsX6_bestAnswer : List Cond := .code yX6_bestAnswer cX6_bestAnswer 9 (some .int) :: wT
def iX6_bestAnswer : List (Nat × Instr × Nat) := [(0, .iload_n 1, 1), (1, .ifCond .eq 11, 3), (4, .iload_n 1, 1), (5, .iconst 1, 1), (6, .if_icmp .eq 6, 3), (9, .bipush (-2), 2), (11, .ireturn, 1), (12, .bipush (-6), 2), (14, .istore_n 2, 1), (15, .bipush (-6), 2), (17, .istore_n 3, 1), (18, .aload_n 0, 1), (19, .getfield 12, 3), (22, .invokevirtual 139, 3), (25, .istore 4, 2), (27, .aload_n 0, 1), (28, .getfield 12, 3), (31, .iload 4, 2), (33, .iconst 0, 1), (34, .invokevirtual 184, 3), (37, .istore 5, 2), (39, .aload_n 0, 1), (40, .getfield 12, 3), (43, .invokevirtual 187, 3), (46, .iload 4, 2), (48, .iconst (-1), 1), (49, .ixor, 1), (50, .iand, 1), (51, .istore 6, 2), (53, .iconst 0, 1), (54, .istore 7, 2), (56, .iload 7, 2), (58, .bipush 24, 2), (60, .if_icmp .ge 60, 3), (63, .iload 6, 2), (65, .iload 7, 2), (67, .invokestatic 105, 3), (70, .ifCond .eq 44, 3), (73, .aload_n 0, 1), (74, .getfield 12, 3), (77, .iload 4, 2), (79, .iconst 1, 1), (80, .iload 7, 2), (82, .ishl, 1), (83, .invokevirtual 184, 3), (86, .iload 5, 2), (88, .ixor, 1), (89, .aload_n 0, 1), (90, .getfield 12, 3), (93, .invokevirtual 131, 3), (96, .iand, 1), (97, .invokestatic 134, 3), (100, .istore 8, 2), (102, .iload 8, 2), (104, .iload_n 3, 1), (105, .if_icmp .le 9, 3), (108, .iload 7, 2), (110, .istore_n 2, 1), (111, .iload 8, 2), (113, .istore_n 3, 1), (114, .iinc 7 1, 3), (117, .goto (-61), 3), (120, .iload_n 1, 1), (121, .ifCond .ne 7, 3), (124, .iload_n 2, 1), (125, .goto 4, 3), (128, .iload_n 3, 1), (129, .ireturn, 1)]
theorem dX6_bestAnswer : iX6_bestAnswer.all (fun q => decide (decode cX6_bestAnswer q.1 = .ok q.2)) = true := by decide +kernel
abbrev cX6_changesIn : ByteArray := prog_1_method_16_code
def yX6_changesIn : MethodName := ⟨"PointAnswers", "changesIn", "()I"⟩
abbrev wsX6_changesIn : List Cond := .code yX6_changesIn cX6_changesIn 4 (some .int) :: wT
def iX6_changesIn : List (Nat × Instr × Nat) := [(0, .aload_n 0, 1), (1, .getfield 12, 3), (4, .invokevirtual 145, 3), (7, .aload_n 0, 1), (8, .getfield 12, 3), (11, .invokevirtual 148, 3), (14, .ior, 1), (15, .aload_n 0, 1), (16, .getfield 12, 3), (19, .invokevirtual 190, 3), (22, .ior, 1), (23, .istore_n 1, 1), (24, .aload_n 0, 1), (25, .getfield 12, 3), (28, .invokevirtual 101, 3), (31, .istore_n 2, 1), (32, .iconst 1, 1), (33, .istore_n 3, 1), (34, .iload_n 3, 1), (35, .bipush 61, 2), (37, .if_icmp .gt 41, 3), (40, .aload_n 0, 1), (41, .getfield 12, 3), (44, .iload_n 1, 1), (45, .aload_n 0, 1), (46, .getfield 12, 3), (49, .aload_n 0, 1), (50, .getfield 12, 3), (53, .getfield 125, 3), (56, .iload_n 3, 1), (57, .iadd, 1), (58, .invokevirtual 193, 3), (61, .ior, 1), (62, .iconst 0, 1), (63, .invokevirtual 184, 3), (66, .iload_n 2, 1), (67, .if_icmp .eq 5, 3), (70, .iload_n 3, 1), (71, .ireturn, 1), (72, .iinc 3 1, 3), (75, .goto (-41), 3), (78, .bipush (-6), 2), (80, .ireturn, 1)]
theorem dX6_changesIn : iX6_changesIn.all (fun q => decide (decode cX6_changesIn q.1 = .ok q.2)) = true := by decide +kernel
abbrev cX6_leastPages : ByteArray := prog_1_method_17_code
def yX6_leastPages : MethodName := ⟨"PointAnswers", "leastPages", "()I"⟩
abbrev wsX6_leastPages : List Cond := .code yX6_leastPages cX6_leastPages 3 (some .int) :: wT
def iX6_leastPages : List (Nat × Instr × Nat) := [(0, .aload_n 0, 1), (1, .getfield 12, 3), (4, .invokevirtual 145, 3), (7, .istore_n 1, 1), (8, .iconst 1, 1), (9, .aload_n 0, 1), (10, .getfield 12, 3), (13, .iconst 0, 1), (14, .iload_n 1, 1), (15, .invokevirtual 151, 3), (18, .aload_n 0, 1), (19, .getfield 12, 3), (22, .iconst 1, 1), (23, .iload_n 1, 1), (24, .invokevirtual 151, 3), (27, .invokestatic 196, 3), (30, .invokestatic 196, 3), (33, .istore_n 2, 1), (34, .iload_n 2, 1), (35, .bipush 99, 2), (37, .if_icmp .le 8, 3), (40, .bipush (-6), 2), (42, .goto 4, 3), (45, .iload_n 2, 1), (46, .ireturn, 1)]
theorem dX6_leastPages : iX6_leastPages.all (fun q => decide (decode cX6_leastPages q.1 = .ok q.2)) = true := by decide +kernel
abbrev cJ9_max_7cf53 : ByteArray := prog_11_method_65_code
def yJ9_max_7cf53 : MethodName := ⟨"java/lang/Math", "max", "(II)I"⟩
abbrev wsJ9_max_7cf53 : List Cond := .code yJ9_max_7cf53 cJ9_max_7cf53 2 (some .int) :: wT
def iJ9_max_7cf53 : List (Nat × Instr × Nat) := [(0, .iload_n 0, 1), (1, .iload_n 1, 1), (2, .if_icmp .lt 7, 3), (5, .iload_n 0, 1), (6, .goto 4, 3), (9, .iload_n 1, 1), (10, .ireturn, 1)]
theorem dJ9_max_7cf53 : iJ9_max_7cf53.all (fun q => decide (decode cJ9_max_7cf53 q.1 = .ok q.2)) = true := by decide +kernel
abbrev cJ9_min_7cf53 : ByteArray := prog_11_method_69_code
def yJ9_min_7cf53 : MethodName := ⟨"java/lang/Math", "min", "(II)I"⟩
abbrev wsJ9_min_7cf53 : List Cond := .code yJ9_min_7cf53 cJ9_min_7cf53 2 (some .int) :: wT
def iJ9_min_7cf53 : List (Nat × Instr × Nat) := [(0, .iload_n 0, 1), (1, .iload_n 1, 1), (2, .if_icmp .gt 7, 3), (5, .iload_n 0, 1), (6, .goto 4, 3), (9, .iload_n 1, 1), (10, .ireturn, 1)]
theorem dJ9_min_7cf53 : iJ9_min_7cf53.all (fun q => decide (decode cJ9_min_7cf53 q.1 = .ok q.2)) = true := by decide +kernel
theorem tw_0 : Cond.selects "PointAnswers$History" ⟨"PointAnswers$History", "prepare", "(LPointAnswers$Bundle;)V"⟩ ⟨"PointAnswers$History", "prepare", "(LPointAnswers$Bundle;)V"⟩ ∈ wT := tw 0 (by decide +kernel) rfl
theorem tw_1 : Cond.selects "PointAnswers$History" ⟨"PointAnswers$History", "rowAt", "(I)LPointAnswers$Bundle;"⟩ ⟨"PointAnswers$History", "rowAt", "(I)LPointAnswers$Bundle;"⟩ ∈ wT := tw 1 (by decide +kernel) rfl
theorem tw_2 : Cond.selects "PointAnswers$Bundle" ⟨"PointAnswers$Bundle", "become", "(LPointAnswers$Bundle;)V"⟩ ⟨"PointAnswers$Bundle", "become", "(LPointAnswers$Bundle;)V"⟩ ∈ wT := tw 2 (by decide +kernel) rfl
theorem tw_3 : Cond.selects "PointAnswers$Bundle" ⟨"PointAnswers$Bundle", "find", "(I)LPointAnswers$Point;"⟩ ⟨"PointAnswers$Bundle", "find", "(I)LPointAnswers$Point;"⟩ ∈ wT := tw 3 (by decide +kernel) rfl
theorem tw_4 : Cond.selects "PointAnswers$Point" ⟨"PointAnswers$Point", "become", "(LPointAnswers$Point;)V"⟩ ⟨"PointAnswers$Point", "become", "(LPointAnswers$Point;)V"⟩ ∈ wT := tw 4 (by decide +kernel) rfl
theorem tw_5 : Cond.selects "PointAnswers$Bundle" ⟨"PointAnswers$Bundle", "adjust", "(II)I"⟩ ⟨"PointAnswers$Bundle", "adjust", "(II)I"⟩ ∈ wT := tw 5 (by decide +kernel) rfl
theorem tw_6 : Cond.selects "PointAnswers$History" ⟨"PointAnswers$History", "settle", "(I)I"⟩ ⟨"PointAnswers$History", "settle", "(I)I"⟩ ∈ wT := tw 6 (by decide +kernel) rfl
theorem tw_7 : Cond.selects "PointAnswers$History" ⟨"PointAnswers$History", "dropOldest", "()V"⟩ ⟨"PointAnswers$History", "dropOldest", "()V"⟩ ∈ wT := tw 7 (by decide +kernel) rfl
theorem tw_8 : Cond.selects "PointAnswers$Bundle" ⟨"PointAnswers$Bundle", "fileClaim", "(III)I"⟩ ⟨"PointAnswers$Bundle", "fileClaim", "(III)I"⟩ ∈ wT := tw 8 (by decide +kernel) rfl
theorem tw_9 : Cond.selects "PointAnswers$Bundle" ⟨"PointAnswers$Bundle", "file", "(IIII)I"⟩ ⟨"PointAnswers$Bundle", "file", "(IIII)I"⟩ ∈ wT := tw 9 (by decide +kernel) rfl
theorem tw_10 : Cond.selects "PointAnswers$Bundle" ⟨"PointAnswers$Bundle", "freeRow", "()LPointAnswers$Point;"⟩ ⟨"PointAnswers$Bundle", "freeRow", "()LPointAnswers$Point;"⟩ ∈ wT := tw 10 (by decide +kernel) rfl
theorem tw_11 : Cond.selects "PointAnswers$Bundle" ⟨"PointAnswers$Bundle", "fileAnswer", "(III)I"⟩ ⟨"PointAnswers$Bundle", "fileAnswer", "(III)I"⟩ ∈ wT := tw 11 (by decide +kernel) rfl
theorem tw_12 : Cond.selects "PointAnswers$Bundle" ⟨"PointAnswers$Bundle", "takeBack", "(I)I"⟩ ⟨"PointAnswers$Bundle", "takeBack", "(I)I"⟩ ∈ wT := tw 12 (by decide +kernel) rfl
theorem tw_13 : Cond.selects "PointAnswers$Bundle" ⟨"PointAnswers$Bundle", "standing", "()I"⟩ ⟨"PointAnswers$Bundle", "standing", "()I"⟩ ∈ wT := tw 13 (by decide +kernel) rfl
theorem tw_14 : Cond.selects "PointAnswers$Bundle" ⟨"PointAnswers$Bundle", "out", "()I"⟩ ⟨"PointAnswers$Bundle", "out", "()I"⟩ ∈ wT := tw 14 (by decide +kernel) rfl
theorem tw_15 : Cond.selects "PointAnswers$Bundle" ⟨"PointAnswers$Bundle", "withdrawn", "()I"⟩ ⟨"PointAnswers$Bundle", "withdrawn", "()I"⟩ ∈ wT := tw 15 (by decide +kernel) rfl
theorem tw_16 : Cond.selects "PointAnswers$Bundle" ⟨"PointAnswers$Bundle", "struck", "()I"⟩ ⟨"PointAnswers$Bundle", "struck", "()I"⟩ ∈ wT := tw 16 (by decide +kernel) rfl
theorem tw_17 : Cond.selects "PointAnswers$Bundle" ⟨"PointAnswers$Bundle", "lapsedOn", "(I)I"⟩ ⟨"PointAnswers$Bundle", "lapsedOn", "(I)I"⟩ ∈ wT := tw 17 (by decide +kernel) rfl
theorem tw_18 : Cond.selects "PointAnswers$Bundle" ⟨"PointAnswers$Bundle", "baseless", "()I"⟩ ⟨"PointAnswers$Bundle", "baseless", "()I"⟩ ∈ wT := tw 18 (by decide +kernel) rfl
theorem tw_19 : Cond.selects "PointAnswers$Bundle" ⟨"PointAnswers$Bundle", "standingIf", "(II)I"⟩ ⟨"PointAnswers$Bundle", "standingIf", "(II)I"⟩ ∈ wT := tw 19 (by decide +kernel) rfl
theorem tw_20 : Cond.selects "PointAnswers$Bundle" ⟨"PointAnswers$Bundle", "targetOf", "(I)I"⟩ ⟨"PointAnswers$Bundle", "targetOf", "(I)I"⟩ ∈ wT := tw 20 (by decide +kernel) rfl
theorem tw_21 : Cond.selects "PointAnswers$Bundle" ⟨"PointAnswers$Bundle", "prolong", "(I)I"⟩ ⟨"PointAnswers$Bundle", "prolong", "(I)I"⟩ ∈ wT := tw 21 (by decide +kernel) rfl
theorem tw_22 : Cond.selects "PointAnswers$Bundle" ⟨"PointAnswers$Bundle", "turnCase", "(I)I"⟩ ⟨"PointAnswers$Bundle", "turnCase", "(I)I"⟩ ∈ wT := tw 22 (by decide +kernel) rfl
theorem tw_23 : Cond.selects "PointAnswers$Bundle" ⟨"PointAnswers$Bundle", "moveOn", "(I)I"⟩ ⟨"PointAnswers$Bundle", "moveOn", "(I)I"⟩ ∈ wT := tw 23 (by decide +kernel) rfl
theorem tw_24 : Cond.selects "PointAnswers$Bundle" ⟨"PointAnswers$Bundle", "reasonAgainst", "(I)I"⟩ ⟨"PointAnswers$Bundle", "reasonAgainst", "(I)I"⟩ ∈ wT := tw 24 (by decide +kernel) rfl
theorem tw_25 : Cond.selects "PointAnswers$Bundle" ⟨"PointAnswers$Bundle", "answersTo", "(I)I"⟩ ⟨"PointAnswers$Bundle", "answersTo", "(I)I"⟩ ∈ wT := tw 25 (by decide +kernel) rfl
theorem tw_26 : Cond.selects "PointAnswers$Bundle" ⟨"PointAnswers$Bundle", "depthOf", "(I)I"⟩ ⟨"PointAnswers$Bundle", "depthOf", "(I)I"⟩ ∈ wT := tw 26 (by decide +kernel) rfl
theorem tw_27 : Cond.selects "PointAnswers$Bundle" ⟨"PointAnswers$Bundle", "daysLeft", "(LPointAnswers$Point;)I"⟩ ⟨"PointAnswers$Bundle", "daysLeft", "(LPointAnswers$Point;)I"⟩ ∈ wT := tw 27 (by decide +kernel) rfl
theorem tw_28 : Cond.selects "PointAnswers$Bundle" ⟨"PointAnswers$Bundle", "claims", "()I"⟩ ⟨"PointAnswers$Bundle", "claims", "()I"⟩ ∈ wT := tw 28 (by decide +kernel) rfl
theorem tw_29 : Cond.selects "PointAnswers$Bundle" ⟨"PointAnswers$Bundle", "answered", "()I"⟩ ⟨"PointAnswers$Bundle", "answered", "()I"⟩ ∈ wT := tw 29 (by decide +kernel) rfl
theorem tw_30 : Cond.selects "PointAnswers$Bundle" ⟨"PointAnswers$Bundle", "all", "()I"⟩ ⟨"PointAnswers$Bundle", "all", "()I"⟩ ∈ wT := tw 30 (by decide +kernel) rfl
theorem tw_31 : Cond.selects "PointAnswers$Bundle" ⟨"PointAnswers$Bundle", "pagesOf", "(II)I"⟩ ⟨"PointAnswers$Bundle", "pagesOf", "(II)I"⟩ ∈ wT := tw 31 (by decide +kernel) rfl
theorem tw_32 : Cond.selects "PointAnswers$Bundle" ⟨"PointAnswers$Bundle", "ofSide", "(I)I"⟩ ⟨"PointAnswers$Bundle", "ofSide", "(I)I"⟩ ∈ wT := tw 32 (by decide +kernel) rfl
theorem tw_33 : Cond.selects "PointAnswers$Bundle" ⟨"PointAnswers$Bundle", "withoutAnswers", "()I"⟩ ⟨"PointAnswers$Bundle", "withoutAnswers", "()I"⟩ ∈ wT := tw 33 (by decide +kernel) rfl
theorem tw_34 : Cond.selects "PointAnswers$Costs" ⟨"PointAnswers$Costs", "weigh", "(LPointAnswers$Bundle;)V"⟩ ⟨"PointAnswers$Costs", "weigh", "(LPointAnswers$Bundle;)V"⟩ ∈ wT := tw 34 (by decide +kernel) rfl
theorem tw_35 : Cond.selects "PointAnswers$Costs" ⟨"PointAnswers$Costs", "addToTarget", "(III)V"⟩ ⟨"PointAnswers$Costs", "addToTarget", "(III)V"⟩ ∈ wT := tw 35 (by decide +kernel) rfl
theorem tw_36 : Cond.selects "PointAnswers$Costs" ⟨"PointAnswers$Costs", "answersToFall", "(I)I"⟩ ⟨"PointAnswers$Costs", "answersToFall", "(I)I"⟩ ∈ wT := tw 36 (by decide +kernel) rfl
theorem tw_37 : Cond.selects "PointAnswers$Costs" ⟨"PointAnswers$Costs", "answersToStand", "(I)I"⟩ ⟨"PointAnswers$Costs", "answersToStand", "(I)I"⟩ ∈ wT := tw 37 (by decide +kernel) rfl
theorem tw_38 : Cond.initialized "PointAnswersLaw" ∈ wT := tw 38 (by decide +kernel) rfl
theorem tw_39 : Cond.initialized "PointAnswers" ∈ wT := tw 39 (by decide +kernel) rfl
theorem tw_40 : Cond.initialized "PointAnswers$Bundle" ∈ wT := tw 40 (by decide +kernel) rfl
theorem tw_41 : Cond.initialized "PointAnswers$Point" ∈ wT := tw 41 (by decide +kernel) rfl
theorem tw_42 : Cond.initialized "PointAnswers$Costs" ∈ wT := tw 42 (by decide +kernel) rfl
theorem tw_43 : Cond.initialized "PointAnswers$Pad" ∈ wT := tw 43 (by decide +kernel) rfl
theorem tw_44 : Cond.initialized "PointAnswers$Reader" ∈ wT := tw 44 (by decide +kernel) rfl
theorem tw_45 : Cond.initialized "PointAnswers$History" ∈ wT := tw 45 (by decide +kernel) rfl
theorem tw_46 : Cond.initialized "java/lang/Integer" ∈ wT := tw 46 (by decide +kernel) rfl
theorem tw_47 : Cond.initialized "java/lang/Math" ∈ wT := tw 47 (by decide +kernel) rfl
theorem tw_48 : Cond.classLink "PointAnswersLaw" 15 "PointAnswers" ∈ wT := tw 48 (by decide +kernel) rfl
theorem tw_49 : Cond.instantiable "PointAnswers" 7 ∈ wT := tw 49 (by decide +kernel) rfl
theorem tw_50 : Cond.methodLink "PointAnswersLaw" 58 ⟨"PointAnswers", "<init>", "()V"⟩ ∈ wT := tw 50 (by decide +kernel) rfl
theorem tw_51 : Cond.instanceMethod ⟨"PointAnswers", "<init>", "()V"⟩ ∈ wT := tw 51 (by decide +kernel) rfl
theorem tw_52 : Cond.code ⟨"PointAnswers", "<init>", "()V"⟩ prog_1_method_1_code 2 none ∈ wT := tw 52 (by decide +kernel) rfl
theorem tw_53 : Cond.methodLink "PointAnswers" 3 ⟨"java/lang/Object", "<init>", "()V"⟩ ∈ wT := tw 53 (by decide +kernel) rfl
theorem tw_54 : Cond.instanceMethod ⟨"java/lang/Object", "<init>", "()V"⟩ ∈ wT := tw 54 (by decide +kernel) rfl
theorem tw_55 : Cond.code ⟨"java/lang/Object", "<init>", "()V"⟩ object_method_1_code 1 none ∈ wT := tw 55 (by decide +kernel) rfl
theorem tw_56 : Cond.classLink "PointAnswers" 9 "PointAnswers$Bundle" ∈ wT := tw 56 (by decide +kernel) rfl
theorem tw_57 : Cond.instantiable "PointAnswers$Bundle" 6 ∈ wT := tw 57 (by decide +kernel) rfl
theorem tw_59 : Cond.instanceMethod ⟨"PointAnswers$Bundle", "<init>", "()V"⟩ ∈ wT := tw 59 (by decide +kernel) rfl
theorem tw_60 : Cond.code ⟨"PointAnswers$Bundle", "<init>", "()V"⟩ prog_2_method_1_code 2 none ∈ wT := tw 60 (by decide +kernel) rfl
theorem tw_61 : Cond.methodLink "PointAnswers$Bundle" 3 ⟨"java/lang/Object", "<init>", "()V"⟩ ∈ wT := tw 61 (by decide +kernel) rfl
theorem tw_62 : Cond.classLink "PointAnswers$Bundle" 9 "PointAnswers$Point" ∈ wT := tw 62 (by decide +kernel) rfl
theorem tw_64 : Cond.instantiable "PointAnswers$Point" 7 ∈ wT := tw 64 (by decide +kernel) rfl
theorem tw_66 : Cond.instanceMethod ⟨"PointAnswers$Point", "<init>", "()V"⟩ ∈ wT := tw 66 (by decide +kernel) rfl
theorem tw_67 : Cond.code ⟨"PointAnswers$Point", "<init>", "()V"⟩ prog_6_method_1_code 1 none ∈ wT := tw 67 (by decide +kernel) rfl
theorem tw_68 : Cond.methodLink "PointAnswers$Point" 1 ⟨"java/lang/Object", "<init>", "()V"⟩ ∈ wT := tw 68 (by decide +kernel) rfl
theorem tw_69 : Cond.fieldLink "PointAnswers$Point" 7 "PointAnswers$Point" "side" "I" ∈ wT := tw 69 (by decide +kernel) rfl
theorem tw_72 : Cond.fieldLink "PointAnswers$Point" 13 "PointAnswers$Point" "pages" "I" ∈ wT := tw 72 (by decide +kernel) rfl
theorem tw_75 : Cond.fieldLink "PointAnswers$Point" 16 "PointAnswers$Point" "cases" "I" ∈ wT := tw 75 (by decide +kernel) rfl
theorem tw_78 : Cond.fieldLink "PointAnswers$Point" 19 "PointAnswers$Point" "target" "I" ∈ wT := tw 78 (by decide +kernel) rfl
theorem tw_82 : Cond.fieldLink "PointAnswers$Point" 22 "PointAnswers$Point" "filed" "I" ∈ wT := tw 82 (by decide +kernel) rfl
theorem tw_85 : Cond.fieldLink "PointAnswers$Point" 25 "PointAnswers$Point" "lastsFrom" "I" ∈ wT := tw 85 (by decide +kernel) rfl
theorem tw_87 : Cond.fieldLink "PointAnswers$Point" 28 "PointAnswers$Point" "withdrawn" "Z" ∈ wT := tw 87 (by decide +kernel) rfl
theorem tw_104 : Cond.fieldLink "PointAnswers$Bundle" 11 "PointAnswers$Bundle" "rows" "[LPointAnswers$Point;" ∈ wT := tw 104 (by decide +kernel) rfl
theorem tw_105 : Cond.fieldLink "PointAnswers$Bundle" 25 "PointAnswers$Bundle" "size" "I" ∈ wT := tw 105 (by decide +kernel) rfl
theorem tw_107 : Cond.fieldLink "PointAnswers$Bundle" 28 "PointAnswers$Bundle" "day" "I" ∈ wT := tw 107 (by decide +kernel) rfl
theorem tw_109 : Cond.fieldLink "PointAnswers$Bundle" 31 "PointAnswers$Bundle" "overruled" "I" ∈ wT := tw 109 (by decide +kernel) rfl
theorem tw_111 : Cond.fieldLink "PointAnswers$Bundle" 17 "PointAnswers$Bundle" "lapse" "I" ∈ wT := tw 111 (by decide +kernel) rfl
theorem tw_113 : Cond.fieldLink "PointAnswers$Bundle" 21 "PointAnswers$Bundle" "allowedPages" "I" ∈ wT := tw 113 (by decide +kernel) rfl
theorem tw_128 : Cond.classLink "PointAnswers" 16 "PointAnswers$Costs" ∈ wT := tw 128 (by decide +kernel) rfl
theorem tw_129 : Cond.instantiable "PointAnswers$Costs" 2 ∈ wT := tw 129 (by decide +kernel) rfl
theorem tw_131 : Cond.instanceMethod ⟨"PointAnswers$Costs", "<init>", "()V"⟩ ∈ wT := tw 131 (by decide +kernel) rfl
theorem tw_132 : Cond.code ⟨"PointAnswers$Costs", "<init>", "()V"⟩ prog_3_method_1_code 1 none ∈ wT := tw 132 (by decide +kernel) rfl
theorem tw_133 : Cond.methodLink "PointAnswers$Costs" 3 ⟨"java/lang/Object", "<init>", "()V"⟩ ∈ wT := tw 133 (by decide +kernel) rfl
theorem tw_134 : Cond.fieldLink "PointAnswers$Costs" 9 "PointAnswers$Costs" "fall" "[I" ∈ wT := tw 134 (by decide +kernel) rfl
theorem tw_135 : Cond.fieldLink "PointAnswers$Costs" 15 "PointAnswers$Costs" "stand" "[I" ∈ wT := tw 135 (by decide +kernel) rfl
theorem tw_141 : Cond.arrayClass .int ∈ wT := tw 141 (by decide +kernel) rfl
theorem tw_142 : Cond.classLink "PointAnswers" 23 "PointAnswers$Pad" ∈ wT := tw 142 (by decide +kernel) rfl
theorem tw_143 : Cond.instantiable "PointAnswers$Pad" 2 ∈ wT := tw 143 (by decide +kernel) rfl
theorem tw_145 : Cond.instanceMethod ⟨"PointAnswers$Pad", "<init>", "()V"⟩ ∈ wT := tw 145 (by decide +kernel) rfl
theorem tw_146 : Cond.code ⟨"PointAnswers$Pad", "<init>", "()V"⟩ prog_5_method_1_code 1 none ∈ wT := tw 146 (by decide +kernel) rfl
theorem tw_147 : Cond.methodLink "PointAnswers$Pad" 3 ⟨"java/lang/Object", "<init>", "()V"⟩ ∈ wT := tw 147 (by decide +kernel) rfl
theorem tw_148 : Cond.fieldLink "PointAnswers$Pad" 9 "PointAnswers$Pad" "signs" "[C" ∈ wT := tw 148 (by decide +kernel) rfl
theorem tw_155 : Cond.arrayClass .char ∈ wT := tw 155 (by decide +kernel) rfl
theorem tw_156 : Cond.classLink "PointAnswers" 30 "PointAnswers$Reader" ∈ wT := tw 156 (by decide +kernel) rfl
theorem tw_157 : Cond.instantiable "PointAnswers$Reader" 6 ∈ wT := tw 157 (by decide +kernel) rfl
theorem tw_159 : Cond.instanceMethod ⟨"PointAnswers$Reader", "<init>", "()V"⟩ ∈ wT := tw 159 (by decide +kernel) rfl
theorem tw_160 : Cond.code ⟨"PointAnswers$Reader", "<init>", "()V"⟩ prog_7_method_1_code 1 none ∈ wT := tw 160 (by decide +kernel) rfl
theorem tw_161 : Cond.methodLink "PointAnswers$Reader" 3 ⟨"java/lang/Object", "<init>", "()V"⟩ ∈ wT := tw 161 (by decide +kernel) rfl
theorem tw_175 : Cond.classLink "PointAnswers" 37 "PointAnswers$History" ∈ wT := tw 175 (by decide +kernel) rfl
theorem tw_176 : Cond.instantiable "PointAnswers$History" 2 ∈ wT := tw 176 (by decide +kernel) rfl
theorem tw_178 : Cond.instanceMethod ⟨"PointAnswers$History", "<init>", "()V"⟩ ∈ wT := tw 178 (by decide +kernel) rfl
theorem tw_179 : Cond.code ⟨"PointAnswers$History", "<init>", "()V"⟩ prog_4_method_1_code 2 none ∈ wT := tw 179 (by decide +kernel) rfl
theorem tw_180 : Cond.methodLink "PointAnswers$History" 3 ⟨"java/lang/Object", "<init>", "()V"⟩ ∈ wT := tw 180 (by decide +kernel) rfl
theorem tw_181 : Cond.classLink "PointAnswers$History" 9 "PointAnswers$Bundle" ∈ wT := tw 181 (by decide +kernel) rfl
theorem tw_184 : Cond.fieldLink "PointAnswers$History" 11 "PointAnswers$History" "rows" "[LPointAnswers$Bundle;" ∈ wT := tw 184 (by decide +kernel) rfl
theorem tw_185 : Cond.fieldLink "PointAnswers$History" 18 "PointAnswers$History" "kept" "I" ∈ wT := tw 185 (by decide +kernel) rfl
theorem tw_192 : Cond.fieldLink "PointAnswers" 12 "PointAnswers" "now" "LPointAnswers$Bundle;" ∈ wT := tw 192 (by decide +kernel) rfl
theorem tw_193 : Cond.fieldLink "PointAnswers" 19 "PointAnswers" "costs" "LPointAnswers$Costs;" ∈ wT := tw 193 (by decide +kernel) rfl
theorem tw_194 : Cond.fieldLink "PointAnswers" 26 "PointAnswers" "pad" "LPointAnswers$Pad;" ∈ wT := tw 194 (by decide +kernel) rfl
theorem tw_195 : Cond.fieldLink "PointAnswers" 33 "PointAnswers" "reader" "LPointAnswers$Reader;" ∈ wT := tw 195 (by decide +kernel) rfl
theorem tw_196 : Cond.fieldLink "PointAnswers" 40 "PointAnswers" "history" "LPointAnswers$History;" ∈ wT := tw 196 (by decide +kernel) rfl
theorem tw_197 : Cond.fieldLink "PointAnswers" 44 "PointAnswers" "slots" "[LPointAnswers$Bundle;" ∈ wT := tw 197 (by decide +kernel) rfl
theorem tw_213 : Cond.methodLink "PointAnswersLaw" 85 ⟨"PointAnswers", "set", "(II)I"⟩ ∈ wT := tw 213 (by decide +kernel) rfl
theorem tw_214 : Cond.instanceMethod ⟨"PointAnswers", "set", "(II)I"⟩ ∈ wT := tw 214 (by decide +kernel) rfl
theorem tw_215 : Cond.selects "PointAnswers" ⟨"PointAnswers", "set", "(II)I"⟩ ⟨"PointAnswers", "set", "(II)I"⟩ ∈ wT := tw 215 (by decide +kernel) rfl
theorem tw_216 : Cond.code ⟨"PointAnswers", "set", "(II)I"⟩ prog_1_method_2_code 3 (some .int) ∈ wT := tw 216 (by decide +kernel) rfl
theorem tw_219 : Cond.instanceMethod ⟨"PointAnswers$History", "prepare", "(LPointAnswers$Bundle;)V"⟩ ∈ wT := tw 219 (by decide +kernel) rfl
theorem tw_220 : Cond.code ⟨"PointAnswers$History", "prepare", "(LPointAnswers$Bundle;)V"⟩ prog_4_method_3_code 3 none ∈ wT := tw 220 (by decide +kernel) rfl
theorem tw_221 : Cond.methodLink "PointAnswers$History" 22 ⟨"PointAnswers$History", "rowAt", "(I)LPointAnswers$Bundle;"⟩ ∈ wT := tw 221 (by decide +kernel) rfl
theorem tw_223 : Cond.instanceMethod ⟨"PointAnswers$History", "rowAt", "(I)LPointAnswers$Bundle;"⟩ ∈ wT := tw 223 (by decide +kernel) rfl
theorem tw_224 : Cond.code ⟨"PointAnswers$History", "rowAt", "(I)LPointAnswers$Bundle;"⟩ prog_4_method_2_code 2 (some (.object "PointAnswers$Bundle")) ∈ wT := tw 224 (by decide +kernel) rfl
theorem tw_227 : Cond.instanceMethod ⟨"PointAnswers$Bundle", "become", "(LPointAnswers$Bundle;)V"⟩ ∈ wT := tw 227 (by decide +kernel) rfl
theorem tw_228 : Cond.code ⟨"PointAnswers$Bundle", "become", "(LPointAnswers$Bundle;)V"⟩ prog_2_method_2_code 5 none ∈ wT := tw 228 (by decide +kernel) rfl
theorem tw_229 : Cond.methodLink "PointAnswers$Bundle" 34 ⟨"PointAnswers$Bundle", "find", "(I)LPointAnswers$Point;"⟩ ∈ wT := tw 229 (by decide +kernel) rfl
theorem tw_231 : Cond.instanceMethod ⟨"PointAnswers$Bundle", "find", "(I)LPointAnswers$Point;"⟩ ∈ wT := tw 231 (by decide +kernel) rfl
theorem tw_232 : Cond.code ⟨"PointAnswers$Bundle", "find", "(I)LPointAnswers$Point;"⟩ prog_2_method_3_code 2 (some (.object "PointAnswers$Point")) ∈ wT := tw 232 (by decide +kernel) rfl
theorem tw_235 : Cond.instanceMethod ⟨"PointAnswers$Point", "become", "(LPointAnswers$Point;)V"⟩ ∈ wT := tw 235 (by decide +kernel) rfl
theorem tw_236 : Cond.code ⟨"PointAnswers$Point", "become", "(LPointAnswers$Point;)V"⟩ prog_6_method_2_code 2 none ∈ wT := tw 236 (by decide +kernel) rfl
theorem tw_239 : Cond.instanceMethod ⟨"PointAnswers$Bundle", "adjust", "(II)I"⟩ ∈ wT := tw 239 (by decide +kernel) rfl
theorem tw_240 : Cond.code ⟨"PointAnswers$Bundle", "adjust", "(II)I"⟩ prog_2_method_5_code 4 (some .int) ∈ wT := tw 240 (by decide +kernel) rfl
theorem tw_243 : Cond.instanceMethod ⟨"PointAnswers$History", "settle", "(I)I"⟩ ∈ wT := tw 243 (by decide +kernel) rfl
theorem tw_244 : Cond.code ⟨"PointAnswers$History", "settle", "(I)I"⟩ prog_4_method_4_code 2 (some .int) ∈ wT := tw 244 (by decide +kernel) rfl
theorem tw_245 : Cond.methodLink "PointAnswers$History" 30 ⟨"PointAnswers$History", "dropOldest", "()V"⟩ ∈ wT := tw 245 (by decide +kernel) rfl
theorem tw_247 : Cond.instanceMethod ⟨"PointAnswers$History", "dropOldest", "()V"⟩ ∈ wT := tw 247 (by decide +kernel) rfl
theorem tw_248 : Cond.code ⟨"PointAnswers$History", "dropOldest", "()V"⟩ prog_4_method_5_code 3 none ∈ wT := tw 248 (by decide +kernel) rfl
theorem tw_249 : Cond.methodLink "PointAnswersLaw" 70 ⟨"PointAnswers", "claim", "(III)I"⟩ ∈ wT := tw 249 (by decide +kernel) rfl
theorem tw_250 : Cond.instanceMethod ⟨"PointAnswers", "claim", "(III)I"⟩ ∈ wT := tw 250 (by decide +kernel) rfl
theorem tw_251 : Cond.selects "PointAnswers" ⟨"PointAnswers", "claim", "(III)I"⟩ ⟨"PointAnswers", "claim", "(III)I"⟩ ∈ wT := tw 251 (by decide +kernel) rfl
theorem tw_252 : Cond.code ⟨"PointAnswers", "claim", "(III)I"⟩ prog_1_method_3_code 4 (some .int) ∈ wT := tw 252 (by decide +kernel) rfl
theorem tw_255 : Cond.instanceMethod ⟨"PointAnswers$Bundle", "fileClaim", "(III)I"⟩ ∈ wT := tw 255 (by decide +kernel) rfl
theorem tw_256 : Cond.code ⟨"PointAnswers$Bundle", "fileClaim", "(III)I"⟩ prog_2_method_6_code 4 (some .int) ∈ wT := tw 256 (by decide +kernel) rfl
theorem tw_257 : Cond.methodLink "PointAnswers$Bundle" 42 ⟨"PointAnswers$Bundle", "canBeFiled", "(II)Z"⟩ ∈ wT := tw 257 (by decide +kernel) rfl
theorem tw_258 : Cond.static ⟨"PointAnswers$Bundle", "canBeFiled", "(II)Z"⟩ ∈ wT := tw 258 (by decide +kernel) rfl
theorem tw_259 : Cond.code ⟨"PointAnswers$Bundle", "canBeFiled", "(II)Z"⟩ prog_2_method_8_code 2 (some .boolean) ∈ wT := tw 259 (by decide +kernel) rfl
theorem tw_260 : Cond.methodLink "PointAnswers$Bundle" 46 ⟨"PointAnswers$Bundle", "file", "(IIII)I"⟩ ∈ wT := tw 260 (by decide +kernel) rfl
theorem tw_262 : Cond.instanceMethod ⟨"PointAnswers$Bundle", "file", "(IIII)I"⟩ ∈ wT := tw 262 (by decide +kernel) rfl
theorem tw_263 : Cond.code ⟨"PointAnswers$Bundle", "file", "(IIII)I"⟩ prog_2_method_9_code 6 (some .int) ∈ wT := tw 263 (by decide +kernel) rfl
theorem tw_264 : Cond.methodLink "PointAnswers$Bundle" 50 ⟨"PointAnswers$Bundle", "freeRow", "()LPointAnswers$Point;"⟩ ∈ wT := tw 264 (by decide +kernel) rfl
theorem tw_266 : Cond.instanceMethod ⟨"PointAnswers$Bundle", "freeRow", "()LPointAnswers$Point;"⟩ ∈ wT := tw 266 (by decide +kernel) rfl
theorem tw_267 : Cond.code ⟨"PointAnswers$Bundle", "freeRow", "()LPointAnswers$Point;"⟩ prog_2_method_4_code 1 (some (.object "PointAnswers$Point")) ∈ wT := tw 267 (by decide +kernel) rfl
theorem tw_268 : Cond.methodLink "PointAnswersLaw" 66 ⟨"PointAnswers", "answer", "(III)I"⟩ ∈ wT := tw 268 (by decide +kernel) rfl
theorem tw_269 : Cond.instanceMethod ⟨"PointAnswers", "answer", "(III)I"⟩ ∈ wT := tw 269 (by decide +kernel) rfl
theorem tw_270 : Cond.selects "PointAnswers" ⟨"PointAnswers", "answer", "(III)I"⟩ ⟨"PointAnswers", "answer", "(III)I"⟩ ∈ wT := tw 270 (by decide +kernel) rfl
theorem tw_271 : Cond.code ⟨"PointAnswers", "answer", "(III)I"⟩ prog_1_method_4_code 4 (some .int) ∈ wT := tw 271 (by decide +kernel) rfl
theorem tw_274 : Cond.instanceMethod ⟨"PointAnswers$Bundle", "fileAnswer", "(III)I"⟩ ∈ wT := tw 274 (by decide +kernel) rfl
theorem tw_275 : Cond.code ⟨"PointAnswers$Bundle", "fileAnswer", "(III)I"⟩ prog_2_method_7_code 5 (some .int) ∈ wT := tw 275 (by decide +kernel) rfl
theorem tw_276 : Cond.methodLink "PointAnswersLaw" 73 ⟨"PointAnswers", "withdraw", "(I)I"⟩ ∈ wT := tw 276 (by decide +kernel) rfl
theorem tw_277 : Cond.instanceMethod ⟨"PointAnswers", "withdraw", "(I)I"⟩ ∈ wT := tw 277 (by decide +kernel) rfl
theorem tw_278 : Cond.selects "PointAnswers" ⟨"PointAnswers", "withdraw", "(I)I"⟩ ⟨"PointAnswers", "withdraw", "(I)I"⟩ ∈ wT := tw 278 (by decide +kernel) rfl
theorem tw_279 : Cond.code ⟨"PointAnswers", "withdraw", "(I)I"⟩ prog_1_method_5_code 2 (some .int) ∈ wT := tw 279 (by decide +kernel) rfl
theorem tw_282 : Cond.instanceMethod ⟨"PointAnswers$Bundle", "takeBack", "(I)I"⟩ ∈ wT := tw 282 (by decide +kernel) rfl
theorem tw_283 : Cond.code ⟨"PointAnswers$Bundle", "takeBack", "(I)I"⟩ prog_2_method_10_code 3 (some .int) ∈ wT := tw 283 (by decide +kernel) rfl
theorem tw_284 : Cond.methodLink "PointAnswers$Bundle" 76 ⟨"PointAnswers$Bundle", "standing", "()I"⟩ ∈ wT := tw 284 (by decide +kernel) rfl
theorem tw_286 : Cond.instanceMethod ⟨"PointAnswers$Bundle", "standing", "()I"⟩ ∈ wT := tw 286 (by decide +kernel) rfl
theorem tw_287 : Cond.code ⟨"PointAnswers$Bundle", "standing", "()I"⟩ prog_2_method_25_code 1 (some .int) ∈ wT := tw 287 (by decide +kernel) rfl
theorem tw_288 : Cond.methodLink "PointAnswers$Bundle" 109 ⟨"PointAnswers$Bundle", "out", "()I"⟩ ∈ wT := tw 288 (by decide +kernel) rfl
theorem tw_290 : Cond.instanceMethod ⟨"PointAnswers$Bundle", "out", "()I"⟩ ∈ wT := tw 290 (by decide +kernel) rfl
theorem tw_291 : Cond.code ⟨"PointAnswers$Bundle", "out", "()I"⟩ prog_2_method_24_code 1 (some .int) ∈ wT := tw 291 (by decide +kernel) rfl
theorem tw_292 : Cond.methodLink "PointAnswers$Bundle" 98 ⟨"PointAnswers$Bundle", "withdrawn", "()I"⟩ ∈ wT := tw 292 (by decide +kernel) rfl
theorem tw_294 : Cond.instanceMethod ⟨"PointAnswers$Bundle", "withdrawn", "()I"⟩ ∈ wT := tw 294 (by decide +kernel) rfl
theorem tw_295 : Cond.code ⟨"PointAnswers$Bundle", "withdrawn", "()I"⟩ prog_2_method_20_code 4 (some .int) ∈ wT := tw 295 (by decide +kernel) rfl
theorem tw_296 : Cond.methodLink "PointAnswers$Bundle" 100 ⟨"PointAnswers$Bundle", "struck", "()I"⟩ ∈ wT := tw 296 (by decide +kernel) rfl
theorem tw_298 : Cond.instanceMethod ⟨"PointAnswers$Bundle", "struck", "()I"⟩ ∈ wT := tw 298 (by decide +kernel) rfl
theorem tw_299 : Cond.code ⟨"PointAnswers$Bundle", "struck", "()I"⟩ prog_2_method_21_code 6 (some .int) ∈ wT := tw 299 (by decide +kernel) rfl
theorem tw_300 : Cond.methodLink "PointAnswers$Bundle" 103 ⟨"PointAnswers$Bundle", "lapsedOn", "(I)I"⟩ ∈ wT := tw 300 (by decide +kernel) rfl
theorem tw_302 : Cond.instanceMethod ⟨"PointAnswers$Bundle", "lapsedOn", "(I)I"⟩ ∈ wT := tw 302 (by decide +kernel) rfl
theorem tw_303 : Cond.code ⟨"PointAnswers$Bundle", "lapsedOn", "(I)I"⟩ prog_2_method_22_code 5 (some .int) ∈ wT := tw 303 (by decide +kernel) rfl
theorem tw_304 : Cond.methodLink "PointAnswers$Bundle" 106 ⟨"PointAnswers$Bundle", "baseless", "()I"⟩ ∈ wT := tw 304 (by decide +kernel) rfl
theorem tw_306 : Cond.instanceMethod ⟨"PointAnswers$Bundle", "baseless", "()I"⟩ ∈ wT := tw 306 (by decide +kernel) rfl
theorem tw_307 : Cond.code ⟨"PointAnswers$Bundle", "baseless", "()I"⟩ prog_2_method_23_code 4 (some .int) ∈ wT := tw 307 (by decide +kernel) rfl
theorem tw_308 : Cond.methodLink "PointAnswers$Bundle" 112 ⟨"PointAnswers$Bundle", "standingIf", "(II)I"⟩ ∈ wT := tw 308 (by decide +kernel) rfl
theorem tw_310 : Cond.instanceMethod ⟨"PointAnswers$Bundle", "standingIf", "(II)I"⟩ ∈ wT := tw 310 (by decide +kernel) rfl
theorem tw_311 : Cond.code ⟨"PointAnswers$Bundle", "standingIf", "(II)I"⟩ prog_2_method_27_code 6 (some .int) ∈ wT := tw 311 (by decide +kernel) rfl
theorem tw_313 : Cond.static ⟨"PointAnswers", "has", "(II)Z"⟩ ∈ wT := tw 313 (by decide +kernel) rfl
theorem tw_314 : Cond.code ⟨"PointAnswers", "has", "(II)Z"⟩ prog_1_method_27_code 2 (some .boolean) ∈ wT := tw 314 (by decide +kernel) rfl
theorem tw_315 : Cond.methodLink "PointAnswers$Bundle" 95 ⟨"PointAnswers$Bundle", "targetOf", "(I)I"⟩ ∈ wT := tw 315 (by decide +kernel) rfl
theorem tw_317 : Cond.instanceMethod ⟨"PointAnswers$Bundle", "targetOf", "(I)I"⟩ ∈ wT := tw 317 (by decide +kernel) rfl
theorem tw_318 : Cond.code ⟨"PointAnswers$Bundle", "targetOf", "(I)I"⟩ prog_2_method_18_code 3 (some .int) ∈ wT := tw 318 (by decide +kernel) rfl
theorem tw_319 : Cond.methodLink "PointAnswers$Bundle" 80 ⟨"java/lang/Integer", "bitCount", "(I)I"⟩ ∈ wT := tw 319 (by decide +kernel) rfl
theorem tw_320 : Cond.static ⟨"java/lang/Integer", "bitCount", "(I)I"⟩ ∈ wT := tw 320 (by decide +kernel) rfl
theorem tw_321 : Cond.code ⟨"java/lang/Integer", "bitCount", "(I)I"⟩ prog_10_method_49_code 1 (some .int) ∈ wT := tw 321 (by decide +kernel) rfl
theorem tw_322 : Cond.constant "java/lang/Integer" 265 (1431655765) ∈ wT := tw 322 (by decide +kernel) rfl
theorem tw_323 : Cond.constant "java/lang/Integer" 266 (858993459) ∈ wT := tw 323 (by decide +kernel) rfl
theorem tw_324 : Cond.constant "java/lang/Integer" 267 (252645135) ∈ wT := tw 324 (by decide +kernel) rfl
theorem tw_325 : Cond.methodLink "PointAnswersLaw" 76 ⟨"PointAnswers", "renew", "(I)I"⟩ ∈ wT := tw 325 (by decide +kernel) rfl
theorem tw_326 : Cond.instanceMethod ⟨"PointAnswers", "renew", "(I)I"⟩ ∈ wT := tw 326 (by decide +kernel) rfl
theorem tw_327 : Cond.selects "PointAnswers" ⟨"PointAnswers", "renew", "(I)I"⟩ ⟨"PointAnswers", "renew", "(I)I"⟩ ∈ wT := tw 327 (by decide +kernel) rfl
theorem tw_328 : Cond.code ⟨"PointAnswers", "renew", "(I)I"⟩ prog_1_method_6_code 2 (some .int) ∈ wT := tw 328 (by decide +kernel) rfl
theorem tw_331 : Cond.instanceMethod ⟨"PointAnswers$Bundle", "prolong", "(I)I"⟩ ∈ wT := tw 331 (by decide +kernel) rfl
theorem tw_332 : Cond.code ⟨"PointAnswers$Bundle", "prolong", "(I)I"⟩ prog_2_method_11_code 4 (some .int) ∈ wT := tw 332 (by decide +kernel) rfl
theorem tw_333 : Cond.methodLink "PointAnswersLaw" 79 ⟨"PointAnswers", "overrule", "(I)I"⟩ ∈ wT := tw 333 (by decide +kernel) rfl
theorem tw_334 : Cond.instanceMethod ⟨"PointAnswers", "overrule", "(I)I"⟩ ∈ wT := tw 334 (by decide +kernel) rfl
theorem tw_335 : Cond.selects "PointAnswers" ⟨"PointAnswers", "overrule", "(I)I"⟩ ⟨"PointAnswers", "overrule", "(I)I"⟩ ∈ wT := tw 335 (by decide +kernel) rfl
theorem tw_336 : Cond.code ⟨"PointAnswers", "overrule", "(I)I"⟩ prog_1_method_7_code 2 (some .int) ∈ wT := tw 336 (by decide +kernel) rfl
theorem tw_339 : Cond.instanceMethod ⟨"PointAnswers$Bundle", "turnCase", "(I)I"⟩ ∈ wT := tw 339 (by decide +kernel) rfl
theorem tw_340 : Cond.code ⟨"PointAnswers$Bundle", "turnCase", "(I)I"⟩ prog_2_method_12_code 2 (some .int) ∈ wT := tw 340 (by decide +kernel) rfl
theorem tw_341 : Cond.methodLink "PointAnswersLaw" 82 ⟨"PointAnswers", "pass", "(I)I"⟩ ∈ wT := tw 341 (by decide +kernel) rfl
theorem tw_342 : Cond.instanceMethod ⟨"PointAnswers", "pass", "(I)I"⟩ ∈ wT := tw 342 (by decide +kernel) rfl
theorem tw_343 : Cond.selects "PointAnswers" ⟨"PointAnswers", "pass", "(I)I"⟩ ⟨"PointAnswers", "pass", "(I)I"⟩ ∈ wT := tw 343 (by decide +kernel) rfl
theorem tw_344 : Cond.code ⟨"PointAnswers", "pass", "(I)I"⟩ prog_1_method_8_code 2 (some .int) ∈ wT := tw 344 (by decide +kernel) rfl
theorem tw_347 : Cond.instanceMethod ⟨"PointAnswers$Bundle", "moveOn", "(I)I"⟩ ∈ wT := tw 347 (by decide +kernel) rfl
theorem tw_348 : Cond.code ⟨"PointAnswers$Bundle", "moveOn", "(I)I"⟩ prog_2_method_13_code 2 (some .int) ∈ wT := tw 348 (by decide +kernel) rfl
theorem tw_349 : Cond.methodLink "PointAnswersLaw" 59 ⟨"PointAnswersLaw", "cell", "([II)I"⟩ ∈ wT := tw 349 (by decide +kernel) rfl
theorem tw_350 : Cond.static ⟨"PointAnswersLaw", "cell", "([II)I"⟩ ∈ wT := tw 350 (by decide +kernel) rfl
theorem tw_351 : Cond.code ⟨"PointAnswersLaw", "cell", "([II)I"⟩ method_2_code 2 (some .int) ∈ wT := tw 351 (by decide +kernel) rfl
theorem tw_352 : Cond.constant "PointAnswersLaw" 7 (32452867) ∈ wT := tw 352 (by decide +kernel) rfl
theorem tw_353 : Cond.constant "PointAnswersLaw" 8 (15485863) ∈ wT := tw 353 (by decide +kernel) rfl
theorem tw_354 : Cond.methodLink "PointAnswersLaw" 63 ⟨"PointAnswersLaw", "low", "(II)I"⟩ ∈ wT := tw 354 (by decide +kernel) rfl
theorem tw_355 : Cond.static ⟨"PointAnswersLaw", "low", "(II)I"⟩ ∈ wT := tw 355 (by decide +kernel) rfl
theorem tw_356 : Cond.code ⟨"PointAnswersLaw", "low", "(II)I"⟩ method_3_code 2 (some .int) ∈ wT := tw 356 (by decide +kernel) rfl
theorem tw_357 : Cond.constant "PointAnswersLaw" 9 (2147483647) ∈ wT := tw 357 (by decide +kernel) rfl
theorem tw_358 : Cond.methodLink "PointAnswersLaw" 38 ⟨"PointAnswersLaw", "reasons", "([I[I[I[I[I[I[I[II)V"⟩ ∈ wT := tw 358 (by decide +kernel) rfl
theorem tw_359 : Cond.static ⟨"PointAnswersLaw", "reasons", "([I[I[I[I[I[I[I[II)V"⟩ ∈ wT := tw 359 (by decide +kernel) rfl
theorem tw_360 : Cond.code ⟨"PointAnswersLaw", "reasons", "([I[I[I[I[I[I[I[II)V"⟩ method_4_code 13 none ∈ wT := tw 360 (by decide +kernel) rfl
theorem tw_361 : Cond.methodLink "PointAnswersLaw" 88 ⟨"PointAnswersLaw", "points", "(LPointAnswers;[I[I[I[I[I[I[I[I[I)Z"⟩ ∈ wT := tw 361 (by decide +kernel) rfl
theorem tw_362 : Cond.static ⟨"PointAnswersLaw", "points", "(LPointAnswers;[I[I[I[I[I[I[I[I[I)Z"⟩ ∈ wT := tw 362 (by decide +kernel) rfl
theorem tw_364 : Cond.methodLink "PointAnswersLaw" 17 ⟨"PointAnswers", "of", "(II)I"⟩ ∈ wT := tw 364 (by decide +kernel) rfl
theorem tw_365 : Cond.instanceMethod ⟨"PointAnswers", "of", "(II)I"⟩ ∈ wT := tw 365 (by decide +kernel) rfl
theorem tw_366 : Cond.selects "PointAnswers" ⟨"PointAnswers", "of", "(II)I"⟩ ⟨"PointAnswers", "of", "(II)I"⟩ ∈ wT := tw 366 (by decide +kernel) rfl
theorem tw_367 : Cond.code ⟨"PointAnswers", "of", "(II)I"⟩ prog_1_method_9_code 4 (some .int) ∈ wT := tw 367 (by decide +kernel) rfl
theorem tw_370 : Cond.methodLink "PointAnswers" 105 ⟨"PointAnswers", "has", "(II)Z"⟩ ∈ wT := tw 370 (by decide +kernel) rfl
theorem tw_373 : Cond.instanceMethod ⟨"PointAnswers$Bundle", "reasonAgainst", "(I)I"⟩ ∈ wT := tw 373 (by decide +kernel) rfl
theorem tw_374 : Cond.code ⟨"PointAnswers$Bundle", "reasonAgainst", "(I)I"⟩ prog_2_method_28_code 2 (some .int) ∈ wT := tw 374 (by decide +kernel) rfl
theorem tw_377 : Cond.instanceMethod ⟨"PointAnswers$Bundle", "answersTo", "(I)I"⟩ ∈ wT := tw 377 (by decide +kernel) rfl
theorem tw_378 : Cond.code ⟨"PointAnswers$Bundle", "answersTo", "(I)I"⟩ prog_2_method_16_code 5 (some .int) ∈ wT := tw 378 (by decide +kernel) rfl
theorem tw_379 : Cond.methodLink "PointAnswers" 115 ⟨"PointAnswers", "lowestOf", "(I)I"⟩ ∈ wT := tw 379 (by decide +kernel) rfl
theorem tw_380 : Cond.static ⟨"PointAnswers", "lowestOf", "(I)I"⟩ ∈ wT := tw 380 (by decide +kernel) rfl
theorem tw_381 : Cond.code ⟨"PointAnswers", "lowestOf", "(I)I"⟩ prog_1_method_28_code 2 (some .int) ∈ wT := tw 381 (by decide +kernel) rfl
theorem tw_384 : Cond.instanceMethod ⟨"PointAnswers$Bundle", "depthOf", "(I)I"⟩ ∈ wT := tw 384 (by decide +kernel) rfl
theorem tw_385 : Cond.code ⟨"PointAnswers$Bundle", "depthOf", "(I)I"⟩ prog_2_method_29_code 4 (some .int) ∈ wT := tw 385 (by decide +kernel) rfl
theorem tw_388 : Cond.instanceMethod ⟨"PointAnswers$Bundle", "daysLeft", "(LPointAnswers$Point;)I"⟩ ∈ wT := tw 388 (by decide +kernel) rfl
theorem tw_389 : Cond.code ⟨"PointAnswers$Bundle", "daysLeft", "(LPointAnswers$Point;)I"⟩ prog_2_method_30_code 3 (some .int) ∈ wT := tw 389 (by decide +kernel) rfl
theorem tw_390 : Cond.methodLink "PointAnswersLaw" 21 ⟨"PointAnswers", "count", "(I)I"⟩ ∈ wT := tw 390 (by decide +kernel) rfl
theorem tw_391 : Cond.instanceMethod ⟨"PointAnswers", "count", "(I)I"⟩ ∈ wT := tw 391 (by decide +kernel) rfl
theorem tw_392 : Cond.selects "PointAnswers" ⟨"PointAnswers", "count", "(I)I"⟩ ⟨"PointAnswers", "count", "(I)I"⟩ ∈ wT := tw 392 (by decide +kernel) rfl
theorem tw_393 : Cond.code ⟨"PointAnswers", "count", "(I)I"⟩ prog_1_method_10_code 2 (some .int) ∈ wT := tw 393 (by decide +kernel) rfl
theorem tw_396 : Cond.instanceMethod ⟨"PointAnswers$Bundle", "claims", "()I"⟩ ∈ wT := tw 396 (by decide +kernel) rfl
theorem tw_397 : Cond.code ⟨"PointAnswers$Bundle", "claims", "()I"⟩ prog_2_method_15_code 1 (some .int) ∈ wT := tw 397 (by decide +kernel) rfl
theorem tw_398 : Cond.methodLink "PointAnswers$Bundle" 89 ⟨"PointAnswers$Bundle", "answersTo", "(I)I"⟩ ∈ wT := tw 398 (by decide +kernel) rfl
theorem tw_399 : Cond.methodLink "PointAnswers" 134 ⟨"java/lang/Integer", "bitCount", "(I)I"⟩ ∈ wT := tw 399 (by decide +kernel) rfl
theorem tw_403 : Cond.instanceMethod ⟨"PointAnswers$Bundle", "answered", "()I"⟩ ∈ wT := tw 403 (by decide +kernel) rfl
theorem tw_404 : Cond.code ⟨"PointAnswers$Bundle", "answered", "()I"⟩ prog_2_method_26_code 1 (some .int) ∈ wT := tw 404 (by decide +kernel) rfl
theorem tw_405 : Cond.methodLink "PointAnswers$Bundle" 92 ⟨"PointAnswers$Bundle", "all", "()I"⟩ ∈ wT := tw 405 (by decide +kernel) rfl
theorem tw_407 : Cond.instanceMethod ⟨"PointAnswers$Bundle", "all", "()I"⟩ ∈ wT := tw 407 (by decide +kernel) rfl
theorem tw_408 : Cond.code ⟨"PointAnswers$Bundle", "all", "()I"⟩ prog_2_method_14_code 1 (some .int) ∈ wT := tw 408 (by decide +kernel) rfl
theorem tw_413 : Cond.instanceMethod ⟨"PointAnswers$Bundle", "pagesOf", "(II)I"⟩ ∈ wT := tw 413 (by decide +kernel) rfl
theorem tw_414 : Cond.code ⟨"PointAnswers$Bundle", "pagesOf", "(II)I"⟩ prog_2_method_31_code 6 (some .int) ∈ wT := tw 414 (by decide +kernel) rfl
theorem tw_415 : Cond.methodLink "PointAnswersLaw" 25 ⟨"PointAnswersLaw", "bits", "(I)I"⟩ ∈ wT := tw 415 (by decide +kernel) rfl
theorem tw_416 : Cond.static ⟨"PointAnswersLaw", "bits", "(I)I"⟩ ∈ wT := tw 416 (by decide +kernel) rfl
theorem tw_417 : Cond.code ⟨"PointAnswersLaw", "bits", "(I)I"⟩ method_5_code 3 (some .int) ∈ wT := tw 417 (by decide +kernel) rfl
theorem tw_418 : Cond.methodLink "PointAnswersLaw" 30 ⟨"PointAnswers", "points", "(I)I"⟩ ∈ wT := tw 418 (by decide +kernel) rfl
theorem tw_419 : Cond.instanceMethod ⟨"PointAnswers", "points", "(I)I"⟩ ∈ wT := tw 419 (by decide +kernel) rfl
theorem tw_420 : Cond.selects "PointAnswers" ⟨"PointAnswers", "points", "(I)I"⟩ ⟨"PointAnswers", "points", "(I)I"⟩ ∈ wT := tw 420 (by decide +kernel) rfl
theorem tw_421 : Cond.code ⟨"PointAnswers", "points", "(I)I"⟩ prog_1_method_11_code 2 (some .int) ∈ wT := tw 421 (by decide +kernel) rfl
theorem tw_424 : Cond.instanceMethod ⟨"PointAnswers$Bundle", "ofSide", "(I)I"⟩ ∈ wT := tw 424 (by decide +kernel) rfl
theorem tw_425 : Cond.code ⟨"PointAnswers$Bundle", "ofSide", "(I)I"⟩ prog_2_method_19_code 5 (some .int) ∈ wT := tw 425 (by decide +kernel) rfl
theorem tw_426 : Cond.methodLink "PointAnswersLaw" 33 ⟨"PointAnswers", "share", "(I)I"⟩ ∈ wT := tw 426 (by decide +kernel) rfl
theorem tw_427 : Cond.instanceMethod ⟨"PointAnswers", "share", "(I)I"⟩ ∈ wT := tw 427 (by decide +kernel) rfl
theorem tw_428 : Cond.selects "PointAnswers" ⟨"PointAnswers", "share", "(I)I"⟩ ⟨"PointAnswers", "share", "(I)I"⟩ ∈ wT := tw 428 (by decide +kernel) rfl
theorem tw_429 : Cond.code ⟨"PointAnswers", "share", "(I)I"⟩ prog_1_method_12_code 3 (some .int) ∈ wT := tw 429 (by decide +kernel) rfl
theorem tw_430 : Cond.methodLink "PointAnswers" 172 ⟨"PointAnswers", "floatBits", "(II)I"⟩ ∈ wT := tw 430 (by decide +kernel) rfl
theorem tw_431 : Cond.static ⟨"PointAnswers", "floatBits", "(II)I"⟩ ∈ wT := tw 431 (by decide +kernel) rfl
theorem tw_432 : Cond.code ⟨"PointAnswers", "floatBits", "(II)I"⟩ prog_1_method_29_code 9 (some .int) ∈ wT := tw 432 (by decide +kernel) rfl
theorem tw_433 : Cond.constantLong "PointAnswers" 257 (2) ∈ wT := tw 433 (by decide +kernel) rfl
theorem tw_434 : Cond.constantLong "PointAnswers" 259 (8388608) ∈ wT := tw 434 (by decide +kernel) rfl
theorem tw_435 : Cond.methodLink "PointAnswersLaw" 36 ⟨"PointAnswersLaw", "share", "(II)I"⟩ ∈ wT := tw 435 (by decide +kernel) rfl
theorem tw_436 : Cond.static ⟨"PointAnswersLaw", "share", "(II)I"⟩ ∈ wT := tw 436 (by decide +kernel) rfl
theorem tw_437 : Cond.code ⟨"PointAnswersLaw", "share", "(II)I"⟩ method_6_code 9 (some .int) ∈ wT := tw 437 (by decide +kernel) rfl
theorem tw_438 : Cond.constantLong "PointAnswersLaw" 10 (2) ∈ wT := tw 438 (by decide +kernel) rfl
theorem tw_439 : Cond.constantLong "PointAnswersLaw" 12 (8388608) ∈ wT := tw 439 (by decide +kernel) rfl
theorem tw_440 : Cond.constant "PointAnswersLaw" 14 (8388608) ∈ wT := tw 440 (by decide +kernel) rfl
theorem tw_441 : Cond.methodLink "PointAnswersLaw" 91 ⟨"PointAnswersLaw", "tries", "(LPointAnswers;[I[I[I[I[I[I[I[I)Z"⟩ ∈ wT := tw 441 (by decide +kernel) rfl
theorem tw_442 : Cond.static ⟨"PointAnswersLaw", "tries", "(LPointAnswers;[I[I[I[I[I[I[I[I)Z"⟩ ∈ wT := tw 442 (by decide +kernel) rfl
theorem tw_444 : Cond.methodLink "PointAnswersLaw" 42 ⟨"PointAnswers", "bestAnswer", "(I)I"⟩ ∈ wT := tw 444 (by decide +kernel) rfl
theorem tw_445 : Cond.instanceMethod ⟨"PointAnswers", "bestAnswer", "(I)I"⟩ ∈ wT := tw 445 (by decide +kernel) rfl
theorem tw_446 : Cond.selects "PointAnswers" ⟨"PointAnswers", "bestAnswer", "(I)I"⟩ ⟨"PointAnswers", "bestAnswer", "(I)I"⟩ ∈ wT := tw 446 (by decide +kernel) rfl
theorem tw_447 : Cond.code ⟨"PointAnswers", "bestAnswer", "(I)I"⟩ prog_1_method_15_code 9 (some .int) ∈ wT := tw 447 (by decide +kernel) rfl
theorem tw_451 : Cond.instanceMethod ⟨"PointAnswers$Bundle", "withoutAnswers", "()I"⟩ ∈ wT := tw 451 (by decide +kernel) rfl
theorem tw_452 : Cond.code ⟨"PointAnswers$Bundle", "withoutAnswers", "()I"⟩ prog_2_method_17_code 3 (some .int) ∈ wT := tw 452 (by decide +kernel) rfl
theorem tw_453 : Cond.methodLink "PointAnswersLaw" 45 ⟨"PointAnswers", "toFall", "(I)I"⟩ ∈ wT := tw 453 (by decide +kernel) rfl
theorem tw_454 : Cond.instanceMethod ⟨"PointAnswers", "toFall", "(I)I"⟩ ∈ wT := tw 454 (by decide +kernel) rfl
theorem tw_455 : Cond.selects "PointAnswers" ⟨"PointAnswers", "toFall", "(I)I"⟩ ⟨"PointAnswers", "toFall", "(I)I"⟩ ∈ wT := tw 455 (by decide +kernel) rfl
theorem tw_456 : Cond.code ⟨"PointAnswers", "toFall", "(I)I"⟩ prog_1_method_13_code 2 (some .int) ∈ wT := tw 456 (by decide +kernel) rfl
theorem tw_459 : Cond.instanceMethod ⟨"PointAnswers$Costs", "weigh", "(LPointAnswers$Bundle;)V"⟩ ∈ wT := tw 459 (by decide +kernel) rfl
theorem tw_460 : Cond.code ⟨"PointAnswers$Costs", "weigh", "(LPointAnswers$Bundle;)V"⟩ prog_3_method_2_code 7 none ∈ wT := tw 460 (by decide +kernel) rfl
theorem tw_463 : Cond.methodLink "PointAnswers$Costs" 27 ⟨"java/lang/Math", "min", "(II)I"⟩ ∈ wT := tw 463 (by decide +kernel) rfl
theorem tw_464 : Cond.static ⟨"java/lang/Math", "min", "(II)I"⟩ ∈ wT := tw 464 (by decide +kernel) rfl
theorem tw_465 : Cond.code ⟨"java/lang/Math", "min", "(II)I"⟩ prog_11_method_69_code 2 (some .int) ∈ wT := tw 465 (by decide +kernel) rfl
theorem tw_468 : Cond.methodLink "PointAnswers$Costs" 47 ⟨"PointAnswers$Costs", "addToTarget", "(III)V"⟩ ∈ wT := tw 468 (by decide +kernel) rfl
theorem tw_470 : Cond.instanceMethod ⟨"PointAnswers$Costs", "addToTarget", "(III)V"⟩ ∈ wT := tw 470 (by decide +kernel) rfl
theorem tw_471 : Cond.code ⟨"PointAnswers$Costs", "addToTarget", "(III)V"⟩ prog_3_method_3_code 4 none ∈ wT := tw 471 (by decide +kernel) rfl
theorem tw_474 : Cond.instanceMethod ⟨"PointAnswers$Costs", "answersToFall", "(I)I"⟩ ∈ wT := tw 474 (by decide +kernel) rfl
theorem tw_475 : Cond.code ⟨"PointAnswers$Costs", "answersToFall", "(I)I"⟩ prog_3_method_4_code 2 (some .int) ∈ wT := tw 475 (by decide +kernel) rfl
theorem tw_476 : Cond.methodLink "PointAnswers$Costs" 51 ⟨"PointAnswers$Costs", "reachable", "(I)I"⟩ ∈ wT := tw 476 (by decide +kernel) rfl
theorem tw_477 : Cond.static ⟨"PointAnswers$Costs", "reachable", "(I)I"⟩ ∈ wT := tw 477 (by decide +kernel) rfl
theorem tw_478 : Cond.code ⟨"PointAnswers$Costs", "reachable", "(I)I"⟩ prog_3_method_6_code 1 (some .int) ∈ wT := tw 478 (by decide +kernel) rfl
theorem tw_479 : Cond.methodLink "PointAnswersLaw" 48 ⟨"PointAnswers", "toStand", "(I)I"⟩ ∈ wT := tw 479 (by decide +kernel) rfl
theorem tw_480 : Cond.instanceMethod ⟨"PointAnswers", "toStand", "(I)I"⟩ ∈ wT := tw 480 (by decide +kernel) rfl
theorem tw_481 : Cond.selects "PointAnswers" ⟨"PointAnswers", "toStand", "(I)I"⟩ ⟨"PointAnswers", "toStand", "(I)I"⟩ ∈ wT := tw 481 (by decide +kernel) rfl
theorem tw_482 : Cond.code ⟨"PointAnswers", "toStand", "(I)I"⟩ prog_1_method_14_code 2 (some .int) ∈ wT := tw 482 (by decide +kernel) rfl
theorem tw_485 : Cond.instanceMethod ⟨"PointAnswers$Costs", "answersToStand", "(I)I"⟩ ∈ wT := tw 485 (by decide +kernel) rfl
theorem tw_486 : Cond.code ⟨"PointAnswers$Costs", "answersToStand", "(I)I"⟩ prog_3_method_5_code 2 (some .int) ∈ wT := tw 486 (by decide +kernel) rfl
theorem tw_487 : Cond.methodLink "PointAnswersLaw" 95 ⟨"PointAnswersLaw", "days", "(LPointAnswers;[I[I[I[I[I[I[I[I)Z"⟩ ∈ wT := tw 487 (by decide +kernel) rfl
theorem tw_488 : Cond.static ⟨"PointAnswersLaw", "days", "(LPointAnswers;[I[I[I[I[I[I[I[I)Z"⟩ ∈ wT := tw 488 (by decide +kernel) rfl
theorem tw_489 : Cond.code ⟨"PointAnswersLaw", "days", "(LPointAnswers;[I[I[I[I[I[I[I[I)Z"⟩ method_9_code 18 (some .boolean) ∈ wT := tw 489 (by decide +kernel) rfl
theorem tw_490 : Cond.methodLink "PointAnswersLaw" 51 ⟨"PointAnswers", "leastPages", "()I"⟩ ∈ wT := tw 490 (by decide +kernel) rfl
theorem tw_491 : Cond.instanceMethod ⟨"PointAnswers", "leastPages", "()I"⟩ ∈ wT := tw 491 (by decide +kernel) rfl
theorem tw_492 : Cond.selects "PointAnswers" ⟨"PointAnswers", "leastPages", "()I"⟩ ⟨"PointAnswers", "leastPages", "()I"⟩ ∈ wT := tw 492 (by decide +kernel) rfl
theorem tw_493 : Cond.code ⟨"PointAnswers", "leastPages", "()I"⟩ prog_1_method_17_code 3 (some .int) ∈ wT := tw 493 (by decide +kernel) rfl
theorem tw_494 : Cond.methodLink "PointAnswers" 196 ⟨"java/lang/Math", "max", "(II)I"⟩ ∈ wT := tw 494 (by decide +kernel) rfl
theorem tw_495 : Cond.static ⟨"java/lang/Math", "max", "(II)I"⟩ ∈ wT := tw 495 (by decide +kernel) rfl
theorem tw_496 : Cond.code ⟨"java/lang/Math", "max", "(II)I"⟩ prog_11_method_65_code 2 (some .int) ∈ wT := tw 496 (by decide +kernel) rfl
theorem tw_497 : Cond.methodLink "PointAnswersLaw" 55 ⟨"PointAnswers", "changesIn", "()I"⟩ ∈ wT := tw 497 (by decide +kernel) rfl
theorem tw_498 : Cond.instanceMethod ⟨"PointAnswers", "changesIn", "()I"⟩ ∈ wT := tw 498 (by decide +kernel) rfl
theorem tw_499 : Cond.selects "PointAnswers" ⟨"PointAnswers", "changesIn", "()I"⟩ ⟨"PointAnswers", "changesIn", "()I"⟩ ∈ wT := tw 499 (by decide +kernel) rfl
theorem tw_500 : Cond.code ⟨"PointAnswers", "changesIn", "()I"⟩ prog_1_method_16_code 4 (some .int) ∈ wT := tw 500 (by decide +kernel) rfl
end
section
abbrev cL_cell : ByteArray := method_2_code
def yL_cell : MethodName := ⟨"PointAnswersLaw", "cell", "([II)I"⟩
abbrev wsL_cell : List Cond := .code yL_cell cL_cell 2 (some .int) :: wT
def iL_cell : List (Nat × Instr × Nat) := [(0, .iload_n 1, 1), (1, .aload_n 0, 1), (2, .arraylength, 1), (3, .if_icmp .ge 9, 3), (6, .aload_n 0, 1), (7, .iload_n 1, 1), (8, .iaload, 1), (9, .goto 10, 3), (12, .ldc 7, 2), (14, .iload_n 1, 1), (15, .imul, 1), (16, .ldc 8, 2), (18, .iadd, 1), (19, .ireturn, 1)]
theorem dL_cell : iL_cell.all (fun q => decide (decode cL_cell q.1 = .ok q.2)) = true := by decide +kernel
abbrev cL_low : ByteArray := method_3_code
def yL_low : MethodName := ⟨"PointAnswersLaw", "low", "(II)I"⟩
abbrev wsL_low : List Cond := .code yL_low cL_low 2 (some .int) :: wT
def iL_low : List (Nat × Instr × Nat) := [(0, .iload_n 0, 1), (1, .ldc 9, 2), (3, .iand, 1), (4, .iload_n 1, 1), (5, .irem, 1), (6, .ireturn, 1)]
theorem dL_low : iL_low.all (fun q => decide (decode cL_low q.1 = .ok q.2)) = true := by decide +kernel
abbrev cL_bits : ByteArray := method_5_code
def yL_bits : MethodName := ⟨"PointAnswersLaw", "bits", "(I)I"⟩
abbrev wsL_bits : List Cond := .code yL_bits cL_bits 3 (some .int) :: wT
def iL_bits : List (Nat × Instr × Nat) := [(0, .iconst 0, 1), (1, .istore_n 1, 1), (2, .iconst 0, 1), (3, .istore_n 2, 1), (4, .iload_n 2, 1), (5, .bipush 24, 2), (7, .if_icmp .ge 17, 3), (10, .iload_n 1, 1), (11, .iload_n 0, 1), (12, .iload_n 2, 1), (13, .ishr, 1), (14, .iconst 1, 1), (15, .iand, 1), (16, .iadd, 1), (17, .istore_n 1, 1), (18, .iinc 2 1, 3), (21, .goto (-17), 3), (24, .iload_n 1, 1), (25, .ireturn, 1)]
theorem dL_bits : iL_bits.all (fun q => decide (decode cL_bits q.1 = .ok q.2)) = true := by decide +kernel
abbrev cL_share : ByteArray := method_6_code
def yL_share : MethodName := ⟨"PointAnswersLaw", "share", "(II)I"⟩
abbrev wsL_share : List Cond := .code yL_share cL_share 9 (some .int) :: wT
def iL_share : List (Nat × Instr × Nat) := [(0, .iload_n 0, 1), (1, .ifCond .ne 5, 3), (4, .iconst 0, 1), (5, .ireturn, 1), (6, .iload_n 0, 1), (7, .i2l, 1), (8, .lstore_n 2, 1), (9, .bipush 127, 2), (11, .istore 4, 2), (13, .lload_n 2, 1), (14, .iload_n 1, 1), (15, .i2l, 1), (16, .lcmp, 1), (17, .ifCond .ge 15, 3), (20, .lload_n 2, 1), (21, .ldc2_w 10, 3), (24, .lmul, 1), (25, .lstore_n 2, 1), (26, .iinc 4 (-1), 3), (29, .goto (-16), 3), (32, .lload_n 2, 1), (33, .ldc2_w 12, 3), (36, .lmul, 1), (37, .iload_n 1, 1), (38, .i2l, 1), (39, .ldiv, 1), (40, .lstore 5, 2), (42, .lload_n 2, 1), (43, .ldc2_w 12, 3), (46, .lmul, 1), (47, .iload_n 1, 1), (48, .i2l, 1), (49, .lrem, 1), (50, .lstore 7, 2), (52, .lload 5, 2), (54, .ldc2_w 10, 3), (57, .lload 7, 2), (59, .lmul, 1), (60, .iload_n 1, 1), (61, .i2l, 1), (62, .lcmp, 1), (63, .ifCond .gt 26, 3), (66, .ldc2_w 10, 3), (69, .lload 7, 2), (71, .lmul, 1), (72, .iload_n 1, 1), (73, .i2l, 1), (74, .lcmp, 1), (75, .ifCond .ne 18, 3), (78, .lload 5, 2), (80, .ldc2_w 10, 3), (83, .lrem, 1), (84, .lconst 1, 1), (85, .lcmp, 1), (86, .ifCond .ne 7, 3), (89, .lconst 1, 1), (90, .goto 4, 3), (93, .lconst 0, 1), (94, .ladd, 1), (95, .lstore 5, 2), (97, .iload 4, 2), (99, .ldc 14, 2), (101, .imul, 1), (102, .lload 5, 2), (104, .ldc2_w 12, 3), (107, .lsub, 1), (108, .l2i, 1), (109, .iadd, 1), (110, .ireturn, 1)]
theorem dL_share : iL_share.all (fun q => decide (decode cL_share q.1 = .ok q.2)) = true := by decide +kernel
abbrev cL_reasons : ByteArray := method_4_code
def yL_reasons : MethodName := ⟨"PointAnswersLaw", "reasons", "([I[I[I[I[I[I[I[II)V"⟩
abbrev wsL_reasons : List Cond := .code yL_reasons cL_reasons 13 none :: wT
def iL_reasons : List (Nat × Instr × Nat) := [(0, .iconst 0, 1), (1, .istore 9, 2), (3, .iload 9, 2), (5, .aload 7, 2), (7, .iconst 3, 1), (8, .iaload, 1), (9, .if_icmp .ge 185, 3), (12, .aload_n 1, 1), (13, .iload 9, 2), (15, .iaload, 1), (16, .istore 10, 2), (18, .iconst 0, 1), (19, .istore 11, 2), (21, .iload 11, 2), (23, .iload 9, 2), (25, .if_icmp .ge 51, 3), (28, .iload 10, 2), (30, .aload_n 0, 1), (31, .iload 11, 2), (33, .iaload, 1), (34, .aload_n 0, 1), (35, .iload 9, 2), (37, .iaload, 1), (38, .if_icmp .ne 28, 3), (41, .aload 6, 2), (43, .iload 11, 2), (45, .iaload, 1), (46, .iconst 1, 1), (47, .if_icmp .eq 19, 3), (50, .aload 6, 2), (52, .iload 11, 2), (54, .iaload, 1), (55, .iconst 2, 1), (56, .if_icmp .eq 10, 3), (59, .aload_n 1, 1), (60, .iload 11, 2), (62, .iaload, 1), (63, .goto 4, 3), (66, .iconst 0, 1), (67, .iadd, 1), (68, .istore 10, 2), (70, .iinc 11 1, 3), (73, .goto (-52), 3), (76, .aload_n 3, 1), (77, .iload 9, 2), (79, .iaload, 1), (80, .ifCond .lt 23, 3), (83, .aload_n 2, 1), (84, .iload 9, 2), (86, .iaload, 1), (87, .aload 7, 2), (89, .iconst 0, 1), (90, .iaload, 1), (91, .iadd, 1), (92, .aload 7, 2), (94, .iconst 2, 1), (95, .iaload, 1), (96, .if_icmp .ge 7, 3), (99, .iconst 1, 1), (100, .goto 4, 3), (103, .iconst 0, 1), (104, .istore 11, 2), (106, .aload 4, 2), (108, .iload 9, 2), (110, .iaload, 1), (111, .ifCond .le 24, 3), (114, .aload 4, 2), (116, .iload 9, 2), (118, .iaload, 1), (119, .aload 7, 2), (121, .iconst 4, 1), (122, .iaload, 1), (123, .ior, 1), (124, .aload 7, 2), (126, .iconst 4, 1), (127, .iaload, 1), (128, .if_icmp .ne 7, 3), (131, .iconst 1, 1), (132, .goto 4, 3), (135, .iconst 0, 1), (136, .istore 12, 2), (138, .aload 6, 2), (140, .iload 9, 2), (142, .aload 5, 2), (144, .iload 9, 2), (146, .iaload, 1), (147, .iconst 1, 1), (148, .if_icmp .ne 7, 3), (151, .iconst 1, 1), (152, .goto 35, 3), (155, .iload 10, 2), (157, .aload 7, 2), (159, .iconst 1, 1), (160, .iaload, 1), (161, .if_icmp .le 7, 3), (164, .iconst 2, 1), (165, .goto 22, 3), (168, .iload 11, 2), (170, .ifCond .eq 7, 3), (173, .iconst 3, 1), (174, .goto 13, 3), (177, .iload 12, 2), (179, .ifCond .eq 7, 3), (182, .iconst 4, 1), (183, .goto 4, 3), (186, .iconst 0, 1), (187, .iastore, 1), (188, .iinc 9 1, 3), (191, .goto (-188), 3), (194, .aload 7, 2), (196, .iconst 3, 1), (197, .iaload, 1), (198, .iconst 1, 1), (199, .isub, 1), (200, .istore 9, 2), (202, .iload 9, 2), (204, .ifCond .lt 89, 3), (207, .aload 6, 2), (209, .iload 9, 2), (211, .iaload, 1), (212, .ifCond .ne 75, 3), (215, .iload 8, 2), (217, .iload 9, 2), (219, .ishr, 1), (220, .iconst 1, 1), (221, .iand, 1), (222, .istore 10, 2), (224, .iload 9, 2), (226, .iconst 1, 1), (227, .iadd, 1), (228, .istore 11, 2), (230, .iload 11, 2), (232, .aload 7, 2), (234, .iconst 3, 1), (235, .iaload, 1), (236, .if_icmp .ge 36, 3), (239, .iload 10, 2), (241, .aload_n 3, 1), (242, .iload 11, 2), (244, .iaload, 1), (245, .iload 9, 2), (247, .if_icmp .ne 15, 3), (250, .aload 6, 2), (252, .iload 11, 2), (254, .iaload, 1), (255, .ifCond .ne 7, 3), (258, .iconst 1, 1), (259, .goto 4, 3), (262, .iconst 0, 1), (263, .iadd, 1), (264, .istore 10, 2), (266, .iinc 11 1, 3), (269, .goto (-39), 3), (272, .aload 6, 2), (274, .iload 9, 2), (276, .iload 10, 2), (278, .ifCond .le 7, 3), (281, .iconst 5, 1), (282, .goto 4, 3), (285, .iconst 0, 1), (286, .iastore, 1), (287, .iinc 9 (-1), 3), (290, .goto (-88), 3), (293, .return_, 1)]
def iL_reasons_0 : List (Nat × Instr × Nat) := [(0, .iconst 0, 1), (1, .istore 9, 2), (3, .iload 9, 2), (5, .aload 7, 2), (7, .iconst 3, 1), (8, .iaload, 1), (9, .if_icmp .ge 185, 3), (12, .aload_n 1, 1), (13, .iload 9, 2), (15, .iaload, 1), (16, .istore 10, 2), (18, .iconst 0, 1), (19, .istore 11, 2), (21, .iload 11, 2), (23, .iload 9, 2), (25, .if_icmp .ge 51, 3), (28, .iload 10, 2), (30, .aload_n 0, 1), (31, .iload 11, 2), (33, .iaload, 1), (34, .aload_n 0, 1), (35, .iload 9, 2), (37, .iaload, 1), (38, .if_icmp .ne 28, 3), (41, .aload 6, 2), (43, .iload 11, 2), (45, .iaload, 1), (46, .iconst 1, 1), (47, .if_icmp .eq 19, 3), (50, .aload 6, 2), (52, .iload 11, 2), (54, .iaload, 1), (55, .iconst 2, 1), (56, .if_icmp .eq 10, 3), (59, .aload_n 1, 1), (60, .iload 11, 2), (62, .iaload, 1), (63, .goto 4, 3), (66, .iconst 0, 1), (67, .iadd, 1)]
theorem dL_reasons_0 : iL_reasons_0.all (fun q => decide (decode cL_reasons q.1 = .ok q.2)) = true := by decide +kernel
def iL_reasons_1 : List (Nat × Instr × Nat) := [(68, .istore 10, 2), (70, .iinc 11 1, 3), (73, .goto (-52), 3), (76, .aload_n 3, 1), (77, .iload 9, 2), (79, .iaload, 1), (80, .ifCond .lt 23, 3), (83, .aload_n 2, 1), (84, .iload 9, 2), (86, .iaload, 1), (87, .aload 7, 2), (89, .iconst 0, 1), (90, .iaload, 1), (91, .iadd, 1), (92, .aload 7, 2), (94, .iconst 2, 1), (95, .iaload, 1), (96, .if_icmp .ge 7, 3), (99, .iconst 1, 1), (100, .goto 4, 3), (103, .iconst 0, 1), (104, .istore 11, 2), (106, .aload 4, 2), (108, .iload 9, 2), (110, .iaload, 1), (111, .ifCond .le 24, 3), (114, .aload 4, 2), (116, .iload 9, 2), (118, .iaload, 1), (119, .aload 7, 2), (121, .iconst 4, 1), (122, .iaload, 1), (123, .ior, 1), (124, .aload 7, 2), (126, .iconst 4, 1), (127, .iaload, 1), (128, .if_icmp .ne 7, 3), (131, .iconst 1, 1), (132, .goto 4, 3), (135, .iconst 0, 1)]
theorem dL_reasons_1 : iL_reasons_1.all (fun q => decide (decode cL_reasons q.1 = .ok q.2)) = true := by decide +kernel
def iL_reasons_2 : List (Nat × Instr × Nat) := [(136, .istore 12, 2), (138, .aload 6, 2), (140, .iload 9, 2), (142, .aload 5, 2), (144, .iload 9, 2), (146, .iaload, 1), (147, .iconst 1, 1), (148, .if_icmp .ne 7, 3), (151, .iconst 1, 1), (152, .goto 35, 3), (155, .iload 10, 2), (157, .aload 7, 2), (159, .iconst 1, 1), (160, .iaload, 1), (161, .if_icmp .le 7, 3), (164, .iconst 2, 1), (165, .goto 22, 3), (168, .iload 11, 2), (170, .ifCond .eq 7, 3), (173, .iconst 3, 1), (174, .goto 13, 3), (177, .iload 12, 2), (179, .ifCond .eq 7, 3), (182, .iconst 4, 1), (183, .goto 4, 3), (186, .iconst 0, 1), (187, .iastore, 1), (188, .iinc 9 1, 3), (191, .goto (-188), 3), (194, .aload 7, 2), (196, .iconst 3, 1), (197, .iaload, 1), (198, .iconst 1, 1), (199, .isub, 1), (200, .istore 9, 2), (202, .iload 9, 2), (204, .ifCond .lt 89, 3), (207, .aload 6, 2), (209, .iload 9, 2), (211, .iaload, 1)]
theorem dL_reasons_2 : iL_reasons_2.all (fun q => decide (decode cL_reasons q.1 = .ok q.2)) = true := by decide +kernel
def iL_reasons_3 : List (Nat × Instr × Nat) := [(212, .ifCond .ne 75, 3), (215, .iload 8, 2), (217, .iload 9, 2), (219, .ishr, 1), (220, .iconst 1, 1), (221, .iand, 1), (222, .istore 10, 2), (224, .iload 9, 2), (226, .iconst 1, 1), (227, .iadd, 1), (228, .istore 11, 2), (230, .iload 11, 2), (232, .aload 7, 2), (234, .iconst 3, 1), (235, .iaload, 1), (236, .if_icmp .ge 36, 3), (239, .iload 10, 2), (241, .aload_n 3, 1), (242, .iload 11, 2), (244, .iaload, 1), (245, .iload 9, 2), (247, .if_icmp .ne 15, 3), (250, .aload 6, 2), (252, .iload 11, 2), (254, .iaload, 1), (255, .ifCond .ne 7, 3), (258, .iconst 1, 1), (259, .goto 4, 3), (262, .iconst 0, 1), (263, .iadd, 1), (264, .istore 10, 2), (266, .iinc 11 1, 3), (269, .goto (-39), 3), (272, .aload 6, 2), (274, .iload 9, 2), (276, .iload 10, 2), (278, .ifCond .le 7, 3), (281, .iconst 5, 1), (282, .goto 4, 3), (285, .iconst 0, 1)]
theorem dL_reasons_3 : iL_reasons_3.all (fun q => decide (decode cL_reasons q.1 = .ok q.2)) = true := by decide +kernel
def iL_reasons_4 : List (Nat × Instr × Nat) := [(286, .iastore, 1), (287, .iinc 9 (-1), 3), (290, .goto (-88), 3), (293, .return_, 1)]
theorem dL_reasons_4 : iL_reasons_4.all (fun q => decide (decode cL_reasons q.1 = .ok q.2)) = true := by decide +kernel
set_option maxRecDepth 100000 in
theorem iL_reasons_e : iL_reasons = iL_reasons_0 ++ (iL_reasons_1 ++ (iL_reasons_2 ++ (iL_reasons_3 ++ (iL_reasons_4)))) := rfl
set_option maxRecDepth 100000 in
theorem dL_reasons : iL_reasons.all (fun q => decide (decode cL_reasons q.1 = .ok q.2)) = true := by
  rw [iL_reasons_e, List.all_append, List.all_append, List.all_append, List.all_append]
  rw [dL_reasons_0, dL_reasons_1, dL_reasons_2, dL_reasons_3, dL_reasons_4]
  rfl
abbrev cL_days : ByteArray := method_9_code
def yL_days : MethodName := ⟨"PointAnswersLaw", "days", "(LPointAnswers;[I[I[I[I[I[I[I[I)Z"⟩
abbrev wsL_days : List Cond := .code yL_days cL_days 18 (some .boolean) :: wT
def iL_days : List (Nat × Instr × Nat) := [(0, .bipush 24, 2), (2, .newarray .int, 2), (4, .astore 9, 2), (6, .aload 8, 2), (8, .iconst 2, 1), (9, .iaload, 1), (10, .istore 10, 2), (12, .bipush (-6), 2), (14, .istore 11, 2), (16, .bipush 62, 2), (18, .istore 12, 2), (20, .iload 12, 2), (22, .ifCond .le 111, 3), (25, .aload 8, 2), (27, .iconst 2, 1), (28, .iload 10, 2), (30, .iload 12, 2), (32, .iadd, 1), (33, .iastore, 1), (34, .aload_n 1, 1), (35, .aload_n 2, 1), (36, .aload_n 3, 1), (37, .aload 4, 2), (39, .aload 5, 2), (41, .aload 6, 2), (43, .aload 9, 2), (45, .aload 8, 2), (47, .iconst 0, 1), (48, .invokestatic 38, 3), (51, .iconst 0, 1), (52, .istore 13, 2), (54, .iconst 0, 1), (55, .istore 14, 2), (57, .iload 14, 2), (59, .aload 8, 2), (61, .iconst 3, 1), (62, .iaload, 1), (63, .if_icmp .ge 50, 3), (66, .iload 13, 2), (68, .ifCond .ne 32, 3), (71, .aload 9, 2), (73, .iload 14, 2), (75, .iaload, 1), (76, .ifCond .ne 7, 3), (79, .iconst 1, 1), (80, .goto 4, 3), (83, .iconst 0, 1), (84, .aload 7, 2), (86, .iload 14, 2), (88, .iaload, 1), (89, .ifCond .ne 7, 3), (92, .iconst 1, 1), (93, .goto 4, 3), (96, .iconst 0, 1), (97, .if_icmp .eq 7, 3), (100, .iconst 1, 1), (101, .goto 4, 3), (104, .iconst 0, 1), (105, .istore 13, 2), (107, .iinc 14 1, 3), (110, .goto (-53), 3), (113, .iload 13, 2), (115, .ifCond .eq 8, 3), (118, .iload 12, 2), (120, .goto 5, 3), (123, .iload 11, 2), (125, .istore 11, 2), (127, .iinc 12 (-1), 3), (130, .goto (-110), 3), (133, .aload 8, 2), (135, .iconst 2, 1), (136, .iload 10, 2), (138, .iastore, 1), (139, .aload_n 0, 1), (140, .invokevirtual 51, 3), (143, .istore 12, 2), (145, .aload 8, 2), (147, .iconst 1, 1), (148, .iaload, 1), (149, .istore 13, 2), (151, .aload_n 0, 1), (152, .invokevirtual 55, 3), (155, .iload 11, 2), (157, .if_icmp .ne 27, 3), (160, .iload 12, 2), (162, .bipush (-6), 2), (164, .if_icmp .eq 16, 3), (167, .iload 12, 2), (169, .iconst 1, 1), (170, .if_icmp .lt 14, 3), (173, .iload 12, 2), (175, .bipush 99, 2), (177, .if_icmp .gt 7, 3), (180, .iconst 1, 1), (181, .goto 4, 3), (184, .iconst 0, 1), (185, .istore 14, 2), (187, .iconst 0, 1), (188, .istore 15, 2), (190, .iload 15, 2), (192, .iconst 2, 1), (193, .if_icmp .ge 131, 3), (196, .iload 14, 2), (198, .ifCond .eq 126, 3), (201, .aload 8, 2), (203, .iconst 1, 1), (204, .iload 12, 2), (206, .bipush (-6), 2), (208, .if_icmp .ne 8, 3), (211, .bipush 99, 2), (213, .goto 8, 3), (216, .iload 12, 2), (218, .iload 15, 2), (220, .isub, 1), (221, .iastore, 1), (222, .aload_n 1, 1), (223, .aload_n 2, 1), (224, .aload_n 3, 1), (225, .aload 4, 2), (227, .aload 5, 2), (229, .aload 6, 2), (231, .aload 9, 2), (233, .aload 8, 2), (235, .iconst 0, 1), (236, .invokestatic 38, 3), (239, .iconst 0, 1), (240, .istore 16, 2), (242, .iconst 0, 1), (243, .istore 17, 2), (245, .iload 17, 2), (247, .aload 8, 2), (249, .iconst 3, 1), (250, .iaload, 1), (251, .if_icmp .ge 30, 3), (254, .iload 16, 2), (256, .ifCond .ne 12, 3), (259, .aload 9, 2), (261, .iload 17, 2), (263, .iaload, 1), (264, .iconst 2, 1), (265, .if_icmp .ne 7, 3), (268, .iconst 1, 1), (269, .goto 4, 3), (272, .iconst 0, 1), (273, .istore 16, 2), (275, .iinc 17 1, 3), (278, .goto (-33), 3), (281, .aload 8, 2), (283, .iconst 1, 1), (284, .iaload, 1), (285, .ifCond .eq 26, 3), (288, .iload 16, 2), (290, .iload 12, 2), (292, .bipush (-6), 2), (294, .if_icmp .eq 9, 3), (297, .iload 15, 2), (299, .iconst 1, 1), (300, .if_icmp .ne 7, 3), (303, .iconst 1, 1), (304, .goto 4, 3), (307, .iconst 0, 1), (308, .if_icmp .ne 7, 3), (311, .iconst 1, 1), (312, .goto 4, 3), (315, .iconst 0, 1), (316, .istore 14, 2), (318, .iinc 15 1, 3), (321, .goto (-131), 3), (324, .aload 8, 2), (326, .iconst 1, 1), (327, .iload 13, 2), (329, .iastore, 1), (330, .iload 14, 2), (332, .ireturn, 1)]
def iL_days_0 : List (Nat × Instr × Nat) := [(0, .bipush 24, 2), (2, .newarray .int, 2), (4, .astore 9, 2), (6, .aload 8, 2), (8, .iconst 2, 1), (9, .iaload, 1), (10, .istore 10, 2), (12, .bipush (-6), 2), (14, .istore 11, 2), (16, .bipush 62, 2), (18, .istore 12, 2), (20, .iload 12, 2), (22, .ifCond .le 111, 3), (25, .aload 8, 2), (27, .iconst 2, 1), (28, .iload 10, 2), (30, .iload 12, 2), (32, .iadd, 1), (33, .iastore, 1), (34, .aload_n 1, 1), (35, .aload_n 2, 1), (36, .aload_n 3, 1), (37, .aload 4, 2), (39, .aload 5, 2), (41, .aload 6, 2), (43, .aload 9, 2), (45, .aload 8, 2), (47, .iconst 0, 1), (48, .invokestatic 38, 3), (51, .iconst 0, 1), (52, .istore 13, 2), (54, .iconst 0, 1), (55, .istore 14, 2), (57, .iload 14, 2), (59, .aload 8, 2), (61, .iconst 3, 1), (62, .iaload, 1), (63, .if_icmp .ge 50, 3), (66, .iload 13, 2), (68, .ifCond .ne 32, 3)]
theorem dL_days_0 : iL_days_0.all (fun q => decide (decode cL_days q.1 = .ok q.2)) = true := by decide +kernel
def iL_days_1 : List (Nat × Instr × Nat) := [(71, .aload 9, 2), (73, .iload 14, 2), (75, .iaload, 1), (76, .ifCond .ne 7, 3), (79, .iconst 1, 1), (80, .goto 4, 3), (83, .iconst 0, 1), (84, .aload 7, 2), (86, .iload 14, 2), (88, .iaload, 1), (89, .ifCond .ne 7, 3), (92, .iconst 1, 1), (93, .goto 4, 3), (96, .iconst 0, 1), (97, .if_icmp .eq 7, 3), (100, .iconst 1, 1), (101, .goto 4, 3), (104, .iconst 0, 1), (105, .istore 13, 2), (107, .iinc 14 1, 3), (110, .goto (-53), 3), (113, .iload 13, 2), (115, .ifCond .eq 8, 3), (118, .iload 12, 2), (120, .goto 5, 3), (123, .iload 11, 2), (125, .istore 11, 2), (127, .iinc 12 (-1), 3), (130, .goto (-110), 3), (133, .aload 8, 2), (135, .iconst 2, 1), (136, .iload 10, 2), (138, .iastore, 1), (139, .aload_n 0, 1), (140, .invokevirtual 51, 3), (143, .istore 12, 2), (145, .aload 8, 2), (147, .iconst 1, 1), (148, .iaload, 1), (149, .istore 13, 2)]
theorem dL_days_1 : iL_days_1.all (fun q => decide (decode cL_days q.1 = .ok q.2)) = true := by decide +kernel
def iL_days_2 : List (Nat × Instr × Nat) := [(151, .aload_n 0, 1), (152, .invokevirtual 55, 3), (155, .iload 11, 2), (157, .if_icmp .ne 27, 3), (160, .iload 12, 2), (162, .bipush (-6), 2), (164, .if_icmp .eq 16, 3), (167, .iload 12, 2), (169, .iconst 1, 1), (170, .if_icmp .lt 14, 3), (173, .iload 12, 2), (175, .bipush 99, 2), (177, .if_icmp .gt 7, 3), (180, .iconst 1, 1), (181, .goto 4, 3), (184, .iconst 0, 1), (185, .istore 14, 2), (187, .iconst 0, 1), (188, .istore 15, 2), (190, .iload 15, 2), (192, .iconst 2, 1), (193, .if_icmp .ge 131, 3), (196, .iload 14, 2), (198, .ifCond .eq 126, 3), (201, .aload 8, 2), (203, .iconst 1, 1), (204, .iload 12, 2), (206, .bipush (-6), 2), (208, .if_icmp .ne 8, 3), (211, .bipush 99, 2), (213, .goto 8, 3), (216, .iload 12, 2), (218, .iload 15, 2), (220, .isub, 1), (221, .iastore, 1), (222, .aload_n 1, 1), (223, .aload_n 2, 1), (224, .aload_n 3, 1), (225, .aload 4, 2), (227, .aload 5, 2)]
theorem dL_days_2 : iL_days_2.all (fun q => decide (decode cL_days q.1 = .ok q.2)) = true := by decide +kernel
def iL_days_3 : List (Nat × Instr × Nat) := [(229, .aload 6, 2), (231, .aload 9, 2), (233, .aload 8, 2), (235, .iconst 0, 1), (236, .invokestatic 38, 3), (239, .iconst 0, 1), (240, .istore 16, 2), (242, .iconst 0, 1), (243, .istore 17, 2), (245, .iload 17, 2), (247, .aload 8, 2), (249, .iconst 3, 1), (250, .iaload, 1), (251, .if_icmp .ge 30, 3), (254, .iload 16, 2), (256, .ifCond .ne 12, 3), (259, .aload 9, 2), (261, .iload 17, 2), (263, .iaload, 1), (264, .iconst 2, 1), (265, .if_icmp .ne 7, 3), (268, .iconst 1, 1), (269, .goto 4, 3), (272, .iconst 0, 1), (273, .istore 16, 2), (275, .iinc 17 1, 3), (278, .goto (-33), 3), (281, .aload 8, 2), (283, .iconst 1, 1), (284, .iaload, 1), (285, .ifCond .eq 26, 3), (288, .iload 16, 2), (290, .iload 12, 2), (292, .bipush (-6), 2), (294, .if_icmp .eq 9, 3), (297, .iload 15, 2), (299, .iconst 1, 1), (300, .if_icmp .ne 7, 3), (303, .iconst 1, 1), (304, .goto 4, 3)]
theorem dL_days_3 : iL_days_3.all (fun q => decide (decode cL_days q.1 = .ok q.2)) = true := by decide +kernel
def iL_days_4 : List (Nat × Instr × Nat) := [(307, .iconst 0, 1), (308, .if_icmp .ne 7, 3), (311, .iconst 1, 1), (312, .goto 4, 3), (315, .iconst 0, 1), (316, .istore 14, 2), (318, .iinc 15 1, 3), (321, .goto (-131), 3), (324, .aload 8, 2), (326, .iconst 1, 1), (327, .iload 13, 2), (329, .iastore, 1), (330, .iload 14, 2), (332, .ireturn, 1)]
theorem dL_days_4 : iL_days_4.all (fun q => decide (decode cL_days q.1 = .ok q.2)) = true := by decide +kernel
set_option maxRecDepth 100000 in
theorem iL_days_e : iL_days = iL_days_0 ++ (iL_days_1 ++ (iL_days_2 ++ (iL_days_3 ++ (iL_days_4)))) := rfl
set_option maxRecDepth 100000 in
theorem dL_days : iL_days.all (fun q => decide (decode cL_days q.1 = .ok q.2)) = true := by
  rw [iL_days_e, List.all_append, List.all_append, List.all_append, List.all_append]
  rw [dL_days_0, dL_days_1, dL_days_2, dL_days_3, dL_days_4]
  rfl
end
section
abbrev cL_points : ByteArray := method_7_code
def yL_points : MethodName := ⟨"PointAnswersLaw", "points", "(LPointAnswers;[I[I[I[I[I[I[I[I[I)Z"⟩
abbrev wsL_points : List Cond := .code yL_points cL_points 19 (some .boolean) :: wT
def iL_points : List (Nat × Instr × Nat) := [(0, .bipush 6, 2), (2, .newarray .int, 2), (4, .astore 10, 2), (6, .iconst 0, 1), (7, .istore 11, 2), (9, .iconst 2, 1), (10, .newarray .int, 2), (12, .astore 12, 2), (14, .iconst 0, 1), (15, .istore 13, 2), (17, .iload 13, 2), (19, .aload 9, 2), (21, .iconst 3, 1), (22, .iaload, 1), (23, .if_icmp .ge 538, 3), (26, .iconst 0, 1), (27, .istore 14, 2), (29, .bipush (-6), 2), (31, .istore 15, 2), (33, .aload 9, 2), (35, .iconst 3, 1), (36, .iaload, 1), (37, .iconst 1, 1), (38, .isub, 1), (39, .istore 16, 2), (41, .iload 16, 2), (43, .iload 13, 2), (45, .if_icmp .le 59, 3), (48, .iload 14, 2), (50, .aload 5, 2), (52, .iload 16, 2), (54, .iaload, 1), (55, .iload 13, 2), (57, .if_icmp .ne 10, 3), (60, .iconst 1, 1), (61, .iload 16, 2), (63, .ishl, 1), (64, .goto 4, 3), (67, .iconst 0, 1), (68, .ior, 1), (69, .istore 14, 2), (71, .aload 5, 2), (73, .iload 16, 2), (75, .iaload, 1), (76, .iload 13, 2), (78, .if_icmp .ne 16, 3), (81, .aload 8, 2), (83, .iload 16, 2), (85, .iaload, 1), (86, .ifCond .ne 8, 3), (89, .iload 16, 2), (91, .goto 5, 3), (94, .iload 15, 2), (96, .istore 15, 2), (98, .iinc 16 (-1), 3), (101, .goto (-60), 3), (104, .iconst 0, 1), (105, .istore 16, 2), (107, .iload 13, 2), (109, .istore 17, 2), (111, .aload 5, 2), (113, .iload 17, 2), (115, .iaload, 1), (116, .ifCond .lt 16, 3), (119, .iinc 16 1, 3), (122, .aload 5, 2), (124, .iload 17, 2), (126, .iaload, 1), (127, .istore 17, 2), (129, .goto (-18), 3), (132, .aload 5, 2), (134, .iload 13, 2), (136, .iaload, 1), (137, .ifCond .lt 20, 3), (140, .aload 4, 2), (142, .iload 13, 2), (144, .iaload, 1), (145, .aload 9, 2), (147, .iconst 0, 1), (148, .iaload, 1), (149, .iadd, 1), (150, .aload 9, 2), (152, .iconst 2, 1), (153, .iaload, 1), (154, .if_icmp .ge 8, 3), (157, .bipush (-6), 2), (159, .goto 18, 3), (162, .aload 4, 2), (164, .iload 13, 2), (166, .iaload, 1), (167, .aload 9, 2), (169, .iconst 0, 1), (170, .iaload, 1), (171, .iadd, 1), (172, .aload 9, 2), (174, .iconst 2, 1), (175, .iaload, 1), (176, .isub, 1), (177, .istore 17, 2), (179, .aload_n 0, 1), (180, .iload 13, 2), (182, .iconst 0, 1), (183, .invokevirtual 17, 3), (186, .aload_n 1, 1), (187, .iload 13, 2), (189, .iaload, 1), (190, .if_icmp .ne 117, 3), (193, .aload_n 0, 1), (194, .iload 13, 2), (196, .iconst 1, 1), (197, .invokevirtual 17, 3), (200, .aload_n 2, 1), (201, .iload 13, 2), (203, .iaload, 1), (204, .if_icmp .ne 103, 3), (207, .aload_n 0, 1), (208, .iload 13, 2), (210, .iconst 2, 1), (211, .invokevirtual 17, 3), (214, .aload_n 3, 1), (215, .iload 13, 2), (217, .iaload, 1), (218, .if_icmp .ne 89, 3), (221, .aload_n 0, 1), (222, .iload 13, 2), (224, .iconst 3, 1), (225, .invokevirtual 17, 3), (228, .aload 5, 2), (230, .iload 13, 2), (232, .iaload, 1), (233, .ifCond .ge 8, 3), (236, .bipush (-6), 2), (238, .goto 8, 3), (241, .aload 5, 2), (243, .iload 13, 2), (245, .iaload, 1), (246, .if_icmp .ne 61, 3), (249, .aload_n 0, 1), (250, .iload 13, 2), (252, .iconst 4, 1), (253, .invokevirtual 17, 3), (256, .aload 6, 2), (258, .iload 13, 2), (260, .iaload, 1), (261, .if_icmp .ne 46, 3), (264, .aload_n 0, 1), (265, .iload 13, 2), (267, .iconst 5, 1), (268, .invokevirtual 17, 3), (271, .aload 8, 2), (273, .iload 13, 2), (275, .iaload, 1), (276, .ifCond .ne 7, 3), (279, .iconst 1, 1), (280, .goto 4, 3), (283, .iconst 0, 1), (284, .if_icmp .ne 23, 3), (287, .aload_n 0, 1), (288, .iload 13, 2), (290, .bipush 6, 2), (292, .invokevirtual 17, 3), (295, .aload 8, 2), (297, .iload 13, 2), (299, .iaload, 1), (300, .if_icmp .ne 7, 3), (303, .iconst 1, 1), (304, .goto 4, 3), (307, .iconst 0, 1), (308, .istore 18, 2), (310, .iload 18, 2), (312, .ifCond .eq 81, 3), (315, .aload_n 0, 1), (316, .iload 13, 2), (318, .bipush 7, 2), (320, .invokevirtual 17, 3), (323, .iload 15, 2), (325, .if_icmp .ne 68, 3), (328, .aload_n 0, 1), (329, .iload 13, 2), (331, .bipush 8, 2), (333, .invokevirtual 17, 3), (336, .iload 14, 2), (338, .if_icmp .ne 55, 3), (341, .aload_n 0, 1), (342, .iload 13, 2), (344, .bipush 9, 2), (346, .invokevirtual 17, 3), (349, .iload 16, 2), (351, .if_icmp .ne 42, 3), (354, .aload_n 0, 1), (355, .iload 13, 2), (357, .bipush 10, 2), (359, .invokevirtual 17, 3), (362, .iload 17, 2), (364, .if_icmp .ne 29, 3), (367, .aload 5, 2), (369, .iload 13, 2), (371, .iaload, 1), (372, .ifCond .lt 17, 3), (375, .aload_n 1, 1), (376, .iload 13, 2), (378, .iaload, 1), (379, .aload_n 1, 1), (380, .aload 5, 2), (382, .iload 13, 2), (384, .iaload, 1), (385, .iaload, 1), (386, .if_icmp .eq 7, 3), (389, .iconst 1, 1), (390, .goto 4, 3), (393, .iconst 0, 1), (394, .istore 18, 2), (396, .iload 18, 2), (398, .ifCond .ne 5, 3), (401, .iconst 0, 1), (402, .ireturn, 1), (403, .iload 11, 2), (405, .aload 5, 2), (407, .iload 13, 2), (409, .iaload, 1), (410, .ifCond .ge 10, 3), (413, .iconst 1, 1), (414, .iload 13, 2), (416, .ishl, 1), (417, .goto 4, 3), (420, .iconst 0, 1), (421, .ior, 1), (422, .istore 11, 2), (424, .aload 10, 2), (426, .iconst 0, 1), (427, .dup2, 1), (428, .iaload, 1), (429, .aload 8, 2), (431, .iload 13, 2), (433, .iaload, 1), (434, .ifCond .ne 10, 3), (437, .iconst 1, 1), (438, .iload 13, 2), (440, .ishl, 1), (441, .goto 4, 3), (444, .iconst 0, 1), (445, .ior, 1), (446, .iastore, 1), (447, .aload 10, 2), (449, .iconst 2, 1), (450, .dup2, 1), (451, .iaload, 1), (452, .aload 8, 2), (454, .iload 13, 2), (456, .iaload, 1), (457, .ifCond .le 19, 3), (460, .aload 8, 2), (462, .iload 13, 2), (464, .iaload, 1), (465, .iconst 5, 1), (466, .if_icmp .ge 10, 3), (469, .iconst 1, 1), (470, .iload 13, 2), (472, .ishl, 1), (473, .goto 4, 3), (476, .iconst 0, 1), (477, .ior, 1), (478, .iastore, 1), (479, .aload 10, 2), (481, .iconst 3, 1), (482, .dup2, 1), (483, .iaload, 1), (484, .aload 8, 2), (486, .iload 13, 2), (488, .iaload, 1), (489, .iconst 5, 1), (490, .if_icmp .ne 10, 3), (493, .iconst 1, 1), (494, .iload 13, 2), (496, .ishl, 1), (497, .goto 4, 3), (500, .iconst 0, 1), (501, .ior, 1), (502, .iastore, 1), (503, .aload 10, 2), (505, .iconst 4, 1), (506, .aload_n 1, 1), (507, .iload 13, 2), (509, .iaload, 1), (510, .iadd, 1), (511, .dup2, 1), (512, .iaload, 1), (513, .iconst 1, 1), (514, .iload 13, 2), (516, .ishl, 1), (517, .ior, 1), (518, .iastore, 1), (519, .aload 12, 2), (521, .aload_n 1, 1), (522, .iload 13, 2), (524, .iaload, 1), (525, .dup2, 1), (526, .iaload, 1), (527, .aload 8, 2), (529, .iload 13, 2), (531, .iaload, 1), (532, .iconst 1, 1), (533, .if_icmp .eq 12, 3), (536, .aload 8, 2), (538, .iload 13, 2), (540, .iaload, 1), (541, .iconst 2, 1), (542, .if_icmp .ne 7, 3), (545, .iconst 0, 1), (546, .goto 7, 3), (549, .aload_n 2, 1), (550, .iload 13, 2), (552, .iaload, 1), (553, .iadd, 1), (554, .iastore, 1), (555, .iinc 13 1, 3), (558, .goto (-541), 3), (561, .aload 10, 2), (563, .iconst 1, 1), (564, .aload 10, 2), (566, .iconst 0, 1), (567, .iaload, 1), (568, .iload 11, 2), (570, .iand, 1), (571, .iastore, 1), (572, .aload_n 0, 1), (573, .iconst 0, 1), (574, .invokevirtual 21, 3), (577, .aload 9, 2), (579, .iconst 2, 1), (580, .iaload, 1), (581, .if_icmp .ne 154, 3), (584, .aload_n 0, 1), (585, .iconst 1, 1), (586, .invokevirtual 21, 3), (589, .aload 9, 2), (591, .iconst 3, 1), (592, .iaload, 1), (593, .if_icmp .ne 142, 3), (596, .aload_n 0, 1), (597, .iconst 2, 1), (598, .invokevirtual 21, 3), (601, .iload 11, 2), (603, .invokestatic 25, 3), (606, .if_icmp .ne 129, 3), (609, .aload_n 0, 1), (610, .iconst 3, 1), (611, .invokevirtual 21, 3), (614, .aload 10, 2), (616, .iconst 0, 1), (617, .iaload, 1), (618, .invokestatic 25, 3), (621, .if_icmp .ne 114, 3), (624, .aload_n 0, 1), (625, .iconst 4, 1), (626, .invokevirtual 21, 3), (629, .aload 10, 2), (631, .iconst 1, 1), (632, .iaload, 1), (633, .invokestatic 25, 3), (636, .if_icmp .ne 99, 3), (639, .aload_n 0, 1), (640, .iconst 5, 1), (641, .invokevirtual 21, 3), (644, .aload 10, 2), (646, .iconst 2, 1), (647, .iaload, 1), (648, .invokestatic 25, 3), (651, .if_icmp .ne 84, 3), (654, .aload_n 0, 1), (655, .bipush 6, 2), (657, .invokevirtual 21, 3), (660, .aload 10, 2), (662, .iconst 3, 1), (663, .iaload, 1), (664, .invokestatic 25, 3), (667, .if_icmp .ne 68, 3), (670, .aload_n 0, 1), (671, .bipush 7, 2), (673, .invokevirtual 21, 3), (676, .aload 12, 2), (678, .iconst 0, 1), (679, .iaload, 1), (680, .if_icmp .ne 55, 3), (683, .aload_n 0, 1), (684, .bipush 8, 2), (686, .invokevirtual 21, 3), (689, .aload 12, 2), (691, .iconst 1, 1), (692, .iaload, 1), (693, .if_icmp .ne 42, 3), (696, .aload_n 0, 1), (697, .bipush 9, 2), (699, .invokevirtual 21, 3), (702, .aload 9, 2), (704, .iconst 4, 1), (705, .iaload, 1), (706, .if_icmp .ne 29, 3), (709, .aload 12, 2), (711, .iconst 0, 1), (712, .iaload, 1), (713, .aload 9, 2), (715, .iconst 1, 1), (716, .iaload, 1), (717, .if_icmp .gt 18, 3), (720, .aload 12, 2), (722, .iconst 1, 1), (723, .iaload, 1), (724, .aload 9, 2), (726, .iconst 1, 1), (727, .iaload, 1), (728, .if_icmp .gt 7, 3), (731, .iconst 1, 1), (732, .goto 4, 3), (735, .iconst 0, 1), (736, .istore 13, 2), (738, .iconst 0, 1), (739, .istore 14, 2), (741, .iload 14, 2), (743, .bipush 6, 2), (745, .if_icmp .ge 35, 3), (748, .iload 13, 2), (750, .ifCond .eq 21, 3), (753, .aload_n 0, 1), (754, .iload 14, 2), (756, .invokevirtual 30, 3), (759, .aload 10, 2), (761, .iload 14, 2), (763, .iaload, 1), (764, .if_icmp .ne 7, 3), (767, .iconst 1, 1), (768, .goto 4, 3), (771, .iconst 0, 1), (772, .istore 13, 2), (774, .iinc 14 1, 3), (777, .goto (-36), 3), (780, .iconst 0, 1), (781, .istore 14, 2), (783, .iload 14, 2), (785, .iconst 2, 1), (786, .if_icmp .ge 75, 3), (789, .iload 11, 2), (791, .aload 10, 2), (793, .iconst 4, 1), (794, .iload 14, 2), (796, .iadd, 1), (797, .iaload, 1), (798, .iand, 1), (799, .invokestatic 25, 3), (802, .istore 15, 2), (804, .iload 13, 2), (806, .ifCond .eq 46, 3), (809, .aload_n 0, 1), (810, .iload 14, 2), (812, .invokevirtual 33, 3), (815, .iload 15, 2), (817, .ifCond .ne 8, 3), (820, .bipush (-6), 2), (822, .goto 23, 3), (825, .aload 10, 2), (827, .iconst 1, 1), (828, .iaload, 1), (829, .aload 10, 2), (831, .iconst 4, 1), (832, .iload 14, 2), (834, .iadd, 1), (835, .iaload, 1), (836, .iand, 1), (837, .invokestatic 25, 3), (840, .iload 15, 2), (842, .invokestatic 36, 3), (845, .if_icmp .ne 7, 3), (848, .iconst 1, 1), (849, .goto 4, 3), (852, .iconst 0, 1), (853, .istore 13, 2), (855, .iinc 14 1, 3), (858, .goto (-75), 3), (861, .iload 13, 2), (863, .ireturn, 1)]
def iL_points_0 : List (Nat × Instr × Nat) := [(0, .bipush 6, 2), (2, .newarray .int, 2), (4, .astore 10, 2), (6, .iconst 0, 1), (7, .istore 11, 2), (9, .iconst 2, 1), (10, .newarray .int, 2), (12, .astore 12, 2), (14, .iconst 0, 1), (15, .istore 13, 2), (17, .iload 13, 2), (19, .aload 9, 2), (21, .iconst 3, 1), (22, .iaload, 1), (23, .if_icmp .ge 538, 3), (26, .iconst 0, 1), (27, .istore 14, 2), (29, .bipush (-6), 2), (31, .istore 15, 2), (33, .aload 9, 2), (35, .iconst 3, 1), (36, .iaload, 1), (37, .iconst 1, 1), (38, .isub, 1), (39, .istore 16, 2), (41, .iload 16, 2), (43, .iload 13, 2), (45, .if_icmp .le 59, 3), (48, .iload 14, 2), (50, .aload 5, 2), (52, .iload 16, 2), (54, .iaload, 1), (55, .iload 13, 2), (57, .if_icmp .ne 10, 3), (60, .iconst 1, 1), (61, .iload 16, 2), (63, .ishl, 1), (64, .goto 4, 3), (67, .iconst 0, 1), (68, .ior, 1)]
theorem dL_points_0 : iL_points_0.all (fun q => decide (decode cL_points q.1 = .ok q.2)) = true := by decide +kernel
def iL_points_1 : List (Nat × Instr × Nat) := [(69, .istore 14, 2), (71, .aload 5, 2), (73, .iload 16, 2), (75, .iaload, 1), (76, .iload 13, 2), (78, .if_icmp .ne 16, 3), (81, .aload 8, 2), (83, .iload 16, 2), (85, .iaload, 1), (86, .ifCond .ne 8, 3), (89, .iload 16, 2), (91, .goto 5, 3), (94, .iload 15, 2), (96, .istore 15, 2), (98, .iinc 16 (-1), 3), (101, .goto (-60), 3), (104, .iconst 0, 1), (105, .istore 16, 2), (107, .iload 13, 2), (109, .istore 17, 2), (111, .aload 5, 2), (113, .iload 17, 2), (115, .iaload, 1), (116, .ifCond .lt 16, 3), (119, .iinc 16 1, 3), (122, .aload 5, 2), (124, .iload 17, 2), (126, .iaload, 1), (127, .istore 17, 2), (129, .goto (-18), 3), (132, .aload 5, 2), (134, .iload 13, 2), (136, .iaload, 1), (137, .ifCond .lt 20, 3), (140, .aload 4, 2), (142, .iload 13, 2), (144, .iaload, 1), (145, .aload 9, 2), (147, .iconst 0, 1), (148, .iaload, 1)]
theorem dL_points_1 : iL_points_1.all (fun q => decide (decode cL_points q.1 = .ok q.2)) = true := by decide +kernel
def iL_points_2 : List (Nat × Instr × Nat) := [(149, .iadd, 1), (150, .aload 9, 2), (152, .iconst 2, 1), (153, .iaload, 1), (154, .if_icmp .ge 8, 3), (157, .bipush (-6), 2), (159, .goto 18, 3), (162, .aload 4, 2), (164, .iload 13, 2), (166, .iaload, 1), (167, .aload 9, 2), (169, .iconst 0, 1), (170, .iaload, 1), (171, .iadd, 1), (172, .aload 9, 2), (174, .iconst 2, 1), (175, .iaload, 1), (176, .isub, 1), (177, .istore 17, 2), (179, .aload_n 0, 1), (180, .iload 13, 2), (182, .iconst 0, 1), (183, .invokevirtual 17, 3), (186, .aload_n 1, 1), (187, .iload 13, 2), (189, .iaload, 1), (190, .if_icmp .ne 117, 3), (193, .aload_n 0, 1), (194, .iload 13, 2), (196, .iconst 1, 1), (197, .invokevirtual 17, 3), (200, .aload_n 2, 1), (201, .iload 13, 2), (203, .iaload, 1), (204, .if_icmp .ne 103, 3), (207, .aload_n 0, 1), (208, .iload 13, 2), (210, .iconst 2, 1), (211, .invokevirtual 17, 3), (214, .aload_n 3, 1)]
theorem dL_points_2 : iL_points_2.all (fun q => decide (decode cL_points q.1 = .ok q.2)) = true := by decide +kernel
def iL_points_3 : List (Nat × Instr × Nat) := [(215, .iload 13, 2), (217, .iaload, 1), (218, .if_icmp .ne 89, 3), (221, .aload_n 0, 1), (222, .iload 13, 2), (224, .iconst 3, 1), (225, .invokevirtual 17, 3), (228, .aload 5, 2), (230, .iload 13, 2), (232, .iaload, 1), (233, .ifCond .ge 8, 3), (236, .bipush (-6), 2), (238, .goto 8, 3), (241, .aload 5, 2), (243, .iload 13, 2), (245, .iaload, 1), (246, .if_icmp .ne 61, 3), (249, .aload_n 0, 1), (250, .iload 13, 2), (252, .iconst 4, 1), (253, .invokevirtual 17, 3), (256, .aload 6, 2), (258, .iload 13, 2), (260, .iaload, 1), (261, .if_icmp .ne 46, 3), (264, .aload_n 0, 1), (265, .iload 13, 2), (267, .iconst 5, 1), (268, .invokevirtual 17, 3), (271, .aload 8, 2), (273, .iload 13, 2), (275, .iaload, 1), (276, .ifCond .ne 7, 3), (279, .iconst 1, 1), (280, .goto 4, 3), (283, .iconst 0, 1), (284, .if_icmp .ne 23, 3), (287, .aload_n 0, 1), (288, .iload 13, 2), (290, .bipush 6, 2)]
theorem dL_points_3 : iL_points_3.all (fun q => decide (decode cL_points q.1 = .ok q.2)) = true := by decide +kernel
def iL_points_4 : List (Nat × Instr × Nat) := [(292, .invokevirtual 17, 3), (295, .aload 8, 2), (297, .iload 13, 2), (299, .iaload, 1), (300, .if_icmp .ne 7, 3), (303, .iconst 1, 1), (304, .goto 4, 3), (307, .iconst 0, 1), (308, .istore 18, 2), (310, .iload 18, 2), (312, .ifCond .eq 81, 3), (315, .aload_n 0, 1), (316, .iload 13, 2), (318, .bipush 7, 2), (320, .invokevirtual 17, 3), (323, .iload 15, 2), (325, .if_icmp .ne 68, 3), (328, .aload_n 0, 1), (329, .iload 13, 2), (331, .bipush 8, 2), (333, .invokevirtual 17, 3), (336, .iload 14, 2), (338, .if_icmp .ne 55, 3), (341, .aload_n 0, 1), (342, .iload 13, 2), (344, .bipush 9, 2), (346, .invokevirtual 17, 3), (349, .iload 16, 2), (351, .if_icmp .ne 42, 3), (354, .aload_n 0, 1), (355, .iload 13, 2), (357, .bipush 10, 2), (359, .invokevirtual 17, 3), (362, .iload 17, 2), (364, .if_icmp .ne 29, 3), (367, .aload 5, 2), (369, .iload 13, 2), (371, .iaload, 1), (372, .ifCond .lt 17, 3), (375, .aload_n 1, 1)]
theorem dL_points_4 : iL_points_4.all (fun q => decide (decode cL_points q.1 = .ok q.2)) = true := by decide +kernel
def iL_points_5 : List (Nat × Instr × Nat) := [(376, .iload 13, 2), (378, .iaload, 1), (379, .aload_n 1, 1), (380, .aload 5, 2), (382, .iload 13, 2), (384, .iaload, 1), (385, .iaload, 1), (386, .if_icmp .eq 7, 3), (389, .iconst 1, 1), (390, .goto 4, 3), (393, .iconst 0, 1), (394, .istore 18, 2), (396, .iload 18, 2), (398, .ifCond .ne 5, 3), (401, .iconst 0, 1), (402, .ireturn, 1), (403, .iload 11, 2), (405, .aload 5, 2), (407, .iload 13, 2), (409, .iaload, 1), (410, .ifCond .ge 10, 3), (413, .iconst 1, 1), (414, .iload 13, 2), (416, .ishl, 1), (417, .goto 4, 3), (420, .iconst 0, 1), (421, .ior, 1), (422, .istore 11, 2), (424, .aload 10, 2), (426, .iconst 0, 1), (427, .dup2, 1), (428, .iaload, 1), (429, .aload 8, 2), (431, .iload 13, 2), (433, .iaload, 1), (434, .ifCond .ne 10, 3), (437, .iconst 1, 1), (438, .iload 13, 2), (440, .ishl, 1), (441, .goto 4, 3)]
theorem dL_points_5 : iL_points_5.all (fun q => decide (decode cL_points q.1 = .ok q.2)) = true := by decide +kernel
def iL_points_6 : List (Nat × Instr × Nat) := [(444, .iconst 0, 1), (445, .ior, 1), (446, .iastore, 1), (447, .aload 10, 2), (449, .iconst 2, 1), (450, .dup2, 1), (451, .iaload, 1), (452, .aload 8, 2), (454, .iload 13, 2), (456, .iaload, 1), (457, .ifCond .le 19, 3), (460, .aload 8, 2), (462, .iload 13, 2), (464, .iaload, 1), (465, .iconst 5, 1), (466, .if_icmp .ge 10, 3), (469, .iconst 1, 1), (470, .iload 13, 2), (472, .ishl, 1), (473, .goto 4, 3), (476, .iconst 0, 1), (477, .ior, 1), (478, .iastore, 1), (479, .aload 10, 2), (481, .iconst 3, 1), (482, .dup2, 1), (483, .iaload, 1), (484, .aload 8, 2), (486, .iload 13, 2), (488, .iaload, 1), (489, .iconst 5, 1), (490, .if_icmp .ne 10, 3), (493, .iconst 1, 1), (494, .iload 13, 2), (496, .ishl, 1), (497, .goto 4, 3), (500, .iconst 0, 1), (501, .ior, 1), (502, .iastore, 1), (503, .aload 10, 2)]
theorem dL_points_6 : iL_points_6.all (fun q => decide (decode cL_points q.1 = .ok q.2)) = true := by decide +kernel
def iL_points_7 : List (Nat × Instr × Nat) := [(505, .iconst 4, 1), (506, .aload_n 1, 1), (507, .iload 13, 2), (509, .iaload, 1), (510, .iadd, 1), (511, .dup2, 1), (512, .iaload, 1), (513, .iconst 1, 1), (514, .iload 13, 2), (516, .ishl, 1), (517, .ior, 1), (518, .iastore, 1), (519, .aload 12, 2), (521, .aload_n 1, 1), (522, .iload 13, 2), (524, .iaload, 1), (525, .dup2, 1), (526, .iaload, 1), (527, .aload 8, 2), (529, .iload 13, 2), (531, .iaload, 1), (532, .iconst 1, 1), (533, .if_icmp .eq 12, 3), (536, .aload 8, 2), (538, .iload 13, 2), (540, .iaload, 1), (541, .iconst 2, 1), (542, .if_icmp .ne 7, 3), (545, .iconst 0, 1), (546, .goto 7, 3), (549, .aload_n 2, 1), (550, .iload 13, 2), (552, .iaload, 1), (553, .iadd, 1), (554, .iastore, 1), (555, .iinc 13 1, 3), (558, .goto (-541), 3), (561, .aload 10, 2), (563, .iconst 1, 1), (564, .aload 10, 2)]
theorem dL_points_7 : iL_points_7.all (fun q => decide (decode cL_points q.1 = .ok q.2)) = true := by decide +kernel
def iL_points_8 : List (Nat × Instr × Nat) := [(566, .iconst 0, 1), (567, .iaload, 1), (568, .iload 11, 2), (570, .iand, 1), (571, .iastore, 1), (572, .aload_n 0, 1), (573, .iconst 0, 1), (574, .invokevirtual 21, 3), (577, .aload 9, 2), (579, .iconst 2, 1), (580, .iaload, 1), (581, .if_icmp .ne 154, 3), (584, .aload_n 0, 1), (585, .iconst 1, 1), (586, .invokevirtual 21, 3), (589, .aload 9, 2), (591, .iconst 3, 1), (592, .iaload, 1), (593, .if_icmp .ne 142, 3), (596, .aload_n 0, 1), (597, .iconst 2, 1), (598, .invokevirtual 21, 3), (601, .iload 11, 2), (603, .invokestatic 25, 3), (606, .if_icmp .ne 129, 3), (609, .aload_n 0, 1), (610, .iconst 3, 1), (611, .invokevirtual 21, 3), (614, .aload 10, 2), (616, .iconst 0, 1), (617, .iaload, 1), (618, .invokestatic 25, 3), (621, .if_icmp .ne 114, 3), (624, .aload_n 0, 1), (625, .iconst 4, 1), (626, .invokevirtual 21, 3), (629, .aload 10, 2), (631, .iconst 1, 1), (632, .iaload, 1), (633, .invokestatic 25, 3)]
theorem dL_points_8 : iL_points_8.all (fun q => decide (decode cL_points q.1 = .ok q.2)) = true := by decide +kernel
def iL_points_9 : List (Nat × Instr × Nat) := [(636, .if_icmp .ne 99, 3), (639, .aload_n 0, 1), (640, .iconst 5, 1), (641, .invokevirtual 21, 3), (644, .aload 10, 2), (646, .iconst 2, 1), (647, .iaload, 1), (648, .invokestatic 25, 3), (651, .if_icmp .ne 84, 3), (654, .aload_n 0, 1), (655, .bipush 6, 2), (657, .invokevirtual 21, 3), (660, .aload 10, 2), (662, .iconst 3, 1), (663, .iaload, 1), (664, .invokestatic 25, 3), (667, .if_icmp .ne 68, 3), (670, .aload_n 0, 1), (671, .bipush 7, 2), (673, .invokevirtual 21, 3), (676, .aload 12, 2), (678, .iconst 0, 1), (679, .iaload, 1), (680, .if_icmp .ne 55, 3), (683, .aload_n 0, 1), (684, .bipush 8, 2), (686, .invokevirtual 21, 3), (689, .aload 12, 2), (691, .iconst 1, 1), (692, .iaload, 1), (693, .if_icmp .ne 42, 3), (696, .aload_n 0, 1), (697, .bipush 9, 2), (699, .invokevirtual 21, 3), (702, .aload 9, 2), (704, .iconst 4, 1), (705, .iaload, 1), (706, .if_icmp .ne 29, 3), (709, .aload 12, 2), (711, .iconst 0, 1)]
theorem dL_points_9 : iL_points_9.all (fun q => decide (decode cL_points q.1 = .ok q.2)) = true := by decide +kernel
def iL_points_10 : List (Nat × Instr × Nat) := [(712, .iaload, 1), (713, .aload 9, 2), (715, .iconst 1, 1), (716, .iaload, 1), (717, .if_icmp .gt 18, 3), (720, .aload 12, 2), (722, .iconst 1, 1), (723, .iaload, 1), (724, .aload 9, 2), (726, .iconst 1, 1), (727, .iaload, 1), (728, .if_icmp .gt 7, 3), (731, .iconst 1, 1), (732, .goto 4, 3), (735, .iconst 0, 1), (736, .istore 13, 2), (738, .iconst 0, 1), (739, .istore 14, 2), (741, .iload 14, 2), (743, .bipush 6, 2), (745, .if_icmp .ge 35, 3), (748, .iload 13, 2), (750, .ifCond .eq 21, 3), (753, .aload_n 0, 1), (754, .iload 14, 2), (756, .invokevirtual 30, 3), (759, .aload 10, 2), (761, .iload 14, 2), (763, .iaload, 1), (764, .if_icmp .ne 7, 3), (767, .iconst 1, 1), (768, .goto 4, 3), (771, .iconst 0, 1), (772, .istore 13, 2), (774, .iinc 14 1, 3), (777, .goto (-36), 3), (780, .iconst 0, 1), (781, .istore 14, 2), (783, .iload 14, 2), (785, .iconst 2, 1)]
theorem dL_points_10 : iL_points_10.all (fun q => decide (decode cL_points q.1 = .ok q.2)) = true := by decide +kernel
def iL_points_11 : List (Nat × Instr × Nat) := [(786, .if_icmp .ge 75, 3), (789, .iload 11, 2), (791, .aload 10, 2), (793, .iconst 4, 1), (794, .iload 14, 2), (796, .iadd, 1), (797, .iaload, 1), (798, .iand, 1), (799, .invokestatic 25, 3), (802, .istore 15, 2), (804, .iload 13, 2), (806, .ifCond .eq 46, 3), (809, .aload_n 0, 1), (810, .iload 14, 2), (812, .invokevirtual 33, 3), (815, .iload 15, 2), (817, .ifCond .ne 8, 3), (820, .bipush (-6), 2), (822, .goto 23, 3), (825, .aload 10, 2), (827, .iconst 1, 1), (828, .iaload, 1), (829, .aload 10, 2), (831, .iconst 4, 1), (832, .iload 14, 2), (834, .iadd, 1), (835, .iaload, 1), (836, .iand, 1), (837, .invokestatic 25, 3), (840, .iload 15, 2), (842, .invokestatic 36, 3), (845, .if_icmp .ne 7, 3), (848, .iconst 1, 1), (849, .goto 4, 3), (852, .iconst 0, 1), (853, .istore 13, 2), (855, .iinc 14 1, 3), (858, .goto (-75), 3), (861, .iload 13, 2), (863, .ireturn, 1)]
theorem dL_points_11 : iL_points_11.all (fun q => decide (decode cL_points q.1 = .ok q.2)) = true := by decide +kernel
set_option maxRecDepth 100000 in
theorem iL_points_e : iL_points = iL_points_0 ++ (iL_points_1 ++ (iL_points_2 ++ (iL_points_3 ++ (iL_points_4 ++ (iL_points_5 ++ (iL_points_6 ++ (iL_points_7 ++ (iL_points_8 ++ (iL_points_9 ++ (iL_points_10 ++ (iL_points_11))))))))))) := rfl
set_option maxRecDepth 100000 in
theorem dL_points : iL_points.all (fun q => decide (decode cL_points q.1 = .ok q.2)) = true := by
  rw [iL_points_e, List.all_append, List.all_append, List.all_append, List.all_append, List.all_append, List.all_append, List.all_append, List.all_append, List.all_append, List.all_append, List.all_append]
  rw [dL_points_0, dL_points_1, dL_points_2, dL_points_3, dL_points_4, dL_points_5, dL_points_6, dL_points_7, dL_points_8, dL_points_9, dL_points_10, dL_points_11]
  rfl
end
section
abbrev cL_tries : ByteArray := method_8_code
def yL_tries : MethodName := ⟨"PointAnswersLaw", "tries", "(LPointAnswers;[I[I[I[I[I[I[I[I)Z"⟩
abbrev wsL_tries : List Cond := .code yL_tries cL_tries 22 (some .boolean) :: wT
def iL_tries : List (Nat × Instr × Nat) := [(0, .iconst 0, 1), (1, .istore 9, 2), (3, .iconst 0, 1), (4, .istore 10, 2), (6, .iconst 0, 1), (7, .istore 11, 2), (9, .iconst 0, 1), (10, .istore 12, 2), (12, .iconst 0, 1), (13, .istore 13, 2), (15, .iload 13, 2), (17, .aload 8, 2), (19, .iconst 3, 1), (20, .iaload, 1), (21, .if_icmp .ge 155, 3), (24, .iconst 0, 1), (25, .istore 14, 2), (27, .iload 13, 2), (29, .iconst 1, 1), (30, .iadd, 1), (31, .istore 15, 2), (33, .iload 15, 2), (35, .aload 8, 2), (37, .iconst 3, 1), (38, .iaload, 1), (39, .if_icmp .ge 31, 3), (42, .iload 14, 2), (44, .ifCond .ne 13, 3), (47, .aload 4, 2), (49, .iload 15, 2), (51, .iaload, 1), (52, .iload 13, 2), (54, .if_icmp .ne 7, 3), (57, .iconst 1, 1), (58, .goto 4, 3), (61, .iconst 0, 1), (62, .istore 14, 2), (64, .iinc 15 1, 3), (67, .goto (-34), 3), (70, .iload 11, 2), (72, .aload 7, 2), (74, .iload 13, 2), (76, .iaload, 1), (77, .ifCond .le 19, 3), (80, .aload 7, 2), (82, .iload 13, 2), (84, .iaload, 1), (85, .iconst 5, 1), (86, .if_icmp .ge 10, 3), (89, .iconst 1, 1), (90, .iload 13, 2), (92, .ishl, 1), (93, .goto 4, 3), (96, .iconst 0, 1), (97, .ior, 1), (98, .istore 11, 2), (100, .iload 9, 2), (102, .iload 14, 2), (104, .ifCond .ne 20, 3), (107, .iload 11, 2), (109, .iload 13, 2), (111, .ishr, 1), (112, .iconst 1, 1), (113, .iand, 1), (114, .ifCond .ne 10, 3), (117, .iconst 1, 1), (118, .iload 13, 2), (120, .ishl, 1), (121, .goto 4, 3), (124, .iconst 0, 1), (125, .ior, 1), (126, .istore 9, 2), (128, .iload 10, 2), (130, .aload 4, 2), (132, .iload 13, 2), (134, .iaload, 1), (135, .ifCond .ge 10, 3), (138, .iconst 1, 1), (139, .iload 13, 2), (141, .ishl, 1), (142, .goto 4, 3), (145, .iconst 0, 1), (146, .ior, 1), (147, .istore 10, 2), (149, .iload 12, 2), (151, .aload 7, 2), (153, .iload 13, 2), (155, .iaload, 1), (156, .ifCond .ne 10, 3), (159, .iconst 1, 1), (160, .iload 13, 2), (162, .ishl, 1), (163, .goto 4, 3), (166, .iconst 0, 1), (167, .ior, 1), (168, .istore 12, 2), (170, .iinc 13 1, 3), (173, .goto (-158), 3), (176, .bipush (-6), 2), (178, .istore 13, 2), (180, .bipush (-6), 2), (182, .istore 14, 2), (184, .bipush 24, 2), (186, .newarray .int, 2), (188, .astore 15, 2), (190, .iconst 0, 1), (191, .istore 16, 2), (193, .iload 16, 2), (195, .aload 8, 2), (197, .iconst 3, 1), (198, .iaload, 1), (199, .if_icmp .ge 140, 3), (202, .iload 9, 2), (204, .iload 16, 2), (206, .ishr, 1), (207, .iconst 1, 1), (208, .iand, 1), (209, .iconst 1, 1), (210, .if_icmp .ne 123, 3), (213, .aload_n 1, 1), (214, .aload_n 2, 1), (215, .aload_n 3, 1), (216, .aload 4, 2), (218, .aload 5, 2), (220, .aload 6, 2), (222, .aload 15, 2), (224, .aload 8, 2), (226, .iconst 1, 1), (227, .iload 16, 2), (229, .ishl, 1), (230, .invokestatic 38, 3), (233, .iconst 0, 1), (234, .istore 17, 2), (236, .iconst 0, 1), (237, .istore 18, 2), (239, .iload 18, 2), (241, .aload 8, 2), (243, .iconst 3, 1), (244, .iaload, 1), (245, .if_icmp .ge 56, 3), (248, .iload 17, 2), (250, .aload 4, 2), (252, .iload 18, 2), (254, .iaload, 1), (255, .ifCond .ge 36, 3), (258, .aload 15, 2), (260, .iload 18, 2), (262, .iaload, 1), (263, .ifCond .ne 7, 3), (266, .iconst 1, 1), (267, .goto 4, 3), (270, .iconst 0, 1), (271, .aload 7, 2), (273, .iload 18, 2), (275, .iaload, 1), (276, .ifCond .ne 7, 3), (279, .iconst 1, 1), (280, .goto 4, 3), (283, .iconst 0, 1), (284, .if_icmp .eq 7, 3), (287, .iconst 1, 1), (288, .goto 4, 3), (291, .iconst 0, 1), (292, .iadd, 1), (293, .istore 17, 2), (295, .iinc 18 1, 3), (298, .goto (-59), 3), (301, .iload 17, 2), (303, .iload 14, 2), (305, .if_icmp .le 8, 3), (308, .iload 16, 2), (310, .goto 5, 3), (313, .iload 13, 2), (315, .istore 13, 2), (317, .iload 17, 2), (319, .iload 14, 2), (321, .if_icmp .le 8, 3), (324, .iload 17, 2), (326, .goto 5, 3), (329, .iload 14, 2), (331, .istore 14, 2), (333, .iinc 16 1, 3), (336, .goto (-143), 3), (339, .aload_n 0, 1), (340, .iconst 0, 1), (341, .invokevirtual 42, 3), (344, .iload 13, 2), (346, .if_icmp .ne 13, 3), (349, .aload_n 0, 1), (350, .iconst 1, 1), (351, .invokevirtual 42, 3), (354, .iload 14, 2), (356, .if_icmp .eq 5, 3), (359, .iconst 0, 1), (360, .ireturn, 1), (361, .iload 9, 2), (363, .invokestatic 25, 3), (366, .bipush 7, 2), (368, .if_icmp .le 5, 3), (371, .iconst 1, 1), (372, .ireturn, 1), (373, .bipush 24, 2), (375, .newarray .int, 2), (377, .astore 16, 2), (379, .bipush 24, 2), (381, .newarray .int, 2), (383, .astore 17, 2), (385, .iconst 0, 1), (386, .istore 18, 2), (388, .iload 18, 2), (390, .bipush 24, 2), (392, .if_icmp .ge 23, 3), (395, .aload 16, 2), (397, .iload 18, 2), (399, .bipush (-6), 2), (401, .iastore, 1), (402, .aload 17, 2), (404, .iload 18, 2), (406, .bipush (-6), 2), (408, .iastore, 1), (409, .iinc 18 1, 3), (412, .goto (-24), 3), (415, .iconst 0, 1), (416, .istore 18, 2), (418, .iload 18, 2), (420, .iconst 1, 1), (421, .iload 9, 2), (423, .invokestatic 25, 3), (426, .ishl, 1), (427, .if_icmp .ge 188, 3), (430, .iconst 0, 1), (431, .istore 19, 2), (433, .iload 18, 2), (435, .istore 20, 2), (437, .iconst 0, 1), (438, .istore 21, 2), (440, .iload 21, 2), (442, .aload 8, 2), (444, .iconst 3, 1), (445, .iaload, 1), (446, .if_icmp .ge 38, 3), (449, .iload 9, 2), (451, .iload 21, 2), (453, .ishr, 1), (454, .iconst 1, 1), (455, .iand, 1), (456, .iconst 1, 1), (457, .if_icmp .ne 21, 3), (460, .iload 19, 2), (462, .iload 20, 2), (464, .iconst 1, 1), (465, .iand, 1), (466, .iload 21, 2), (468, .ishl, 1), (469, .ior, 1), (470, .istore 19, 2), (472, .iload 20, 2), (474, .iconst 1, 1), (475, .ishr, 1), (476, .istore 20, 2), (478, .iinc 21 1, 3), (481, .goto (-41), 3), (484, .aload_n 1, 1), (485, .aload_n 2, 1), (486, .aload_n 3, 1), (487, .aload 4, 2), (489, .aload 5, 2), (491, .aload 6, 2), (493, .aload 15, 2), (495, .aload 8, 2), (497, .iload 19, 2), (499, .invokestatic 38, 3), (502, .iconst 0, 1), (503, .istore 21, 2), (505, .iload 21, 2), (507, .aload 8, 2), (509, .iconst 3, 1), (510, .iaload, 1), (511, .if_icmp .ge 98, 3), (514, .aload 15, 2), (516, .iload 21, 2), (518, .iaload, 1), (519, .ifCond .ne 45, 3), (522, .aload 17, 2), (524, .iload 21, 2), (526, .aload 17, 2), (528, .iload 21, 2), (530, .iaload, 1), (531, .ifCond .lt 16, 3), (534, .iload 19, 2), (536, .invokestatic 25, 3), (539, .aload 17, 2), (541, .iload 21, 2), (543, .iaload, 1), (544, .if_icmp .ge 11, 3), (547, .iload 19, 2), (549, .invokestatic 25, 3), (552, .goto 8, 3), (555, .aload 17, 2), (557, .iload 21, 2), (559, .iaload, 1), (560, .iastore, 1), (561, .goto 42, 3), (564, .aload 16, 2), (566, .iload 21, 2), (568, .aload 16, 2), (570, .iload 21, 2), (572, .iaload, 1), (573, .ifCond .lt 16, 3), (576, .iload 19, 2), (578, .invokestatic 25, 3), (581, .aload 16, 2), (583, .iload 21, 2), (585, .iaload, 1), (586, .if_icmp .ge 11, 3), (589, .iload 19, 2), (591, .invokestatic 25, 3), (594, .goto 8, 3), (597, .aload 16, 2), (599, .iload 21, 2), (601, .iaload, 1), (602, .iastore, 1), (603, .iinc 21 1, 3), (606, .goto (-101), 3), (609, .iinc 18 1, 3), (612, .goto (-194), 3), (615, .iconst 0, 1), (616, .istore 18, 2), (618, .iload 18, 2), (620, .aload 8, 2), (622, .iconst 3, 1), (623, .iaload, 1), (624, .if_icmp .ge 55, 3), (627, .aload_n 0, 1), (628, .iload 18, 2), (630, .invokevirtual 45, 3), (633, .aload 16, 2), (635, .iload 18, 2), (637, .iaload, 1), (638, .if_icmp .ne 33, 3), (641, .aload_n 0, 1), (642, .iload 18, 2), (644, .invokevirtual 48, 3), (647, .iload 11, 2), (649, .iload 18, 2), (651, .ishr, 1), (652, .iconst 1, 1), (653, .iand, 1), (654, .iconst 1, 1), (655, .if_icmp .ne 8, 3), (658, .bipush (-5), 2), (660, .goto 8, 3), (663, .aload 17, 2), (665, .iload 18, 2), (667, .iaload, 1), (668, .if_icmp .eq 5, 3), (671, .iconst 0, 1), (672, .ireturn, 1), (673, .iinc 18 1, 3), (676, .goto (-58), 3), (679, .iload 12, 2), (681, .aload_n 0, 1), (682, .iconst 0, 1), (683, .invokevirtual 30, 3), (686, .if_icmp .ne 7, 3), (689, .iconst 1, 1), (690, .goto 4, 3), (693, .iconst 0, 1), (694, .ireturn, 1)]
def iL_tries_0 : List (Nat × Instr × Nat) := [(0, .iconst 0, 1), (1, .istore 9, 2), (3, .iconst 0, 1), (4, .istore 10, 2), (6, .iconst 0, 1), (7, .istore 11, 2), (9, .iconst 0, 1), (10, .istore 12, 2), (12, .iconst 0, 1), (13, .istore 13, 2), (15, .iload 13, 2), (17, .aload 8, 2), (19, .iconst 3, 1), (20, .iaload, 1), (21, .if_icmp .ge 155, 3), (24, .iconst 0, 1), (25, .istore 14, 2), (27, .iload 13, 2), (29, .iconst 1, 1), (30, .iadd, 1), (31, .istore 15, 2), (33, .iload 15, 2), (35, .aload 8, 2), (37, .iconst 3, 1), (38, .iaload, 1), (39, .if_icmp .ge 31, 3), (42, .iload 14, 2), (44, .ifCond .ne 13, 3), (47, .aload 4, 2), (49, .iload 15, 2), (51, .iaload, 1), (52, .iload 13, 2), (54, .if_icmp .ne 7, 3), (57, .iconst 1, 1), (58, .goto 4, 3), (61, .iconst 0, 1), (62, .istore 14, 2), (64, .iinc 15 1, 3), (67, .goto (-34), 3), (70, .iload 11, 2)]
theorem dL_tries_0 : iL_tries_0.all (fun q => decide (decode cL_tries q.1 = .ok q.2)) = true := by decide +kernel
def iL_tries_1 : List (Nat × Instr × Nat) := [(72, .aload 7, 2), (74, .iload 13, 2), (76, .iaload, 1), (77, .ifCond .le 19, 3), (80, .aload 7, 2), (82, .iload 13, 2), (84, .iaload, 1), (85, .iconst 5, 1), (86, .if_icmp .ge 10, 3), (89, .iconst 1, 1), (90, .iload 13, 2), (92, .ishl, 1), (93, .goto 4, 3), (96, .iconst 0, 1), (97, .ior, 1), (98, .istore 11, 2), (100, .iload 9, 2), (102, .iload 14, 2), (104, .ifCond .ne 20, 3), (107, .iload 11, 2), (109, .iload 13, 2), (111, .ishr, 1), (112, .iconst 1, 1), (113, .iand, 1), (114, .ifCond .ne 10, 3), (117, .iconst 1, 1), (118, .iload 13, 2), (120, .ishl, 1), (121, .goto 4, 3), (124, .iconst 0, 1), (125, .ior, 1), (126, .istore 9, 2), (128, .iload 10, 2), (130, .aload 4, 2), (132, .iload 13, 2), (134, .iaload, 1), (135, .ifCond .ge 10, 3), (138, .iconst 1, 1), (139, .iload 13, 2), (141, .ishl, 1)]
theorem dL_tries_1 : iL_tries_1.all (fun q => decide (decode cL_tries q.1 = .ok q.2)) = true := by decide +kernel
def iL_tries_2 : List (Nat × Instr × Nat) := [(142, .goto 4, 3), (145, .iconst 0, 1), (146, .ior, 1), (147, .istore 10, 2), (149, .iload 12, 2), (151, .aload 7, 2), (153, .iload 13, 2), (155, .iaload, 1), (156, .ifCond .ne 10, 3), (159, .iconst 1, 1), (160, .iload 13, 2), (162, .ishl, 1), (163, .goto 4, 3), (166, .iconst 0, 1), (167, .ior, 1), (168, .istore 12, 2), (170, .iinc 13 1, 3), (173, .goto (-158), 3), (176, .bipush (-6), 2), (178, .istore 13, 2), (180, .bipush (-6), 2), (182, .istore 14, 2), (184, .bipush 24, 2), (186, .newarray .int, 2), (188, .astore 15, 2), (190, .iconst 0, 1), (191, .istore 16, 2), (193, .iload 16, 2), (195, .aload 8, 2), (197, .iconst 3, 1), (198, .iaload, 1), (199, .if_icmp .ge 140, 3), (202, .iload 9, 2), (204, .iload 16, 2), (206, .ishr, 1), (207, .iconst 1, 1), (208, .iand, 1), (209, .iconst 1, 1), (210, .if_icmp .ne 123, 3), (213, .aload_n 1, 1)]
theorem dL_tries_2 : iL_tries_2.all (fun q => decide (decode cL_tries q.1 = .ok q.2)) = true := by decide +kernel
def iL_tries_3 : List (Nat × Instr × Nat) := [(214, .aload_n 2, 1), (215, .aload_n 3, 1), (216, .aload 4, 2), (218, .aload 5, 2), (220, .aload 6, 2), (222, .aload 15, 2), (224, .aload 8, 2), (226, .iconst 1, 1), (227, .iload 16, 2), (229, .ishl, 1), (230, .invokestatic 38, 3), (233, .iconst 0, 1), (234, .istore 17, 2), (236, .iconst 0, 1), (237, .istore 18, 2), (239, .iload 18, 2), (241, .aload 8, 2), (243, .iconst 3, 1), (244, .iaload, 1), (245, .if_icmp .ge 56, 3), (248, .iload 17, 2), (250, .aload 4, 2), (252, .iload 18, 2), (254, .iaload, 1), (255, .ifCond .ge 36, 3), (258, .aload 15, 2), (260, .iload 18, 2), (262, .iaload, 1), (263, .ifCond .ne 7, 3), (266, .iconst 1, 1), (267, .goto 4, 3), (270, .iconst 0, 1), (271, .aload 7, 2), (273, .iload 18, 2), (275, .iaload, 1), (276, .ifCond .ne 7, 3), (279, .iconst 1, 1), (280, .goto 4, 3), (283, .iconst 0, 1), (284, .if_icmp .eq 7, 3)]
theorem dL_tries_3 : iL_tries_3.all (fun q => decide (decode cL_tries q.1 = .ok q.2)) = true := by decide +kernel
def iL_tries_4 : List (Nat × Instr × Nat) := [(287, .iconst 1, 1), (288, .goto 4, 3), (291, .iconst 0, 1), (292, .iadd, 1), (293, .istore 17, 2), (295, .iinc 18 1, 3), (298, .goto (-59), 3), (301, .iload 17, 2), (303, .iload 14, 2), (305, .if_icmp .le 8, 3), (308, .iload 16, 2), (310, .goto 5, 3), (313, .iload 13, 2), (315, .istore 13, 2), (317, .iload 17, 2), (319, .iload 14, 2), (321, .if_icmp .le 8, 3), (324, .iload 17, 2), (326, .goto 5, 3), (329, .iload 14, 2), (331, .istore 14, 2), (333, .iinc 16 1, 3), (336, .goto (-143), 3), (339, .aload_n 0, 1), (340, .iconst 0, 1), (341, .invokevirtual 42, 3), (344, .iload 13, 2), (346, .if_icmp .ne 13, 3), (349, .aload_n 0, 1), (350, .iconst 1, 1), (351, .invokevirtual 42, 3), (354, .iload 14, 2), (356, .if_icmp .eq 5, 3), (359, .iconst 0, 1), (360, .ireturn, 1), (361, .iload 9, 2), (363, .invokestatic 25, 3), (366, .bipush 7, 2), (368, .if_icmp .le 5, 3), (371, .iconst 1, 1)]
theorem dL_tries_4 : iL_tries_4.all (fun q => decide (decode cL_tries q.1 = .ok q.2)) = true := by decide +kernel
def iL_tries_5 : List (Nat × Instr × Nat) := [(372, .ireturn, 1), (373, .bipush 24, 2), (375, .newarray .int, 2), (377, .astore 16, 2), (379, .bipush 24, 2), (381, .newarray .int, 2), (383, .astore 17, 2), (385, .iconst 0, 1), (386, .istore 18, 2), (388, .iload 18, 2), (390, .bipush 24, 2), (392, .if_icmp .ge 23, 3), (395, .aload 16, 2), (397, .iload 18, 2), (399, .bipush (-6), 2), (401, .iastore, 1), (402, .aload 17, 2), (404, .iload 18, 2), (406, .bipush (-6), 2), (408, .iastore, 1), (409, .iinc 18 1, 3), (412, .goto (-24), 3), (415, .iconst 0, 1), (416, .istore 18, 2), (418, .iload 18, 2), (420, .iconst 1, 1), (421, .iload 9, 2), (423, .invokestatic 25, 3), (426, .ishl, 1), (427, .if_icmp .ge 188, 3), (430, .iconst 0, 1), (431, .istore 19, 2), (433, .iload 18, 2), (435, .istore 20, 2), (437, .iconst 0, 1), (438, .istore 21, 2), (440, .iload 21, 2), (442, .aload 8, 2), (444, .iconst 3, 1), (445, .iaload, 1)]
theorem dL_tries_5 : iL_tries_5.all (fun q => decide (decode cL_tries q.1 = .ok q.2)) = true := by decide +kernel
def iL_tries_6 : List (Nat × Instr × Nat) := [(446, .if_icmp .ge 38, 3), (449, .iload 9, 2), (451, .iload 21, 2), (453, .ishr, 1), (454, .iconst 1, 1), (455, .iand, 1), (456, .iconst 1, 1), (457, .if_icmp .ne 21, 3), (460, .iload 19, 2), (462, .iload 20, 2), (464, .iconst 1, 1), (465, .iand, 1), (466, .iload 21, 2), (468, .ishl, 1), (469, .ior, 1), (470, .istore 19, 2), (472, .iload 20, 2), (474, .iconst 1, 1), (475, .ishr, 1), (476, .istore 20, 2), (478, .iinc 21 1, 3), (481, .goto (-41), 3), (484, .aload_n 1, 1), (485, .aload_n 2, 1), (486, .aload_n 3, 1), (487, .aload 4, 2), (489, .aload 5, 2), (491, .aload 6, 2), (493, .aload 15, 2), (495, .aload 8, 2), (497, .iload 19, 2), (499, .invokestatic 38, 3), (502, .iconst 0, 1), (503, .istore 21, 2), (505, .iload 21, 2), (507, .aload 8, 2), (509, .iconst 3, 1), (510, .iaload, 1), (511, .if_icmp .ge 98, 3), (514, .aload 15, 2)]
theorem dL_tries_6 : iL_tries_6.all (fun q => decide (decode cL_tries q.1 = .ok q.2)) = true := by decide +kernel
def iL_tries_7 : List (Nat × Instr × Nat) := [(516, .iload 21, 2), (518, .iaload, 1), (519, .ifCond .ne 45, 3), (522, .aload 17, 2), (524, .iload 21, 2), (526, .aload 17, 2), (528, .iload 21, 2), (530, .iaload, 1), (531, .ifCond .lt 16, 3), (534, .iload 19, 2), (536, .invokestatic 25, 3), (539, .aload 17, 2), (541, .iload 21, 2), (543, .iaload, 1), (544, .if_icmp .ge 11, 3), (547, .iload 19, 2), (549, .invokestatic 25, 3), (552, .goto 8, 3), (555, .aload 17, 2), (557, .iload 21, 2), (559, .iaload, 1), (560, .iastore, 1), (561, .goto 42, 3), (564, .aload 16, 2), (566, .iload 21, 2), (568, .aload 16, 2), (570, .iload 21, 2), (572, .iaload, 1), (573, .ifCond .lt 16, 3), (576, .iload 19, 2), (578, .invokestatic 25, 3), (581, .aload 16, 2), (583, .iload 21, 2), (585, .iaload, 1), (586, .if_icmp .ge 11, 3), (589, .iload 19, 2), (591, .invokestatic 25, 3), (594, .goto 8, 3), (597, .aload 16, 2), (599, .iload 21, 2)]
theorem dL_tries_7 : iL_tries_7.all (fun q => decide (decode cL_tries q.1 = .ok q.2)) = true := by decide +kernel
def iL_tries_8 : List (Nat × Instr × Nat) := [(601, .iaload, 1), (602, .iastore, 1), (603, .iinc 21 1, 3), (606, .goto (-101), 3), (609, .iinc 18 1, 3), (612, .goto (-194), 3), (615, .iconst 0, 1), (616, .istore 18, 2), (618, .iload 18, 2), (620, .aload 8, 2), (622, .iconst 3, 1), (623, .iaload, 1), (624, .if_icmp .ge 55, 3), (627, .aload_n 0, 1), (628, .iload 18, 2), (630, .invokevirtual 45, 3), (633, .aload 16, 2), (635, .iload 18, 2), (637, .iaload, 1), (638, .if_icmp .ne 33, 3), (641, .aload_n 0, 1), (642, .iload 18, 2), (644, .invokevirtual 48, 3), (647, .iload 11, 2), (649, .iload 18, 2), (651, .ishr, 1), (652, .iconst 1, 1), (653, .iand, 1), (654, .iconst 1, 1), (655, .if_icmp .ne 8, 3), (658, .bipush (-5), 2), (660, .goto 8, 3), (663, .aload 17, 2), (665, .iload 18, 2), (667, .iaload, 1), (668, .if_icmp .eq 5, 3), (671, .iconst 0, 1), (672, .ireturn, 1), (673, .iinc 18 1, 3), (676, .goto (-58), 3)]
theorem dL_tries_8 : iL_tries_8.all (fun q => decide (decode cL_tries q.1 = .ok q.2)) = true := by decide +kernel
def iL_tries_9 : List (Nat × Instr × Nat) := [(679, .iload 12, 2), (681, .aload_n 0, 1), (682, .iconst 0, 1), (683, .invokevirtual 30, 3), (686, .if_icmp .ne 7, 3), (689, .iconst 1, 1), (690, .goto 4, 3), (693, .iconst 0, 1), (694, .ireturn, 1)]
theorem dL_tries_9 : iL_tries_9.all (fun q => decide (decode cL_tries q.1 = .ok q.2)) = true := by decide +kernel
set_option maxRecDepth 100000 in
theorem iL_tries_e : iL_tries = iL_tries_0 ++ (iL_tries_1 ++ (iL_tries_2 ++ (iL_tries_3 ++ (iL_tries_4 ++ (iL_tries_5 ++ (iL_tries_6 ++ (iL_tries_7 ++ (iL_tries_8 ++ (iL_tries_9))))))))) := rfl
set_option maxRecDepth 100000 in
theorem dL_tries : iL_tries.all (fun q => decide (decode cL_tries q.1 = .ok q.2)) = true := by
  rw [iL_tries_e, List.all_append, List.all_append, List.all_append, List.all_append, List.all_append, List.all_append, List.all_append, List.all_append, List.all_append]
  rw [dL_tries_0, dL_tries_1, dL_tries_2, dL_tries_3, dL_tries_4, dL_tries_5, dL_tries_6, dL_tries_7, dL_tries_8, dL_tries_9]
  rfl
end
section
def iL_law : List (Nat × Instr × Nat) := [(0, .new 15, 3), (3, .dup, 1), (4, .invokespecial 58, 3), (7, .astore_n 1, 1), (8, .bipush 24, 2), (10, .newarray .int, 2), (12, .astore_n 2, 1), (13, .bipush 24, 2), (15, .newarray .int, 2), (17, .astore_n 3, 1), (18, .bipush 24, 2), (20, .newarray .int, 2), (22, .astore 4, 2), (24, .bipush 24, 2), (26, .newarray .int, 2), (28, .astore 5, 2), (30, .bipush 24, 2), (32, .newarray .int, 2), (34, .astore 6, 2), (36, .bipush 24, 2), (38, .newarray .int, 2), (40, .astore 7, 2), (42, .bipush 24, 2), (44, .newarray .int, 2), (46, .astore 8, 2), (48, .bipush 24, 2), (50, .newarray .int, 2), (52, .astore 9, 2), (54, .iconst 5, 1), (55, .newarray .int, 2), (57, .astore 10, 2), (59, .aload 10, 2), (61, .iconst 0, 1), (62, .bipush 14, 2), (64, .iastore, 1), (65, .aload 10, 2), (67, .iconst 1, 1), (68, .bipush 30, 2), (70, .iastore, 1), (71, .iconst 0, 1), (72, .istore 11, 2), (74, .iload 11, 2), (76, .bipush 52, 2), (78, .if_icmp .ge 975, 3), (81, .aload_n 0, 1), (82, .iload 11, 2), (84, .invokestatic 59, 3), (87, .istore 12, 2), (89, .iload 12, 2), (91, .bipush 16, 2), (93, .invokestatic 63, 3), (96, .istore 13, 2), (98, .aload 10, 2), (100, .iconst 3, 1), (101, .iaload, 1), (102, .istore 14, 2), (104, .iload 14, 2), (106, .ifCond .ne 7, 3), (109, .iconst 0, 1), (110, .goto 12, 3), (113, .iload 12, 2), (115, .iconst 4, 1), (116, .ishr, 1), (117, .iload 14, 2), (119, .invokestatic 63, 3), (122, .istore 15, 2), (124, .iconst 1, 1), (125, .istore 16, 2), (127, .iload 13, 2), (129, .bipush 9, 2), (131, .if_icmp .ge 278, 3), (134, .iload 14, 2), (136, .bipush 24, 2), (138, .if_icmp .ge 271, 3), (141, .iload 14, 2), (143, .ifCond .le 13, 3), (146, .iload 13, 2), (148, .iconst 1, 1), (149, .if_icmp .le 7, 3), (152, .iconst 1, 1), (153, .goto 4, 3), (156, .iconst 0, 1), (157, .istore 17, 2), (159, .iconst 1, 1), (160, .iload 12, 2), (162, .bipush 9, 2), (164, .ishr, 1), (165, .iload 12, 2), (167, .bipush 20, 2), (169, .ishr, 1), (170, .iconst 2, 1), (171, .invokestatic 63, 3), (174, .ifCond .ne 8, 3), (177, .bipush 9, 2), (179, .goto 4, 3), (182, .iconst 3, 1), (183, .invokestatic 63, 3), (186, .iadd, 1), (187, .istore 18, 2), (189, .iload 12, 2), (191, .bipush 21, 2), (193, .ishr, 1), (194, .iconst 3, 1), (195, .invokestatic 63, 3), (198, .ifCond .ne 7, 3), (201, .iconst 0, 1), (202, .goto 44, 3), (205, .iconst 1, 1), (206, .iload 12, 2), (208, .bipush 13, 2), (210, .ishr, 1), (211, .bipush 10, 2), (213, .invokestatic 63, 3), (216, .ishl, 1), (217, .iload 12, 2), (219, .bipush 23, 2), (221, .ishr, 1), (222, .iconst 2, 1), (223, .invokestatic 63, 3), (226, .ifCond .ne 7, 3), (229, .iconst 0, 1), (230, .goto 15, 3), (233, .iconst 1, 1), (234, .iload 12, 2), (236, .bipush 16, 2), (238, .ishr, 1), (239, .bipush 10, 2), (241, .invokestatic 63, 3), (244, .ishl, 1), (245, .ior, 1), (246, .istore 19, 2), (248, .iload 17, 2), (250, .ifCond .eq 11, 3), (253, .aload 8, 2), (255, .iload 15, 2), (257, .iaload, 1), (258, .ifCond .ne 7, 3), (261, .iconst 1, 1), (262, .goto 4, 3), (265, .iconst 0, 1), (266, .istore 20, 2), (268, .iload 17, 2), (270, .ifCond .eq 16, 3), (273, .aload_n 1, 1), (274, .iload 15, 2), (276, .iload 18, 2), (278, .iload 19, 2), (280, .invokevirtual 66, 3), (283, .goto 15, 3), (286, .aload_n 1, 1), (287, .iload 13, 2), (289, .iconst 2, 1), (290, .irem, 1), (291, .iload 18, 2), (293, .iload 19, 2), (295, .invokevirtual 70, 3), (298, .istore 21, 2), (300, .iload 21, 2), (302, .iload 20, 2), (304, .ifCond .eq 8, 3), (307, .iload 14, 2), (309, .goto 5, 3), (312, .bipush (-5), 2), (314, .if_icmp .ne 7, 3), (317, .iconst 1, 1), (318, .goto 4, 3), (321, .iconst 0, 1), (322, .istore 16, 2), (324, .iload 20, 2), (326, .ifCond .eq 80, 3), (329, .aload_n 2, 1), (330, .iload 14, 2), (332, .iload 17, 2), (334, .ifCond .eq 12, 3), (337, .iconst 1, 1), (338, .aload_n 2, 1), (339, .iload 15, 2), (341, .iaload, 1), (342, .isub, 1), (343, .goto 7, 3), (346, .iload 13, 2), (348, .iconst 2, 1), (349, .irem, 1), (350, .iastore, 1), (351, .aload_n 3, 1), (352, .iload 14, 2), (354, .iload 18, 2), (356, .iastore, 1), (357, .aload 4, 2), (359, .iload 14, 2), (361, .aload 10, 2), (363, .iconst 2, 1), (364, .iaload, 1), (365, .iastore, 1), (366, .aload 5, 2), (368, .iload 14, 2), (370, .aload 10, 2), (372, .iconst 2, 1), (373, .iaload, 1), (374, .iastore, 1), (375, .aload 6, 2), (377, .iload 14, 2), (379, .iload 17, 2), (381, .ifCond .eq 8, 3), (384, .iload 15, 2), (386, .goto 4, 3), (389, .iconst (-1), 1), (390, .iastore, 1), (391, .aload 7, 2), (393, .iload 14, 2), (395, .iload 19, 2), (397, .iastore, 1), (398, .aload 10, 2), (400, .iconst 3, 1), (401, .dup2, 1), (402, .iaload, 1), (403, .iconst 1, 1), (404, .iadd, 1), (405, .iastore, 1), (406, .goto 542, 3), (409, .iload 13, 2), (411, .bipush 9, 2), (413, .if_icmp .ne 127, 3), (416, .iload 14, 2), (418, .ifCond .le 122, 3), (421, .iload 12, 2), (423, .bipush 9, 2), (425, .ishr, 1), (426, .iconst 2, 1), (427, .invokestatic 63, 3), (430, .ifCond .ne 110, 3), (433, .aload 8, 2), (435, .iload 15, 2), (437, .iaload, 1), (438, .ifCond .ne 7, 3), (441, .iconst 1, 1), (442, .goto 4, 3), (445, .iconst 0, 1), (446, .istore 17, 2), (448, .aload 8, 2), (450, .iload 15, 2), (452, .iconst 1, 1), (453, .iastore, 1), (454, .aload_n 2, 1), (455, .aload_n 3, 1), (456, .aload 5, 2), (458, .aload 6, 2), (460, .aload 7, 2), (462, .aload 8, 2), (464, .aload 9, 2), (466, .aload 10, 2), (468, .iconst 0, 1), (469, .invokestatic 38, 3), (472, .iconst 0, 1), (473, .istore 18, 2), (475, .iconst 0, 1), (476, .istore 19, 2), (478, .iload 19, 2), (480, .iload 14, 2), (482, .if_icmp .ge 27, 3), (485, .iload 18, 2), (487, .aload 9, 2), (489, .iload 19, 2), (491, .iaload, 1), (492, .ifCond .ne 7, 3), (495, .iconst 1, 1), (496, .goto 4, 3), (499, .iconst 0, 1), (500, .iadd, 1), (501, .istore 18, 2), (503, .iinc 19 1, 3), (506, .goto (-28), 3), (509, .aload_n 1, 1), (510, .iload 15, 2), (512, .invokevirtual 73, 3), (515, .iload 17, 2), (517, .ifCond .eq 8, 3), (520, .iload 18, 2), (522, .goto 5, 3), (525, .bipush (-5), 2), (527, .if_icmp .ne 7, 3), (530, .iconst 1, 1), (531, .goto 4, 3), (534, .iconst 0, 1), (535, .istore 16, 2), (537, .goto 411, 3), (540, .iload 13, 2), (542, .bipush 10, 2), (544, .if_icmp .ne 92, 3), (547, .iload 14, 2), (549, .ifCond .le 87, 3), (552, .aload 6, 2), (554, .iload 15, 2), (556, .iaload, 1), (557, .ifCond .lt 15, 3), (560, .aload 8, 2), (562, .iload 15, 2), (564, .iaload, 1), (565, .ifCond .ne 7, 3), (568, .iconst 1, 1), (569, .goto 4, 3), (572, .iconst 0, 1), (573, .istore 17, 2), (575, .aload_n 1, 1), (576, .iload 15, 2), (578, .invokevirtual 76, 3), (581, .iload 17, 2), (583, .ifCond .eq 16, 3), (586, .aload 10, 2), (588, .iconst 2, 1), (589, .iaload, 1), (590, .aload 5, 2), (592, .iload 15, 2), (594, .iaload, 1), (595, .isub, 1), (596, .goto 5, 3), (599, .bipush (-5), 2), (601, .if_icmp .ne 7, 3), (604, .iconst 1, 1), (605, .goto 4, 3), (608, .iconst 0, 1), (609, .istore 16, 2), (611, .aload 5, 2), (613, .iload 15, 2), (615, .iload 17, 2), (617, .ifCond .eq 10, 3), (620, .aload 10, 2), (622, .iconst 2, 1), (623, .iaload, 1), (624, .goto 8, 3), (627, .aload 5, 2), (629, .iload 15, 2), (631, .iaload, 1), (632, .iastore, 1), (633, .goto 315, 3), (636, .iload 13, 2), (638, .bipush 13, 2), (640, .if_icmp .ge 54, 3), (643, .iload 12, 2), (645, .bipush 9, 2), (647, .ishr, 1), (648, .bipush 10, 2), (650, .invokestatic 63, 3), (653, .istore 17, 2), (655, .aload 10, 2), (657, .iconst 4, 1), (658, .dup2, 1), (659, .iaload, 1), (660, .iconst 1, 1), (661, .iload 17, 2), (663, .ishl, 1), (664, .ixor, 1), (665, .iastore, 1), (666, .aload_n 1, 1), (667, .iload 17, 2), (669, .invokevirtual 79, 3), (672, .aload 10, 2), (674, .iconst 4, 1), (675, .iaload, 1), (676, .iload 17, 2), (678, .ishr, 1), (679, .iconst 1, 1), (680, .iand, 1), (681, .if_icmp .ne 7, 3), (684, .iconst 1, 1), (685, .goto 4, 3), (688, .iconst 0, 1), (689, .istore 16, 2), (691, .goto 257, 3), (694, .iload 13, 2), (696, .bipush 15, 2), (698, .if_icmp .ge 158, 3), (701, .iconst 1, 1), (702, .iload 12, 2), (704, .bipush 9, 2), (706, .ishr, 1), (707, .iload 12, 2), (709, .bipush 18, 2), (711, .ishr, 1), (712, .iconst 4, 1), (713, .invokestatic 63, 3), (716, .ifCond .ne 8, 3), (719, .bipush 30, 2), (721, .goto 5, 3), (724, .bipush 7, 2), (726, .invokestatic 63, 3), (729, .iadd, 1), (730, .istore 17, 2), (732, .aload 10, 2), (734, .iconst 2, 1), (735, .iaload, 1), (736, .iload 17, 2), (738, .iadd, 1), (739, .sipush 999, 3), (742, .if_icmp .gt 7, 3), (745, .iconst 1, 1), (746, .goto 4, 3), (749, .iconst 0, 1), (750, .istore 18, 2), (752, .aload 10, 2), (754, .iconst 2, 1), (755, .dup2, 1), (756, .iaload, 1), (757, .iload 18, 2), (759, .ifCond .eq 8, 3), (762, .iload 17, 2), (764, .goto 4, 3), (767, .iconst 0, 1), (768, .iadd, 1), (769, .iastore, 1), (770, .aload_n 2, 1), (771, .aload_n 3, 1), (772, .aload 5, 2), (774, .aload 6, 2), (776, .aload 7, 2), (778, .aload 8, 2), (780, .aload 9, 2), (782, .aload 10, 2), (784, .iconst 0, 1), (785, .invokestatic 38, 3), (788, .iconst 0, 1), (789, .istore 19, 2), (791, .iconst 0, 1), (792, .istore 20, 2), (794, .iload 20, 2), (796, .iload 14, 2), (798, .if_icmp .ge 27, 3), (801, .iload 19, 2), (803, .aload 9, 2), (805, .iload 20, 2), (807, .iaload, 1), (808, .ifCond .ne 7, 3), (811, .iconst 1, 1), (812, .goto 4, 3), (815, .iconst 0, 1), (816, .iadd, 1), (817, .istore 19, 2), (819, .iinc 20 1, 3), (822, .goto (-28), 3), (825, .aload_n 1, 1), (826, .iload 17, 2), (828, .invokevirtual 82, 3), (831, .iload 18, 2), (833, .ifCond .eq 8, 3), (836, .iload 19, 2), (838, .goto 5, 3), (841, .bipush (-5), 2), (843, .if_icmp .ne 7, 3), (846, .iconst 1, 1), (847, .goto 4, 3), (850, .iconst 0, 1), (851, .istore 16, 2), (853, .goto 95, 3), (856, .iload 12, 2), (858, .bipush 9, 2), (860, .ishr, 1), (861, .iconst 2, 1), (862, .invokestatic 63, 3), (865, .istore 17, 2), (867, .iload 17, 2), (869, .ifCond .ne 18, 3), (872, .iconst 1, 1), (873, .iload 12, 2), (875, .bipush 10, 2), (877, .ishr, 1), (878, .bipush 60, 2), (880, .invokestatic 63, 3), (883, .iadd, 1), (884, .goto 32, 3), (887, .iconst 1, 1), (888, .iload 12, 2), (890, .bipush 10, 2), (892, .ishr, 1), (893, .iload 12, 2), (895, .bipush 19, 2), (897, .ishr, 1), (898, .iconst 2, 1), (899, .invokestatic 63, 3), (902, .ifCond .ne 8, 3), (905, .bipush 99, 2), (907, .goto 5, 3), (910, .bipush 30, 2), (912, .invokestatic 63, 3), (915, .iadd, 1), (916, .istore 18, 2), (918, .aload_n 1, 1), (919, .iload 17, 2), (921, .iload 18, 2), (923, .invokevirtual 85, 3), (926, .aload 10, 2), (928, .iload 17, 2), (930, .iaload, 1), (931, .if_icmp .ne 7, 3), (934, .iconst 1, 1), (935, .goto 4, 3), (938, .iconst 0, 1), (939, .istore 16, 2), (941, .aload 10, 2), (943, .iload 17, 2), (945, .iload 18, 2), (947, .iastore, 1), (948, .aload_n 2, 1), (949, .aload_n 3, 1), (950, .aload 5, 2), (952, .aload 6, 2), (954, .aload 7, 2), (956, .aload 8, 2), (958, .aload 9, 2), (960, .aload 10, 2), (962, .iconst 0, 1), (963, .invokestatic 38, 3), (966, .iload 16, 2), (968, .ifCond .eq 77, 3), (971, .aload_n 1, 1), (972, .aload_n 2, 1), (973, .aload_n 3, 1), (974, .aload 4, 2), (976, .aload 5, 2), (978, .aload 6, 2), (980, .aload 7, 2), (982, .aload 8, 2), (984, .aload 9, 2), (986, .aload 10, 2), (988, .invokestatic 88, 3), (991, .ifCond .eq 54, 3), (994, .iload 11, 2), (996, .bipush 6, 2), (998, .irem, 1), (999, .iconst 5, 1), (1000, .if_icmp .ne 47, 3), (1003, .aload_n 1, 1), (1004, .aload_n 2, 1), (1005, .aload_n 3, 1), (1006, .aload 5, 2), (1008, .aload 6, 2), (1010, .aload 7, 2), (1012, .aload 8, 2), (1014, .aload 9, 2), (1016, .aload 10, 2), (1018, .invokestatic 91, 3), (1021, .ifCond .eq 24, 3), (1024, .aload_n 1, 1), (1025, .aload_n 2, 1), (1026, .aload_n 3, 1), (1027, .aload 5, 2), (1029, .aload 6, 2), (1031, .aload 7, 2), (1033, .aload 8, 2), (1035, .aload 9, 2), (1037, .aload 10, 2), (1039, .invokestatic 95, 3), (1042, .ifCond .ne 5, 3), (1045, .iconst 0, 1), (1046, .ireturn, 1), (1047, .iinc 11 1, 3), (1050, .goto (-976), 3), (1053, .iconst 1, 1), (1054, .ireturn, 1)]
def iL_law_0 : List (Nat × Instr × Nat) := [(0, .new 15, 3), (3, .dup, 1), (4, .invokespecial 58, 3), (7, .astore_n 1, 1), (8, .bipush 24, 2), (10, .newarray .int, 2), (12, .astore_n 2, 1), (13, .bipush 24, 2), (15, .newarray .int, 2), (17, .astore_n 3, 1), (18, .bipush 24, 2), (20, .newarray .int, 2), (22, .astore 4, 2), (24, .bipush 24, 2), (26, .newarray .int, 2), (28, .astore 5, 2), (30, .bipush 24, 2), (32, .newarray .int, 2), (34, .astore 6, 2), (36, .bipush 24, 2), (38, .newarray .int, 2), (40, .astore 7, 2), (42, .bipush 24, 2), (44, .newarray .int, 2), (46, .astore 8, 2), (48, .bipush 24, 2), (50, .newarray .int, 2), (52, .astore 9, 2), (54, .iconst 5, 1), (55, .newarray .int, 2), (57, .astore 10, 2), (59, .aload 10, 2), (61, .iconst 0, 1), (62, .bipush 14, 2), (64, .iastore, 1), (65, .aload 10, 2), (67, .iconst 1, 1), (68, .bipush 30, 2), (70, .iastore, 1), (71, .iconst 0, 1)]
theorem dL_law_0 : iL_law_0.all (fun q => decide (decode code q.1 = .ok q.2)) = true := by decide +kernel
def iL_law_1 : List (Nat × Instr × Nat) := [(72, .istore 11, 2), (74, .iload 11, 2), (76, .bipush 52, 2), (78, .if_icmp .ge 975, 3), (81, .aload_n 0, 1), (82, .iload 11, 2), (84, .invokestatic 59, 3), (87, .istore 12, 2), (89, .iload 12, 2), (91, .bipush 16, 2), (93, .invokestatic 63, 3), (96, .istore 13, 2), (98, .aload 10, 2), (100, .iconst 3, 1), (101, .iaload, 1), (102, .istore 14, 2), (104, .iload 14, 2), (106, .ifCond .ne 7, 3), (109, .iconst 0, 1), (110, .goto 12, 3), (113, .iload 12, 2), (115, .iconst 4, 1), (116, .ishr, 1), (117, .iload 14, 2), (119, .invokestatic 63, 3), (122, .istore 15, 2), (124, .iconst 1, 1), (125, .istore 16, 2), (127, .iload 13, 2), (129, .bipush 9, 2), (131, .if_icmp .ge 278, 3), (134, .iload 14, 2), (136, .bipush 24, 2), (138, .if_icmp .ge 271, 3), (141, .iload 14, 2), (143, .ifCond .le 13, 3), (146, .iload 13, 2), (148, .iconst 1, 1), (149, .if_icmp .le 7, 3), (152, .iconst 1, 1)]
theorem dL_law_1 : iL_law_1.all (fun q => decide (decode code q.1 = .ok q.2)) = true := by decide +kernel
def iL_law_2 : List (Nat × Instr × Nat) := [(153, .goto 4, 3), (156, .iconst 0, 1), (157, .istore 17, 2), (159, .iconst 1, 1), (160, .iload 12, 2), (162, .bipush 9, 2), (164, .ishr, 1), (165, .iload 12, 2), (167, .bipush 20, 2), (169, .ishr, 1), (170, .iconst 2, 1), (171, .invokestatic 63, 3), (174, .ifCond .ne 8, 3), (177, .bipush 9, 2), (179, .goto 4, 3), (182, .iconst 3, 1), (183, .invokestatic 63, 3), (186, .iadd, 1), (187, .istore 18, 2), (189, .iload 12, 2), (191, .bipush 21, 2), (193, .ishr, 1), (194, .iconst 3, 1), (195, .invokestatic 63, 3), (198, .ifCond .ne 7, 3), (201, .iconst 0, 1), (202, .goto 44, 3), (205, .iconst 1, 1), (206, .iload 12, 2), (208, .bipush 13, 2), (210, .ishr, 1), (211, .bipush 10, 2), (213, .invokestatic 63, 3), (216, .ishl, 1), (217, .iload 12, 2), (219, .bipush 23, 2), (221, .ishr, 1), (222, .iconst 2, 1), (223, .invokestatic 63, 3), (226, .ifCond .ne 7, 3)]
theorem dL_law_2 : iL_law_2.all (fun q => decide (decode code q.1 = .ok q.2)) = true := by decide +kernel
def iL_law_3 : List (Nat × Instr × Nat) := [(229, .iconst 0, 1), (230, .goto 15, 3), (233, .iconst 1, 1), (234, .iload 12, 2), (236, .bipush 16, 2), (238, .ishr, 1), (239, .bipush 10, 2), (241, .invokestatic 63, 3), (244, .ishl, 1), (245, .ior, 1), (246, .istore 19, 2), (248, .iload 17, 2), (250, .ifCond .eq 11, 3), (253, .aload 8, 2), (255, .iload 15, 2), (257, .iaload, 1), (258, .ifCond .ne 7, 3), (261, .iconst 1, 1), (262, .goto 4, 3), (265, .iconst 0, 1), (266, .istore 20, 2), (268, .iload 17, 2), (270, .ifCond .eq 16, 3), (273, .aload_n 1, 1), (274, .iload 15, 2), (276, .iload 18, 2), (278, .iload 19, 2), (280, .invokevirtual 66, 3), (283, .goto 15, 3), (286, .aload_n 1, 1), (287, .iload 13, 2), (289, .iconst 2, 1), (290, .irem, 1), (291, .iload 18, 2), (293, .iload 19, 2), (295, .invokevirtual 70, 3), (298, .istore 21, 2), (300, .iload 21, 2), (302, .iload 20, 2), (304, .ifCond .eq 8, 3)]
theorem dL_law_3 : iL_law_3.all (fun q => decide (decode code q.1 = .ok q.2)) = true := by decide +kernel
def iL_law_4 : List (Nat × Instr × Nat) := [(307, .iload 14, 2), (309, .goto 5, 3), (312, .bipush (-5), 2), (314, .if_icmp .ne 7, 3), (317, .iconst 1, 1), (318, .goto 4, 3), (321, .iconst 0, 1), (322, .istore 16, 2), (324, .iload 20, 2), (326, .ifCond .eq 80, 3), (329, .aload_n 2, 1), (330, .iload 14, 2), (332, .iload 17, 2), (334, .ifCond .eq 12, 3), (337, .iconst 1, 1), (338, .aload_n 2, 1), (339, .iload 15, 2), (341, .iaload, 1), (342, .isub, 1), (343, .goto 7, 3), (346, .iload 13, 2), (348, .iconst 2, 1), (349, .irem, 1), (350, .iastore, 1), (351, .aload_n 3, 1), (352, .iload 14, 2), (354, .iload 18, 2), (356, .iastore, 1), (357, .aload 4, 2), (359, .iload 14, 2), (361, .aload 10, 2), (363, .iconst 2, 1), (364, .iaload, 1), (365, .iastore, 1), (366, .aload 5, 2), (368, .iload 14, 2), (370, .aload 10, 2), (372, .iconst 2, 1), (373, .iaload, 1), (374, .iastore, 1)]
theorem dL_law_4 : iL_law_4.all (fun q => decide (decode code q.1 = .ok q.2)) = true := by decide +kernel
def iL_law_5 : List (Nat × Instr × Nat) := [(375, .aload 6, 2), (377, .iload 14, 2), (379, .iload 17, 2), (381, .ifCond .eq 8, 3), (384, .iload 15, 2), (386, .goto 4, 3), (389, .iconst (-1), 1), (390, .iastore, 1), (391, .aload 7, 2), (393, .iload 14, 2), (395, .iload 19, 2), (397, .iastore, 1), (398, .aload 10, 2), (400, .iconst 3, 1), (401, .dup2, 1), (402, .iaload, 1), (403, .iconst 1, 1), (404, .iadd, 1), (405, .iastore, 1), (406, .goto 542, 3), (409, .iload 13, 2), (411, .bipush 9, 2), (413, .if_icmp .ne 127, 3), (416, .iload 14, 2), (418, .ifCond .le 122, 3), (421, .iload 12, 2), (423, .bipush 9, 2), (425, .ishr, 1), (426, .iconst 2, 1), (427, .invokestatic 63, 3), (430, .ifCond .ne 110, 3), (433, .aload 8, 2), (435, .iload 15, 2), (437, .iaload, 1), (438, .ifCond .ne 7, 3), (441, .iconst 1, 1), (442, .goto 4, 3), (445, .iconst 0, 1), (446, .istore 17, 2), (448, .aload 8, 2)]
theorem dL_law_5 : iL_law_5.all (fun q => decide (decode code q.1 = .ok q.2)) = true := by decide +kernel
def iL_law_6 : List (Nat × Instr × Nat) := [(450, .iload 15, 2), (452, .iconst 1, 1), (453, .iastore, 1), (454, .aload_n 2, 1), (455, .aload_n 3, 1), (456, .aload 5, 2), (458, .aload 6, 2), (460, .aload 7, 2), (462, .aload 8, 2), (464, .aload 9, 2), (466, .aload 10, 2), (468, .iconst 0, 1), (469, .invokestatic 38, 3), (472, .iconst 0, 1), (473, .istore 18, 2), (475, .iconst 0, 1), (476, .istore 19, 2), (478, .iload 19, 2), (480, .iload 14, 2), (482, .if_icmp .ge 27, 3), (485, .iload 18, 2), (487, .aload 9, 2), (489, .iload 19, 2), (491, .iaload, 1), (492, .ifCond .ne 7, 3), (495, .iconst 1, 1), (496, .goto 4, 3), (499, .iconst 0, 1), (500, .iadd, 1), (501, .istore 18, 2), (503, .iinc 19 1, 3), (506, .goto (-28), 3), (509, .aload_n 1, 1), (510, .iload 15, 2), (512, .invokevirtual 73, 3), (515, .iload 17, 2), (517, .ifCond .eq 8, 3), (520, .iload 18, 2), (522, .goto 5, 3), (525, .bipush (-5), 2)]
theorem dL_law_6 : iL_law_6.all (fun q => decide (decode code q.1 = .ok q.2)) = true := by decide +kernel
def iL_law_7 : List (Nat × Instr × Nat) := [(527, .if_icmp .ne 7, 3), (530, .iconst 1, 1), (531, .goto 4, 3), (534, .iconst 0, 1), (535, .istore 16, 2), (537, .goto 411, 3), (540, .iload 13, 2), (542, .bipush 10, 2), (544, .if_icmp .ne 92, 3), (547, .iload 14, 2), (549, .ifCond .le 87, 3), (552, .aload 6, 2), (554, .iload 15, 2), (556, .iaload, 1), (557, .ifCond .lt 15, 3), (560, .aload 8, 2), (562, .iload 15, 2), (564, .iaload, 1), (565, .ifCond .ne 7, 3), (568, .iconst 1, 1), (569, .goto 4, 3), (572, .iconst 0, 1), (573, .istore 17, 2), (575, .aload_n 1, 1), (576, .iload 15, 2), (578, .invokevirtual 76, 3), (581, .iload 17, 2), (583, .ifCond .eq 16, 3), (586, .aload 10, 2), (588, .iconst 2, 1), (589, .iaload, 1), (590, .aload 5, 2), (592, .iload 15, 2), (594, .iaload, 1), (595, .isub, 1), (596, .goto 5, 3), (599, .bipush (-5), 2), (601, .if_icmp .ne 7, 3), (604, .iconst 1, 1), (605, .goto 4, 3)]
theorem dL_law_7 : iL_law_7.all (fun q => decide (decode code q.1 = .ok q.2)) = true := by decide +kernel
def iL_law_8 : List (Nat × Instr × Nat) := [(608, .iconst 0, 1), (609, .istore 16, 2), (611, .aload 5, 2), (613, .iload 15, 2), (615, .iload 17, 2), (617, .ifCond .eq 10, 3), (620, .aload 10, 2), (622, .iconst 2, 1), (623, .iaload, 1), (624, .goto 8, 3), (627, .aload 5, 2), (629, .iload 15, 2), (631, .iaload, 1), (632, .iastore, 1), (633, .goto 315, 3), (636, .iload 13, 2), (638, .bipush 13, 2), (640, .if_icmp .ge 54, 3), (643, .iload 12, 2), (645, .bipush 9, 2), (647, .ishr, 1), (648, .bipush 10, 2), (650, .invokestatic 63, 3), (653, .istore 17, 2), (655, .aload 10, 2), (657, .iconst 4, 1), (658, .dup2, 1), (659, .iaload, 1), (660, .iconst 1, 1), (661, .iload 17, 2), (663, .ishl, 1), (664, .ixor, 1), (665, .iastore, 1), (666, .aload_n 1, 1), (667, .iload 17, 2), (669, .invokevirtual 79, 3), (672, .aload 10, 2), (674, .iconst 4, 1), (675, .iaload, 1), (676, .iload 17, 2)]
theorem dL_law_8 : iL_law_8.all (fun q => decide (decode code q.1 = .ok q.2)) = true := by decide +kernel
def iL_law_9 : List (Nat × Instr × Nat) := [(678, .ishr, 1), (679, .iconst 1, 1), (680, .iand, 1), (681, .if_icmp .ne 7, 3), (684, .iconst 1, 1), (685, .goto 4, 3), (688, .iconst 0, 1), (689, .istore 16, 2), (691, .goto 257, 3), (694, .iload 13, 2), (696, .bipush 15, 2), (698, .if_icmp .ge 158, 3), (701, .iconst 1, 1), (702, .iload 12, 2), (704, .bipush 9, 2), (706, .ishr, 1), (707, .iload 12, 2), (709, .bipush 18, 2), (711, .ishr, 1), (712, .iconst 4, 1), (713, .invokestatic 63, 3), (716, .ifCond .ne 8, 3), (719, .bipush 30, 2), (721, .goto 5, 3), (724, .bipush 7, 2), (726, .invokestatic 63, 3), (729, .iadd, 1), (730, .istore 17, 2), (732, .aload 10, 2), (734, .iconst 2, 1), (735, .iaload, 1), (736, .iload 17, 2), (738, .iadd, 1), (739, .sipush 999, 3), (742, .if_icmp .gt 7, 3), (745, .iconst 1, 1), (746, .goto 4, 3), (749, .iconst 0, 1), (750, .istore 18, 2), (752, .aload 10, 2)]
theorem dL_law_9 : iL_law_9.all (fun q => decide (decode code q.1 = .ok q.2)) = true := by decide +kernel
def iL_law_10 : List (Nat × Instr × Nat) := [(754, .iconst 2, 1), (755, .dup2, 1), (756, .iaload, 1), (757, .iload 18, 2), (759, .ifCond .eq 8, 3), (762, .iload 17, 2), (764, .goto 4, 3), (767, .iconst 0, 1), (768, .iadd, 1), (769, .iastore, 1), (770, .aload_n 2, 1), (771, .aload_n 3, 1), (772, .aload 5, 2), (774, .aload 6, 2), (776, .aload 7, 2), (778, .aload 8, 2), (780, .aload 9, 2), (782, .aload 10, 2), (784, .iconst 0, 1), (785, .invokestatic 38, 3), (788, .iconst 0, 1), (789, .istore 19, 2), (791, .iconst 0, 1), (792, .istore 20, 2), (794, .iload 20, 2), (796, .iload 14, 2), (798, .if_icmp .ge 27, 3), (801, .iload 19, 2), (803, .aload 9, 2), (805, .iload 20, 2), (807, .iaload, 1), (808, .ifCond .ne 7, 3), (811, .iconst 1, 1), (812, .goto 4, 3), (815, .iconst 0, 1), (816, .iadd, 1), (817, .istore 19, 2), (819, .iinc 20 1, 3), (822, .goto (-28), 3), (825, .aload_n 1, 1)]
theorem dL_law_10 : iL_law_10.all (fun q => decide (decode code q.1 = .ok q.2)) = true := by decide +kernel
def iL_law_11 : List (Nat × Instr × Nat) := [(826, .iload 17, 2), (828, .invokevirtual 82, 3), (831, .iload 18, 2), (833, .ifCond .eq 8, 3), (836, .iload 19, 2), (838, .goto 5, 3), (841, .bipush (-5), 2), (843, .if_icmp .ne 7, 3), (846, .iconst 1, 1), (847, .goto 4, 3), (850, .iconst 0, 1), (851, .istore 16, 2), (853, .goto 95, 3), (856, .iload 12, 2), (858, .bipush 9, 2), (860, .ishr, 1), (861, .iconst 2, 1), (862, .invokestatic 63, 3), (865, .istore 17, 2), (867, .iload 17, 2), (869, .ifCond .ne 18, 3), (872, .iconst 1, 1), (873, .iload 12, 2), (875, .bipush 10, 2), (877, .ishr, 1), (878, .bipush 60, 2), (880, .invokestatic 63, 3), (883, .iadd, 1), (884, .goto 32, 3), (887, .iconst 1, 1), (888, .iload 12, 2), (890, .bipush 10, 2), (892, .ishr, 1), (893, .iload 12, 2), (895, .bipush 19, 2), (897, .ishr, 1), (898, .iconst 2, 1), (899, .invokestatic 63, 3), (902, .ifCond .ne 8, 3), (905, .bipush 99, 2)]
theorem dL_law_11 : iL_law_11.all (fun q => decide (decode code q.1 = .ok q.2)) = true := by decide +kernel
def iL_law_12 : List (Nat × Instr × Nat) := [(907, .goto 5, 3), (910, .bipush 30, 2), (912, .invokestatic 63, 3), (915, .iadd, 1), (916, .istore 18, 2), (918, .aload_n 1, 1), (919, .iload 17, 2), (921, .iload 18, 2), (923, .invokevirtual 85, 3), (926, .aload 10, 2), (928, .iload 17, 2), (930, .iaload, 1), (931, .if_icmp .ne 7, 3), (934, .iconst 1, 1), (935, .goto 4, 3), (938, .iconst 0, 1), (939, .istore 16, 2), (941, .aload 10, 2), (943, .iload 17, 2), (945, .iload 18, 2), (947, .iastore, 1), (948, .aload_n 2, 1), (949, .aload_n 3, 1), (950, .aload 5, 2), (952, .aload 6, 2), (954, .aload 7, 2), (956, .aload 8, 2), (958, .aload 9, 2), (960, .aload 10, 2), (962, .iconst 0, 1), (963, .invokestatic 38, 3), (966, .iload 16, 2), (968, .ifCond .eq 77, 3), (971, .aload_n 1, 1), (972, .aload_n 2, 1), (973, .aload_n 3, 1), (974, .aload 4, 2), (976, .aload 5, 2), (978, .aload 6, 2), (980, .aload 7, 2)]
theorem dL_law_12 : iL_law_12.all (fun q => decide (decode code q.1 = .ok q.2)) = true := by decide +kernel
def iL_law_13 : List (Nat × Instr × Nat) := [(982, .aload 8, 2), (984, .aload 9, 2), (986, .aload 10, 2), (988, .invokestatic 88, 3), (991, .ifCond .eq 54, 3), (994, .iload 11, 2), (996, .bipush 6, 2), (998, .irem, 1), (999, .iconst 5, 1), (1000, .if_icmp .ne 47, 3), (1003, .aload_n 1, 1), (1004, .aload_n 2, 1), (1005, .aload_n 3, 1), (1006, .aload 5, 2), (1008, .aload 6, 2), (1010, .aload 7, 2), (1012, .aload 8, 2), (1014, .aload 9, 2), (1016, .aload 10, 2), (1018, .invokestatic 91, 3), (1021, .ifCond .eq 24, 3), (1024, .aload_n 1, 1), (1025, .aload_n 2, 1), (1026, .aload_n 3, 1), (1027, .aload 5, 2), (1029, .aload 6, 2), (1031, .aload 7, 2), (1033, .aload 8, 2), (1035, .aload 9, 2), (1037, .aload 10, 2), (1039, .invokestatic 95, 3), (1042, .ifCond .ne 5, 3), (1045, .iconst 0, 1), (1046, .ireturn, 1), (1047, .iinc 11 1, 3), (1050, .goto (-976), 3), (1053, .iconst 1, 1), (1054, .ireturn, 1)]
theorem dL_law_13 : iL_law_13.all (fun q => decide (decode code q.1 = .ok q.2)) = true := by decide +kernel
set_option maxRecDepth 100000 in
theorem iL_law_e : iL_law = iL_law_0 ++ (iL_law_1 ++ (iL_law_2 ++ (iL_law_3 ++ (iL_law_4 ++ (iL_law_5 ++ (iL_law_6 ++ (iL_law_7 ++ (iL_law_8 ++ (iL_law_9 ++ (iL_law_10 ++ (iL_law_11 ++ (iL_law_12 ++ (iL_law_13))))))))))))) := rfl
set_option maxRecDepth 100000 in
theorem dL_law : iL_law.all (fun q => decide (decode code q.1 = .ok q.2)) = true := by
  rw [iL_law_e, List.all_append, List.all_append, List.all_append, List.all_append, List.all_append, List.all_append, List.all_append, List.all_append, List.all_append, List.all_append, List.all_append, List.all_append, List.all_append]
  rw [dL_law_0, dL_law_1, dL_law_2, dL_law_3, dL_law_4, dL_law_5, dL_law_6, dL_law_7, dL_law_8, dL_law_9, dL_law_10, dL_law_11, dL_law_12, dL_law_13]
  rfl
end
section
set_option maxRecDepth 100000 in
theorem tw_363 : Cond.code ⟨"PointAnswersLaw", "points", "(LPointAnswers;[I[I[I[I[I[I[I[I[I)Z"⟩ method_7_code 19 (some .boolean) ∈ wT := tw 363 rfl rfl
set_option maxRecDepth 100000 in
theorem tw_443 : Cond.code ⟨"PointAnswersLaw", "tries", "(LPointAnswers;[I[I[I[I[I[I[I[I)Z"⟩ method_8_code 22 (some .boolean) ∈ wT := tw 443 rfl rfl
end
section
abbrev Mm : Type := (Nat → Nat → Int32) × (Nat → Nat)
def mset (M : Mm) (k j : Nat) (v : Int32) : Mm := (fun k' => if k' = k then upd (M.1 k) j v else M.1 k', M.2)
def mhis (M : Mm) (h : Nat → Nat) : Mm := (M.1, h)
abbrev Yt : Type := Launch × va_G × (Nat → ClassId) × (Nat → Nat) × Nat × List (Nat × Nat)
def isB (b : Nat) : Prop := b = 1 ∨ (∃ i, i < 7 ∧ b = 35 + 26 * i) ∨ b = 218 ∨ b = 244
def cGb (cy : Nat → ClassId) (ad : Nat → Nat) (r : Nat → Int32) (b k : Nat) : va_E :=
  if k = b then .inr (0, [.ref (ad (b + 1)), .int (r 1), .int (r 2), .int (r 3), .int (r 4), .int (r 5)])
  else if k = b + 1 then .inl (cy 4, 24, .inr (.inr (.inr (.inr (fun i => some (ad (b + 2 + i)))))))
  else .inr (4, [.int (r 0), .int (r 1), .int (r 2), .int (r 3), .int (r 4), .int (r 5), .int (r 6)])
def cG1 (cy : Nat → ClassId) (ad : Nat → Nat) (h : Nat → Nat) (r : Nat → Int32) (k : Nat) : va_E :=
  if k = 27 then .inr (1, [.ref (ad 28), .ref (ad 29)])
  else if k = 30 then .inr (3, [.ref (ad 31), .int (r 1)])
  else if k = 31 then .inl (cy 0, 80, .inl r)
  else if k = 32 then .inr (5, [.int (r 0), .int (r 1), .int (r 2), .int (r 3), .int (r 4), .int (r 5)])
  else if k = 33 then .inr (2, [.ref (ad 34), .int (r 1)])
  else if k = 34 then .inl (cy 3, 7, .inr (.inr (.inr (.inr (fun i => some (ad (h i)))))))
  else .inl (cy 1, 24, .inl r)
def cG2 (cy : Nat → ClassId) (_ad : Nat → Nat) (r : Nat → Int32) (k : Nat) : va_E :=
  if k = 278 then .inl (cy 1, 5, .inl r)
  else .inl (cy 1, 24, .inl r)
def cG (cy : Nat → ClassId) (ad : Nat → Nat) (h : Nat → Nat) (r : Nat → Int32) (k : Nat) : va_E :=
  if k < 27 then (if k = 0 then .inr (6, [.ref (ad 1), .ref (ad 27), .ref (ad 30), .ref (ad 32), .ref (ad 33), .ref (ad 217), .int (r 6)]) else cGb cy ad r 1 k)
  else if k < 35 then cG1 cy ad h r k
  else if k < 217 then cGb cy ad r (35 + 26 * ((k - 35) / 26)) k
  else if k = 217 then .inl (cy 3, 2, .inr (.inr (.inr (.inr (fun i => some (ad (218 + 26 * i)))))))
  else if k < 270 then cGb cy ad r (218 + 26 * ((k - 218) / 26)) k
  else cG2 cy ad r k
theorem isB_cases {b : Nat} (h : isB b) : b = 1 ∨ b = 35 ∨ b = 61 ∨ b = 87 ∨ b = 113 ∨ b = 139 ∨ b = 165 ∨ b = 191 ∨ b = 218 ∨ b = 244 := by
  rcases h with h | ⟨i, hi, h⟩ | h | h <;> omega
theorem isB_lt {b : Nat} (h : isB b) : b + 26 ≤ 270 := by
  rcases isB_cases h with h | h | h | h | h | h | h | h | h | h <;> omega
theorem isB_1 : isB 1 := Or.inl rfl
theorem isB_218 : isB 218 := Or.inr (Or.inr (Or.inl rfl))
theorem isB_244 : isB 244 := Or.inr (Or.inr (Or.inr rfl))
theorem isB_h {i : Nat} (h : i < 7) : isB (35 + 26 * i) := Or.inr (Or.inl ⟨i, h, rfl⟩)
theorem cG_gb {cy : Nat → ClassId} {ad : Nat → Nat} {h : Nat → Nat} {r : Nat → Int32} {b : Nat} (hb : isB b) (j : Nat) (hj : j < 26) : cG cy ad h r (b + j) = cGb cy ad r b (b + j) := by
  unfold cG
  rcases hb with rfl | ⟨i, hi, rfl⟩ | rfl | rfl
  · rw [if_pos (by omega), if_neg (by omega)]
  · rw [if_neg (by omega), if_neg (by omega), if_pos (by omega)]
    have e : (35 + 26 * i + j - 35) / 26 = i := by omega
    rw [e]
  · rw [if_neg (by omega), if_neg (by omega), if_neg (by omega), if_neg (by omega), if_pos (by omega)]
    have e : (218 + j - 218) / 26 = 0 := by omega
    rw [e]
  · rw [if_neg (by omega), if_neg (by omega), if_neg (by omega), if_neg (by omega), if_pos (by omega)]
    have e : (244 + j - 218) / 26 = 1 := by omega
    rw [e]
theorem cG_B {cy : Nat → ClassId} {ad : Nat → Nat} {h : Nat → Nat} {r : Nat → Int32} {b : Nat} (hb : isB b) : cG cy ad h r b = .inr (0, [.ref (ad (b + 1)), .int (r 1), .int (r 2), .int (r 3), .int (r 4), .int (r 5)]) := by
  have e := cG_gb (cy := cy) (ad := ad) (h := h) (r := r) hb 0 (by omega)
  rw [Nat.add_zero] at e
  rw [e, cGb, if_pos rfl]
theorem cG_R {cy : Nat → ClassId} {ad : Nat → Nat} {h : Nat → Nat} {r : Nat → Int32} {b : Nat} (hb : isB b) : cG cy ad h r (b + 1) = .inl (cy 4, 24, .inr (.inr (.inr (.inr (fun i => some (ad (b + 2 + i))))))) := by
  rw [cG_gb hb 1 (by omega), cGb, if_neg (by omega), if_pos rfl]
theorem cG_P {cy : Nat → ClassId} {ad : Nat → Nat} {h : Nat → Nat} {r : Nat → Int32} {b i : Nat} (hb : isB b) (hi : i < 24) : cG cy ad h r (b + 2 + i) = .inr (4, [.int (r 0), .int (r 1), .int (r 2), .int (r 3), .int (r 4), .int (r 5), .int (r 6)]) := by
  rw [show b + 2 + i = b + (2 + i) by omega, cG_gb hb (2 + i) (by omega), cGb, if_neg (by omega), if_neg (by omega)]
def scF (M : Mm) (j : Nat) : Nat → Int32 := fun x => if x < 64 then M.1 2 (64 * j + x) else 0
theorem scF_at {M : Mm} {j x : Nat} (h : x < 64) : scF M j x = M.1 2 (64 * j + x) := if_pos h
def sw (cy : Nat → ClassId) (M : Mm) : Nat → List (Nat × Nat) → va_W
  | _, [] => []
  | i, q :: t => (q.1, .inl (cy 1, q.2, .inl (scF M i))) :: sw cy M (i + 1) t
theorem sw_get {cy : Nat → ClassId} {M : Mm} {sc : List (Nat × Nat)} {i j : Nat} : (sw cy M i sc)[j]? = (sc[j]?).map (fun q => (q.1, .inl (cy 1, q.2, .inl (scF M (i + j))))) := by
  induction sc generalizing i j with
  | nil => rfl
  | cons q t ih =>
    cases j with
    | zero => rfl
    | succ j =>
      show (sw cy M (i + 1) t)[j]? = (t[j]?).map _
      rw [ih, show i + 1 + j = i + (j + 1) by omega]
theorem sw_len {cy : Nat → ClassId} {M : Mm} {sc : List (Nat × Nat)} {i : Nat} : (sw cy M i sc).length = sc.length := by
  induction sc generalizing i with
  | nil => rfl
  | cons p t ih => show (sw cy M (i + 1) t).length + 1 = t.length + 1; rw [ih]
theorem sw_ext {cy : Nat → ClassId} {M M' : Mm} {sc : List (Nat × Nat)} {i : Nat} (h : ∀ j, j < sc.length → scF M (i + j) = scF M' (i + j)) : sw cy M i sc = sw cy M' i sc := by
  apply List.ext_getElem?
  intro j
  rw [sw_get, sw_get]
  cases hj : sc[j]? with
  | none => rfl
  | some q => rw [Option.map_some, Option.map_some, h j (List.getElem?_eq_some_iff.mp hj).1]
theorem sw_congr {cy : Nat → ClassId} {M M' : Mm} {sc : List (Nat × Nat)} {i : Nat} (h : M.1 2 = M'.1 2) : sw cy M i sc = sw cy M' i sc := sw_ext (fun j _ => by unfold scF; rw [h])
theorem sw_push {cy : Nat → ClassId} {M : Mm} {sc : List (Nat × Nat)} {i q n : Nat} : sw cy M i (sc ++ [(q, n)]) = sw cy M i sc ++ [(q, .inl (cy 1, n, .inl (scF M (i + sc.length))))] := by
  induction sc generalizing i with
  | nil => rfl
  | cons p t ih =>
    show _ :: sw cy M (i + 1) (t ++ [(q, n)]) = _ :: (sw cy M (i + 1) t ++ _)
    rw [ih, show i + 1 + t.length = i + (t.length + 1) by omega]
    rfl
def fx (cy : Nat → ClassId) (ad : Nat → Nat) (M : Mm) : va_W := (List.range 279).map (fun k => (ad k, cG cy ad M.2 (M.1 k) k))
def wl (cy : Nat → ClassId) (ad : Nat → Nat) (sc : List (Nat × Nat)) (M : Mm) : va_W := fx cy ad M ++ sw cy M 0 sc
theorem fx_len {cy : Nat → ClassId} {ad : Nat → Nat} {M : Mm} : (fx cy ad M).length = 279 := by unfold fx; rw [List.length_map, List.length_range]
theorem fx_get {cy : Nat → ClassId} {ad : Nat → Nat} {M : Mm} {k : Nat} (hk : k < 279) : (fx cy ad M)[k]? = some (ad k, cG cy ad M.2 (M.1 k) k) := by
  unfold fx
  rw [List.getElem?_map, List.getElem?_range hk, Option.map_some]
theorem fx_congr {cy : Nat → ClassId} {ad : Nat → Nat} {M M' : Mm} (h : ∀ k, k < 279 → cG cy ad M.2 (M.1 k) k = cG cy ad M'.2 (M'.1 k) k) : fx cy ad M = fx cy ad M' := by
  unfold fx
  exact List.map_congr_left (fun i hi => by rw [h i (List.mem_range.mp hi)])
theorem wl_get {cy : Nat → ClassId} {ad : Nat → Nat} {sc : List (Nat × Nat)} {M : Mm} {k : Nat} {e : va_E} (hk : k < 279) (he : cG cy ad M.2 (M.1 k) k = e) : (wl cy ad sc M)[k]? = some (ad k, e) := by
  unfold wl
  rw [List.getElem?_append_left (by rw [fx_len]; exact hk), fx_get hk, he]
theorem wl_gets {cy : Nat → ClassId} {ad : Nat → Nat} {sc : List (Nat × Nat)} {M : Mm} {j a n : Nat} (h : sc[j]? = some (a, n)) : (wl cy ad sc M)[279 + j]? = some (a, .inl (cy 1, n, .inl (scF M j))) := by
  unfold wl
  rw [List.getElem?_append_right (by rw [fx_len]; omega), fx_len, Nat.add_sub_cancel_left, sw_get, h, Nat.zero_add]
  rfl
theorem fx_set {cy : Nat → ClassId} {ad : Nat → Nat} {M M' : Mm} {k : Nat} {e : va_E} (he : cG cy ad M'.2 (M'.1 k) k = e) (ho : ∀ k', k' ≠ k → cG cy ad M'.2 (M'.1 k') k' = cG cy ad M.2 (M.1 k') k') : (fx cy ad M).set k (ad k, e) = fx cy ad M' := by
  unfold fx
  apply List.ext_getElem?
  intro i
  rw [List.getElem?_set, List.length_map, List.length_range]
  by_cases hik : k = i
  · subst hik
    rw [if_pos rfl]
    by_cases hk : k < 279
    · rw [if_pos hk, List.getElem?_map, List.getElem?_range hk, Option.map_some, he]
    · rw [if_neg hk, List.getElem?_map, List.getElem?_eq_none (by simp; omega)]
      rfl
  · rw [if_neg hik, List.getElem?_map, List.getElem?_map]
    by_cases hi : i < 279
    · rw [List.getElem?_range hi, Option.map_some, Option.map_some, ho i (fun h => hik h.symm)]
    · rw [List.getElem?_eq_none (by simp; omega)]
      rfl
theorem wl_set {cy : Nat → ClassId} {ad : Nat → Nat} {sc : List (Nat × Nat)} {M M' : Mm} {k : Nat} {e : va_E} (hk : k < 279) (he : cG cy ad M'.2 (M'.1 k) k = e) (ho : ∀ k', k' ≠ k → cG cy ad M'.2 (M'.1 k') k' = cG cy ad M.2 (M.1 k') k') (hs : M.1 2 = M'.1 2) : (wl cy ad sc M).set k (ad k, e) = wl cy ad sc M' := by
  unfold wl
  rw [List.set_append_left _ _ (by rw [fx_len]; exact hk), fx_set he ho, sw_congr hs]
theorem mset_s {M : Mm} {k j : Nat} {v : Int32} : (mset M k j v).1 k = upd (M.1 k) j v := by unfold mset; exact if_pos rfl
theorem mset_n {M : Mm} {k j k' : Nat} {v : Int32} (h : k' ≠ k) : (mset M k j v).1 k' = M.1 k' := by unfold mset; exact if_neg h
theorem wl_mset {cy : Nat → ClassId} {ad : Nat → Nat} {sc : List (Nat × Nat)} {M : Mm} {k j : Nat} {v : Int32} {e : va_E} (hk : k < 279 ∧ k ≠ 2) (he : cG cy ad M.2 (upd (M.1 k) j v) k = e) : (wl cy ad sc M).set k (ad k, e) = wl cy ad sc (mset M k j v) :=
  wl_set hk.1 (by rw [mset_s]; exact he) (fun k' h => by rw [mset_n h]; rfl) (mset_n (fun h => hk.2 h.symm)).symm
theorem sw_set {cy : Nat → ClassId} {M : Mm} {sc : List (Nat × Nat)} {j a n x : Nat} {v : Int32} (h : sc[j]? = some (a, n)) (hx : x < 64) : (sw cy M 0 sc).set j (a, .inl (cy 1, n, .inl (upd (scF M j) x v))) = sw cy (mset M 2 (64 * j + x) v) 0 sc := by
  apply List.ext_getElem?
  intro k
  rw [List.getElem?_set, sw_get, sw_get, sw_len, Nat.zero_add]
  by_cases e : j = k
  · subst e
    have hj : j < sc.length := (List.getElem?_eq_some_iff.mp h).1
    have e2 : upd (scF M j) x v = scF (mset M 2 (64 * j + x) v) j := by
      funext y
      unfold scF upd
      rw [mset_s]
      unfold upd
      by_cases h1 : y = x
      · subst h1; rw [if_pos rfl, if_pos hx, if_pos rfl]
      · rw [if_neg h1]
        show (if y < 64 then M.1 2 (64 * j + y) else 0) = _
        by_cases h2 : y < 64
        · rw [if_pos h2, if_pos h2, if_neg (by omega)]
        · rw [if_neg h2, if_neg h2]
    rw [if_pos rfl, if_pos hj, h, e2]
    rfl
  · rw [if_neg e]
    cases h2 : sc[k]? with
    | none => rfl
    | some q =>
      have e2 : scF M k = scF (mset M 2 (64 * j + x) v) k := by
        funext y
        unfold scF
        rw [mset_s]
        unfold upd
        by_cases h2 : y < 64
        · rw [if_pos h2, if_pos h2, if_neg (by omega)]
        · rw [if_neg h2, if_neg h2]
      rw [Option.map_some, Option.map_some, e2]
theorem cG_n2r {cy : Nat → ClassId} {ad : Nat → Nat} {h : Nat → Nat} {r : Nat → Int32} {k ci : Nat} {fs : List Value} (he : cG cy ad h r k = .inr (ci, fs)) : k ≠ 2 := by
  rintro rfl
  simp [cG, cGb] at he
theorem cG_n2i {cy : Nat → ClassId} {ad : Nat → Nat} {h : Nat → Nat} {r f : Nat → Int32} {k n : Nat} {cA : ClassId} (he : cG cy ad h r k = .inl (cA, n, .inl f)) : k ≠ 2 := by
  rintro rfl
  simp [cG, cGb] at he
theorem cG_2 {cy : Nat → ClassId} {ad : Nat → Nat} {h : Nat → Nat} {f g : Nat → Int32} : cG cy ad h f 2 = cG cy ad h g 2 := rfl
theorem wl_msets {cy : Nat → ClassId} {ad : Nat → Nat} {sc : List (Nat × Nat)} {M : Mm} {j a n x : Nat} {v : Int32} (h : sc[j]? = some (a, n)) (hx : x < 64) : (wl cy ad sc M).set (279 + j) (a, .inl (cy 1, n, .inl (upd (scF M j) x v))) = wl cy ad sc (mset M 2 (64 * j + x) v) := by
  unfold wl
  rw [List.set_append_right _ _ (by rw [fx_len]; omega), fx_len, Nat.add_sub_cancel_left, sw_set h hx]
  rw [fx_congr (M := M) (M' := mset M 2 (64 * j + x) v) (fun k hk => by
    by_cases e : k = 2
    · subst e; exact cG_2
    · rw [mset_n e]; rfl)]
def lg : List (Option Value) → Nat → Option Value
  | [], _ => none
  | a :: _, 0 => a
  | _ :: t, n + 1 => lg t n
def lset : List (Option Value) → Nat → Option Value → List (Option Value)
  | [], _, _ => []
  | _ :: t, 0, v => v :: t
  | a :: t, n + 1, v => a :: lset t n v
def la : Nat → List (Option Value) → List (Nat × Value)
  | _, [] => []
  | k, none :: t => la (k + 1) t
  | k, some v :: t => (k, v) :: la (k + 1) t
theorem la_mem {L : List (Option Value)} {k : Nat} {q : Nat × Value} : q ∈ la k L ↔ k ≤ q.1 ∧ lg L (q.1 - k) = some q.2 := by
  induction L generalizing k with
  | nil => simp [la, lg]
  | cons a t ih =>
    obtain ⟨i, v⟩ := q
    have h2 : (i, v) ∈ la (k + 1) t ↔ k + 1 ≤ i ∧ lg t (i - (k + 1)) = some v := ih
    rcases Nat.lt_trichotomy i k with h | h | h
    · cases a with
      | none => simp only [la]; rw [h2]; constructor <;> (intro g; omega)
      | some w => simp only [la, List.mem_cons, Prod.mk.injEq]; rw [h2]; constructor <;> (intro g; omega)
    · subst h
      rw [Nat.sub_self]
      cases a with
      | none => simp only [la, lg]; rw [h2]; constructor <;> intro g; omega; cases g.2
      | some w =>
        simp only [la, List.mem_cons, Prod.mk.injEq, lg]; rw [h2]
        constructor
        · intro g
          rcases g with g | g
          · exact ⟨Nat.le_refl _, by rw [g.2]⟩
          · omega
        · intro g
          exact Or.inl ⟨trivial, (Option.some.inj g.2).symm⟩
    · obtain ⟨d, rfl⟩ : ∃ d, i = k + 1 + d := ⟨i - (k + 1), by omega⟩
      have e1 : k + 1 + d - k = d + 1 := by omega
      have e2 : k + 1 + d - (k + 1) = d := by omega
      rw [e1]
      rw [e2] at h2
      cases a with
      | none => simp only [la, lg]; rw [h2]; constructor <;> (intro g; exact ⟨by omega, g.2⟩)
      | some w =>
        simp only [la, lg, List.mem_cons, Prod.mk.injEq]; rw [h2]
        constructor
        · intro g
          rcases g with g | g
          · omega
          · exact ⟨by omega, g.2⟩
        · intro g
          exact Or.inr ⟨by omega, g.2⟩
theorem lset_len {L : List (Option Value)} {i : Nat} {v : Option Value} : (lset L i v).length = L.length := by
  induction L generalizing i with
  | nil => rfl
  | cons a t ih =>
    cases i with
    | zero => rfl
    | succ n => show (lset t n v).length + 1 = t.length + 1; rw [ih]
theorem lg_lset_n {L : List (Option Value)} {i j : Nat} {v : Option Value} (h : j ≠ i) : lg (lset L i v) j = lg L j := by
  induction L generalizing i j with
  | nil => rfl
  | cons a t ih =>
    cases i with
    | zero => cases j with
      | zero => exact absurd rfl h
      | succ n => rfl
    | succ i => cases j with
      | zero => rfl
      | succ n => exact ih (fun e => h (by rw [e]))
theorem lg_lset_s {L : List (Option Value)} {i : Nat} {v w : Value} (h : lg (lset L i (some v)) i = some w) : w = v := by
  induction L generalizing i with
  | nil => cases h
  | cons a t ih =>
    cases i with
    | zero => exact (Option.some.inj h).symm
    | succ i => exact ih h
theorem lg_lset_o {L : List (Option Value)} {i : Nat} {w : Value} (h : lg (lset L i none) i = some w) : False := by
  induction L generalizing i with
  | nil => cases h
  | cons a t ih =>
    cases i with
    | zero => cases h
    | succ i => exact ih h
def lc (L : List (Option Value)) : Nat → Bool
  | 0 => true
  | j + 1 => match lg L j with
    | some (.long _) => false
    | some (.double _) => false
    | _ => true
theorem lc_spec {L : List (Option Value)} {i j : Nat} {v : Value} (h : lc L i = true) (hj : j + 1 = i) (hv : lg L j = some v) : v.category ≠ 2 := by
  subst hj
  intro hc
  simp only [lc, hv] at h
  cases v <;> simp_all [Value.category]
def lw (ls : Array Slot) (L : List (Option Value)) : Prop := lv_has ls L.length (la 0 L)
theorem lw_at {ls : Array Slot} {L : List (Option Value)} {i : Nat} {v : Value} (h : lw ls L) (hg : lg L i = some v) : ls[i]? = some (.val v) := h.2.2 (i, v) (la_mem.mpr ⟨Nat.zero_le _, hg⟩)
theorem lw_set1 {ls : Array Slot} {L : List (Option Value)} {i : Nat} {v : Value} (hc : lc L i = true) (h : lv_has ls L.length ((i, v) :: (la 0 L).filter (fun q => !(q.1 == i) && !(q.1 + 1 == i && q.2.category == 2)))) : lw ls (lset L i (some v)) := by
  refine ⟨by rw [lset_len]; exact h.1, h.2.1, fun q hq => h.2.2 q ?_⟩
  obtain ⟨j, w⟩ := q
  have hg : lg (lset L i (some v)) j = some w := (la_mem.mp hq).2
  by_cases hj : j = i
  · subst hj
    rw [lg_lset_s hg]
    exact List.mem_cons_self
  · rw [lg_lset_n hj] at hg
    refine List.mem_cons_of_mem _ (List.mem_filter.mpr ⟨la_mem.mpr ⟨Nat.zero_le _, hg⟩, ?_⟩)
    have h2 : j + 1 = i → w.category ≠ 2 := fun e => lc_spec hc e hg
    by_cases h3 : j + 1 = i
    · simp [hj, h2 h3]
    · simp [hj, h3]
theorem lw_set2 {ls : Array Slot} {L : List (Option Value)} {i : Nat} {v : Value} (hc : lc L i = true) (h : lv_has ls L.length ((i, v) :: (la 0 L).filter (fun q => !(q.1 == i) && (!(q.1 == i + 1) && !(q.1 + 1 == i && q.2.category == 2))))) : lw ls (lset (lset L i (some v)) (i + 1) none) := by
  refine ⟨by rw [lset_len, lset_len]; exact h.1, h.2.1, fun q hq => h.2.2 q ?_⟩
  obtain ⟨j, w⟩ := q
  have hg : lg (lset (lset L i (some v)) (i + 1) none) j = some w := (la_mem.mp hq).2
  by_cases h1 : j = i + 1
  · subst h1
    exact absurd hg (fun g => lg_lset_o g)
  · rw [lg_lset_n h1] at hg
    by_cases hj : j = i
    · subst hj
      rw [lg_lset_s hg]
      exact List.mem_cons_self
    · rw [lg_lset_n hj] at hg
      refine List.mem_cons_of_mem _ (List.mem_filter.mpr ⟨la_mem.mpr ⟨Nat.zero_le _, hg⟩, ?_⟩)
      have h2 : j + 1 = i → w.category ≠ 2 := fun e => lc_spec hc e hg
      by_cases h3 : j + 1 = i
      · simp [hj, h1, h2 h3]
      · simp [hj, h1, h3]
def lsub (L : List (Option Value)) : Nat → List (Option Value) → Prop
  | _, [] => True
  | k, none :: t => lsub L (k + 1) t
  | k, some v :: t => lg L k = some v ∧ lsub L (k + 1) t
theorem lsub_mem {L : List (Option Value)} {k : Nat} {L' : List (Option Value)} (h : lsub L k L') : ∀ q ∈ la k L', lg L q.1 = some q.2 := by
  induction L' generalizing k with
  | nil => intro q hq; cases hq
  | cons a t ih =>
    cases a with
    | none => exact ih h
    | some v =>
      intro q hq
      rcases List.mem_cons.mp hq with rfl | hq
      · exact h.1
      · exact ih h.2 q hq
theorem lw_sub {ls : Array Slot} {L L' : List (Option Value)} (hlen : L'.length = L.length) (h : lsub L 0 L') (hl : lw ls L) : lw ls L' :=
  ⟨by rw [hlen]; exact hl.1, hl.2.1, fun q hq => lw_at hl (lsub_mem h q hq)⟩
abbrev XT : Type := Program × Env × Room × State × MethodId × Array Value × List Frame × Method × Code × Nat × Nat × (State → Prop) × (Nat → Prop)
def V (Y : Yt) (X : XT) (M : Mm) (pc : Nat) (L : List (Option Value)) (st : List Value) : Prop :=
  match Y, X with
  | (l, D, cy, ad, z, sc), (p, e, R, s, m, args, below, meth, c, cells, slots, Q, A) =>
    ∀ (H : Heap) (locs : List Loc) (ls : Array Slot), va_P D vwCl (wl cy ad sc M) H → va_S A s.heap H locs → lw ls L → W p l e R s m args below meth c H locs cells slots Q (F0 m pc ls st)
def tq (cy : Nat → ClassId) : List (ClassId × FieldType) := [(cy 0, .char), (cy 1, .int), (cy 2, .int), (cy 3, .object "PointAnswers$Bundle"), (cy 4, .object "PointAnswers$Point")]
def nM : List (String × Nat × MethodName × String) := [("PointAnswers", 11, ⟨"PointAnswers$Bundle", "<init>", "()V"⟩, "PointAnswers"), ("PointAnswers$Bundle", 24, ⟨"PointAnswers$Point", "<init>", "()V"⟩, "PointAnswers"), ("PointAnswers", 18, ⟨"PointAnswers$Costs", "<init>", "()V"⟩, "PointAnswers"), ("PointAnswers", 25, ⟨"PointAnswers$Pad", "<init>", "()V"⟩, "PointAnswers"), ("PointAnswers", 32, ⟨"PointAnswers$Reader", "<init>", "()V"⟩, "PointAnswers"), ("PointAnswers", 39, ⟨"PointAnswers$History", "<init>", "()V"⟩, "PointAnswers"), ("PointAnswers$History", 17, ⟨"PointAnswers$Bundle", "<init>", "()V"⟩, "PointAnswers"), ("PointAnswers", 48, ⟨"PointAnswers$History", "prepare", "(LPointAnswers$Bundle;)V"⟩, "PointAnswers"), ("PointAnswers$History", 26, ⟨"PointAnswers$Bundle", "become", "(LPointAnswers$Bundle;)V"⟩, "PointAnswers"), ("PointAnswers$Bundle", 38, ⟨"PointAnswers$Point", "become", "(LPointAnswers$Point;)V"⟩, "PointAnswers"), ("PointAnswers", 52, ⟨"PointAnswers$Bundle", "adjust", "(II)I"⟩, "PointAnswers"), ("PointAnswers", 56, ⟨"PointAnswers$History", "settle", "(I)I"⟩, "PointAnswers"), ("PointAnswers", 60, ⟨"PointAnswers$Bundle", "fileClaim", "(III)I"⟩, "PointAnswers"), ("PointAnswers", 64, ⟨"PointAnswers$Bundle", "fileAnswer", "(III)I"⟩, "PointAnswers"), ("PointAnswers", 67, ⟨"PointAnswers$Bundle", "takeBack", "(I)I"⟩, "PointAnswers"), ("PointAnswers$Bundle", 86, ⟨"PointAnswers", "has", "(II)Z"⟩, "PointAnswers"), ("PointAnswers", 70, ⟨"PointAnswers$Bundle", "prolong", "(I)I"⟩, "PointAnswers"), ("PointAnswers", 73, ⟨"PointAnswers$Bundle", "turnCase", "(I)I"⟩, "PointAnswers"), ("PointAnswers", 76, ⟨"PointAnswers$Bundle", "moveOn", "(I)I"⟩, "PointAnswers"), ("PointAnswers", 79, ⟨"PointAnswers$Bundle", "find", "(I)LPointAnswers$Point;"⟩, "PointAnswers"), ("PointAnswers", 101, ⟨"PointAnswers$Bundle", "standing", "()I"⟩, "PointAnswers"), ("PointAnswers", 109, ⟨"PointAnswers$Bundle", "reasonAgainst", "(I)I"⟩, "PointAnswers"), ("PointAnswers", 112, ⟨"PointAnswers$Bundle", "answersTo", "(I)I"⟩, "PointAnswers"), ("PointAnswers", 118, ⟨"PointAnswers$Bundle", "depthOf", "(I)I"⟩, "PointAnswers"), ("PointAnswers", 121, ⟨"PointAnswers$Bundle", "daysLeft", "(LPointAnswers$Point;)I"⟩, "PointAnswers"), ("PointAnswers", 131, ⟨"PointAnswers$Bundle", "claims", "()I"⟩, "PointAnswers"), ("PointAnswers", 139, ⟨"PointAnswers$Bundle", "out", "()I"⟩, "PointAnswers"), ("PointAnswers", 142, ⟨"PointAnswers$Bundle", "answered", "()I"⟩, "PointAnswers"), ("PointAnswers", 145, ⟨"PointAnswers$Bundle", "withdrawn", "()I"⟩, "PointAnswers"), ("PointAnswers", 148, ⟨"PointAnswers$Bundle", "struck", "()I"⟩, "PointAnswers"), ("PointAnswers", 151, ⟨"PointAnswers$Bundle", "pagesOf", "(II)I"⟩, "PointAnswers"), ("PointAnswers", 169, ⟨"PointAnswers$Bundle", "ofSide", "(I)I"⟩, "PointAnswers"), ("PointAnswers", 184, ⟨"PointAnswers$Bundle", "standingIf", "(II)I"⟩, "PointAnswers"), ("PointAnswers", 187, ⟨"PointAnswers$Bundle", "withoutAnswers", "()I"⟩, "PointAnswers"), ("PointAnswers", 175, ⟨"PointAnswers$Costs", "weigh", "(LPointAnswers$Bundle;)V"⟩, "PointAnswers"), ("PointAnswers$Costs", 18, ⟨"PointAnswers$Bundle", "out", "()I"⟩, "PointAnswers"), ("PointAnswers$Costs", 24, ⟨"PointAnswers$Bundle", "withoutAnswers", "()I"⟩, "PointAnswers"), ("PointAnswers$Costs", 33, ⟨"PointAnswers$Bundle", "find", "(I)LPointAnswers$Point;"⟩, "PointAnswers"), ("PointAnswers$Costs", 37, ⟨"PointAnswers", "has", "(II)Z"⟩, "PointAnswers"), ("PointAnswers", 178, ⟨"PointAnswers$Costs", "answersToFall", "(I)I"⟩, "PointAnswers"), ("PointAnswers", 181, ⟨"PointAnswers$Costs", "answersToStand", "(I)I"⟩, "PointAnswers"), ("PointAnswers", 190, ⟨"PointAnswers$Bundle", "baseless", "()I"⟩, "PointAnswers"), ("PointAnswers", 193, ⟨"PointAnswers$Bundle", "lapsedOn", "(I)I"⟩, "PointAnswers")]
def nF : List (String × Nat × String × String × String × String) := [("PointAnswers$Bundle", 58, "PointAnswers$Point", "side", "I", "PointAnswers"), ("PointAnswers", 83, "PointAnswers$Point", "side", "I", "PointAnswers"), ("PointAnswers$Bundle", 61, "PointAnswers$Point", "pages", "I", "PointAnswers"), ("PointAnswers", 89, "PointAnswers$Point", "pages", "I", "PointAnswers"), ("PointAnswers$Bundle", 64, "PointAnswers$Point", "cases", "I", "PointAnswers"), ("PointAnswers", 98, "PointAnswers$Point", "cases", "I", "PointAnswers"), ("PointAnswers$Costs", 41, "PointAnswers$Point", "target", "I", "PointAnswers"), ("PointAnswers$Bundle", 67, "PointAnswers$Point", "target", "I", "PointAnswers"), ("PointAnswers", 95, "PointAnswers$Point", "target", "I", "PointAnswers"), ("PointAnswers$Bundle", 70, "PointAnswers$Point", "filed", "I", "PointAnswers"), ("PointAnswers", 92, "PointAnswers$Point", "filed", "I", "PointAnswers"), ("PointAnswers$Bundle", 73, "PointAnswers$Point", "lastsFrom", "I", "PointAnswers"), ("PointAnswers$Bundle", 54, "PointAnswers$Point", "withdrawn", "Z", "PointAnswers"), ("PointAnswers", 128, "PointAnswers$Bundle", "size", "I", "PointAnswers"), ("PointAnswers", 125, "PointAnswers$Bundle", "day", "I", "PointAnswers"), ("PointAnswers", 154, "PointAnswers$Bundle", "overruled", "I", "PointAnswers"), ("PointAnswers", 157, "PointAnswers$Bundle", "lapse", "I", "PointAnswers"), ("PointAnswers", 160, "PointAnswers$Bundle", "allowedPages", "I", "PointAnswers"), ("PointAnswers", 163, "PointAnswers$Pad", "length", "I", "PointAnswers"), ("PointAnswers", 166, "PointAnswers$History", "kept", "I", "PointAnswers")]
def Nn (U : State) : Prop := (∀ q ∈ nM, va_Nw (.methodLinkNest q.1 q.2.1 q.2.2.1 q.2.2.2) U) ∧ (∀ q ∈ nF, va_Nw (.fieldLinkNest q.1 q.2.1 q.2.2.1 q.2.2.2.1 q.2.2.2.2.1 q.2.2.2.2.2) U)
theorem Nn.warm {s U : State} (hW : s.WarmedH U.vm) (h : Nn s) : Nn U := ⟨fun q hq => va_Nw.warmM hW (h.1 q hq), fun q hq => va_Nw.warmF hW (h.2 q hq)⟩
theorem Nn.same {s U : State} (hv : s.vm = U.vm) (h : Nn s) : Nn U := ⟨fun q hq => va_Nw.same rfl hv (h.1 q hq), fun q hq => va_Nw.same rfl hv (h.2 q hq)⟩
def fA (z : Nat) : Nat → Prop := fun q => z ≤ q
def Dd (cy : Nat → ClassId) (ad : Nat → Nat) (z : Nat) (sc : List (Nat × Nat)) : Prop := ∀ M : Mm, va_D (fA z) (wl cy ad sc M)
theorem wl_D {cy : Nat → ClassId} {ad : Nat → Nat} {z : Nat} {sc : List (Nat × Nat)} {A : Nat → Prop} {C : Prop} (hd : Dd cy ad z sc) (hA : A = fA z ∧ C) (M : Mm) : va_D A (wl cy ad sc M) := by
  rw [hA.1]
  exact hd M
theorem zl_of {D : va_G} {cy : Nat → ClassId} {ad : Nat → Nat} {z : Nat} {sc : List (Nat × Nat)} (hdd : Dd cy ad z sc) {M : Mm} {H : Heap} (hP : va_P D vwCl (wl cy ad sc M) H) : z ≤ H.size := by
  have hg : (wl cy ad sc M)[0]? = some (ad 0, _) := wl_get (by decide) rfl
  have h1 : z ≤ ad 0 := (hdd M).2 0 _ hg
  have h2 : ad 0 < H.size := (hP 0 _ hg).lt
  exact Nat.le_trans h1 (Nat.le_of_lt h2)
def vOK (Y : Yt) (X : XT) (ins : List (Nat × Instr × Nat)) (nL : Nat) (own : String) (rm : Room) (ret : Option FieldType) : Prop :=
  match Y, X with
  | (l, D, cy, ad, z, sc), (p, e, R, s, m, args, below, meth, c, cells, slots, Q, A) =>
    p.tables.exec = Jvm.exec ∧ (∀ i q, gi ins i = some q → decode c.code q.1 = .ok q.2) ∧ c.maxLocals = nL ∧ (∀ w ∈ wT, w.before args s = true) ∧ s.vm.findClass own = some m.cls ∧ va_K D vwCl (tq cy) s ∧ (Dd cy ad z sc ∧ (A = fA z ∧ z ≤ s.heap.size)) ∧ Nn s ∧ R = rm ∧ meth.sig.returnType = ret ∧ meth.locks = false ∧ cells ≤ R.cells ∧ slots ≤ R.slots
def vQ (Y : Yt) (X : XT) (rv : Option Value) (M' : Mm) : Prop :=
  match Y, X with
  | (l, D, cy, ad, z, sc), (p, e, R, s, m, args, below, meth, c, cells, slots, Q, A) =>
    Q = MQ below (fun _ st oc t => oc = .returned rv ∧ va_P D vwCl (wl cy ad sc M') t.heap ∧ va_F (fA z) st t) args s cells slots (fA z) ∧ A = fA z
def wd (Y : Yt) (M : Mm) (U : State) : Prop :=
  match Y with
  | (l, D, cy, ad, z, sc) => va_P D vwCl (wl cy ad sc M) U.heap ∧ va_K D vwCl (tq cy) U ∧ Dd cy ad z sc ∧ Nn U
def Fn (Y : Yt) (y : MethodName) (ws : List Cond) (rm : Room) (As : List Value) (M : Mm) (rv : Option Value) (M' : Mm) : Prop :=
  match Y with
  | (l, D, cy, ad, z, sc) => Met l y ws rm (va_Pc As (wd (l, D, cy, ad, z, sc) M)) (fun _ st oc t => oc = .returned rv ∧ va_P D vwCl (wl cy ad sc M') t.heap ∧ va_F (fA z) st t) 0 0 (fA z)
theorem Fn.of {Y : Yt} {y : MethodName} {rm : Room} {As : List Value} {M M' : Mm} {rv : Option Value} {cc : ByteArray} {ins : List (Nat × Instr × Nat)} {maxL : Nat} {ret : Option FieldType} (hy : plainName y.cls = true) (hdc : ins.all (fun q => decide (decode cc q.1 = .ok q.2)) = true) (L0 : List (Option Value)) (hen : (lg_sl As).length ≤ maxL) (hL0 : L0.length = maxL) (hsub : la 0 L0 = lv_args 0 As)
    (body : ∀ X : XT, vOK Y X ins maxL y.cls rm ret → vQ Y X rv M' → V Y X M 0 L0 []) : Fn Y y (Cond.code y cc maxL ret :: wT) rm As M rv M' := by
  obtain ⟨l, D, cy, ad, z, sc⟩ := Y
  refine Met.ofW (cc := cc) (maxL := maxL) (ret := ret) hy rfl ?_
  intro p e s m args below meth c s₁ B hml hv
  obtain ⟨rfl, hP, hK, hD, hN⟩ := hv
  have hl := lv_entry As hen
  rw [← hsub] at hl
  rw [lg_entry_eq]
  exact body (p, e, rm, s, m, As.toArray, below, meth, c, 0, 0, MQ below (fun _ st oc t => oc = .returned rv ∧ va_P D vwCl (wl cy ad sc M') t.heap ∧ va_F (fA z) st t) As.toArray s 0 0 (fA z), fA z)
    ⟨B.exec, by rw [B.bytes]; exact dcd hdc, hml, fun w hw => atoms_spec (ws := Cond.code y cc maxL ret :: wT) B.pre w (List.mem_cons_of_mem _ hw), findClass_of_methodNamed B.named, hK, ⟨hD, rfl, zl_of hD hP⟩, hN, rfl, B.returns, B.notSynchronized, Nat.zero_le _, Nat.zero_le _⟩ ⟨rfl, rfl⟩ s.heap [] _ hP va_S.rf (by subst hL0; exact hl)
section VV
variable {Y : Yt} {X : XT} {M M' : Mm} {pc : Nat} {L : List (Option Value)} {st : List Value} {ins : List (Nat × Instr × Nat)} {nL : Nat} {own : String} {rm : Room} {ret : Option FieldType}
theorem v_iconst (hX : vOK Y X ins nL own rm ret) {n : Int} {v : Int32} (ix : Nat) (hd : gi ins ix = some (pc, .iconst n, 1)) (hv : Int32.ofInt n = v) (kk : V Y X M (pc + 1) L (.int v :: st)) : V Y X M pc L st := by
  obtain ⟨l, D, cy, ad, z, sc⟩ := Y
  obtain ⟨p, e, R, s, m, args, below, meth, c, cells, slots, Q, A⟩ := X
  obtain ⟨hx, hcd, hml, hts, hown, hK, ⟨hdd, hda⟩, hN, rfl, hret, hlk, hcl, hsl⟩ := hX
  intro H locs ls hP hS hl
  have hd := hcd ix _ hd
  exact lv_iconst hx rfl hd hv (kk H locs ls hP hS hl)
theorem v_bipush (hX : vOK Y X ins nL own rm ret) {n : Int} {v : Int32} (ix : Nat) (hd : gi ins ix = some (pc, .bipush n, 2)) (hv : (Int8.ofInt n).toInt32 = v) (kk : V Y X M (pc + 2) L (.int v :: st)) : V Y X M pc L st := by
  obtain ⟨l, D, cy, ad, z, sc⟩ := Y
  obtain ⟨p, e, R, s, m, args, below, meth, c, cells, slots, Q, A⟩ := X
  obtain ⟨hx, hcd, hml, hts, hown, hK, ⟨hdd, hda⟩, hN, rfl, hret, hlk, hcl, hsl⟩ := hX
  intro H locs ls hP hS hl
  have hd := hcd ix _ hd
  exact lv_bipush hx rfl hd hv (kk H locs ls hP hS hl)
theorem v_sipush (hX : vOK Y X ins nL own rm ret) {n : Int} {v : Int32} (ix : Nat) (hd : gi ins ix = some (pc, .sipush n, 3)) (hv : (Int16.ofInt n).toInt32 = v) (kk : V Y X M (pc + 3) L (.int v :: st)) : V Y X M pc L st := by
  obtain ⟨l, D, cy, ad, z, sc⟩ := Y
  obtain ⟨p, e, R, s, m, args, below, meth, c, cells, slots, Q, A⟩ := X
  obtain ⟨hx, hcd, hml, hts, hown, hK, ⟨hdd, hda⟩, hN, rfl, hret, hlk, hcl, hsl⟩ := hX
  intro H locs ls hP hS hl
  have hd := hcd ix _ hd
  exact lv_sipush hx rfl hd hv (kk H locs ls hP hS hl)
theorem v_lconst (hX : vOK Y X ins nL own rm ret) {n : Fin 2} {v : Int64} (ix : Nat) (hd : gi ins ix = some (pc, .lconst n, 1)) (hv : Int64.ofNat (n : Nat) = v) (kk : V Y X M (pc + 1) L (.long v :: st)) : V Y X M pc L st := by
  obtain ⟨l, D, cy, ad, z, sc⟩ := Y
  obtain ⟨p, e, R, s, m, args, below, meth, c, cells, slots, Q, A⟩ := X
  obtain ⟨hx, hcd, hml, hts, hown, hK, ⟨hdd, hda⟩, hN, rfl, hret, hlk, hcl, hsl⟩ := hX
  intro H locs ls hP hS hl
  have hd := hcd ix _ hd
  exact lv_lconst hx rfl hd hv (kk H locs ls hP hS hl)
theorem v_null (hX : vOK Y X ins nL own rm ret) (ix : Nat) (hd : gi ins ix = some (pc, .aconst_null, 1)) (kk : V Y X M (pc + 1) L (.null :: st)) : V Y X M pc L st := by
  obtain ⟨l, D, cy, ad, z, sc⟩ := Y
  obtain ⟨p, e, R, s, m, args, below, meth, c, cells, slots, Q, A⟩ := X
  obtain ⟨hx, hcd, hml, hts, hown, hK, ⟨hdd, hda⟩, hN, rfl, hret, hlk, hcl, hsl⟩ := hX
  intro H locs ls hP hS hl
  have hd := hcd ix _ hd
  exact lv_null hx rfl hd (kk H locs ls hP hS hl)
theorem v_iload_n (hX : vOK Y X ins nL own rm ret) {k : Fin 4} (i : Nat) {x : Int32} (ix : Nat) (hd : gi ins ix = some (pc, .iload_n k, 1)) (hi : (k : Nat) = i) (hg : lg L i = some (.int x)) (kk : V Y X M (pc + 1) L (.int x :: st)) : V Y X M pc L st := by
  obtain ⟨l, D, cy, ad, z, sc⟩ := Y
  obtain ⟨p, e, R, s, m, args, below, meth, c, cells, slots, Q, A⟩ := X
  obtain ⟨hx, hcd, hml, hts, hown, hK, ⟨hdd, hda⟩, hN, rfl, hret, hlk, hcl, hsl⟩ := hX
  intro H locs ls hP hS hl
  have hd := hcd ix _ hd
  exact lv_iload_n hx rfl hd hi (lw_at hl hg) (kk H locs ls hP hS hl)
theorem v_iload (hX : vOK Y X ins nL own rm ret) {i : Nat} {x : Int32} (ix : Nat) (hd : gi ins ix = some (pc, .iload i, 2)) (hg : lg L i = some (.int x)) (kk : V Y X M (pc + 2) L (.int x :: st)) : V Y X M pc L st := by
  obtain ⟨l, D, cy, ad, z, sc⟩ := Y
  obtain ⟨p, e, R, s, m, args, below, meth, c, cells, slots, Q, A⟩ := X
  obtain ⟨hx, hcd, hml, hts, hown, hK, ⟨hdd, hda⟩, hN, rfl, hret, hlk, hcl, hsl⟩ := hX
  intro H locs ls hP hS hl
  have hd := hcd ix _ hd
  exact lv_iload hx rfl hd (lw_at hl hg) (kk H locs ls hP hS hl)
theorem v_lload_n (hX : vOK Y X ins nL own rm ret) {k : Fin 4} (i : Nat) {x : Int64} (ix : Nat) (hd : gi ins ix = some (pc, .lload_n k, 1)) (hi : (k : Nat) = i) (hg : lg L i = some (.long x)) (kk : V Y X M (pc + 1) L (.long x :: st)) : V Y X M pc L st := by
  obtain ⟨l, D, cy, ad, z, sc⟩ := Y
  obtain ⟨p, e, R, s, m, args, below, meth, c, cells, slots, Q, A⟩ := X
  obtain ⟨hx, hcd, hml, hts, hown, hK, ⟨hdd, hda⟩, hN, rfl, hret, hlk, hcl, hsl⟩ := hX
  intro H locs ls hP hS hl
  have hd := hcd ix _ hd
  exact lv_lload_n hx rfl hd hi (lw_at hl hg) (kk H locs ls hP hS hl)
theorem v_lload (hX : vOK Y X ins nL own rm ret) {i : Nat} {x : Int64} (ix : Nat) (hd : gi ins ix = some (pc, .lload i, 2)) (hg : lg L i = some (.long x)) (kk : V Y X M (pc + 2) L (.long x :: st)) : V Y X M pc L st := by
  obtain ⟨l, D, cy, ad, z, sc⟩ := Y
  obtain ⟨p, e, R, s, m, args, below, meth, c, cells, slots, Q, A⟩ := X
  obtain ⟨hx, hcd, hml, hts, hown, hK, ⟨hdd, hda⟩, hN, rfl, hret, hlk, hcl, hsl⟩ := hX
  intro H locs ls hP hS hl
  have hd := hcd ix _ hd
  exact lv_lload hx rfl hd (lw_at hl hg) (kk H locs ls hP hS hl)
theorem v_aload_n (hX : vOK Y X ins nL own rm ret) {k : Fin 4} (i : Nat) {x : Nat} (ix : Nat) (hd : gi ins ix = some (pc, .aload_n k, 1)) (hi : (k : Nat) = i) (hg : lg L i = some (.ref x)) (kk : V Y X M (pc + 1) L (.ref x :: st)) : V Y X M pc L st := by
  obtain ⟨l, D, cy, ad, z, sc⟩ := Y
  obtain ⟨p, e, R, s, m, args, below, meth, c, cells, slots, Q, A⟩ := X
  obtain ⟨hx, hcd, hml, hts, hown, hK, ⟨hdd, hda⟩, hN, rfl, hret, hlk, hcl, hsl⟩ := hX
  intro H locs ls hP hS hl
  have hd := hcd ix _ hd
  exact lv_aload_n hx rfl hd hi (lw_at hl hg) (kk H locs ls hP hS hl)
theorem v_aload (hX : vOK Y X ins nL own rm ret) {i : Nat} {x : Nat} (ix : Nat) (hd : gi ins ix = some (pc, .aload i, 2)) (hg : lg L i = some (.ref x)) (kk : V Y X M (pc + 2) L (.ref x :: st)) : V Y X M pc L st := by
  obtain ⟨l, D, cy, ad, z, sc⟩ := Y
  obtain ⟨p, e, R, s, m, args, below, meth, c, cells, slots, Q, A⟩ := X
  obtain ⟨hx, hcd, hml, hts, hown, hK, ⟨hdd, hda⟩, hN, rfl, hret, hlk, hcl, hsl⟩ := hX
  intro H locs ls hP hS hl
  have hd := hcd ix _ hd
  exact lv_aload hx rfl hd (lw_at hl hg) (kk H locs ls hP hS hl)
theorem v_aload_nN (hX : vOK Y X ins nL own rm ret) {k : Fin 4} (i : Nat) (ix : Nat) (hd : gi ins ix = some (pc, .aload_n k, 1)) (hi : (k : Nat) = i) (hg : lg L i = some .null) (kk : V Y X M (pc + 1) L (.null :: st)) : V Y X M pc L st := by
  obtain ⟨l, D, cy, ad, z, sc⟩ := Y
  obtain ⟨p, e, R, s, m, args, below, meth, c, cells, slots, Q, A⟩ := X
  obtain ⟨hx, hcd, hml, hts, hown, hK, ⟨hdd, hda⟩, hN, rfl, hret, hlk, hcl, hsl⟩ := hX
  intro H locs ls hP hS hl
  have hd := hcd ix _ hd
  exact lv_aload_nN hx rfl hd hi (lw_at hl hg) (kk H locs ls hP hS hl)
theorem v_aloadN (hX : vOK Y X ins nL own rm ret) {i : Nat} (ix : Nat) (hd : gi ins ix = some (pc, .aload i, 2)) (hg : lg L i = some .null) (kk : V Y X M (pc + 2) L (.null :: st)) : V Y X M pc L st := by
  obtain ⟨l, D, cy, ad, z, sc⟩ := Y
  obtain ⟨p, e, R, s, m, args, below, meth, c, cells, slots, Q, A⟩ := X
  obtain ⟨hx, hcd, hml, hts, hown, hK, ⟨hdd, hda⟩, hN, rfl, hret, hlk, hcl, hsl⟩ := hX
  intro H locs ls hP hS hl
  have hd := hcd ix _ hd
  exact lv_aloadN hx rfl hd (lw_at hl hg) (kk H locs ls hP hS hl)
theorem v_istore_n (hX : vOK Y X ins nL own rm ret) {k : Fin 4} (i : Nat) {x : Int32} (ix : Nat) (hd : gi ins ix = some (pc, .istore_n k, 1)) (hi : (k : Nat) = i) (hn : i < L.length) (hc : lc L i = true) (kk : V Y X M (pc + 1) (lset L i (some (.int x))) st) : V Y X M pc L (.int x :: st) := by
  obtain ⟨l, D, cy, ad, z, sc⟩ := Y
  obtain ⟨p, e, R, s, m, args, below, meth, c, cells, slots, Q, A⟩ := X
  obtain ⟨hx, hcd, hml, hts, hown, hK, ⟨hdd, hda⟩, hN, rfl, hret, hlk, hcl, hsl⟩ := hX
  intro H locs ls hP hS hl
  have hd := hcd ix _ hd
  exact lv_istore_n hx rfl hd hi hl hn rfl (fun ls2 h2 => kk H locs ls2 hP hS (lw_set1 hc h2))
theorem v_istore (hX : vOK Y X ins nL own rm ret) {i : Nat} {x : Int32} (ix : Nat) (hd : gi ins ix = some (pc, .istore i, 2)) (hn : i < L.length) (hc : lc L i = true) (kk : V Y X M (pc + 2) (lset L i (some (.int x))) st) : V Y X M pc L (.int x :: st) := by
  obtain ⟨l, D, cy, ad, z, sc⟩ := Y
  obtain ⟨p, e, R, s, m, args, below, meth, c, cells, slots, Q, A⟩ := X
  obtain ⟨hx, hcd, hml, hts, hown, hK, ⟨hdd, hda⟩, hN, rfl, hret, hlk, hcl, hsl⟩ := hX
  intro H locs ls hP hS hl
  have hd := hcd ix _ hd
  exact lv_istore hx rfl hd hl hn rfl (fun ls2 h2 => kk H locs ls2 hP hS (lw_set1 hc h2))
theorem v_astore_n (hX : vOK Y X ins nL own rm ret) {k : Fin 4} (i : Nat) {x : Nat} (ix : Nat) (hd : gi ins ix = some (pc, .astore_n k, 1)) (hi : (k : Nat) = i) (hn : i < L.length) (hc : lc L i = true) (kk : V Y X M (pc + 1) (lset L i (some (.ref x))) st) : V Y X M pc L (.ref x :: st) := by
  obtain ⟨l, D, cy, ad, z, sc⟩ := Y
  obtain ⟨p, e, R, s, m, args, below, meth, c, cells, slots, Q, A⟩ := X
  obtain ⟨hx, hcd, hml, hts, hown, hK, ⟨hdd, hda⟩, hN, rfl, hret, hlk, hcl, hsl⟩ := hX
  intro H locs ls hP hS hl
  have hd := hcd ix _ hd
  exact lv_astore_n hx rfl hd hi hl hn rfl (fun ls2 h2 => kk H locs ls2 hP hS (lw_set1 hc h2))
theorem v_astore (hX : vOK Y X ins nL own rm ret) {i : Nat} {x : Nat} (ix : Nat) (hd : gi ins ix = some (pc, .astore i, 2)) (hn : i < L.length) (hc : lc L i = true) (kk : V Y X M (pc + 2) (lset L i (some (.ref x))) st) : V Y X M pc L (.ref x :: st) := by
  obtain ⟨l, D, cy, ad, z, sc⟩ := Y
  obtain ⟨p, e, R, s, m, args, below, meth, c, cells, slots, Q, A⟩ := X
  obtain ⟨hx, hcd, hml, hts, hown, hK, ⟨hdd, hda⟩, hN, rfl, hret, hlk, hcl, hsl⟩ := hX
  intro H locs ls hP hS hl
  have hd := hcd ix _ hd
  exact lv_astore hx rfl hd hl hn rfl (fun ls2 h2 => kk H locs ls2 hP hS (lw_set1 hc h2))
theorem v_astore_nN (hX : vOK Y X ins nL own rm ret) {k : Fin 4} (i : Nat) (ix : Nat) (hd : gi ins ix = some (pc, .astore_n k, 1)) (hi : (k : Nat) = i) (hn : i < L.length) (hc : lc L i = true) (kk : V Y X M (pc + 1) (lset L i (some .null)) st) : V Y X M pc L (.null :: st) := by
  obtain ⟨l, D, cy, ad, z, sc⟩ := Y
  obtain ⟨p, e, R, s, m, args, below, meth, c, cells, slots, Q, A⟩ := X
  obtain ⟨hx, hcd, hml, hts, hown, hK, ⟨hdd, hda⟩, hN, rfl, hret, hlk, hcl, hsl⟩ := hX
  intro H locs ls hP hS hl
  have hd := hcd ix _ hd
  exact lv_astore_nN hx rfl hd hi hl hn rfl (fun ls2 h2 => kk H locs ls2 hP hS (lw_set1 hc h2))
theorem v_astoreN (hX : vOK Y X ins nL own rm ret) {i : Nat} (ix : Nat) (hd : gi ins ix = some (pc, .astore i, 2)) (hn : i < L.length) (hc : lc L i = true) (kk : V Y X M (pc + 2) (lset L i (some .null)) st) : V Y X M pc L (.null :: st) := by
  obtain ⟨l, D, cy, ad, z, sc⟩ := Y
  obtain ⟨p, e, R, s, m, args, below, meth, c, cells, slots, Q, A⟩ := X
  obtain ⟨hx, hcd, hml, hts, hown, hK, ⟨hdd, hda⟩, hN, rfl, hret, hlk, hcl, hsl⟩ := hX
  intro H locs ls hP hS hl
  have hd := hcd ix _ hd
  exact lv_astoreN hx rfl hd hl hn rfl (fun ls2 h2 => kk H locs ls2 hP hS (lw_set1 hc h2))
theorem v_lstore_n (hX : vOK Y X ins nL own rm ret) {k : Fin 4} (i : Nat) {x : Int64} (ix : Nat) (hd : gi ins ix = some (pc, .lstore_n k, 1)) (hi : (k : Nat) = i) (hn : i + 1 < L.length) (hc : lc L i = true) (kk : V Y X M (pc + 1) (lset (lset L i (some (.long x))) (i + 1) none) st) : V Y X M pc L (.long x :: st) := by
  obtain ⟨l, D, cy, ad, z, sc⟩ := Y
  obtain ⟨p, e, R, s, m, args, below, meth, c, cells, slots, Q, A⟩ := X
  obtain ⟨hx, hcd, hml, hts, hown, hK, ⟨hdd, hda⟩, hN, rfl, hret, hlk, hcl, hsl⟩ := hX
  intro H locs ls hP hS hl
  have hd := hcd ix _ hd
  exact lv_lstore_n hx rfl hd hi hl hn rfl (fun ls2 h2 => kk H locs ls2 hP hS (lw_set2 hc h2))
theorem v_lstore (hX : vOK Y X ins nL own rm ret) {i : Nat} {x : Int64} (ix : Nat) (hd : gi ins ix = some (pc, .lstore i, 2)) (hn : i + 1 < L.length) (hc : lc L i = true) (kk : V Y X M (pc + 2) (lset (lset L i (some (.long x))) (i + 1) none) st) : V Y X M pc L (.long x :: st) := by
  obtain ⟨l, D, cy, ad, z, sc⟩ := Y
  obtain ⟨p, e, R, s, m, args, below, meth, c, cells, slots, Q, A⟩ := X
  obtain ⟨hx, hcd, hml, hts, hown, hK, ⟨hdd, hda⟩, hN, rfl, hret, hlk, hcl, hsl⟩ := hX
  intro H locs ls hP hS hl
  have hd := hcd ix _ hd
  exact lv_lstore hx rfl hd hl hn rfl (fun ls2 h2 => kk H locs ls2 hP hS (lw_set2 hc h2))
theorem v_iinc (hX : vOK Y X ins nL own rm ret) {i : Nat} {n : Int} {x v : Int32} (ix : Nat) (hd : gi ins ix = some (pc, .iinc i n, 3)) (hg : lg L i = some (.int x)) (hv : x + Int32.ofInt n = v) (hn : i < L.length) (hc : lc L i = true) (kk : V Y X M (pc + 3) (lset L i (some (.int v))) st) : V Y X M pc L st := by
  obtain ⟨l, D, cy, ad, z, sc⟩ := Y
  obtain ⟨p, e, R, s, m, args, below, meth, c, cells, slots, Q, A⟩ := X
  obtain ⟨hx, hcd, hml, hts, hown, hK, ⟨hdd, hda⟩, hN, rfl, hret, hlk, hcl, hsl⟩ := hX
  intro H locs ls hP hS hl
  have hd := hcd ix _ hd
  obtain ⟨q, hq⟩ : ∃ q, (la 0 L)[q]? = some (i, Value.int x) := List.getElem?_of_mem (la_mem.mpr ⟨Nat.zero_le _, hg⟩)
  exact lv_iinc hx rfl hd hl hq hv hn rfl (fun ls2 h2 => kk H locs ls2 hP hS (lw_set1 hc h2))
theorem v_iadd (hX : vOK Y X ins nL own rm ret) {x y : Int32} (ix : Nat) (hd : gi ins ix = some (pc, .iadd, 1)) (kk : V Y X M (pc + 1) L (.int (x + y) :: st)) : V Y X M pc L (.int y :: .int x :: st) := by
  obtain ⟨l, D, cy, ad, z, sc⟩ := Y
  obtain ⟨p, e, R, s, m, args, below, meth, c, cells, slots, Q, A⟩ := X
  obtain ⟨hx, hcd, hml, hts, hown, hK, ⟨hdd, hda⟩, hN, rfl, hret, hlk, hcl, hsl⟩ := hX
  intro H locs ls hP hS hl
  have hd := hcd ix _ hd
  exact lv_iadd hx rfl hd (kk H locs ls hP hS hl)
theorem v_isub (hX : vOK Y X ins nL own rm ret) {x y : Int32} (ix : Nat) (hd : gi ins ix = some (pc, .isub, 1)) (kk : V Y X M (pc + 1) L (.int (x - y) :: st)) : V Y X M pc L (.int y :: .int x :: st) := by
  obtain ⟨l, D, cy, ad, z, sc⟩ := Y
  obtain ⟨p, e, R, s, m, args, below, meth, c, cells, slots, Q, A⟩ := X
  obtain ⟨hx, hcd, hml, hts, hown, hK, ⟨hdd, hda⟩, hN, rfl, hret, hlk, hcl, hsl⟩ := hX
  intro H locs ls hP hS hl
  have hd := hcd ix _ hd
  exact lv_isub hx rfl hd (kk H locs ls hP hS hl)
theorem v_imul (hX : vOK Y X ins nL own rm ret) {x y : Int32} (ix : Nat) (hd : gi ins ix = some (pc, .imul, 1)) (kk : V Y X M (pc + 1) L (.int (x * y) :: st)) : V Y X M pc L (.int y :: .int x :: st) := by
  obtain ⟨l, D, cy, ad, z, sc⟩ := Y
  obtain ⟨p, e, R, s, m, args, below, meth, c, cells, slots, Q, A⟩ := X
  obtain ⟨hx, hcd, hml, hts, hown, hK, ⟨hdd, hda⟩, hN, rfl, hret, hlk, hcl, hsl⟩ := hX
  intro H locs ls hP hS hl
  have hd := hcd ix _ hd
  exact lv_imul hx rfl hd (kk H locs ls hP hS hl)
theorem v_iand (hX : vOK Y X ins nL own rm ret) {x y : Int32} (ix : Nat) (hd : gi ins ix = some (pc, .iand, 1)) (kk : V Y X M (pc + 1) L (.int (x &&& y) :: st)) : V Y X M pc L (.int y :: .int x :: st) := by
  obtain ⟨l, D, cy, ad, z, sc⟩ := Y
  obtain ⟨p, e, R, s, m, args, below, meth, c, cells, slots, Q, A⟩ := X
  obtain ⟨hx, hcd, hml, hts, hown, hK, ⟨hdd, hda⟩, hN, rfl, hret, hlk, hcl, hsl⟩ := hX
  intro H locs ls hP hS hl
  have hd := hcd ix _ hd
  exact lv_iand hx rfl hd (kk H locs ls hP hS hl)
theorem v_ior (hX : vOK Y X ins nL own rm ret) {x y : Int32} (ix : Nat) (hd : gi ins ix = some (pc, .ior, 1)) (kk : V Y X M (pc + 1) L (.int (x ||| y) :: st)) : V Y X M pc L (.int y :: .int x :: st) := by
  obtain ⟨l, D, cy, ad, z, sc⟩ := Y
  obtain ⟨p, e, R, s, m, args, below, meth, c, cells, slots, Q, A⟩ := X
  obtain ⟨hx, hcd, hml, hts, hown, hK, ⟨hdd, hda⟩, hN, rfl, hret, hlk, hcl, hsl⟩ := hX
  intro H locs ls hP hS hl
  have hd := hcd ix _ hd
  exact lv_ior hx rfl hd (kk H locs ls hP hS hl)
theorem v_ixor (hX : vOK Y X ins nL own rm ret) {x y : Int32} (ix : Nat) (hd : gi ins ix = some (pc, .ixor, 1)) (kk : V Y X M (pc + 1) L (.int (x ^^^ y) :: st)) : V Y X M pc L (.int y :: .int x :: st) := by
  obtain ⟨l, D, cy, ad, z, sc⟩ := Y
  obtain ⟨p, e, R, s, m, args, below, meth, c, cells, slots, Q, A⟩ := X
  obtain ⟨hx, hcd, hml, hts, hown, hK, ⟨hdd, hda⟩, hN, rfl, hret, hlk, hcl, hsl⟩ := hX
  intro H locs ls hP hS hl
  have hd := hcd ix _ hd
  exact lv_ixor hx rfl hd (kk H locs ls hP hS hl)
theorem v_ishl (hX : vOK Y X ins nL own rm ret) {x y : Int32} (ix : Nat) (hd : gi ins ix = some (pc, .ishl, 1)) (kk : V Y X M (pc + 1) L (.int (x <<< (y &&& 31)) :: st)) : V Y X M pc L (.int y :: .int x :: st) := by
  obtain ⟨l, D, cy, ad, z, sc⟩ := Y
  obtain ⟨p, e, R, s, m, args, below, meth, c, cells, slots, Q, A⟩ := X
  obtain ⟨hx, hcd, hml, hts, hown, hK, ⟨hdd, hda⟩, hN, rfl, hret, hlk, hcl, hsl⟩ := hX
  intro H locs ls hP hS hl
  have hd := hcd ix _ hd
  exact lv_ishl hx rfl hd (kk H locs ls hP hS hl)
theorem v_ishr (hX : vOK Y X ins nL own rm ret) {x y : Int32} (ix : Nat) (hd : gi ins ix = some (pc, .ishr, 1)) (kk : V Y X M (pc + 1) L (.int (x >>> (y &&& 31)) :: st)) : V Y X M pc L (.int y :: .int x :: st) := by
  obtain ⟨l, D, cy, ad, z, sc⟩ := Y
  obtain ⟨p, e, R, s, m, args, below, meth, c, cells, slots, Q, A⟩ := X
  obtain ⟨hx, hcd, hml, hts, hown, hK, ⟨hdd, hda⟩, hN, rfl, hret, hlk, hcl, hsl⟩ := hX
  intro H locs ls hP hS hl
  have hd := hcd ix _ hd
  exact lv_ishr hx rfl hd (kk H locs ls hP hS hl)
theorem v_iushr (hX : vOK Y X ins nL own rm ret) {x y v : Int32} (ix : Nat) (hd : gi ins ix = some (pc, .iushr, 1)) (hv : (x.toUInt32 >>> (y.toUInt32 &&& Int32.toUInt32 31)).toInt32 = v) (kk : V Y X M (pc + 1) L (.int v :: st)) : V Y X M pc L (.int y :: .int x :: st) := by
  obtain ⟨l, D, cy, ad, z, sc⟩ := Y
  obtain ⟨p, e, R, s, m, args, below, meth, c, cells, slots, Q, A⟩ := X
  obtain ⟨hx, hcd, hml, hts, hown, hK, ⟨hdd, hda⟩, hN, rfl, hret, hlk, hcl, hsl⟩ := hX
  intro H locs ls hP hS hl
  have hd := hcd ix _ hd
  exact lv_iushr hx rfl hd hv (kk H locs ls hP hS hl)
theorem v_ladd (hX : vOK Y X ins nL own rm ret) {x y : Int64} (ix : Nat) (hd : gi ins ix = some (pc, .ladd, 1)) (kk : V Y X M (pc + 1) L (.long (x + y) :: st)) : V Y X M pc L (.long y :: .long x :: st) := by
  obtain ⟨l, D, cy, ad, z, sc⟩ := Y
  obtain ⟨p, e, R, s, m, args, below, meth, c, cells, slots, Q, A⟩ := X
  obtain ⟨hx, hcd, hml, hts, hown, hK, ⟨hdd, hda⟩, hN, rfl, hret, hlk, hcl, hsl⟩ := hX
  intro H locs ls hP hS hl
  have hd := hcd ix _ hd
  exact lv_ladd hx rfl hd (kk H locs ls hP hS hl)
theorem v_lsub (hX : vOK Y X ins nL own rm ret) {x y : Int64} (ix : Nat) (hd : gi ins ix = some (pc, .lsub, 1)) (kk : V Y X M (pc + 1) L (.long (x - y) :: st)) : V Y X M pc L (.long y :: .long x :: st) := by
  obtain ⟨l, D, cy, ad, z, sc⟩ := Y
  obtain ⟨p, e, R, s, m, args, below, meth, c, cells, slots, Q, A⟩ := X
  obtain ⟨hx, hcd, hml, hts, hown, hK, ⟨hdd, hda⟩, hN, rfl, hret, hlk, hcl, hsl⟩ := hX
  intro H locs ls hP hS hl
  have hd := hcd ix _ hd
  exact lv_lsub hx rfl hd (kk H locs ls hP hS hl)
theorem v_lmul (hX : vOK Y X ins nL own rm ret) {x y : Int64} (ix : Nat) (hd : gi ins ix = some (pc, .lmul, 1)) (kk : V Y X M (pc + 1) L (.long (x * y) :: st)) : V Y X M pc L (.long y :: .long x :: st) := by
  obtain ⟨l, D, cy, ad, z, sc⟩ := Y
  obtain ⟨p, e, R, s, m, args, below, meth, c, cells, slots, Q, A⟩ := X
  obtain ⟨hx, hcd, hml, hts, hown, hK, ⟨hdd, hda⟩, hN, rfl, hret, hlk, hcl, hsl⟩ := hX
  intro H locs ls hP hS hl
  have hd := hcd ix _ hd
  exact lv_lmul hx rfl hd (kk H locs ls hP hS hl)
theorem v_land (hX : vOK Y X ins nL own rm ret) {x y : Int64} (ix : Nat) (hd : gi ins ix = some (pc, .land, 1)) (kk : V Y X M (pc + 1) L (.long (x &&& y) :: st)) : V Y X M pc L (.long y :: .long x :: st) := by
  obtain ⟨l, D, cy, ad, z, sc⟩ := Y
  obtain ⟨p, e, R, s, m, args, below, meth, c, cells, slots, Q, A⟩ := X
  obtain ⟨hx, hcd, hml, hts, hown, hK, ⟨hdd, hda⟩, hN, rfl, hret, hlk, hcl, hsl⟩ := hX
  intro H locs ls hP hS hl
  have hd := hcd ix _ hd
  exact lv_land hx rfl hd (kk H locs ls hP hS hl)
theorem v_lor (hX : vOK Y X ins nL own rm ret) {x y : Int64} (ix : Nat) (hd : gi ins ix = some (pc, .lor, 1)) (kk : V Y X M (pc + 1) L (.long (x ||| y) :: st)) : V Y X M pc L (.long y :: .long x :: st) := by
  obtain ⟨l, D, cy, ad, z, sc⟩ := Y
  obtain ⟨p, e, R, s, m, args, below, meth, c, cells, slots, Q, A⟩ := X
  obtain ⟨hx, hcd, hml, hts, hown, hK, ⟨hdd, hda⟩, hN, rfl, hret, hlk, hcl, hsl⟩ := hX
  intro H locs ls hP hS hl
  have hd := hcd ix _ hd
  exact lv_lor hx rfl hd (kk H locs ls hP hS hl)
theorem v_ldiv (hX : vOK Y X ins nL own rm ret) {x y : Int64} (hne : ¬ y = 0) (ix : Nat) (hd : gi ins ix = some (pc, .ldiv, 1)) (kk : V Y X M (pc + 1) L (.long (x / y) :: st)) : V Y X M pc L (.long y :: .long x :: st) := by
  obtain ⟨l, D, cy, ad, z, sc⟩ := Y
  obtain ⟨p, e, R, s, m, args, below, meth, c, cells, slots, Q, A⟩ := X
  obtain ⟨hx, hcd, hml, hts, hown, hK, ⟨hdd, hda⟩, hN, rfl, hret, hlk, hcl, hsl⟩ := hX
  intro H locs ls hP hS hl
  have hd := hcd ix _ hd
  exact lv_ldiv hx rfl hd hne (kk H locs ls hP hS hl)
theorem v_lrem (hX : vOK Y X ins nL own rm ret) {x y : Int64} (hne : ¬ y = 0) (ix : Nat) (hd : gi ins ix = some (pc, .lrem, 1)) (kk : V Y X M (pc + 1) L (.long (x - x / y * y) :: st)) : V Y X M pc L (.long y :: .long x :: st) := by
  obtain ⟨l, D, cy, ad, z, sc⟩ := Y
  obtain ⟨p, e, R, s, m, args, below, meth, c, cells, slots, Q, A⟩ := X
  obtain ⟨hx, hcd, hml, hts, hown, hK, ⟨hdd, hda⟩, hN, rfl, hret, hlk, hcl, hsl⟩ := hX
  intro H locs ls hP hS hl
  have hd := hcd ix _ hd
  exact lv_lrem hx rfl hd hne (kk H locs ls hP hS hl)
theorem v_lushr (hX : vOK Y X ins nL own rm ret) {x : Int64} {y : Int32} {v : Int64} (ix : Nat) (hd : gi ins ix = some (pc, .lushr, 1)) (hv : (x.toUInt64 >>> (y.toInt64.toUInt64 &&& Int64.toUInt64 63)).toInt64 = v) (kk : V Y X M (pc + 1) L (.long v :: st)) : V Y X M pc L (.int y :: .long x :: st) := by
  obtain ⟨l, D, cy, ad, z, sc⟩ := Y
  obtain ⟨p, e, R, s, m, args, below, meth, c, cells, slots, Q, A⟩ := X
  obtain ⟨hx, hcd, hml, hts, hown, hK, ⟨hdd, hda⟩, hN, rfl, hret, hlk, hcl, hsl⟩ := hX
  intro H locs ls hP hS hl
  have hd := hcd ix _ hd
  exact lv_lushr hx rfl hd hv (kk H locs ls hP hS hl)
theorem v_lshl (hX : vOK Y X ins nL own rm ret) {x : Int64} {y : Int32} {v : Int64} (ix : Nat) (hd : gi ins ix = some (pc, .lshl, 1)) (hv : x <<< (y.toInt64 &&& 63) = v) (kk : V Y X M (pc + 1) L (.long v :: st)) : V Y X M pc L (.int y :: .long x :: st) := by
  obtain ⟨l, D, cy, ad, z, sc⟩ := Y
  obtain ⟨p, e, R, s, m, args, below, meth, c, cells, slots, Q, A⟩ := X
  obtain ⟨hx, hcd, hml, hts, hown, hK, ⟨hdd, hda⟩, hN, rfl, hret, hlk, hcl, hsl⟩ := hX
  intro H locs ls hP hS hl
  have hd := hcd ix _ hd
  exact lv_lshl hx rfl hd hv (kk H locs ls hP hS hl)
theorem v_i2l (hX : vOK Y X ins nL own rm ret) {x : Int32} {v : Int64} (ix : Nat) (hd : gi ins ix = some (pc, .i2l, 1)) (hv : x.toInt64 = v) (kk : V Y X M (pc + 1) L (.long v :: st)) : V Y X M pc L (.int x :: st) := by
  obtain ⟨l, D, cy, ad, z, sc⟩ := Y
  obtain ⟨p, e, R, s, m, args, below, meth, c, cells, slots, Q, A⟩ := X
  obtain ⟨hx, hcd, hml, hts, hown, hK, ⟨hdd, hda⟩, hN, rfl, hret, hlk, hcl, hsl⟩ := hX
  intro H locs ls hP hS hl
  have hd := hcd ix _ hd
  exact lv_i2l hx rfl hd hv (kk H locs ls hP hS hl)
theorem v_l2i (hX : vOK Y X ins nL own rm ret) {x : Int64} {v : Int32} (ix : Nat) (hd : gi ins ix = some (pc, .l2i, 1)) (hv : x.toInt32 = v) (kk : V Y X M (pc + 1) L (.int v :: st)) : V Y X M pc L (.long x :: st) := by
  obtain ⟨l, D, cy, ad, z, sc⟩ := Y
  obtain ⟨p, e, R, s, m, args, below, meth, c, cells, slots, Q, A⟩ := X
  obtain ⟨hx, hcd, hml, hts, hown, hK, ⟨hdd, hda⟩, hN, rfl, hret, hlk, hcl, hsl⟩ := hX
  intro H locs ls hP hS hl
  have hd := hcd ix _ hd
  exact lv_l2i hx rfl hd hv (kk H locs ls hP hS hl)
theorem v_i2c (hX : vOK Y X ins nL own rm ret) {x : Int32} {v : Int32} (ix : Nat) (hd : gi ins ix = some (pc, .i2c, 1)) (hv : (x.toUInt32 % 65536).toInt32 = v) (kk : V Y X M (pc + 1) L (.int v :: st)) : V Y X M pc L (.int x :: st) := by
  obtain ⟨l, D, cy, ad, z, sc⟩ := Y
  obtain ⟨p, e, R, s, m, args, below, meth, c, cells, slots, Q, A⟩ := X
  obtain ⟨hx, hcd, hml, hts, hown, hK, ⟨hdd, hda⟩, hN, rfl, hret, hlk, hcl, hsl⟩ := hX
  intro H locs ls hP hS hl
  have hd := hcd ix _ hd
  exact lv_i2c hx rfl hd hv (kk H locs ls hP hS hl)
theorem v_lcmp (hX : vOK Y X ins nL own rm ret) {x y : Int64} (ix : Nat) (hd : gi ins ix = some (pc, .lcmp, 1)) (kk : V Y X M (pc + 1) L (.int (lg_cmp x y) :: st)) : V Y X M pc L (.long y :: .long x :: st) := by
  obtain ⟨l, D, cy, ad, z, sc⟩ := Y
  obtain ⟨p, e, R, s, m, args, below, meth, c, cells, slots, Q, A⟩ := X
  obtain ⟨hx, hcd, hml, hts, hown, hK, ⟨hdd, hda⟩, hN, rfl, hret, hlk, hcl, hsl⟩ := hX
  intro H locs ls hP hS hl
  have hd := hcd ix _ hd
  exact W.lcmp hx rfl hd (kk H locs ls hP hS hl)
theorem v_dup (hX : vOK Y X ins nL own rm ret) {v : Value} (ix : Nat) (hd : gi ins ix = some (pc, .dup, 1)) (hc : v.category = 1) (kk : V Y X M (pc + 1) L (v :: v :: st)) : V Y X M pc L (v :: st) := by
  obtain ⟨l, D, cy, ad, z, sc⟩ := Y
  obtain ⟨p, e, R, s, m, args, below, meth, c, cells, slots, Q, A⟩ := X
  obtain ⟨hx, hcd, hml, hts, hown, hK, ⟨hdd, hda⟩, hN, rfl, hret, hlk, hcl, hsl⟩ := hX
  intro H locs ls hP hS hl
  have hd := hcd ix _ hd
  exact lv_dup hx rfl hd hc (kk H locs ls hP hS hl)
theorem v_dup2 (hX : vOK Y X ins nL own rm ret) {a b : Value} (ix : Nat) (hd : gi ins ix = some (pc, .dup2, 1)) (h1 : a.category = 1) (h2 : b.category = 1) (kk : V Y X M (pc + 1) L (a :: b :: a :: b :: st)) : V Y X M pc L (a :: b :: st) := by
  obtain ⟨l, D, cy, ad, z, sc⟩ := Y
  obtain ⟨p, e, R, s, m, args, below, meth, c, cells, slots, Q, A⟩ := X
  obtain ⟨hx, hcd, hml, hts, hown, hK, ⟨hdd, hda⟩, hN, rfl, hret, hlk, hcl, hsl⟩ := hX
  intro H locs ls hP hS hl
  have hd := hcd ix _ hd
  exact lv_dup2_11 hx rfl hd h1 h2 (kk H locs ls hP hS hl)
theorem v_pop (hX : vOK Y X ins nL own rm ret) {v : Value} (ix : Nat) (hd : gi ins ix = some (pc, .pop, 1)) (hc : v.category = 1) (kk : V Y X M (pc + 1) L st) : V Y X M pc L (v :: st) := by
  obtain ⟨l, D, cy, ad, z, sc⟩ := Y
  obtain ⟨p, e, R, s, m, args, below, meth, c, cells, slots, Q, A⟩ := X
  obtain ⟨hx, hcd, hml, hts, hown, hK, ⟨hdd, hda⟩, hN, rfl, hret, hlk, hcl, hsl⟩ := hX
  intro H locs ls hP hS hl
  have hd := hcd ix _ hd
  exact lv_pop hx rfl hd hc (kk H locs ls hP hS hl)
theorem v_dup_x1 (hX : vOK Y X ins nL own rm ret) {a b : Value} (ix : Nat) (hd : gi ins ix = some (pc, .dup_x1, 1)) (h1 : a.category = 1) (h2 : b.category = 1) (kk : V Y X M (pc + 1) L (a :: b :: a :: st)) : V Y X M pc L (a :: b :: st) := by
  obtain ⟨l, D, cy, ad, z, sc⟩ := Y
  obtain ⟨p, e, R, s, m, args, below, meth, c, cells, slots, Q, A⟩ := X
  obtain ⟨hx, hcd, hml, hts, hown, hK, ⟨hdd, hda⟩, hN, rfl, hret, hlk, hcl, hsl⟩ := hX
  intro H locs ls hP hS hl
  have hd := hcd ix _ hd
  exact lv_dup_x1 hx rfl hd h1 h2 (kk H locs ls hP hS hl)
theorem v_if_eq (hX : vOK Y X ins nL own rm ret) {x : Int32} {off : Int} {tgt : Nat} (ix : Nat) (hd : gi ins ix = some (pc, .ifCond .eq off, 3)) (ht : (pc : Int) + off = (tgt : Int)) (kt : x = 0 → V Y X M tgt L st) (kf : ¬ x = 0 → V Y X M (pc + 3) L st) : V Y X M pc L (.int x :: st) := by
  obtain ⟨l, D, cy, ad, z, sc⟩ := Y
  obtain ⟨p, e, R, s, m, args, below, meth, c, cells, slots, Q, A⟩ := X
  obtain ⟨hx, hcd, hml, hts, hown, hK, ⟨hdd, hda⟩, hN, rfl, hret, hlk, hcl, hsl⟩ := hX
  intro H locs ls hP hS hl
  have hd := hcd ix _ hd
  exact lv_if_eq hx rfl hd ht (fun h => kt h H locs ls hP hS hl) (fun h => kf h H locs ls hP hS hl)
theorem v_icmp_eq (hX : vOK Y X ins nL own rm ret) {x y : Int32} {off : Int} {tgt : Nat} (ix : Nat) (hd : gi ins ix = some (pc, .if_icmp .eq off, 3)) (ht : (pc : Int) + off = (tgt : Int)) (kt : x = y → V Y X M tgt L st) (kf : ¬ x = y → V Y X M (pc + 3) L st) : V Y X M pc L (.int y :: .int x :: st) := by
  obtain ⟨l, D, cy, ad, z, sc⟩ := Y
  obtain ⟨p, e, R, s, m, args, below, meth, c, cells, slots, Q, A⟩ := X
  obtain ⟨hx, hcd, hml, hts, hown, hK, ⟨hdd, hda⟩, hN, rfl, hret, hlk, hcl, hsl⟩ := hX
  intro H locs ls hP hS hl
  have hd := hcd ix _ hd
  exact lv_icmp_eq hx rfl hd ht (fun h => kt h H locs ls hP hS hl) (fun h => kf h H locs ls hP hS hl)
theorem v_if_ne (hX : vOK Y X ins nL own rm ret) {x : Int32} {off : Int} {tgt : Nat} (ix : Nat) (hd : gi ins ix = some (pc, .ifCond .ne off, 3)) (ht : (pc : Int) + off = (tgt : Int)) (kt : ¬ x = 0 → V Y X M tgt L st) (kf : x = 0 → V Y X M (pc + 3) L st) : V Y X M pc L (.int x :: st) := by
  obtain ⟨l, D, cy, ad, z, sc⟩ := Y
  obtain ⟨p, e, R, s, m, args, below, meth, c, cells, slots, Q, A⟩ := X
  obtain ⟨hx, hcd, hml, hts, hown, hK, ⟨hdd, hda⟩, hN, rfl, hret, hlk, hcl, hsl⟩ := hX
  intro H locs ls hP hS hl
  have hd := hcd ix _ hd
  exact lv_if_ne hx rfl hd ht (fun h => kt h H locs ls hP hS hl) (fun h => kf h H locs ls hP hS hl)
theorem v_icmp_ne (hX : vOK Y X ins nL own rm ret) {x y : Int32} {off : Int} {tgt : Nat} (ix : Nat) (hd : gi ins ix = some (pc, .if_icmp .ne off, 3)) (ht : (pc : Int) + off = (tgt : Int)) (kt : ¬ x = y → V Y X M tgt L st) (kf : x = y → V Y X M (pc + 3) L st) : V Y X M pc L (.int y :: .int x :: st) := by
  obtain ⟨l, D, cy, ad, z, sc⟩ := Y
  obtain ⟨p, e, R, s, m, args, below, meth, c, cells, slots, Q, A⟩ := X
  obtain ⟨hx, hcd, hml, hts, hown, hK, ⟨hdd, hda⟩, hN, rfl, hret, hlk, hcl, hsl⟩ := hX
  intro H locs ls hP hS hl
  have hd := hcd ix _ hd
  exact lv_icmp_ne hx rfl hd ht (fun h => kt h H locs ls hP hS hl) (fun h => kf h H locs ls hP hS hl)
theorem v_if_lt (hX : vOK Y X ins nL own rm ret) {x : Int32} {off : Int} {tgt : Nat} (ix : Nat) (hd : gi ins ix = some (pc, .ifCond .lt off, 3)) (ht : (pc : Int) + off = (tgt : Int)) (kt : x < 0 → V Y X M tgt L st) (kf : ¬ x < 0 → V Y X M (pc + 3) L st) : V Y X M pc L (.int x :: st) := by
  obtain ⟨l, D, cy, ad, z, sc⟩ := Y
  obtain ⟨p, e, R, s, m, args, below, meth, c, cells, slots, Q, A⟩ := X
  obtain ⟨hx, hcd, hml, hts, hown, hK, ⟨hdd, hda⟩, hN, rfl, hret, hlk, hcl, hsl⟩ := hX
  intro H locs ls hP hS hl
  have hd := hcd ix _ hd
  exact lv_if_lt hx rfl hd ht (fun h => kt h H locs ls hP hS hl) (fun h => kf h H locs ls hP hS hl)
theorem v_icmp_lt (hX : vOK Y X ins nL own rm ret) {x y : Int32} {off : Int} {tgt : Nat} (ix : Nat) (hd : gi ins ix = some (pc, .if_icmp .lt off, 3)) (ht : (pc : Int) + off = (tgt : Int)) (kt : x < y → V Y X M tgt L st) (kf : ¬ x < y → V Y X M (pc + 3) L st) : V Y X M pc L (.int y :: .int x :: st) := by
  obtain ⟨l, D, cy, ad, z, sc⟩ := Y
  obtain ⟨p, e, R, s, m, args, below, meth, c, cells, slots, Q, A⟩ := X
  obtain ⟨hx, hcd, hml, hts, hown, hK, ⟨hdd, hda⟩, hN, rfl, hret, hlk, hcl, hsl⟩ := hX
  intro H locs ls hP hS hl
  have hd := hcd ix _ hd
  exact lv_icmp_lt hx rfl hd ht (fun h => kt h H locs ls hP hS hl) (fun h => kf h H locs ls hP hS hl)
theorem v_if_ge (hX : vOK Y X ins nL own rm ret) {x : Int32} {off : Int} {tgt : Nat} (ix : Nat) (hd : gi ins ix = some (pc, .ifCond .ge off, 3)) (ht : (pc : Int) + off = (tgt : Int)) (kt : 0 ≤ x → V Y X M tgt L st) (kf : ¬ 0 ≤ x → V Y X M (pc + 3) L st) : V Y X M pc L (.int x :: st) := by
  obtain ⟨l, D, cy, ad, z, sc⟩ := Y
  obtain ⟨p, e, R, s, m, args, below, meth, c, cells, slots, Q, A⟩ := X
  obtain ⟨hx, hcd, hml, hts, hown, hK, ⟨hdd, hda⟩, hN, rfl, hret, hlk, hcl, hsl⟩ := hX
  intro H locs ls hP hS hl
  have hd := hcd ix _ hd
  exact lv_if_ge hx rfl hd ht (fun h => kt h H locs ls hP hS hl) (fun h => kf h H locs ls hP hS hl)
theorem v_icmp_ge (hX : vOK Y X ins nL own rm ret) {x y : Int32} {off : Int} {tgt : Nat} (ix : Nat) (hd : gi ins ix = some (pc, .if_icmp .ge off, 3)) (ht : (pc : Int) + off = (tgt : Int)) (kt : y ≤ x → V Y X M tgt L st) (kf : ¬ y ≤ x → V Y X M (pc + 3) L st) : V Y X M pc L (.int y :: .int x :: st) := by
  obtain ⟨l, D, cy, ad, z, sc⟩ := Y
  obtain ⟨p, e, R, s, m, args, below, meth, c, cells, slots, Q, A⟩ := X
  obtain ⟨hx, hcd, hml, hts, hown, hK, ⟨hdd, hda⟩, hN, rfl, hret, hlk, hcl, hsl⟩ := hX
  intro H locs ls hP hS hl
  have hd := hcd ix _ hd
  exact lv_icmp_ge hx rfl hd ht (fun h => kt h H locs ls hP hS hl) (fun h => kf h H locs ls hP hS hl)
theorem v_if_gt (hX : vOK Y X ins nL own rm ret) {x : Int32} {off : Int} {tgt : Nat} (ix : Nat) (hd : gi ins ix = some (pc, .ifCond .gt off, 3)) (ht : (pc : Int) + off = (tgt : Int)) (kt : 0 < x → V Y X M tgt L st) (kf : ¬ 0 < x → V Y X M (pc + 3) L st) : V Y X M pc L (.int x :: st) := by
  obtain ⟨l, D, cy, ad, z, sc⟩ := Y
  obtain ⟨p, e, R, s, m, args, below, meth, c, cells, slots, Q, A⟩ := X
  obtain ⟨hx, hcd, hml, hts, hown, hK, ⟨hdd, hda⟩, hN, rfl, hret, hlk, hcl, hsl⟩ := hX
  intro H locs ls hP hS hl
  have hd := hcd ix _ hd
  exact lv_if_gt hx rfl hd ht (fun h => kt h H locs ls hP hS hl) (fun h => kf h H locs ls hP hS hl)
theorem v_icmp_gt (hX : vOK Y X ins nL own rm ret) {x y : Int32} {off : Int} {tgt : Nat} (ix : Nat) (hd : gi ins ix = some (pc, .if_icmp .gt off, 3)) (ht : (pc : Int) + off = (tgt : Int)) (kt : y < x → V Y X M tgt L st) (kf : ¬ y < x → V Y X M (pc + 3) L st) : V Y X M pc L (.int y :: .int x :: st) := by
  obtain ⟨l, D, cy, ad, z, sc⟩ := Y
  obtain ⟨p, e, R, s, m, args, below, meth, c, cells, slots, Q, A⟩ := X
  obtain ⟨hx, hcd, hml, hts, hown, hK, ⟨hdd, hda⟩, hN, rfl, hret, hlk, hcl, hsl⟩ := hX
  intro H locs ls hP hS hl
  have hd := hcd ix _ hd
  exact lv_icmp_gt hx rfl hd ht (fun h => kt h H locs ls hP hS hl) (fun h => kf h H locs ls hP hS hl)
theorem v_if_le (hX : vOK Y X ins nL own rm ret) {x : Int32} {off : Int} {tgt : Nat} (ix : Nat) (hd : gi ins ix = some (pc, .ifCond .le off, 3)) (ht : (pc : Int) + off = (tgt : Int)) (kt : x ≤ 0 → V Y X M tgt L st) (kf : ¬ x ≤ 0 → V Y X M (pc + 3) L st) : V Y X M pc L (.int x :: st) := by
  obtain ⟨l, D, cy, ad, z, sc⟩ := Y
  obtain ⟨p, e, R, s, m, args, below, meth, c, cells, slots, Q, A⟩ := X
  obtain ⟨hx, hcd, hml, hts, hown, hK, ⟨hdd, hda⟩, hN, rfl, hret, hlk, hcl, hsl⟩ := hX
  intro H locs ls hP hS hl
  have hd := hcd ix _ hd
  exact lv_if_le hx rfl hd ht (fun h => kt h H locs ls hP hS hl) (fun h => kf h H locs ls hP hS hl)
theorem v_icmp_le (hX : vOK Y X ins nL own rm ret) {x y : Int32} {off : Int} {tgt : Nat} (ix : Nat) (hd : gi ins ix = some (pc, .if_icmp .le off, 3)) (ht : (pc : Int) + off = (tgt : Int)) (kt : x ≤ y → V Y X M tgt L st) (kf : ¬ x ≤ y → V Y X M (pc + 3) L st) : V Y X M pc L (.int y :: .int x :: st) := by
  obtain ⟨l, D, cy, ad, z, sc⟩ := Y
  obtain ⟨p, e, R, s, m, args, below, meth, c, cells, slots, Q, A⟩ := X
  obtain ⟨hx, hcd, hml, hts, hown, hK, ⟨hdd, hda⟩, hN, rfl, hret, hlk, hcl, hsl⟩ := hX
  intro H locs ls hP hS hl
  have hd := hcd ix _ hd
  exact lv_icmp_le hx rfl hd ht (fun h => kt h H locs ls hP hS hl) (fun h => kf h H locs ls hP hS hl)
theorem v_goto (hX : vOK Y X ins nL own rm ret) {off : Int} {tgt : Nat} (ix : Nat) (hd : gi ins ix = some (pc, .goto off, 3)) (ht : (pc : Int) + off = (tgt : Int)) (kk : V Y X M tgt L st) : V Y X M pc L st := by
  obtain ⟨l, D, cy, ad, z, sc⟩ := Y
  obtain ⟨p, e, R, s, m, args, below, meth, c, cells, slots, Q, A⟩ := X
  obtain ⟨hx, hcd, hml, hts, hown, hK, ⟨hdd, hda⟩, hN, rfl, hret, hlk, hcl, hsl⟩ := hX
  intro H locs ls hP hS hl
  have hd := hcd ix _ hd
  exact lv_goto hx rfl hd ht (kk H locs ls hP hS hl)
theorem v_ifnull (hX : vOK Y X ins nL own rm ret) {x : Nat} {off : Int} (ix : Nat) (hd : gi ins ix = some (pc, .ifnull off, 3)) (kk : V Y X M (pc + 3) L st) : V Y X M pc L (.ref x :: st) := by
  obtain ⟨l, D, cy, ad, z, sc⟩ := Y
  obtain ⟨p, e, R, s, m, args, below, meth, c, cells, slots, Q, A⟩ := X
  obtain ⟨hx, hcd, hml, hts, hown, hK, ⟨hdd, hda⟩, hN, rfl, hret, hlk, hcl, hsl⟩ := hX
  intro H locs ls hP hS hl
  have hd := hcd ix _ hd
  exact lv_ifnull hx rfl hd (kk H locs ls hP hS hl)
theorem v_ifnullN (hX : vOK Y X ins nL own rm ret) {off : Int} {tgt : Nat} (ix : Nat) (hd : gi ins ix = some (pc, .ifnull off, 3)) (ht : (pc : Int) + off = (tgt : Int)) (kk : V Y X M tgt L st) : V Y X M pc L (.null :: st) := by
  obtain ⟨l, D, cy, ad, z, sc⟩ := Y
  obtain ⟨p, e, R, s, m, args, below, meth, c, cells, slots, Q, A⟩ := X
  obtain ⟨hx, hcd, hml, hts, hown, hK, ⟨hdd, hda⟩, hN, rfl, hret, hlk, hcl, hsl⟩ := hX
  intro H locs ls hP hS hl
  have hd := hcd ix _ hd
  exact lv_ifnullN hx rfl hd ht (kk H locs ls hP hS hl)
theorem v_ifnonnull (hX : vOK Y X ins nL own rm ret) {x : Nat} {off : Int} {tgt : Nat} (ix : Nat) (hd : gi ins ix = some (pc, .ifnonnull off, 3)) (ht : (pc : Int) + off = (tgt : Int)) (kk : V Y X M tgt L st) : V Y X M pc L (.ref x :: st) := by
  obtain ⟨l, D, cy, ad, z, sc⟩ := Y
  obtain ⟨p, e, R, s, m, args, below, meth, c, cells, slots, Q, A⟩ := X
  obtain ⟨hx, hcd, hml, hts, hown, hK, ⟨hdd, hda⟩, hN, rfl, hret, hlk, hcl, hsl⟩ := hX
  intro H locs ls hP hS hl
  have hd := hcd ix _ hd
  exact lv_ifnonnull hx rfl hd ht (kk H locs ls hP hS hl)
theorem v_ifnonnullN (hX : vOK Y X ins nL own rm ret) {off : Int} (ix : Nat) (hd : gi ins ix = some (pc, .ifnonnull off, 3)) (kk : V Y X M (pc + 3) L st) : V Y X M pc L (.null :: st) := by
  obtain ⟨l, D, cy, ad, z, sc⟩ := Y
  obtain ⟨p, e, R, s, m, args, below, meth, c, cells, slots, Q, A⟩ := X
  obtain ⟨hx, hcd, hml, hts, hown, hK, ⟨hdd, hda⟩, hN, rfl, hret, hlk, hcl, hsl⟩ := hX
  intro H locs ls hP hS hl
  have hd := hcd ix _ hd
  exact lv_ifnonnullN hx rfl hd (kk H locs ls hP hS hl)
theorem v_tableIn (hX : vOK Y X ins nL own rm ret) {dflt lo hi : Int} {offs : Array Int} {len : Nat} {x : Int32} {off : Int} {tgt : Nat} (ix : Nat) (hd : gi ins ix = some (pc, .tableswitch dflt lo hi offs, len)) (h1 : ¬ x.toInt < lo) (h2 : ¬ hi < x.toInt) (ho : offs[(x.toInt - lo).toNat]? = some off) (ht : (pc : Int) + off = (tgt : Int)) (kk : V Y X M tgt L st) : V Y X M pc L (.int x :: st) := by
  obtain ⟨l, D, cy, ad, z, sc⟩ := Y
  obtain ⟨p, e, R, s, m, args, below, meth, c, cells, slots, Q, A⟩ := X
  obtain ⟨hx, hcd, hml, hts, hown, hK, ⟨hdd, hda⟩, hN, rfl, hret, hlk, hcl, hsl⟩ := hX
  intro H locs ls hP hS hl
  have hd := hcd ix _ hd
  exact lv_tableIn hx rfl hd h1 h2 ho ht (kk H locs ls hP hS hl)
theorem v_tableOut (hX : vOK Y X ins nL own rm ret) {dflt lo hi : Int} {offs : Array Int} {len : Nat} {x : Int32} {tgt : Nat} (ix : Nat) (hd : gi ins ix = some (pc, .tableswitch dflt lo hi offs, len)) (h : x.toInt < lo ∨ hi < x.toInt) (ht : (pc : Int) + dflt = (tgt : Int)) (kk : V Y X M tgt L st) : V Y X M pc L (.int x :: st) := by
  obtain ⟨l, D, cy, ad, z, sc⟩ := Y
  obtain ⟨p, e, R, s, m, args, below, meth, c, cells, slots, Q, A⟩ := X
  obtain ⟨hx, hcd, hml, hts, hown, hK, ⟨hdd, hda⟩, hN, rfl, hret, hlk, hcl, hsl⟩ := hX
  intro H locs ls hP hS hl
  have hd := hcd ix _ hd
  exact lv_tableOut hx rfl hd h ht (kk H locs ls hP hS hl)
theorem v_lookup (hX : vOK Y X ins nL own rm ret) {dflt : Int} {ps : Array (Int × Int)} {len : Nat} {x : Int32} {off : Int} {tgt : Nat} (ix : Nat) (hd : gi ins ix = some (pc, .lookupswitch dflt ps, len)) (hp : (ps.toList.zip (ps.toList.drop 1)).all (fun (a, next) => a.1 < next.1) = true) (ho : Op.lookupswitch.offset ps.toList dflt x.toInt = off) (ht : (pc : Int) + off = (tgt : Int)) (kk : V Y X M tgt L st) : V Y X M pc L (.int x :: st) := by
  obtain ⟨l, D, cy, ad, z, sc⟩ := Y
  obtain ⟨p, e, R, s, m, args, below, meth, c, cells, slots, Q, A⟩ := X
  obtain ⟨hx, hcd, hml, hts, hown, hK, ⟨hdd, hda⟩, hN, rfl, hret, hlk, hcl, hsl⟩ := hX
  intro H locs ls hP hS hl
  have hd := hcd ix _ hd
  exact lv_lookup hx rfl hd hp ho ht (kk H locs ls hP hS hl)
theorem v_ldcw (hX : vOK Y X ins nL own rm ret) {index : Nat} {v : Int32} (hm : Cond.constant own index v ∈ wT) (ix : Nat) (hd : gi ins ix = some (pc, .ldc_w index, 3)) (kk : V Y X M (pc + 3) L (.int v :: st)) : V Y X M pc L st := by
  obtain ⟨l, D, cy, ad, z, sc⟩ := Y
  obtain ⟨p, e, R, s, m, args, below, meth, c, cells, slots, Q, A⟩ := X
  obtain ⟨hx, hcd, hml, hts, hown, hK, ⟨hdd, hda⟩, hN, rfl, hret, hlk, hcl, hsl⟩ := hX
  intro H locs ls hP hS hl
  have hd := hcd ix _ hd
  exact lv_ldcw hx rfl hown (hts _ hm) hd (kk H locs ls hP hS hl)
theorem v_ldc (hX : vOK Y X ins nL own rm ret) {index : Nat} {v : Int32} (hm : Cond.constant own index v ∈ wT) (ix : Nat) (hd : gi ins ix = some (pc, .ldc index, 2)) (kk : V Y X M (pc + 2) L (.int v :: st)) : V Y X M pc L st := by
  obtain ⟨l, D, cy, ad, z, sc⟩ := Y
  obtain ⟨p, e, R, s, m, args, below, meth, c, cells, slots, Q, A⟩ := X
  obtain ⟨hx, hcd, hml, hts, hown, hK, ⟨hdd, hda⟩, hN, rfl, hret, hlk, hcl, hsl⟩ := hX
  intro H locs ls hP hS hl
  have hd := hcd ix _ hd
  exact lv_ldc hx rfl hown (hts _ hm) hd (kk H locs ls hP hS hl)
theorem v_ldc2 (hX : vOK Y X ins nL own rm ret) {index : Nat} {v : Int64} (hm : Cond.constantLong own index v ∈ wT) (ix : Nat) (hd : gi ins ix = some (pc, .ldc2_w index, 3)) (kk : V Y X M (pc + 3) L (.long v :: st)) : V Y X M pc L st := by
  obtain ⟨l, D, cy, ad, z, sc⟩ := Y
  obtain ⟨p, e, R, s, m, args, below, meth, c, cells, slots, Q, A⟩ := X
  obtain ⟨hx, hcd, hml, hts, hown, hK, ⟨hdd, hda⟩, hN, rfl, hret, hlk, hcl, hsl⟩ := hX
  intro H locs ls hP hS hl
  have hd := hcd ix _ hd
  exact lv_ldc2 hx rfl hown (hts _ hm) hd (kk H locs ls hP hS hl)
theorem v_get (hX : vOK Y X ins nL own rm ret) {k ci N index : Nat} {C ref : String} {T : u_T} {fs : List Value} (hk : k < 279) (he : cG Y.2.2.1 Y.2.2.2.1 M.2 (M.1 k) k = .inr (ci, fs)) (hc : vwCl[ci]? = some (C, T, N)) (hin : ∀ w ∈ u_ws C T N, w ∈ wT) (j : Nat) (hj : j < N) (hlink : Cond.fieldLink own index ref (T j).2.1 (T j).2.2.1 ∈ wT) (hr : ref = (T j).1) {v : Value} (hv : fs[j]? = some v) (ix : Nat) (hd : gi ins ix = some (pc, .getfield index, 3)) (kk : V Y X M (pc + 3) L (v :: st)) : V Y X M pc L (.ref (Y.2.2.2.1 k) :: st) := by
  obtain ⟨l, D, cy, ad, z, sc⟩ := Y
  obtain ⟨p, e, R, s, m, args, below, meth, c, cells, slots, Q, A⟩ := X
  obtain ⟨hx, hcd, hml, hts, hown, hK, ⟨hdd, hda⟩, hN, rfl, hret, hlk, hcl, hsl⟩ := hX
  intro H locs ls hP hS hl
  have hd := hcd ix _ hd
  exact va_get (D := D) (ws := wl cy ad sc M) (tys := tq cy) hx rfl hts hin hown hK hP k (wl_get hk he) hc j hj (hts _ hlink) (fun _ h => by rw [hr]; exact h) hv hd (kk H locs ls hP hS hl)
theorem v_getN (hX : vOK Y X ins nL own rm ret) {k ci N index : Nat} {C ref host : String} {T : u_T} {fs : List Value} (hk : k < 279) (he : cG Y.2.2.1 Y.2.2.2.1 M.2 (M.1 k) k = .inr (ci, fs)) (hc : vwCl[ci]? = some (C, T, N)) (hin : ∀ w ∈ u_ws C T N, w ∈ wT) (j : Nat) (hj : j < N) (hlink : (own, index, ref, (T j).2.1, (T j).2.2.1, host) ∈ nF) (hr : ref = (T j).1) {v : Value} (hv : fs[j]? = some v) (ix : Nat) (hd : gi ins ix = some (pc, .getfield index, 3)) (kk : V Y X M (pc + 3) L (v :: st)) : V Y X M pc L (.ref (Y.2.2.2.1 k) :: st) := by
  obtain ⟨l, D, cy, ad, z, sc⟩ := Y
  obtain ⟨p, e, R, s, m, args, below, meth, c, cells, slots, Q, A⟩ := X
  obtain ⟨hx, hcd, hml, hts, hown, hK, ⟨hdd, hda⟩, hN, rfl, hret, hlk, hcl, hsl⟩ := hX
  intro H locs ls hP hS hl
  have hd := hcd ix _ hd
  exact va_getN (D := D) (ws := wl cy ad sc M) (tys := tq cy) hx rfl hts hin hown hK hP k (wl_get hk he) hc j hj (va_Nw.use rfl (hN.2 _ hlink)) (fun _ h => by rw [hr]; exact h) hv hd (kk H locs ls hP hS hl)
theorem v_put (hX : vOK Y X ins nL own rm ret) {k ci N index : Nat} {C ref : String} {T : u_T} {fs : List Value} (hk : k < 279) (he : cG Y.2.2.1 Y.2.2.2.1 M.2 (M.1 k) k = .inr (ci, fs)) (hc : vwCl[ci]? = some (C, T, N)) (hin : ∀ w ∈ u_ws C T N, w ∈ wT) (ty0 : Nat → FieldType) (hty : ∀ k, k < N → parseFieldDescriptor (T k).2.2.1 = some (ty0 k)) (hnm : ∀ a, a < N → ∀ b, b < N → a ≠ b → (T a).2.1 ≠ (T b).2.1) (j : Nat) (hj : j < N) (hlink : Cond.fieldLink own index ref (T j).2.1 (T j).2.2.1 ∈ wT) (hr : ref = (T j).1) (hfin : (T j).2.2.2 = false) {x : Int32} (hn : narrow (ty0 j) (.int x) = .int x) (hfit : fits (ty0 j) (.int x) = true) (hlen : j < fs.length) (he2 : cG Y.2.2.1 Y.2.2.2.1 M.2 (upd (M.1 k) j x) k = .inr (ci, fs.set j (.int x))) (ix : Nat) (hd : gi ins ix = some (pc, .putfield index, 3)) (kk : V Y X (mset M k j x) (pc + 3) L st) : V Y X M pc L (.int x :: .ref (Y.2.2.2.1 k) :: st) := by
  obtain ⟨l, D, cy, ad, z, sc⟩ := Y
  obtain ⟨p, e, R, s, m, args, below, meth, c, cells, slots, Q, A⟩ := X
  obtain ⟨hx, hcd, hml, hts, hown, hK, ⟨hdd, hda⟩, hN, rfl, hret, hlk, hcl, hsl⟩ := hX
  intro H locs ls hP hS hl
  have hd := hcd ix _ hd
  refine va_put (D := D) (ws := wl cy ad sc M) (tys := tq cy) hx rfl hts hin ty0 hty hnm hown hK hP (wl_D hdd hda M) hS k (wl_get hk he) hc j hj (hts _ hlink) (fun _ h => by rw [hr]; exact h) hfin (hty j hj) hn hfit hlen hd (fun H1 locs1 hP1 _ hS1 => ?_)
  rw [wl_mset ⟨hk, cG_n2r he⟩ he2] at hP1
  exact kk H1 locs1 ls hP1 hS1 hl
theorem v_putN (hX : vOK Y X ins nL own rm ret) {k ci N index : Nat} {C ref host : String} {T : u_T} {fs : List Value} (hk : k < 279) (he : cG Y.2.2.1 Y.2.2.2.1 M.2 (M.1 k) k = .inr (ci, fs)) (hc : vwCl[ci]? = some (C, T, N)) (hin : ∀ w ∈ u_ws C T N, w ∈ wT) (ty0 : Nat → FieldType) (hty : ∀ k, k < N → parseFieldDescriptor (T k).2.2.1 = some (ty0 k)) (hnm : ∀ a, a < N → ∀ b, b < N → a ≠ b → (T a).2.1 ≠ (T b).2.1) (j : Nat) (hj : j < N) (hlink : (own, index, ref, (T j).2.1, (T j).2.2.1, host) ∈ nF) (hr : ref = (T j).1) (hfin : (T j).2.2.2 = false) {x : Int32} (hn : narrow (ty0 j) (.int x) = .int x) (hfit : fits (ty0 j) (.int x) = true) (hlen : j < fs.length) (he2 : cG Y.2.2.1 Y.2.2.2.1 M.2 (upd (M.1 k) j x) k = .inr (ci, fs.set j (.int x))) (ix : Nat) (hd : gi ins ix = some (pc, .putfield index, 3)) (kk : V Y X (mset M k j x) (pc + 3) L st) : V Y X M pc L (.int x :: .ref (Y.2.2.2.1 k) :: st) := by
  obtain ⟨l, D, cy, ad, z, sc⟩ := Y
  obtain ⟨p, e, R, s, m, args, below, meth, c, cells, slots, Q, A⟩ := X
  obtain ⟨hx, hcd, hml, hts, hown, hK, ⟨hdd, hda⟩, hN, rfl, hret, hlk, hcl, hsl⟩ := hX
  intro H locs ls hP hS hl
  have hd := hcd ix _ hd
  refine va_putN (D := D) (ws := wl cy ad sc M) (tys := tq cy) hx rfl hts hin ty0 hty hnm hown hK hP (wl_D hdd hda M) hS k (wl_get hk he) hc j hj (va_Nw.use rfl (hN.2 _ hlink)) (fun _ h => by rw [hr]; exact h) hfin (hty j hj) hn hfit hlen hd (fun H1 locs1 hP1 _ hS1 => ?_)
  rw [wl_mset ⟨hk, cG_n2r he⟩ he2] at hP1
  exact kk H1 locs1 ls hP1 hS1 hl
theorem v_iald (hX : vOK Y X ins nL own rm ret) {k n : Nat} {f : Nat → Int32} (hk : k < 279) (he : cG Y.2.2.1 Y.2.2.2.1 M.2 (M.1 k) k = .inl (Y.2.2.1 1, n, .inl f)) {i : Int32} (hin : vp_in i n) (ix : Nat) (hd : gi ins ix = some (pc, .iaload, 1)) (kk : V Y X M (pc + 1) L (.int (f i.toNatClampNeg) :: st)) : V Y X M pc L (.int i :: .ref (Y.2.2.2.1 k) :: st) := by
  obtain ⟨l, D, cy, ad, z, sc⟩ := Y
  obtain ⟨p, e, R, s, m, args, below, meth, c, cells, slots, Q, A⟩ := X
  obtain ⟨hx, hcd, hml, hts, hown, hK, ⟨hdd, hda⟩, hN, rfl, hret, hlk, hcl, hsl⟩ := hX
  intro H locs ls hP hS hl
  have hd := hcd ix _ hd
  exact va_iald (D := D) (ws := wl cy ad sc M) (tys := tq cy) hx rfl hK hP k 1 (wl_get hk he) rfl hin hd (kk H locs ls hP hS hl)
theorem v_cald (hX : vOK Y X ins nL own rm ret) {k n : Nat} {f : Nat → Int32} (hk : k < 279) (he : cG Y.2.2.1 Y.2.2.2.1 M.2 (M.1 k) k = .inl (Y.2.2.1 0, n, .inl f)) {i : Int32} (hin : vp_in i n) (ix : Nat) (hd : gi ins ix = some (pc, .caload, 1)) (kk : V Y X M (pc + 1) L (.int (f i.toNatClampNeg) :: st)) : V Y X M pc L (.int i :: .ref (Y.2.2.2.1 k) :: st) := by
  obtain ⟨l, D, cy, ad, z, sc⟩ := Y
  obtain ⟨p, e, R, s, m, args, below, meth, c, cells, slots, Q, A⟩ := X
  obtain ⟨hx, hcd, hml, hts, hown, hK, ⟨hdd, hda⟩, hN, rfl, hret, hlk, hcl, hsl⟩ := hX
  intro H locs ls hP hS hl
  have hd := hcd ix _ hd
  exact va_cald (D := D) (ws := wl cy ad sc M) (tys := tq cy) hx rfl hK hP k 0 (wl_get hk he) rfl hin hd (kk H locs ls hP hS hl)
theorem v_iast (hX : vOK Y X ins nL own rm ret) {k n : Nat} {f : Nat → Int32} (hk : k < 279) (he : cG Y.2.2.1 Y.2.2.2.1 M.2 (M.1 k) k = .inl (Y.2.2.1 1, n, .inl f)) (hf : f = M.1 k) {i x : Int32} (hin : vp_in i n) (he2 : cG Y.2.2.1 Y.2.2.2.1 M.2 (upd (M.1 k) i.toNatClampNeg x) k = .inl (Y.2.2.1 1, n, .inl (upd (M.1 k) i.toNatClampNeg x))) (ix : Nat) (hd : gi ins ix = some (pc, .iastore, 1)) (kk : V Y X (mset M k i.toNatClampNeg x) (pc + 1) L st) : V Y X M pc L (.int x :: .int i :: .ref (Y.2.2.2.1 k) :: st) := by
  obtain ⟨l, D, cy, ad, z, sc⟩ := Y
  obtain ⟨p, e, R, s, m, args, below, meth, c, cells, slots, Q, A⟩ := X
  obtain ⟨hx, hcd, hml, hts, hown, hK, ⟨hdd, hda⟩, hN, rfl, hret, hlk, hcl, hsl⟩ := hX
  intro H locs ls hP hS hl
  have hd := hcd ix _ hd
  subst hf
  refine va_iast (D := D) (ws := wl cy ad sc M) (tys := tq cy) hx rfl hK hP (wl_D hdd hda M) hS k 1 (wl_get hk he) rfl hin hd (fun H1 locs1 hP1 _ hS1 => ?_)
  rw [wl_mset ⟨hk, cG_n2i he⟩ he2] at hP1
  exact kk H1 locs1 ls hP1 hS1 hl
theorem v_cast (hX : vOK Y X ins nL own rm ret) {k n : Nat} {f : Nat → Int32} (hk : k < 279) (he : cG Y.2.2.1 Y.2.2.2.1 M.2 (M.1 k) k = .inl (Y.2.2.1 0, n, .inl f)) (hf : f = M.1 k) {i x : Int32} (hin : vp_in i n) (he2 : cG Y.2.2.1 Y.2.2.2.1 M.2 (upd (M.1 k) i.toNatClampNeg (vp_nar .char x)) k = .inl (Y.2.2.1 0, n, .inl (upd (M.1 k) i.toNatClampNeg (vp_nar .char x)))) (ix : Nat) (hd : gi ins ix = some (pc, .castore, 1)) (kk : V Y X (mset M k i.toNatClampNeg (vp_nar .char x)) (pc + 1) L st) : V Y X M pc L (.int x :: .int i :: .ref (Y.2.2.2.1 k) :: st) := by
  obtain ⟨l, D, cy, ad, z, sc⟩ := Y
  obtain ⟨p, e, R, s, m, args, below, meth, c, cells, slots, Q, A⟩ := X
  obtain ⟨hx, hcd, hml, hts, hown, hK, ⟨hdd, hda⟩, hN, rfl, hret, hlk, hcl, hsl⟩ := hX
  intro H locs ls hP hS hl
  have hd := hcd ix _ hd
  subst hf
  refine va_cast (D := D) (ws := wl cy ad sc M) (tys := tq cy) hx rfl hK hP (wl_D hdd hda M) hS k 0 (wl_get hk he) rfl hin hd (fun H1 locs1 hP1 _ hS1 => ?_)
  rw [wl_mset ⟨hk, cG_n2i he⟩ he2] at hP1
  exact kk H1 locs1 ls hP1 hS1 hl
theorem v_aald (hX : vOK Y X ins nL own rm ret) {k n t0 : Nat} {Cn : String} {f : Nat → Option Nat} {v : Nat} (hk : k < 279) (he : cG Y.2.2.1 Y.2.2.2.1 M.2 (M.1 k) k = .inl (Y.2.2.1 t0, n, .inr (.inr (.inr (.inr f))))) (ht : (tq Y.2.2.1)[t0]? = some (Y.2.2.1 t0, .object Cn)) {i : Int32} (hin : vp_in i n) (hv : f i.toNatClampNeg = some v) (ix : Nat) (hd : gi ins ix = some (pc, .aaload, 1)) (kk : V Y X M (pc + 1) L (.ref v :: st)) : V Y X M pc L (.int i :: .ref (Y.2.2.2.1 k) :: st) := by
  obtain ⟨l, D, cy, ad, z, sc⟩ := Y
  obtain ⟨p, e, R, s, m, args, below, meth, c, cells, slots, Q, A⟩ := X
  obtain ⟨hx, hcd, hml, hts, hown, hK, ⟨hdd, hda⟩, hN, rfl, hret, hlk, hcl, hsl⟩ := hX
  intro H locs ls hP hS hl
  have hd := hcd ix _ hd
  refine va_aldq (D := D) (ws := wl cy ad sc M) (tys := tq cy) hx rfl hK hP k t0 (wl_get hk he) ht hin hd ?_
  rw [hv]
  exact kk H locs ls hP hS hl
theorem v_alen (hX : vOK Y X ins nL own rm ret) {k t0 : Nat} {a : vp_A} {ty : FieldType} {v : Int32} (hk : k < 279) (he : cG Y.2.2.1 Y.2.2.2.1 M.2 (M.1 k) k = .inl (Y.2.2.1 t0, a)) (ht : (tq Y.2.2.1)[t0]? = some (Y.2.2.1 t0, ty)) (hv : Int32.ofNat a.1 = v) (ix : Nat) (hd : gi ins ix = some (pc, .arraylength, 1)) (kk : V Y X M (pc + 1) L (.int v :: st)) : V Y X M pc L (.ref (Y.2.2.2.1 k) :: st) := by
  obtain ⟨l, D, cy, ad, z, sc⟩ := Y
  obtain ⟨p, e, R, s, m, args, below, meth, c, cells, slots, Q, A⟩ := X
  obtain ⟨hx, hcd, hml, hts, hown, hK, ⟨hdd, hda⟩, hN, rfl, hret, hlk, hcl, hsl⟩ := hX
  intro H locs ls hP hS hl
  have hd := hcd ix _ hd
  exact va_alen (D := D) (ws := wl cy ad sc M) (tys := tq cy) hx rfl hK hP k t0 (wl_get hk he) ht hv hd (kk H locs ls hP hS hl)
theorem v_iret (hX : vOK Y X ins nL own rm ret) {ty : FieldType} {x : Int32} {rv : Option Value} (hQ : vQ Y X rv M') (hr : ret = some ty) (hn : narrow ty (.int x) = .int x) (hv : rv = some (.int x)) (hM : M' = M) (ix : Nat) (hd : gi ins ix = some (pc, .ireturn, 1)) : V Y X M pc L [.int x] := by
  obtain ⟨l, D, cy, ad, z, sc⟩ := Y
  obtain ⟨p, e, R, s, m, args, below, meth, c, cells, slots, Q, A⟩ := X
  obtain ⟨hx, hcd, hml, hts, hown, hK, ⟨hdd, hda⟩, hN, rfl, hret, hlk, hcl, hsl⟩ := hX
  intro H locs ls hP hS hl
  have hd := hcd ix _ hd
  obtain ⟨rfl, rfl⟩ := hQ
  subst hv
  subst hM
  exact W.zret hx rfl (hret.trans hr) hn (fun t ht _ => ⟨rfl, by rw [ht]; exact hP, hS.F ht⟩) hS.2.2 hd hlk
theorem v_aret (hX : vOK Y X ins nL own rm ret) {ty : FieldType} {x : Value} {rv : Option Value} (hQ : vQ Y X rv M') (hr : ret = some ty) (hrt : (∃ n, ty = .object n) ∨ ∃ t, ty = .array t) (hx2 : x = .null ∨ ∃ a, x = .ref a) (hv : rv = some x) (hM : M' = M) (ix : Nat) (hd : gi ins ix = some (pc, .areturn, 1)) : V Y X M pc L [x] := by
  obtain ⟨l, D, cy, ad, z, sc⟩ := Y
  obtain ⟨p, e, R, s, m, args, below, meth, c, cells, slots, Q, A⟩ := X
  obtain ⟨hx, hcd, hml, hts, hown, hK, ⟨hdd, hda⟩, hN, rfl, hret, hlk, hcl, hsl⟩ := hX
  intro H locs ls hP hS hl
  have hd := hcd ix _ hd
  obtain ⟨rfl, rfl⟩ := hQ
  subst hv
  subst hM
  exact W.aret hx rfl (hret.trans hr) hrt hx2 (fun t ht _ => ⟨rfl, by rw [ht]; exact hP, hS.F ht⟩) hS.2.2 hd hlk
theorem v_vret (hX : vOK Y X ins nL own rm ret) {rv : Option Value} (hQ : vQ Y X rv M') (hr : ret = none) (hv : rv = none) (hM : M' = M) (ix : Nat) (hd : gi ins ix = some (pc, .return_, 1)) : V Y X M pc L [] := by
  obtain ⟨l, D, cy, ad, z, sc⟩ := Y
  obtain ⟨p, e, R, s, m, args, below, meth, c, cells, slots, Q, A⟩ := X
  obtain ⟨hx, hcd, hml, hts, hown, hK, ⟨hdd, hda⟩, hN, rfl, hret, hlk, hcl, hsl⟩ := hX
  intro H locs ls hP hS hl
  have hd := hcd ix _ hd
  obtain ⟨rfl, rfl⟩ := hQ
  subst hv
  subst hM
  exact W.vret hx rfl (hret.trans hr) (fun t ht _ => ⟨rfl, by rw [ht]; exact hP, hS.F ht⟩) hS.2.2 hd hlk
theorem V.sub {L' : List (Option Value)} (k : V Y X M pc L' st) (hlen : L'.length = L.length) (h : lsub L 0 L') : V Y X M pc L st := by
  obtain ⟨l, D, cy, ad, z, sc⟩ := Y
  obtain ⟨p, e, R, s, m, args, below, meth, c, cells, slots, Q, A⟩ := X
  intro H locs ls hP hS hl
  exact k H locs ls hP hS (lw_sub hlen h hl)
theorem V.subM {L' : List (Option Value)} {M2 : Mm} (k : V Y X M2 pc L' st) (hM : M = M2) (hlen : L'.length = L.length) (h : lsub L 0 L') : V Y X M pc L st := by
  subst hM
  exact V.sub k hlen h
theorem V.mem {M2 : Mm} (hM : M = M2) (k : V Y X M2 pc L st) : V Y X M pc L st := by
  subst hM
  exact k
theorem v_run {p : Program} {l : Launch} {e : Env} {R : Room} {s : State} {m : MethodId} {args : Array Value} {below : List Frame} {meth : Method} {c : Code} {H : Heap} {locs : List Loc} {cells slots : Nat} {Q : State → Prop} {pc : Nat} {ls : Array Slot} {rest st0 : List Value} {A0 A1 : Nat → Prop} {H0 : Heap} {D : va_G} {w1 : va_W} {rv : Option Value}
    (hr : va_Run p l e R s m args below meth c H locs cells slots 0 0 (F0 m pc ls st0) rest (fun st oc t => oc = .returned rv ∧ va_P D vwCl w1 t.heap ∧ va_F A1 st t) A1) (hS : va_S A0 H0 H locs) (hA : ∀ q, A1 q → A0 q)
    (kk : ∀ (H1 : Heap) (locs1 : List Loc), va_P D vwCl w1 H1 → va_S A0 H0 H1 locs1 → W p l e R s m args below meth c H1 locs1 cells slots Q (F0 m (pc + 3) ls (rv.toList ++ rest))) : W p l e R s m args below meth c H locs cells slots Q (F0 m pc ls st0) := by
  intro T hT X
  obtain ⟨v, st₀, t, T', L, h0, X', hL, e1, e2, ⟨hv, hp, hz, hk⟩, st⟩ := hr T hT X
  cases hv
  rw [h0] at hz hk
  obtain ⟨t2, a1, b1⟩ := kk T'.heap (locs ++ L) (by rw [e1]; exact hp)
    ⟨Nat.le_trans hS.1 (by rw [e1]; exact hz), fun q h1 h2 => by rw [e1, hk q (Nat.lt_of_lt_of_le h1 hS.1) (fun z => h2 (hA q z))]; exact hS.2.1 q h1 h2, fun q hq => by
      rcases List.mem_append.mp hq with h | h
      · exact hS.2.2 q h
      · exact hA _ (hL q h)⟩ T' rfl X'
  exact ⟨t2, st t2 a1, b1⟩
theorem gW {w : Cond} (h : w ∈ wT) : w ∈ wT ∧ ((w.onTables && w.keeps) = true ∨ ∃ ty, w = .arrayClass ty) := ⟨h, good_of_word (List.mem_filter.mp h).2⟩
theorem gV {own C : String} {index n : Nat} {y : MethodName} {b1 : ByteArray} {r : Option FieldType} (hcw : Cond.code y b1 n r ∈ wT) (hlink : Cond.methodLink own index y ∈ wT) (hinst : Cond.instanceMethod y ∈ wT) (hsel : Cond.selects C y y ∈ wT) (hini : Cond.initialized C ∈ wT) : GoodIn wT (wsV own index C y (Cond.code y b1 n r :: wT)) := by
  intro w hw
  simp only [wsV, List.cons_append, List.nil_append, List.mem_cons] at hw
  rcases hw with rfl | rfl | rfl | rfl | rfl | hw
  · exact gW hlink
  · exact gW hinst
  · exact gW hsel
  · exact gW hini
  · exact gW hcw
  · exact gW hw
theorem gS {own : String} {index n : Nat} {y : MethodName} {b1 : ByteArray} {r : Option FieldType} (hcw : Cond.code y b1 n r ∈ wT) (hlink : Cond.methodLink own index y ∈ wT) (hstt : Cond.static y ∈ wT) (hini : Cond.initialized y.cls ∈ wT) : GoodIn wT (va_wsS own index y (Cond.code y b1 n r :: wT)) := by
  intro w hw
  simp only [va_wsS, List.cons_append, List.nil_append, List.mem_cons] at hw
  rcases hw with rfl | rfl | rfl | rfl | hw
  · exact gW hlink
  · exact gW hstt
  · exact gW hini
  · exact gW hcw
  · exact gW hw
theorem wd_blind {Y : Yt} {M : Mm} {As : List Value} : FrameBlind (va_Pc As (wd Y M)) := by
  obtain ⟨l, D, cy, ad, z, sc⟩ := Y
  intro a U g mk h
  obtain ⟨h1, h2, h3, h4, h5⟩ := h
  exact ⟨h1, h2, va_K.moved (u := U) (U := U.calling g mk a) (Vm.Alike.refl U.vm) h3, h4, Nn.same (s := U) (U := U.calling g mk a) rfl h5⟩
theorem fA_sub {z : Nat} {A : Nat → Prop} {C : Prop} (h : A = fA z ∧ C) : ∀ q, fA z q → A q := by
  intro q hq
  rw [h.1]
  exact hq
theorem v_callV (hX : vOK Y X ins nL own rm ret) (nA : Nat) {y : MethodName}  {rmc : Room} {rv : Option Value} {bytes : ByteArray} {maxL index : Nat} {retc : Option FieldType} {st0 : List Value} {As : List Value} {C : String} {k ci : Nat} {T : u_T} {N : Nat} {fs : List Value} (hk : k < 279) (he : cG Y.2.2.1 Y.2.2.2.1 M.2 (M.1 k) k = .inr (ci, fs)) (hc : vwCl[ci]? = some (C, T, N)) (hF : Fn Y y (Cond.code y bytes maxL retc :: wT) rmc (.ref (Y.2.2.2.1 k) :: As) M rv M') (hcw : Cond.code y bytes maxL retc ∈ wT) (hlink : Cond.methodLink own index y ∈ wT) (hinst : Cond.instanceMethod y ∈ wT) (hsel : Cond.selects C y y ∈ wT) (hini : Cond.initialized C ∈ wT) (hdd2 : y.cls = C ∧ y.cls ≠ "java/lang/invoke/MethodHandle" ∧ y.cls ≠ "java/lang/invoke/VarHandle" ∧ (parseMethodDescriptor y.desc).map (fun d => d.parameters.length) = some nA) (hR : (rmc.cells = 0 ∧ rmc.slots = 0) ∧ rmc.frames + 1 ≤ rm.frames ∧ 8 + (maxL + 11) + rmc.locals ≤ rm.locals) (hL : L.length = nL) (hW : (st.map fun v => v.category).sum ≤ 8) (hnA : As.length = nA) (hst : st0 = As.reverse ++ .ref (Y.2.2.2.1 k) :: st) (ix : Nat) (hd : gi ins ix = some (pc, .invokevirtual index, 3)) (kk : V Y X M' (pc + 3) L (rv.toList ++ st)) : V Y X M pc L st0 := by
  obtain ⟨l, D, cy, ad, z, sc⟩ := Y
  obtain ⟨p, e, R, s, m, args, below, meth, c, cells, slots, Q, A⟩ := X
  obtain ⟨hx, hcd, hml, hts, hown, hK, ⟨hdd, hda⟩, hN, rfl, hret, hlk, hcl, hsl⟩ := hX
  intro H locs ls hP hS hl
  have hd := hcd ix _ hd
  obtain ⟨cb, hcb1, hcb2, hcb3⟩ := va_recv (q0 := k) hK hP hc (wl_get hk he)
  refine v_run (w1 := wl cy ad sc M') (A1 := fA z) (rest := st) (va_runV (As := As) (rest := st) ⟨hx, rfl, hml, hown, hts⟩ hF (cwV nA hts (gV hcw hlink hinst hsel hini) rfl hR.1.1 hR.1.2 hdd2 hR.2) ⟨wd_blind, ⟨cb, hcb1, hcb2, hcb3⟩, fun U hU hW => ⟨rfl, by rw [hU]; exact hP, va_K.moved hW.alike hK, hdd, Nn.warm hW hN⟩⟩ rfl hnA (hl.1.trans hL) hst (lv_room hW) hd ⟨hcl, hsl⟩) hS (fA_sub hda) (fun H1 locs1 hP1 hS1 => kk H1 locs1 ls hP1 hS1 hl)
theorem v_callVN (hX : vOK Y X ins nL own rm ret) (nA : Nat) {y : MethodName}  {rmc : Room} {rv : Option Value} {bytes : ByteArray} {maxL index : Nat} {retc : Option FieldType} {st0 : List Value} {As : List Value} {C host : String} {k ci : Nat} {T : u_T} {N : Nat} {fs : List Value} (hk : k < 279) (he : cG Y.2.2.1 Y.2.2.2.1 M.2 (M.1 k) k = .inr (ci, fs)) (hc : vwCl[ci]? = some (C, T, N)) (hF : Fn Y y (Cond.code y bytes maxL retc :: wT) rmc (.ref (Y.2.2.2.1 k) :: As) M rv M') (hcw : Cond.code y bytes maxL retc ∈ wT) (hlink : (own, index, y, host) ∈ nM) (hini : Cond.initialized y.cls ∈ wT) (hinst : Cond.instanceMethod y ∈ wT) (hsel : Cond.selects C y y ∈ wT) (hdd2 : y.cls ≠ "java/lang/invoke/MethodHandle" ∧ y.cls ≠ "java/lang/invoke/VarHandle" ∧ (parseMethodDescriptor y.desc).map (fun d => d.parameters.length) = some nA) (hR : (rmc.cells = 0 ∧ rmc.slots = 0) ∧ rmc.frames + 1 ≤ rm.frames ∧ 8 + (maxL + 11) + rmc.locals ≤ rm.locals) (hL : L.length = nL) (hW : (st.map fun v => v.category).sum ≤ 8) (hnA : As.length = nA) (hst : st0 = As.reverse ++ .ref (Y.2.2.2.1 k) :: st) (ix : Nat) (hd : gi ins ix = some (pc, .invokevirtual index, 3)) (kk : V Y X M' (pc + 3) L (rv.toList ++ st)) : V Y X M pc L st0 := by
  obtain ⟨l, D, cy, ad, z, sc⟩ := Y
  obtain ⟨p, e, R, s, m, args, below, meth, c, cells, slots, Q, A⟩ := X
  obtain ⟨hx, hcd, hml, hts, hown, hK, ⟨hdd, hda⟩, hN, rfl, hret, hlk, hcl, hsl⟩ := hX
  intro H locs ls hP hS hl
  have hd := hcd ix _ hd
  obtain ⟨cb, hcb1, hcb2, hcb3⟩ := va_recv (q0 := k) hK hP hc (wl_get hk he)
  refine v_run (w1 := wl cy ad sc M') (A1 := fA z) (rest := st) (va_runVN (As := As) (rest := st) ⟨hx, rfl, hml, hown, hts⟩ hF ⟨va_cnB nA hts (gI hcw) rfl hR.1.1 hR.1.2 (hN.1 _ hlink) (hts _ hini) hdd2 hR.2, hts _ hinst, hts _ hsel⟩ ⟨wd_blind, ⟨cb, hcb1, hcb2, hcb3⟩, fun U hU hW => ⟨rfl, by rw [hU]; exact hP, va_K.moved hW.alike hK, hdd, Nn.warm hW hN⟩⟩ rfl hnA (hl.1.trans hL) hst (lv_room hW) hd ⟨hcl, hsl⟩) hS (fA_sub hda) (fun H1 locs1 hP1 hS1 => kk H1 locs1 ls hP1 hS1 hl)
theorem v_callS (hX : vOK Y X ins nL own rm ret) (nA : Nat) {y : MethodName}  {rmc : Room} {rv : Option Value} {bytes : ByteArray} {maxL index : Nat} {retc : Option FieldType} {st0 : List Value} {As : List Value} (hF : Fn Y y (Cond.code y bytes maxL retc :: wT) rmc As M rv M') (hcw : Cond.code y bytes maxL retc ∈ wT) (hlink : Cond.methodLink own index y ∈ wT) (hstt : Cond.static y ∈ wT) (hini : Cond.initialized y.cls ∈ wT) (hdd2 : y.cls ≠ "java/lang/invoke/MethodHandle" ∧ y.cls ≠ "java/lang/invoke/VarHandle" ∧ (parseMethodDescriptor y.desc).map (fun d => d.parameters.length) = some nA) (hR : (rmc.cells = 0 ∧ rmc.slots = 0) ∧ rmc.frames + 1 ≤ rm.frames ∧ 8 + (maxL + 11) + rmc.locals ≤ rm.locals) (hL : L.length = nL) (hW : (st.map fun v => v.category).sum ≤ 8) (hnA : As.length = nA) (hst : st0 = As.reverse ++ st) (ix : Nat) (hd : gi ins ix = some (pc, .invokestatic index, 3)) (kk : V Y X M' (pc + 3) L (rv.toList ++ st)) : V Y X M pc L st0 := by
  obtain ⟨l, D, cy, ad, z, sc⟩ := Y
  obtain ⟨p, e, R, s, m, args, below, meth, c, cells, slots, Q, A⟩ := X
  obtain ⟨hx, hcd, hml, hts, hown, hK, ⟨hdd, hda⟩, hN, rfl, hret, hlk, hcl, hsl⟩ := hX
  intro H locs ls hP hS hl
  have hd := hcd ix _ hd
  refine v_run (w1 := wl cy ad sc M') (A1 := fA z) (rest := st) (va_runS (As := As) (rest := st) ⟨hx, rfl, hml, hown, hts⟩ hF (va_cwS nA hts (gS hcw hlink hstt hini) rfl hR.1.1 hR.1.2 hdd2 hR.2) ⟨wd_blind, fun U hU hW => ⟨rfl, by rw [hU]; exact hP, va_K.moved hW.alike hK, hdd, Nn.warm hW hN⟩⟩ rfl hnA (hl.1.trans hL) hst (lv_room hW) hd ⟨hcl, hsl⟩) hS (fA_sub hda) (fun H1 locs1 hP1 hS1 => kk H1 locs1 ls hP1 hS1 hl)
theorem v_callSN (hX : vOK Y X ins nL own rm ret) (nA : Nat) {y : MethodName}  {rmc : Room} {rv : Option Value} {bytes : ByteArray} {maxL index : Nat} {retc : Option FieldType} {st0 : List Value} {As : List Value} {host : String} (hF : Fn Y y (Cond.code y bytes maxL retc :: wT) rmc As M rv M') (hcw : Cond.code y bytes maxL retc ∈ wT) (hlink : (own, index, y, host) ∈ nM) (hini : Cond.initialized y.cls ∈ wT) (hstt : Cond.static y ∈ wT) (hdd2 : y.cls ≠ "java/lang/invoke/MethodHandle" ∧ y.cls ≠ "java/lang/invoke/VarHandle" ∧ (parseMethodDescriptor y.desc).map (fun d => d.parameters.length) = some nA) (hR : (rmc.cells = 0 ∧ rmc.slots = 0) ∧ rmc.frames + 1 ≤ rm.frames ∧ 8 + (maxL + 11) + rmc.locals ≤ rm.locals) (hL : L.length = nL) (hW : (st.map fun v => v.category).sum ≤ 8) (hnA : As.length = nA) (hst : st0 = As.reverse ++ st) (ix : Nat) (hd : gi ins ix = some (pc, .invokestatic index, 3)) (kk : V Y X M' (pc + 3) L (rv.toList ++ st)) : V Y X M pc L st0 := by
  obtain ⟨l, D, cy, ad, z, sc⟩ := Y
  obtain ⟨p, e, R, s, m, args, below, meth, c, cells, slots, Q, A⟩ := X
  obtain ⟨hx, hcd, hml, hts, hown, hK, ⟨hdd, hda⟩, hN, rfl, hret, hlk, hcl, hsl⟩ := hX
  intro H locs ls hP hS hl
  have hd := hcd ix _ hd
  refine v_run (w1 := wl cy ad sc M') (A1 := fA z) (rest := st) (va_runSN (As := As) (rest := st) ⟨hx, rfl, hml, hown, hts⟩ hF ⟨va_cnB nA hts (gI hcw) rfl hR.1.1 hR.1.2 (hN.1 _ hlink) (hts _ hini) hdd2 hR.2, hts _ hstt, trivial⟩ ⟨wd_blind, fun U hU hW => ⟨rfl, by rw [hU]; exact hP, va_K.moved hW.alike hK, hdd, Nn.warm hW hN⟩⟩ rfl hnA (hl.1.trans hL) hst (lv_room hW) hd ⟨hcl, hsl⟩) hS (fA_sub hda) (fun H1 locs1 hP1 hS1 => kk H1 locs1 ls hP1 hS1 hl)
theorem v_mmin (hX : vOK Y X ins nL own rm ret) {index : Nat} {x y : Int32} (hlink : Cond.methodLink own index Lib.Math.min.name ∈ wT) (hstat : Cond.static Lib.Math.min.name ∈ wT) (hini : Cond.initialized "java/lang/Math" ∈ wT) (hcode : Cond.code Lib.Math.min.name Lib.Math.min.code 2 (some .int) ∈ wT) (hfr : 1 ≤ rm.frames) (hlo : (st.map fun v => v.category).sum + 13 ≤ rm.locals) (hL : L.length = nL) (ix : Nat) (hd : gi ins ix = some (pc, .invokestatic index, 3)) (kk : V Y X M (pc + 3) L (.int (if y < x then y else x) :: st)) : V Y X M pc L (.int y :: .int x :: st) := by
  obtain ⟨l, D, cy, ad, z, sc⟩ := Y
  obtain ⟨p, e, R, s, m, args, below, meth, c, cells, slots, Q, A⟩ := X
  obtain ⟨hx, hcd, hml, hts, hown, hK, ⟨hdd, hda⟩, hN, rfl, hret, hlk, hcl, hsl⟩ := hX
  intro H locs ls hP hS hl
  have hd := hcd ix _ hd
  exact va_mmin hx rfl (by rw [hl.1, hL]; exact hml) hown (hts _ hlink) (hts _ hstat) (hts _ hini) (hts _ hcode) hfr hlo hcl hsl hd (kk H locs ls hP hS hl)
theorem v_mmax (hX : vOK Y X ins nL own rm ret) {index : Nat} {x y : Int32} (hlink : Cond.methodLink own index Lib.Math.max.name ∈ wT) (hstat : Cond.static Lib.Math.max.name ∈ wT) (hini : Cond.initialized "java/lang/Math" ∈ wT) (hcode : Cond.code Lib.Math.max.name Lib.Math.max.code 2 (some .int) ∈ wT) (hfr : 1 ≤ rm.frames) (hlo : (st.map fun v => v.category).sum + 13 ≤ rm.locals) (hL : L.length = nL) (ix : Nat) (hd : gi ins ix = some (pc, .invokestatic index, 3)) (kk : V Y X M (pc + 3) L (.int (if x < y then y else x) :: st)) : V Y X M pc L (.int y :: .int x :: st) := by
  obtain ⟨l, D, cy, ad, z, sc⟩ := Y
  obtain ⟨p, e, R, s, m, args, below, meth, c, cells, slots, Q, A⟩ := X
  obtain ⟨hx, hcd, hml, hts, hown, hK, ⟨hdd, hda⟩, hN, rfl, hret, hlk, hcl, hsl⟩ := hX
  intro H locs ls hP hS hl
  have hd := hcd ix _ hd
  exact va_mmax hx rfl (by rw [hl.1, hL]; exact hml) hown (hts _ hlink) (hts _ hstat) (hts _ hini) (hts _ hcode) hfr hlo hcl hsl hd (kk H locs ls hP hS hl)
end VV
end
section
section VF
variable {Y : Yt} {X : XT} {M : Mm} {pc : Nat} {L : List (Option Value)} {st : List Value} {ins : List (Nat × Instr × Nat)} {nL : Nat} {own : String} {rm : Room} {ret : Option FieldType}
theorem g_0_0 (hX : vOK Y X ins nL own rm ret) {index : Nat} (ix : Nat) {b : Nat} (hB : isB b) (hlink : Cond.fieldLink own index "PointAnswers$Bundle" "rows" "[LPointAnswers$Point;" ∈ wT) (hd : gi ins ix = some (pc, .getfield index, 3)) (kk : V Y X M (pc + 3) L (.ref (Y.2.2.2.1 (b + 1)) :: st)) : V Y X M pc L (.ref (Y.2.2.2.1 b) :: st) :=
  v_get hX (C := RX0) (T := TX0) (N := 6) (ci := 0) (fs := [.ref (Y.2.2.2.1 (b + 1)), .int ((M.1 b) 1), .int ((M.1 b) 2), .int ((M.1 b) 3), .int ((M.1 b) 4), .int ((M.1 b) 5)]) (by have := isB_lt hB; omega) (cG_B hB) rfl inX0 0 (by decide) hlink rfl rfl ix hd kk
theorem gN_0_0 (hX : vOK Y X ins nL own rm ret) {index : Nat} {host : String} (ix : Nat) {b : Nat} (hB : isB b) (hlink : (own, index, "PointAnswers$Bundle", "rows", "[LPointAnswers$Point;", host) ∈ nF) (hd : gi ins ix = some (pc, .getfield index, 3)) (kk : V Y X M (pc + 3) L (.ref (Y.2.2.2.1 (b + 1)) :: st)) : V Y X M pc L (.ref (Y.2.2.2.1 b) :: st) :=
  v_getN hX (C := RX0) (T := TX0) (N := 6) (ci := 0) (fs := [.ref (Y.2.2.2.1 (b + 1)), .int ((M.1 b) 1), .int ((M.1 b) 2), .int ((M.1 b) 3), .int ((M.1 b) 4), .int ((M.1 b) 5)]) (by have := isB_lt hB; omega) (cG_B hB) rfl inX0 0 (by decide) hlink rfl rfl ix hd kk
theorem g_0_1 (hX : vOK Y X ins nL own rm ret) {index : Nat} (ix : Nat) {b : Nat} (hB : isB b) (hlink : Cond.fieldLink own index "PointAnswers$Bundle" "size" "I" ∈ wT) (hd : gi ins ix = some (pc, .getfield index, 3)) (kk : V Y X M (pc + 3) L (.int (M.1 b 1) :: st)) : V Y X M pc L (.ref (Y.2.2.2.1 b) :: st) :=
  v_get hX (C := RX0) (T := TX0) (N := 6) (ci := 0) (fs := [.ref (Y.2.2.2.1 (b + 1)), .int ((M.1 b) 1), .int ((M.1 b) 2), .int ((M.1 b) 3), .int ((M.1 b) 4), .int ((M.1 b) 5)]) (by have := isB_lt hB; omega) (cG_B hB) rfl inX0 1 (by decide) hlink rfl rfl ix hd kk
theorem p_0_1 (hX : vOK Y X ins nL own rm ret) {index : Nat} {x : Int32} (ix : Nat) {b : Nat} (hB : isB b) (hlink : Cond.fieldLink own index "PointAnswers$Bundle" "size" "I" ∈ wT) (hd : gi ins ix = some (pc, .putfield index, 3)) (kk : V Y X (mset M b 1 x) (pc + 3) L st) : V Y X M pc L (.int x :: .ref (Y.2.2.2.1 b) :: st) :=
  v_put hX (C := RX0) (T := TX0) (N := 6) (ci := 0) (fs := [.ref (Y.2.2.2.1 (b + 1)), .int ((M.1 b) 1), .int ((M.1 b) 2), .int ((M.1 b) 3), .int ((M.1 b) 4), .int ((M.1 b) 5)]) (by have := isB_lt hB; omega) (cG_B hB) rfl inX0 tyX0 tyX0_ok nmX0 1 (by decide) hlink rfl rfl rfl rfl (Nat.le_of_ble_eq_true rfl) (by rw [cG_B hB]; rfl) ix hd kk
theorem gN_0_1 (hX : vOK Y X ins nL own rm ret) {index : Nat} {host : String} (ix : Nat) {b : Nat} (hB : isB b) (hlink : (own, index, "PointAnswers$Bundle", "size", "I", host) ∈ nF) (hd : gi ins ix = some (pc, .getfield index, 3)) (kk : V Y X M (pc + 3) L (.int (M.1 b 1) :: st)) : V Y X M pc L (.ref (Y.2.2.2.1 b) :: st) :=
  v_getN hX (C := RX0) (T := TX0) (N := 6) (ci := 0) (fs := [.ref (Y.2.2.2.1 (b + 1)), .int ((M.1 b) 1), .int ((M.1 b) 2), .int ((M.1 b) 3), .int ((M.1 b) 4), .int ((M.1 b) 5)]) (by have := isB_lt hB; omega) (cG_B hB) rfl inX0 1 (by decide) hlink rfl rfl ix hd kk
theorem pN_0_1 (hX : vOK Y X ins nL own rm ret) {index : Nat} {x : Int32} {host : String} (ix : Nat) {b : Nat} (hB : isB b) (hlink : (own, index, "PointAnswers$Bundle", "size", "I", host) ∈ nF) (hd : gi ins ix = some (pc, .putfield index, 3)) (kk : V Y X (mset M b 1 x) (pc + 3) L st) : V Y X M pc L (.int x :: .ref (Y.2.2.2.1 b) :: st) :=
  v_putN hX (C := RX0) (T := TX0) (N := 6) (ci := 0) (fs := [.ref (Y.2.2.2.1 (b + 1)), .int ((M.1 b) 1), .int ((M.1 b) 2), .int ((M.1 b) 3), .int ((M.1 b) 4), .int ((M.1 b) 5)]) (by have := isB_lt hB; omega) (cG_B hB) rfl inX0 tyX0 tyX0_ok nmX0 1 (by decide) hlink rfl rfl rfl rfl (Nat.le_of_ble_eq_true rfl) (by rw [cG_B hB]; rfl) ix hd kk
theorem g_0_2 (hX : vOK Y X ins nL own rm ret) {index : Nat} (ix : Nat) {b : Nat} (hB : isB b) (hlink : Cond.fieldLink own index "PointAnswers$Bundle" "day" "I" ∈ wT) (hd : gi ins ix = some (pc, .getfield index, 3)) (kk : V Y X M (pc + 3) L (.int (M.1 b 2) :: st)) : V Y X M pc L (.ref (Y.2.2.2.1 b) :: st) :=
  v_get hX (C := RX0) (T := TX0) (N := 6) (ci := 0) (fs := [.ref (Y.2.2.2.1 (b + 1)), .int ((M.1 b) 1), .int ((M.1 b) 2), .int ((M.1 b) 3), .int ((M.1 b) 4), .int ((M.1 b) 5)]) (by have := isB_lt hB; omega) (cG_B hB) rfl inX0 2 (by decide) hlink rfl rfl ix hd kk
theorem p_0_2 (hX : vOK Y X ins nL own rm ret) {index : Nat} {x : Int32} (ix : Nat) {b : Nat} (hB : isB b) (hlink : Cond.fieldLink own index "PointAnswers$Bundle" "day" "I" ∈ wT) (hd : gi ins ix = some (pc, .putfield index, 3)) (kk : V Y X (mset M b 2 x) (pc + 3) L st) : V Y X M pc L (.int x :: .ref (Y.2.2.2.1 b) :: st) :=
  v_put hX (C := RX0) (T := TX0) (N := 6) (ci := 0) (fs := [.ref (Y.2.2.2.1 (b + 1)), .int ((M.1 b) 1), .int ((M.1 b) 2), .int ((M.1 b) 3), .int ((M.1 b) 4), .int ((M.1 b) 5)]) (by have := isB_lt hB; omega) (cG_B hB) rfl inX0 tyX0 tyX0_ok nmX0 2 (by decide) hlink rfl rfl rfl rfl (Nat.le_of_ble_eq_true rfl) (by rw [cG_B hB]; rfl) ix hd kk
theorem gN_0_2 (hX : vOK Y X ins nL own rm ret) {index : Nat} {host : String} (ix : Nat) {b : Nat} (hB : isB b) (hlink : (own, index, "PointAnswers$Bundle", "day", "I", host) ∈ nF) (hd : gi ins ix = some (pc, .getfield index, 3)) (kk : V Y X M (pc + 3) L (.int (M.1 b 2) :: st)) : V Y X M pc L (.ref (Y.2.2.2.1 b) :: st) :=
  v_getN hX (C := RX0) (T := TX0) (N := 6) (ci := 0) (fs := [.ref (Y.2.2.2.1 (b + 1)), .int ((M.1 b) 1), .int ((M.1 b) 2), .int ((M.1 b) 3), .int ((M.1 b) 4), .int ((M.1 b) 5)]) (by have := isB_lt hB; omega) (cG_B hB) rfl inX0 2 (by decide) hlink rfl rfl ix hd kk
theorem pN_0_2 (hX : vOK Y X ins nL own rm ret) {index : Nat} {x : Int32} {host : String} (ix : Nat) {b : Nat} (hB : isB b) (hlink : (own, index, "PointAnswers$Bundle", "day", "I", host) ∈ nF) (hd : gi ins ix = some (pc, .putfield index, 3)) (kk : V Y X (mset M b 2 x) (pc + 3) L st) : V Y X M pc L (.int x :: .ref (Y.2.2.2.1 b) :: st) :=
  v_putN hX (C := RX0) (T := TX0) (N := 6) (ci := 0) (fs := [.ref (Y.2.2.2.1 (b + 1)), .int ((M.1 b) 1), .int ((M.1 b) 2), .int ((M.1 b) 3), .int ((M.1 b) 4), .int ((M.1 b) 5)]) (by have := isB_lt hB; omega) (cG_B hB) rfl inX0 tyX0 tyX0_ok nmX0 2 (by decide) hlink rfl rfl rfl rfl (Nat.le_of_ble_eq_true rfl) (by rw [cG_B hB]; rfl) ix hd kk
theorem g_0_3 (hX : vOK Y X ins nL own rm ret) {index : Nat} (ix : Nat) {b : Nat} (hB : isB b) (hlink : Cond.fieldLink own index "PointAnswers$Bundle" "overruled" "I" ∈ wT) (hd : gi ins ix = some (pc, .getfield index, 3)) (kk : V Y X M (pc + 3) L (.int (M.1 b 3) :: st)) : V Y X M pc L (.ref (Y.2.2.2.1 b) :: st) :=
  v_get hX (C := RX0) (T := TX0) (N := 6) (ci := 0) (fs := [.ref (Y.2.2.2.1 (b + 1)), .int ((M.1 b) 1), .int ((M.1 b) 2), .int ((M.1 b) 3), .int ((M.1 b) 4), .int ((M.1 b) 5)]) (by have := isB_lt hB; omega) (cG_B hB) rfl inX0 3 (by decide) hlink rfl rfl ix hd kk
theorem p_0_3 (hX : vOK Y X ins nL own rm ret) {index : Nat} {x : Int32} (ix : Nat) {b : Nat} (hB : isB b) (hlink : Cond.fieldLink own index "PointAnswers$Bundle" "overruled" "I" ∈ wT) (hd : gi ins ix = some (pc, .putfield index, 3)) (kk : V Y X (mset M b 3 x) (pc + 3) L st) : V Y X M pc L (.int x :: .ref (Y.2.2.2.1 b) :: st) :=
  v_put hX (C := RX0) (T := TX0) (N := 6) (ci := 0) (fs := [.ref (Y.2.2.2.1 (b + 1)), .int ((M.1 b) 1), .int ((M.1 b) 2), .int ((M.1 b) 3), .int ((M.1 b) 4), .int ((M.1 b) 5)]) (by have := isB_lt hB; omega) (cG_B hB) rfl inX0 tyX0 tyX0_ok nmX0 3 (by decide) hlink rfl rfl rfl rfl (Nat.le_of_ble_eq_true rfl) (by rw [cG_B hB]; rfl) ix hd kk
theorem gN_0_3 (hX : vOK Y X ins nL own rm ret) {index : Nat} {host : String} (ix : Nat) {b : Nat} (hB : isB b) (hlink : (own, index, "PointAnswers$Bundle", "overruled", "I", host) ∈ nF) (hd : gi ins ix = some (pc, .getfield index, 3)) (kk : V Y X M (pc + 3) L (.int (M.1 b 3) :: st)) : V Y X M pc L (.ref (Y.2.2.2.1 b) :: st) :=
  v_getN hX (C := RX0) (T := TX0) (N := 6) (ci := 0) (fs := [.ref (Y.2.2.2.1 (b + 1)), .int ((M.1 b) 1), .int ((M.1 b) 2), .int ((M.1 b) 3), .int ((M.1 b) 4), .int ((M.1 b) 5)]) (by have := isB_lt hB; omega) (cG_B hB) rfl inX0 3 (by decide) hlink rfl rfl ix hd kk
theorem pN_0_3 (hX : vOK Y X ins nL own rm ret) {index : Nat} {x : Int32} {host : String} (ix : Nat) {b : Nat} (hB : isB b) (hlink : (own, index, "PointAnswers$Bundle", "overruled", "I", host) ∈ nF) (hd : gi ins ix = some (pc, .putfield index, 3)) (kk : V Y X (mset M b 3 x) (pc + 3) L st) : V Y X M pc L (.int x :: .ref (Y.2.2.2.1 b) :: st) :=
  v_putN hX (C := RX0) (T := TX0) (N := 6) (ci := 0) (fs := [.ref (Y.2.2.2.1 (b + 1)), .int ((M.1 b) 1), .int ((M.1 b) 2), .int ((M.1 b) 3), .int ((M.1 b) 4), .int ((M.1 b) 5)]) (by have := isB_lt hB; omega) (cG_B hB) rfl inX0 tyX0 tyX0_ok nmX0 3 (by decide) hlink rfl rfl rfl rfl (Nat.le_of_ble_eq_true rfl) (by rw [cG_B hB]; rfl) ix hd kk
theorem g_0_4 (hX : vOK Y X ins nL own rm ret) {index : Nat} (ix : Nat) {b : Nat} (hB : isB b) (hlink : Cond.fieldLink own index "PointAnswers$Bundle" "lapse" "I" ∈ wT) (hd : gi ins ix = some (pc, .getfield index, 3)) (kk : V Y X M (pc + 3) L (.int (M.1 b 4) :: st)) : V Y X M pc L (.ref (Y.2.2.2.1 b) :: st) :=
  v_get hX (C := RX0) (T := TX0) (N := 6) (ci := 0) (fs := [.ref (Y.2.2.2.1 (b + 1)), .int ((M.1 b) 1), .int ((M.1 b) 2), .int ((M.1 b) 3), .int ((M.1 b) 4), .int ((M.1 b) 5)]) (by have := isB_lt hB; omega) (cG_B hB) rfl inX0 4 (by decide) hlink rfl rfl ix hd kk
theorem p_0_4 (hX : vOK Y X ins nL own rm ret) {index : Nat} {x : Int32} (ix : Nat) {b : Nat} (hB : isB b) (hlink : Cond.fieldLink own index "PointAnswers$Bundle" "lapse" "I" ∈ wT) (hd : gi ins ix = some (pc, .putfield index, 3)) (kk : V Y X (mset M b 4 x) (pc + 3) L st) : V Y X M pc L (.int x :: .ref (Y.2.2.2.1 b) :: st) :=
  v_put hX (C := RX0) (T := TX0) (N := 6) (ci := 0) (fs := [.ref (Y.2.2.2.1 (b + 1)), .int ((M.1 b) 1), .int ((M.1 b) 2), .int ((M.1 b) 3), .int ((M.1 b) 4), .int ((M.1 b) 5)]) (by have := isB_lt hB; omega) (cG_B hB) rfl inX0 tyX0 tyX0_ok nmX0 4 (by decide) hlink rfl rfl rfl rfl (Nat.le_of_ble_eq_true rfl) (by rw [cG_B hB]; rfl) ix hd kk
theorem gN_0_4 (hX : vOK Y X ins nL own rm ret) {index : Nat} {host : String} (ix : Nat) {b : Nat} (hB : isB b) (hlink : (own, index, "PointAnswers$Bundle", "lapse", "I", host) ∈ nF) (hd : gi ins ix = some (pc, .getfield index, 3)) (kk : V Y X M (pc + 3) L (.int (M.1 b 4) :: st)) : V Y X M pc L (.ref (Y.2.2.2.1 b) :: st) :=
  v_getN hX (C := RX0) (T := TX0) (N := 6) (ci := 0) (fs := [.ref (Y.2.2.2.1 (b + 1)), .int ((M.1 b) 1), .int ((M.1 b) 2), .int ((M.1 b) 3), .int ((M.1 b) 4), .int ((M.1 b) 5)]) (by have := isB_lt hB; omega) (cG_B hB) rfl inX0 4 (by decide) hlink rfl rfl ix hd kk
theorem pN_0_4 (hX : vOK Y X ins nL own rm ret) {index : Nat} {x : Int32} {host : String} (ix : Nat) {b : Nat} (hB : isB b) (hlink : (own, index, "PointAnswers$Bundle", "lapse", "I", host) ∈ nF) (hd : gi ins ix = some (pc, .putfield index, 3)) (kk : V Y X (mset M b 4 x) (pc + 3) L st) : V Y X M pc L (.int x :: .ref (Y.2.2.2.1 b) :: st) :=
  v_putN hX (C := RX0) (T := TX0) (N := 6) (ci := 0) (fs := [.ref (Y.2.2.2.1 (b + 1)), .int ((M.1 b) 1), .int ((M.1 b) 2), .int ((M.1 b) 3), .int ((M.1 b) 4), .int ((M.1 b) 5)]) (by have := isB_lt hB; omega) (cG_B hB) rfl inX0 tyX0 tyX0_ok nmX0 4 (by decide) hlink rfl rfl rfl rfl (Nat.le_of_ble_eq_true rfl) (by rw [cG_B hB]; rfl) ix hd kk
theorem g_0_5 (hX : vOK Y X ins nL own rm ret) {index : Nat} (ix : Nat) {b : Nat} (hB : isB b) (hlink : Cond.fieldLink own index "PointAnswers$Bundle" "allowedPages" "I" ∈ wT) (hd : gi ins ix = some (pc, .getfield index, 3)) (kk : V Y X M (pc + 3) L (.int (M.1 b 5) :: st)) : V Y X M pc L (.ref (Y.2.2.2.1 b) :: st) :=
  v_get hX (C := RX0) (T := TX0) (N := 6) (ci := 0) (fs := [.ref (Y.2.2.2.1 (b + 1)), .int ((M.1 b) 1), .int ((M.1 b) 2), .int ((M.1 b) 3), .int ((M.1 b) 4), .int ((M.1 b) 5)]) (by have := isB_lt hB; omega) (cG_B hB) rfl inX0 5 (by decide) hlink rfl rfl ix hd kk
theorem p_0_5 (hX : vOK Y X ins nL own rm ret) {index : Nat} {x : Int32} (ix : Nat) {b : Nat} (hB : isB b) (hlink : Cond.fieldLink own index "PointAnswers$Bundle" "allowedPages" "I" ∈ wT) (hd : gi ins ix = some (pc, .putfield index, 3)) (kk : V Y X (mset M b 5 x) (pc + 3) L st) : V Y X M pc L (.int x :: .ref (Y.2.2.2.1 b) :: st) :=
  v_put hX (C := RX0) (T := TX0) (N := 6) (ci := 0) (fs := [.ref (Y.2.2.2.1 (b + 1)), .int ((M.1 b) 1), .int ((M.1 b) 2), .int ((M.1 b) 3), .int ((M.1 b) 4), .int ((M.1 b) 5)]) (by have := isB_lt hB; omega) (cG_B hB) rfl inX0 tyX0 tyX0_ok nmX0 5 (by decide) hlink rfl rfl rfl rfl (Nat.le_of_ble_eq_true rfl) (by rw [cG_B hB]; rfl) ix hd kk
theorem gN_0_5 (hX : vOK Y X ins nL own rm ret) {index : Nat} {host : String} (ix : Nat) {b : Nat} (hB : isB b) (hlink : (own, index, "PointAnswers$Bundle", "allowedPages", "I", host) ∈ nF) (hd : gi ins ix = some (pc, .getfield index, 3)) (kk : V Y X M (pc + 3) L (.int (M.1 b 5) :: st)) : V Y X M pc L (.ref (Y.2.2.2.1 b) :: st) :=
  v_getN hX (C := RX0) (T := TX0) (N := 6) (ci := 0) (fs := [.ref (Y.2.2.2.1 (b + 1)), .int ((M.1 b) 1), .int ((M.1 b) 2), .int ((M.1 b) 3), .int ((M.1 b) 4), .int ((M.1 b) 5)]) (by have := isB_lt hB; omega) (cG_B hB) rfl inX0 5 (by decide) hlink rfl rfl ix hd kk
theorem pN_0_5 (hX : vOK Y X ins nL own rm ret) {index : Nat} {x : Int32} {host : String} (ix : Nat) {b : Nat} (hB : isB b) (hlink : (own, index, "PointAnswers$Bundle", "allowedPages", "I", host) ∈ nF) (hd : gi ins ix = some (pc, .putfield index, 3)) (kk : V Y X (mset M b 5 x) (pc + 3) L st) : V Y X M pc L (.int x :: .ref (Y.2.2.2.1 b) :: st) :=
  v_putN hX (C := RX0) (T := TX0) (N := 6) (ci := 0) (fs := [.ref (Y.2.2.2.1 (b + 1)), .int ((M.1 b) 1), .int ((M.1 b) 2), .int ((M.1 b) 3), .int ((M.1 b) 4), .int ((M.1 b) 5)]) (by have := isB_lt hB; omega) (cG_B hB) rfl inX0 tyX0 tyX0_ok nmX0 5 (by decide) hlink rfl rfl rfl rfl (Nat.le_of_ble_eq_true rfl) (by rw [cG_B hB]; rfl) ix hd kk
theorem g_1_0 (hX : vOK Y X ins nL own rm ret) {index : Nat} (ix : Nat) (hlink : Cond.fieldLink own index "PointAnswers$Costs" "fall" "[I" ∈ wT) (hd : gi ins ix = some (pc, .getfield index, 3)) (kk : V Y X M (pc + 3) L (.ref (Y.2.2.2.1 28) :: st)) : V Y X M pc L (.ref (Y.2.2.2.1 27) :: st) :=
  v_get hX (C := RX1) (T := TX1) (N := 2) (ci := 1) (fs := [.ref (Y.2.2.2.1 28), .ref (Y.2.2.2.1 29)]) (by decide) rfl rfl inX1 0 (by decide) hlink rfl rfl ix hd kk
theorem gN_1_0 (hX : vOK Y X ins nL own rm ret) {index : Nat} {host : String} (ix : Nat) (hlink : (own, index, "PointAnswers$Costs", "fall", "[I", host) ∈ nF) (hd : gi ins ix = some (pc, .getfield index, 3)) (kk : V Y X M (pc + 3) L (.ref (Y.2.2.2.1 28) :: st)) : V Y X M pc L (.ref (Y.2.2.2.1 27) :: st) :=
  v_getN hX (C := RX1) (T := TX1) (N := 2) (ci := 1) (fs := [.ref (Y.2.2.2.1 28), .ref (Y.2.2.2.1 29)]) (by decide) rfl rfl inX1 0 (by decide) hlink rfl rfl ix hd kk
theorem g_1_1 (hX : vOK Y X ins nL own rm ret) {index : Nat} (ix : Nat) (hlink : Cond.fieldLink own index "PointAnswers$Costs" "stand" "[I" ∈ wT) (hd : gi ins ix = some (pc, .getfield index, 3)) (kk : V Y X M (pc + 3) L (.ref (Y.2.2.2.1 29) :: st)) : V Y X M pc L (.ref (Y.2.2.2.1 27) :: st) :=
  v_get hX (C := RX1) (T := TX1) (N := 2) (ci := 1) (fs := [.ref (Y.2.2.2.1 28), .ref (Y.2.2.2.1 29)]) (by decide) rfl rfl inX1 1 (by decide) hlink rfl rfl ix hd kk
theorem gN_1_1 (hX : vOK Y X ins nL own rm ret) {index : Nat} {host : String} (ix : Nat) (hlink : (own, index, "PointAnswers$Costs", "stand", "[I", host) ∈ nF) (hd : gi ins ix = some (pc, .getfield index, 3)) (kk : V Y X M (pc + 3) L (.ref (Y.2.2.2.1 29) :: st)) : V Y X M pc L (.ref (Y.2.2.2.1 27) :: st) :=
  v_getN hX (C := RX1) (T := TX1) (N := 2) (ci := 1) (fs := [.ref (Y.2.2.2.1 28), .ref (Y.2.2.2.1 29)]) (by decide) rfl rfl inX1 1 (by decide) hlink rfl rfl ix hd kk
theorem g_2_0 (hX : vOK Y X ins nL own rm ret) {index : Nat} (ix : Nat) (hlink : Cond.fieldLink own index "PointAnswers$History" "rows" "[LPointAnswers$Bundle;" ∈ wT) (hd : gi ins ix = some (pc, .getfield index, 3)) (kk : V Y X M (pc + 3) L (.ref (Y.2.2.2.1 34) :: st)) : V Y X M pc L (.ref (Y.2.2.2.1 33) :: st) :=
  v_get hX (C := RX2) (T := TX2) (N := 2) (ci := 2) (fs := [.ref (Y.2.2.2.1 34), .int ((M.1 33) 1)]) (by decide) rfl rfl inX2 0 (by decide) hlink rfl rfl ix hd kk
theorem gN_2_0 (hX : vOK Y X ins nL own rm ret) {index : Nat} {host : String} (ix : Nat) (hlink : (own, index, "PointAnswers$History", "rows", "[LPointAnswers$Bundle;", host) ∈ nF) (hd : gi ins ix = some (pc, .getfield index, 3)) (kk : V Y X M (pc + 3) L (.ref (Y.2.2.2.1 34) :: st)) : V Y X M pc L (.ref (Y.2.2.2.1 33) :: st) :=
  v_getN hX (C := RX2) (T := TX2) (N := 2) (ci := 2) (fs := [.ref (Y.2.2.2.1 34), .int ((M.1 33) 1)]) (by decide) rfl rfl inX2 0 (by decide) hlink rfl rfl ix hd kk
theorem g_2_1 (hX : vOK Y X ins nL own rm ret) {index : Nat} (ix : Nat) (hlink : Cond.fieldLink own index "PointAnswers$History" "kept" "I" ∈ wT) (hd : gi ins ix = some (pc, .getfield index, 3)) (kk : V Y X M (pc + 3) L (.int (M.1 33 1) :: st)) : V Y X M pc L (.ref (Y.2.2.2.1 33) :: st) :=
  v_get hX (C := RX2) (T := TX2) (N := 2) (ci := 2) (fs := [.ref (Y.2.2.2.1 34), .int ((M.1 33) 1)]) (by decide) rfl rfl inX2 1 (by decide) hlink rfl rfl ix hd kk
theorem p_2_1 (hX : vOK Y X ins nL own rm ret) {index : Nat} {x : Int32} (ix : Nat) (hlink : Cond.fieldLink own index "PointAnswers$History" "kept" "I" ∈ wT) (hd : gi ins ix = some (pc, .putfield index, 3)) (kk : V Y X (mset M 33 1 x) (pc + 3) L st) : V Y X M pc L (.int x :: .ref (Y.2.2.2.1 33) :: st) :=
  v_put hX (C := RX2) (T := TX2) (N := 2) (ci := 2) (fs := [.ref (Y.2.2.2.1 34), .int ((M.1 33) 1)]) (by decide) rfl rfl inX2 tyX2 tyX2_ok nmX2 1 (by decide) hlink rfl rfl rfl rfl (Nat.le_of_ble_eq_true rfl) rfl ix hd kk
theorem gN_2_1 (hX : vOK Y X ins nL own rm ret) {index : Nat} {host : String} (ix : Nat) (hlink : (own, index, "PointAnswers$History", "kept", "I", host) ∈ nF) (hd : gi ins ix = some (pc, .getfield index, 3)) (kk : V Y X M (pc + 3) L (.int (M.1 33 1) :: st)) : V Y X M pc L (.ref (Y.2.2.2.1 33) :: st) :=
  v_getN hX (C := RX2) (T := TX2) (N := 2) (ci := 2) (fs := [.ref (Y.2.2.2.1 34), .int ((M.1 33) 1)]) (by decide) rfl rfl inX2 1 (by decide) hlink rfl rfl ix hd kk
theorem pN_2_1 (hX : vOK Y X ins nL own rm ret) {index : Nat} {x : Int32} {host : String} (ix : Nat) (hlink : (own, index, "PointAnswers$History", "kept", "I", host) ∈ nF) (hd : gi ins ix = some (pc, .putfield index, 3)) (kk : V Y X (mset M 33 1 x) (pc + 3) L st) : V Y X M pc L (.int x :: .ref (Y.2.2.2.1 33) :: st) :=
  v_putN hX (C := RX2) (T := TX2) (N := 2) (ci := 2) (fs := [.ref (Y.2.2.2.1 34), .int ((M.1 33) 1)]) (by decide) rfl rfl inX2 tyX2 tyX2_ok nmX2 1 (by decide) hlink rfl rfl rfl rfl (Nat.le_of_ble_eq_true rfl) rfl ix hd kk
theorem g_3_0 (hX : vOK Y X ins nL own rm ret) {index : Nat} (ix : Nat) (hlink : Cond.fieldLink own index "PointAnswers$Pad" "signs" "[C" ∈ wT) (hd : gi ins ix = some (pc, .getfield index, 3)) (kk : V Y X M (pc + 3) L (.ref (Y.2.2.2.1 31) :: st)) : V Y X M pc L (.ref (Y.2.2.2.1 30) :: st) :=
  v_get hX (C := RX3) (T := TX3) (N := 2) (ci := 3) (fs := [.ref (Y.2.2.2.1 31), .int ((M.1 30) 1)]) (by decide) rfl rfl inX3 0 (by decide) hlink rfl rfl ix hd kk
theorem gN_3_0 (hX : vOK Y X ins nL own rm ret) {index : Nat} {host : String} (ix : Nat) (hlink : (own, index, "PointAnswers$Pad", "signs", "[C", host) ∈ nF) (hd : gi ins ix = some (pc, .getfield index, 3)) (kk : V Y X M (pc + 3) L (.ref (Y.2.2.2.1 31) :: st)) : V Y X M pc L (.ref (Y.2.2.2.1 30) :: st) :=
  v_getN hX (C := RX3) (T := TX3) (N := 2) (ci := 3) (fs := [.ref (Y.2.2.2.1 31), .int ((M.1 30) 1)]) (by decide) rfl rfl inX3 0 (by decide) hlink rfl rfl ix hd kk
theorem g_3_1 (hX : vOK Y X ins nL own rm ret) {index : Nat} (ix : Nat) (hlink : Cond.fieldLink own index "PointAnswers$Pad" "length" "I" ∈ wT) (hd : gi ins ix = some (pc, .getfield index, 3)) (kk : V Y X M (pc + 3) L (.int (M.1 30 1) :: st)) : V Y X M pc L (.ref (Y.2.2.2.1 30) :: st) :=
  v_get hX (C := RX3) (T := TX3) (N := 2) (ci := 3) (fs := [.ref (Y.2.2.2.1 31), .int ((M.1 30) 1)]) (by decide) rfl rfl inX3 1 (by decide) hlink rfl rfl ix hd kk
theorem p_3_1 (hX : vOK Y X ins nL own rm ret) {index : Nat} {x : Int32} (ix : Nat) (hlink : Cond.fieldLink own index "PointAnswers$Pad" "length" "I" ∈ wT) (hd : gi ins ix = some (pc, .putfield index, 3)) (kk : V Y X (mset M 30 1 x) (pc + 3) L st) : V Y X M pc L (.int x :: .ref (Y.2.2.2.1 30) :: st) :=
  v_put hX (C := RX3) (T := TX3) (N := 2) (ci := 3) (fs := [.ref (Y.2.2.2.1 31), .int ((M.1 30) 1)]) (by decide) rfl rfl inX3 tyX3 tyX3_ok nmX3 1 (by decide) hlink rfl rfl rfl rfl (Nat.le_of_ble_eq_true rfl) rfl ix hd kk
theorem gN_3_1 (hX : vOK Y X ins nL own rm ret) {index : Nat} {host : String} (ix : Nat) (hlink : (own, index, "PointAnswers$Pad", "length", "I", host) ∈ nF) (hd : gi ins ix = some (pc, .getfield index, 3)) (kk : V Y X M (pc + 3) L (.int (M.1 30 1) :: st)) : V Y X M pc L (.ref (Y.2.2.2.1 30) :: st) :=
  v_getN hX (C := RX3) (T := TX3) (N := 2) (ci := 3) (fs := [.ref (Y.2.2.2.1 31), .int ((M.1 30) 1)]) (by decide) rfl rfl inX3 1 (by decide) hlink rfl rfl ix hd kk
theorem pN_3_1 (hX : vOK Y X ins nL own rm ret) {index : Nat} {x : Int32} {host : String} (ix : Nat) (hlink : (own, index, "PointAnswers$Pad", "length", "I", host) ∈ nF) (hd : gi ins ix = some (pc, .putfield index, 3)) (kk : V Y X (mset M 30 1 x) (pc + 3) L st) : V Y X M pc L (.int x :: .ref (Y.2.2.2.1 30) :: st) :=
  v_putN hX (C := RX3) (T := TX3) (N := 2) (ci := 3) (fs := [.ref (Y.2.2.2.1 31), .int ((M.1 30) 1)]) (by decide) rfl rfl inX3 tyX3 tyX3_ok nmX3 1 (by decide) hlink rfl rfl rfl rfl (Nat.le_of_ble_eq_true rfl) rfl ix hd kk
theorem g_4_0 (hX : vOK Y X ins nL own rm ret) {index : Nat} (ix : Nat) {b i : Nat} (hB : isB b) (hi : i < 24) (hlink : Cond.fieldLink own index "PointAnswers$Point" "side" "I" ∈ wT) (hd : gi ins ix = some (pc, .getfield index, 3)) (kk : V Y X M (pc + 3) L (.int (M.1 (b + 2 + i) 0) :: st)) : V Y X M pc L (.ref (Y.2.2.2.1 (b + 2 + i)) :: st) :=
  v_get hX (C := RX4) (T := TX4) (N := 7) (ci := 4) (fs := [.int ((M.1 (b + 2 + i)) 0), .int ((M.1 (b + 2 + i)) 1), .int ((M.1 (b + 2 + i)) 2), .int ((M.1 (b + 2 + i)) 3), .int ((M.1 (b + 2 + i)) 4), .int ((M.1 (b + 2 + i)) 5), .int ((M.1 (b + 2 + i)) 6)]) (by have := isB_lt hB; omega) (cG_P hB hi) rfl inX4 0 (by decide) hlink rfl rfl ix hd kk
theorem p_4_0 (hX : vOK Y X ins nL own rm ret) {index : Nat} {x : Int32} (ix : Nat) {b i : Nat} (hB : isB b) (hi : i < 24) (hlink : Cond.fieldLink own index "PointAnswers$Point" "side" "I" ∈ wT) (hd : gi ins ix = some (pc, .putfield index, 3)) (kk : V Y X (mset M (b + 2 + i) 0 x) (pc + 3) L st) : V Y X M pc L (.int x :: .ref (Y.2.2.2.1 (b + 2 + i)) :: st) :=
  v_put hX (C := RX4) (T := TX4) (N := 7) (ci := 4) (fs := [.int ((M.1 (b + 2 + i)) 0), .int ((M.1 (b + 2 + i)) 1), .int ((M.1 (b + 2 + i)) 2), .int ((M.1 (b + 2 + i)) 3), .int ((M.1 (b + 2 + i)) 4), .int ((M.1 (b + 2 + i)) 5), .int ((M.1 (b + 2 + i)) 6)]) (by have := isB_lt hB; omega) (cG_P hB hi) rfl inX4 tyX4 tyX4_ok nmX4 0 (by decide) hlink rfl rfl rfl rfl (Nat.le_of_ble_eq_true rfl) (by rw [cG_P hB hi]; rfl) ix hd kk
theorem gN_4_0 (hX : vOK Y X ins nL own rm ret) {index : Nat} {host : String} (ix : Nat) {b i : Nat} (hB : isB b) (hi : i < 24) (hlink : (own, index, "PointAnswers$Point", "side", "I", host) ∈ nF) (hd : gi ins ix = some (pc, .getfield index, 3)) (kk : V Y X M (pc + 3) L (.int (M.1 (b + 2 + i) 0) :: st)) : V Y X M pc L (.ref (Y.2.2.2.1 (b + 2 + i)) :: st) :=
  v_getN hX (C := RX4) (T := TX4) (N := 7) (ci := 4) (fs := [.int ((M.1 (b + 2 + i)) 0), .int ((M.1 (b + 2 + i)) 1), .int ((M.1 (b + 2 + i)) 2), .int ((M.1 (b + 2 + i)) 3), .int ((M.1 (b + 2 + i)) 4), .int ((M.1 (b + 2 + i)) 5), .int ((M.1 (b + 2 + i)) 6)]) (by have := isB_lt hB; omega) (cG_P hB hi) rfl inX4 0 (by decide) hlink rfl rfl ix hd kk
theorem pN_4_0 (hX : vOK Y X ins nL own rm ret) {index : Nat} {x : Int32} {host : String} (ix : Nat) {b i : Nat} (hB : isB b) (hi : i < 24) (hlink : (own, index, "PointAnswers$Point", "side", "I", host) ∈ nF) (hd : gi ins ix = some (pc, .putfield index, 3)) (kk : V Y X (mset M (b + 2 + i) 0 x) (pc + 3) L st) : V Y X M pc L (.int x :: .ref (Y.2.2.2.1 (b + 2 + i)) :: st) :=
  v_putN hX (C := RX4) (T := TX4) (N := 7) (ci := 4) (fs := [.int ((M.1 (b + 2 + i)) 0), .int ((M.1 (b + 2 + i)) 1), .int ((M.1 (b + 2 + i)) 2), .int ((M.1 (b + 2 + i)) 3), .int ((M.1 (b + 2 + i)) 4), .int ((M.1 (b + 2 + i)) 5), .int ((M.1 (b + 2 + i)) 6)]) (by have := isB_lt hB; omega) (cG_P hB hi) rfl inX4 tyX4 tyX4_ok nmX4 0 (by decide) hlink rfl rfl rfl rfl (Nat.le_of_ble_eq_true rfl) (by rw [cG_P hB hi]; rfl) ix hd kk
theorem g_4_1 (hX : vOK Y X ins nL own rm ret) {index : Nat} (ix : Nat) {b i : Nat} (hB : isB b) (hi : i < 24) (hlink : Cond.fieldLink own index "PointAnswers$Point" "pages" "I" ∈ wT) (hd : gi ins ix = some (pc, .getfield index, 3)) (kk : V Y X M (pc + 3) L (.int (M.1 (b + 2 + i) 1) :: st)) : V Y X M pc L (.ref (Y.2.2.2.1 (b + 2 + i)) :: st) :=
  v_get hX (C := RX4) (T := TX4) (N := 7) (ci := 4) (fs := [.int ((M.1 (b + 2 + i)) 0), .int ((M.1 (b + 2 + i)) 1), .int ((M.1 (b + 2 + i)) 2), .int ((M.1 (b + 2 + i)) 3), .int ((M.1 (b + 2 + i)) 4), .int ((M.1 (b + 2 + i)) 5), .int ((M.1 (b + 2 + i)) 6)]) (by have := isB_lt hB; omega) (cG_P hB hi) rfl inX4 1 (by decide) hlink rfl rfl ix hd kk
theorem p_4_1 (hX : vOK Y X ins nL own rm ret) {index : Nat} {x : Int32} (ix : Nat) {b i : Nat} (hB : isB b) (hi : i < 24) (hlink : Cond.fieldLink own index "PointAnswers$Point" "pages" "I" ∈ wT) (hd : gi ins ix = some (pc, .putfield index, 3)) (kk : V Y X (mset M (b + 2 + i) 1 x) (pc + 3) L st) : V Y X M pc L (.int x :: .ref (Y.2.2.2.1 (b + 2 + i)) :: st) :=
  v_put hX (C := RX4) (T := TX4) (N := 7) (ci := 4) (fs := [.int ((M.1 (b + 2 + i)) 0), .int ((M.1 (b + 2 + i)) 1), .int ((M.1 (b + 2 + i)) 2), .int ((M.1 (b + 2 + i)) 3), .int ((M.1 (b + 2 + i)) 4), .int ((M.1 (b + 2 + i)) 5), .int ((M.1 (b + 2 + i)) 6)]) (by have := isB_lt hB; omega) (cG_P hB hi) rfl inX4 tyX4 tyX4_ok nmX4 1 (by decide) hlink rfl rfl rfl rfl (Nat.le_of_ble_eq_true rfl) (by rw [cG_P hB hi]; rfl) ix hd kk
theorem gN_4_1 (hX : vOK Y X ins nL own rm ret) {index : Nat} {host : String} (ix : Nat) {b i : Nat} (hB : isB b) (hi : i < 24) (hlink : (own, index, "PointAnswers$Point", "pages", "I", host) ∈ nF) (hd : gi ins ix = some (pc, .getfield index, 3)) (kk : V Y X M (pc + 3) L (.int (M.1 (b + 2 + i) 1) :: st)) : V Y X M pc L (.ref (Y.2.2.2.1 (b + 2 + i)) :: st) :=
  v_getN hX (C := RX4) (T := TX4) (N := 7) (ci := 4) (fs := [.int ((M.1 (b + 2 + i)) 0), .int ((M.1 (b + 2 + i)) 1), .int ((M.1 (b + 2 + i)) 2), .int ((M.1 (b + 2 + i)) 3), .int ((M.1 (b + 2 + i)) 4), .int ((M.1 (b + 2 + i)) 5), .int ((M.1 (b + 2 + i)) 6)]) (by have := isB_lt hB; omega) (cG_P hB hi) rfl inX4 1 (by decide) hlink rfl rfl ix hd kk
theorem pN_4_1 (hX : vOK Y X ins nL own rm ret) {index : Nat} {x : Int32} {host : String} (ix : Nat) {b i : Nat} (hB : isB b) (hi : i < 24) (hlink : (own, index, "PointAnswers$Point", "pages", "I", host) ∈ nF) (hd : gi ins ix = some (pc, .putfield index, 3)) (kk : V Y X (mset M (b + 2 + i) 1 x) (pc + 3) L st) : V Y X M pc L (.int x :: .ref (Y.2.2.2.1 (b + 2 + i)) :: st) :=
  v_putN hX (C := RX4) (T := TX4) (N := 7) (ci := 4) (fs := [.int ((M.1 (b + 2 + i)) 0), .int ((M.1 (b + 2 + i)) 1), .int ((M.1 (b + 2 + i)) 2), .int ((M.1 (b + 2 + i)) 3), .int ((M.1 (b + 2 + i)) 4), .int ((M.1 (b + 2 + i)) 5), .int ((M.1 (b + 2 + i)) 6)]) (by have := isB_lt hB; omega) (cG_P hB hi) rfl inX4 tyX4 tyX4_ok nmX4 1 (by decide) hlink rfl rfl rfl rfl (Nat.le_of_ble_eq_true rfl) (by rw [cG_P hB hi]; rfl) ix hd kk
theorem g_4_2 (hX : vOK Y X ins nL own rm ret) {index : Nat} (ix : Nat) {b i : Nat} (hB : isB b) (hi : i < 24) (hlink : Cond.fieldLink own index "PointAnswers$Point" "cases" "I" ∈ wT) (hd : gi ins ix = some (pc, .getfield index, 3)) (kk : V Y X M (pc + 3) L (.int (M.1 (b + 2 + i) 2) :: st)) : V Y X M pc L (.ref (Y.2.2.2.1 (b + 2 + i)) :: st) :=
  v_get hX (C := RX4) (T := TX4) (N := 7) (ci := 4) (fs := [.int ((M.1 (b + 2 + i)) 0), .int ((M.1 (b + 2 + i)) 1), .int ((M.1 (b + 2 + i)) 2), .int ((M.1 (b + 2 + i)) 3), .int ((M.1 (b + 2 + i)) 4), .int ((M.1 (b + 2 + i)) 5), .int ((M.1 (b + 2 + i)) 6)]) (by have := isB_lt hB; omega) (cG_P hB hi) rfl inX4 2 (by decide) hlink rfl rfl ix hd kk
theorem p_4_2 (hX : vOK Y X ins nL own rm ret) {index : Nat} {x : Int32} (ix : Nat) {b i : Nat} (hB : isB b) (hi : i < 24) (hlink : Cond.fieldLink own index "PointAnswers$Point" "cases" "I" ∈ wT) (hd : gi ins ix = some (pc, .putfield index, 3)) (kk : V Y X (mset M (b + 2 + i) 2 x) (pc + 3) L st) : V Y X M pc L (.int x :: .ref (Y.2.2.2.1 (b + 2 + i)) :: st) :=
  v_put hX (C := RX4) (T := TX4) (N := 7) (ci := 4) (fs := [.int ((M.1 (b + 2 + i)) 0), .int ((M.1 (b + 2 + i)) 1), .int ((M.1 (b + 2 + i)) 2), .int ((M.1 (b + 2 + i)) 3), .int ((M.1 (b + 2 + i)) 4), .int ((M.1 (b + 2 + i)) 5), .int ((M.1 (b + 2 + i)) 6)]) (by have := isB_lt hB; omega) (cG_P hB hi) rfl inX4 tyX4 tyX4_ok nmX4 2 (by decide) hlink rfl rfl rfl rfl (Nat.le_of_ble_eq_true rfl) (by rw [cG_P hB hi]; rfl) ix hd kk
theorem gN_4_2 (hX : vOK Y X ins nL own rm ret) {index : Nat} {host : String} (ix : Nat) {b i : Nat} (hB : isB b) (hi : i < 24) (hlink : (own, index, "PointAnswers$Point", "cases", "I", host) ∈ nF) (hd : gi ins ix = some (pc, .getfield index, 3)) (kk : V Y X M (pc + 3) L (.int (M.1 (b + 2 + i) 2) :: st)) : V Y X M pc L (.ref (Y.2.2.2.1 (b + 2 + i)) :: st) :=
  v_getN hX (C := RX4) (T := TX4) (N := 7) (ci := 4) (fs := [.int ((M.1 (b + 2 + i)) 0), .int ((M.1 (b + 2 + i)) 1), .int ((M.1 (b + 2 + i)) 2), .int ((M.1 (b + 2 + i)) 3), .int ((M.1 (b + 2 + i)) 4), .int ((M.1 (b + 2 + i)) 5), .int ((M.1 (b + 2 + i)) 6)]) (by have := isB_lt hB; omega) (cG_P hB hi) rfl inX4 2 (by decide) hlink rfl rfl ix hd kk
theorem pN_4_2 (hX : vOK Y X ins nL own rm ret) {index : Nat} {x : Int32} {host : String} (ix : Nat) {b i : Nat} (hB : isB b) (hi : i < 24) (hlink : (own, index, "PointAnswers$Point", "cases", "I", host) ∈ nF) (hd : gi ins ix = some (pc, .putfield index, 3)) (kk : V Y X (mset M (b + 2 + i) 2 x) (pc + 3) L st) : V Y X M pc L (.int x :: .ref (Y.2.2.2.1 (b + 2 + i)) :: st) :=
  v_putN hX (C := RX4) (T := TX4) (N := 7) (ci := 4) (fs := [.int ((M.1 (b + 2 + i)) 0), .int ((M.1 (b + 2 + i)) 1), .int ((M.1 (b + 2 + i)) 2), .int ((M.1 (b + 2 + i)) 3), .int ((M.1 (b + 2 + i)) 4), .int ((M.1 (b + 2 + i)) 5), .int ((M.1 (b + 2 + i)) 6)]) (by have := isB_lt hB; omega) (cG_P hB hi) rfl inX4 tyX4 tyX4_ok nmX4 2 (by decide) hlink rfl rfl rfl rfl (Nat.le_of_ble_eq_true rfl) (by rw [cG_P hB hi]; rfl) ix hd kk
theorem g_4_3 (hX : vOK Y X ins nL own rm ret) {index : Nat} (ix : Nat) {b i : Nat} (hB : isB b) (hi : i < 24) (hlink : Cond.fieldLink own index "PointAnswers$Point" "target" "I" ∈ wT) (hd : gi ins ix = some (pc, .getfield index, 3)) (kk : V Y X M (pc + 3) L (.int (M.1 (b + 2 + i) 3) :: st)) : V Y X M pc L (.ref (Y.2.2.2.1 (b + 2 + i)) :: st) :=
  v_get hX (C := RX4) (T := TX4) (N := 7) (ci := 4) (fs := [.int ((M.1 (b + 2 + i)) 0), .int ((M.1 (b + 2 + i)) 1), .int ((M.1 (b + 2 + i)) 2), .int ((M.1 (b + 2 + i)) 3), .int ((M.1 (b + 2 + i)) 4), .int ((M.1 (b + 2 + i)) 5), .int ((M.1 (b + 2 + i)) 6)]) (by have := isB_lt hB; omega) (cG_P hB hi) rfl inX4 3 (by decide) hlink rfl rfl ix hd kk
theorem p_4_3 (hX : vOK Y X ins nL own rm ret) {index : Nat} {x : Int32} (ix : Nat) {b i : Nat} (hB : isB b) (hi : i < 24) (hlink : Cond.fieldLink own index "PointAnswers$Point" "target" "I" ∈ wT) (hd : gi ins ix = some (pc, .putfield index, 3)) (kk : V Y X (mset M (b + 2 + i) 3 x) (pc + 3) L st) : V Y X M pc L (.int x :: .ref (Y.2.2.2.1 (b + 2 + i)) :: st) :=
  v_put hX (C := RX4) (T := TX4) (N := 7) (ci := 4) (fs := [.int ((M.1 (b + 2 + i)) 0), .int ((M.1 (b + 2 + i)) 1), .int ((M.1 (b + 2 + i)) 2), .int ((M.1 (b + 2 + i)) 3), .int ((M.1 (b + 2 + i)) 4), .int ((M.1 (b + 2 + i)) 5), .int ((M.1 (b + 2 + i)) 6)]) (by have := isB_lt hB; omega) (cG_P hB hi) rfl inX4 tyX4 tyX4_ok nmX4 3 (by decide) hlink rfl rfl rfl rfl (Nat.le_of_ble_eq_true rfl) (by rw [cG_P hB hi]; rfl) ix hd kk
theorem gN_4_3 (hX : vOK Y X ins nL own rm ret) {index : Nat} {host : String} (ix : Nat) {b i : Nat} (hB : isB b) (hi : i < 24) (hlink : (own, index, "PointAnswers$Point", "target", "I", host) ∈ nF) (hd : gi ins ix = some (pc, .getfield index, 3)) (kk : V Y X M (pc + 3) L (.int (M.1 (b + 2 + i) 3) :: st)) : V Y X M pc L (.ref (Y.2.2.2.1 (b + 2 + i)) :: st) :=
  v_getN hX (C := RX4) (T := TX4) (N := 7) (ci := 4) (fs := [.int ((M.1 (b + 2 + i)) 0), .int ((M.1 (b + 2 + i)) 1), .int ((M.1 (b + 2 + i)) 2), .int ((M.1 (b + 2 + i)) 3), .int ((M.1 (b + 2 + i)) 4), .int ((M.1 (b + 2 + i)) 5), .int ((M.1 (b + 2 + i)) 6)]) (by have := isB_lt hB; omega) (cG_P hB hi) rfl inX4 3 (by decide) hlink rfl rfl ix hd kk
theorem pN_4_3 (hX : vOK Y X ins nL own rm ret) {index : Nat} {x : Int32} {host : String} (ix : Nat) {b i : Nat} (hB : isB b) (hi : i < 24) (hlink : (own, index, "PointAnswers$Point", "target", "I", host) ∈ nF) (hd : gi ins ix = some (pc, .putfield index, 3)) (kk : V Y X (mset M (b + 2 + i) 3 x) (pc + 3) L st) : V Y X M pc L (.int x :: .ref (Y.2.2.2.1 (b + 2 + i)) :: st) :=
  v_putN hX (C := RX4) (T := TX4) (N := 7) (ci := 4) (fs := [.int ((M.1 (b + 2 + i)) 0), .int ((M.1 (b + 2 + i)) 1), .int ((M.1 (b + 2 + i)) 2), .int ((M.1 (b + 2 + i)) 3), .int ((M.1 (b + 2 + i)) 4), .int ((M.1 (b + 2 + i)) 5), .int ((M.1 (b + 2 + i)) 6)]) (by have := isB_lt hB; omega) (cG_P hB hi) rfl inX4 tyX4 tyX4_ok nmX4 3 (by decide) hlink rfl rfl rfl rfl (Nat.le_of_ble_eq_true rfl) (by rw [cG_P hB hi]; rfl) ix hd kk
theorem g_4_4 (hX : vOK Y X ins nL own rm ret) {index : Nat} (ix : Nat) {b i : Nat} (hB : isB b) (hi : i < 24) (hlink : Cond.fieldLink own index "PointAnswers$Point" "filed" "I" ∈ wT) (hd : gi ins ix = some (pc, .getfield index, 3)) (kk : V Y X M (pc + 3) L (.int (M.1 (b + 2 + i) 4) :: st)) : V Y X M pc L (.ref (Y.2.2.2.1 (b + 2 + i)) :: st) :=
  v_get hX (C := RX4) (T := TX4) (N := 7) (ci := 4) (fs := [.int ((M.1 (b + 2 + i)) 0), .int ((M.1 (b + 2 + i)) 1), .int ((M.1 (b + 2 + i)) 2), .int ((M.1 (b + 2 + i)) 3), .int ((M.1 (b + 2 + i)) 4), .int ((M.1 (b + 2 + i)) 5), .int ((M.1 (b + 2 + i)) 6)]) (by have := isB_lt hB; omega) (cG_P hB hi) rfl inX4 4 (by decide) hlink rfl rfl ix hd kk
theorem p_4_4 (hX : vOK Y X ins nL own rm ret) {index : Nat} {x : Int32} (ix : Nat) {b i : Nat} (hB : isB b) (hi : i < 24) (hlink : Cond.fieldLink own index "PointAnswers$Point" "filed" "I" ∈ wT) (hd : gi ins ix = some (pc, .putfield index, 3)) (kk : V Y X (mset M (b + 2 + i) 4 x) (pc + 3) L st) : V Y X M pc L (.int x :: .ref (Y.2.2.2.1 (b + 2 + i)) :: st) :=
  v_put hX (C := RX4) (T := TX4) (N := 7) (ci := 4) (fs := [.int ((M.1 (b + 2 + i)) 0), .int ((M.1 (b + 2 + i)) 1), .int ((M.1 (b + 2 + i)) 2), .int ((M.1 (b + 2 + i)) 3), .int ((M.1 (b + 2 + i)) 4), .int ((M.1 (b + 2 + i)) 5), .int ((M.1 (b + 2 + i)) 6)]) (by have := isB_lt hB; omega) (cG_P hB hi) rfl inX4 tyX4 tyX4_ok nmX4 4 (by decide) hlink rfl rfl rfl rfl (Nat.le_of_ble_eq_true rfl) (by rw [cG_P hB hi]; rfl) ix hd kk
theorem gN_4_4 (hX : vOK Y X ins nL own rm ret) {index : Nat} {host : String} (ix : Nat) {b i : Nat} (hB : isB b) (hi : i < 24) (hlink : (own, index, "PointAnswers$Point", "filed", "I", host) ∈ nF) (hd : gi ins ix = some (pc, .getfield index, 3)) (kk : V Y X M (pc + 3) L (.int (M.1 (b + 2 + i) 4) :: st)) : V Y X M pc L (.ref (Y.2.2.2.1 (b + 2 + i)) :: st) :=
  v_getN hX (C := RX4) (T := TX4) (N := 7) (ci := 4) (fs := [.int ((M.1 (b + 2 + i)) 0), .int ((M.1 (b + 2 + i)) 1), .int ((M.1 (b + 2 + i)) 2), .int ((M.1 (b + 2 + i)) 3), .int ((M.1 (b + 2 + i)) 4), .int ((M.1 (b + 2 + i)) 5), .int ((M.1 (b + 2 + i)) 6)]) (by have := isB_lt hB; omega) (cG_P hB hi) rfl inX4 4 (by decide) hlink rfl rfl ix hd kk
theorem pN_4_4 (hX : vOK Y X ins nL own rm ret) {index : Nat} {x : Int32} {host : String} (ix : Nat) {b i : Nat} (hB : isB b) (hi : i < 24) (hlink : (own, index, "PointAnswers$Point", "filed", "I", host) ∈ nF) (hd : gi ins ix = some (pc, .putfield index, 3)) (kk : V Y X (mset M (b + 2 + i) 4 x) (pc + 3) L st) : V Y X M pc L (.int x :: .ref (Y.2.2.2.1 (b + 2 + i)) :: st) :=
  v_putN hX (C := RX4) (T := TX4) (N := 7) (ci := 4) (fs := [.int ((M.1 (b + 2 + i)) 0), .int ((M.1 (b + 2 + i)) 1), .int ((M.1 (b + 2 + i)) 2), .int ((M.1 (b + 2 + i)) 3), .int ((M.1 (b + 2 + i)) 4), .int ((M.1 (b + 2 + i)) 5), .int ((M.1 (b + 2 + i)) 6)]) (by have := isB_lt hB; omega) (cG_P hB hi) rfl inX4 tyX4 tyX4_ok nmX4 4 (by decide) hlink rfl rfl rfl rfl (Nat.le_of_ble_eq_true rfl) (by rw [cG_P hB hi]; rfl) ix hd kk
theorem g_4_5 (hX : vOK Y X ins nL own rm ret) {index : Nat} (ix : Nat) {b i : Nat} (hB : isB b) (hi : i < 24) (hlink : Cond.fieldLink own index "PointAnswers$Point" "lastsFrom" "I" ∈ wT) (hd : gi ins ix = some (pc, .getfield index, 3)) (kk : V Y X M (pc + 3) L (.int (M.1 (b + 2 + i) 5) :: st)) : V Y X M pc L (.ref (Y.2.2.2.1 (b + 2 + i)) :: st) :=
  v_get hX (C := RX4) (T := TX4) (N := 7) (ci := 4) (fs := [.int ((M.1 (b + 2 + i)) 0), .int ((M.1 (b + 2 + i)) 1), .int ((M.1 (b + 2 + i)) 2), .int ((M.1 (b + 2 + i)) 3), .int ((M.1 (b + 2 + i)) 4), .int ((M.1 (b + 2 + i)) 5), .int ((M.1 (b + 2 + i)) 6)]) (by have := isB_lt hB; omega) (cG_P hB hi) rfl inX4 5 (by decide) hlink rfl rfl ix hd kk
theorem p_4_5 (hX : vOK Y X ins nL own rm ret) {index : Nat} {x : Int32} (ix : Nat) {b i : Nat} (hB : isB b) (hi : i < 24) (hlink : Cond.fieldLink own index "PointAnswers$Point" "lastsFrom" "I" ∈ wT) (hd : gi ins ix = some (pc, .putfield index, 3)) (kk : V Y X (mset M (b + 2 + i) 5 x) (pc + 3) L st) : V Y X M pc L (.int x :: .ref (Y.2.2.2.1 (b + 2 + i)) :: st) :=
  v_put hX (C := RX4) (T := TX4) (N := 7) (ci := 4) (fs := [.int ((M.1 (b + 2 + i)) 0), .int ((M.1 (b + 2 + i)) 1), .int ((M.1 (b + 2 + i)) 2), .int ((M.1 (b + 2 + i)) 3), .int ((M.1 (b + 2 + i)) 4), .int ((M.1 (b + 2 + i)) 5), .int ((M.1 (b + 2 + i)) 6)]) (by have := isB_lt hB; omega) (cG_P hB hi) rfl inX4 tyX4 tyX4_ok nmX4 5 (by decide) hlink rfl rfl rfl rfl (Nat.le_of_ble_eq_true rfl) (by rw [cG_P hB hi]; rfl) ix hd kk
theorem gN_4_5 (hX : vOK Y X ins nL own rm ret) {index : Nat} {host : String} (ix : Nat) {b i : Nat} (hB : isB b) (hi : i < 24) (hlink : (own, index, "PointAnswers$Point", "lastsFrom", "I", host) ∈ nF) (hd : gi ins ix = some (pc, .getfield index, 3)) (kk : V Y X M (pc + 3) L (.int (M.1 (b + 2 + i) 5) :: st)) : V Y X M pc L (.ref (Y.2.2.2.1 (b + 2 + i)) :: st) :=
  v_getN hX (C := RX4) (T := TX4) (N := 7) (ci := 4) (fs := [.int ((M.1 (b + 2 + i)) 0), .int ((M.1 (b + 2 + i)) 1), .int ((M.1 (b + 2 + i)) 2), .int ((M.1 (b + 2 + i)) 3), .int ((M.1 (b + 2 + i)) 4), .int ((M.1 (b + 2 + i)) 5), .int ((M.1 (b + 2 + i)) 6)]) (by have := isB_lt hB; omega) (cG_P hB hi) rfl inX4 5 (by decide) hlink rfl rfl ix hd kk
theorem pN_4_5 (hX : vOK Y X ins nL own rm ret) {index : Nat} {x : Int32} {host : String} (ix : Nat) {b i : Nat} (hB : isB b) (hi : i < 24) (hlink : (own, index, "PointAnswers$Point", "lastsFrom", "I", host) ∈ nF) (hd : gi ins ix = some (pc, .putfield index, 3)) (kk : V Y X (mset M (b + 2 + i) 5 x) (pc + 3) L st) : V Y X M pc L (.int x :: .ref (Y.2.2.2.1 (b + 2 + i)) :: st) :=
  v_putN hX (C := RX4) (T := TX4) (N := 7) (ci := 4) (fs := [.int ((M.1 (b + 2 + i)) 0), .int ((M.1 (b + 2 + i)) 1), .int ((M.1 (b + 2 + i)) 2), .int ((M.1 (b + 2 + i)) 3), .int ((M.1 (b + 2 + i)) 4), .int ((M.1 (b + 2 + i)) 5), .int ((M.1 (b + 2 + i)) 6)]) (by have := isB_lt hB; omega) (cG_P hB hi) rfl inX4 tyX4 tyX4_ok nmX4 5 (by decide) hlink rfl rfl rfl rfl (Nat.le_of_ble_eq_true rfl) (by rw [cG_P hB hi]; rfl) ix hd kk
theorem g_4_6 (hX : vOK Y X ins nL own rm ret) {index : Nat} (ix : Nat) {b i : Nat} (hB : isB b) (hi : i < 24) (hlink : Cond.fieldLink own index "PointAnswers$Point" "withdrawn" "Z" ∈ wT) (hd : gi ins ix = some (pc, .getfield index, 3)) (kk : V Y X M (pc + 3) L (.int (M.1 (b + 2 + i) 6) :: st)) : V Y X M pc L (.ref (Y.2.2.2.1 (b + 2 + i)) :: st) :=
  v_get hX (C := RX4) (T := TX4) (N := 7) (ci := 4) (fs := [.int ((M.1 (b + 2 + i)) 0), .int ((M.1 (b + 2 + i)) 1), .int ((M.1 (b + 2 + i)) 2), .int ((M.1 (b + 2 + i)) 3), .int ((M.1 (b + 2 + i)) 4), .int ((M.1 (b + 2 + i)) 5), .int ((M.1 (b + 2 + i)) 6)]) (by have := isB_lt hB; omega) (cG_P hB hi) rfl inX4 6 (by decide) hlink rfl rfl ix hd kk
theorem p_4_6 (hX : vOK Y X ins nL own rm ret) {index : Nat} {x : Int32} (ix : Nat) {b i : Nat} (hB : isB b) (hi : i < 24) (hn : narrow .boolean (.int x) = .int x) (hf : fits .boolean (.int x) = true) (hlink : Cond.fieldLink own index "PointAnswers$Point" "withdrawn" "Z" ∈ wT) (hd : gi ins ix = some (pc, .putfield index, 3)) (kk : V Y X (mset M (b + 2 + i) 6 x) (pc + 3) L st) : V Y X M pc L (.int x :: .ref (Y.2.2.2.1 (b + 2 + i)) :: st) :=
  v_put hX (C := RX4) (T := TX4) (N := 7) (ci := 4) (fs := [.int ((M.1 (b + 2 + i)) 0), .int ((M.1 (b + 2 + i)) 1), .int ((M.1 (b + 2 + i)) 2), .int ((M.1 (b + 2 + i)) 3), .int ((M.1 (b + 2 + i)) 4), .int ((M.1 (b + 2 + i)) 5), .int ((M.1 (b + 2 + i)) 6)]) (by have := isB_lt hB; omega) (cG_P hB hi) rfl inX4 tyX4 tyX4_ok nmX4 6 (by decide) hlink rfl rfl hn hf (Nat.le_of_ble_eq_true rfl) (by rw [cG_P hB hi]; rfl) ix hd kk
theorem gN_4_6 (hX : vOK Y X ins nL own rm ret) {index : Nat} {host : String} (ix : Nat) {b i : Nat} (hB : isB b) (hi : i < 24) (hlink : (own, index, "PointAnswers$Point", "withdrawn", "Z", host) ∈ nF) (hd : gi ins ix = some (pc, .getfield index, 3)) (kk : V Y X M (pc + 3) L (.int (M.1 (b + 2 + i) 6) :: st)) : V Y X M pc L (.ref (Y.2.2.2.1 (b + 2 + i)) :: st) :=
  v_getN hX (C := RX4) (T := TX4) (N := 7) (ci := 4) (fs := [.int ((M.1 (b + 2 + i)) 0), .int ((M.1 (b + 2 + i)) 1), .int ((M.1 (b + 2 + i)) 2), .int ((M.1 (b + 2 + i)) 3), .int ((M.1 (b + 2 + i)) 4), .int ((M.1 (b + 2 + i)) 5), .int ((M.1 (b + 2 + i)) 6)]) (by have := isB_lt hB; omega) (cG_P hB hi) rfl inX4 6 (by decide) hlink rfl rfl ix hd kk
theorem pN_4_6 (hX : vOK Y X ins nL own rm ret) {index : Nat} {x : Int32} {host : String} (ix : Nat) {b i : Nat} (hB : isB b) (hi : i < 24) (hn : narrow .boolean (.int x) = .int x) (hf : fits .boolean (.int x) = true) (hlink : (own, index, "PointAnswers$Point", "withdrawn", "Z", host) ∈ nF) (hd : gi ins ix = some (pc, .putfield index, 3)) (kk : V Y X (mset M (b + 2 + i) 6 x) (pc + 3) L st) : V Y X M pc L (.int x :: .ref (Y.2.2.2.1 (b + 2 + i)) :: st) :=
  v_putN hX (C := RX4) (T := TX4) (N := 7) (ci := 4) (fs := [.int ((M.1 (b + 2 + i)) 0), .int ((M.1 (b + 2 + i)) 1), .int ((M.1 (b + 2 + i)) 2), .int ((M.1 (b + 2 + i)) 3), .int ((M.1 (b + 2 + i)) 4), .int ((M.1 (b + 2 + i)) 5), .int ((M.1 (b + 2 + i)) 6)]) (by have := isB_lt hB; omega) (cG_P hB hi) rfl inX4 tyX4 tyX4_ok nmX4 6 (by decide) hlink rfl rfl hn hf (Nat.le_of_ble_eq_true rfl) (by rw [cG_P hB hi]; rfl) ix hd kk
theorem g_5_0 (hX : vOK Y X ins nL own rm ret) {index : Nat} (ix : Nat) (hlink : Cond.fieldLink own index "PointAnswers$Reader" "at" "I" ∈ wT) (hd : gi ins ix = some (pc, .getfield index, 3)) (kk : V Y X M (pc + 3) L (.int (M.1 32 0) :: st)) : V Y X M pc L (.ref (Y.2.2.2.1 32) :: st) :=
  v_get hX (C := RX5) (T := TX5) (N := 6) (ci := 5) (fs := [.int ((M.1 32) 0), .int ((M.1 32) 1), .int ((M.1 32) 2), .int ((M.1 32) 3), .int ((M.1 32) 4), .int ((M.1 32) 5)]) (by decide) rfl rfl inX5 0 (by decide) hlink rfl rfl ix hd kk
theorem p_5_0 (hX : vOK Y X ins nL own rm ret) {index : Nat} {x : Int32} (ix : Nat) (hlink : Cond.fieldLink own index "PointAnswers$Reader" "at" "I" ∈ wT) (hd : gi ins ix = some (pc, .putfield index, 3)) (kk : V Y X (mset M 32 0 x) (pc + 3) L st) : V Y X M pc L (.int x :: .ref (Y.2.2.2.1 32) :: st) :=
  v_put hX (C := RX5) (T := TX5) (N := 6) (ci := 5) (fs := [.int ((M.1 32) 0), .int ((M.1 32) 1), .int ((M.1 32) 2), .int ((M.1 32) 3), .int ((M.1 32) 4), .int ((M.1 32) 5)]) (by decide) rfl rfl inX5 tyX5 tyX5_ok nmX5 0 (by decide) hlink rfl rfl rfl rfl (Nat.le_of_ble_eq_true rfl) rfl ix hd kk
theorem gN_5_0 (hX : vOK Y X ins nL own rm ret) {index : Nat} {host : String} (ix : Nat) (hlink : (own, index, "PointAnswers$Reader", "at", "I", host) ∈ nF) (hd : gi ins ix = some (pc, .getfield index, 3)) (kk : V Y X M (pc + 3) L (.int (M.1 32 0) :: st)) : V Y X M pc L (.ref (Y.2.2.2.1 32) :: st) :=
  v_getN hX (C := RX5) (T := TX5) (N := 6) (ci := 5) (fs := [.int ((M.1 32) 0), .int ((M.1 32) 1), .int ((M.1 32) 2), .int ((M.1 32) 3), .int ((M.1 32) 4), .int ((M.1 32) 5)]) (by decide) rfl rfl inX5 0 (by decide) hlink rfl rfl ix hd kk
theorem pN_5_0 (hX : vOK Y X ins nL own rm ret) {index : Nat} {x : Int32} {host : String} (ix : Nat) (hlink : (own, index, "PointAnswers$Reader", "at", "I", host) ∈ nF) (hd : gi ins ix = some (pc, .putfield index, 3)) (kk : V Y X (mset M 32 0 x) (pc + 3) L st) : V Y X M pc L (.int x :: .ref (Y.2.2.2.1 32) :: st) :=
  v_putN hX (C := RX5) (T := TX5) (N := 6) (ci := 5) (fs := [.int ((M.1 32) 0), .int ((M.1 32) 1), .int ((M.1 32) 2), .int ((M.1 32) 3), .int ((M.1 32) 4), .int ((M.1 32) 5)]) (by decide) rfl rfl inX5 tyX5 tyX5_ok nmX5 0 (by decide) hlink rfl rfl rfl rfl (Nat.le_of_ble_eq_true rfl) rfl ix hd kk
theorem g_5_1 (hX : vOK Y X ins nL own rm ret) {index : Nat} (ix : Nat) (hlink : Cond.fieldLink own index "PointAnswers$Reader" "digit" "I" ∈ wT) (hd : gi ins ix = some (pc, .getfield index, 3)) (kk : V Y X M (pc + 3) L (.int (M.1 32 1) :: st)) : V Y X M pc L (.ref (Y.2.2.2.1 32) :: st) :=
  v_get hX (C := RX5) (T := TX5) (N := 6) (ci := 5) (fs := [.int ((M.1 32) 0), .int ((M.1 32) 1), .int ((M.1 32) 2), .int ((M.1 32) 3), .int ((M.1 32) 4), .int ((M.1 32) 5)]) (by decide) rfl rfl inX5 1 (by decide) hlink rfl rfl ix hd kk
theorem p_5_1 (hX : vOK Y X ins nL own rm ret) {index : Nat} {x : Int32} (ix : Nat) (hlink : Cond.fieldLink own index "PointAnswers$Reader" "digit" "I" ∈ wT) (hd : gi ins ix = some (pc, .putfield index, 3)) (kk : V Y X (mset M 32 1 x) (pc + 3) L st) : V Y X M pc L (.int x :: .ref (Y.2.2.2.1 32) :: st) :=
  v_put hX (C := RX5) (T := TX5) (N := 6) (ci := 5) (fs := [.int ((M.1 32) 0), .int ((M.1 32) 1), .int ((M.1 32) 2), .int ((M.1 32) 3), .int ((M.1 32) 4), .int ((M.1 32) 5)]) (by decide) rfl rfl inX5 tyX5 tyX5_ok nmX5 1 (by decide) hlink rfl rfl rfl rfl (Nat.le_of_ble_eq_true rfl) rfl ix hd kk
theorem gN_5_1 (hX : vOK Y X ins nL own rm ret) {index : Nat} {host : String} (ix : Nat) (hlink : (own, index, "PointAnswers$Reader", "digit", "I", host) ∈ nF) (hd : gi ins ix = some (pc, .getfield index, 3)) (kk : V Y X M (pc + 3) L (.int (M.1 32 1) :: st)) : V Y X M pc L (.ref (Y.2.2.2.1 32) :: st) :=
  v_getN hX (C := RX5) (T := TX5) (N := 6) (ci := 5) (fs := [.int ((M.1 32) 0), .int ((M.1 32) 1), .int ((M.1 32) 2), .int ((M.1 32) 3), .int ((M.1 32) 4), .int ((M.1 32) 5)]) (by decide) rfl rfl inX5 1 (by decide) hlink rfl rfl ix hd kk
theorem pN_5_1 (hX : vOK Y X ins nL own rm ret) {index : Nat} {x : Int32} {host : String} (ix : Nat) (hlink : (own, index, "PointAnswers$Reader", "digit", "I", host) ∈ nF) (hd : gi ins ix = some (pc, .putfield index, 3)) (kk : V Y X (mset M 32 1 x) (pc + 3) L st) : V Y X M pc L (.int x :: .ref (Y.2.2.2.1 32) :: st) :=
  v_putN hX (C := RX5) (T := TX5) (N := 6) (ci := 5) (fs := [.int ((M.1 32) 0), .int ((M.1 32) 1), .int ((M.1 32) 2), .int ((M.1 32) 3), .int ((M.1 32) 4), .int ((M.1 32) 5)]) (by decide) rfl rfl inX5 tyX5 tyX5_ok nmX5 1 (by decide) hlink rfl rfl rfl rfl (Nat.le_of_ble_eq_true rfl) rfl ix hd kk
theorem g_5_2 (hX : vOK Y X ins nL own rm ret) {index : Nat} (ix : Nat) (hlink : Cond.fieldLink own index "PointAnswers$Reader" "kind" "C" ∈ wT) (hd : gi ins ix = some (pc, .getfield index, 3)) (kk : V Y X M (pc + 3) L (.int (M.1 32 2) :: st)) : V Y X M pc L (.ref (Y.2.2.2.1 32) :: st) :=
  v_get hX (C := RX5) (T := TX5) (N := 6) (ci := 5) (fs := [.int ((M.1 32) 0), .int ((M.1 32) 1), .int ((M.1 32) 2), .int ((M.1 32) 3), .int ((M.1 32) 4), .int ((M.1 32) 5)]) (by decide) rfl rfl inX5 2 (by decide) hlink rfl rfl ix hd kk
theorem p_5_2 (hX : vOK Y X ins nL own rm ret) {index : Nat} {x : Int32} (ix : Nat) (hn : narrow .char (.int x) = .int x) (hf : fits .char (.int x) = true) (hlink : Cond.fieldLink own index "PointAnswers$Reader" "kind" "C" ∈ wT) (hd : gi ins ix = some (pc, .putfield index, 3)) (kk : V Y X (mset M 32 2 x) (pc + 3) L st) : V Y X M pc L (.int x :: .ref (Y.2.2.2.1 32) :: st) :=
  v_put hX (C := RX5) (T := TX5) (N := 6) (ci := 5) (fs := [.int ((M.1 32) 0), .int ((M.1 32) 1), .int ((M.1 32) 2), .int ((M.1 32) 3), .int ((M.1 32) 4), .int ((M.1 32) 5)]) (by decide) rfl rfl inX5 tyX5 tyX5_ok nmX5 2 (by decide) hlink rfl rfl hn hf (Nat.le_of_ble_eq_true rfl) rfl ix hd kk
theorem gN_5_2 (hX : vOK Y X ins nL own rm ret) {index : Nat} {host : String} (ix : Nat) (hlink : (own, index, "PointAnswers$Reader", "kind", "C", host) ∈ nF) (hd : gi ins ix = some (pc, .getfield index, 3)) (kk : V Y X M (pc + 3) L (.int (M.1 32 2) :: st)) : V Y X M pc L (.ref (Y.2.2.2.1 32) :: st) :=
  v_getN hX (C := RX5) (T := TX5) (N := 6) (ci := 5) (fs := [.int ((M.1 32) 0), .int ((M.1 32) 1), .int ((M.1 32) 2), .int ((M.1 32) 3), .int ((M.1 32) 4), .int ((M.1 32) 5)]) (by decide) rfl rfl inX5 2 (by decide) hlink rfl rfl ix hd kk
theorem pN_5_2 (hX : vOK Y X ins nL own rm ret) {index : Nat} {x : Int32} {host : String} (ix : Nat) (hn : narrow .char (.int x) = .int x) (hf : fits .char (.int x) = true) (hlink : (own, index, "PointAnswers$Reader", "kind", "C", host) ∈ nF) (hd : gi ins ix = some (pc, .putfield index, 3)) (kk : V Y X (mset M 32 2 x) (pc + 3) L st) : V Y X M pc L (.int x :: .ref (Y.2.2.2.1 32) :: st) :=
  v_putN hX (C := RX5) (T := TX5) (N := 6) (ci := 5) (fs := [.int ((M.1 32) 0), .int ((M.1 32) 1), .int ((M.1 32) 2), .int ((M.1 32) 3), .int ((M.1 32) 4), .int ((M.1 32) 5)]) (by decide) rfl rfl inX5 tyX5 tyX5_ok nmX5 2 (by decide) hlink rfl rfl hn hf (Nat.le_of_ble_eq_true rfl) rfl ix hd kk
theorem g_5_3 (hX : vOK Y X ins nL own rm ret) {index : Nat} (ix : Nat) (hlink : Cond.fieldLink own index "PointAnswers$Reader" "number" "I" ∈ wT) (hd : gi ins ix = some (pc, .getfield index, 3)) (kk : V Y X M (pc + 3) L (.int (M.1 32 3) :: st)) : V Y X M pc L (.ref (Y.2.2.2.1 32) :: st) :=
  v_get hX (C := RX5) (T := TX5) (N := 6) (ci := 5) (fs := [.int ((M.1 32) 0), .int ((M.1 32) 1), .int ((M.1 32) 2), .int ((M.1 32) 3), .int ((M.1 32) 4), .int ((M.1 32) 5)]) (by decide) rfl rfl inX5 3 (by decide) hlink rfl rfl ix hd kk
theorem p_5_3 (hX : vOK Y X ins nL own rm ret) {index : Nat} {x : Int32} (ix : Nat) (hlink : Cond.fieldLink own index "PointAnswers$Reader" "number" "I" ∈ wT) (hd : gi ins ix = some (pc, .putfield index, 3)) (kk : V Y X (mset M 32 3 x) (pc + 3) L st) : V Y X M pc L (.int x :: .ref (Y.2.2.2.1 32) :: st) :=
  v_put hX (C := RX5) (T := TX5) (N := 6) (ci := 5) (fs := [.int ((M.1 32) 0), .int ((M.1 32) 1), .int ((M.1 32) 2), .int ((M.1 32) 3), .int ((M.1 32) 4), .int ((M.1 32) 5)]) (by decide) rfl rfl inX5 tyX5 tyX5_ok nmX5 3 (by decide) hlink rfl rfl rfl rfl (Nat.le_of_ble_eq_true rfl) rfl ix hd kk
theorem gN_5_3 (hX : vOK Y X ins nL own rm ret) {index : Nat} {host : String} (ix : Nat) (hlink : (own, index, "PointAnswers$Reader", "number", "I", host) ∈ nF) (hd : gi ins ix = some (pc, .getfield index, 3)) (kk : V Y X M (pc + 3) L (.int (M.1 32 3) :: st)) : V Y X M pc L (.ref (Y.2.2.2.1 32) :: st) :=
  v_getN hX (C := RX5) (T := TX5) (N := 6) (ci := 5) (fs := [.int ((M.1 32) 0), .int ((M.1 32) 1), .int ((M.1 32) 2), .int ((M.1 32) 3), .int ((M.1 32) 4), .int ((M.1 32) 5)]) (by decide) rfl rfl inX5 3 (by decide) hlink rfl rfl ix hd kk
theorem pN_5_3 (hX : vOK Y X ins nL own rm ret) {index : Nat} {x : Int32} {host : String} (ix : Nat) (hlink : (own, index, "PointAnswers$Reader", "number", "I", host) ∈ nF) (hd : gi ins ix = some (pc, .putfield index, 3)) (kk : V Y X (mset M 32 3 x) (pc + 3) L st) : V Y X M pc L (.int x :: .ref (Y.2.2.2.1 32) :: st) :=
  v_putN hX (C := RX5) (T := TX5) (N := 6) (ci := 5) (fs := [.int ((M.1 32) 0), .int ((M.1 32) 1), .int ((M.1 32) 2), .int ((M.1 32) 3), .int ((M.1 32) 4), .int ((M.1 32) 5)]) (by decide) rfl rfl inX5 tyX5 tyX5_ok nmX5 3 (by decide) hlink rfl rfl rfl rfl (Nat.le_of_ble_eq_true rfl) rfl ix hd kk
theorem g_5_4 (hX : vOK Y X ins nL own rm ret) {index : Nat} (ix : Nat) (hlink : Cond.fieldLink own index "PointAnswers$Reader" "pages" "I" ∈ wT) (hd : gi ins ix = some (pc, .getfield index, 3)) (kk : V Y X M (pc + 3) L (.int (M.1 32 4) :: st)) : V Y X M pc L (.ref (Y.2.2.2.1 32) :: st) :=
  v_get hX (C := RX5) (T := TX5) (N := 6) (ci := 5) (fs := [.int ((M.1 32) 0), .int ((M.1 32) 1), .int ((M.1 32) 2), .int ((M.1 32) 3), .int ((M.1 32) 4), .int ((M.1 32) 5)]) (by decide) rfl rfl inX5 4 (by decide) hlink rfl rfl ix hd kk
theorem p_5_4 (hX : vOK Y X ins nL own rm ret) {index : Nat} {x : Int32} (ix : Nat) (hlink : Cond.fieldLink own index "PointAnswers$Reader" "pages" "I" ∈ wT) (hd : gi ins ix = some (pc, .putfield index, 3)) (kk : V Y X (mset M 32 4 x) (pc + 3) L st) : V Y X M pc L (.int x :: .ref (Y.2.2.2.1 32) :: st) :=
  v_put hX (C := RX5) (T := TX5) (N := 6) (ci := 5) (fs := [.int ((M.1 32) 0), .int ((M.1 32) 1), .int ((M.1 32) 2), .int ((M.1 32) 3), .int ((M.1 32) 4), .int ((M.1 32) 5)]) (by decide) rfl rfl inX5 tyX5 tyX5_ok nmX5 4 (by decide) hlink rfl rfl rfl rfl (Nat.le_of_ble_eq_true rfl) rfl ix hd kk
theorem gN_5_4 (hX : vOK Y X ins nL own rm ret) {index : Nat} {host : String} (ix : Nat) (hlink : (own, index, "PointAnswers$Reader", "pages", "I", host) ∈ nF) (hd : gi ins ix = some (pc, .getfield index, 3)) (kk : V Y X M (pc + 3) L (.int (M.1 32 4) :: st)) : V Y X M pc L (.ref (Y.2.2.2.1 32) :: st) :=
  v_getN hX (C := RX5) (T := TX5) (N := 6) (ci := 5) (fs := [.int ((M.1 32) 0), .int ((M.1 32) 1), .int ((M.1 32) 2), .int ((M.1 32) 3), .int ((M.1 32) 4), .int ((M.1 32) 5)]) (by decide) rfl rfl inX5 4 (by decide) hlink rfl rfl ix hd kk
theorem pN_5_4 (hX : vOK Y X ins nL own rm ret) {index : Nat} {x : Int32} {host : String} (ix : Nat) (hlink : (own, index, "PointAnswers$Reader", "pages", "I", host) ∈ nF) (hd : gi ins ix = some (pc, .putfield index, 3)) (kk : V Y X (mset M 32 4 x) (pc + 3) L st) : V Y X M pc L (.int x :: .ref (Y.2.2.2.1 32) :: st) :=
  v_putN hX (C := RX5) (T := TX5) (N := 6) (ci := 5) (fs := [.int ((M.1 32) 0), .int ((M.1 32) 1), .int ((M.1 32) 2), .int ((M.1 32) 3), .int ((M.1 32) 4), .int ((M.1 32) 5)]) (by decide) rfl rfl inX5 tyX5 tyX5_ok nmX5 4 (by decide) hlink rfl rfl rfl rfl (Nat.le_of_ble_eq_true rfl) rfl ix hd kk
theorem g_5_5 (hX : vOK Y X ins nL own rm ret) {index : Nat} (ix : Nat) (hlink : Cond.fieldLink own index "PointAnswers$Reader" "cases" "I" ∈ wT) (hd : gi ins ix = some (pc, .getfield index, 3)) (kk : V Y X M (pc + 3) L (.int (M.1 32 5) :: st)) : V Y X M pc L (.ref (Y.2.2.2.1 32) :: st) :=
  v_get hX (C := RX5) (T := TX5) (N := 6) (ci := 5) (fs := [.int ((M.1 32) 0), .int ((M.1 32) 1), .int ((M.1 32) 2), .int ((M.1 32) 3), .int ((M.1 32) 4), .int ((M.1 32) 5)]) (by decide) rfl rfl inX5 5 (by decide) hlink rfl rfl ix hd kk
theorem p_5_5 (hX : vOK Y X ins nL own rm ret) {index : Nat} {x : Int32} (ix : Nat) (hlink : Cond.fieldLink own index "PointAnswers$Reader" "cases" "I" ∈ wT) (hd : gi ins ix = some (pc, .putfield index, 3)) (kk : V Y X (mset M 32 5 x) (pc + 3) L st) : V Y X M pc L (.int x :: .ref (Y.2.2.2.1 32) :: st) :=
  v_put hX (C := RX5) (T := TX5) (N := 6) (ci := 5) (fs := [.int ((M.1 32) 0), .int ((M.1 32) 1), .int ((M.1 32) 2), .int ((M.1 32) 3), .int ((M.1 32) 4), .int ((M.1 32) 5)]) (by decide) rfl rfl inX5 tyX5 tyX5_ok nmX5 5 (by decide) hlink rfl rfl rfl rfl (Nat.le_of_ble_eq_true rfl) rfl ix hd kk
theorem gN_5_5 (hX : vOK Y X ins nL own rm ret) {index : Nat} {host : String} (ix : Nat) (hlink : (own, index, "PointAnswers$Reader", "cases", "I", host) ∈ nF) (hd : gi ins ix = some (pc, .getfield index, 3)) (kk : V Y X M (pc + 3) L (.int (M.1 32 5) :: st)) : V Y X M pc L (.ref (Y.2.2.2.1 32) :: st) :=
  v_getN hX (C := RX5) (T := TX5) (N := 6) (ci := 5) (fs := [.int ((M.1 32) 0), .int ((M.1 32) 1), .int ((M.1 32) 2), .int ((M.1 32) 3), .int ((M.1 32) 4), .int ((M.1 32) 5)]) (by decide) rfl rfl inX5 5 (by decide) hlink rfl rfl ix hd kk
theorem pN_5_5 (hX : vOK Y X ins nL own rm ret) {index : Nat} {x : Int32} {host : String} (ix : Nat) (hlink : (own, index, "PointAnswers$Reader", "cases", "I", host) ∈ nF) (hd : gi ins ix = some (pc, .putfield index, 3)) (kk : V Y X (mset M 32 5 x) (pc + 3) L st) : V Y X M pc L (.int x :: .ref (Y.2.2.2.1 32) :: st) :=
  v_putN hX (C := RX5) (T := TX5) (N := 6) (ci := 5) (fs := [.int ((M.1 32) 0), .int ((M.1 32) 1), .int ((M.1 32) 2), .int ((M.1 32) 3), .int ((M.1 32) 4), .int ((M.1 32) 5)]) (by decide) rfl rfl inX5 tyX5 tyX5_ok nmX5 5 (by decide) hlink rfl rfl rfl rfl (Nat.le_of_ble_eq_true rfl) rfl ix hd kk
theorem g_6_0 (hX : vOK Y X ins nL own rm ret) {index : Nat} (ix : Nat) (hlink : Cond.fieldLink own index "PointAnswers" "now" "LPointAnswers$Bundle;" ∈ wT) (hd : gi ins ix = some (pc, .getfield index, 3)) (kk : V Y X M (pc + 3) L (.ref (Y.2.2.2.1 1) :: st)) : V Y X M pc L (.ref (Y.2.2.2.1 0) :: st) :=
  v_get hX (C := RX6) (T := TX6) (N := 7) (ci := 6) (fs := [.ref (Y.2.2.2.1 1), .ref (Y.2.2.2.1 27), .ref (Y.2.2.2.1 30), .ref (Y.2.2.2.1 32), .ref (Y.2.2.2.1 33), .ref (Y.2.2.2.1 217), .int ((M.1 0) 6)]) (by decide) rfl rfl inX6 0 (by decide) hlink rfl rfl ix hd kk
theorem gN_6_0 (hX : vOK Y X ins nL own rm ret) {index : Nat} {host : String} (ix : Nat) (hlink : (own, index, "PointAnswers", "now", "LPointAnswers$Bundle;", host) ∈ nF) (hd : gi ins ix = some (pc, .getfield index, 3)) (kk : V Y X M (pc + 3) L (.ref (Y.2.2.2.1 1) :: st)) : V Y X M pc L (.ref (Y.2.2.2.1 0) :: st) :=
  v_getN hX (C := RX6) (T := TX6) (N := 7) (ci := 6) (fs := [.ref (Y.2.2.2.1 1), .ref (Y.2.2.2.1 27), .ref (Y.2.2.2.1 30), .ref (Y.2.2.2.1 32), .ref (Y.2.2.2.1 33), .ref (Y.2.2.2.1 217), .int ((M.1 0) 6)]) (by decide) rfl rfl inX6 0 (by decide) hlink rfl rfl ix hd kk
theorem g_6_1 (hX : vOK Y X ins nL own rm ret) {index : Nat} (ix : Nat) (hlink : Cond.fieldLink own index "PointAnswers" "costs" "LPointAnswers$Costs;" ∈ wT) (hd : gi ins ix = some (pc, .getfield index, 3)) (kk : V Y X M (pc + 3) L (.ref (Y.2.2.2.1 27) :: st)) : V Y X M pc L (.ref (Y.2.2.2.1 0) :: st) :=
  v_get hX (C := RX6) (T := TX6) (N := 7) (ci := 6) (fs := [.ref (Y.2.2.2.1 1), .ref (Y.2.2.2.1 27), .ref (Y.2.2.2.1 30), .ref (Y.2.2.2.1 32), .ref (Y.2.2.2.1 33), .ref (Y.2.2.2.1 217), .int ((M.1 0) 6)]) (by decide) rfl rfl inX6 1 (by decide) hlink rfl rfl ix hd kk
theorem gN_6_1 (hX : vOK Y X ins nL own rm ret) {index : Nat} {host : String} (ix : Nat) (hlink : (own, index, "PointAnswers", "costs", "LPointAnswers$Costs;", host) ∈ nF) (hd : gi ins ix = some (pc, .getfield index, 3)) (kk : V Y X M (pc + 3) L (.ref (Y.2.2.2.1 27) :: st)) : V Y X M pc L (.ref (Y.2.2.2.1 0) :: st) :=
  v_getN hX (C := RX6) (T := TX6) (N := 7) (ci := 6) (fs := [.ref (Y.2.2.2.1 1), .ref (Y.2.2.2.1 27), .ref (Y.2.2.2.1 30), .ref (Y.2.2.2.1 32), .ref (Y.2.2.2.1 33), .ref (Y.2.2.2.1 217), .int ((M.1 0) 6)]) (by decide) rfl rfl inX6 1 (by decide) hlink rfl rfl ix hd kk
theorem g_6_2 (hX : vOK Y X ins nL own rm ret) {index : Nat} (ix : Nat) (hlink : Cond.fieldLink own index "PointAnswers" "pad" "LPointAnswers$Pad;" ∈ wT) (hd : gi ins ix = some (pc, .getfield index, 3)) (kk : V Y X M (pc + 3) L (.ref (Y.2.2.2.1 30) :: st)) : V Y X M pc L (.ref (Y.2.2.2.1 0) :: st) :=
  v_get hX (C := RX6) (T := TX6) (N := 7) (ci := 6) (fs := [.ref (Y.2.2.2.1 1), .ref (Y.2.2.2.1 27), .ref (Y.2.2.2.1 30), .ref (Y.2.2.2.1 32), .ref (Y.2.2.2.1 33), .ref (Y.2.2.2.1 217), .int ((M.1 0) 6)]) (by decide) rfl rfl inX6 2 (by decide) hlink rfl rfl ix hd kk
theorem gN_6_2 (hX : vOK Y X ins nL own rm ret) {index : Nat} {host : String} (ix : Nat) (hlink : (own, index, "PointAnswers", "pad", "LPointAnswers$Pad;", host) ∈ nF) (hd : gi ins ix = some (pc, .getfield index, 3)) (kk : V Y X M (pc + 3) L (.ref (Y.2.2.2.1 30) :: st)) : V Y X M pc L (.ref (Y.2.2.2.1 0) :: st) :=
  v_getN hX (C := RX6) (T := TX6) (N := 7) (ci := 6) (fs := [.ref (Y.2.2.2.1 1), .ref (Y.2.2.2.1 27), .ref (Y.2.2.2.1 30), .ref (Y.2.2.2.1 32), .ref (Y.2.2.2.1 33), .ref (Y.2.2.2.1 217), .int ((M.1 0) 6)]) (by decide) rfl rfl inX6 2 (by decide) hlink rfl rfl ix hd kk
theorem g_6_3 (hX : vOK Y X ins nL own rm ret) {index : Nat} (ix : Nat) (hlink : Cond.fieldLink own index "PointAnswers" "reader" "LPointAnswers$Reader;" ∈ wT) (hd : gi ins ix = some (pc, .getfield index, 3)) (kk : V Y X M (pc + 3) L (.ref (Y.2.2.2.1 32) :: st)) : V Y X M pc L (.ref (Y.2.2.2.1 0) :: st) :=
  v_get hX (C := RX6) (T := TX6) (N := 7) (ci := 6) (fs := [.ref (Y.2.2.2.1 1), .ref (Y.2.2.2.1 27), .ref (Y.2.2.2.1 30), .ref (Y.2.2.2.1 32), .ref (Y.2.2.2.1 33), .ref (Y.2.2.2.1 217), .int ((M.1 0) 6)]) (by decide) rfl rfl inX6 3 (by decide) hlink rfl rfl ix hd kk
theorem gN_6_3 (hX : vOK Y X ins nL own rm ret) {index : Nat} {host : String} (ix : Nat) (hlink : (own, index, "PointAnswers", "reader", "LPointAnswers$Reader;", host) ∈ nF) (hd : gi ins ix = some (pc, .getfield index, 3)) (kk : V Y X M (pc + 3) L (.ref (Y.2.2.2.1 32) :: st)) : V Y X M pc L (.ref (Y.2.2.2.1 0) :: st) :=
  v_getN hX (C := RX6) (T := TX6) (N := 7) (ci := 6) (fs := [.ref (Y.2.2.2.1 1), .ref (Y.2.2.2.1 27), .ref (Y.2.2.2.1 30), .ref (Y.2.2.2.1 32), .ref (Y.2.2.2.1 33), .ref (Y.2.2.2.1 217), .int ((M.1 0) 6)]) (by decide) rfl rfl inX6 3 (by decide) hlink rfl rfl ix hd kk
theorem g_6_4 (hX : vOK Y X ins nL own rm ret) {index : Nat} (ix : Nat) (hlink : Cond.fieldLink own index "PointAnswers" "history" "LPointAnswers$History;" ∈ wT) (hd : gi ins ix = some (pc, .getfield index, 3)) (kk : V Y X M (pc + 3) L (.ref (Y.2.2.2.1 33) :: st)) : V Y X M pc L (.ref (Y.2.2.2.1 0) :: st) :=
  v_get hX (C := RX6) (T := TX6) (N := 7) (ci := 6) (fs := [.ref (Y.2.2.2.1 1), .ref (Y.2.2.2.1 27), .ref (Y.2.2.2.1 30), .ref (Y.2.2.2.1 32), .ref (Y.2.2.2.1 33), .ref (Y.2.2.2.1 217), .int ((M.1 0) 6)]) (by decide) rfl rfl inX6 4 (by decide) hlink rfl rfl ix hd kk
theorem gN_6_4 (hX : vOK Y X ins nL own rm ret) {index : Nat} {host : String} (ix : Nat) (hlink : (own, index, "PointAnswers", "history", "LPointAnswers$History;", host) ∈ nF) (hd : gi ins ix = some (pc, .getfield index, 3)) (kk : V Y X M (pc + 3) L (.ref (Y.2.2.2.1 33) :: st)) : V Y X M pc L (.ref (Y.2.2.2.1 0) :: st) :=
  v_getN hX (C := RX6) (T := TX6) (N := 7) (ci := 6) (fs := [.ref (Y.2.2.2.1 1), .ref (Y.2.2.2.1 27), .ref (Y.2.2.2.1 30), .ref (Y.2.2.2.1 32), .ref (Y.2.2.2.1 33), .ref (Y.2.2.2.1 217), .int ((M.1 0) 6)]) (by decide) rfl rfl inX6 4 (by decide) hlink rfl rfl ix hd kk
theorem g_6_5 (hX : vOK Y X ins nL own rm ret) {index : Nat} (ix : Nat) (hlink : Cond.fieldLink own index "PointAnswers" "slots" "[LPointAnswers$Bundle;" ∈ wT) (hd : gi ins ix = some (pc, .getfield index, 3)) (kk : V Y X M (pc + 3) L (.ref (Y.2.2.2.1 217) :: st)) : V Y X M pc L (.ref (Y.2.2.2.1 0) :: st) :=
  v_get hX (C := RX6) (T := TX6) (N := 7) (ci := 6) (fs := [.ref (Y.2.2.2.1 1), .ref (Y.2.2.2.1 27), .ref (Y.2.2.2.1 30), .ref (Y.2.2.2.1 32), .ref (Y.2.2.2.1 33), .ref (Y.2.2.2.1 217), .int ((M.1 0) 6)]) (by decide) rfl rfl inX6 5 (by decide) hlink rfl rfl ix hd kk
theorem gN_6_5 (hX : vOK Y X ins nL own rm ret) {index : Nat} {host : String} (ix : Nat) (hlink : (own, index, "PointAnswers", "slots", "[LPointAnswers$Bundle;", host) ∈ nF) (hd : gi ins ix = some (pc, .getfield index, 3)) (kk : V Y X M (pc + 3) L (.ref (Y.2.2.2.1 217) :: st)) : V Y X M pc L (.ref (Y.2.2.2.1 0) :: st) :=
  v_getN hX (C := RX6) (T := TX6) (N := 7) (ci := 6) (fs := [.ref (Y.2.2.2.1 1), .ref (Y.2.2.2.1 27), .ref (Y.2.2.2.1 30), .ref (Y.2.2.2.1 32), .ref (Y.2.2.2.1 33), .ref (Y.2.2.2.1 217), .int ((M.1 0) 6)]) (by decide) rfl rfl inX6 5 (by decide) hlink rfl rfl ix hd kk
theorem g_6_6 (hX : vOK Y X ins nL own rm ret) {index : Nat} (ix : Nat) (hlink : Cond.fieldLink own index "PointAnswers" "savedSlots" "I" ∈ wT) (hd : gi ins ix = some (pc, .getfield index, 3)) (kk : V Y X M (pc + 3) L (.int (M.1 0 6) :: st)) : V Y X M pc L (.ref (Y.2.2.2.1 0) :: st) :=
  v_get hX (C := RX6) (T := TX6) (N := 7) (ci := 6) (fs := [.ref (Y.2.2.2.1 1), .ref (Y.2.2.2.1 27), .ref (Y.2.2.2.1 30), .ref (Y.2.2.2.1 32), .ref (Y.2.2.2.1 33), .ref (Y.2.2.2.1 217), .int ((M.1 0) 6)]) (by decide) rfl rfl inX6 6 (by decide) hlink rfl rfl ix hd kk
theorem p_6_6 (hX : vOK Y X ins nL own rm ret) {index : Nat} {x : Int32} (ix : Nat) (hlink : Cond.fieldLink own index "PointAnswers" "savedSlots" "I" ∈ wT) (hd : gi ins ix = some (pc, .putfield index, 3)) (kk : V Y X (mset M 0 6 x) (pc + 3) L st) : V Y X M pc L (.int x :: .ref (Y.2.2.2.1 0) :: st) :=
  v_put hX (C := RX6) (T := TX6) (N := 7) (ci := 6) (fs := [.ref (Y.2.2.2.1 1), .ref (Y.2.2.2.1 27), .ref (Y.2.2.2.1 30), .ref (Y.2.2.2.1 32), .ref (Y.2.2.2.1 33), .ref (Y.2.2.2.1 217), .int ((M.1 0) 6)]) (by decide) rfl rfl inX6 tyX6 tyX6_ok nmX6 6 (by decide) hlink rfl rfl rfl rfl (Nat.le_of_ble_eq_true rfl) rfl ix hd kk
theorem gN_6_6 (hX : vOK Y X ins nL own rm ret) {index : Nat} {host : String} (ix : Nat) (hlink : (own, index, "PointAnswers", "savedSlots", "I", host) ∈ nF) (hd : gi ins ix = some (pc, .getfield index, 3)) (kk : V Y X M (pc + 3) L (.int (M.1 0 6) :: st)) : V Y X M pc L (.ref (Y.2.2.2.1 0) :: st) :=
  v_getN hX (C := RX6) (T := TX6) (N := 7) (ci := 6) (fs := [.ref (Y.2.2.2.1 1), .ref (Y.2.2.2.1 27), .ref (Y.2.2.2.1 30), .ref (Y.2.2.2.1 32), .ref (Y.2.2.2.1 33), .ref (Y.2.2.2.1 217), .int ((M.1 0) 6)]) (by decide) rfl rfl inX6 6 (by decide) hlink rfl rfl ix hd kk
theorem pN_6_6 (hX : vOK Y X ins nL own rm ret) {index : Nat} {x : Int32} {host : String} (ix : Nat) (hlink : (own, index, "PointAnswers", "savedSlots", "I", host) ∈ nF) (hd : gi ins ix = some (pc, .putfield index, 3)) (kk : V Y X (mset M 0 6 x) (pc + 3) L st) : V Y X M pc L (.int x :: .ref (Y.2.2.2.1 0) :: st) :=
  v_putN hX (C := RX6) (T := TX6) (N := 7) (ci := 6) (fs := [.ref (Y.2.2.2.1 1), .ref (Y.2.2.2.1 27), .ref (Y.2.2.2.1 30), .ref (Y.2.2.2.1 32), .ref (Y.2.2.2.1 33), .ref (Y.2.2.2.1 217), .int ((M.1 0) 6)]) (by decide) rfl rfl inX6 tyX6 tyX6_ok nmX6 6 (by decide) hlink rfl rfl rfl rfl (Nat.le_of_ble_eq_true rfl) rfl ix hd kk
end VF
end
section
theorem cG_h {cy : Nat → ClassId} {ad : Nat → Nat} {h h' : Nat → Nat} {r : Nat → Int32} {k : Nat} (hk : k ≠ 34) : cG cy ad h r k = cG cy ad h' r k := by
  unfold cG cG1
  simp only [if_neg hk]
theorem wl_mhis {cy : Nat → ClassId} {ad : Nat → Nat} {sc : List (Nat × Nat)} {M : Mm} {j b : Nat} : (wl cy ad sc M).set 34 (ad 34, .inl (cy 3, 7, .inr (.inr (.inr (.inr (va_up (fun j => some (ad (M.2 j))) j (some (ad b)))))))) = wl cy ad sc (mhis M (va_up M.2 j b)) := by
  have e : (va_up (fun j => some (ad (M.2 j))) j (some (ad b))) = fun i => some (ad (va_up M.2 j b i)) := by
    funext i
    unfold va_up
    by_cases h : i = j
    · rw [if_pos h, if_pos h]
    · rw [if_neg h, if_neg h]
  rw [e]
  exact wl_set (k := 34) (M' := mhis M (va_up M.2 j b)) (by decide) rfl (fun k' h => cG_h (r := M.1 k') h) rfl
section VA
variable {Y : Yt} {X : XT} {M : Mm} {pc : Nat} {L : List (Option Value)} {st : List Value} {ins : List (Nat × Instr × Nat)} {nL : Nat} {own : String} {rm : Room} {ret : Option FieldType}
theorem v_aast34 (hX : vOK Y X ins nL own rm ret) {i : Int32} {b : Nat} (hb : isB b) (hin : vp_in i 7) (ix : Nat) (hd : gi ins ix = some (pc, .aastore, 1)) (kk : V Y X (mhis M (va_up M.2 i.toNatClampNeg b)) (pc + 1) L st) : V Y X M pc L (.ref (Y.2.2.2.1 b) :: .int i :: .ref (Y.2.2.2.1 34) :: st) := by
  obtain ⟨l, D, cy, ad, z, sc⟩ := Y
  obtain ⟨p, e, R, s, m, args, below, meth, c, cells, slots, Q, A⟩ := X
  obtain ⟨hx, hcd, hml, hts, hown, hK, ⟨hdd, hda⟩, hN, rfl, hret, hlk, hcl, hsl⟩ := hX
  intro H locs ls hP hS hl
  have hd2 := hcd ix _ hd
  have ha : (wl cy ad sc M)[34]? = some (ad 34, .inl (cy 3, 7, .inr (.inr (.inr (.inr (fun j => some (ad (M.2 j)))))))) := wl_get (by decide) rfl
  have hv : (wl cy ad sc M)[b]? = some (ad b, _) := wl_get (by have := isB_lt hb; omega) (cG_B hb)
  refine va_astq (D := D) (cl := vwCl) (ws := wl cy ad sc M) (tys := tq cy) (r := (RX0, TX0, 6)) hx rfl hK hP (wl_D hdd hda M) hS 34 3 b 0 ha rfl hv rfl hin hd2 (fun H1 locs1 hP1 _ hS1 => ?_)
  rw [wl_mhis] at hP1
  exact kk H1 locs1 ls hP1 hS1 hl
end VA
end
section
theorem upTo {P : Nat → Prop} (N : Nat) (step : ∀ n, n ≤ N → (n < N → P (n + 1)) → P n) : ∀ n, n ≤ N → P n := by
  have h : ∀ d n, n + d = N → P n := by
    intro d
    induction d with
    | zero => intro n hn; exact step n (by omega) (fun h => absurd h (by omega))
    | succ d ih => intro n hn; exact step n (by omega) (fun _ => ih (n + 1) (by omega))
  exact fun n hn => h (N - n) n (by omega)
theorem downTo {P : Nat → Prop} (step : ∀ n, (∀ m, m < n → P m) → P n) : ∀ n, P n := fun n => Nat.strongRecOn n step
theorem nI_inc (n : Nat) : nI n + Int32.ofInt 1 = nI (n + 1) := nI_1 n
theorem nI_dec (n : Nat) : nI (n + 1) + Int32.ofInt (-1) = nI n := by
  rw [nI_succ]
  have e : Int32.ofInt (-1) = -1 := by decide
  rw [e, Int32.add_assoc]
  have e2 : (1 : Int32) + -1 = 0 := by decide
  rw [e2, Int32.add_zero]
def mk (p : Nat → Bool) : Nat → Int32
  | 0 => 0
  | n + 1 => if p n = true then mk p n ||| ((1 : Int32) <<< (nI n &&& 31)) else mk p n
theorem mk_t {p : Nat → Bool} {n : Nat} (h : p n = true) : mk p n ||| ((1 : Int32) <<< (nI n &&& 31)) = mk p (n + 1) := by rw [mk, if_pos h]
theorem mk_f {p : Nat → Bool} {n : Nat} (h : p n = false) : mk p n = mk p (n + 1) := by rw [mk, if_neg (by rw [h]; decide)]
theorem of_le {a k : Nat} (h : nI a ≤ nI k) (ha : a < 2 ^ 31) (hk : k < 2 ^ 31) : a ≤ k := (nI_leI ha hk).mp h
theorem of_nle {a k : Nat} (h : ¬ nI a ≤ nI k) (ha : a < 2 ^ 31) (hk : k < 2 ^ 31) : k < a := Nat.lt_of_not_le (fun q => h ((nI_leI ha hk).mpr q))
theorem of_lt {a k : Nat} (h : nI a < nI k) (ha : a < 2 ^ 31) (hk : k < 2 ^ 31) : a < k := (nI_ltI ha hk).mp h
theorem of_nlt {a k : Nat} (h : ¬ nI a < nI k) (ha : a < 2 ^ 31) (hk : k < 2 ^ 31) : k ≤ a := Nat.le_of_not_lt (fun q => h ((nI_ltI ha hk).mpr q))
def bt (x : Int32) (i : Nat) : Bool := x.toBitVec.getLsbD i
theorem b_ext {x y : Int32} (h : ∀ i, i < 32 → bt x i = bt y i) : x = y := Int32.toBitVec_inj.mp (BitVec.eq_of_getLsbD_eq (fun i hi => h i hi))
theorem b_or (x y : Int32) (i : Nat) : bt (x ||| y) i = (bt x i || bt y i) := by unfold bt; rw [Int32.toBitVec_or, BitVec.getLsbD_or]
theorem b_and (x y : Int32) (i : Nat) : bt (x &&& y) i = (bt x i && bt y i) := by unfold bt; rw [Int32.toBitVec_and, BitVec.getLsbD_and]
theorem b_xor (x y : Int32) (i : Nat) : bt (x ^^^ y) i = (bt x i ^^ bt y i) := by unfold bt; rw [Int32.toBitVec_xor, BitVec.getLsbD_xor]
theorem b_big {x : Int32} {i : Nat} (h : 32 ≤ i) : bt x i = false := BitVec.getLsbD_of_ge _ _ h
theorem b_255 (i : Nat) : bt 255 i = decide (i < 8) := by
  rcases Nat.lt_or_ge i 32 with h | h
  · exact (by decide +kernel : ∀ i, i < 32 → bt 255 i = decide (i < 8)) i h
  · rw [b_big h, decide_eq_false (by omega)]
theorem b_65535 (i : Nat) : bt 65535 i = decide (i < 16) := by
  rcases Nat.lt_or_ge i 32 with h | h
  · exact (by decide +kernel : ∀ i, i < 32 → bt 65535 i = decide (i < 16)) i h
  · rw [b_big h, decide_eq_false (by omega)]
theorem b_m1 : ∀ i, i < 32 → bt (-1) i = true := by decide +kernel
theorem b_0 (i : Nat) : bt 0 i = false := BitVec.getLsbD_zero
theorem s_l : ∀ n, n < 32 → ((nI n &&& 31).toBitVec.smod 32).toNat = n := by decide +kernel
theorem s_u : ∀ n, n < 32 → (((nI n).toUInt32 &&& Int32.toUInt32 31).toBitVec % 32).toNat = n := by decide +kernel
theorem b_shl (n : Nat) (hn : n < 32) (x : Int32) {i : Nat} (hi : i < 32) : bt (x <<< (nI n &&& 31)) i = (decide (n ≤ i) && bt x (i - n)) := by
  unfold bt
  rw [Int32.toBitVec_shiftLeft]
  show (x.toBitVec <<< ((nI n &&& 31).toBitVec.smod 32).toNat).getLsbD i = _
  rw [s_l n hn, BitVec.getLsbD_shiftLeft]
  rcases Nat.lt_or_ge i n with h | h
  · simp [h, Nat.not_le.mpr h]
  · simp [hi, h, Nat.not_lt.mpr h]
theorem b_ushr (n : Nat) (hn : n < 32) (x : Int32) (i : Nat) : bt ((x.toUInt32 >>> ((nI n).toUInt32 &&& Int32.toUInt32 31)).toInt32) i = bt x (n + i) := by
  show (x.toUInt32 >>> ((nI n).toUInt32 &&& Int32.toUInt32 31)).toBitVec.getLsbD i = x.toUInt32.toBitVec.getLsbD (n + i)
  rw [UInt32.toBitVec_shiftRight]
  show (x.toUInt32.toBitVec >>> (((nI n).toUInt32 &&& Int32.toUInt32 31).toBitVec % 32).toNat).getLsbD i = _
  rw [s_u n hn, BitVec.getLsbD_ushiftRight]
theorem b_sshr (n : Nat) (hn : n < 32) (x : Int32) {i : Nat} (hi : i < 32) : bt (x >>> (nI n &&& 31)) i = if n + i < 32 then bt x (n + i) else bt x 31 := by
  unfold bt
  rw [Int32.toBitVec_shiftRight]
  show (x.toBitVec.sshiftRight ((nI n &&& 31).toBitVec.smod 32).toNat).getLsbD i = _
  rw [s_l n hn, BitVec.getLsbD_sshiftRight, BitVec.msb_eq_getLsbD_last]
  simp [hi]
theorem b_shl8 (x : Int32) {i : Nat} (hi : i < 32) : bt (x <<< ((8 : Int32) &&& 31)) i = (decide (8 ≤ i) && bt x (i - 8)) := b_shl 8 (by omega) x hi
theorem b_shl16 (x : Int32) {i : Nat} (hi : i < 32) : bt (x <<< ((16 : Int32) &&& 31)) i = (decide (16 ≤ i) && bt x (i - 16)) := b_shl 16 (by omega) x hi
theorem b_shl24 (x : Int32) {i : Nat} (hi : i < 32) : bt (x <<< ((24 : Int32) &&& 31)) i = (decide (24 ≤ i) && bt x (i - 24)) := b_shl 24 (by omega) x hi
theorem b_sshr8 (x : Int32) {i : Nat} (hi : i < 32) : bt (x >>> ((8 : Int32) &&& 31)) i = if 8 + i < 32 then bt x (8 + i) else bt x 31 := b_sshr 8 (by omega) x hi
def mkF (x : Int32) (p : Nat → Bool) : Nat → Int32
  | 0 => x
  | n + 1 => if p n = true then mkF x p n ||| ((1 : Int32) <<< (nI n &&& 31)) else mkF x p n
theorem mkF_t {x : Int32} {p : Nat → Bool} {n : Nat} (h : p n = true) : mkF x p n ||| ((1 : Int32) <<< (nI n &&& 31)) = mkF x p (n + 1) := by rw [mkF, if_pos h]
theorem mkF_f {x : Int32} {p : Nat → Bool} {n : Nat} (h : p n = false) : mkF x p n = mkF x p (n + 1) := by rw [mkF, if_neg (by rw [h]; decide)]
theorem mk_F (p : Nat → Bool) (n : Nat) : mkF 0 p n = mk p n := by
  induction n with
  | zero => rfl
  | succ n ih => rw [mkF, mk, ih]
def cp (M : Mm) (b : Nat) : Nat → Nat → Int32 := fun i j => M.1 (b + 2 + i) j
def pWd (P : Nat → Nat → Int32) (i : Nat) : Bool := P i 6 != 0
def pCl (P : Nat → Nat → Int32) (i : Nat) : Bool := P i 3 == -6
def pTo (P : Nat → Nat → Int32) (t : Int32) (i : Nat) : Bool := P i 3 == t
def pSd (P : Nat → Nat → Int32) (s : Int32) (i : Nat) : Bool := P i 0 == s
def pLp (P : Nat → Nat → Int32) (d la : Int32) (i : Nat) : Bool := P i 3 != -6 && !decide (d - P i 5 ≤ la)
def pBl (P : Nat → Nat → Int32) (ov : Int32) (i : Nat) : Bool := P i 2 != 0 && (P i 2 &&& (ov ^^^ (-1))) == 0
def tk (P : Nat → Nat → Int32) (pg s : Int32) : Nat → Int32
  | 0 => 0
  | k + 1 => if P k 0 = s ∧ P k 6 = 0 then (if tk P pg s k + P k 1 ≤ pg then tk P pg s k + P k 1 else tk P pg s k) else tk P pg s k
def stK (P : Nat → Nat → Int32) (pg s : Int32) (k : Nat) : Bool := P k 0 == s && P k 6 == 0 && !decide (tk P pg s k + P k 1 ≤ pg)
def pSk (P : Nat → Nat → Int32) (pg : Int32) (i : Nat) : Bool := stK P pg (P i 0) i
def pOut (P : Nat → Nat → Int32) (d la pg ov : Int32) (i : Nat) : Bool := pWd P i || pSk P pg i || pLp P d la i || pBl P ov i
def tgt (P : Nat → Nat → Int32) (i : Nat) : Int32 := if P i 3 = -6 then 0 else (1 : Int32) <<< (P i 3 &&& 31)
def sm (P : Nat → Nat → Int32) (s x : Int32) : Nat → Int32
  | 0 => 0
  | k + 1 => if P k 0 = s ∧ bt x k = false then sm P s x k + P k 1 else sm P s x k
def hasv (x y : Int32) : Int32 := if ((x.toUInt32 >>> (y.toUInt32 &&& Int32.toUInt32 31)).toInt32 &&& 1) = 1 then 1 else 0
theorem hasv_nI (x : Int32) {k : Nat} (hk : k < 32) : hasv x (nI k) = if bt x k = true then 1 else 0 := by
  have e : ((x.toUInt32 >>> ((nI k).toUInt32 &&& Int32.toUInt32 31)).toInt32 &&& 1) = if bt x k = true then 1 else 0 := by
    apply b_ext
    intro i hi
    rw [b_and, b_ushr k hk]
    rcases Nat.eq_zero_or_pos i with rfl | h0
    · rw [Nat.add_zero]
      have h10 : bt (1 : Int32) 0 = true := by decide
      rw [h10, Bool.and_true]
      cases bt x k
      · exact (b_0 0).symm
      · exact h10.symm
    · have h1 : bt (1 : Int32) i = false := by
        have : ∀ i, i < 32 → 0 < i → bt (1 : Int32) i = false := by decide +kernel
        exact this i hi h0
      have h2 : ∀ c : Prop, [Decidable c] → bt (if c then (1 : Int32) else 0) i = false := by
        intro c _
        split
        · exact h1
        · exact b_0 i
      rw [h1, Bool.and_false, h2]
  unfold hasv
  rw [e]
  by_cases h : bt x k = true
  · rw [if_pos h]; rfl
  · rw [if_neg h]; rfl
theorem hasv_0 {x : Int32} {k : Nat} (hk : k < 32) : hasv x (nI k) = 0 ↔ bt x k = false := by
  rw [hasv_nI x hk]
  cases bt x k <;> decide
theorem hasv_01 (x y : Int32) : hasv x y = 0 ∨ hasv x y = 1 := by
  unfold hasv
  split
  · exact Or.inr rfl
  · exact Or.inl rfl
theorem bt_one {k i : Nat} (hk : k < 32) (hi : i < 32) : bt ((1 : Int32) <<< (nI k &&& 31)) i = decide (i = k) := by
  rw [b_shl k hk 1 hi]
  have h1 : ∀ j, j < 32 → bt (1 : Int32) j = decide (j = 0) := by decide +kernel
  rw [h1 (i - k) (by omega)]
  by_cases h : k ≤ i
  · by_cases h2 : i = k
    · subst h2; simp
    · have : i - k ≠ 0 := by omega
      simp [h2, this]
  · have : i ≠ k := by omega
    simp [h, this]
theorem bt_mkF (x : Int32) (p : Nat → Bool) {n i : Nat} (hn : n ≤ 32) (hi : i < 32) : bt (mkF x p n) i = (bt x i || (decide (i < n) && p i)) := by
  induction n with
  | zero => simp [mkF]
  | succ n ih =>
    have ih := ih (by omega)
    rw [mkF]
    by_cases h : p n = true
    · rw [if_pos h, b_or, ih, bt_one (by omega) hi]
      by_cases h2 : i = n
      · subst h2; simp [h]
      · have e : decide (i < n + 1) = decide (i < n) := by by_cases g : i < n <;> simp [g] <;> omega
        simp [h2, e]
    · rw [if_neg h, ih]
      by_cases h2 : i = n
      · subst h2; simp [h]
      · have e : decide (i < n + 1) = decide (i < n) := by by_cases g : i < n <;> simp [g] <;> omega
        simp [e]
theorem bt_mk (p : Nat → Bool) {n i : Nat} (hn : n ≤ 32) (hi : i < 32) : bt (mk p n) i = (decide (i < n) && p i) := by
  rw [← mk_F, bt_mkF 0 p hn hi, b_0, Bool.false_or]
theorem mk_congr {p q : Nat → Bool} {n : Nat} (h : ∀ i, i < n → p i = q i) : mk p n = mk q n := by
  induction n with
  | zero => rfl
  | succ n ih => rw [mk, mk, ih (fun i hi => h i (by omega)), h n (by omega)]
theorem mk_or (p q : Nat → Bool) {n : Nat} (hn : n ≤ 32) : mk p n ||| mk q n = mk (fun i => p i || q i) n := by
  apply b_ext
  intro i hi
  rw [b_or, bt_mk p hn hi, bt_mk q hn hi, bt_mk _ hn hi]
  cases decide (i < n) <;> simp
theorem mk_and (p q : Nat → Bool) {n : Nat} (hn : n ≤ 32) : mk p n &&& mk q n = mk (fun i => p i && q i) n := by
  apply b_ext
  intro i hi
  rw [b_and, bt_mk p hn hi, bt_mk q hn hi, bt_mk _ hn hi]
  cases decide (i < n) <;> simp
theorem mk_not (p q : Nat → Bool) {n : Nat} (hn : n ≤ 32) : mk p n &&& (mk q n ^^^ (-1)) = mk (fun i => p i && !q i) n := by
  apply b_ext
  intro i hi
  rw [b_and, b_xor, bt_mk p hn hi, bt_mk q hn hi, bt_mk _ hn hi, b_m1 i hi]
  cases decide (i < n) <;> simp
theorem mk_xor (p q : Nat → Bool) {n : Nat} (hn : n ≤ 32) : mk p n ^^^ mk q n = mk (fun i => p i ^^ q i) n := by
  apply b_ext
  intro i hi
  rw [b_xor, bt_mk p hn hi, bt_mk q hn hi, bt_mk _ hn hi]
  cases decide (i < n) <;> simp
theorem mk_inj {p q : Nat → Bool} {n : Nat} (hn : n ≤ 32) (h : mk p n = mk q n) : ∀ i, i < n → p i = q i := by
  intro i hi
  have h1 := bt_mk p hn (show i < 32 by omega)
  have h2 := bt_mk q hn (show i < 32 by omega)
  rw [h, h2] at h1
  simpa [hi] using h1.symm
theorem mk_eq_iff {p q : Nat → Bool} {n : Nat} (hn : n ≤ 32) : mk p n = mk q n ↔ ∀ i, i < n → p i = q i := ⟨mk_inj hn, mk_congr⟩
def skA (P : Nat → Nat → Int32) (pg : Int32) (n : Nat) : Nat → Int32
  | 0 => 0
  | s + 1 => mkF (skA P pg n s) (stK P pg (nI s)) n
def WF (P : Nat → Nat → Int32) (n : Nat) : Prop := ∀ i, i < n → (P i 0 = 0 ∨ P i 0 = 1) ∧ (P i 3 = -6 ∨ ∃ t, t < i ∧ P i 3 = nI t) ∧ (P i 6 = 0 ∨ P i 6 = 1)
theorem skA_mk {P : Nat → Nat → Int32} {pg : Int32} {n : Nat} (hw : WF P n) (hn : n ≤ 24) : skA P pg n 2 = mk (pSk P pg) n := by
  apply b_ext
  intro i hi
  rw [skA, skA, skA, bt_mkF _ _ (by omega) hi, bt_mkF _ _ (by omega) hi, bt_mk _ (by omega) hi, b_0, Bool.false_or]
  by_cases h : i < n
  · have e0 : nI 0 = 0 := rfl
    have e1 : nI 1 = 1 := rfl
    rw [e0, e1]
    unfold pSk
    rcases (hw i h).1 with g | g
    · rw [g]
      have : stK P pg 1 i = false := by unfold stK; rw [g]; rfl
      rw [this]; simp
    · rw [g]
      have : stK P pg 0 i = false := by unfold stK; rw [g]; rfl
      rw [this]; simp
  · simp [h]
def bOut (M : Mm) (b : Nat) : Nat → Bool := pOut (cp M b) (M.1 b 2) (M.1 b 4) (M.1 b 5) (M.1 b 3)
theorem out_mk {M : Mm} {b n : Nat} (hw : WF (cp M b) n) (hn : n ≤ 24) : ((mkF 0 (pWd (cp M b)) n ||| skA (cp M b) (M.1 b 5) n 2) ||| mkF 0 (pLp (cp M b) (M.1 b 2) (M.1 b 4)) n) ||| mkF 0 (pBl (cp M b) (M.1 b 3)) n = mk (bOut M b) n := by
  rw [skA_mk hw hn, mk_F, mk_F, mk_F, mk_or _ _ (by omega), mk_or _ _ (by omega), mk_or _ _ (by omega)]
  rfl
def anS (S : Nat → Bool) (P : Nat → Nat → Int32) (n m i : Nat) : Bool := (List.range n).any (fun a => decide (m ≤ a) && (P a 3 == nI i && S a))
def sdF (o q : Nat → Bool) (P : Nat → Nat → Int32) (n : Nat) : Nat → Nat → Bool
  | 0, _ => false
  | f + 1, i => !o i && !q i && !(anS (sdF o q P n f) P n (i + 1) i)
def sd (o q : Nat → Bool) (P : Nat → Nat → Int32) (n i : Nat) : Bool := sdF o q P n (n - i) i
theorem anS_congr {S S' : Nat → Bool} {P : Nat → Nat → Int32} {n m i : Nat} (h : ∀ a, m ≤ a → a < n → S a = S' a) : anS S P n m i = anS S' P n m i := by
  unfold anS
  rw [Bool.eq_iff_iff, List.any_eq_true, List.any_eq_true]
  constructor
  · rintro ⟨a, ha, hb⟩
    refine ⟨a, ha, ?_⟩
    simp only [Bool.and_eq_true, decide_eq_true_eq] at hb ⊢
    exact ⟨hb.1, hb.2.1, by rw [← h a hb.1 (List.mem_range.mp ha)]; exact hb.2.2⟩
  · rintro ⟨a, ha, hb⟩
    refine ⟨a, ha, ?_⟩
    simp only [Bool.and_eq_true, decide_eq_true_eq] at hb ⊢
    exact ⟨hb.1, hb.2.1, by rw [h a hb.1 (List.mem_range.mp ha)]; exact hb.2.2⟩
theorem sdF_fuel {o q : Nat → Bool} {P : Nat → Nat → Int32} {n : Nat} : ∀ f g i, n - i ≤ f → n - i ≤ g → i < n → sdF o q P n f i = sdF o q P n g i := by
  intro f
  induction f with
  | zero => intro g i h1 h2 h3; omega
  | succ f ih =>
    intro g i h1 h2 h3
    cases g with
    | zero => omega
    | succ g =>
      rw [sdF, sdF, anS_congr (fun a ha hb => ih g a (by omega) (by omega) hb)]
theorem sd_eq {o q : Nat → Bool} {P : Nat → Nat → Int32} {n i : Nat} (hi : i < n) : sd o q P n i = (!o i && !q i && !(anS (sd o q P n) P n (i + 1) i)) := by
  have h : sd o q P n i = sdF o q P n (n - i - 1 + 1) i := by unfold sd; congr 1; omega
  rw [h, sdF, anS_congr (S' := sd o q P n) (fun a ha hb => sdF_fuel _ _ a (by omega) (by omega) hb)]
theorem sd_uniq {o q S : Nat → Bool} {P : Nat → Nat → Int32} {n : Nat} (h : ∀ i, i < n → S i = (!o i && !q i && !(anS S P n (i + 1) i))) : ∀ i, i < n → S i = sd o q P n i := by
  have key : ∀ d i, n - i ≤ d → i < n → S i = sd o q P n i := by
    intro d
    induction d with
    | zero => intro i h1 h2; omega
    | succ d ih =>
      intro i h1 h2
      rw [h i h2, sd_eq h2, anS_congr (fun a ha hb => ih a (by omega) hb)]
  exact fun i hi => key (n - i) i (Nat.le_refl _) hi
theorem anS_step {S : Nat → Bool} {P : Nat → Nat → Int32} {n m i : Nat} (hm : m < n) : anS S P n m i = ((P m 3 == nI i && S m) || anS S P n (m + 1) i) := by
  unfold anS
  rw [Bool.eq_iff_iff, Bool.or_eq_true, List.any_eq_true, List.any_eq_true]
  constructor
  · rintro ⟨a, ha, hb⟩
    simp only [Bool.and_eq_true, decide_eq_true_eq] at hb
    rcases Nat.lt_or_ge m a with g | g
    · exact Or.inr ⟨a, ha, by simp only [Bool.and_eq_true, decide_eq_true_eq]; exact ⟨g, hb.2⟩⟩
    · have : a = m := by omega
      subst this
      exact Or.inl (by simp only [Bool.and_eq_true]; exact hb.2)
  · rintro (h | ⟨a, ha, hb⟩)
    · exact ⟨m, List.mem_range.mpr hm, by simp only [Bool.and_eq_true, decide_eq_true_eq]; exact ⟨Nat.le_refl _, by simpa using h⟩⟩
    · simp only [Bool.and_eq_true, decide_eq_true_eq] at hb
      exact ⟨a, ha, by simp only [Bool.and_eq_true, decide_eq_true_eq]; exact ⟨by omega, hb.2⟩⟩
theorem anS_end {S : Nat → Bool} {P : Nat → Nat → Int32} {n i : Nat} : anS S P n n i = false := by
  unfold anS
  rw [Bool.eq_false_iff]
  intro h
  obtain ⟨a, ha, hb⟩ := List.any_eq_true.mp h
  simp only [Bool.and_eq_true, decide_eq_true_eq] at hb
  have := List.mem_range.mp ha
  omega
theorem bt_tgt {P : Nat → Nat → Int32} {n m i : Nat} (hw : WF P n) (hn : n ≤ 24) (hm : m < n) (hi : i < 32) : bt (tgt P m) i = (P m 3 == nI i) := by
  unfold tgt
  have hlit : (-6 : Int32) = nI 4294967290 := by decide
  rcases (hw m hm).2.1 with g | ⟨t, ht, g⟩
  · rw [if_pos g, b_0, g, hlit]
    have : ¬ nI 4294967290 = nI i := by
      have h : ∀ i, i < 32 → ¬ nI 4294967290 = nI i := by decide +kernel
      exact h i hi
    simp [this]
  · have hne : ¬ P m 3 = -6 := by
      rw [g, hlit]
      have h : ∀ t, t < 24 → ¬ nI t = nI 4294967290 := by decide +kernel
      exact h t (by omega)
    rw [if_neg hne, g, bt_one (by omega) hi]
    by_cases e : i = t
    · subst e; simp
    · have : ¬ nI t = nI i := fun h => e ((nI_eq (by omega) (by omega)).mp h).symm
      simp [e, this]
def bSd (M : Mm) (b n : Nat) : Nat → Bool := sd (bOut M b) (fun _ => false) (cp M b) n
def cnt (p : Nat → Bool) : Nat → Nat
  | 0 => 0
  | n + 1 => cnt p n + (if p n = true then 1 else 0)
def fileM (M : Mm) (b n : Nat) (s p c t : Int32) : Mm := mset (mset (mset (mset (mset (mset (mset (mset M (b + 2 + n) 0 s) (b + 2 + n) 1 p) (b + 2 + n) 2 c) (b + 2 + n) 3 t) (b + 2 + n) 4 (M.1 b 2)) (b + 2 + n) 5 (M.1 b 2)) (b + 2 + n) 6 0) b 1 (nI (n + 1))
def cbf (p c : Int32) : Int32 := if p < 1 ∨ 9 < p ∨ c < 0 ∨ 1023 < c then 0 else 1
def fcR (n : Nat) (s p c : Int32) : Int32 := if s < 0 ∨ 1 < s ∨ cbf p c = 0 then -2 else if n < 24 then nI n else -4
def fcM (M : Mm) (b n : Nat) (s p c : Int32) : Mm := if s < 0 ∨ 1 < s ∨ cbf p c = 0 then M else if n < 24 then fileM M b n s p c (-6) else M
def faR (M : Mm) (b n i : Nat) (p c : Int32) : Int32 := if cbf p c = 0 then -2 else if n < 24 then (if M.1 (b + 2 + i) 6 = 0 then nI n else -5) else -4
def faM (M : Mm) (b n i : Nat) (p c : Int32) : Mm := if cbf p c = 0 then M else if n < 24 then (if M.1 (b + 2 + i) 6 = 0 then fileM M b n (1 - M.1 (b + 2 + i) 0) p c (nI i) else M) else M
def adR (M : Mm) (b : Nat) (s v : Int32) : Int32 := if s = 0 ∧ ¬ v < 1 ∧ ¬ 60 < v then M.1 b 4 else if s = 1 ∧ ¬ v < 1 ∧ ¬ 99 < v then M.1 b 5 else -2
def adM (M : Mm) (b : Nat) (s v : Int32) : Mm := if s = 0 ∧ ¬ v < 1 ∧ ¬ 60 < v then mset M b 4 v else if s = 1 ∧ ¬ v < 1 ∧ ¬ 99 < v then mset M b 5 v else M
theorem upd_s {f : Nat → Int32} {k : Nat} {x : Int32} : upd f k x k = x := if_pos rfl
theorem upd_n {f : Nat → Int32} {k j : Nat} {x : Int32} (h : j ≠ k) : upd f k x j = f j := if_neg h
def bc1 (x : Int32) : Int32 := x - ((x.toUInt32 >>> ((1 : Int32).toUInt32 &&& Int32.toUInt32 31)).toInt32 &&& 1431655765)
def bc2 (x : Int32) : Int32 := (x &&& 858993459) + ((x.toUInt32 >>> ((2 : Int32).toUInt32 &&& Int32.toUInt32 31)).toInt32 &&& 858993459)
def bc3 (x : Int32) : Int32 := (x + (x.toUInt32 >>> ((4 : Int32).toUInt32 &&& Int32.toUInt32 31)).toInt32) &&& 252645135
def bc4 (x : Int32) : Int32 := x + (x.toUInt32 >>> ((8 : Int32).toUInt32 &&& Int32.toUInt32 31)).toInt32
def bc5 (x : Int32) : Int32 := x + (x.toUInt32 >>> ((16 : Int32).toUInt32 &&& Int32.toUInt32 31)).toInt32
def bc (x : Int32) : Int32 := bc5 (bc4 (bc3 (bc2 (bc1 x)))) &&& 63
def tbR (M : Mm) (b n i : Nat) : Int32 := if M.1 (b + 2 + i) 6 = 0 then bc (mk (bSd (mset M (b + 2 + i) 6 1) b n) n) else -5
def tbM (M : Mm) (b i : Nat) : Mm := if M.1 (b + 2 + i) 6 = 0 then mset M (b + 2 + i) 6 1 else M
def prR (M : Mm) (b i : Nat) : Int32 := if M.1 (b + 2 + i) 3 = -6 ∨ ¬ M.1 (b + 2 + i) 6 = 0 then -5 else M.1 b 2 - M.1 (b + 2 + i) 5
def prM (M : Mm) (b i : Nat) : Mm := if M.1 (b + 2 + i) 3 = -6 ∨ ¬ M.1 (b + 2 + i) 6 = 0 then M else mset M (b + 2 + i) 5 (M.1 b 2)
def tcR (M : Mm) (b : Nat) (w : Int32) : Int32 := if w < 0 ∨ ¬ w < 10 then -1 else hasv (M.1 b 3 ^^^ ((1 : Int32) <<< (w &&& 31))) w
def tcM (M : Mm) (b : Nat) (w : Int32) : Mm := if w < 0 ∨ ¬ w < 10 then M else mset M b 3 (M.1 b 3 ^^^ ((1 : Int32) <<< (w &&& 31)))
def moR (M : Mm) (b n : Nat) (d : Int32) : Int32 := if d < 1 ∨ ¬ d ≤ 99 then -2 else if M.1 b 2 + d ≤ 999 then bc (mk (bSd (mset M b 2 (M.1 b 2 + d)) b n) n) else -5
def moM (M : Mm) (b : Nat) (d : Int32) : Mm := if d < 1 ∨ ¬ d ≤ 99 then M else if M.1 b 2 + d ≤ 999 then mset M b 2 (M.1 b 2 + d) else M
def rsR (M : Mm) (b n i : Nat) : Int32 := if pWd (cp M b) i = true then 1 else if pSk (cp M b) (M.1 b 5) i = true then 2 else if pLp (cp M b) (M.1 b 2) (M.1 b 4) i = true then 3 else if pBl (cp M b) (M.1 b 3) i = true then 4 else if bSd M b n i = true then 0 else 5
def dpN (P : Nat → Nat → Int32) : Nat → Nat → Nat
  | 0, _ => 0
  | f + 1, i => if P i 3 = -6 then 0 else dpN P f (P i 3).toNatClampNeg + 1
def dlR (M : Mm) (b i : Nat) : Int32 := if M.1 (b + 2 + i) 3 = -6 ∨ ¬ 0 ≤ M.1 (b + 2 + i) 5 + M.1 b 4 - M.1 b 2 then -6 else M.1 (b + 2 + i) 5 + M.1 b 4 - M.1 b 2
def naP (P : Nat → Nat → Int32) (n i : Nat) : Bool := !((List.range n).any (fun a => P a 3 == nI i))
def waA (P : Nat → Nat → Int32) (n : Nat) : Nat → Int32
  | 0 => ((1 : Int32) <<< (nI n &&& 31)) - 1
  | k + 1 => waA P n k &&& (tgt P k ^^^ (-1))
theorem cp_mset_b {M : Mm} {b j : Nat} {v : Int32} : cp (mset M b j v) b = cp M b := by
  funext i j'
  unfold cp
  rw [mset_n (by omega)]
theorem cp_mset_p {M : Mm} {b i j : Nat} {v : Int32} : cp (mset M (b + 2 + i) j v) b = fun i' j' => if i' = i ∧ j' = j then v else cp M b i' j' := by
  funext i' j'
  unfold cp
  by_cases h : i' = i
  · subst h
    rw [mset_s]
    unfold upd
    by_cases g : j' = j
    · simp [g]
    · simp [g]
  · rw [mset_n (by omega)]
    simp [h]
theorem WF_wd {M : Mm} {b n i : Nat} {v : Int32} (hv : v = 0 ∨ v = 1) (h : WF (cp M b) n) : WF (cp (mset M (b + 2 + i) 6 v) b) n := by
  rw [cp_mset_p]
  intro k hk
  obtain ⟨h1, h2, h3⟩ := h k hk
  refine ⟨by simpa using h1, by simpa using h2, ?_⟩
  by_cases g : k = i
  · simp [g, hv]
  · simpa [g] using h3
theorem hasv_ne {x : Int32} {k : Nat} (hk : k < 32) (h : ¬ hasv x (nI k) = 0) : bt x k = true := by
  cases q : bt x k
  · exact absurd ((hasv_0 hk).mpr q) h
  · rfl
theorem hasv_eq {x : Int32} {k : Nat} (hk : k < 32) (h : hasv x (nI k) = 0) : bt x k = false := (hasv_0 hk).mp h
theorem nI_dm (m : Nat) : nI m + Int32.ofInt (-1) = nI m - 1 := by
  have e : Int32.ofInt (-1) = -1 := by decide
  rw [e, Int32.sub_eq_add_neg]
theorem stF {S : Nat → Bool} {n m i : Nat} (h : S m = false) : (decide (i < n) && (decide (m + 1 ≤ i) && S i)) = (decide (i < n) && (decide (m ≤ i) && S i)) := by
  by_cases e : i = m
  · subst e; simp [h]
  · have : decide (m + 1 ≤ i) = decide (m ≤ i) := by by_cases g : m ≤ i <;> simp [g] <;> omega
    rw [this]
theorem stT {S : Nat → Bool} {n m i : Nat} (hm : m < n) (h : S m = true) : ((decide (i < n) && (decide (m + 1 ≤ i) && S i)) || decide (i = m)) = (decide (i < n) && (decide (m ≤ i) && S i)) := by
  by_cases e : i = m
  · subst e; simp [h, hm]
  · have : decide (m + 1 ≤ i) = decide (m ≤ i) := by by_cases g : m ≤ i <;> simp [g] <;> omega
    rw [this]; simp [e]
theorem sd_congr {o o' q q' : Nat → Bool} {P : Nat → Nat → Int32} {n : Nat} (ho : ∀ i, i < n → o i = o' i) (hq : ∀ i, i < n → q i = q' i) : ∀ i, i < n → sd o q P n i = sd o' q' P n i :=
  sd_uniq (fun i hi => by rw [sd_eq hi, ho i hi, hq i hi])
theorem bSd_bt {M : Mm} {b n : Nat} (hn : n ≤ 24) : mk (sd (bt (mk (bOut M b) n)) (bt 0) (cp M b) n) n = mk (bSd M b n) n := by
  refine mk_congr (sd_congr (fun i hi => ?_) (fun i hi => ?_))
  · rw [bt_mk _ (by omega) (by omega)]; simp [hi]
  · exact b_0 i
theorem dpN_fuel {P : Nat → Nat → Int32} {n : Nat} (hw : WF P n) (hn : n ≤ 24) : ∀ f g i, i < f → i < g → i < n → dpN P f i = dpN P g i := by
  intro f
  induction f with
  | zero => intro g i h1; omega
  | succ f ih =>
    intro g i h1 h2 h3
    cases g with
    | zero => omega
    | succ g =>
      rw [dpN, dpN]
      by_cases hc : P i 3 = -6
      · rw [if_pos hc, if_pos hc]
      · rw [if_neg hc, if_neg hc]
        obtain ⟨t, ht, e⟩ := (hw i h3).2.1.resolve_left hc
        rw [e, nI_clamp (by omega), ih g t (by omega) (by omega) (by omega)]
def ptM (M : Mm) (k k2 : Nat) : Mm := (fun k' => if k' = k then (fun j => if j < 7 then M.1 k2 j else M.1 k j) else M.1 k', M.2)
def cpB (M : Mm) (b c n : Nat) : Mm := (fun k => if k = b then (fun j => if 1 ≤ j ∧ j ≤ 5 then M.1 c j else M.1 b j) else if b + 2 ≤ k ∧ k < b + 2 + n then (fun j => if j < 7 then M.1 (c + (k - b)) j else M.1 k j) else M.1 k, M.2)
theorem isB_apart {b c : Nat} (hb : isB b) (hc : isB c) (h : b ≠ c) : b + 26 ≤ c ∨ c + 26 ≤ b := by
  rcases isB_cases hb with g | g | g | g | g | g | g | g | g | g <;> rcases isB_cases hc with g' | g' | g' | g' | g' | g' | g' | g' | g' | g' <;> omega
theorem cpB_b {M : Mm} {b c n : Nat} : (cpB M b c n).1 b = fun j => if 1 ≤ j ∧ j ≤ 5 then M.1 c j else M.1 b j := by unfold cpB; exact if_pos rfl
theorem cpB_in {M : Mm} {b c n i : Nat} (h : i < n) : (cpB M b c n).1 (b + 2 + i) = fun j => if j < 7 then M.1 (c + 2 + i) j else M.1 (b + 2 + i) j := by
  unfold cpB
  show (if b + 2 + i = b then _ else _) = _
  rw [if_neg (by omega), if_pos ⟨by omega, by omega⟩]
  have e : c + (b + 2 + i - b) = c + 2 + i := by omega
  rw [e]
theorem cpB_out {M : Mm} {b c n k : Nat} (h1 : k ≠ b) (h2 : k < b + 2 ∨ b + 2 + n ≤ k) : (cpB M b c n).1 k = M.1 k := by
  unfold cpB
  show (if k = b then _ else _) = _
  rw [if_neg h1, if_neg (by omega)]
theorem cpB_step {M : Mm} {b c k : Nat} (hb : isB b) (hc : isB c) (h : b ≠ c) (hk : k < 24) : ptM (cpB M b c k) (b + 2 + k) (c + 2 + k) = cpB M b c (k + 1) := by
  have ha := isB_apart hb hc h
  refine Prod.ext (funext fun k' => ?_) rfl
  show (if k' = b + 2 + k then (fun j => if j < 7 then (cpB M b c k).1 (c + 2 + k) j else (cpB M b c k).1 (b + 2 + k) j) else (cpB M b c k).1 k') = (cpB M b c (k + 1)).1 k'
  by_cases e : k' = b + 2 + k
  · subst e
    rw [if_pos rfl, cpB_in (n := k + 1) (i := k) (by omega), cpB_out (k := c + 2 + k) (by omega) (by omega), cpB_out (k := b + 2 + k) (by omega) (by omega)]
  · rw [if_neg e]
    unfold cpB
    show (if k' = b then _ else if b + 2 ≤ k' ∧ k' < b + 2 + k then _ else _) = (if k' = b then _ else if b + 2 ≤ k' ∧ k' < b + 2 + (k + 1) then _ else _)
    have e2 : (b + 2 ≤ k' ∧ k' < b + 2 + k) ↔ (b + 2 ≤ k' ∧ k' < b + 2 + (k + 1)) := by constructor <;> (intro g; omega)
    by_cases g : b + 2 ≤ k' ∧ k' < b + 2 + k
    · rw [if_pos g, if_pos (e2.mp g)]
    · rw [if_neg g, if_neg (fun q => g (e2.mpr q))]
theorem cpB_0 {M : Mm} {b c : Nat} (h : b ≠ c) : mset (mset (mset (mset (mset M b 1 (M.1 c 1)) b 2 (M.1 c 2)) b 3 (M.1 c 3)) b 4 (M.1 c 4)) b 5 (M.1 c 5) = cpB M b c 0 := by
  refine Prod.ext (funext fun k' => ?_) rfl
  by_cases e : k' = b
  · subst e
    rw [cpB_b]
    simp only [mset_s]
    funext j
    unfold upd
    by_cases h1 : j = 1
    · subst h1; simp
    by_cases h2 : j = 2
    · subst h2; simp
    by_cases h3 : j = 3
    · subst h3; simp
    by_cases h4 : j = 4
    · subst h4; simp
    by_cases h5 : j = 5
    · subst h5; simp
    have : ¬ (1 ≤ j ∧ j ≤ 5) := by omega
    simp [h1, h2, h3, h4, h5, this]
  · rw [cpB_out e (by omega)]
    simp only [mset_n e]
theorem ptM_7 {M : Mm} {k k2 : Nat} (h : k ≠ k2) : mset (mset (mset (mset (mset (mset (mset M k 0 (M.1 k2 0)) k 1 (M.1 k2 1)) k 2 (M.1 k2 2)) k 3 (M.1 k2 3)) k 4 (M.1 k2 4)) k 5 (M.1 k2 5)) k 6 (M.1 k2 6) = ptM M k k2 := by
  refine Prod.ext (funext fun k' => ?_) rfl
  by_cases e : k' = k
  · subst e
    unfold ptM
    show _ = if k' = k' then _ else _
    rw [if_pos rfl]
    simp only [mset_s]
    funext j
    unfold upd
    by_cases h0 : j = 0
    · subst h0; simp
    by_cases h1 : j = 1
    · subst h1; simp
    by_cases h2 : j = 2
    · subst h2; simp
    by_cases h3 : j = 3
    · subst h3; simp
    by_cases h4 : j = 4
    · subst h4; simp
    by_cases h5 : j = 5
    · subst h5; simp
    by_cases h6 : j = 6
    · subst h6; simp
    have : ¬ j < 7 := by omega
    simp [h0, h1, h2, h3, h4, h5, h6, this]
  · unfold ptM
    show _ = if k' = k then _ else _
    rw [if_neg e]
    simp only [mset_n e]
theorem nar_b {x : Int32} (h : x = 0 ∨ x = 1) : narrow .boolean (.int x) = .int x := by rcases h with rfl | rfl <;> rfl
theorem fit_b {x : Int32} (h : x = 0 ∨ x = 1) : fits .boolean (.int x) = true := by rcases h with rfl | rfl <;> rfl
theorem isB_no {b j : Nat} (hb : isB b) (hj : j < 26) : b + j ≠ 0 ∧ (b + j < 27 ∨ 35 ≤ b + j) ∧ b + j ≠ 217 ∧ b + j < 270 := by
  rcases isB_cases hb with g | g | g | g | g | g | g | g | g | g <;> omega
def mrow (M : Mm) (k : Nat) (f : Nat → Int32) : Mm := (fun k' => if k' = k then f else M.1 k', M.2)
theorem mrow_s {M : Mm} {k : Nat} {f : Nat → Int32} : (mrow M k f).1 k = f := if_pos rfl
theorem mrow_n {M : Mm} {k k' : Nat} {f : Nat → Int32} (h : k' ≠ k) : (mrow M k f).1 k' = M.1 k' := if_neg h
theorem mrow_2 {M : Mm} {k : Nat} {f : Nat → Int32} : (mrow M k f).2 = M.2 := rfl
theorem mset_2 {M : Mm} {k j : Nat} {v : Int32} : (mset M k j v).2 = M.2 := rfl
theorem mset_row {M : Mm} {k j : Nat} {v : Int32} : mset M k j v = mrow M k (upd (M.1 k) j v) := rfl
theorem mrow_mrow {M : Mm} {k : Nat} {f g : Nat → Int32} : mrow (mrow M k f) k g = mrow M k g := by
  refine Prod.ext (funext fun k' => ?_) rfl
  by_cases h : k' = k
  · subst h; rw [mrow_s, mrow_s]
  · rw [mrow_n h, mrow_n h, mrow_n h]
theorem mrow_self {M : Mm} {k : Nat} : mrow M k (M.1 k) = M := by
  refine Prod.ext (funext fun k' => ?_) rfl
  by_cases h : k' = k
  · subst h; rw [mrow_s]
  · rw [mrow_n h]
theorem mset_mrow {M : Mm} {k j : Nat} {f : Nat → Int32} {v : Int32} : mset (mrow M k f) k j v = mrow M k (upd f j v) := by
  rw [mset_row, mrow_s, mrow_mrow]
theorem mrow_comm {M : Mm} {k k2 : Nat} {f g : Nat → Int32} (h : k ≠ k2) : mrow (mrow M k f) k2 g = mrow (mrow M k2 g) k f := by
  refine Prod.ext (funext fun k' => ?_) rfl
  by_cases e : k' = k
  · subst e; rw [mrow_n h, mrow_s, mrow_s]
  · rw [mrow_n e]
    by_cases e2 : k' = k2
    · subst e2; rw [mrow_s, mrow_s]
    · rw [mrow_n e2, mrow_n e2, mrow_n e]
def wM (M : Mm) (q : (Nat → Int32) × (Nat → Int32)) : Mm := mrow (mrow M 28 q.1) 29 q.2
theorem wM_28 {M : Mm} {q : (Nat → Int32) × (Nat → Int32)} {j : Nat} {v : Int32} : mset (wM M q) 28 j v = wM M (upd q.1 j v, q.2) := by
  unfold wM
  rw [mset_row, mrow_n (by decide), mrow_s, mrow_comm (k := 29) (k2 := 28) (by decide), mrow_mrow]
theorem wM_29 {M : Mm} {q : (Nat → Int32) × (Nat → Int32)} {j : Nat} {v : Int32} : mset (wM M q) 29 j v = wM M (q.1, upd q.2 j v) := by
  unfold wM
  rw [mset_mrow]
theorem wM_r28 {M : Mm} {q : (Nat → Int32) × (Nat → Int32)} : (wM M q).1 28 = q.1 := by unfold wM; rw [mrow_n (by decide), mrow_s]
theorem wM_r29 {M : Mm} {q : (Nat → Int32) × (Nat → Int32)} : (wM M q).1 29 = q.2 := by unfold wM; rw [mrow_s]
theorem wM_n {M : Mm} {q : (Nat → Int32) × (Nat → Int32)} {k : Nat} (h : k < 28 ∨ 30 ≤ k) : (wM M q).1 k = M.1 k := by unfold wM; rw [mrow_n (by omega), mrow_n (by omega)]
theorem wM_self {M : Mm} : wM M (M.1 28, M.1 29) = M := by unfold wM; rw [mrow_comm (by decide), mrow_self, mrow_self]
def imin (x y : Int32) : Int32 := if y < x then y else x
def att (t : Int32) (x y : Int32) (q : (Nat → Int32) × (Nat → Int32)) : (Nat → Int32) × (Nat → Int32) := if t = -6 then q else (upd q.1 t.toNatClampNeg (imin (q.1 t.toNatClampNeg) y), upd q.2 t.toNatClampNeg (imin 1000 (q.2 t.toNatClampNeg + x)))
def wS1 (o na : Nat → Bool) (i : Nat) (q : (Nat → Int32) × (Nat → Int32)) : (Nat → Int32) × (Nat → Int32) := (if o i = true then upd q.1 i 0 else if na i = true then upd q.1 i 1 else q.1, if o i = true then upd q.2 i 1000 else q.2)
def wStep (P : Nat → Nat → Int32) (o na : Nat → Bool) (i : Nat) (q : (Nat → Int32) × (Nat → Int32)) : (Nat → Int32) × (Nat → Int32) := att (P i 3) ((wS1 o na i q).1 i) ((wS1 o na i q).2 i) (wS1 o na i q)
def wAll (P : Nat → Nat → Int32) (o na : Nat → Bool) (n : Nat) (q0 : (Nat → Int32) × (Nat → Int32)) : Nat → (Nat → Int32) × (Nat → Int32)
  | 0 => q0
  | k + 1 => if 23 - k < n then wStep P o na (23 - k) (wAll P o na n q0 k) else wAll P o na n q0 k
def wI (M : Mm) (k : Nat) : (Nat → Int32) × (Nat → Int32) := (fun j => if j < k then 1000 else M.1 28 j, fun j => if j < k then 0 else M.1 29 j)
theorem wI_0 {M : Mm} : wM M (wI M 0) = M := by
  have e : wI M 0 = (M.1 28, M.1 29) := by unfold wI; simp
  rw [e, wM_self]
theorem fill_s {f : Nat → Int32} {v : Int32} {k : Nat} : upd (fun j => if j < k then v else f j) k v = fun j => if j < k + 1 then v else f j := by
  funext j
  unfold upd
  by_cases h : j = k
  · subst h; simp
  · have : (j < k + 1) ↔ (j < k) := by constructor <;> (intro g; omega)
    simp [h, this]
theorem wI_s {M : Mm} {k : Nat} : mset (mset (wM M (wI M k)) 28 k 1000) 29 k 0 = wM M (wI M (k + 1)) := by
  rw [wM_28, wM_29]
  unfold wI
  rw [fill_s, fill_s]
theorem bt_all {n i : Nat} (hn : n ≤ 24) (hi : i < 32) : bt (((1 : Int32) <<< (nI n &&& 31)) - 1) i = decide (i < n) := by
  have h : ∀ n, n < 25 → ∀ i, i < 32 → bt (((1 : Int32) <<< (nI n &&& 31)) - 1) i = decide (i < n) := by decide +kernel
  exact h n (by omega) i hi
theorem bt_waA {P : Nat → Nat → Int32} {n k i : Nat} (hw : WF P n) (hn : n ≤ 24) (hk : k ≤ n) (hi : i < 32) : bt (waA P n k) i = (decide (i < n) && !((List.range k).any (fun a => P a 3 == nI i))) := by
  induction k with
  | zero => rw [waA, bt_all hn hi]; simp
  | succ k ih =>
    rw [waA, b_and, ih (by omega), b_xor, bt_tgt hw hn (by omega) hi, b_m1 i hi, List.range_succ, List.any_append]
    simp only [List.any_cons, List.any_nil, Bool.or_false, Bool.xor_true]
    cases decide (i < n) <;> cases (List.range k).any (fun a => P a 3 == nI i) <;> cases (P k 3 == nI i) <;> rfl
theorem wa_mk {P : Nat → Nat → Int32} {n : Nat} (hw : WF P n) (hn : n ≤ 24) : waA P n n = mk (naP P n) n := by
  apply b_ext
  intro i hi
  rw [bt_waA hw hn (Nat.le_refl n) hi, bt_mk _ (by omega) hi]
  rfl
theorem all_mk {n : Nat} (hn : n ≤ 24) : (((1 : Int32) <<< (nI n &&& 31)) - 1) = mk (fun _ => true) n := by
  apply b_ext
  intro i hi
  rw [bt_all hn hi, bt_mk _ (by omega) hi, Bool.and_true]
def rot (h : Nat → Nat) : Nat → Nat := fun i => if i < 6 then h (i + 1) else if i = 6 then h 0 else h i
def roS (h : Nat → Nat) (k : Nat) : Nat → Nat := fun i => if i < k then h (i + 1) else if i = k then h 0 else h i
theorem roS_0 {h : Nat → Nat} : roS h 0 = h := by
  funext i
  unfold roS
  by_cases e : i = 0
  · subst e; simp
  · simp [e]
theorem roS_s {h : Nat → Nat} {k : Nat} (_hk : k < 6) : va_up (va_up (roS h k) k (h (k + 1))) (k + 1) (h 0) = roS h (k + 1) := by
  funext i
  unfold va_up roS
  by_cases e : i = k + 1
  · subst e; simp
  · by_cases e2 : i = k
    · subst e2; simp
    · have : (i < k + 1) ↔ (i < k) := by constructor <;> (intro g; omega)
      simp [e, e2, this]
theorem roS_e {h : Nat → Nat} : roS h 6 = rot h := rfl
theorem mhis_2 {M : Mm} {h : Nat → Nat} : (mhis M h).2 = h := rfl
theorem mhis_1 {M : Mm} {h : Nat → Nat} : (mhis M h).1 = M.1 := rfl
theorem mhis_mhis {M : Mm} {h g : Nat → Nat} : mhis (mhis M h) g = mhis M g := rfl
theorem mhis_self {M : Mm} : mhis M M.2 = M := rfl
def seM (M : Mm) (k : Nat) (x : Int32) : Mm := if x < 0 then M else if k < 6 then mset M 33 1 (nI (k + 1)) else mhis M (rot M.2)
def sgn (x : Int64) (p : Int32) : Int32 := (((x.toUInt64 >>> ((8 * p).toInt64.toUInt64 &&& Int64.toUInt64 63)).toInt64 &&& 255).toInt32.toUInt32 % 65536).toInt32
def snE (x : Int64) (k : Nat) : Int32 := if k < 8 ∧ ¬ lg_cmp ((x.toUInt64 >>> ((8 * nI k).toInt64.toUInt64 &&& Int64.toUInt64 63)).toInt64) 0 = 0 then 0 else nI k
def snL (x : Int64) : Nat → Nat → Int32
  | 0, k => snE x k
  | f + 1, k => if sgn x (nI k) = 0 then snE x k else if sgn x (nI k) < 33 ∨ ¬ sgn x (nI k) ≤ 126 then 0 else snL x f (k + 1)
def chA (s : Nat → Int32) (l a : Nat) : Int32 := if a < l then s a else 0
def isCh (M : Mm) (l : Nat) : Prop := ∀ j, j < l → narrow .char (.int (M.1 31 j)) = .int (M.1 31 j) ∧ fits .char (.int (M.1 31 j)) = true
end
section
set_option maxRecDepth 100000 in
set_option maxHeartbeats 4000000 in
theorem f_has {Y : Yt} {M : Mm} {x y : Int32} : Fn Y yX6_has wsX6_has { frames := 0, cells := 0, slots := 0, locals := 0 } [.int x, .int y] M (some (.int (hasv x y))) M := by
  refine Fn.of (cc := cX6_has) (ins := iX6_has) (maxL := 2) (ret := (some .boolean)) (by decide) dX6_has [some (.int x), some (.int y)] (Nat.le_of_ble_eq_true rfl) rfl rfl ?_
  intro X hX hQ
  refine v_iload_n hX 0 0 rfl rfl rfl ?_
  refine v_iload_n hX 1 1 rfl rfl rfl ?_
  refine v_iushr hX 2 rfl rfl ?_
  refine v_iconst hX (v := 1) 3 rfl (by decide) ?_
  refine v_iand hX 4 rfl ?_
  refine v_iconst hX (v := 1) 5 rfl (by decide) ?_
  refine v_icmp_ne hX (tgt := 13) 6 rfl (by decide) (fun c6 => ?_) (fun c6 => ?_)
  · skip
    refine v_iconst hX (v := 0) 9 rfl (by decide) ?_
    refine v_iret hX hQ rfl rfl ?_ ?_ 10 rfl
    · simp [hasv, c6]
    · rfl
  · skip
    refine v_iconst hX (v := 1) 7 rfl (by decide) ?_
    refine v_goto hX (tgt := 14) 8 rfl (by decide) ?_
    refine v_iret hX hQ rfl rfl ?_ ?_ 10 rfl
    · simp [hasv, c6]
    · rfl
set_option maxRecDepth 100000 in
set_option maxHeartbeats 4000000 in
theorem f_find_in {Y : Yt} {M : Mm} {b n i : Nat} (hb : isB b) (hz : M.1 b 1 = nI n) (hn : n ≤ 24) (hi : i < n) : Fn Y yX0_find wsX0_find { frames := 0, cells := 0, slots := 0, locals := 0 } [.ref (Y.2.2.2.1 b), .int (nI i)] M (some (.ref (Y.2.2.2.1 (b + 2 + i)))) M := by
  refine Fn.of (cc := cX0_find) (ins := iX0_find) (maxL := 2) (ret := (some (.object "PointAnswers$Point"))) (by decide) dX0_find [some (.ref (Y.2.2.2.1 b)), some (.int (nI i))] (Nat.le_of_ble_eq_true rfl) rfl rfl ?_
  intro X hX hQ
  refine v_iload_n hX 1 0 rfl rfl rfl ?_
  refine v_if_lt hX (tgt := 30) 1 rfl (by decide) (fun c1 => absurd c1 (nI_nlt (Nat.zero_le _) (by omega))) (fun c1 => ?_)
  refine v_iload_n hX 1 2 rfl rfl rfl ?_
  refine v_aload_n hX 0 3 rfl rfl rfl ?_
  refine g_0_1 hX 4 hb tw_105 rfl ?_
  refine v_icmp_ge hX (tgt := 30) 5 rfl (by decide) (fun c9 => absurd c9 (by rw [hz]; exact nI_ge hi (by omega))) (fun c9 => ?_)
  refine v_iload_n hX 1 6 rfl rfl rfl ?_
  refine v_aload_n hX 0 7 rfl rfl rfl ?_
  refine g_0_0 hX 8 hb tw_104 rfl ?_
  refine v_alen hX (v := nI 24) (k := b + 1) (by have := isB_lt hb; omega) (cG_R hb) rfl rfl 9 rfl ?_
  refine v_icmp_ge hX (tgt := 30) 10 rfl (by decide) (fun c18 => absurd c18 (nI_ge (show i < 24 by omega) (by omega))) (fun c18 => ?_)
  refine v_aload_n hX 0 11 rfl rfl rfl ?_
  refine g_0_0 hX 12 hb tw_104 rfl ?_
  refine v_iload_n hX 1 13 rfl rfl rfl ?_
  refine v_aald hX (k := b + 1) (v := Y.2.2.2.1 (b + 2 + i)) (by have := isB_lt hb; omega) (cG_R hb) rfl (vp_in_nI (by omega) (by decide)) (by rw [nI_clamp (by omega)]) 14 rfl ?_
  refine v_goto hX (tgt := 31) 15 rfl (by decide) ?_
  refine v_aret hX hQ rfl (Or.inl ⟨_, rfl⟩) (Or.inr ⟨_, rfl⟩) ?_ ?_ 17 rfl
  · rfl
  · rfl
set_option maxRecDepth 100000 in
set_option maxHeartbeats 4000000 in
theorem f_find_out {Y : Yt} {M : Mm} {b n : Nat} {x : Int32} (hb : isB b) (hz : M.1 b 1 = nI n) (hx : x < 0 ∨ nI n ≤ x) : Fn Y yX0_find wsX0_find { frames := 0, cells := 0, slots := 0, locals := 0 } [.ref (Y.2.2.2.1 b), .int x] M (some .null) M := by
  refine Fn.of (cc := cX0_find) (ins := iX0_find) (maxL := 2) (ret := (some (.object "PointAnswers$Point"))) (by decide) dX0_find [some (.ref (Y.2.2.2.1 b)), some (.int x)] (Nat.le_of_ble_eq_true rfl) rfl rfl ?_
  intro X hX hQ
  refine v_iload_n hX 1 0 rfl rfl rfl ?_
  refine v_if_lt hX (tgt := 30) 1 rfl (by decide) (fun c1 => ?_) (fun c1 => ?_)
  · skip
    refine v_null hX 16 rfl ?_
    refine v_aret hX hQ rfl (Or.inl ⟨_, rfl⟩) (Or.inl rfl) ?_ ?_ 17 rfl
    · rfl
    · rfl
  · skip
    refine v_iload_n hX 1 2 rfl rfl rfl ?_
    refine v_aload_n hX 0 3 rfl rfl rfl ?_
    refine g_0_1 hX 4 hb tw_105 rfl ?_
    refine v_icmp_ge hX (tgt := 30) 5 rfl (by decide) (fun c9 => ?_) (fun c9 => absurd (by rw [hz]; exact hx.resolve_left c1) c9)
    refine v_null hX 16 rfl ?_
    refine v_aret hX hQ rfl (Or.inl ⟨_, rfl⟩) (Or.inl rfl) ?_ ?_ 17 rfl
    · rfl
    · rfl
set_option maxRecDepth 100000 in
set_option maxHeartbeats 4000000 in
theorem f_withdrawn {Y : Yt} {M : Mm} {b n : Nat} (hb : isB b) (hz : M.1 b 1 = nI n) (hn : n ≤ 24) : Fn Y yX0_withdrawn wsX0_withdrawn { frames := 1, cells := 0, slots := 0, locals := 21 } [.ref (Y.2.2.2.1 b)] M (some (.int (mkF 0 (pWd (cp M b)) n))) M := by
  refine Fn.of (cc := cX0_withdrawn) (ins := iX0_withdrawn) (maxL := 4) (ret := (some .int)) (by decide) dX0_withdrawn [some (.ref (Y.2.2.2.1 b)), none, none, none] (Nat.le_of_ble_eq_true rfl) rfl rfl ?_
  intro X hX hQ
  refine v_iconst hX (v := 0) 0 rfl (by decide) ?_
  refine v_istore_n hX 1 1 rfl rfl (Nat.le_of_ble_eq_true rfl) rfl ?_
  refine v_iconst hX (v := 0) 2 rfl (by decide) ?_
  refine v_istore_n hX 2 3 rfl rfl (Nat.le_of_ble_eq_true rfl) rfl ?_
  have lp : ∀ (k : Nat), k ≤ n → V Y X M 4 [some (.ref (Y.2.2.2.1 b)), some (.int (mkF 0 (pWd (cp M b)) k)), some (.int (nI k)), none] [] := by
    refine upTo n (fun k hk ih => ?_)
    refine v_iload_n hX 2 4 rfl rfl rfl ?_
    refine v_aload_n hX 0 5 rfl rfl rfl ?_
    refine g_0_1 hX 6 hb tw_105 rfl ?_
    refine v_icmp_ge hX (tgt := 41) 7 rfl (by decide) (fun c9 => ?_) (fun c9 => ?_)
    · skip
      have hk2 : k = n := by rw [hz] at c9; have := of_le c9 (by omega) (by omega); omega
      refine v_iload_n hX 1 25 rfl rfl rfl ?_
      refine v_iret hX hQ rfl rfl ?_ ?_ 26 rfl
      · rw [hk2]
      · rfl
    · skip
      have hk2 : k < n := by rw [hz] at c9; exact of_nle c9 (by omega) (by omega)
      refine v_aload_n hX 0 8 rfl rfl rfl ?_
      refine v_iload_n hX 2 9 rfl rfl rfl ?_
      refine v_callV hX 1 (by have := isB_lt hb; omega) (cG_B hb) rfl (f_find_in hb hz hn hk2) tw_232 tw_229 tw_231 tw_3 tw_40 (by decide +kernel) ⟨⟨rfl, rfl⟩, Nat.le_of_ble_eq_true rfl, Nat.le_of_ble_eq_true rfl⟩ rfl (Nat.le_of_ble_eq_true rfl) rfl rfl 10 rfl ?_
      refine v_astore_n hX 3 11 rfl rfl (Nat.le_of_ble_eq_true rfl) rfl ?_
      refine v_aload_n hX 3 12 rfl rfl rfl ?_
      refine v_ifnull hX 13 rfl ?_
      refine v_aload_n hX 3 14 rfl rfl rfl ?_
      refine gN_4_6 hX 15 hb (by omega) (List.mem_of_getElem? (i := 12) rfl) rfl ?_
      refine v_if_eq hX (tgt := 35) 16 rfl (by decide) (fun c26 => ?_) (fun c26 => ?_)
      · skip
        refine v_iinc hX 23 rfl rfl (nI_inc k) (Nat.le_of_ble_eq_true rfl) rfl ?_
        refine v_goto hX (tgt := 4) 24 rfl (by decide) ?_
        exact V.sub (ih hk2) rfl ⟨rfl, (by first | rfl | (refine congrArg (fun z : Int32 => some (Value.int z)) ?_; simp [mkF, pWd, cp, c9, c26])), rfl, trivial⟩
      · skip
        refine v_iload_n hX 1 17 rfl rfl rfl ?_
        refine v_iconst hX (v := 1) 18 rfl (by decide) ?_
        refine v_iload_n hX 2 19 rfl rfl rfl ?_
        refine v_ishl hX 20 rfl ?_
        refine v_ior hX 21 rfl ?_
        refine v_istore_n hX 1 22 rfl rfl (Nat.le_of_ble_eq_true rfl) rfl ?_
        refine v_iinc hX 23 rfl rfl (nI_inc k) (Nat.le_of_ble_eq_true rfl) rfl ?_
        refine v_goto hX (tgt := 4) 24 rfl (by decide) ?_
        exact V.sub (ih hk2) rfl ⟨rfl, (by first | rfl | (refine congrArg (fun z : Int32 => some (Value.int z)) ?_; simp [mkF, pWd, cp, c9, c26])), rfl, trivial⟩
  exact V.sub (lp 0 (Nat.zero_le _)) rfl ⟨rfl, (by first | rfl | (refine congrArg (fun z : Int32 => some (Value.int z)) ?_; rfl)), rfl, trivial⟩
set_option maxRecDepth 100000 in
set_option maxHeartbeats 4000000 in
theorem f_lapsedOn {Y : Yt} {M : Mm} {d : Int32} {b n : Nat} (hb : isB b) (hz : M.1 b 1 = nI n) (hn : n ≤ 24) : Fn Y yX0_lapsedOn wsX0_lapsedOn { frames := 1, cells := 0, slots := 0, locals := 21 } [.ref (Y.2.2.2.1 b), .int d] M (some (.int (mkF 0 (pLp (cp M b) d (M.1 b 4)) n))) M := by
  refine Fn.of (cc := cX0_lapsedOn) (ins := iX0_lapsedOn) (maxL := 5) (ret := (some .int)) (by decide) dX0_lapsedOn [some (.ref (Y.2.2.2.1 b)), some (.int d), none, none, none] (Nat.le_of_ble_eq_true rfl) rfl rfl ?_
  intro X hX hQ
  refine v_iconst hX (v := 0) 0 rfl (by decide) ?_
  refine v_istore_n hX 2 1 rfl rfl (Nat.le_of_ble_eq_true rfl) rfl ?_
  refine v_iconst hX (v := 0) 2 rfl (by decide) ?_
  refine v_istore_n hX 3 3 rfl rfl (Nat.le_of_ble_eq_true rfl) rfl ?_
  have lp : ∀ (k : Nat), k ≤ n → V Y X M 4 [some (.ref (Y.2.2.2.1 b)), some (.int d), some (.int (mkF 0 (pLp (cp M b) d (M.1 b 4)) k)), some (.int (nI k)), none] [] := by
    refine upTo n (fun k hk ih => ?_)
    refine v_iload_n hX 3 4 rfl rfl rfl ?_
    refine v_aload_n hX 0 5 rfl rfl rfl ?_
    refine g_0_1 hX 6 hb tw_105 rfl ?_
    refine v_icmp_ge hX (tgt := 60) 7 rfl (by decide) (fun c9 => ?_) (fun c9 => ?_)
    · skip
      have hk2 : k = n := by rw [hz] at c9; have := of_le c9 (by omega) (by omega); omega
      refine v_iload_n hX 2 33 rfl rfl rfl ?_
      refine v_iret hX hQ rfl rfl ?_ ?_ 34 rfl
      · rw [hk2]
      · rfl
    · skip
      have hk2 : k < n := by rw [hz] at c9; exact of_nle c9 (by omega) (by omega)
      refine v_aload_n hX 0 8 rfl rfl rfl ?_
      refine v_iload_n hX 3 9 rfl rfl rfl ?_
      refine v_callV hX 1 (by have := isB_lt hb; omega) (cG_B hb) rfl (f_find_in hb hz hn hk2) tw_232 tw_229 tw_231 tw_3 tw_40 (by decide +kernel) ⟨⟨rfl, rfl⟩, Nat.le_of_ble_eq_true rfl, Nat.le_of_ble_eq_true rfl⟩ rfl (Nat.le_of_ble_eq_true rfl) rfl rfl 10 rfl ?_
      refine v_astore hX 11 rfl (Nat.le_of_ble_eq_true rfl) rfl ?_
      refine v_aload hX 12 rfl rfl ?_
      refine v_ifnull hX 13 rfl ?_
      refine v_aload hX 14 rfl rfl ?_
      refine gN_4_3 hX 15 hb (by omega) (List.mem_of_getElem? (i := 7) rfl) rfl ?_
      refine v_bipush hX (v := (-6)) 16 rfl (by decide) ?_
      refine v_icmp_eq hX (tgt := 54) 17 rfl (by decide) (fun c31 => ?_) (fun c31 => ?_)
      · skip
        refine v_iinc hX 31 rfl rfl (nI_inc k) (Nat.le_of_ble_eq_true rfl) rfl ?_
        refine v_goto hX (tgt := 4) 32 rfl (by decide) ?_
        exact V.sub (ih hk2) rfl ⟨rfl, rfl, (by first | rfl | (refine congrArg (fun z : Int32 => some (Value.int z)) ?_; simp [mkF, pLp, cp, c9, c31])), rfl, trivial⟩
      · skip
        refine v_iload_n hX 1 18 rfl rfl rfl ?_
        refine v_aload hX 19 rfl rfl ?_
        refine gN_4_5 hX 20 hb (by omega) (List.mem_of_getElem? (i := 11) rfl) rfl ?_
        refine v_isub hX 21 rfl ?_
        refine v_aload_n hX 0 22 rfl rfl rfl ?_
        refine g_0_4 hX 23 hb tw_111 rfl ?_
        refine v_icmp_le hX (tgt := 54) 24 rfl (by decide) (fun c45 => ?_) (fun c45 => ?_)
        · skip
          refine v_iinc hX 31 rfl rfl (nI_inc k) (Nat.le_of_ble_eq_true rfl) rfl ?_
          refine v_goto hX (tgt := 4) 32 rfl (by decide) ?_
          exact V.sub (ih hk2) rfl ⟨rfl, rfl, (by first | rfl | (refine congrArg (fun z : Int32 => some (Value.int z)) ?_; simp [mkF, pLp, cp, c9, c31, c45])), rfl, trivial⟩
        · skip
          refine v_iload_n hX 2 25 rfl rfl rfl ?_
          refine v_iconst hX (v := 1) 26 rfl (by decide) ?_
          refine v_iload_n hX 3 27 rfl rfl rfl ?_
          refine v_ishl hX 28 rfl ?_
          refine v_ior hX 29 rfl ?_
          refine v_istore_n hX 2 30 rfl rfl (Nat.le_of_ble_eq_true rfl) rfl ?_
          refine v_iinc hX 31 rfl rfl (nI_inc k) (Nat.le_of_ble_eq_true rfl) rfl ?_
          refine v_goto hX (tgt := 4) 32 rfl (by decide) ?_
          exact V.sub (ih hk2) rfl ⟨rfl, rfl, (by first | rfl | (refine congrArg (fun z : Int32 => some (Value.int z)) ?_; simp [mkF, pLp, cp, c9, c31, c45])), rfl, trivial⟩
  exact V.sub (lp 0 (Nat.zero_le _)) rfl ⟨rfl, rfl, (by first | rfl | (refine congrArg (fun z : Int32 => some (Value.int z)) ?_; rfl)), rfl, trivial⟩
set_option maxRecDepth 100000 in
set_option maxHeartbeats 4000000 in
theorem f_baseless {Y : Yt} {M : Mm} {b n : Nat} (hb : isB b) (hz : M.1 b 1 = nI n) (hn : n ≤ 24) : Fn Y yX0_baseless wsX0_baseless { frames := 1, cells := 0, slots := 0, locals := 21 } [.ref (Y.2.2.2.1 b)] M (some (.int (mkF 0 (pBl (cp M b) (M.1 b 3)) n))) M := by
  refine Fn.of (cc := cX0_baseless) (ins := iX0_baseless) (maxL := 4) (ret := (some .int)) (by decide) dX0_baseless [some (.ref (Y.2.2.2.1 b)), none, none, none] (Nat.le_of_ble_eq_true rfl) rfl rfl ?_
  intro X hX hQ
  refine v_iconst hX (v := 0) 0 rfl (by decide) ?_
  refine v_istore_n hX 1 1 rfl rfl (Nat.le_of_ble_eq_true rfl) rfl ?_
  refine v_iconst hX (v := 0) 2 rfl (by decide) ?_
  refine v_istore_n hX 2 3 rfl rfl (Nat.le_of_ble_eq_true rfl) rfl ?_
  have lp : ∀ (k : Nat), k ≤ n → V Y X M 4 [some (.ref (Y.2.2.2.1 b)), some (.int (mkF 0 (pBl (cp M b) (M.1 b 3)) k)), some (.int (nI k)), none] [] := by
    refine upTo n (fun k hk ih => ?_)
    refine v_iload_n hX 2 4 rfl rfl rfl ?_
    refine v_aload_n hX 0 5 rfl rfl rfl ?_
    refine g_0_1 hX 6 hb tw_105 rfl ?_
    refine v_icmp_ge hX (tgt := 55) 7 rfl (by decide) (fun c9 => ?_) (fun c9 => ?_)
    · skip
      have hk2 : k = n := by rw [hz] at c9; have := of_le c9 (by omega) (by omega); omega
      refine v_iload_n hX 1 33 rfl rfl rfl ?_
      refine v_iret hX hQ rfl rfl ?_ ?_ 34 rfl
      · rw [hk2]
      · rfl
    · skip
      have hk2 : k < n := by rw [hz] at c9; exact of_nle c9 (by omega) (by omega)
      refine v_aload_n hX 0 8 rfl rfl rfl ?_
      refine v_iload_n hX 2 9 rfl rfl rfl ?_
      refine v_callV hX 1 (by have := isB_lt hb; omega) (cG_B hb) rfl (f_find_in hb hz hn hk2) tw_232 tw_229 tw_231 tw_3 tw_40 (by decide +kernel) ⟨⟨rfl, rfl⟩, Nat.le_of_ble_eq_true rfl, Nat.le_of_ble_eq_true rfl⟩ rfl (Nat.le_of_ble_eq_true rfl) rfl rfl 10 rfl ?_
      refine v_astore_n hX 3 11 rfl rfl (Nat.le_of_ble_eq_true rfl) rfl ?_
      refine v_aload_n hX 3 12 rfl rfl rfl ?_
      refine v_ifnull hX 13 rfl ?_
      refine v_aload_n hX 3 14 rfl rfl rfl ?_
      refine gN_4_2 hX 15 hb (by omega) (List.mem_of_getElem? (i := 4) rfl) rfl ?_
      refine v_if_eq hX (tgt := 49) 16 rfl (by decide) (fun c26 => ?_) (fun c26 => ?_)
      · skip
        refine v_iinc hX 31 rfl rfl (nI_inc k) (Nat.le_of_ble_eq_true rfl) rfl ?_
        refine v_goto hX (tgt := 4) 32 rfl (by decide) ?_
        exact V.sub (ih hk2) rfl ⟨rfl, (by first | rfl | (refine congrArg (fun z : Int32 => some (Value.int z)) ?_; simp_all [mkF, pBl, cp, c9, c26])), rfl, trivial⟩
      · skip
        refine v_aload_n hX 3 17 rfl rfl rfl ?_
        refine gN_4_2 hX 18 hb (by omega) (List.mem_of_getElem? (i := 4) rfl) rfl ?_
        refine v_aload_n hX 0 19 rfl rfl rfl ?_
        refine g_0_3 hX 20 hb tw_109 rfl ?_
        refine v_iconst hX (v := (-1)) 21 rfl (by decide) ?_
        refine v_ixor hX 22 rfl ?_
        refine v_iand hX 23 rfl ?_
        refine v_if_ne hX (tgt := 49) 24 rfl (by decide) (fun c40 => ?_) (fun c40 => ?_)
        · skip
          refine v_iinc hX 31 rfl rfl (nI_inc k) (Nat.le_of_ble_eq_true rfl) rfl ?_
          refine v_goto hX (tgt := 4) 32 rfl (by decide) ?_
          exact V.sub (ih hk2) rfl ⟨rfl, (by first | rfl | (refine congrArg (fun z : Int32 => some (Value.int z)) ?_; simp_all [mkF, pBl, cp, c9, c26, c40])), rfl, trivial⟩
        · skip
          refine v_iload_n hX 1 25 rfl rfl rfl ?_
          refine v_iconst hX (v := 1) 26 rfl (by decide) ?_
          refine v_iload_n hX 2 27 rfl rfl rfl ?_
          refine v_ishl hX 28 rfl ?_
          refine v_ior hX 29 rfl ?_
          refine v_istore_n hX 1 30 rfl rfl (Nat.le_of_ble_eq_true rfl) rfl ?_
          refine v_iinc hX 31 rfl rfl (nI_inc k) (Nat.le_of_ble_eq_true rfl) rfl ?_
          refine v_goto hX (tgt := 4) 32 rfl (by decide) ?_
          exact V.sub (ih hk2) rfl ⟨rfl, (by first | rfl | (refine congrArg (fun z : Int32 => some (Value.int z)) ?_; simp_all [mkF, pBl, cp, c9, c26, c40])), rfl, trivial⟩
  exact V.sub (lp 0 (Nat.zero_le _)) rfl ⟨rfl, (by first | rfl | (refine congrArg (fun z : Int32 => some (Value.int z)) ?_; rfl)), rfl, trivial⟩
set_option maxRecDepth 100000 in
set_option maxHeartbeats 4000000 in
theorem f_answersTo {Y : Yt} {M : Mm} {t : Int32} {b n : Nat} (hb : isB b) (hz : M.1 b 1 = nI n) (hn : n ≤ 24) : Fn Y yX0_answersTo wsX0_answersTo { frames := 1, cells := 0, slots := 0, locals := 21 } [.ref (Y.2.2.2.1 b), .int t] M (some (.int (mkF 0 (pTo (cp M b) t) n))) M := by
  refine Fn.of (cc := cX0_answersTo) (ins := iX0_answersTo) (maxL := 5) (ret := (some .int)) (by decide) dX0_answersTo [some (.ref (Y.2.2.2.1 b)), some (.int t), none, none, none] (Nat.le_of_ble_eq_true rfl) rfl rfl ?_
  intro X hX hQ
  refine v_iconst hX (v := 0) 0 rfl (by decide) ?_
  refine v_istore_n hX 2 1 rfl rfl (Nat.le_of_ble_eq_true rfl) rfl ?_
  refine v_iconst hX (v := 0) 2 rfl (by decide) ?_
  refine v_istore_n hX 3 3 rfl rfl (Nat.le_of_ble_eq_true rfl) rfl ?_
  have lp : ∀ (k : Nat), k ≤ n → V Y X M 4 [some (.ref (Y.2.2.2.1 b)), some (.int t), some (.int (mkF 0 (pTo (cp M b) t) k)), some (.int (nI k)), none] [] := by
    refine upTo n (fun k hk ih => ?_)
    refine v_iload_n hX 3 4 rfl rfl rfl ?_
    refine v_aload_n hX 0 5 rfl rfl rfl ?_
    refine g_0_1 hX 6 hb tw_105 rfl ?_
    refine v_icmp_ge hX (tgt := 45) 7 rfl (by decide) (fun c9 => ?_) (fun c9 => ?_)
    · skip
      have hk2 : k = n := by rw [hz] at c9; have := of_le c9 (by omega) (by omega); omega
      refine v_iload_n hX 2 26 rfl rfl rfl ?_
      refine v_iret hX hQ rfl rfl ?_ ?_ 27 rfl
      · rw [hk2]
      · rfl
    · skip
      have hk2 : k < n := by rw [hz] at c9; exact of_nle c9 (by omega) (by omega)
      refine v_aload_n hX 0 8 rfl rfl rfl ?_
      refine v_iload_n hX 3 9 rfl rfl rfl ?_
      refine v_callV hX 1 (by have := isB_lt hb; omega) (cG_B hb) rfl (f_find_in hb hz hn hk2) tw_232 tw_229 tw_231 tw_3 tw_40 (by decide +kernel) ⟨⟨rfl, rfl⟩, Nat.le_of_ble_eq_true rfl, Nat.le_of_ble_eq_true rfl⟩ rfl (Nat.le_of_ble_eq_true rfl) rfl rfl 10 rfl ?_
      refine v_astore hX 11 rfl (Nat.le_of_ble_eq_true rfl) rfl ?_
      refine v_aload hX 12 rfl rfl ?_
      refine v_ifnull hX 13 rfl ?_
      refine v_aload hX 14 rfl rfl ?_
      refine gN_4_3 hX 15 hb (by omega) (List.mem_of_getElem? (i := 7) rfl) rfl ?_
      refine v_iload_n hX 1 16 rfl rfl rfl ?_
      refine v_icmp_ne hX (tgt := 39) 17 rfl (by decide) (fun c30 => ?_) (fun c30 => ?_)
      · skip
        refine v_iinc hX 24 rfl rfl (nI_inc k) (Nat.le_of_ble_eq_true rfl) rfl ?_
        refine v_goto hX (tgt := 4) 25 rfl (by decide) ?_
        exact V.sub (ih hk2) rfl ⟨rfl, rfl, (by first | rfl | (refine congrArg (fun z : Int32 => some (Value.int z)) ?_; simp [mkF, pTo, cp, c9, c30])), rfl, trivial⟩
      · skip
        refine v_iload_n hX 2 18 rfl rfl rfl ?_
        refine v_iconst hX (v := 1) 19 rfl (by decide) ?_
        refine v_iload_n hX 3 20 rfl rfl rfl ?_
        refine v_ishl hX 21 rfl ?_
        refine v_ior hX 22 rfl ?_
        refine v_istore_n hX 2 23 rfl rfl (Nat.le_of_ble_eq_true rfl) rfl ?_
        refine v_iinc hX 24 rfl rfl (nI_inc k) (Nat.le_of_ble_eq_true rfl) rfl ?_
        refine v_goto hX (tgt := 4) 25 rfl (by decide) ?_
        exact V.sub (ih hk2) rfl ⟨rfl, rfl, (by first | rfl | (refine congrArg (fun z : Int32 => some (Value.int z)) ?_; simp [mkF, pTo, cp, c9, c30])), rfl, trivial⟩
  exact V.sub (lp 0 (Nat.zero_le _)) rfl ⟨rfl, rfl, (by first | rfl | (refine congrArg (fun z : Int32 => some (Value.int z)) ?_; rfl)), rfl, trivial⟩
set_option maxRecDepth 100000 in
set_option maxHeartbeats 4000000 in
theorem f_ofSide {Y : Yt} {M : Mm} {t : Int32} {b n : Nat} (hb : isB b) (hz : M.1 b 1 = nI n) (hn : n ≤ 24) : Fn Y yX0_ofSide wsX0_ofSide { frames := 1, cells := 0, slots := 0, locals := 21 } [.ref (Y.2.2.2.1 b), .int t] M (some (.int (mkF 0 (pSd (cp M b) t) n))) M := by
  refine Fn.of (cc := cX0_ofSide) (ins := iX0_ofSide) (maxL := 5) (ret := (some .int)) (by decide) dX0_ofSide [some (.ref (Y.2.2.2.1 b)), some (.int t), none, none, none] (Nat.le_of_ble_eq_true rfl) rfl rfl ?_
  intro X hX hQ
  refine v_iconst hX (v := 0) 0 rfl (by decide) ?_
  refine v_istore_n hX 2 1 rfl rfl (Nat.le_of_ble_eq_true rfl) rfl ?_
  refine v_iconst hX (v := 0) 2 rfl (by decide) ?_
  refine v_istore_n hX 3 3 rfl rfl (Nat.le_of_ble_eq_true rfl) rfl ?_
  have lp : ∀ (k : Nat), k ≤ n → V Y X M 4 [some (.ref (Y.2.2.2.1 b)), some (.int t), some (.int (mkF 0 (pSd (cp M b) t) k)), some (.int (nI k)), none] [] := by
    refine upTo n (fun k hk ih => ?_)
    refine v_iload_n hX 3 4 rfl rfl rfl ?_
    refine v_aload_n hX 0 5 rfl rfl rfl ?_
    refine g_0_1 hX 6 hb tw_105 rfl ?_
    refine v_icmp_ge hX (tgt := 45) 7 rfl (by decide) (fun c9 => ?_) (fun c9 => ?_)
    · skip
      have hk2 : k = n := by rw [hz] at c9; have := of_le c9 (by omega) (by omega); omega
      refine v_iload_n hX 2 26 rfl rfl rfl ?_
      refine v_iret hX hQ rfl rfl ?_ ?_ 27 rfl
      · rw [hk2]
      · rfl
    · skip
      have hk2 : k < n := by rw [hz] at c9; exact of_nle c9 (by omega) (by omega)
      refine v_aload_n hX 0 8 rfl rfl rfl ?_
      refine v_iload_n hX 3 9 rfl rfl rfl ?_
      refine v_callV hX 1 (by have := isB_lt hb; omega) (cG_B hb) rfl (f_find_in hb hz hn hk2) tw_232 tw_229 tw_231 tw_3 tw_40 (by decide +kernel) ⟨⟨rfl, rfl⟩, Nat.le_of_ble_eq_true rfl, Nat.le_of_ble_eq_true rfl⟩ rfl (Nat.le_of_ble_eq_true rfl) rfl rfl 10 rfl ?_
      refine v_astore hX 11 rfl (Nat.le_of_ble_eq_true rfl) rfl ?_
      refine v_aload hX 12 rfl rfl ?_
      refine v_ifnull hX 13 rfl ?_
      refine v_aload hX 14 rfl rfl ?_
      refine gN_4_0 hX 15 hb (by omega) (List.mem_of_getElem? (i := 0) rfl) rfl ?_
      refine v_iload_n hX 1 16 rfl rfl rfl ?_
      refine v_icmp_ne hX (tgt := 39) 17 rfl (by decide) (fun c30 => ?_) (fun c30 => ?_)
      · skip
        refine v_iinc hX 24 rfl rfl (nI_inc k) (Nat.le_of_ble_eq_true rfl) rfl ?_
        refine v_goto hX (tgt := 4) 25 rfl (by decide) ?_
        exact V.sub (ih hk2) rfl ⟨rfl, rfl, (by first | rfl | (refine congrArg (fun z : Int32 => some (Value.int z)) ?_; simp [mkF, pSd, cp, c9, c30])), rfl, trivial⟩
      · skip
        refine v_iload_n hX 2 18 rfl rfl rfl ?_
        refine v_iconst hX (v := 1) 19 rfl (by decide) ?_
        refine v_iload_n hX 3 20 rfl rfl rfl ?_
        refine v_ishl hX 21 rfl ?_
        refine v_ior hX 22 rfl ?_
        refine v_istore_n hX 2 23 rfl rfl (Nat.le_of_ble_eq_true rfl) rfl ?_
        refine v_iinc hX 24 rfl rfl (nI_inc k) (Nat.le_of_ble_eq_true rfl) rfl ?_
        refine v_goto hX (tgt := 4) 25 rfl (by decide) ?_
        exact V.sub (ih hk2) rfl ⟨rfl, rfl, (by first | rfl | (refine congrArg (fun z : Int32 => some (Value.int z)) ?_; simp [mkF, pSd, cp, c9, c30])), rfl, trivial⟩
  exact V.sub (lp 0 (Nat.zero_le _)) rfl ⟨rfl, rfl, (by first | rfl | (refine congrArg (fun z : Int32 => some (Value.int z)) ?_; rfl)), rfl, trivial⟩
set_option maxRecDepth 100000 in
set_option maxHeartbeats 4000000 in
theorem f_claims {Y : Yt} {M : Mm} {b n : Nat} (hb : isB b) (hz : M.1 b 1 = nI n) (hn : n ≤ 24) : Fn Y yX0_claims wsX0_claims { frames := 2, cells := 0, slots := 0, locals := 45 } [.ref (Y.2.2.2.1 b)] M (some (.int (mkF 0 (pTo (cp M b) (-6)) n))) M := by
  refine Fn.of (cc := cX0_claims) (ins := iX0_claims) (maxL := 1) (ret := (some .int)) (by decide) dX0_claims [some (.ref (Y.2.2.2.1 b))] (Nat.le_of_ble_eq_true rfl) rfl rfl ?_
  intro X hX hQ
  refine v_aload_n hX 0 0 rfl rfl rfl ?_
  refine v_bipush hX (v := (-6)) 1 rfl (by decide) ?_
  refine v_callV hX 1 (by have := isB_lt hb; omega) (cG_B hb) rfl (f_answersTo hb hz hn) tw_378 tw_398 tw_377 tw_25 tw_40 (by decide +kernel) ⟨⟨rfl, rfl⟩, Nat.le_of_ble_eq_true rfl, Nat.le_of_ble_eq_true rfl⟩ rfl (Nat.le_of_ble_eq_true rfl) rfl rfl 2 rfl ?_
  refine v_iret hX hQ rfl rfl ?_ ?_ 3 rfl
  · rfl
  · rfl
set_option maxRecDepth 100000 in
set_option maxHeartbeats 4000000 in
theorem f_struck {Y : Yt} {M : Mm} {b n : Nat} (hb : isB b) (hz : M.1 b 1 = nI n) (hn : n ≤ 24) : Fn Y yX0_struck wsX0_struck { frames := 1, cells := 0, slots := 0, locals := 21 } [.ref (Y.2.2.2.1 b)] M (some (.int (skA (cp M b) (M.1 b 5) n 2))) M := by
  refine Fn.of (cc := cX0_struck) (ins := iX0_struck) (maxL := 6) (ret := (some .int)) (by decide) dX0_struck [some (.ref (Y.2.2.2.1 b)), none, none, none, none, none] (Nat.le_of_ble_eq_true rfl) rfl rfl ?_
  intro X hX hQ
  refine v_iconst hX (v := 0) 0 rfl (by decide) ?_
  refine v_istore_n hX 1 1 rfl rfl (Nat.le_of_ble_eq_true rfl) rfl ?_
  refine v_iconst hX (v := 0) 2 rfl (by decide) ?_
  refine v_istore_n hX 2 3 rfl rfl (Nat.le_of_ble_eq_true rfl) rfl ?_
  have lp : ∀ (s : Nat), s ≤ 2 → V Y X M 4 [some (.ref (Y.2.2.2.1 b)), some (.int (skA (cp M b) (M.1 b 5) n s)), some (.int (nI s)), none, none, none] [] := by
    refine upTo 2 (fun s hs ih => ?_)
    refine v_iload_n hX 2 4 rfl rfl rfl ?_
    refine v_iconst hX (v := 1) 5 rfl (by decide) ?_
    refine v_icmp_gt hX (tgt := 100) 6 rfl (by decide) (fun c6 => ?_) (fun c6 => ?_)
    · skip
      have hs2 : s = 2 := by have := of_lt (a := 1) c6 (by omega) (by omega); omega
      refine v_iload_n hX 1 52 rfl rfl rfl ?_
      refine v_iret hX hQ rfl rfl ?_ ?_ 53 rfl
      · rw [hs2]
      · rfl
    · skip
      have hs2 : s < 2 := by have := of_nlt (a := 1) c6 (by omega) (by omega); omega
      refine v_iconst hX (v := 0) 7 rfl (by decide) ?_
      refine v_istore_n hX 3 8 rfl rfl (Nat.le_of_ble_eq_true rfl) rfl ?_
      refine v_iconst hX (v := 0) 9 rfl (by decide) ?_
      refine v_istore hX 10 rfl (Nat.le_of_ble_eq_true rfl) rfl ?_
      have lq : ∀ (k : Nat), k ≤ n → V Y X M 14 [some (.ref (Y.2.2.2.1 b)), some (.int (mkF (skA (cp M b) (M.1 b 5) n s) (stK (cp M b) (M.1 b 5) (nI s)) k)), some (.int (nI s)), some (.int (tk (cp M b) (M.1 b 5) (nI s) k)), some (.int (nI k)), none] [] := by
        refine upTo n (fun k hk ihi => ?_)
        refine v_iload hX 11 rfl rfl ?_
        refine v_aload_n hX 0 12 rfl rfl rfl ?_
        refine g_0_1 hX 13 hb tw_105 rfl ?_
        refine v_icmp_ge hX (tgt := 94) 14 rfl (by decide) (fun c20 => ?_) (fun c20 => ?_)
        · skip
          have hk2 : k = n := by rw [hz] at c20; have := of_le c20 (by omega) (by omega); omega
          refine v_iinc hX 50 rfl rfl (nI_inc s) (Nat.le_of_ble_eq_true rfl) rfl ?_
          refine v_goto hX (tgt := 4) 51 rfl (by decide) ?_
          exact V.sub (ih hs2) rfl ⟨rfl, (by first | rfl | (refine congrArg (fun z : Int32 => some (Value.int z)) ?_; rw [hk2]; rfl)), rfl, trivial⟩
        · skip
          have hk2 : k < n := by rw [hz] at c20; exact of_nle c20 (by omega) (by omega)
          refine v_aload_n hX 0 15 rfl rfl rfl ?_
          refine v_iload hX 16 rfl rfl ?_
          refine v_callV hX 1 (by have := isB_lt hb; omega) (cG_B hb) rfl (f_find_in hb hz hn hk2) tw_232 tw_229 tw_231 tw_3 tw_40 (by decide +kernel) ⟨⟨rfl, rfl⟩, Nat.le_of_ble_eq_true rfl, Nat.le_of_ble_eq_true rfl⟩ rfl (Nat.le_of_ble_eq_true rfl) rfl rfl 17 rfl ?_
          refine v_astore hX 18 rfl (Nat.le_of_ble_eq_true rfl) rfl ?_
          refine v_aload hX 19 rfl rfl ?_
          refine v_ifnull hX 20 rfl ?_
          refine v_aload hX 21 rfl rfl ?_
          refine gN_4_0 hX 22 hb (by omega) (List.mem_of_getElem? (i := 0) rfl) rfl ?_
          refine v_iload_n hX 2 23 rfl rfl rfl ?_
          refine v_icmp_ne hX (tgt := 88) 24 rfl (by decide) (fun c42 => ?_) (fun c42 => ?_)
          · skip
            refine v_iinc hX 48 rfl rfl (nI_inc k) (Nat.le_of_ble_eq_true rfl) rfl ?_
            refine v_goto hX (tgt := 14) 49 rfl (by decide) ?_
            exact V.sub (ihi hk2) rfl ⟨rfl, (by first | rfl | (refine congrArg (fun z : Int32 => some (Value.int z)) ?_; simp [mkF, stK, tk, cp, c6, c20, c42])), rfl, (by first | rfl | (refine congrArg (fun z : Int32 => some (Value.int z)) ?_; simp [mkF, stK, tk, cp, c6, c20, c42])), rfl, trivial⟩
          · skip
            refine v_aload hX 25 rfl rfl ?_
            refine gN_4_6 hX 26 hb (by omega) (List.mem_of_getElem? (i := 12) rfl) rfl ?_
            refine v_if_eq hX (tgt := 56) 27 rfl (by decide) (fun c50 => ?_) (fun c50 => ?_)
            · skip
              refine v_iload_n hX 3 29 rfl rfl rfl ?_
              refine v_aload hX 30 rfl rfl ?_
              refine gN_4_1 hX 31 hb (by omega) (List.mem_of_getElem? (i := 2) rfl) rfl ?_
              refine v_iadd hX 32 rfl ?_
              refine v_aload_n hX 0 33 rfl rfl rfl ?_
              refine g_0_5 hX 34 hb tw_113 rfl ?_
              refine v_icmp_le hX (tgt := 80) 35 rfl (by decide) (fun c67 => ?_) (fun c67 => ?_)
              · skip
                refine v_iload_n hX 3 43 rfl rfl rfl ?_
                refine v_aload hX 44 rfl rfl ?_
                refine gN_4_1 hX 45 hb (by omega) (List.mem_of_getElem? (i := 2) rfl) rfl ?_
                refine v_iadd hX 46 rfl ?_
                refine v_istore_n hX 3 47 rfl rfl (Nat.le_of_ble_eq_true rfl) rfl ?_
                refine v_iinc hX 48 rfl rfl (nI_inc k) (Nat.le_of_ble_eq_true rfl) rfl ?_
                refine v_goto hX (tgt := 14) 49 rfl (by decide) ?_
                exact V.sub (ihi hk2) rfl ⟨rfl, (by first | rfl | (refine congrArg (fun z : Int32 => some (Value.int z)) ?_; simp [mkF, stK, tk, cp, c6, c20, c42, c50, c67])), rfl, (by first | rfl | (refine congrArg (fun z : Int32 => some (Value.int z)) ?_; simp [mkF, stK, tk, cp, c6, c20, c42, c50, c67])), rfl, trivial⟩
              · skip
                refine v_iload_n hX 1 36 rfl rfl rfl ?_
                refine v_iconst hX (v := 1) 37 rfl (by decide) ?_
                refine v_iload hX 38 rfl rfl ?_
                refine v_ishl hX 39 rfl ?_
                refine v_ior hX 40 rfl ?_
                refine v_istore_n hX 1 41 rfl rfl (Nat.le_of_ble_eq_true rfl) rfl ?_
                refine v_goto hX (tgt := 88) 42 rfl (by decide) ?_
                refine v_iinc hX 48 rfl rfl (nI_inc k) (Nat.le_of_ble_eq_true rfl) rfl ?_
                refine v_goto hX (tgt := 14) 49 rfl (by decide) ?_
                exact V.sub (ihi hk2) rfl ⟨rfl, (by first | rfl | (refine congrArg (fun z : Int32 => some (Value.int z)) ?_; simp [mkF, stK, tk, cp, c6, c20, c42, c50, c67])), rfl, (by first | rfl | (refine congrArg (fun z : Int32 => some (Value.int z)) ?_; simp [mkF, stK, tk, cp, c6, c20, c42, c50, c67])), rfl, trivial⟩
            · skip
              refine v_goto hX (tgt := 88) 28 rfl (by decide) ?_
              refine v_iinc hX 48 rfl rfl (nI_inc k) (Nat.le_of_ble_eq_true rfl) rfl ?_
              refine v_goto hX (tgt := 14) 49 rfl (by decide) ?_
              exact V.sub (ihi hk2) rfl ⟨rfl, (by first | rfl | (refine congrArg (fun z : Int32 => some (Value.int z)) ?_; simp [mkF, stK, tk, cp, c6, c20, c42, c50])), rfl, (by first | rfl | (refine congrArg (fun z : Int32 => some (Value.int z)) ?_; simp [mkF, stK, tk, cp, c6, c20, c42, c50])), rfl, trivial⟩
      exact V.sub (lq 0 (Nat.zero_le _)) rfl ⟨rfl, (by first | rfl | (refine congrArg (fun z : Int32 => some (Value.int z)) ?_; simp [mkF, stK, tk, cp, c6])), rfl, (by first | rfl | (refine congrArg (fun z : Int32 => some (Value.int z)) ?_; simp [mkF, stK, tk, cp, c6])), rfl, trivial⟩
  exact V.sub (lp 0 (Nat.zero_le _)) rfl ⟨rfl, (by first | rfl | (refine congrArg (fun z : Int32 => some (Value.int z)) ?_; rfl)), rfl, trivial⟩
set_option maxRecDepth 100000 in
set_option maxHeartbeats 4000000 in
theorem f_out {Y : Yt} {M : Mm} {b n : Nat} (hb : isB b) (hz : M.1 b 1 = nI n) (hn : n ≤ 24) (hw : WF (cp M b) n) : Fn Y yX0_out wsX0_out { frames := 2, cells := 0, slots := 0, locals := 46 } [.ref (Y.2.2.2.1 b)] M (some (.int (mk (bOut M b) n))) M := by
  refine Fn.of (cc := cX0_out) (ins := iX0_out) (maxL := 1) (ret := (some .int)) (by decide) dX0_out [some (.ref (Y.2.2.2.1 b))] (Nat.le_of_ble_eq_true rfl) rfl rfl ?_
  intro X hX hQ
  refine v_aload_n hX 0 0 rfl rfl rfl ?_
  refine v_callV hX 0 (by have := isB_lt hb; omega) (cG_B hb) rfl (f_withdrawn hb hz hn) tw_295 tw_292 tw_294 tw_15 tw_40 (by decide +kernel) ⟨⟨rfl, rfl⟩, Nat.le_of_ble_eq_true rfl, Nat.le_of_ble_eq_true rfl⟩ rfl (Nat.le_of_ble_eq_true rfl) rfl rfl 1 rfl ?_
  refine v_aload_n hX 0 2 rfl rfl rfl ?_
  refine v_callV hX 0 (by have := isB_lt hb; omega) (cG_B hb) rfl (f_struck hb hz hn) tw_299 tw_296 tw_298 tw_16 tw_40 (by decide +kernel) ⟨⟨rfl, rfl⟩, Nat.le_of_ble_eq_true rfl, Nat.le_of_ble_eq_true rfl⟩ rfl (Nat.le_of_ble_eq_true rfl) rfl rfl 3 rfl ?_
  refine v_ior hX 4 rfl ?_
  refine v_aload_n hX 0 5 rfl rfl rfl ?_
  refine v_aload_n hX 0 6 rfl rfl rfl ?_
  refine g_0_2 hX 7 hb tw_107 rfl ?_
  refine v_callV hX 1 (by have := isB_lt hb; omega) (cG_B hb) rfl (f_lapsedOn hb hz hn) tw_303 tw_300 tw_302 tw_17 tw_40 (by decide +kernel) ⟨⟨rfl, rfl⟩, Nat.le_of_ble_eq_true rfl, Nat.le_of_ble_eq_true rfl⟩ rfl (Nat.le_of_ble_eq_true rfl) rfl rfl 8 rfl ?_
  refine v_ior hX 9 rfl ?_
  refine v_aload_n hX 0 10 rfl rfl rfl ?_
  refine v_callV hX 0 (by have := isB_lt hb; omega) (cG_B hb) rfl (f_baseless hb hz hn) tw_307 tw_304 tw_306 tw_18 tw_40 (by decide +kernel) ⟨⟨rfl, rfl⟩, Nat.le_of_ble_eq_true rfl, Nat.le_of_ble_eq_true rfl⟩ rfl (Nat.le_of_ble_eq_true rfl) rfl rfl 11 rfl ?_
  refine v_ior hX 12 rfl ?_
  refine v_iret hX hQ rfl rfl ?_ ?_ 13 rfl
  · rw [out_mk hw hn]
  · rfl
set_option maxRecDepth 100000 in
set_option maxHeartbeats 4000000 in
theorem f_targetOf {Y : Yt} {M : Mm} {b n i : Nat} (hb : isB b) (hz : M.1 b 1 = nI n) (hn : n ≤ 24) (hi : i < n) : Fn Y yX0_targetOf wsX0_targetOf { frames := 1, cells := 0, slots := 0, locals := 21 } [.ref (Y.2.2.2.1 b), .int (nI i)] M (some (.int (tgt (cp M b) i))) M := by
  refine Fn.of (cc := cX0_targetOf) (ins := iX0_targetOf) (maxL := 3) (ret := (some .int)) (by decide) dX0_targetOf [some (.ref (Y.2.2.2.1 b)), some (.int (nI i)), none] (Nat.le_of_ble_eq_true rfl) rfl rfl ?_
  intro X hX hQ
  refine v_aload_n hX 0 0 rfl rfl rfl ?_
  refine v_iload_n hX 1 1 rfl rfl rfl ?_
  refine v_callV hX 1 (by have := isB_lt hb; omega) (cG_B hb) rfl (f_find_in hb hz hn hi) tw_232 tw_229 tw_231 tw_3 tw_40 (by decide +kernel) ⟨⟨rfl, rfl⟩, Nat.le_of_ble_eq_true rfl, Nat.le_of_ble_eq_true rfl⟩ rfl (Nat.le_of_ble_eq_true rfl) rfl rfl 2 rfl ?_
  refine v_astore_n hX 2 3 rfl rfl (Nat.le_of_ble_eq_true rfl) rfl ?_
  refine v_aload_n hX 2 4 rfl rfl rfl ?_
  refine v_ifnull hX 5 rfl ?_
  refine v_aload_n hX 2 6 rfl rfl rfl ?_
  refine gN_4_3 hX 7 hb (by omega) (List.mem_of_getElem? (i := 7) rfl) rfl ?_
  refine v_bipush hX (v := (-6)) 8 rfl (by decide) ?_
  refine v_icmp_ne hX (tgt := 23) 9 rfl (by decide) (fun c16 => ?_) (fun c16 => ?_)
  · skip
    refine v_iconst hX (v := 1) 12 rfl (by decide) ?_
    refine v_aload_n hX 2 13 rfl rfl rfl ?_
    refine gN_4_3 hX 14 hb (by omega) (List.mem_of_getElem? (i := 7) rfl) rfl ?_
    refine v_ishl hX 15 rfl ?_
    refine v_iret hX hQ rfl rfl ?_ ?_ 16 rfl
    · simp [tgt, cp, c16]
    · rfl
  · skip
    refine v_iconst hX (v := 0) 10 rfl (by decide) ?_
    refine v_goto hX (tgt := 29) 11 rfl (by decide) ?_
    refine v_iret hX hQ rfl rfl ?_ ?_ 16 rfl
    · simp [tgt, cp, c16]
    · rfl
set_option maxRecDepth 100000 in
set_option maxHeartbeats 4000000 in
theorem f_freeRow_in {Y : Yt} {M : Mm} {b n : Nat} (hb : isB b) (hz : M.1 b 1 = nI n) (hn : n < 24) : Fn Y yX0_freeRow wsX0_freeRow { frames := 0, cells := 0, slots := 0, locals := 0 } [.ref (Y.2.2.2.1 b)] M (some (.ref (Y.2.2.2.1 (b + 2 + n)))) M := by
  refine Fn.of (cc := cX0_freeRow) (ins := iX0_freeRow) (maxL := 1) (ret := (some (.object "PointAnswers$Point"))) (by decide) dX0_freeRow [some (.ref (Y.2.2.2.1 b))] (Nat.le_of_ble_eq_true rfl) rfl rfl ?_
  intro X hX hQ
  refine v_aload_n hX 0 0 rfl rfl rfl ?_
  refine g_0_1 hX 1 hb tw_105 rfl ?_
  refine v_if_lt hX (tgt := 31) 2 rfl (by decide) (fun c4 => absurd c4 (by rw [hz]; exact nI_pos (by omega))) (fun c4 => ?_)
  refine v_aload_n hX 0 3 rfl rfl rfl ?_
  refine g_0_1 hX 4 hb tw_105 rfl ?_
  refine v_aload_n hX 0 5 rfl rfl rfl ?_
  refine g_0_0 hX 6 hb tw_104 rfl ?_
  refine v_alen hX (v := nI 24) (k := b + 1) (by have := isB_lt hb; omega) (cG_R hb) rfl rfl 7 rfl ?_
  refine v_icmp_ge hX (tgt := 31) 8 rfl (by decide) (fun c16 => absurd c16 (by rw [hz]; exact nI_ge hn (by omega))) (fun c16 => ?_)
  refine v_aload_n hX 0 9 rfl rfl rfl ?_
  refine g_0_0 hX 10 hb tw_104 rfl ?_
  refine v_aload_n hX 0 11 rfl rfl rfl ?_
  refine g_0_1 hX 12 hb tw_105 rfl ?_
  refine v_aald hX (k := b + 1) (v := Y.2.2.2.1 (b + 2 + n)) (by have := isB_lt hb; omega) (cG_R hb) rfl (by rw [hz]; exact vp_in_nI hn (by decide)) (by rw [hz, nI_clamp (by omega)]) 13 rfl ?_
  refine v_goto hX (tgt := 32) 14 rfl (by decide) ?_
  refine v_aret hX hQ rfl (Or.inl ⟨_, rfl⟩) (Or.inr ⟨_, rfl⟩) ?_ ?_ 16 rfl
  · rfl
  · rfl
set_option maxRecDepth 100000 in
set_option maxHeartbeats 4000000 in
theorem f_freeRow_out {Y : Yt} {M : Mm} {b n : Nat} (hb : isB b) (hz : M.1 b 1 = nI n) (hn : n = 24) : Fn Y yX0_freeRow wsX0_freeRow { frames := 0, cells := 0, slots := 0, locals := 0 } [.ref (Y.2.2.2.1 b)] M (some .null) M := by
  refine Fn.of (cc := cX0_freeRow) (ins := iX0_freeRow) (maxL := 1) (ret := (some (.object "PointAnswers$Point"))) (by decide) dX0_freeRow [some (.ref (Y.2.2.2.1 b))] (Nat.le_of_ble_eq_true rfl) rfl rfl ?_
  intro X hX hQ
  refine v_aload_n hX 0 0 rfl rfl rfl ?_
  refine g_0_1 hX 1 hb tw_105 rfl ?_
  refine v_if_lt hX (tgt := 31) 2 rfl (by decide) (fun c4 => absurd c4 (by rw [hz]; exact nI_pos (by omega))) (fun c4 => ?_)
  refine v_aload_n hX 0 3 rfl rfl rfl ?_
  refine g_0_1 hX 4 hb tw_105 rfl ?_
  refine v_aload_n hX 0 5 rfl rfl rfl ?_
  refine g_0_0 hX 6 hb tw_104 rfl ?_
  refine v_alen hX (v := nI 24) (k := b + 1) (by have := isB_lt hb; omega) (cG_R hb) rfl rfl 7 rfl ?_
  refine v_icmp_ge hX (tgt := 31) 8 rfl (by decide) (fun c16 => ?_) (fun c16 => absurd (by rw [hz]; exact nI_le (by omega) (by omega)) c16)
  refine v_null hX 15 rfl ?_
  refine v_aret hX hQ rfl (Or.inl ⟨_, rfl⟩) (Or.inl rfl) ?_ ?_ 16 rfl
  · rfl
  · rfl
set_option maxRecDepth 100000 in
set_option maxHeartbeats 4000000 in
theorem f_adjust {Y : Yt} {M : Mm} {s v : Int32} {b : Nat} (hb : isB b) : Fn Y yX0_adjust wsX0_adjust { frames := 0, cells := 0, slots := 0, locals := 0 } [.ref (Y.2.2.2.1 b), .int s, .int v] M (some (.int (adR M b s v))) ((adM M b s v)) := by
  refine Fn.of (cc := cX0_adjust) (ins := iX0_adjust) (maxL := 4) (ret := (some .int)) (by decide) dX0_adjust [some (.ref (Y.2.2.2.1 b)), some (.int s), some (.int v), none] (Nat.le_of_ble_eq_true rfl) rfl rfl ?_
  intro X hX hQ
  refine v_bipush hX (v := (-2)) 0 rfl (by decide) ?_
  refine v_istore_n hX 3 1 rfl rfl (Nat.le_of_ble_eq_true rfl) rfl ?_
  refine v_iload_n hX 1 2 rfl rfl rfl ?_
  refine v_if_ne hX (tgt := 28) 3 rfl (by decide) (fun c4 => ?_) (fun c4 => ?_)
  · skip
    refine v_iload_n hX 1 16 rfl rfl rfl ?_
    refine v_iconst hX (v := 1) 17 rfl (by decide) ?_
    refine v_icmp_ne hX (tgt := 54) 18 rfl (by decide) (fun c30 => ?_) (fun c30 => ?_)
    · skip
      refine v_iload_n hX 3 31 rfl rfl rfl ?_
      refine v_iret hX hQ rfl rfl ?_ ?_ 32 rfl
      · first | (simp (decide := true) only [adR, c4, c30, not_true_eq_false, not_false_eq_true, and_true, true_and, and_false, false_and, or_true, true_or, or_false, false_or, and_self, or_self, if_true, if_false, ite_true, ite_false, reduceIte, eq_self, ne_eq]; done) | exact absurd (c4.symm.trans c30) (by decide)
      · first | (simp (decide := true) only [adM, c4, c30, not_true_eq_false, not_false_eq_true, and_true, true_and, and_false, false_and, or_true, true_or, or_false, false_or, and_self, or_self, if_true, if_false, ite_true, ite_false, reduceIte, eq_self, ne_eq]; done) | exact absurd (c4.symm.trans c30) (by decide)
    · skip
      refine v_iload_n hX 2 19 rfl rfl rfl ?_
      refine v_iconst hX (v := 1) 20 rfl (by decide) ?_
      refine v_icmp_lt hX (tgt := 54) 21 rfl (by decide) (fun c35 => ?_) (fun c35 => ?_)
      · skip
        refine v_iload_n hX 3 31 rfl rfl rfl ?_
        refine v_iret hX hQ rfl rfl ?_ ?_ 32 rfl
        · first | (simp (decide := true) only [adR, c4, c30, c35, not_true_eq_false, not_false_eq_true, and_true, true_and, and_false, false_and, or_true, true_or, or_false, false_or, and_self, or_self, if_true, if_false, ite_true, ite_false, reduceIte, eq_self, ne_eq]; done) | exact absurd (c4.symm.trans c30) (by decide)
        · first | (simp (decide := true) only [adM, c4, c30, c35, not_true_eq_false, not_false_eq_true, and_true, true_and, and_false, false_and, or_true, true_or, or_false, false_or, and_self, or_self, if_true, if_false, ite_true, ite_false, reduceIte, eq_self, ne_eq]; done) | exact absurd (c4.symm.trans c30) (by decide)
      · skip
        refine v_iload_n hX 2 22 rfl rfl rfl ?_
        refine v_bipush hX (v := 99) 23 rfl (by decide) ?_
        refine v_icmp_gt hX (tgt := 54) 24 rfl (by decide) (fun c41 => ?_) (fun c41 => ?_)
        · skip
          refine v_iload_n hX 3 31 rfl rfl rfl ?_
          refine v_iret hX hQ rfl rfl ?_ ?_ 32 rfl
          · first | (simp (decide := true) only [adR, c4, c30, c35, c41, not_true_eq_false, not_false_eq_true, and_true, true_and, and_false, false_and, or_true, true_or, or_false, false_or, and_self, or_self, if_true, if_false, ite_true, ite_false, reduceIte, eq_self, ne_eq]; done) | exact absurd (c4.symm.trans c30) (by decide)
          · first | (simp (decide := true) only [adM, c4, c30, c35, c41, not_true_eq_false, not_false_eq_true, and_true, true_and, and_false, false_and, or_true, true_or, or_false, false_or, and_self, or_self, if_true, if_false, ite_true, ite_false, reduceIte, eq_self, ne_eq]; done) | exact absurd (c4.symm.trans c30) (by decide)
        · skip
          refine v_aload_n hX 0 25 rfl rfl rfl ?_
          refine g_0_5 hX 26 hb tw_113 rfl ?_
          refine v_istore_n hX 3 27 rfl rfl (Nat.le_of_ble_eq_true rfl) rfl ?_
          refine v_aload_n hX 0 28 rfl rfl rfl ?_
          refine v_iload_n hX 2 29 rfl rfl rfl ?_
          refine p_0_5 hX 30 hb  tw_113 rfl ?_
          refine v_iload_n hX 3 31 rfl rfl rfl ?_
          refine v_iret hX hQ rfl rfl ?_ ?_ 32 rfl
          · first | (simp (decide := true) only [adR, c4, c30, c35, c41, not_true_eq_false, not_false_eq_true, and_true, true_and, and_false, false_and, or_true, true_or, or_false, false_or, and_self, or_self, if_true, if_false, ite_true, ite_false, reduceIte, eq_self, ne_eq]; done) | exact absurd (c4.symm.trans c30) (by decide)
          · first | (simp (decide := true) only [adM, c4, c30, c35, c41, not_true_eq_false, not_false_eq_true, and_true, true_and, and_false, false_and, or_true, true_or, or_false, false_or, and_self, or_self, if_true, if_false, ite_true, ite_false, reduceIte, eq_self, ne_eq]; done) | exact absurd (c4.symm.trans c30) (by decide)
  · skip
    refine v_iload_n hX 2 4 rfl rfl rfl ?_
    refine v_iconst hX (v := 1) 5 rfl (by decide) ?_
    refine v_icmp_lt hX (tgt := 28) 6 rfl (by decide) (fun c9 => ?_) (fun c9 => ?_)
    · skip
      refine v_iload_n hX 1 16 rfl rfl rfl ?_
      refine v_iconst hX (v := 1) 17 rfl (by decide) ?_
      refine v_icmp_ne hX (tgt := 54) 18 rfl (by decide) (fun c30 => ?_) (fun c30 => ?_)
      · skip
        refine v_iload_n hX 3 31 rfl rfl rfl ?_
        refine v_iret hX hQ rfl rfl ?_ ?_ 32 rfl
        · first | (simp (decide := true) only [adR, c4, c9, c30, not_true_eq_false, not_false_eq_true, and_true, true_and, and_false, false_and, or_true, true_or, or_false, false_or, and_self, or_self, if_true, if_false, ite_true, ite_false, reduceIte, eq_self, ne_eq]; done) | exact absurd (c4.symm.trans c30) (by decide)
        · first | (simp (decide := true) only [adM, c4, c9, c30, not_true_eq_false, not_false_eq_true, and_true, true_and, and_false, false_and, or_true, true_or, or_false, false_or, and_self, or_self, if_true, if_false, ite_true, ite_false, reduceIte, eq_self, ne_eq]; done) | exact absurd (c4.symm.trans c30) (by decide)
      · skip
        refine v_iload_n hX 2 19 rfl rfl rfl ?_
        refine v_iconst hX (v := 1) 20 rfl (by decide) ?_
        refine v_icmp_lt hX (tgt := 54) 21 rfl (by decide) (fun c35 => ?_) (fun c35 => ?_)
        · skip
          refine v_iload_n hX 3 31 rfl rfl rfl ?_
          refine v_iret hX hQ rfl rfl ?_ ?_ 32 rfl
          · first | (simp (decide := true) only [adR, c4, c9, c30, c35, not_true_eq_false, not_false_eq_true, and_true, true_and, and_false, false_and, or_true, true_or, or_false, false_or, and_self, or_self, if_true, if_false, ite_true, ite_false, reduceIte, eq_self, ne_eq]; done) | exact absurd (c4.symm.trans c30) (by decide)
          · first | (simp (decide := true) only [adM, c4, c9, c30, c35, not_true_eq_false, not_false_eq_true, and_true, true_and, and_false, false_and, or_true, true_or, or_false, false_or, and_self, or_self, if_true, if_false, ite_true, ite_false, reduceIte, eq_self, ne_eq]; done) | exact absurd (c4.symm.trans c30) (by decide)
        · skip
          refine v_iload_n hX 2 22 rfl rfl rfl ?_
          refine v_bipush hX (v := 99) 23 rfl (by decide) ?_
          refine v_icmp_gt hX (tgt := 54) 24 rfl (by decide) (fun c41 => ?_) (fun c41 => ?_)
          · skip
            refine v_iload_n hX 3 31 rfl rfl rfl ?_
            refine v_iret hX hQ rfl rfl ?_ ?_ 32 rfl
            · first | (simp (decide := true) only [adR, c4, c9, c30, c35, c41, not_true_eq_false, not_false_eq_true, and_true, true_and, and_false, false_and, or_true, true_or, or_false, false_or, and_self, or_self, if_true, if_false, ite_true, ite_false, reduceIte, eq_self, ne_eq]; done) | exact absurd (c4.symm.trans c30) (by decide)
            · first | (simp (decide := true) only [adM, c4, c9, c30, c35, c41, not_true_eq_false, not_false_eq_true, and_true, true_and, and_false, false_and, or_true, true_or, or_false, false_or, and_self, or_self, if_true, if_false, ite_true, ite_false, reduceIte, eq_self, ne_eq]; done) | exact absurd (c4.symm.trans c30) (by decide)
          · skip
            refine v_aload_n hX 0 25 rfl rfl rfl ?_
            refine g_0_5 hX 26 hb tw_113 rfl ?_
            refine v_istore_n hX 3 27 rfl rfl (Nat.le_of_ble_eq_true rfl) rfl ?_
            refine v_aload_n hX 0 28 rfl rfl rfl ?_
            refine v_iload_n hX 2 29 rfl rfl rfl ?_
            refine p_0_5 hX 30 hb  tw_113 rfl ?_
            refine v_iload_n hX 3 31 rfl rfl rfl ?_
            refine v_iret hX hQ rfl rfl ?_ ?_ 32 rfl
            · first | (simp (decide := true) only [adR, c4, c9, c30, c35, c41, not_true_eq_false, not_false_eq_true, and_true, true_and, and_false, false_and, or_true, true_or, or_false, false_or, and_self, or_self, if_true, if_false, ite_true, ite_false, reduceIte, eq_self, ne_eq]; done) | exact absurd (c4.symm.trans c30) (by decide)
            · first | (simp (decide := true) only [adM, c4, c9, c30, c35, c41, not_true_eq_false, not_false_eq_true, and_true, true_and, and_false, false_and, or_true, true_or, or_false, false_or, and_self, or_self, if_true, if_false, ite_true, ite_false, reduceIte, eq_self, ne_eq]; done) | exact absurd (c4.symm.trans c30) (by decide)
    · skip
      refine v_iload_n hX 2 7 rfl rfl rfl ?_
      refine v_bipush hX (v := 60) 8 rfl (by decide) ?_
      refine v_icmp_gt hX (tgt := 28) 9 rfl (by decide) (fun c15 => ?_) (fun c15 => ?_)
      · skip
        refine v_iload_n hX 1 16 rfl rfl rfl ?_
        refine v_iconst hX (v := 1) 17 rfl (by decide) ?_
        refine v_icmp_ne hX (tgt := 54) 18 rfl (by decide) (fun c30 => ?_) (fun c30 => ?_)
        · skip
          refine v_iload_n hX 3 31 rfl rfl rfl ?_
          refine v_iret hX hQ rfl rfl ?_ ?_ 32 rfl
          · first | (simp (decide := true) only [adR, c4, c9, c15, c30, not_true_eq_false, not_false_eq_true, and_true, true_and, and_false, false_and, or_true, true_or, or_false, false_or, and_self, or_self, if_true, if_false, ite_true, ite_false, reduceIte, eq_self, ne_eq]; done) | exact absurd (c4.symm.trans c30) (by decide)
          · first | (simp (decide := true) only [adM, c4, c9, c15, c30, not_true_eq_false, not_false_eq_true, and_true, true_and, and_false, false_and, or_true, true_or, or_false, false_or, and_self, or_self, if_true, if_false, ite_true, ite_false, reduceIte, eq_self, ne_eq]; done) | exact absurd (c4.symm.trans c30) (by decide)
        · skip
          refine v_iload_n hX 2 19 rfl rfl rfl ?_
          refine v_iconst hX (v := 1) 20 rfl (by decide) ?_
          refine v_icmp_lt hX (tgt := 54) 21 rfl (by decide) (fun c35 => ?_) (fun c35 => ?_)
          · skip
            refine v_iload_n hX 3 31 rfl rfl rfl ?_
            refine v_iret hX hQ rfl rfl ?_ ?_ 32 rfl
            · first | (simp (decide := true) only [adR, c4, c9, c15, c30, c35, not_true_eq_false, not_false_eq_true, and_true, true_and, and_false, false_and, or_true, true_or, or_false, false_or, and_self, or_self, if_true, if_false, ite_true, ite_false, reduceIte, eq_self, ne_eq]; done) | exact absurd (c4.symm.trans c30) (by decide)
            · first | (simp (decide := true) only [adM, c4, c9, c15, c30, c35, not_true_eq_false, not_false_eq_true, and_true, true_and, and_false, false_and, or_true, true_or, or_false, false_or, and_self, or_self, if_true, if_false, ite_true, ite_false, reduceIte, eq_self, ne_eq]; done) | exact absurd (c4.symm.trans c30) (by decide)
          · skip
            refine v_iload_n hX 2 22 rfl rfl rfl ?_
            refine v_bipush hX (v := 99) 23 rfl (by decide) ?_
            refine v_icmp_gt hX (tgt := 54) 24 rfl (by decide) (fun c41 => ?_) (fun c41 => ?_)
            · skip
              refine v_iload_n hX 3 31 rfl rfl rfl ?_
              refine v_iret hX hQ rfl rfl ?_ ?_ 32 rfl
              · first | (simp (decide := true) only [adR, c4, c9, c15, c30, c35, c41, not_true_eq_false, not_false_eq_true, and_true, true_and, and_false, false_and, or_true, true_or, or_false, false_or, and_self, or_self, if_true, if_false, ite_true, ite_false, reduceIte, eq_self, ne_eq]; done) | exact absurd (c4.symm.trans c30) (by decide)
              · first | (simp (decide := true) only [adM, c4, c9, c15, c30, c35, c41, not_true_eq_false, not_false_eq_true, and_true, true_and, and_false, false_and, or_true, true_or, or_false, false_or, and_self, or_self, if_true, if_false, ite_true, ite_false, reduceIte, eq_self, ne_eq]; done) | exact absurd (c4.symm.trans c30) (by decide)
            · skip
              refine v_aload_n hX 0 25 rfl rfl rfl ?_
              refine g_0_5 hX 26 hb tw_113 rfl ?_
              refine v_istore_n hX 3 27 rfl rfl (Nat.le_of_ble_eq_true rfl) rfl ?_
              refine v_aload_n hX 0 28 rfl rfl rfl ?_
              refine v_iload_n hX 2 29 rfl rfl rfl ?_
              refine p_0_5 hX 30 hb  tw_113 rfl ?_
              refine v_iload_n hX 3 31 rfl rfl rfl ?_
              refine v_iret hX hQ rfl rfl ?_ ?_ 32 rfl
              · first | (simp (decide := true) only [adR, c4, c9, c15, c30, c35, c41, not_true_eq_false, not_false_eq_true, and_true, true_and, and_false, false_and, or_true, true_or, or_false, false_or, and_self, or_self, if_true, if_false, ite_true, ite_false, reduceIte, eq_self, ne_eq]; done) | exact absurd (c4.symm.trans c30) (by decide)
              · first | (simp (decide := true) only [adM, c4, c9, c15, c30, c35, c41, not_true_eq_false, not_false_eq_true, and_true, true_and, and_false, false_and, or_true, true_or, or_false, false_or, and_self, or_self, if_true, if_false, ite_true, ite_false, reduceIte, eq_self, ne_eq]; done) | exact absurd (c4.symm.trans c30) (by decide)
      · skip
        refine v_aload_n hX 0 10 rfl rfl rfl ?_
        refine g_0_4 hX 11 hb tw_111 rfl ?_
        refine v_istore_n hX 3 12 rfl rfl (Nat.le_of_ble_eq_true rfl) rfl ?_
        refine v_aload_n hX 0 13 rfl rfl rfl ?_
        refine v_iload_n hX 2 14 rfl rfl rfl ?_
        refine p_0_4 hX 15 hb  tw_111 rfl ?_
        refine v_iload_n hX 1 16 rfl rfl rfl ?_
        refine v_iconst hX (v := 1) 17 rfl (by decide) ?_
        refine v_icmp_ne hX (tgt := 54) 18 rfl (by decide) (fun c30 => ?_) (fun c30 => ?_)
        · skip
          refine v_iload_n hX 3 31 rfl rfl rfl ?_
          refine v_iret hX hQ rfl rfl ?_ ?_ 32 rfl
          · first | (simp (decide := true) only [adR, c4, c9, c15, c30, not_true_eq_false, not_false_eq_true, and_true, true_and, and_false, false_and, or_true, true_or, or_false, false_or, and_self, or_self, if_true, if_false, ite_true, ite_false, reduceIte, eq_self, ne_eq]; done) | exact absurd (c4.symm.trans c30) (by decide)
          · first | (simp (decide := true) only [adM, c4, c9, c15, c30, not_true_eq_false, not_false_eq_true, and_true, true_and, and_false, false_and, or_true, true_or, or_false, false_or, and_self, or_self, if_true, if_false, ite_true, ite_false, reduceIte, eq_self, ne_eq]; done) | exact absurd (c4.symm.trans c30) (by decide)
        · skip
          refine v_iload_n hX 2 19 rfl rfl rfl ?_
          refine v_iconst hX (v := 1) 20 rfl (by decide) ?_
          refine v_icmp_lt hX (tgt := 54) 21 rfl (by decide) (fun c35 => ?_) (fun c35 => ?_)
          · skip
            refine v_iload_n hX 3 31 rfl rfl rfl ?_
            refine v_iret hX hQ rfl rfl ?_ ?_ 32 rfl
            · first | (simp (decide := true) only [adR, c4, c9, c15, c30, c35, not_true_eq_false, not_false_eq_true, and_true, true_and, and_false, false_and, or_true, true_or, or_false, false_or, and_self, or_self, if_true, if_false, ite_true, ite_false, reduceIte, eq_self, ne_eq]; done) | exact absurd (c4.symm.trans c30) (by decide)
            · first | (simp (decide := true) only [adM, c4, c9, c15, c30, c35, not_true_eq_false, not_false_eq_true, and_true, true_and, and_false, false_and, or_true, true_or, or_false, false_or, and_self, or_self, if_true, if_false, ite_true, ite_false, reduceIte, eq_self, ne_eq]; done) | exact absurd (c4.symm.trans c30) (by decide)
          · skip
            refine v_iload_n hX 2 22 rfl rfl rfl ?_
            refine v_bipush hX (v := 99) 23 rfl (by decide) ?_
            refine v_icmp_gt hX (tgt := 54) 24 rfl (by decide) (fun c41 => ?_) (fun c41 => ?_)
            · skip
              refine v_iload_n hX 3 31 rfl rfl rfl ?_
              refine v_iret hX hQ rfl rfl ?_ ?_ 32 rfl
              · first | (simp (decide := true) only [adR, c4, c9, c15, c30, c35, c41, not_true_eq_false, not_false_eq_true, and_true, true_and, and_false, false_and, or_true, true_or, or_false, false_or, and_self, or_self, if_true, if_false, ite_true, ite_false, reduceIte, eq_self, ne_eq]; done) | exact absurd (c4.symm.trans c30) (by decide)
              · first | (simp (decide := true) only [adM, c4, c9, c15, c30, c35, c41, not_true_eq_false, not_false_eq_true, and_true, true_and, and_false, false_and, or_true, true_or, or_false, false_or, and_self, or_self, if_true, if_false, ite_true, ite_false, reduceIte, eq_self, ne_eq]; done) | exact absurd (c4.symm.trans c30) (by decide)
            · skip
              refine v_aload_n hX 0 25 rfl rfl rfl ?_
              refine g_0_5 hX 26 hb tw_113 rfl ?_
              refine v_istore_n hX 3 27 rfl rfl (Nat.le_of_ble_eq_true rfl) rfl ?_
              refine v_aload_n hX 0 28 rfl rfl rfl ?_
              refine v_iload_n hX 2 29 rfl rfl rfl ?_
              refine p_0_5 hX 30 hb  tw_113 rfl ?_
              refine v_iload_n hX 3 31 rfl rfl rfl ?_
              refine v_iret hX hQ rfl rfl ?_ ?_ 32 rfl
              · first | (simp (decide := true) only [adR, c4, c9, c15, c30, c35, c41, not_true_eq_false, not_false_eq_true, and_true, true_and, and_false, false_and, or_true, true_or, or_false, false_or, and_self, or_self, if_true, if_false, ite_true, ite_false, reduceIte, eq_self, ne_eq]; done) | exact absurd (c4.symm.trans c30) (by decide)
              · first | (simp (decide := true) only [adM, c4, c9, c15, c30, c35, c41, not_true_eq_false, not_false_eq_true, and_true, true_and, and_false, false_and, or_true, true_or, or_false, false_or, and_self, or_self, if_true, if_false, ite_true, ite_false, reduceIte, eq_self, ne_eq]; done) | exact absurd (c4.symm.trans c30) (by decide)
set_option maxRecDepth 100000 in
set_option maxHeartbeats 4000000 in
theorem f_canBeFiled {Y : Yt} {M : Mm} {p c : Int32} : Fn Y yX0_canBeFiled wsX0_canBeFiled { frames := 0, cells := 0, slots := 0, locals := 0 } [.int p, .int c] M (some (.int (cbf p c))) M := by
  refine Fn.of (cc := cX0_canBeFiled) (ins := iX0_canBeFiled) (maxL := 2) (ret := (some .boolean)) (by decide) dX0_canBeFiled [some (.int p), some (.int c)] (Nat.le_of_ble_eq_true rfl) rfl rfl ?_
  intro X hX hQ
  refine v_iload_n hX 0 0 rfl rfl rfl ?_
  refine v_iconst hX (v := 1) 1 rfl (by decide) ?_
  refine v_icmp_lt hX (tgt := 26) 2 rfl (by decide) (fun c2 => ?_) (fun c2 => ?_)
  · skip
    refine v_iconst hX (v := 0) 13 rfl (by decide) ?_
    refine v_iret hX hQ rfl rfl ?_ ?_ 14 rfl
    · simp [cbf, c2]
    · rfl
  · skip
    refine v_iload_n hX 0 3 rfl rfl rfl ?_
    refine v_bipush hX (v := 9) 4 rfl (by decide) ?_
    refine v_icmp_gt hX (tgt := 26) 5 rfl (by decide) (fun c8 => ?_) (fun c8 => ?_)
    · skip
      refine v_iconst hX (v := 0) 13 rfl (by decide) ?_
      refine v_iret hX hQ rfl rfl ?_ ?_ 14 rfl
      · simp [cbf, c2, c8]
      · rfl
    · skip
      refine v_iload_n hX 1 6 rfl rfl rfl ?_
      refine v_if_lt hX (tgt := 26) 7 rfl (by decide) (fun c12 => ?_) (fun c12 => ?_)
      · skip
        refine v_iconst hX (v := 0) 13 rfl (by decide) ?_
        refine v_iret hX hQ rfl rfl ?_ ?_ 14 rfl
        · simp [cbf, c2, c8, c12]
        · rfl
      · skip
        refine v_iload_n hX 1 8 rfl rfl rfl ?_
        refine v_sipush hX (v := 1023) 9 rfl (by decide) ?_
        refine v_icmp_gt hX (tgt := 26) 10 rfl (by decide) (fun c19 => ?_) (fun c19 => ?_)
        · skip
          refine v_iconst hX (v := 0) 13 rfl (by decide) ?_
          refine v_iret hX hQ rfl rfl ?_ ?_ 14 rfl
          · simp [cbf, c2, c8, c12, c19]
          · rfl
        · skip
          refine v_iconst hX (v := 1) 11 rfl (by decide) ?_
          refine v_goto hX (tgt := 27) 12 rfl (by decide) ?_
          refine v_iret hX hQ rfl rfl ?_ ?_ 14 rfl
          · simp [cbf, c2, c8, c12, c19]
          · rfl
set_option maxRecDepth 100000 in
set_option maxHeartbeats 4000000 in
theorem f_file {Y : Yt} {M : Mm} {b n : Nat} {s p c t : Int32} (hb : isB b) (hz : M.1 b 1 = nI n) (hn : n < 24) : Fn Y yX0_file wsX0_file { frames := 1, cells := 0, slots := 0, locals := 20 } [.ref (Y.2.2.2.1 b), .int s, .int p, .int c, .int t] M (some (.int (nI n))) ((fileM M b n s p c t)) := by
  refine Fn.of (cc := cX0_file) (ins := iX0_file) (maxL := 6) (ret := (some .int)) (by decide) dX0_file [some (.ref (Y.2.2.2.1 b)), some (.int s), some (.int p), some (.int c), some (.int t), none] (Nat.le_of_ble_eq_true rfl) rfl rfl ?_
  intro X hX hQ
  refine v_aload_n hX 0 0 rfl rfl rfl ?_
  refine v_callV hX 0 (by have := isB_lt hb; omega) (cG_B hb) rfl (f_freeRow_in hb hz hn) tw_267 tw_264 tw_266 tw_10 tw_40 (by decide +kernel) ⟨⟨rfl, rfl⟩, Nat.le_of_ble_eq_true rfl, Nat.le_of_ble_eq_true rfl⟩ rfl (Nat.le_of_ble_eq_true rfl) rfl rfl 1 rfl ?_
  refine v_astore hX 2 rfl (Nat.le_of_ble_eq_true rfl) rfl ?_
  refine v_aload hX 3 rfl rfl ?_
  refine v_ifnonnull hX (tgt := 14) 4 rfl (by decide) ?_
  refine v_aload hX 7 rfl rfl ?_
  refine v_iload_n hX 1 8 rfl rfl rfl ?_
  refine pN_4_0 hX 9 hb (by omega)  (List.mem_of_getElem? (i := 0) rfl) rfl ?_
  refine v_aload hX 10 rfl rfl ?_
  refine v_iload_n hX 2 11 rfl rfl rfl ?_
  refine pN_4_1 hX 12 hb (by omega)  (List.mem_of_getElem? (i := 2) rfl) rfl ?_
  refine v_aload hX 13 rfl rfl ?_
  refine v_iload_n hX 3 14 rfl rfl rfl ?_
  refine pN_4_2 hX 15 hb (by omega)  (List.mem_of_getElem? (i := 4) rfl) rfl ?_
  refine v_aload hX 16 rfl rfl ?_
  refine v_iload hX 17 rfl rfl ?_
  refine pN_4_3 hX 18 hb (by omega)  (List.mem_of_getElem? (i := 7) rfl) rfl ?_
  refine v_aload hX 19 rfl rfl ?_
  refine v_aload_n hX 0 20 rfl rfl rfl ?_
  refine g_0_2 hX 21 hb tw_107 rfl ?_
  refine pN_4_4 hX 22 hb (by omega)  (List.mem_of_getElem? (i := 9) rfl) rfl ?_
  refine v_aload hX 23 rfl rfl ?_
  refine v_aload_n hX 0 24 rfl rfl rfl ?_
  refine g_0_2 hX 25 hb tw_107 rfl ?_
  refine pN_4_5 hX 26 hb (by omega)  (List.mem_of_getElem? (i := 11) rfl) rfl ?_
  refine v_aload hX 27 rfl rfl ?_
  refine v_iconst hX (v := 0) 28 rfl (by decide) ?_
  refine pN_4_6 hX 29 hb (by omega) rfl rfl (List.mem_of_getElem? (i := 12) rfl) rfl ?_
  refine v_aload_n hX 0 30 rfl rfl rfl ?_
  refine v_dup hX 31 rfl rfl ?_
  refine g_0_1 hX 32 hb tw_105 rfl ?_
  refine v_iconst hX (v := 1) 33 rfl (by decide) ?_
  refine v_iadd hX 34 rfl ?_
  refine p_0_1 hX 35 hb  tw_105 rfl ?_
  refine v_aload_n hX 0 36 rfl rfl rfl ?_
  refine g_0_1 hX 37 hb tw_105 rfl ?_
  refine v_iconst hX (v := 1) 38 rfl (by decide) ?_
  refine v_isub hX 39 rfl ?_
  refine v_iret hX hQ rfl rfl ?_ ?_ 40 rfl
  · simp only [mset_n (show b ≠ b + 2 + n by omega), mset_s, upd_s, hz, nI_1, nI_pred]
  · simp only [fileM, mset_n (show b ≠ b + 2 + n by omega), hz, nI_1]
set_option maxRecDepth 100000 in
set_option maxHeartbeats 4000000 in
theorem f_file_full {Y : Yt} {M : Mm} {b n : Nat} {s p c t : Int32} (hb : isB b) (hz : M.1 b 1 = nI n) (hn : n = 24) : Fn Y yX0_file wsX0_file { frames := 1, cells := 0, slots := 0, locals := 20 } [.ref (Y.2.2.2.1 b), .int s, .int p, .int c, .int t] M (some (.int (-4))) M := by
  refine Fn.of (cc := cX0_file) (ins := iX0_file) (maxL := 6) (ret := (some .int)) (by decide) dX0_file [some (.ref (Y.2.2.2.1 b)), some (.int s), some (.int p), some (.int c), some (.int t), none] (Nat.le_of_ble_eq_true rfl) rfl rfl ?_
  intro X hX hQ
  refine v_aload_n hX 0 0 rfl rfl rfl ?_
  refine v_callV hX 0 (by have := isB_lt hb; omega) (cG_B hb) rfl (f_freeRow_out hb hz hn) tw_267 tw_264 tw_266 tw_10 tw_40 (by decide +kernel) ⟨⟨rfl, rfl⟩, Nat.le_of_ble_eq_true rfl, Nat.le_of_ble_eq_true rfl⟩ rfl (Nat.le_of_ble_eq_true rfl) rfl rfl 1 rfl ?_
  refine v_astoreN hX 2 rfl (Nat.le_of_ble_eq_true rfl) rfl ?_
  refine v_aloadN hX 3 rfl rfl ?_
  refine v_ifnonnullN hX 4 rfl ?_
  refine v_bipush hX (v := (-4)) 5 rfl (by decide) ?_
  refine v_iret hX hQ rfl rfl ?_ ?_ 6 rfl
  · rfl
  · rfl
set_option maxRecDepth 100000 in
set_option maxHeartbeats 4000000 in
theorem f_fileClaim {Y : Yt} {M : Mm} {b n : Nat} {s p c : Int32} (hb : isB b) (hz : M.1 b 1 = nI n) (hn : n ≤ 24) : Fn Y yX0_fileClaim wsX0_fileClaim { frames := 2, cells := 0, slots := 0, locals := 45 } [.ref (Y.2.2.2.1 b), .int s, .int p, .int c] M (some (.int (fcR n s p c))) ((fcM M b n s p c)) := by
  refine Fn.of (cc := cX0_fileClaim) (ins := iX0_fileClaim) (maxL := 4) (ret := (some .int)) (by decide) dX0_fileClaim [some (.ref (Y.2.2.2.1 b)), some (.int s), some (.int p), some (.int c)] (Nat.le_of_ble_eq_true rfl) rfl rfl ?_
  intro X hX hQ
  refine v_iload_n hX 1 0 rfl rfl rfl ?_
  refine v_if_lt hX (tgt := 17) 1 rfl (by decide) (fun c1 => ?_) (fun c1 => ?_)
  · skip
    refine v_bipush hX (v := (-2)) 9 rfl (by decide) ?_
    refine v_iret hX hQ rfl rfl ?_ ?_ 10 rfl
    · simp (decide := true) only [fcR, c1, not_true_eq_false, not_false_eq_true, and_true, true_and, and_false, false_and, or_true, true_or, or_false, false_or, and_self, or_self, if_true, if_false, ite_true, ite_false, reduceIte, eq_self, ne_eq]
    · simp (decide := true) only [fcM, c1, not_true_eq_false, not_false_eq_true, and_true, true_and, and_false, false_and, or_true, true_or, or_false, false_or, and_self, or_self, if_true, if_false, ite_true, ite_false, reduceIte, eq_self, ne_eq]
  · skip
    refine v_iload_n hX 1 2 rfl rfl rfl ?_
    refine v_iconst hX (v := 1) 3 rfl (by decide) ?_
    refine v_icmp_gt hX (tgt := 17) 4 rfl (by decide) (fun c6 => ?_) (fun c6 => ?_)
    · skip
      refine v_bipush hX (v := (-2)) 9 rfl (by decide) ?_
      refine v_iret hX hQ rfl rfl ?_ ?_ 10 rfl
      · simp (decide := true) only [fcR, c1, c6, not_true_eq_false, not_false_eq_true, and_true, true_and, and_false, false_and, or_true, true_or, or_false, false_or, and_self, or_self, if_true, if_false, ite_true, ite_false, reduceIte, eq_self, ne_eq]
      · simp (decide := true) only [fcM, c1, c6, not_true_eq_false, not_false_eq_true, and_true, true_and, and_false, false_and, or_true, true_or, or_false, false_or, and_self, or_self, if_true, if_false, ite_true, ite_false, reduceIte, eq_self, ne_eq]
    · skip
      refine v_iload_n hX 2 5 rfl rfl rfl ?_
      refine v_iload_n hX 3 6 rfl rfl rfl ?_
      refine v_callS hX 2 (f_canBeFiled) tw_259 tw_257 tw_258 tw_40 (by decide +kernel) ⟨⟨rfl, rfl⟩, Nat.le_of_ble_eq_true rfl, Nat.le_of_ble_eq_true rfl⟩ rfl (Nat.le_of_ble_eq_true rfl) rfl rfl 7 rfl ?_
      refine v_if_ne hX (tgt := 20) 8 rfl (by decide) (fun c14 => ?_) (fun c14 => ?_)
      · skip
        refine v_aload_n hX 0 11 rfl rfl rfl ?_
        refine v_iload_n hX 1 12 rfl rfl rfl ?_
        refine v_iload_n hX 2 13 rfl rfl rfl ?_
        refine v_iload_n hX 3 14 rfl rfl rfl ?_
        refine v_bipush hX (v := (-6)) 15 rfl (by decide) ?_
        rcases Nat.lt_or_ge n 24 with h24 | h24
        · skip
          refine v_callV hX 4 (by have := isB_lt hb; omega) (cG_B hb) rfl (f_file hb hz h24) tw_263 tw_260 tw_262 tw_9 tw_40 (by decide +kernel) ⟨⟨rfl, rfl⟩, Nat.le_of_ble_eq_true rfl, Nat.le_of_ble_eq_true rfl⟩ rfl (Nat.le_of_ble_eq_true rfl) rfl rfl 16 rfl ?_
          refine v_iret hX hQ rfl rfl ?_ ?_ 17 rfl
          · simp (decide := true) only [fcR, h24, c1, c6, c14, not_true_eq_false, not_false_eq_true, and_true, true_and, and_false, false_and, or_true, true_or, or_false, false_or, and_self, or_self, if_true, if_false, ite_true, ite_false, reduceIte, eq_self, ne_eq]
          · simp (decide := true) only [fcM, h24, c1, c6, c14, not_true_eq_false, not_false_eq_true, and_true, true_and, and_false, false_and, or_true, true_or, or_false, false_or, and_self, or_self, if_true, if_false, ite_true, ite_false, reduceIte, eq_self, ne_eq]
        · skip
          have h24 : n = 24 := by omega
          refine v_callV hX 4 (by have := isB_lt hb; omega) (cG_B hb) rfl (f_file_full hb hz h24) tw_263 tw_260 tw_262 tw_9 tw_40 (by decide +kernel) ⟨⟨rfl, rfl⟩, Nat.le_of_ble_eq_true rfl, Nat.le_of_ble_eq_true rfl⟩ rfl (Nat.le_of_ble_eq_true rfl) rfl rfl 16 rfl ?_
          refine v_iret hX hQ rfl rfl ?_ ?_ 17 rfl
          · simp (decide := true) only [fcR, h24, c1, c6, c14, not_true_eq_false, not_false_eq_true, and_true, true_and, and_false, false_and, or_true, true_or, or_false, false_or, and_self, or_self, if_true, if_false, ite_true, ite_false, reduceIte, eq_self, ne_eq]
          · simp (decide := true) only [fcM, h24, c1, c6, c14, not_true_eq_false, not_false_eq_true, and_true, true_and, and_false, false_and, or_true, true_or, or_false, false_or, and_self, or_self, if_true, if_false, ite_true, ite_false, reduceIte, eq_self, ne_eq]
      · skip
        refine v_bipush hX (v := (-2)) 9 rfl (by decide) ?_
        refine v_iret hX hQ rfl rfl ?_ ?_ 10 rfl
        · simp (decide := true) only [fcR, c1, c6, c14, not_true_eq_false, not_false_eq_true, and_true, true_and, and_false, false_and, or_true, true_or, or_false, false_or, and_self, or_self, if_true, if_false, ite_true, ite_false, reduceIte, eq_self, ne_eq]
        · simp (decide := true) only [fcM, c1, c6, c14, not_true_eq_false, not_false_eq_true, and_true, true_and, and_false, false_and, or_true, true_or, or_false, false_or, and_self, or_self, if_true, if_false, ite_true, ite_false, reduceIte, eq_self, ne_eq]
set_option maxRecDepth 100000 in
set_option maxHeartbeats 4000000 in
theorem f_fileAnswer_no {Y : Yt} {M : Mm} {b n : Nat} {x p c : Int32} (hb : isB b) (hz : M.1 b 1 = nI n) (hn : n ≤ 24) (hx : x < 0 ∨ nI n ≤ x) : Fn Y yX0_fileAnswer wsX0_fileAnswer { frames := 2, cells := 0, slots := 0, locals := 45 } [.ref (Y.2.2.2.1 b), .int x, .int p, .int c] M (some (.int (-1))) M := by
  refine Fn.of (cc := cX0_fileAnswer) (ins := iX0_fileAnswer) (maxL := 5) (ret := (some .int)) (by decide) dX0_fileAnswer [some (.ref (Y.2.2.2.1 b)), some (.int x), some (.int p), some (.int c), none] (Nat.le_of_ble_eq_true rfl) rfl rfl ?_
  intro X hX hQ
  refine v_aload_n hX 0 0 rfl rfl rfl ?_
  refine v_iload_n hX 1 1 rfl rfl rfl ?_
  refine v_callV hX 1 (by have := isB_lt hb; omega) (cG_B hb) rfl (f_find_out hb hz hx) tw_232 tw_229 tw_231 tw_3 tw_40 (by decide +kernel) ⟨⟨rfl, rfl⟩, Nat.le_of_ble_eq_true rfl, Nat.le_of_ble_eq_true rfl⟩ rfl (Nat.le_of_ble_eq_true rfl) rfl rfl 2 rfl ?_
  refine v_astoreN hX 3 rfl (Nat.le_of_ble_eq_true rfl) rfl ?_
  refine v_aloadN hX 4 rfl rfl ?_
  refine v_ifnonnullN hX 5 rfl ?_
  refine v_iconst hX (v := (-1)) 6 rfl (by decide) ?_
  refine v_iret hX hQ rfl rfl ?_ ?_ 7 rfl
  · rfl
  · rfl
set_option maxRecDepth 100000 in
set_option maxHeartbeats 4000000 in
theorem f_fileAnswer {Y : Yt} {M : Mm} {b n i : Nat} {p c : Int32} (hb : isB b) (hz : M.1 b 1 = nI n) (hn : n ≤ 24) (hi : i < n) : Fn Y yX0_fileAnswer wsX0_fileAnswer { frames := 2, cells := 0, slots := 0, locals := 45 } [.ref (Y.2.2.2.1 b), .int (nI i), .int p, .int c] M (some (.int (faR M b n i p c))) ((faM M b n i p c)) := by
  refine Fn.of (cc := cX0_fileAnswer) (ins := iX0_fileAnswer) (maxL := 5) (ret := (some .int)) (by decide) dX0_fileAnswer [some (.ref (Y.2.2.2.1 b)), some (.int (nI i)), some (.int p), some (.int c), none] (Nat.le_of_ble_eq_true rfl) rfl rfl ?_
  intro X hX hQ
  refine v_aload_n hX 0 0 rfl rfl rfl ?_
  refine v_iload_n hX 1 1 rfl rfl rfl ?_
  refine v_callV hX 1 (by have := isB_lt hb; omega) (cG_B hb) rfl (f_find_in hb hz hn hi) tw_232 tw_229 tw_231 tw_3 tw_40 (by decide +kernel) ⟨⟨rfl, rfl⟩, Nat.le_of_ble_eq_true rfl, Nat.le_of_ble_eq_true rfl⟩ rfl (Nat.le_of_ble_eq_true rfl) rfl rfl 2 rfl ?_
  refine v_astore hX 3 rfl (Nat.le_of_ble_eq_true rfl) rfl ?_
  refine v_aload hX 4 rfl rfl ?_
  refine v_ifnonnull hX (tgt := 14) 5 rfl (by decide) ?_
  refine v_iload_n hX 2 8 rfl rfl rfl ?_
  refine v_iload_n hX 3 9 rfl rfl rfl ?_
  refine v_callS hX 2 (f_canBeFiled) tw_259 tw_257 tw_258 tw_40 (by decide +kernel) ⟨⟨rfl, rfl⟩, Nat.le_of_ble_eq_true rfl, Nat.le_of_ble_eq_true rfl⟩ rfl (Nat.le_of_ble_eq_true rfl) rfl rfl 10 rfl ?_
  refine v_if_ne hX (tgt := 25) 11 rfl (by decide) (fun c19 => ?_) (fun c19 => ?_)
  · skip
    refine v_aload_n hX 0 14 rfl rfl rfl ?_
    rcases Nat.lt_or_ge n 24 with h24 | h24
    · skip
      refine v_callV hX 0 (by have := isB_lt hb; omega) (cG_B hb) rfl (f_freeRow_in hb hz h24) tw_267 tw_264 tw_266 tw_10 tw_40 (by decide +kernel) ⟨⟨rfl, rfl⟩, Nat.le_of_ble_eq_true rfl, Nat.le_of_ble_eq_true rfl⟩ rfl (Nat.le_of_ble_eq_true rfl) rfl rfl 15 rfl ?_
      refine v_ifnonnull hX (tgt := 35) 16 rfl (by decide) ?_
      refine v_aload hX 19 rfl rfl ?_
      refine gN_4_6 hX 20 hb (by omega) (List.mem_of_getElem? (i := 12) rfl) rfl ?_
      refine v_if_eq hX (tgt := 46) 21 rfl (by decide) (fun c40 => ?_) (fun c40 => ?_)
      · skip
        refine v_aload_n hX 0 24 rfl rfl rfl ?_
        refine v_iconst hX (v := 1) 25 rfl (by decide) ?_
        refine v_aload hX 26 rfl rfl ?_
        refine gN_4_0 hX 27 hb (by omega) (List.mem_of_getElem? (i := 0) rfl) rfl ?_
        refine v_isub hX 28 rfl ?_
        refine v_iload_n hX 2 29 rfl rfl rfl ?_
        refine v_iload_n hX 3 30 rfl rfl rfl ?_
        refine v_iload_n hX 1 31 rfl rfl rfl ?_
        refine v_callV hX 4 (by have := isB_lt hb; omega) (cG_B hb) rfl (f_file hb hz h24) tw_263 tw_260 tw_262 tw_9 tw_40 (by decide +kernel) ⟨⟨rfl, rfl⟩, Nat.le_of_ble_eq_true rfl, Nat.le_of_ble_eq_true rfl⟩ rfl (Nat.le_of_ble_eq_true rfl) rfl rfl 32 rfl ?_
        refine v_iret hX hQ rfl rfl ?_ ?_ 33 rfl
        · simp (decide := true) only [faR, h24, c19, c40, not_true_eq_false, not_false_eq_true, and_true, true_and, and_false, false_and, or_true, true_or, or_false, false_or, and_self, or_self, if_true, if_false, ite_true, ite_false, reduceIte, eq_self, ne_eq]
        · simp (decide := true) only [faM, h24, c19, c40, not_true_eq_false, not_false_eq_true, and_true, true_and, and_false, false_and, or_true, true_or, or_false, false_or, and_self, or_self, if_true, if_false, ite_true, ite_false, reduceIte, eq_self, ne_eq]
      · skip
        refine v_bipush hX (v := (-5)) 22 rfl (by decide) ?_
        refine v_iret hX hQ rfl rfl ?_ ?_ 23 rfl
        · simp (decide := true) only [faR, h24, c19, c40, not_true_eq_false, not_false_eq_true, and_true, true_and, and_false, false_and, or_true, true_or, or_false, false_or, and_self, or_self, if_true, if_false, ite_true, ite_false, reduceIte, eq_self, ne_eq]
        · simp (decide := true) only [faM, h24, c19, c40, not_true_eq_false, not_false_eq_true, and_true, true_and, and_false, false_and, or_true, true_or, or_false, false_or, and_self, or_self, if_true, if_false, ite_true, ite_false, reduceIte, eq_self, ne_eq]
    · skip
      have h24 : n = 24 := by omega
      refine v_callV hX 0 (by have := isB_lt hb; omega) (cG_B hb) rfl (f_freeRow_out hb hz h24) tw_267 tw_264 tw_266 tw_10 tw_40 (by decide +kernel) ⟨⟨rfl, rfl⟩, Nat.le_of_ble_eq_true rfl, Nat.le_of_ble_eq_true rfl⟩ rfl (Nat.le_of_ble_eq_true rfl) rfl rfl 15 rfl ?_
      refine v_ifnonnullN hX 16 rfl ?_
      refine v_bipush hX (v := (-4)) 17 rfl (by decide) ?_
      refine v_iret hX hQ rfl rfl ?_ ?_ 18 rfl
      · simp (decide := true) only [faR, h24, c19, not_true_eq_false, not_false_eq_true, and_true, true_and, and_false, false_and, or_true, true_or, or_false, false_or, and_self, or_self, if_true, if_false, ite_true, ite_false, reduceIte, eq_self, ne_eq]
      · simp (decide := true) only [faM, h24, c19, not_true_eq_false, not_false_eq_true, and_true, true_and, and_false, false_and, or_true, true_or, or_false, false_or, and_self, or_self, if_true, if_false, ite_true, ite_false, reduceIte, eq_self, ne_eq]
  · skip
    refine v_bipush hX (v := (-2)) 12 rfl (by decide) ?_
    refine v_iret hX hQ rfl rfl ?_ ?_ 13 rfl
    · simp (decide := true) only [faR, c19, not_true_eq_false, not_false_eq_true, and_true, true_and, and_false, false_and, or_true, true_or, or_false, false_or, and_self, or_self, if_true, if_false, ite_true, ite_false, reduceIte, eq_self, ne_eq]
    · simp (decide := true) only [faM, c19, not_true_eq_false, not_false_eq_true, and_true, true_and, and_false, false_and, or_true, true_or, or_false, false_or, and_self, or_self, if_true, if_false, ite_true, ite_false, reduceIte, eq_self, ne_eq]
set_option maxRecDepth 100000 in
set_option maxHeartbeats 4000000 in
theorem f_standingIf {Y : Yt} {M : Mm} {b n : Nat} {xo xa : Int32} (hb : isB b) (hz : M.1 b 1 = nI n) (hn : n ≤ 24) (hw : WF (cp M b) n) : Fn Y yX0_standingIf wsX0_standingIf { frames := 2, cells := 0, slots := 0, locals := 43 } [.ref (Y.2.2.2.1 b), .int xo, .int xa] M (some (.int (mk (sd (bt xo) (bt xa) (cp M b) n) n))) M := by
  refine Fn.of (cc := cX0_standingIf) (ins := iX0_standingIf) (maxL := 6) (ret := (some .int)) (by decide) dX0_standingIf [some (.ref (Y.2.2.2.1 b)), some (.int xo), some (.int xa), none, none, none] (Nat.le_of_ble_eq_true rfl) rfl rfl ?_
  intro X hX hQ
  refine v_iload_n hX 2 0 rfl rfl rfl ?_
  refine v_istore_n hX 3 1 rfl rfl (Nat.le_of_ble_eq_true rfl) rfl ?_
  refine v_iconst hX (v := 0) 2 rfl (by decide) ?_
  refine v_istore hX 3 rfl (Nat.le_of_ble_eq_true rfl) rfl ?_
  refine v_aload_n hX 0 4 rfl rfl rfl ?_
  refine g_0_1 hX 5 hb tw_105 rfl ?_
  refine v_iconst hX (v := 1) 6 rfl (by decide) ?_
  refine v_isub hX 7 rfl ?_
  refine v_istore hX 8 rfl (Nat.le_of_ble_eq_true rfl) rfl ?_
  have lp : ∀ (m : Nat), m ≤ n → ∀ (an s2 : Int32), (∀ i, i < 32 → bt an i = (bt xa i || anS (sd (bt xo) (bt xa) (cp M b) n) (cp M b) n m i)) → (∀ i, i < 32 → bt s2 i = (decide (i < n) && (decide (m ≤ i) && sd (bt xo) (bt xa) (cp M b) n i))) → V Y X M 13 [some (.ref (Y.2.2.2.1 b)), some (.int xo), some (.int xa), some (.int an), some (.int s2), some (.int (nI m - 1))] [] := by
    refine downTo (fun m ih => ?_)
    intro hm an s2 h1 h2
    rcases Nat.eq_zero_or_pos m with h0 | h0
    · skip
      subst h0
      refine v_iload hX 9 rfl rfl ?_
      refine v_if_lt hX (tgt := 53) 10 rfl (by decide) (fun c15 => ?_) (fun c15 => absurd (by decide) c15)
      refine v_iload hX 31 rfl rfl ?_
      refine v_iret hX hQ rfl rfl ?_ ?_ 32 rfl
      · refine congrArg (fun z : Int32 => some (Value.int z)) (b_ext (fun i hi => ?_)); rw [h2 i hi, bt_mk _ (by omega) hi]; simp
      · rfl
    · skip
      obtain ⟨m, rfl⟩ : ∃ m2, m = m2 + 1 := ⟨m - 1, by omega⟩
      rw [nI_pred]
      refine v_iload hX 9 rfl rfl ?_
      refine v_if_lt hX (tgt := 53) 10 rfl (by decide) (fun c15 => absurd c15 (nI_nlt (Nat.zero_le _) (by omega))) (fun c15 => ?_)
      refine v_iload_n hX 1 11 rfl rfl rfl ?_
      refine v_iload_n hX 3 12 rfl rfl rfl ?_
      refine v_ior hX 13 rfl ?_
      refine v_iload hX 14 rfl rfl ?_
      refine v_callSN hX 2 (f_has) tw_314 (List.mem_of_getElem? (i := 15) rfl) tw_39 tw_313 (by decide +kernel) ⟨⟨rfl, rfl⟩, Nat.le_of_ble_eq_true rfl, Nat.le_of_ble_eq_true rfl⟩ rfl (Nat.le_of_ble_eq_true rfl) rfl rfl 15 rfl ?_
      refine v_if_ne hX (tgt := 47) 16 rfl (by decide) (fun c26 => ?_) (fun c26 => ?_)
      · skip
        have hb1 := hasv_ne (by omega) c26
        rw [b_or, h1 m (by omega)] at hb1
        have hs0 : sd (bt xo) (bt xa) (cp M b) n m = false := by rw [sd_eq (show m < n by omega)]; cases q1 : bt xo m <;> cases q2 : bt xa m <;> simp_all
        refine v_iinc hX 29 rfl rfl (nI_dm m) (Nat.le_of_ble_eq_true rfl) rfl ?_
        refine v_goto hX (tgt := 13) 30 rfl (by decide) ?_
        refine V.sub (ih m (by omega) (by omega) _ _ ?_ ?_) rfl ⟨rfl, rfl, rfl, rfl, rfl, rfl, trivial⟩
        · intro i hi; rw [h1 i hi, anS_step (show m < n by omega), hs0]; simp
        · intro i hi; rw [h2 i hi]; exact stF hs0
      · skip
        have hb1 := hasv_eq (by omega) c26
        rw [b_or, h1 m (by omega)] at hb1
        have hs0 : sd (bt xo) (bt xa) (cp M b) n m = true := by rw [sd_eq (show m < n by omega)]; cases q1 : bt xo m <;> cases q2 : bt xa m <;> simp_all
        refine v_iload hX 17 rfl rfl ?_
        refine v_iconst hX (v := 1) 18 rfl (by decide) ?_
        refine v_iload hX 19 rfl rfl ?_
        refine v_ishl hX 20 rfl ?_
        refine v_ior hX 21 rfl ?_
        refine v_istore hX 22 rfl (Nat.le_of_ble_eq_true rfl) rfl ?_
        refine v_iload_n hX 3 23 rfl rfl rfl ?_
        refine v_aload_n hX 0 24 rfl rfl rfl ?_
        refine v_iload hX 25 rfl rfl ?_
        refine v_callV hX 1 (by have := isB_lt hb; omega) (cG_B hb) rfl (f_targetOf hb hz hn (show m < n by omega)) tw_318 tw_315 tw_317 tw_20 tw_40 (by decide +kernel) ⟨⟨rfl, rfl⟩, Nat.le_of_ble_eq_true rfl, Nat.le_of_ble_eq_true rfl⟩ rfl (Nat.le_of_ble_eq_true rfl) rfl rfl 26 rfl ?_
        refine v_ior hX 27 rfl ?_
        refine v_istore_n hX 3 28 rfl rfl (Nat.le_of_ble_eq_true rfl) rfl ?_
        refine v_iinc hX 29 rfl rfl (nI_dm m) (Nat.le_of_ble_eq_true rfl) rfl ?_
        refine v_goto hX (tgt := 13) 30 rfl (by decide) ?_
        refine V.sub (ih m (by omega) (by omega) _ _ ?_ ?_) rfl ⟨rfl, rfl, rfl, rfl, rfl, rfl, trivial⟩
        · intro i hi; rw [b_or, h1 i hi, bt_tgt hw hn (show m < n by omega) hi, anS_step (show m < n by omega), hs0]; cases bt xa i <;> cases anS (sd (bt xo) (bt xa) (cp M b) n) (cp M b) n (m + 1) i <;> simp
        · intro i hi; rw [b_or, h2 i hi, bt_one (by omega) hi]; exact stT (by omega) hs0
  rw [hz]
  exact V.sub (lp n (Nat.le_refl n) xa 0 (fun i hi => by rw [anS_end, Bool.or_false]) (fun i hi => by rw [b_0]; by_cases h : i < n; (have : ¬ n ≤ i := by omega); simp [this]; simp [h])) rfl ⟨rfl, rfl, rfl, rfl, rfl, rfl, trivial⟩
set_option maxRecDepth 100000 in
set_option maxHeartbeats 4000000 in
theorem f_standing {Y : Yt} {M : Mm} {b n : Nat} (hb : isB b) (hz : M.1 b 1 = nI n) (hn : n ≤ 24) (hw : WF (cp M b) n) : Fn Y yX0_standing wsX0_standing { frames := 3, cells := 0, slots := 0, locals := 68 } [.ref (Y.2.2.2.1 b)] M (some (.int (mk (bSd M b n) n))) M := by
  refine Fn.of (cc := cX0_standing) (ins := iX0_standing) (maxL := 1) (ret := (some .int)) (by decide) dX0_standing [some (.ref (Y.2.2.2.1 b))] (Nat.le_of_ble_eq_true rfl) rfl rfl ?_
  intro X hX hQ
  refine v_aload_n hX 0 0 rfl rfl rfl ?_
  refine v_aload_n hX 0 1 rfl rfl rfl ?_
  refine v_callV hX 0 (by have := isB_lt hb; omega) (cG_B hb) rfl (f_out hb hz hn hw) tw_291 tw_288 tw_290 tw_14 tw_40 (by decide +kernel) ⟨⟨rfl, rfl⟩, Nat.le_of_ble_eq_true rfl, Nat.le_of_ble_eq_true rfl⟩ rfl (Nat.le_of_ble_eq_true rfl) rfl rfl 2 rfl ?_
  refine v_iconst hX (v := 0) 3 rfl (by decide) ?_
  refine v_callV hX 2 (by have := isB_lt hb; omega) (cG_B hb) rfl (f_standingIf hb hz hn hw) tw_311 tw_308 tw_310 tw_19 tw_40 (by decide +kernel) ⟨⟨rfl, rfl⟩, Nat.le_of_ble_eq_true rfl, Nat.le_of_ble_eq_true rfl⟩ rfl (Nat.le_of_ble_eq_true rfl) rfl rfl 4 rfl ?_
  refine v_iret hX hQ rfl rfl ?_ ?_ 5 rfl
  · rw [bSd_bt hn]
  · rfl
end
section
set_option maxRecDepth 100000 in
set_option maxHeartbeats 4000000 in
theorem f_bitCount {Y : Yt} {M : Mm} {x : Int32} : Fn Y yJ6_bitCount_0f7a4 wsJ6_bitCount_0f7a4 { frames := 0, cells := 0, slots := 0, locals := 0 } [.int x] M (some (.int (bc x))) M := by
  refine Fn.of (cc := cJ6_bitCount_0f7a4) (ins := iJ6_bitCount_0f7a4) (maxL := 1) (ret := (some .int)) (by decide) dJ6_bitCount_0f7a4 [some (.int x)] (Nat.le_of_ble_eq_true rfl) rfl rfl ?_
  intro X hX hQ
  refine v_iload_n hX 0 0 rfl rfl rfl ?_
  refine v_iload_n hX 0 1 rfl rfl rfl ?_
  refine v_iconst hX (v := 1) 2 rfl (by decide) ?_
  refine v_iushr hX 3 rfl rfl ?_
  refine v_ldcw hX tw_322 4 rfl ?_
  refine v_iand hX 5 rfl ?_
  refine v_isub hX 6 rfl ?_
  refine v_istore_n hX 0 7 rfl rfl (Nat.le_of_ble_eq_true rfl) rfl ?_
  refine v_iload_n hX 0 8 rfl rfl rfl ?_
  refine v_ldcw hX tw_323 9 rfl ?_
  refine v_iand hX 10 rfl ?_
  refine v_iload_n hX 0 11 rfl rfl rfl ?_
  refine v_iconst hX (v := 2) 12 rfl (by decide) ?_
  refine v_iushr hX 13 rfl rfl ?_
  refine v_ldcw hX tw_323 14 rfl ?_
  refine v_iand hX 15 rfl ?_
  refine v_iadd hX 16 rfl ?_
  refine v_istore_n hX 0 17 rfl rfl (Nat.le_of_ble_eq_true rfl) rfl ?_
  refine v_iload_n hX 0 18 rfl rfl rfl ?_
  refine v_iload_n hX 0 19 rfl rfl rfl ?_
  refine v_iconst hX (v := 4) 20 rfl (by decide) ?_
  refine v_iushr hX 21 rfl rfl ?_
  refine v_iadd hX 22 rfl ?_
  refine v_ldcw hX tw_324 23 rfl ?_
  refine v_iand hX 24 rfl ?_
  refine v_istore_n hX 0 25 rfl rfl (Nat.le_of_ble_eq_true rfl) rfl ?_
  refine v_iload_n hX 0 26 rfl rfl rfl ?_
  refine v_iload_n hX 0 27 rfl rfl rfl ?_
  refine v_bipush hX (v := 8) 28 rfl (by decide) ?_
  refine v_iushr hX 29 rfl rfl ?_
  refine v_iadd hX 30 rfl ?_
  refine v_istore_n hX 0 31 rfl rfl (Nat.le_of_ble_eq_true rfl) rfl ?_
  refine v_iload_n hX 0 32 rfl rfl rfl ?_
  refine v_iload_n hX 0 33 rfl rfl rfl ?_
  refine v_bipush hX (v := 16) 34 rfl (by decide) ?_
  refine v_iushr hX 35 rfl rfl ?_
  refine v_iadd hX 36 rfl ?_
  refine v_istore_n hX 0 37 rfl rfl (Nat.le_of_ble_eq_true rfl) rfl ?_
  refine v_iload_n hX 0 38 rfl rfl rfl ?_
  refine v_bipush hX (v := 63) 39 rfl (by decide) ?_
  refine v_iand hX 40 rfl ?_
  refine v_iret hX hQ rfl rfl ?_ ?_ 41 rfl
  · rfl
  · rfl
set_option maxRecDepth 100000 in
set_option maxHeartbeats 4000000 in
theorem f_takeBack_no {Y : Yt} {M : Mm} {b n : Nat} {x : Int32} (hb : isB b) (hz : M.1 b 1 = nI n) (hn : n ≤ 24) (hx : x < 0 ∨ nI n ≤ x) : Fn Y yX0_takeBack wsX0_takeBack { frames := 4, cells := 0, slots := 0, locals := 88 } [.ref (Y.2.2.2.1 b), .int x] M (some (.int (-1))) M := by
  refine Fn.of (cc := cX0_takeBack) (ins := iX0_takeBack) (maxL := 3) (ret := (some .int)) (by decide) dX0_takeBack [some (.ref (Y.2.2.2.1 b)), some (.int x), none] (Nat.le_of_ble_eq_true rfl) rfl rfl ?_
  intro X hX hQ
  refine v_aload_n hX 0 0 rfl rfl rfl ?_
  refine v_iload_n hX 1 1 rfl rfl rfl ?_
  refine v_callV hX 1 (by have := isB_lt hb; omega) (cG_B hb) rfl (f_find_out hb hz hx) tw_232 tw_229 tw_231 tw_3 tw_40 (by decide +kernel) ⟨⟨rfl, rfl⟩, Nat.le_of_ble_eq_true rfl, Nat.le_of_ble_eq_true rfl⟩ rfl (Nat.le_of_ble_eq_true rfl) rfl rfl 2 rfl ?_
  refine v_astore_nN hX 2 3 rfl rfl (Nat.le_of_ble_eq_true rfl) rfl ?_
  refine v_aload_nN hX 2 4 rfl rfl rfl ?_
  refine v_ifnonnullN hX 5 rfl ?_
  refine v_iconst hX (v := (-1)) 6 rfl (by decide) ?_
  refine v_iret hX hQ rfl rfl ?_ ?_ 7 rfl
  · rfl
  · rfl
set_option maxRecDepth 100000 in
set_option maxHeartbeats 4000000 in
theorem f_takeBack {Y : Yt} {M : Mm} {b n i : Nat} (hb : isB b) (hz : M.1 b 1 = nI n) (hn : n ≤ 24) (hi : i < n) (hw : WF (cp M b) n) : Fn Y yX0_takeBack wsX0_takeBack { frames := 4, cells := 0, slots := 0, locals := 88 } [.ref (Y.2.2.2.1 b), .int (nI i)] M (some (.int (tbR M b n i))) ((tbM M b i)) := by
  refine Fn.of (cc := cX0_takeBack) (ins := iX0_takeBack) (maxL := 3) (ret := (some .int)) (by decide) dX0_takeBack [some (.ref (Y.2.2.2.1 b)), some (.int (nI i)), none] (Nat.le_of_ble_eq_true rfl) rfl rfl ?_
  intro X hX hQ
  refine v_aload_n hX 0 0 rfl rfl rfl ?_
  refine v_iload_n hX 1 1 rfl rfl rfl ?_
  refine v_callV hX 1 (by have := isB_lt hb; omega) (cG_B hb) rfl (f_find_in hb hz hn hi) tw_232 tw_229 tw_231 tw_3 tw_40 (by decide +kernel) ⟨⟨rfl, rfl⟩, Nat.le_of_ble_eq_true rfl, Nat.le_of_ble_eq_true rfl⟩ rfl (Nat.le_of_ble_eq_true rfl) rfl rfl 2 rfl ?_
  refine v_astore_n hX 2 3 rfl rfl (Nat.le_of_ble_eq_true rfl) rfl ?_
  refine v_aload_n hX 2 4 rfl rfl rfl ?_
  refine v_ifnonnull hX (tgt := 12) 5 rfl (by decide) ?_
  refine v_aload_n hX 2 8 rfl rfl rfl ?_
  refine gN_4_6 hX 9 hb (by omega) (List.mem_of_getElem? (i := 12) rfl) rfl ?_
  refine v_if_eq hX (tgt := 22) 10 rfl (by decide) (fun c16 => ?_) (fun c16 => ?_)
  · skip
    refine v_aload_n hX 2 13 rfl rfl rfl ?_
    refine v_iconst hX (v := 1) 14 rfl (by decide) ?_
    refine pN_4_6 hX 15 hb (by omega) rfl rfl (List.mem_of_getElem? (i := 12) rfl) rfl ?_
    refine v_aload_n hX 0 16 rfl rfl rfl ?_
    have hz2 : (mset M (b + 2 + i) 6 1).1 b 1 = nI n := by rw [mset_n (by omega)]; exact hz
    refine v_callV hX 0 (by have := isB_lt hb; omega) (cG_B hb) rfl (f_standing hb hz2 hn (WF_wd (Or.inr rfl) hw)) tw_287 tw_284 tw_286 tw_13 tw_40 (by decide +kernel) ⟨⟨rfl, rfl⟩, Nat.le_of_ble_eq_true rfl, Nat.le_of_ble_eq_true rfl⟩ rfl (Nat.le_of_ble_eq_true rfl) rfl rfl 17 rfl ?_
    refine v_callS hX 1 (f_bitCount) tw_321 tw_319 tw_320 tw_46 (by decide +kernel) ⟨⟨rfl, rfl⟩, Nat.le_of_ble_eq_true rfl, Nat.le_of_ble_eq_true rfl⟩ rfl (Nat.le_of_ble_eq_true rfl) rfl rfl 18 rfl ?_
    refine v_iret hX hQ rfl rfl ?_ ?_ 19 rfl
    · simp (decide := true) only [tbR, c16, not_true_eq_false, not_false_eq_true, and_true, true_and, and_false, false_and, or_true, true_or, or_false, false_or, and_self, or_self, if_true, if_false, ite_true, ite_false, reduceIte, eq_self, ne_eq]
    · simp (decide := true) only [tbM, c16, not_true_eq_false, not_false_eq_true, and_true, true_and, and_false, false_and, or_true, true_or, or_false, false_or, and_self, or_self, if_true, if_false, ite_true, ite_false, reduceIte, eq_self, ne_eq]
  · skip
    refine v_bipush hX (v := (-5)) 11 rfl (by decide) ?_
    refine v_iret hX hQ rfl rfl ?_ ?_ 12 rfl
    · simp (decide := true) only [tbR, c16, not_true_eq_false, not_false_eq_true, and_true, true_and, and_false, false_and, or_true, true_or, or_false, false_or, and_self, or_self, if_true, if_false, ite_true, ite_false, reduceIte, eq_self, ne_eq]
    · simp (decide := true) only [tbM, c16, not_true_eq_false, not_false_eq_true, and_true, true_and, and_false, false_and, or_true, true_or, or_false, false_or, and_self, or_self, if_true, if_false, ite_true, ite_false, reduceIte, eq_self, ne_eq]
set_option maxRecDepth 100000 in
set_option maxHeartbeats 4000000 in
theorem f_prolong_no {Y : Yt} {M : Mm} {b n : Nat} {x : Int32} (hb : isB b) (hz : M.1 b 1 = nI n) (hn : n ≤ 24) (hx : x < 0 ∨ nI n ≤ x) : Fn Y yX0_prolong wsX0_prolong { frames := 1, cells := 0, slots := 0, locals := 21 } [.ref (Y.2.2.2.1 b), .int x] M (some (.int (-1))) M := by
  refine Fn.of (cc := cX0_prolong) (ins := iX0_prolong) (maxL := 4) (ret := (some .int)) (by decide) dX0_prolong [some (.ref (Y.2.2.2.1 b)), some (.int x), none, none] (Nat.le_of_ble_eq_true rfl) rfl rfl ?_
  intro X hX hQ
  refine v_aload_n hX 0 0 rfl rfl rfl ?_
  refine v_iload_n hX 1 1 rfl rfl rfl ?_
  refine v_callV hX 1 (by have := isB_lt hb; omega) (cG_B hb) rfl (f_find_out hb hz hx) tw_232 tw_229 tw_231 tw_3 tw_40 (by decide +kernel) ⟨⟨rfl, rfl⟩, Nat.le_of_ble_eq_true rfl, Nat.le_of_ble_eq_true rfl⟩ rfl (Nat.le_of_ble_eq_true rfl) rfl rfl 2 rfl ?_
  refine v_astore_nN hX 2 3 rfl rfl (Nat.le_of_ble_eq_true rfl) rfl ?_
  refine v_aload_nN hX 2 4 rfl rfl rfl ?_
  refine v_ifnonnullN hX 5 rfl ?_
  refine v_iconst hX (v := (-1)) 6 rfl (by decide) ?_
  refine v_iret hX hQ rfl rfl ?_ ?_ 7 rfl
  · rfl
  · rfl
set_option maxRecDepth 100000 in
set_option maxHeartbeats 4000000 in
theorem f_prolong {Y : Yt} {M : Mm} {b n i : Nat} (hb : isB b) (hz : M.1 b 1 = nI n) (hn : n ≤ 24) (hi : i < n) : Fn Y yX0_prolong wsX0_prolong { frames := 1, cells := 0, slots := 0, locals := 21 } [.ref (Y.2.2.2.1 b), .int (nI i)] M (some (.int (prR M b i))) ((prM M b i)) := by
  refine Fn.of (cc := cX0_prolong) (ins := iX0_prolong) (maxL := 4) (ret := (some .int)) (by decide) dX0_prolong [some (.ref (Y.2.2.2.1 b)), some (.int (nI i)), none, none] (Nat.le_of_ble_eq_true rfl) rfl rfl ?_
  intro X hX hQ
  refine v_aload_n hX 0 0 rfl rfl rfl ?_
  refine v_iload_n hX 1 1 rfl rfl rfl ?_
  refine v_callV hX 1 (by have := isB_lt hb; omega) (cG_B hb) rfl (f_find_in hb hz hn hi) tw_232 tw_229 tw_231 tw_3 tw_40 (by decide +kernel) ⟨⟨rfl, rfl⟩, Nat.le_of_ble_eq_true rfl, Nat.le_of_ble_eq_true rfl⟩ rfl (Nat.le_of_ble_eq_true rfl) rfl rfl 2 rfl ?_
  refine v_astore_n hX 2 3 rfl rfl (Nat.le_of_ble_eq_true rfl) rfl ?_
  refine v_aload_n hX 2 4 rfl rfl rfl ?_
  refine v_ifnonnull hX (tgt := 12) 5 rfl (by decide) ?_
  refine v_aload_n hX 2 8 rfl rfl rfl ?_
  refine gN_4_3 hX 9 hb (by omega) (List.mem_of_getElem? (i := 7) rfl) rfl ?_
  refine v_bipush hX (v := (-6)) 10 rfl (by decide) ?_
  refine v_icmp_eq hX (tgt := 28) 11 rfl (by decide) (fun c18 => ?_) (fun c18 => ?_)
  · skip
    refine v_bipush hX (v := (-5)) 15 rfl (by decide) ?_
    refine v_iret hX hQ rfl rfl ?_ ?_ 16 rfl
    · simp (decide := true) only [prR, c18, not_true_eq_false, not_false_eq_true, and_true, true_and, and_false, false_and, or_true, true_or, or_false, false_or, and_self, or_self, if_true, if_false, ite_true, ite_false, reduceIte, eq_self, ne_eq]
    · simp (decide := true) only [prM, c18, not_true_eq_false, not_false_eq_true, and_true, true_and, and_false, false_and, or_true, true_or, or_false, false_or, and_self, or_self, if_true, if_false, ite_true, ite_false, reduceIte, eq_self, ne_eq]
  · skip
    refine v_aload_n hX 2 12 rfl rfl rfl ?_
    refine gN_4_6 hX 13 hb (by omega) (List.mem_of_getElem? (i := 12) rfl) rfl ?_
    refine v_if_eq hX (tgt := 31) 14 rfl (by decide) (fun c25 => ?_) (fun c25 => ?_)
    · skip
      refine v_aload_n hX 0 17 rfl rfl rfl ?_
      refine g_0_2 hX 18 hb tw_107 rfl ?_
      refine v_aload_n hX 2 19 rfl rfl rfl ?_
      refine gN_4_5 hX 20 hb (by omega) (List.mem_of_getElem? (i := 11) rfl) rfl ?_
      refine v_isub hX 21 rfl ?_
      refine v_istore_n hX 3 22 rfl rfl (Nat.le_of_ble_eq_true rfl) rfl ?_
      refine v_aload_n hX 2 23 rfl rfl rfl ?_
      refine v_aload_n hX 0 24 rfl rfl rfl ?_
      refine g_0_2 hX 25 hb tw_107 rfl ?_
      refine pN_4_5 hX 26 hb (by omega)  (List.mem_of_getElem? (i := 11) rfl) rfl ?_
      refine v_iload_n hX 3 27 rfl rfl rfl ?_
      refine v_iret hX hQ rfl rfl ?_ ?_ 28 rfl
      · simp (decide := true) only [prR, c18, c25, not_true_eq_false, not_false_eq_true, and_true, true_and, and_false, false_and, or_true, true_or, or_false, false_or, and_self, or_self, if_true, if_false, ite_true, ite_false, reduceIte, eq_self, ne_eq]
      · simp (decide := true) only [prM, c18, c25, not_true_eq_false, not_false_eq_true, and_true, true_and, and_false, false_and, or_true, true_or, or_false, false_or, and_self, or_self, if_true, if_false, ite_true, ite_false, reduceIte, eq_self, ne_eq]
    · skip
      refine v_bipush hX (v := (-5)) 15 rfl (by decide) ?_
      refine v_iret hX hQ rfl rfl ?_ ?_ 16 rfl
      · simp (decide := true) only [prR, c18, c25, not_true_eq_false, not_false_eq_true, and_true, true_and, and_false, false_and, or_true, true_or, or_false, false_or, and_self, or_self, if_true, if_false, ite_true, ite_false, reduceIte, eq_self, ne_eq]
      · simp (decide := true) only [prM, c18, c25, not_true_eq_false, not_false_eq_true, and_true, true_and, and_false, false_and, or_true, true_or, or_false, false_or, and_self, or_self, if_true, if_false, ite_true, ite_false, reduceIte, eq_self, ne_eq]
set_option maxRecDepth 100000 in
set_option maxHeartbeats 4000000 in
theorem f_turnCase {Y : Yt} {M : Mm} {b : Nat} {w : Int32} (hb : isB b) : Fn Y yX0_turnCase wsX0_turnCase { frames := 1, cells := 0, slots := 0, locals := 21 } [.ref (Y.2.2.2.1 b), .int w] M (some (.int (tcR M b w))) ((tcM M b w)) := by
  refine Fn.of (cc := cX0_turnCase) (ins := iX0_turnCase) (maxL := 2) (ret := (some .int)) (by decide) dX0_turnCase [some (.ref (Y.2.2.2.1 b)), some (.int w)] (Nat.le_of_ble_eq_true rfl) rfl rfl ?_
  intro X hX hQ
  refine v_iload_n hX 1 0 rfl rfl rfl ?_
  refine v_if_lt hX (tgt := 10) 1 rfl (by decide) (fun c1 => ?_) (fun c1 => ?_)
  · skip
    refine v_iconst hX (v := (-1)) 5 rfl (by decide) ?_
    refine v_iret hX hQ rfl rfl ?_ ?_ 6 rfl
    · first | (simp (decide := true) only [tcR, c1, not_true_eq_false, not_false_eq_true, and_true, true_and, and_false, false_and, or_true, true_or, or_false, false_or, and_self, or_self, if_true, if_false, ite_true, ite_false, reduceIte, eq_self, ne_eq]; done) | (rcases hasv_01 ((mset M b 3 (M.1 b 3 ^^^ ((1 : Int32) <<< (w &&& 31)))).1 b 3) w with q | q <;> simp_all [tcR, mset_s, upd_s])
    · simp (decide := true) only [tcM, c1, not_true_eq_false, not_false_eq_true, and_true, true_and, and_false, false_and, or_true, true_or, or_false, false_or, and_self, or_self, if_true, if_false, ite_true, ite_false, reduceIte, eq_self, ne_eq]
  · skip
    refine v_iload_n hX 1 2 rfl rfl rfl ?_
    refine v_bipush hX (v := 10) 3 rfl (by decide) ?_
    refine v_icmp_lt hX (tgt := 12) 4 rfl (by decide) (fun c7 => ?_) (fun c7 => ?_)
    · skip
      refine v_aload_n hX 0 7 rfl rfl rfl ?_
      refine v_dup hX 8 rfl rfl ?_
      refine g_0_3 hX 9 hb tw_109 rfl ?_
      refine v_iconst hX (v := 1) 10 rfl (by decide) ?_
      refine v_iload_n hX 1 11 rfl rfl rfl ?_
      refine v_ishl hX 12 rfl ?_
      refine v_ixor hX 13 rfl ?_
      refine p_0_3 hX 14 hb  tw_109 rfl ?_
      refine v_aload_n hX 0 15 rfl rfl rfl ?_
      refine g_0_3 hX 16 hb tw_109 rfl ?_
      refine v_iload_n hX 1 17 rfl rfl rfl ?_
      refine v_callSN hX 2 (f_has) tw_314 (List.mem_of_getElem? (i := 15) rfl) tw_39 tw_313 (by decide +kernel) ⟨⟨rfl, rfl⟩, Nat.le_of_ble_eq_true rfl, Nat.le_of_ble_eq_true rfl⟩ rfl (Nat.le_of_ble_eq_true rfl) rfl rfl 18 rfl ?_
      refine v_if_eq hX (tgt := 39) 19 rfl (by decide) (fun c32 => ?_) (fun c32 => ?_)
      · skip
        refine v_iconst hX (v := 0) 22 rfl (by decide) ?_
        refine v_iret hX hQ rfl rfl ?_ ?_ 23 rfl
        · first | (simp (decide := true) only [tcR, c1, c7, c32, not_true_eq_false, not_false_eq_true, and_true, true_and, and_false, false_and, or_true, true_or, or_false, false_or, and_self, or_self, if_true, if_false, ite_true, ite_false, reduceIte, eq_self, ne_eq]; done) | (rcases hasv_01 ((mset M b 3 (M.1 b 3 ^^^ ((1 : Int32) <<< (w &&& 31)))).1 b 3) w with q | q <;> simp_all [tcR, mset_s, upd_s])
        · simp (decide := true) only [tcM, c1, c7, c32, not_true_eq_false, not_false_eq_true, and_true, true_and, and_false, false_and, or_true, true_or, or_false, false_or, and_self, or_self, if_true, if_false, ite_true, ite_false, reduceIte, eq_self, ne_eq]
      · skip
        refine v_iconst hX (v := 1) 20 rfl (by decide) ?_
        refine v_goto hX (tgt := 40) 21 rfl (by decide) ?_
        refine v_iret hX hQ rfl rfl ?_ ?_ 23 rfl
        · first | (simp (decide := true) only [tcR, c1, c7, c32, not_true_eq_false, not_false_eq_true, and_true, true_and, and_false, false_and, or_true, true_or, or_false, false_or, and_self, or_self, if_true, if_false, ite_true, ite_false, reduceIte, eq_self, ne_eq]; done) | (rcases hasv_01 ((mset M b 3 (M.1 b 3 ^^^ ((1 : Int32) <<< (w &&& 31)))).1 b 3) w with q | q <;> simp_all [tcR, mset_s, upd_s])
        · simp (decide := true) only [tcM, c1, c7, c32, not_true_eq_false, not_false_eq_true, and_true, true_and, and_false, false_and, or_true, true_or, or_false, false_or, and_self, or_self, if_true, if_false, ite_true, ite_false, reduceIte, eq_self, ne_eq]
    · skip
      refine v_iconst hX (v := (-1)) 5 rfl (by decide) ?_
      refine v_iret hX hQ rfl rfl ?_ ?_ 6 rfl
      · first | (simp (decide := true) only [tcR, c1, c7, not_true_eq_false, not_false_eq_true, and_true, true_and, and_false, false_and, or_true, true_or, or_false, false_or, and_self, or_self, if_true, if_false, ite_true, ite_false, reduceIte, eq_self, ne_eq]; done) | (rcases hasv_01 ((mset M b 3 (M.1 b 3 ^^^ ((1 : Int32) <<< (w &&& 31)))).1 b 3) w with q | q <;> simp_all [tcR, mset_s, upd_s])
      · simp (decide := true) only [tcM, c1, c7, not_true_eq_false, not_false_eq_true, and_true, true_and, and_false, false_and, or_true, true_or, or_false, false_or, and_self, or_self, if_true, if_false, ite_true, ite_false, reduceIte, eq_self, ne_eq]
set_option maxRecDepth 100000 in
set_option maxHeartbeats 4000000 in
theorem f_moveOn {Y : Yt} {M : Mm} {b n : Nat} {d : Int32} (hb : isB b) (hz : M.1 b 1 = nI n) (hn : n ≤ 24) (hw : WF (cp M b) n) : Fn Y yX0_moveOn wsX0_moveOn { frames := 4, cells := 0, slots := 0, locals := 88 } [.ref (Y.2.2.2.1 b), .int d] M (some (.int (moR M b n d))) ((moM M b d)) := by
  refine Fn.of (cc := cX0_moveOn) (ins := iX0_moveOn) (maxL := 2) (ret := (some .int)) (by decide) dX0_moveOn [some (.ref (Y.2.2.2.1 b)), some (.int d)] (Nat.le_of_ble_eq_true rfl) rfl rfl ?_
  intro X hX hQ
  refine v_iload_n hX 1 0 rfl rfl rfl ?_
  refine v_iconst hX (v := 1) 1 rfl (by decide) ?_
  refine v_icmp_lt hX (tgt := 11) 2 rfl (by decide) (fun c2 => ?_) (fun c2 => ?_)
  · skip
    refine v_bipush hX (v := (-2)) 6 rfl (by decide) ?_
    refine v_iret hX hQ rfl rfl ?_ ?_ 7 rfl
    · simp (decide := true) only [moR, c2, not_true_eq_false, not_false_eq_true, and_true, true_and, and_false, false_and, or_true, true_or, or_false, false_or, and_self, or_self, if_true, if_false, ite_true, ite_false, reduceIte, eq_self, ne_eq]
    · simp (decide := true) only [moM, c2, not_true_eq_false, not_false_eq_true, and_true, true_and, and_false, false_and, or_true, true_or, or_false, false_or, and_self, or_self, if_true, if_false, ite_true, ite_false, reduceIte, eq_self, ne_eq]
  · skip
    refine v_iload_n hX 1 3 rfl rfl rfl ?_
    refine v_bipush hX (v := 99) 4 rfl (by decide) ?_
    refine v_icmp_le hX (tgt := 14) 5 rfl (by decide) (fun c8 => ?_) (fun c8 => ?_)
    · skip
      refine v_aload_n hX 0 8 rfl rfl rfl ?_
      refine g_0_2 hX 9 hb tw_107 rfl ?_
      refine v_iload_n hX 1 10 rfl rfl rfl ?_
      refine v_iadd hX 11 rfl ?_
      refine v_sipush hX (v := 999) 12 rfl (by decide) ?_
      refine v_icmp_le hX (tgt := 29) 13 rfl (by decide) (fun c23 => ?_) (fun c23 => ?_)
      · skip
        refine v_aload_n hX 0 16 rfl rfl rfl ?_
        refine v_dup hX 17 rfl rfl ?_
        refine g_0_2 hX 18 hb tw_107 rfl ?_
        refine v_iload_n hX 1 19 rfl rfl rfl ?_
        refine v_iadd hX 20 rfl ?_
        refine p_0_2 hX 21 hb  tw_107 rfl ?_
        refine v_aload_n hX 0 22 rfl rfl rfl ?_
        have hz2 : (mset M b 2 (M.1 b 2 + d)).1 b 1 = nI n := by rw [mset_s, upd_n (by decide)]; exact hz
        refine v_callV hX 0 (by have := isB_lt hb; omega) (cG_B hb) rfl (f_standing hb hz2 hn (by rw [cp_mset_b]; exact hw)) tw_287 tw_284 tw_286 tw_13 tw_40 (by decide +kernel) ⟨⟨rfl, rfl⟩, Nat.le_of_ble_eq_true rfl, Nat.le_of_ble_eq_true rfl⟩ rfl (Nat.le_of_ble_eq_true rfl) rfl rfl 23 rfl ?_
        refine v_callS hX 1 (f_bitCount) tw_321 tw_319 tw_320 tw_46 (by decide +kernel) ⟨⟨rfl, rfl⟩, Nat.le_of_ble_eq_true rfl, Nat.le_of_ble_eq_true rfl⟩ rfl (Nat.le_of_ble_eq_true rfl) rfl rfl 24 rfl ?_
        refine v_iret hX hQ rfl rfl ?_ ?_ 25 rfl
        · simp (decide := true) only [moR, c2, c8, c23, not_true_eq_false, not_false_eq_true, and_true, true_and, and_false, false_and, or_true, true_or, or_false, false_or, and_self, or_self, if_true, if_false, ite_true, ite_false, reduceIte, eq_self, ne_eq]
        · simp (decide := true) only [moM, c2, c8, c23, not_true_eq_false, not_false_eq_true, and_true, true_and, and_false, false_and, or_true, true_or, or_false, false_or, and_self, or_self, if_true, if_false, ite_true, ite_false, reduceIte, eq_self, ne_eq]
      · skip
        refine v_bipush hX (v := (-5)) 14 rfl (by decide) ?_
        refine v_iret hX hQ rfl rfl ?_ ?_ 15 rfl
        · simp (decide := true) only [moR, c2, c8, c23, not_true_eq_false, not_false_eq_true, and_true, true_and, and_false, false_and, or_true, true_or, or_false, false_or, and_self, or_self, if_true, if_false, ite_true, ite_false, reduceIte, eq_self, ne_eq]
        · simp (decide := true) only [moM, c2, c8, c23, not_true_eq_false, not_false_eq_true, and_true, true_and, and_false, false_and, or_true, true_or, or_false, false_or, and_self, or_self, if_true, if_false, ite_true, ite_false, reduceIte, eq_self, ne_eq]
    · skip
      refine v_bipush hX (v := (-2)) 6 rfl (by decide) ?_
      refine v_iret hX hQ rfl rfl ?_ ?_ 7 rfl
      · simp (decide := true) only [moR, c2, c8, not_true_eq_false, not_false_eq_true, and_true, true_and, and_false, false_and, or_true, true_or, or_false, false_or, and_self, or_self, if_true, if_false, ite_true, ite_false, reduceIte, eq_self, ne_eq]
      · simp (decide := true) only [moM, c2, c8, not_true_eq_false, not_false_eq_true, and_true, true_and, and_false, false_and, or_true, true_or, or_false, false_or, and_self, or_self, if_true, if_false, ite_true, ite_false, reduceIte, eq_self, ne_eq]
set_option maxRecDepth 100000 in
set_option maxHeartbeats 4000000 in
theorem f_all {Y : Yt} {M : Mm} {b n : Nat} (hb : isB b) (hz : M.1 b 1 = nI n) : Fn Y yX0_all wsX0_all { frames := 0, cells := 0, slots := 0, locals := 0 } [.ref (Y.2.2.2.1 b)] M (some (.int (((1 : Int32) <<< (nI n &&& 31)) - 1))) M := by
  refine Fn.of (cc := cX0_all) (ins := iX0_all) (maxL := 1) (ret := (some .int)) (by decide) dX0_all [some (.ref (Y.2.2.2.1 b))] (Nat.le_of_ble_eq_true rfl) rfl rfl ?_
  intro X hX hQ
  refine v_iconst hX (v := 1) 0 rfl (by decide) ?_
  refine v_aload_n hX 0 1 rfl rfl rfl ?_
  refine g_0_1 hX 2 hb tw_105 rfl ?_
  refine v_ishl hX 3 rfl ?_
  refine v_iconst hX (v := 1) 4 rfl (by decide) ?_
  refine v_isub hX 5 rfl ?_
  refine v_iret hX hQ rfl rfl ?_ ?_ 6 rfl
  · rw [hz]
  · rfl
set_option maxRecDepth 100000 in
set_option maxHeartbeats 4000000 in
theorem f_withoutAnswers {Y : Yt} {M : Mm} {b n : Nat} (hb : isB b) (hz : M.1 b 1 = nI n) (hn : n ≤ 24) : Fn Y yX0_withoutAnswers wsX0_withoutAnswers { frames := 2, cells := 0, slots := 0, locals := 43 } [.ref (Y.2.2.2.1 b)] M (some (.int (waA (cp M b) n n))) M := by
  refine Fn.of (cc := cX0_withoutAnswers) (ins := iX0_withoutAnswers) (maxL := 3) (ret := (some .int)) (by decide) dX0_withoutAnswers [some (.ref (Y.2.2.2.1 b)), none, none] (Nat.le_of_ble_eq_true rfl) rfl rfl ?_
  intro X hX hQ
  refine v_aload_n hX 0 0 rfl rfl rfl ?_
  refine v_callV hX 0 (by have := isB_lt hb; omega) (cG_B hb) rfl (f_all hb hz) tw_408 tw_405 tw_407 tw_30 tw_40 (by decide +kernel) ⟨⟨rfl, rfl⟩, Nat.le_of_ble_eq_true rfl, Nat.le_of_ble_eq_true rfl⟩ rfl (Nat.le_of_ble_eq_true rfl) rfl rfl 1 rfl ?_
  refine v_istore_n hX 1 2 rfl rfl (Nat.le_of_ble_eq_true rfl) rfl ?_
  refine v_iconst hX (v := 0) 3 rfl (by decide) ?_
  refine v_istore_n hX 2 4 rfl rfl (Nat.le_of_ble_eq_true rfl) rfl ?_
  have lp : ∀ (k : Nat), k ≤ n → V Y X M 7 [some (.ref (Y.2.2.2.1 b)), some (.int (waA (cp M b) n k)), some (.int (nI k))] [] := by
    refine upTo n (fun k hk ih => ?_)
    refine v_iload_n hX 2 5 rfl rfl rfl ?_
    refine v_aload_n hX 0 6 rfl rfl rfl ?_
    refine g_0_1 hX 7 hb tw_105 rfl ?_
    refine v_icmp_ge hX (tgt := 31) 8 rfl (by decide) (fun c12 => ?_) (fun c12 => ?_)
    · skip
      have hk2 : k = n := by rw [hz] at c12; have := of_le c12 (by omega) (by omega); omega
      refine v_iload_n hX 1 19 rfl rfl rfl ?_
      refine v_iret hX hQ rfl rfl ?_ ?_ 20 rfl
      · rw [hk2]
      · rfl
    · skip
      have hk2 : k < n := by rw [hz] at c12; exact of_nle c12 (by omega) (by omega)
      refine v_iload_n hX 1 9 rfl rfl rfl ?_
      refine v_aload_n hX 0 10 rfl rfl rfl ?_
      refine v_iload_n hX 2 11 rfl rfl rfl ?_
      refine v_callV hX 1 (by have := isB_lt hb; omega) (cG_B hb) rfl (f_targetOf hb hz hn hk2) tw_318 tw_315 tw_317 tw_20 tw_40 (by decide +kernel) ⟨⟨rfl, rfl⟩, Nat.le_of_ble_eq_true rfl, Nat.le_of_ble_eq_true rfl⟩ rfl (Nat.le_of_ble_eq_true rfl) rfl rfl 12 rfl ?_
      refine v_iconst hX (v := (-1)) 13 rfl (by decide) ?_
      refine v_ixor hX 14 rfl ?_
      refine v_iand hX 15 rfl ?_
      refine v_istore_n hX 1 16 rfl rfl (Nat.le_of_ble_eq_true rfl) rfl ?_
      refine v_iinc hX 17 rfl rfl (nI_inc k) (Nat.le_of_ble_eq_true rfl) rfl ?_
      refine v_goto hX (tgt := 7) 18 rfl (by decide) ?_
      exact V.sub (ih hk2) rfl ⟨rfl, (by first | rfl | (refine congrArg (fun z : Int32 => some (Value.int z)) ?_; rfl)), rfl, trivial⟩
  exact V.sub (lp 0 (Nat.zero_le _)) rfl ⟨rfl, (by first | rfl | (refine congrArg (fun z : Int32 => some (Value.int z)) ?_; rfl)), rfl, trivial⟩
set_option maxRecDepth 100000 in
set_option maxHeartbeats 4000000 in
theorem f_answered {Y : Yt} {M : Mm} {b n : Nat} (hb : isB b) (hz : M.1 b 1 = nI n) (hn : n ≤ 24) (hw : WF (cp M b) n) : Fn Y yX0_answered wsX0_answered { frames := 4, cells := 0, slots := 0, locals := 88 } [.ref (Y.2.2.2.1 b)] M (some (.int ((((((1 : Int32) <<< (nI n &&& 31)) - 1) &&& (mk (bOut M b) n ^^^ (-1))) &&& (mk (bSd M b n) n ^^^ (-1)))))) M := by
  refine Fn.of (cc := cX0_answered) (ins := iX0_answered) (maxL := 1) (ret := (some .int)) (by decide) dX0_answered [some (.ref (Y.2.2.2.1 b))] (Nat.le_of_ble_eq_true rfl) rfl rfl ?_
  intro X hX hQ
  refine v_aload_n hX 0 0 rfl rfl rfl ?_
  refine v_callV hX 0 (by have := isB_lt hb; omega) (cG_B hb) rfl (f_all hb hz) tw_408 tw_405 tw_407 tw_30 tw_40 (by decide +kernel) ⟨⟨rfl, rfl⟩, Nat.le_of_ble_eq_true rfl, Nat.le_of_ble_eq_true rfl⟩ rfl (Nat.le_of_ble_eq_true rfl) rfl rfl 1 rfl ?_
  refine v_aload_n hX 0 2 rfl rfl rfl ?_
  refine v_callV hX 0 (by have := isB_lt hb; omega) (cG_B hb) rfl (f_out hb hz hn hw) tw_291 tw_288 tw_290 tw_14 tw_40 (by decide +kernel) ⟨⟨rfl, rfl⟩, Nat.le_of_ble_eq_true rfl, Nat.le_of_ble_eq_true rfl⟩ rfl (Nat.le_of_ble_eq_true rfl) rfl rfl 3 rfl ?_
  refine v_iconst hX (v := (-1)) 4 rfl (by decide) ?_
  refine v_ixor hX 5 rfl ?_
  refine v_iand hX 6 rfl ?_
  refine v_aload_n hX 0 7 rfl rfl rfl ?_
  refine v_callV hX 0 (by have := isB_lt hb; omega) (cG_B hb) rfl (f_standing hb hz hn hw) tw_287 tw_284 tw_286 tw_13 tw_40 (by decide +kernel) ⟨⟨rfl, rfl⟩, Nat.le_of_ble_eq_true rfl, Nat.le_of_ble_eq_true rfl⟩ rfl (Nat.le_of_ble_eq_true rfl) rfl rfl 8 rfl ?_
  refine v_iconst hX (v := (-1)) 9 rfl (by decide) ?_
  refine v_ixor hX 10 rfl ?_
  refine v_iand hX 11 rfl ?_
  refine v_iret hX hQ rfl rfl ?_ ?_ 12 rfl
  · rfl
  · rfl
set_option maxRecDepth 100000 in
set_option maxHeartbeats 4000000 in
theorem f_reasonAgainst {Y : Yt} {M : Mm} {b n i : Nat} (hb : isB b) (hz : M.1 b 1 = nI n) (hn : n ≤ 24) (hi : i < n) (hw : WF (cp M b) n) : Fn Y yX0_reasonAgainst wsX0_reasonAgainst { frames := 4, cells := 0, slots := 0, locals := 88 } [.ref (Y.2.2.2.1 b), .int (nI i)] M (some (.int (rsR M b n i))) M := by
  refine Fn.of (cc := cX0_reasonAgainst) (ins := iX0_reasonAgainst) (maxL := 2) (ret := (some .int)) (by decide) dX0_reasonAgainst [some (.ref (Y.2.2.2.1 b)), some (.int (nI i))] (Nat.le_of_ble_eq_true rfl) rfl rfl ?_
  intro X hX hQ
  refine v_aload_n hX 0 0 rfl rfl rfl ?_
  refine v_callV hX 0 (by have := isB_lt hb; omega) (cG_B hb) rfl (f_withdrawn hb hz hn) tw_295 tw_292 tw_294 tw_15 tw_40 (by decide +kernel) ⟨⟨rfl, rfl⟩, Nat.le_of_ble_eq_true rfl, Nat.le_of_ble_eq_true rfl⟩ rfl (Nat.le_of_ble_eq_true rfl) rfl rfl 1 rfl ?_
  refine v_iload_n hX 1 2 rfl rfl rfl ?_
  refine v_callSN hX 2 (f_has) tw_314 (List.mem_of_getElem? (i := 15) rfl) tw_39 tw_313 (by decide +kernel) ⟨⟨rfl, rfl⟩, Nat.le_of_ble_eq_true rfl, Nat.le_of_ble_eq_true rfl⟩ rfl (Nat.le_of_ble_eq_true rfl) rfl rfl 3 rfl ?_
  refine v_if_eq hX (tgt := 13) 4 rfl (by decide) (fun c8 => ?_) (fun c8 => ?_)
  · skip
    have q1 := hasv_eq (by omega) c8
    rw [bt_mkF _ _ (by omega) (by omega), b_0, Bool.false_or, decide_eq_true hi, Bool.true_and] at q1
    refine v_aload_n hX 0 7 rfl rfl rfl ?_
    refine v_callV hX 0 (by have := isB_lt hb; omega) (cG_B hb) rfl (f_struck hb hz hn) tw_299 tw_296 tw_298 tw_16 tw_40 (by decide +kernel) ⟨⟨rfl, rfl⟩, Nat.le_of_ble_eq_true rfl, Nat.le_of_ble_eq_true rfl⟩ rfl (Nat.le_of_ble_eq_true rfl) rfl rfl 8 rfl ?_
    refine v_iload_n hX 1 9 rfl rfl rfl ?_
    refine v_callSN hX 2 (f_has) tw_314 (List.mem_of_getElem? (i := 15) rfl) tw_39 tw_313 (by decide +kernel) ⟨⟨rfl, rfl⟩, Nat.le_of_ble_eq_true rfl, Nat.le_of_ble_eq_true rfl⟩ rfl (Nat.le_of_ble_eq_true rfl) rfl rfl 10 rfl ?_
    refine v_if_eq hX (tgt := 26) 11 rfl (by decide) (fun c21 => ?_) (fun c21 => ?_)
    · skip
      have q2 := hasv_eq (by omega) c21
      rw [skA_mk hw hn, bt_mk _ (by omega) (by omega), decide_eq_true hi, Bool.true_and] at q2
      refine v_aload_n hX 0 14 rfl rfl rfl ?_
      refine v_aload_n hX 0 15 rfl rfl rfl ?_
      refine g_0_2 hX 16 hb tw_107 rfl ?_
      refine v_callV hX 1 (by have := isB_lt hb; omega) (cG_B hb) rfl (f_lapsedOn hb hz hn) tw_303 tw_300 tw_302 tw_17 tw_40 (by decide +kernel) ⟨⟨rfl, rfl⟩, Nat.le_of_ble_eq_true rfl, Nat.le_of_ble_eq_true rfl⟩ rfl (Nat.le_of_ble_eq_true rfl) rfl rfl 17 rfl ?_
      refine v_iload_n hX 1 18 rfl rfl rfl ?_
      refine v_callSN hX 2 (f_has) tw_314 (List.mem_of_getElem? (i := 15) rfl) tw_39 tw_313 (by decide +kernel) ⟨⟨rfl, rfl⟩, Nat.le_of_ble_eq_true rfl, Nat.le_of_ble_eq_true rfl⟩ rfl (Nat.le_of_ble_eq_true rfl) rfl rfl 19 rfl ?_
      refine v_if_eq hX (tgt := 43) 20 rfl (by decide) (fun c38 => ?_) (fun c38 => ?_)
      · skip
        have q3 := hasv_eq (by omega) c38
        rw [bt_mkF _ _ (by omega) (by omega), b_0, Bool.false_or, decide_eq_true hi, Bool.true_and] at q3
        refine v_aload_n hX 0 23 rfl rfl rfl ?_
        refine v_callV hX 0 (by have := isB_lt hb; omega) (cG_B hb) rfl (f_baseless hb hz hn) tw_307 tw_304 tw_306 tw_18 tw_40 (by decide +kernel) ⟨⟨rfl, rfl⟩, Nat.le_of_ble_eq_true rfl, Nat.le_of_ble_eq_true rfl⟩ rfl (Nat.le_of_ble_eq_true rfl) rfl rfl 24 rfl ?_
        refine v_iload_n hX 1 25 rfl rfl rfl ?_
        refine v_callSN hX 2 (f_has) tw_314 (List.mem_of_getElem? (i := 15) rfl) tw_39 tw_313 (by decide +kernel) ⟨⟨rfl, rfl⟩, Nat.le_of_ble_eq_true rfl, Nat.le_of_ble_eq_true rfl⟩ rfl (Nat.le_of_ble_eq_true rfl) rfl rfl 26 rfl ?_
        refine v_if_eq hX (tgt := 56) 27 rfl (by decide) (fun c51 => ?_) (fun c51 => ?_)
        · skip
          have q4 := hasv_eq (by omega) c51
          rw [bt_mkF _ _ (by omega) (by omega), b_0, Bool.false_or, decide_eq_true hi, Bool.true_and] at q4
          refine v_aload_n hX 0 30 rfl rfl rfl ?_
          refine v_callV hX 0 (by have := isB_lt hb; omega) (cG_B hb) rfl (f_standing hb hz hn hw) tw_287 tw_284 tw_286 tw_13 tw_40 (by decide +kernel) ⟨⟨rfl, rfl⟩, Nat.le_of_ble_eq_true rfl, Nat.le_of_ble_eq_true rfl⟩ rfl (Nat.le_of_ble_eq_true rfl) rfl rfl 31 rfl ?_
          refine v_iload_n hX 1 32 rfl rfl rfl ?_
          refine v_callSN hX 2 (f_has) tw_314 (List.mem_of_getElem? (i := 15) rfl) tw_39 tw_313 (by decide +kernel) ⟨⟨rfl, rfl⟩, Nat.le_of_ble_eq_true rfl, Nat.le_of_ble_eq_true rfl⟩ rfl (Nat.le_of_ble_eq_true rfl) rfl rfl 33 rfl ?_
          refine v_if_eq hX (tgt := 71) 34 rfl (by decide) (fun c64 => ?_) (fun c64 => ?_)
          · skip
            have q5 := hasv_eq (by omega) c64
            rw [bt_mk _ (by omega) (by omega), decide_eq_true hi, Bool.true_and] at q5
            refine v_iconst hX (v := 5) 37 rfl (by decide) ?_
            refine v_iret hX hQ rfl rfl ?_ ?_ 38 rfl
            · simp [rsR, q1, q2, q3, q4, q5]
            · rfl
          · skip
            have q5 := hasv_ne (by omega) c64
            rw [bt_mk _ (by omega) (by omega), decide_eq_true hi, Bool.true_and] at q5
            refine v_iconst hX (v := 0) 35 rfl (by decide) ?_
            refine v_goto hX (tgt := 72) 36 rfl (by decide) ?_
            refine v_iret hX hQ rfl rfl ?_ ?_ 38 rfl
            · simp [rsR, q1, q2, q3, q4, q5]
            · rfl
        · skip
          have q4 := hasv_ne (by omega) c51
          rw [bt_mkF _ _ (by omega) (by omega), b_0, Bool.false_or, decide_eq_true hi, Bool.true_and] at q4
          refine v_iconst hX (v := 4) 28 rfl (by decide) ?_
          refine v_iret hX hQ rfl rfl ?_ ?_ 29 rfl
          · simp [rsR, q1, q2, q3, q4]
          · rfl
      · skip
        have q3 := hasv_ne (by omega) c38
        rw [bt_mkF _ _ (by omega) (by omega), b_0, Bool.false_or, decide_eq_true hi, Bool.true_and] at q3
        refine v_iconst hX (v := 3) 21 rfl (by decide) ?_
        refine v_iret hX hQ rfl rfl ?_ ?_ 22 rfl
        · simp [rsR, q1, q2, q3]
        · rfl
    · skip
      have q2 := hasv_ne (by omega) c21
      rw [skA_mk hw hn, bt_mk _ (by omega) (by omega), decide_eq_true hi, Bool.true_and] at q2
      refine v_iconst hX (v := 2) 12 rfl (by decide) ?_
      refine v_iret hX hQ rfl rfl ?_ ?_ 13 rfl
      · simp [rsR, q1, q2]
      · rfl
  · skip
    have q1 := hasv_ne (by omega) c8
    rw [bt_mkF _ _ (by omega) (by omega), b_0, Bool.false_or, decide_eq_true hi, Bool.true_and] at q1
    refine v_iconst hX (v := 1) 5 rfl (by decide) ?_
    refine v_iret hX hQ rfl rfl ?_ ?_ 6 rfl
    · simp [rsR, q1]
    · rfl
set_option maxRecDepth 100000 in
set_option maxHeartbeats 4000000 in
theorem f_daysLeft {Y : Yt} {M : Mm} {b n i : Nat} (hb : isB b) (hz : M.1 b 1 = nI n) (hn : n ≤ 24) (hi : i < n) : Fn Y yX0_daysLeft wsX0_daysLeft { frames := 0, cells := 0, slots := 0, locals := 0 } [.ref (Y.2.2.2.1 b), .ref (Y.2.2.2.1 (b + 2 + i))] M (some (.int (dlR M b i))) M := by
  refine Fn.of (cc := cX0_daysLeft) (ins := iX0_daysLeft) (maxL := 3) (ret := (some .int)) (by decide) dX0_daysLeft [some (.ref (Y.2.2.2.1 b)), some (.ref (Y.2.2.2.1 (b + 2 + i))), none] (Nat.le_of_ble_eq_true rfl) rfl rfl ?_
  intro X hX hQ
  refine v_aload_n hX 1 0 rfl rfl rfl ?_
  refine gN_4_5 hX 1 hb (by omega) (List.mem_of_getElem? (i := 11) rfl) rfl ?_
  refine v_aload_n hX 0 2 rfl rfl rfl ?_
  refine g_0_4 hX 3 hb tw_111 rfl ?_
  refine v_iadd hX 4 rfl ?_
  refine v_aload_n hX 0 5 rfl rfl rfl ?_
  refine g_0_2 hX 6 hb tw_107 rfl ?_
  refine v_isub hX 7 rfl ?_
  refine v_istore_n hX 2 8 rfl rfl (Nat.le_of_ble_eq_true rfl) rfl ?_
  refine v_aload_n hX 1 9 rfl rfl rfl ?_
  refine gN_4_3 hX 10 hb (by omega) (List.mem_of_getElem? (i := 7) rfl) rfl ?_
  refine v_bipush hX (v := (-6)) 11 rfl (by decide) ?_
  refine v_icmp_eq hX (tgt := 28) 12 rfl (by decide) (fun c21 => ?_) (fun c21 => ?_)
  · skip
    refine v_bipush hX (v := (-6)) 15 rfl (by decide) ?_
    refine v_goto hX (tgt := 34) 16 rfl (by decide) ?_
    refine v_iret hX hQ rfl rfl ?_ ?_ 18 rfl
    · simp (decide := true) only [dlR, c21, not_true_eq_false, not_false_eq_true, and_true, true_and, and_false, false_and, or_true, true_or, or_false, false_or, and_self, or_self, if_true, if_false, ite_true, ite_false, reduceIte, eq_self, ne_eq]
    · rfl
  · skip
    refine v_iload_n hX 2 13 rfl rfl rfl ?_
    refine v_if_ge hX (tgt := 33) 14 rfl (by decide) (fun c25 => ?_) (fun c25 => ?_)
    · skip
      refine v_iload_n hX 2 17 rfl rfl rfl ?_
      refine v_iret hX hQ rfl rfl ?_ ?_ 18 rfl
      · simp (decide := true) only [dlR, c21, c25, not_true_eq_false, not_false_eq_true, and_true, true_and, and_false, false_and, or_true, true_or, or_false, false_or, and_self, or_self, if_true, if_false, ite_true, ite_false, reduceIte, eq_self, ne_eq]
      · rfl
    · skip
      refine v_bipush hX (v := (-6)) 15 rfl (by decide) ?_
      refine v_goto hX (tgt := 34) 16 rfl (by decide) ?_
      refine v_iret hX hQ rfl rfl ?_ ?_ 18 rfl
      · simp (decide := true) only [dlR, c21, c25, not_true_eq_false, not_false_eq_true, and_true, true_and, and_false, false_and, or_true, true_or, or_false, false_or, and_self, or_self, if_true, if_false, ite_true, ite_false, reduceIte, eq_self, ne_eq]
      · rfl
set_option maxRecDepth 100000 in
set_option maxHeartbeats 4000000 in
theorem f_pagesOf {Y : Yt} {M : Mm} {b n : Nat} {s2 x : Int32} (hb : isB b) (hz : M.1 b 1 = nI n) (hn : n ≤ 24) : Fn Y yX0_pagesOf wsX0_pagesOf { frames := 1, cells := 0, slots := 0, locals := 21 } [.ref (Y.2.2.2.1 b), .int s2, .int x] M (some (.int (sm (cp M b) s2 x n))) M := by
  refine Fn.of (cc := cX0_pagesOf) (ins := iX0_pagesOf) (maxL := 6) (ret := (some .int)) (by decide) dX0_pagesOf [some (.ref (Y.2.2.2.1 b)), some (.int s2), some (.int x), none, none, none] (Nat.le_of_ble_eq_true rfl) rfl rfl ?_
  intro X hX hQ
  refine v_iconst hX (v := 0) 0 rfl (by decide) ?_
  refine v_istore_n hX 3 1 rfl rfl (Nat.le_of_ble_eq_true rfl) rfl ?_
  refine v_iconst hX (v := 0) 2 rfl (by decide) ?_
  refine v_istore hX 3 rfl (Nat.le_of_ble_eq_true rfl) rfl ?_
  have lp : ∀ (k : Nat), k ≤ n → V Y X M 5 [some (.ref (Y.2.2.2.1 b)), some (.int s2), some (.int x), some (.int (sm (cp M b) s2 x k)), some (.int (nI k)), none] [] := by
    refine upTo n (fun k hk ih => ?_)
    refine v_iload hX 4 rfl rfl ?_
    refine v_aload_n hX 0 5 rfl rfl rfl ?_
    refine g_0_1 hX 6 hb tw_105 rfl ?_
    refine v_icmp_ge hX (tgt := 59) 7 rfl (by decide) (fun c11 => ?_) (fun c11 => ?_)
    · skip
      have hk2 : k = n := by rw [hz] at c11; have := of_le c11 (by omega) (by omega); omega
      refine v_iload_n hX 3 29 rfl rfl rfl ?_
      refine v_iret hX hQ rfl rfl ?_ ?_ 30 rfl
      · rw [hk2]
      · rfl
    · skip
      have hk2 : k < n := by rw [hz] at c11; exact of_nle c11 (by omega) (by omega)
      refine v_aload_n hX 0 8 rfl rfl rfl ?_
      refine v_iload hX 9 rfl rfl ?_
      refine v_callV hX 1 (by have := isB_lt hb; omega) (cG_B hb) rfl (f_find_in hb hz hn hk2) tw_232 tw_229 tw_231 tw_3 tw_40 (by decide +kernel) ⟨⟨rfl, rfl⟩, Nat.le_of_ble_eq_true rfl, Nat.le_of_ble_eq_true rfl⟩ rfl (Nat.le_of_ble_eq_true rfl) rfl rfl 10 rfl ?_
      refine v_astore hX 11 rfl (Nat.le_of_ble_eq_true rfl) rfl ?_
      refine v_aload hX 12 rfl rfl ?_
      refine v_ifnull hX 13 rfl ?_
      refine v_aload hX 14 rfl rfl ?_
      refine gN_4_0 hX 15 hb (by omega) (List.mem_of_getElem? (i := 0) rfl) rfl ?_
      refine v_iload_n hX 1 16 rfl rfl rfl ?_
      refine v_icmp_ne hX (tgt := 53) 17 rfl (by decide) (fun c33 => ?_) (fun c33 => ?_)
      · skip
        refine v_iinc hX 27 rfl rfl (nI_inc k) (Nat.le_of_ble_eq_true rfl) rfl ?_
        refine v_goto hX (tgt := 5) 28 rfl (by decide) ?_
        exact V.sub (ih hk2) rfl ⟨rfl, rfl, rfl, (by first | rfl | (refine congrArg (fun z : Int32 => some (Value.int z)) ?_; simp [sm, cp, c33])), rfl, trivial⟩
      · skip
        refine v_iload_n hX 2 18 rfl rfl rfl ?_
        refine v_iload hX 19 rfl rfl ?_
        refine v_callSN hX 2 (f_has) tw_314 (List.mem_of_getElem? (i := 15) rfl) tw_39 tw_313 (by decide +kernel) ⟨⟨rfl, rfl⟩, Nat.le_of_ble_eq_true rfl, Nat.le_of_ble_eq_true rfl⟩ rfl (Nat.le_of_ble_eq_true rfl) rfl rfl 20 rfl ?_
        refine v_if_ne hX (tgt := 53) 21 rfl (by decide) (fun c42 => ?_) (fun c42 => ?_)
        · skip
          have q1 := hasv_ne (by omega) c42
          refine v_iinc hX 27 rfl rfl (nI_inc k) (Nat.le_of_ble_eq_true rfl) rfl ?_
          refine v_goto hX (tgt := 5) 28 rfl (by decide) ?_
          exact V.sub (ih hk2) rfl ⟨rfl, rfl, rfl, (by first | rfl | (refine congrArg (fun z : Int32 => some (Value.int z)) ?_; simp [sm, cp, q1])), rfl, trivial⟩
        · skip
          have q1 := hasv_eq (by omega) c42
          refine v_iload_n hX 3 22 rfl rfl rfl ?_
          refine v_aload hX 23 rfl rfl ?_
          refine gN_4_1 hX 24 hb (by omega) (List.mem_of_getElem? (i := 2) rfl) rfl ?_
          refine v_iadd hX 25 rfl ?_
          refine v_istore_n hX 3 26 rfl rfl (Nat.le_of_ble_eq_true rfl) rfl ?_
          refine v_iinc hX 27 rfl rfl (nI_inc k) (Nat.le_of_ble_eq_true rfl) rfl ?_
          refine v_goto hX (tgt := 5) 28 rfl (by decide) ?_
          exact V.sub (ih hk2) rfl ⟨rfl, rfl, rfl, (by first | rfl | (refine congrArg (fun z : Int32 => some (Value.int z)) ?_; simp [sm, cp, q1, c11, c33, c42])), rfl, trivial⟩
  exact V.sub (lp 0 (Nat.zero_le _)) rfl ⟨rfl, rfl, rfl, (by first | rfl | (refine congrArg (fun z : Int32 => some (Value.int z)) ?_; rfl)), rfl, trivial⟩
set_option maxRecDepth 100000 in
set_option maxHeartbeats 4000000 in
theorem f_depthOf {Y : Yt} {M : Mm} {b n i : Nat} (hb : isB b) (hz : M.1 b 1 = nI n) (hn : n ≤ 24) (hi : i < n) (hw : WF (cp M b) n) : Fn Y yX0_depthOf wsX0_depthOf { frames := 1, cells := 0, slots := 0, locals := 21 } [.ref (Y.2.2.2.1 b), .int (nI i)] M (some (.int (nI (dpN (cp M b) (i + 1) i)))) M := by
  refine Fn.of (cc := cX0_depthOf) (ins := iX0_depthOf) (maxL := 4) (ret := (some .int)) (by decide) dX0_depthOf [some (.ref (Y.2.2.2.1 b)), some (.int (nI i)), none, none] (Nat.le_of_ble_eq_true rfl) rfl rfl ?_
  intro X hX hQ
  refine v_iconst hX (v := 0) 0 rfl (by decide) ?_
  refine v_istore_n hX 2 1 rfl rfl (Nat.le_of_ble_eq_true rfl) rfl ?_
  refine v_aload_n hX 0 2 rfl rfl rfl ?_
  refine v_iload_n hX 1 3 rfl rfl rfl ?_
  refine v_callV hX 1 (by have := isB_lt hb; omega) (cG_B hb) rfl (f_find_in hb hz hn hi) tw_232 tw_229 tw_231 tw_3 tw_40 (by decide +kernel) ⟨⟨rfl, rfl⟩, Nat.le_of_ble_eq_true rfl, Nat.le_of_ble_eq_true rfl⟩ rfl (Nat.le_of_ble_eq_true rfl) rfl rfl 4 rfl ?_
  refine v_astore_n hX 3 5 rfl rfl (Nat.le_of_ble_eq_true rfl) rfl ?_
  have lp : ∀ (r : Nat), r < n → ∀ d : Nat, d + r < 24 → d + dpN (cp M b) (r + 1) r = dpN (cp M b) (i + 1) i → V Y X M 8 [some (.ref (Y.2.2.2.1 b)), some (.int (nI i)), some (.int (nI d)), some (.ref (Y.2.2.2.1 (b + 2 + r)))] [] := by
    refine downTo (fun r ih => ?_)
    intro hr d hd he
    refine v_iload_n hX 2 6 rfl rfl rfl ?_
    refine v_bipush hX (v := 24) 7 rfl (by decide) ?_
    refine v_icmp_ge hX (tgt := 42) 8 rfl (by decide) (fun c11 => absurd c11 (nI_ge (show d < 24 by omega) (by decide))) (fun c11 => ?_)
    refine v_aload_n hX 3 9 rfl rfl rfl ?_
    refine v_ifnull hX 10 rfl ?_
    refine v_aload_n hX 3 11 rfl rfl rfl ?_
    refine gN_4_3 hX 12 hb (by omega) (List.mem_of_getElem? (i := 7) rfl) rfl ?_
    refine v_bipush hX (v := (-6)) 13 rfl (by decide) ?_
    refine v_icmp_eq hX (tgt := 42) 14 rfl (by decide) (fun c24 => ?_) (fun c24 => ?_)
    · skip
      have he2 : dpN (cp M b) (r + 1) r = 0 := by rw [dpN, if_pos (show cp M b r 3 = -6 from c24)]
      refine v_iload_n hX 2 22 rfl rfl rfl ?_
      refine v_iret hX hQ rfl rfl ?_ ?_ 23 rfl
      · rw [← he, he2, Nat.add_zero]
      · rfl
    · skip
      obtain ⟨t, ht, et⟩ := (hw r hr).2.1.resolve_left c24
      have et : M.1 (b + 2 + r) 3 = nI t := et
      have he2 : dpN (cp M b) (r + 1) r = dpN (cp M b) (t + 1) t + 1 := by rw [dpN, if_neg (show ¬ cp M b r 3 = -6 from c24), show (cp M b r 3) = nI t from et, nI_clamp (by omega), dpN_fuel hw hn r (t + 1) t (by omega) (by omega) (by omega)]
      refine v_iinc hX 15 rfl rfl (nI_inc d) (Nat.le_of_ble_eq_true rfl) rfl ?_
      refine v_aload_n hX 0 16 rfl rfl rfl ?_
      refine v_aload_n hX 3 17 rfl rfl rfl ?_
      refine gN_4_3 hX 18 hb (by omega) (List.mem_of_getElem? (i := 7) rfl) rfl ?_
      rw [et]
      refine v_callV hX 1 (by have := isB_lt hb; omega) (cG_B hb) rfl (f_find_in hb hz hn (show t < n by omega)) tw_232 tw_229 tw_231 tw_3 tw_40 (by decide +kernel) ⟨⟨rfl, rfl⟩, Nat.le_of_ble_eq_true rfl, Nat.le_of_ble_eq_true rfl⟩ rfl (Nat.le_of_ble_eq_true rfl) rfl rfl 19 rfl ?_
      refine v_astore_n hX 3 20 rfl rfl (Nat.le_of_ble_eq_true rfl) rfl ?_
      refine v_goto hX (tgt := 8) 21 rfl (by decide) ?_
      exact V.sub (ih t (by omega) (by omega) (d + 1) (by omega) (by omega)) rfl ⟨rfl, rfl, rfl, rfl, trivial⟩
  exact V.sub (lp i hi 0 (by omega) (Nat.zero_add _)) rfl ⟨rfl, rfl, rfl, rfl, trivial⟩
set_option maxRecDepth 100000 in
set_option maxHeartbeats 4000000 in
theorem f_ptBecome {Y : Yt} {M : Mm} {b c i : Nat} (hb : isB b) (hc : isB c) (hi : i < 24) (h : b ≠ c) (hv : M.1 (c + 2 + i) 6 = 0 ∨ M.1 (c + 2 + i) 6 = 1) : Fn Y yX4_become wsX4_become { frames := 0, cells := 0, slots := 0, locals := 0 } [.ref (Y.2.2.2.1 (b + 2 + i)), .ref (Y.2.2.2.1 (c + 2 + i))] M none ((ptM M (b + 2 + i) (c + 2 + i))) := by
  have hap := isB_apart hb hc h
  have hne : b + 2 + i ≠ c + 2 + i := by omega
  have hne : c + 2 + i ≠ b + 2 + i := fun e => hne e.symm
  refine Fn.of (cc := cX4_become) (ins := iX4_become) (maxL := 2) (ret := none) (by decide) dX4_become [some (.ref (Y.2.2.2.1 (b + 2 + i))), some (.ref (Y.2.2.2.1 (c + 2 + i)))] (Nat.le_of_ble_eq_true rfl) rfl rfl ?_
  intro X hX hQ
  refine v_aload_n hX 0 0 rfl rfl rfl ?_
  refine v_aload_n hX 1 1 rfl rfl rfl ?_
  refine g_4_0 hX 2 hc hi tw_69 rfl ?_
  refine p_4_0 hX 3 hb hi  tw_69 rfl ?_
  refine v_aload_n hX 0 4 rfl rfl rfl ?_
  refine v_aload_n hX 1 5 rfl rfl rfl ?_
  refine g_4_1 hX 6 hc hi tw_72 rfl ?_
  refine p_4_1 hX 7 hb hi  tw_72 rfl ?_
  refine v_aload_n hX 0 8 rfl rfl rfl ?_
  refine v_aload_n hX 1 9 rfl rfl rfl ?_
  refine g_4_2 hX 10 hc hi tw_75 rfl ?_
  refine p_4_2 hX 11 hb hi  tw_75 rfl ?_
  refine v_aload_n hX 0 12 rfl rfl rfl ?_
  refine v_aload_n hX 1 13 rfl rfl rfl ?_
  refine g_4_3 hX 14 hc hi tw_78 rfl ?_
  refine p_4_3 hX 15 hb hi  tw_78 rfl ?_
  refine v_aload_n hX 0 16 rfl rfl rfl ?_
  refine v_aload_n hX 1 17 rfl rfl rfl ?_
  refine g_4_4 hX 18 hc hi tw_82 rfl ?_
  refine p_4_4 hX 19 hb hi  tw_82 rfl ?_
  refine v_aload_n hX 0 20 rfl rfl rfl ?_
  refine v_aload_n hX 1 21 rfl rfl rfl ?_
  refine g_4_5 hX 22 hc hi tw_85 rfl ?_
  refine p_4_5 hX 23 hb hi  tw_85 rfl ?_
  refine v_aload_n hX 0 24 rfl rfl rfl ?_
  refine v_aload_n hX 1 25 rfl rfl rfl ?_
  refine g_4_6 hX 26 hc hi tw_87 rfl ?_
  simp only [mset_n hne]
  refine p_4_6 hX 27 hb hi (nar_b hv) (fit_b hv) tw_87 rfl ?_
  refine v_vret hX hQ rfl rfl ?_ 28 rfl
  exact (ptM_7 hne.symm).symm
set_option maxRecDepth 100000 in
set_option maxHeartbeats 4000000 in
theorem f_become {Y : Yt} {M : Mm} {b c n : Nat} (hb : isB b) (hc : isB c) (hz : M.1 c 1 = nI n) (hn : n ≤ 24) (h : b ≠ c) (hw : WF (cp M c) n) : Fn Y yX0_become wsX0_become { frames := 1, cells := 0, slots := 0, locals := 21 } [.ref (Y.2.2.2.1 b), .ref (Y.2.2.2.1 c)] M none ((cpB M b c n)) := by
  have hap := isB_apart hb hc h
  refine Fn.of (cc := cX0_become) (ins := iX0_become) (maxL := 5) (ret := none) (by decide) dX0_become [some (.ref (Y.2.2.2.1 b)), some (.ref (Y.2.2.2.1 c)), none, none, none] (Nat.le_of_ble_eq_true rfl) rfl rfl ?_
  intro X hX hQ
  refine v_aload_n hX 0 0 rfl rfl rfl ?_
  refine v_aload_n hX 1 1 rfl rfl rfl ?_
  refine g_0_1 hX 2 hc tw_105 rfl ?_
  refine p_0_1 hX 3 hb  tw_105 rfl ?_
  refine v_aload_n hX 0 4 rfl rfl rfl ?_
  refine v_aload_n hX 1 5 rfl rfl rfl ?_
  refine g_0_2 hX 6 hc tw_107 rfl ?_
  refine p_0_2 hX 7 hb  tw_107 rfl ?_
  refine v_aload_n hX 0 8 rfl rfl rfl ?_
  refine v_aload_n hX 1 9 rfl rfl rfl ?_
  refine g_0_3 hX 10 hc tw_109 rfl ?_
  refine p_0_3 hX 11 hb  tw_109 rfl ?_
  refine v_aload_n hX 0 12 rfl rfl rfl ?_
  refine v_aload_n hX 1 13 rfl rfl rfl ?_
  refine g_0_4 hX 14 hc tw_111 rfl ?_
  refine p_0_4 hX 15 hb  tw_111 rfl ?_
  refine v_aload_n hX 0 16 rfl rfl rfl ?_
  refine v_aload_n hX 1 17 rfl rfl rfl ?_
  refine g_0_5 hX 18 hc tw_113 rfl ?_
  refine p_0_5 hX 19 hb  tw_113 rfl ?_
  refine v_iconst hX (v := 0) 20 rfl (by decide) ?_
  refine v_istore_n hX 2 21 rfl rfl (Nat.le_of_ble_eq_true rfl) rfl ?_
  have lp : ∀ (k : Nat), k ≤ n → V Y X (cpB M b c k) 42 [some (.ref (Y.2.2.2.1 b)), some (.ref (Y.2.2.2.1 c)), some (.int (nI k)), none, none] [] := by
    refine upTo n (fun k hk ih => ?_)
    have hzb : (cpB M b c k).1 b 1 = nI n := by rw [cpB_b]; exact hz
    have hzc : (cpB M b c k).1 c 1 = nI n := by rw [cpB_out h.symm (by omega)]; exact hz
    refine v_iload_n hX 2 22 rfl rfl rfl ?_
    refine v_aload_n hX 0 23 rfl rfl rfl ?_
    refine g_0_0 hX 24 hb tw_104 rfl ?_
    refine v_alen hX (v := nI 24) (k := b + 1) (by have := isB_lt hb; omega) (cG_R hb) rfl rfl 25 rfl ?_
    refine v_icmp_ge hX (tgt := 94) 26 rfl (by decide) (fun c48 => ?_) (fun c48 => ?_)
    · skip
      have hk2 : k = n := by have := of_le c48 (by omega) (by omega); omega
      refine v_vret hX hQ rfl rfl ?_ 49 rfl
      rw [hk2]
    · skip
      have hk3 : k < 24 := of_nle c48 (by omega) (by omega)
      refine v_iload_n hX 2 27 rfl rfl rfl ?_
      refine v_aload_n hX 0 28 rfl rfl rfl ?_
      refine g_0_1 hX 29 hb tw_105 rfl ?_
      rw [hzb]
      refine v_icmp_ge hX (tgt := 94) 30 rfl (by decide) (fun c56 => ?_) (fun c56 => ?_)
      · skip
        have hk2 : k = n := by have := of_le c56 (by omega) (by omega); omega
        refine v_vret hX hQ rfl rfl ?_ 49 rfl
        rw [hk2]
      · skip
        have hk2 : k < n := of_nle c56 (by omega) (by omega)
        refine v_aload_n hX 0 31 rfl rfl rfl ?_
        refine g_0_0 hX 32 hb tw_104 rfl ?_
        refine v_iload_n hX 2 33 rfl rfl rfl ?_
        refine v_aald hX (k := b + 1) (v := Y.2.2.2.1 (b + 2 + k)) (by have := isB_lt hb; omega) (cG_R hb) rfl (vp_in_nI (by omega) (by decide)) (by rw [nI_clamp (by omega)]) 34 rfl ?_
        refine v_astore_n hX 3 35 rfl rfl (Nat.le_of_ble_eq_true rfl) rfl ?_
        refine v_aload_n hX 1 36 rfl rfl rfl ?_
        refine v_iload_n hX 2 37 rfl rfl rfl ?_
        refine v_callV hX 1 (by have := isB_lt hc; omega) (cG_B hc) rfl (f_find_in hc hzc hn hk2) tw_232 tw_229 tw_231 tw_3 tw_40 (by decide +kernel) ⟨⟨rfl, rfl⟩, Nat.le_of_ble_eq_true rfl, Nat.le_of_ble_eq_true rfl⟩ rfl (Nat.le_of_ble_eq_true rfl) rfl rfl 38 rfl ?_
        refine v_astore hX 39 rfl (Nat.le_of_ble_eq_true rfl) rfl ?_
        refine v_aload_n hX 3 40 rfl rfl rfl ?_
        refine v_ifnull hX 41 rfl ?_
        refine v_aload hX 42 rfl rfl ?_
        refine v_ifnull hX 43 rfl ?_
        refine v_aload_n hX 3 44 rfl rfl rfl ?_
        refine v_aload hX 45 rfl rfl ?_
        refine v_callVN hX 1 (by have := isB_lt hb; omega) (cG_P hb hk3) rfl (f_ptBecome hb hc hk3 h (by rw [cpB_out (by omega) (by omega)]; exact (hw k hk2).2.2)) tw_236 (List.mem_of_getElem? (i := 9) rfl) tw_41 tw_235 tw_4 (by decide +kernel) ⟨⟨rfl, rfl⟩, Nat.le_of_ble_eq_true rfl, Nat.le_of_ble_eq_true rfl⟩ rfl (Nat.le_of_ble_eq_true rfl) rfl rfl 46 rfl ?_
        refine v_iinc hX 47 rfl rfl (nI_inc k) (Nat.le_of_ble_eq_true rfl) rfl ?_
        refine v_goto hX (tgt := 42) 48 rfl (by decide) ?_
        refine V.subM (ih hk2) ?_ rfl ⟨rfl, rfl, rfl, trivial⟩
        exact cpB_step hb hc h hk3
  refine V.subM (lp 0 (Nat.zero_le _)) ?_ rfl ⟨rfl, rfl, rfl, trivial⟩
  simp only [mset_n h.symm]; exact cpB_0 h
end
section
set_option maxRecDepth 100000 in
set_option maxHeartbeats 4000000 in
theorem f_addT_no {Y : Yt} {M : Mm} {t x y : Int32} (ht : t < 0 ∨ nI 24 ≤ t) : Fn Y yX1_addToTarget wsX1_addToTarget { frames := 1, cells := 0, slots := 0, locals := 24 } [.ref (Y.2.2.2.1 27), .int t, .int x, .int y] M none M := by
  refine Fn.of (cc := cX1_addToTarget) (ins := iX1_addToTarget) (maxL := 4) (ret := none) (by decide) dX1_addToTarget [some (.ref (Y.2.2.2.1 27)), some (.int t), some (.int x), some (.int y)] (Nat.le_of_ble_eq_true rfl) rfl rfl ?_
  intro X hX hQ
  refine v_iload_n hX 1 0 rfl rfl rfl ?_
  refine v_if_lt hX (tgt := 58) 1 rfl (by decide) (fun c1 => ?_) (fun c1 => ?_)
  · skip
    refine v_vret hX hQ rfl rfl ?_ 34 rfl
    rfl
  · skip
    refine v_iload_n hX 1 2 rfl rfl rfl ?_
    refine v_aload_n hX 0 3 rfl rfl rfl ?_
    refine g_1_0 hX 4  tw_134 rfl ?_
    refine v_alen hX (v := nI 24) (k := 28) (t0 := 1) (by decide) rfl rfl rfl 5 rfl ?_
    refine v_icmp_ge hX (tgt := 58) 6 rfl (by decide) (fun c10 => ?_) (fun c10 => absurd (ht.resolve_left c1) c10)
    refine v_vret hX hQ rfl rfl ?_ 34 rfl
    rfl
set_option maxRecDepth 100000 in
set_option maxHeartbeats 4000000 in
theorem f_addT {Y : Yt} {M : Mm} {t : Nat} {x y : Int32} (ht : t < 24) : Fn Y yX1_addToTarget wsX1_addToTarget { frames := 1, cells := 0, slots := 0, locals := 24 } [.ref (Y.2.2.2.1 27), .int (nI t), .int x, .int y] M none ((mset (mset M 28 t (imin (M.1 28 t) y)) 29 t (imin 1000 (M.1 29 t + x)))) := by
  refine Fn.of (cc := cX1_addToTarget) (ins := iX1_addToTarget) (maxL := 4) (ret := none) (by decide) dX1_addToTarget [some (.ref (Y.2.2.2.1 27)), some (.int (nI t)), some (.int x), some (.int y)] (Nat.le_of_ble_eq_true rfl) rfl rfl ?_
  intro X hX hQ
  refine v_iload_n hX 1 0 rfl rfl rfl ?_
  refine v_if_lt hX (tgt := 58) 1 rfl (by decide) (fun c1 => absurd c1 (nI_nlt (Nat.zero_le _) (by omega))) (fun c1 => ?_)
  refine v_iload_n hX 1 2 rfl rfl rfl ?_
  refine v_aload_n hX 0 3 rfl rfl rfl ?_
  refine g_1_0 hX 4  tw_134 rfl ?_
  refine v_alen hX (v := nI 24) (k := 28) (t0 := 1) (by decide) rfl rfl rfl 5 rfl ?_
  refine v_icmp_ge hX (tgt := 58) 6 rfl (by decide) (fun c10 => absurd c10 (nI_ge (show t < 24 by omega) (by decide))) (fun c10 => ?_)
  refine v_iload_n hX 1 7 rfl rfl rfl ?_
  refine v_aload_n hX 0 8 rfl rfl rfl ?_
  refine g_1_1 hX 9  tw_135 rfl ?_
  refine v_alen hX (v := nI 24) (k := 29) (t0 := 1) (by decide) rfl rfl rfl 10 rfl ?_
  refine v_icmp_ge hX (tgt := 58) 11 rfl (by decide) (fun c19 => absurd c19 (nI_ge (show t < 24 by omega) (by decide))) (fun c19 => ?_)
  refine v_aload_n hX 0 12 rfl rfl rfl ?_
  refine g_1_0 hX 13  tw_134 rfl ?_
  refine v_iload_n hX 1 14 rfl rfl rfl ?_
  refine v_aload_n hX 0 15 rfl rfl rfl ?_
  refine g_1_0 hX 16  tw_134 rfl ?_
  refine v_iload_n hX 1 17 rfl rfl rfl ?_
  refine v_iald hX (k := 28) (by decide) rfl (vp_in_nI (by omega) (by decide)) 18 rfl ?_
  refine v_iload_n hX 3 19 rfl rfl rfl ?_
  refine v_mmin hX tw_463 tw_464 tw_47 tw_465 (Nat.le_of_ble_eq_true rfl) (Nat.le_of_ble_eq_true rfl) rfl 20 rfl ?_
  refine v_iast hX (k := 28) (by decide) rfl rfl (vp_in_nI (by omega) (by decide)) rfl 21 rfl ?_
  refine v_aload_n hX 0 22 rfl rfl rfl ?_
  refine g_1_1 hX 23  tw_135 rfl ?_
  refine v_iload_n hX 1 24 rfl rfl rfl ?_
  refine v_sipush hX (v := 1000) 25 rfl (by decide) ?_
  refine v_aload_n hX 0 26 rfl rfl rfl ?_
  refine g_1_1 hX 27  tw_135 rfl ?_
  refine v_iload_n hX 1 28 rfl rfl rfl ?_
  refine v_iald hX (k := 29) (by decide) rfl (vp_in_nI (by omega) (by decide)) 29 rfl ?_
  refine v_iload_n hX 2 30 rfl rfl rfl ?_
  refine v_iadd hX 31 rfl ?_
  refine v_mmin hX tw_463 tw_464 tw_47 tw_465 (Nat.le_of_ble_eq_true rfl) (Nat.le_of_ble_eq_true rfl) rfl 32 rfl ?_
  refine v_iast hX (k := 29) (by decide) rfl rfl (vp_in_nI (by omega) (by decide)) rfl 33 rfl ?_
  refine v_vret hX hQ rfl rfl ?_ 34 rfl
  rw [nI_clamp (by omega), mset_n (by decide)]; rfl
set_option maxRecDepth 100000 in
set_option maxHeartbeats 4000000 in
theorem f_reachable {Y : Yt} {M : Mm} {x : Int32} : Fn Y yX1_reachable wsX1_reachable { frames := 0, cells := 0, slots := 0, locals := 0 } [.int x] M (some (.int (if x < 1000 then x else -6))) M := by
  refine Fn.of (cc := cX1_reachable) (ins := iX1_reachable) (maxL := 1) (ret := (some .int)) (by decide) dX1_reachable [some (.int x)] (Nat.le_of_ble_eq_true rfl) rfl rfl ?_
  intro X hX hQ
  refine v_iload_n hX 0 0 rfl rfl rfl ?_
  refine v_sipush hX (v := 1000) 1 rfl (by decide) ?_
  refine v_icmp_lt hX (tgt := 12) 2 rfl (by decide) (fun c4 => ?_) (fun c4 => ?_)
  · skip
    refine v_iload_n hX 0 5 rfl rfl rfl ?_
    refine v_iret hX hQ rfl rfl ?_ ?_ 6 rfl
    · simp only [c4, if_true, if_false]
    · rfl
  · skip
    refine v_bipush hX (v := (-6)) 3 rfl (by decide) ?_
    refine v_goto hX (tgt := 13) 4 rfl (by decide) ?_
    refine v_iret hX hQ rfl rfl ?_ ?_ 6 rfl
    · simp only [c4, if_true, if_false]
    · rfl
set_option maxRecDepth 100000 in
set_option maxHeartbeats 4000000 in
theorem f_ansFall {Y : Yt} {M : Mm} {i : Nat} (hi : i < 24) : Fn Y yX1_answersToFall wsX1_answersToFall { frames := 1, cells := 0, slots := 0, locals := 20 } [.ref (Y.2.2.2.1 27), .int (nI i)] M (some (.int (if M.1 28 i < 1000 then M.1 28 i else -6))) M := by
  refine Fn.of (cc := cX1_answersToFall) (ins := iX1_answersToFall) (maxL := 2) (ret := (some .int)) (by decide) dX1_answersToFall [some (.ref (Y.2.2.2.1 27)), some (.int (nI i))] (Nat.le_of_ble_eq_true rfl) rfl rfl ?_
  intro X hX hQ
  refine v_iload_n hX 1 0 rfl rfl rfl ?_
  refine v_if_lt hX (tgt := 22) 1 rfl (by decide) (fun c1 => absurd c1 (nI_nlt (Nat.zero_le _) (by omega))) (fun c1 => ?_)
  refine v_iload_n hX 1 2 rfl rfl rfl ?_
  refine v_aload_n hX 0 3 rfl rfl rfl ?_
  refine g_1_0 hX 4  tw_134 rfl ?_
  refine v_alen hX (v := nI 24) (k := 28) (t0 := 1) (by decide) rfl rfl rfl 5 rfl ?_
  refine v_icmp_ge hX (tgt := 22) 6 rfl (by decide) (fun c10 => absurd c10 (nI_ge hi (by decide))) (fun c10 => ?_)
  refine v_aload_n hX 0 7 rfl rfl rfl ?_
  refine g_1_0 hX 8  tw_134 rfl ?_
  refine v_iload_n hX 1 9 rfl rfl rfl ?_
  refine v_iald hX (k := 28) (by decide) rfl (vp_in_nI (by omega) (by decide)) 10 rfl ?_
  refine v_goto hX (tgt := 25) 11 rfl (by decide) ?_
  rw [nI_clamp (by omega)]
  refine v_callS hX 1 (f_reachable) tw_478 tw_476 tw_477 tw_42 (by decide +kernel) ⟨⟨rfl, rfl⟩, Nat.le_of_ble_eq_true rfl, Nat.le_of_ble_eq_true rfl⟩ rfl (Nat.le_of_ble_eq_true rfl) rfl rfl 13 rfl ?_
  refine v_iret hX hQ rfl rfl ?_ ?_ 14 rfl
  · rfl
  · rfl
set_option maxRecDepth 100000 in
set_option maxHeartbeats 4000000 in
theorem f_ansStand {Y : Yt} {M : Mm} {i : Nat} (hi : i < 24) : Fn Y yX1_answersToStand wsX1_answersToStand { frames := 1, cells := 0, slots := 0, locals := 20 } [.ref (Y.2.2.2.1 27), .int (nI i)] M (some (.int (if M.1 29 i < 1000 then M.1 29 i else -6))) M := by
  refine Fn.of (cc := cX1_answersToStand) (ins := iX1_answersToStand) (maxL := 2) (ret := (some .int)) (by decide) dX1_answersToStand [some (.ref (Y.2.2.2.1 27)), some (.int (nI i))] (Nat.le_of_ble_eq_true rfl) rfl rfl ?_
  intro X hX hQ
  refine v_iload_n hX 1 0 rfl rfl rfl ?_
  refine v_if_lt hX (tgt := 22) 1 rfl (by decide) (fun c1 => absurd c1 (nI_nlt (Nat.zero_le _) (by omega))) (fun c1 => ?_)
  refine v_iload_n hX 1 2 rfl rfl rfl ?_
  refine v_aload_n hX 0 3 rfl rfl rfl ?_
  refine g_1_1 hX 4  tw_135 rfl ?_
  refine v_alen hX (v := nI 24) (k := 29) (t0 := 1) (by decide) rfl rfl rfl 5 rfl ?_
  refine v_icmp_ge hX (tgt := 22) 6 rfl (by decide) (fun c10 => absurd c10 (nI_ge hi (by decide))) (fun c10 => ?_)
  refine v_aload_n hX 0 7 rfl rfl rfl ?_
  refine g_1_1 hX 8  tw_135 rfl ?_
  refine v_iload_n hX 1 9 rfl rfl rfl ?_
  refine v_iald hX (k := 29) (by decide) rfl (vp_in_nI (by omega) (by decide)) 10 rfl ?_
  refine v_goto hX (tgt := 25) 11 rfl (by decide) ?_
  rw [nI_clamp (by omega)]
  refine v_callS hX 1 (f_reachable) tw_478 tw_476 tw_477 tw_42 (by decide +kernel) ⟨⟨rfl, rfl⟩, Nat.le_of_ble_eq_true rfl, Nat.le_of_ble_eq_true rfl⟩ rfl (Nat.le_of_ble_eq_true rfl) rfl rfl 13 rfl ?_
  refine v_iret hX hQ rfl rfl ?_ ?_ 14 rfl
  · rfl
  · rfl
set_option maxRecDepth 100000 in
set_option maxHeartbeats 4000000 in
theorem f_weigh {Y : Yt} {M : Mm} {b n : Nat} (hb : isB b) (hz : M.1 b 1 = nI n) (hn : n ≤ 24) (hw : WF (cp M b) n) : Fn Y yX1_weigh wsX1_weigh { frames := 3, cells := 0, slots := 0, locals := 66 } [.ref (Y.2.2.2.1 27), .ref (Y.2.2.2.1 b)] M none ((wM M (wAll (cp M b) (bOut M b) (naP (cp M b) n) n (wI M 24) 24))) := by
  have hb1 := isB_no hb (show 0 < 26 by decide)
  refine Fn.of (cc := cX1_weigh) (ins := iX1_weigh) (maxL := 7) (ret := none) (by decide) dX1_weigh [some (.ref (Y.2.2.2.1 27)), some (.ref (Y.2.2.2.1 b)), none, none, none, none, none] (Nat.le_of_ble_eq_true rfl) rfl rfl ?_
  intro X hX hQ
  refine v_aload_n hX 1 0 rfl rfl rfl ?_
  refine v_callVN hX 0 (by have := isB_lt hb; omega) (cG_B hb) rfl (f_out hb hz hn hw) tw_291 (List.mem_of_getElem? (i := 35) rfl) tw_40 tw_290 tw_14 (by decide +kernel) ⟨⟨rfl, rfl⟩, Nat.le_of_ble_eq_true rfl, Nat.le_of_ble_eq_true rfl⟩ rfl (Nat.le_of_ble_eq_true rfl) rfl rfl 1 rfl ?_
  refine v_istore_n hX 2 2 rfl rfl (Nat.le_of_ble_eq_true rfl) rfl ?_
  refine v_aload_n hX 1 3 rfl rfl rfl ?_
  refine v_callVN hX 0 (by have := isB_lt hb; omega) (cG_B hb) rfl (f_withoutAnswers hb hz hn) tw_452 (List.mem_of_getElem? (i := 36) rfl) tw_40 tw_451 tw_33 (by decide +kernel) ⟨⟨rfl, rfl⟩, Nat.le_of_ble_eq_true rfl, Nat.le_of_ble_eq_true rfl⟩ rfl (Nat.le_of_ble_eq_true rfl) rfl rfl 4 rfl ?_
  rw [wa_mk hw hn]
  refine v_istore_n hX 3 5 rfl rfl (Nat.le_of_ble_eq_true rfl) rfl ?_
  refine v_aload_n hX 0 6 rfl rfl rfl ?_
  refine g_1_0 hX 7  tw_134 rfl ?_
  refine v_alen hX (v := nI 24) (k := 28) (t0 := 1) (by decide) rfl rfl rfl 8 rfl ?_
  refine v_aload_n hX 0 9 rfl rfl rfl ?_
  refine g_1_1 hX 10  tw_135 rfl ?_
  refine v_alen hX (v := nI 24) (k := 29) (t0 := 1) (by decide) rfl rfl rfl 11 rfl ?_
  refine v_mmin hX tw_463 tw_464 tw_47 tw_465 (Nat.le_of_ble_eq_true rfl) (Nat.le_of_ble_eq_true rfl) rfl 12 rfl ?_
  rw [show (if nI 24 < nI 24 then nI 24 else nI 24) = nI 24 from if_neg (by decide)]
  refine v_istore hX 13 rfl (Nat.le_of_ble_eq_true rfl) rfl ?_
  refine v_iconst hX (v := 0) 14 rfl (by decide) ?_
  refine v_istore hX 15 rfl (Nat.le_of_ble_eq_true rfl) rfl ?_
  have lp : ∀ (k : Nat), k ≤ 24 → V Y X (wM M (wI M k)) 28 [some (.ref (Y.2.2.2.1 27)), some (.ref (Y.2.2.2.1 b)), some (.int (mk (bOut M b) n)), some (.int (mk (naP (cp M b) n) n)), some (.int (nI 24)), some (.int (nI k)), none] [] := by
    refine upTo 24 (fun k hk ih => ?_)
    refine v_iload hX 16 rfl rfl ?_
    refine v_iload hX 17 rfl rfl ?_
    refine v_icmp_ge hX (tgt := 59) 18 rfl (by decide) (fun c32 => ?_) (fun c32 => ?_)
    · skip
      have hk2 : k = 24 := by have := of_le (a := 24) c32 (by omega) (by omega); omega
      subst hk2
      refine v_iload hX 31 rfl rfl ?_
      refine v_iconst hX (v := 1) 32 rfl (by decide) ?_
      refine v_isub hX 33 rfl ?_
      refine v_istore hX 34 rfl (Nat.le_of_ble_eq_true rfl) rfl ?_
      have lq : ∀ (m : Nat), m ≤ 24 → V Y X (wM M (wAll (cp M b) (bOut M b) (naP (cp M b) n) n (wI M 24) (24 - m))) 65 [some (.ref (Y.2.2.2.1 27)), some (.ref (Y.2.2.2.1 b)), some (.int (mk (bOut M b) n)), some (.int (mk (naP (cp M b) n) n)), some (.int (nI 24)), some (.int (nI m - 1)), none] [] := by
        refine downTo (fun m ihq => ?_)
        intro hm24
        rcases Nat.eq_zero_or_pos m with h0 | h0
        · skip
          subst h0
          refine v_iload hX 35 rfl rfl ?_
          refine v_if_lt hX (tgt := 162) 36 rfl (by decide) (fun c67 => ?_) (fun c67 => absurd (by decide) c67)
          refine v_vret hX hQ rfl rfl ?_ 82 rfl
          rfl
        · skip
          obtain ⟨m, rfl⟩ : ∃ m2, m = m2 + 1 := ⟨m - 1, by omega⟩
          rw [nI_pred]
          have e24 : 24 - (m + 1) = 23 - m := by omega
          have e25 : 24 - m = 23 - m + 1 := by omega
          rw [e24]
          have hzw : (wM M (wAll (cp M b) (bOut M b) (naP (cp M b) n) n (wI M 24) (23 - m))).1 b 1 = nI n := by rw [wM_n (by omega)]; exact hz
          have em : 23 - (23 - m) = m := by omega
          refine v_iload hX 35 rfl rfl ?_
          refine v_if_lt hX (tgt := 162) 36 rfl (by decide) (fun c67 => absurd c67 (nI_nlt (Nat.zero_le _) (by omega))) (fun c67 => ?_)
          refine v_aload_n hX 1 37 rfl rfl rfl ?_
          refine v_iload hX 38 rfl rfl ?_
          rcases Nat.lt_or_ge m n with hm | hm
          · skip
            have hW : wAll (cp M b) (bOut M b) (naP (cp M b) n) n (wI M 24) (23 - m + 1) = wStep (cp M b) (bOut M b) (naP (cp M b) n) m (wAll (cp M b) (bOut M b) (naP (cp M b) n) n (wI M 24) (23 - m)) := by rw [wAll, em, if_pos hm]
            refine v_callVN hX 1 (by have := isB_lt hb; omega) (cG_B hb) rfl (f_find_in hb hzw hn hm) tw_232 (List.mem_of_getElem? (i := 37) rfl) tw_40 tw_231 tw_3 (by decide +kernel) ⟨⟨rfl, rfl⟩, Nat.le_of_ble_eq_true rfl, Nat.le_of_ble_eq_true rfl⟩ rfl (Nat.le_of_ble_eq_true rfl) rfl rfl 39 rfl ?_
            refine v_astore hX 40 rfl (Nat.le_of_ble_eq_true rfl) rfl ?_
            refine v_aload hX 41 rfl rfl ?_
            refine v_ifnonnull hX (tgt := 86) 42 rfl (by decide) ?_
            refine v_iload_n hX 2 44 rfl rfl rfl ?_
            refine v_iload hX 45 rfl rfl ?_
            refine v_callSN hX 2 (f_has) tw_314 (List.mem_of_getElem? (i := 38) rfl) tw_39 tw_313 (by decide +kernel) ⟨⟨rfl, rfl⟩, Nat.le_of_ble_eq_true rfl, Nat.le_of_ble_eq_true rfl⟩ rfl (Nat.le_of_ble_eq_true rfl) rfl rfl 46 rfl ?_
            refine v_if_eq hX (tgt := 116) 47 rfl (by decide) (fun c92 => ?_) (fun c92 => ?_)
            · skip
              have q1 := hasv_eq (by omega) c92
              rw [bt_mk _ (by omega) (by omega), decide_eq_true hm, Bool.true_and] at q1
              refine v_iload_n hX 3 59 rfl rfl rfl ?_
              refine v_iload hX 60 rfl rfl ?_
              refine v_callSN hX 2 (f_has) tw_314 (List.mem_of_getElem? (i := 38) rfl) tw_39 tw_313 (by decide +kernel) ⟨⟨rfl, rfl⟩, Nat.le_of_ble_eq_true rfl, Nat.le_of_ble_eq_true rfl⟩ rfl (Nat.le_of_ble_eq_true rfl) rfl rfl 61 rfl ?_
              refine v_if_eq hX (tgt := 133) 62 rfl (by decide) (fun c122 => ?_) (fun c122 => ?_)
              · skip
                have q2 := hasv_eq (by omega) c122
                rw [bt_mk _ (by omega) (by omega), decide_eq_true hm, Bool.true_and] at q2
                have hS : wAll (cp M b) (bOut M b) (naP (cp M b) n) n (wI M 24) (23 - m) = wS1 (bOut M b) (naP (cp M b) n) m (wAll (cp M b) (bOut M b) (naP (cp M b) n) n (wI M 24) (23 - m)) := by unfold wS1; rw [if_neg (by rw [q1]; decide), if_neg (by rw [q2]; decide), if_neg (by rw [q1]; decide)]
                rw [hS]
                rcases (hw m hm).2.1 with et | ⟨t, ht, et⟩
                · skip
                  have hW2 : wStep (cp M b) (bOut M b) (naP (cp M b) n) m (wAll (cp M b) (bOut M b) (naP (cp M b) n) n (wI M 24) (23 - m)) = wS1 (bOut M b) (naP (cp M b) n) m (wAll (cp M b) (bOut M b) (naP (cp M b) n) n (wI M 24) (23 - m)) := by unfold wStep att; rw [if_pos et]
                  refine v_aload_n hX 0 68 rfl rfl rfl ?_
                  refine v_aload hX 69 rfl rfl ?_
                  refine gN_4_3 hX 70 hb (by omega) (List.mem_of_getElem? (i := 6) rfl) rfl ?_
                  rw [show (wM M (wS1 (bOut M b) (naP (cp M b) n) m (wAll (cp M b) (bOut M b) (naP (cp M b) n) n (wI M 24) (23 - m)))).1 (b + 2 + m) 3 = -6 by rw [wM_n (by have := isB_no hb (show 2 + m < 26 by omega); omega)]; exact et]
                  refine v_aload_n hX 0 71 rfl rfl rfl ?_
                  refine g_1_0 hX 72  tw_134 rfl ?_
                  refine v_iload hX 73 rfl rfl ?_
                  refine v_iald hX (k := 28) (by decide) rfl (vp_in_nI (by omega) (by decide)) 74 rfl ?_
                  refine v_aload_n hX 0 75 rfl rfl rfl ?_
                  refine g_1_1 hX 76  tw_135 rfl ?_
                  refine v_iload hX 77 rfl rfl ?_
                  refine v_iald hX (k := 29) (by decide) rfl (vp_in_nI (by omega) (by decide)) 78 rfl ?_
                  refine v_callV hX 3 (by decide) rfl rfl (f_addT_no (Or.inl (by decide))) tw_471 tw_468 tw_470 tw_35 tw_42 (by decide +kernel) ⟨⟨rfl, rfl⟩, Nat.le_of_ble_eq_true rfl, Nat.le_of_ble_eq_true rfl⟩ rfl (Nat.le_of_ble_eq_true rfl) rfl rfl 79 rfl ?_
                  refine v_iinc hX 80 rfl rfl (nI_dm m) (Nat.le_of_ble_eq_true rfl) rfl ?_
                  refine v_goto hX (tgt := 65) 81 rfl (by decide) ?_
                  refine V.subM (ihq m (by omega) (by omega)) ?_ rfl ⟨rfl, rfl, rfl, rfl, rfl, (by first | rfl | (refine congrArg (fun z : Int32 => some (Value.int z)) ?_; decide)), trivial⟩
                  rw [e25, hW, hW2]
                · skip
                  have hne : ¬ cp M b m 3 = -6 := by rw [et]; exact (by decide +kernel : ∀ t, t < 24 → ¬ nI t = -6) t (by omega)
                  have hW2 : wStep (cp M b) (bOut M b) (naP (cp M b) n) m (wAll (cp M b) (bOut M b) (naP (cp M b) n) n (wI M 24) (23 - m)) = att (nI t) ((wS1 (bOut M b) (naP (cp M b) n) m (wAll (cp M b) (bOut M b) (naP (cp M b) n) n (wI M 24) (23 - m))).1 m) ((wS1 (bOut M b) (naP (cp M b) n) m (wAll (cp M b) (bOut M b) (naP (cp M b) n) n (wI M 24) (23 - m))).2 m) (wS1 (bOut M b) (naP (cp M b) n) m (wAll (cp M b) (bOut M b) (naP (cp M b) n) n (wI M 24) (23 - m))) := by unfold wStep; rw [et]
                  rw [et] at hne
                  refine v_aload_n hX 0 68 rfl rfl rfl ?_
                  refine v_aload hX 69 rfl rfl ?_
                  refine gN_4_3 hX 70 hb (by omega) (List.mem_of_getElem? (i := 6) rfl) rfl ?_
                  rw [show (wM M (wS1 (bOut M b) (naP (cp M b) n) m (wAll (cp M b) (bOut M b) (naP (cp M b) n) n (wI M 24) (23 - m)))).1 (b + 2 + m) 3 = nI t by rw [wM_n (by have := isB_no hb (show 2 + m < 26 by omega); omega)]; exact et]
                  refine v_aload_n hX 0 71 rfl rfl rfl ?_
                  refine g_1_0 hX 72  tw_134 rfl ?_
                  refine v_iload hX 73 rfl rfl ?_
                  refine v_iald hX (k := 28) (by decide) rfl (vp_in_nI (by omega) (by decide)) 74 rfl ?_
                  refine v_aload_n hX 0 75 rfl rfl rfl ?_
                  refine g_1_1 hX 76  tw_135 rfl ?_
                  refine v_iload hX 77 rfl rfl ?_
                  refine v_iald hX (k := 29) (by decide) rfl (vp_in_nI (by omega) (by decide)) 78 rfl ?_
                  rw [nI_clamp (by omega)]
                  refine v_callV hX 3 (by decide) rfl rfl (f_addT (show t < 24 by omega)) tw_471 tw_468 tw_470 tw_35 tw_42 (by decide +kernel) ⟨⟨rfl, rfl⟩, Nat.le_of_ble_eq_true rfl, Nat.le_of_ble_eq_true rfl⟩ rfl (Nat.le_of_ble_eq_true rfl) rfl rfl 79 rfl ?_
                  refine v_iinc hX 80 rfl rfl (nI_dm m) (Nat.le_of_ble_eq_true rfl) rfl ?_
                  refine v_goto hX (tgt := 65) 81 rfl (by decide) ?_
                  refine V.subM (ihq m (by omega) (by omega)) ?_ rfl ⟨rfl, rfl, rfl, rfl, rfl, (by first | rfl | (refine congrArg (fun z : Int32 => some (Value.int z)) ?_; decide)), trivial⟩
                  rw [e25, hW, hW2, wM_r28, wM_r29, wM_28, wM_29]; unfold att; rw [if_neg hne, nI_clamp (by omega)]
              · skip
                have q2 := hasv_ne (by omega) c122
                rw [bt_mk _ (by omega) (by omega), decide_eq_true hm, Bool.true_and] at q2
                refine v_aload_n hX 0 63 rfl rfl rfl ?_
                refine g_1_0 hX 64  tw_134 rfl ?_
                refine v_iload hX 65 rfl rfl ?_
                refine v_iconst hX (v := 1) 66 rfl (by decide) ?_
                refine v_iast hX (k := 28) (by decide) rfl rfl (vp_in_nI (by omega) (by decide)) rfl 67 rfl ?_
                refine V.mem (M2 := wM M (upd (wAll (cp M b) (bOut M b) (naP (cp M b) n) n (wI M 24) (23 - m)).1 m 1, (wAll (cp M b) (bOut M b) (naP (cp M b) n) n (wI M 24) (23 - m)).2)) (by rw [nI_clamp (by omega), wM_28]) ?_
                have hS : (upd (wAll (cp M b) (bOut M b) (naP (cp M b) n) n (wI M 24) (23 - m)).1 m 1, (wAll (cp M b) (bOut M b) (naP (cp M b) n) n (wI M 24) (23 - m)).2) = wS1 (bOut M b) (naP (cp M b) n) m (wAll (cp M b) (bOut M b) (naP (cp M b) n) n (wI M 24) (23 - m)) := by unfold wS1; rw [if_neg (by rw [q1]; decide), if_pos q2, if_neg (by rw [q1]; decide)]
                rw [hS]
                rcases (hw m hm).2.1 with et | ⟨t, ht, et⟩
                · skip
                  have hW2 : wStep (cp M b) (bOut M b) (naP (cp M b) n) m (wAll (cp M b) (bOut M b) (naP (cp M b) n) n (wI M 24) (23 - m)) = wS1 (bOut M b) (naP (cp M b) n) m (wAll (cp M b) (bOut M b) (naP (cp M b) n) n (wI M 24) (23 - m)) := by unfold wStep att; rw [if_pos et]
                  refine v_aload_n hX 0 68 rfl rfl rfl ?_
                  refine v_aload hX 69 rfl rfl ?_
                  refine gN_4_3 hX 70 hb (by omega) (List.mem_of_getElem? (i := 6) rfl) rfl ?_
                  rw [show (wM M (wS1 (bOut M b) (naP (cp M b) n) m (wAll (cp M b) (bOut M b) (naP (cp M b) n) n (wI M 24) (23 - m)))).1 (b + 2 + m) 3 = -6 by rw [wM_n (by have := isB_no hb (show 2 + m < 26 by omega); omega)]; exact et]
                  refine v_aload_n hX 0 71 rfl rfl rfl ?_
                  refine g_1_0 hX 72  tw_134 rfl ?_
                  refine v_iload hX 73 rfl rfl ?_
                  refine v_iald hX (k := 28) (by decide) rfl (vp_in_nI (by omega) (by decide)) 74 rfl ?_
                  refine v_aload_n hX 0 75 rfl rfl rfl ?_
                  refine g_1_1 hX 76  tw_135 rfl ?_
                  refine v_iload hX 77 rfl rfl ?_
                  refine v_iald hX (k := 29) (by decide) rfl (vp_in_nI (by omega) (by decide)) 78 rfl ?_
                  refine v_callV hX 3 (by decide) rfl rfl (f_addT_no (Or.inl (by decide))) tw_471 tw_468 tw_470 tw_35 tw_42 (by decide +kernel) ⟨⟨rfl, rfl⟩, Nat.le_of_ble_eq_true rfl, Nat.le_of_ble_eq_true rfl⟩ rfl (Nat.le_of_ble_eq_true rfl) rfl rfl 79 rfl ?_
                  refine v_iinc hX 80 rfl rfl (nI_dm m) (Nat.le_of_ble_eq_true rfl) rfl ?_
                  refine v_goto hX (tgt := 65) 81 rfl (by decide) ?_
                  refine V.subM (ihq m (by omega) (by omega)) ?_ rfl ⟨rfl, rfl, rfl, rfl, rfl, (by first | rfl | (refine congrArg (fun z : Int32 => some (Value.int z)) ?_; decide)), trivial⟩
                  rw [e25, hW, hW2]
                · skip
                  have hne : ¬ cp M b m 3 = -6 := by rw [et]; exact (by decide +kernel : ∀ t, t < 24 → ¬ nI t = -6) t (by omega)
                  have hW2 : wStep (cp M b) (bOut M b) (naP (cp M b) n) m (wAll (cp M b) (bOut M b) (naP (cp M b) n) n (wI M 24) (23 - m)) = att (nI t) ((wS1 (bOut M b) (naP (cp M b) n) m (wAll (cp M b) (bOut M b) (naP (cp M b) n) n (wI M 24) (23 - m))).1 m) ((wS1 (bOut M b) (naP (cp M b) n) m (wAll (cp M b) (bOut M b) (naP (cp M b) n) n (wI M 24) (23 - m))).2 m) (wS1 (bOut M b) (naP (cp M b) n) m (wAll (cp M b) (bOut M b) (naP (cp M b) n) n (wI M 24) (23 - m))) := by unfold wStep; rw [et]
                  rw [et] at hne
                  refine v_aload_n hX 0 68 rfl rfl rfl ?_
                  refine v_aload hX 69 rfl rfl ?_
                  refine gN_4_3 hX 70 hb (by omega) (List.mem_of_getElem? (i := 6) rfl) rfl ?_
                  rw [show (wM M (wS1 (bOut M b) (naP (cp M b) n) m (wAll (cp M b) (bOut M b) (naP (cp M b) n) n (wI M 24) (23 - m)))).1 (b + 2 + m) 3 = nI t by rw [wM_n (by have := isB_no hb (show 2 + m < 26 by omega); omega)]; exact et]
                  refine v_aload_n hX 0 71 rfl rfl rfl ?_
                  refine g_1_0 hX 72  tw_134 rfl ?_
                  refine v_iload hX 73 rfl rfl ?_
                  refine v_iald hX (k := 28) (by decide) rfl (vp_in_nI (by omega) (by decide)) 74 rfl ?_
                  refine v_aload_n hX 0 75 rfl rfl rfl ?_
                  refine g_1_1 hX 76  tw_135 rfl ?_
                  refine v_iload hX 77 rfl rfl ?_
                  refine v_iald hX (k := 29) (by decide) rfl (vp_in_nI (by omega) (by decide)) 78 rfl ?_
                  rw [nI_clamp (by omega)]
                  refine v_callV hX 3 (by decide) rfl rfl (f_addT (show t < 24 by omega)) tw_471 tw_468 tw_470 tw_35 tw_42 (by decide +kernel) ⟨⟨rfl, rfl⟩, Nat.le_of_ble_eq_true rfl, Nat.le_of_ble_eq_true rfl⟩ rfl (Nat.le_of_ble_eq_true rfl) rfl rfl 79 rfl ?_
                  refine v_iinc hX 80 rfl rfl (nI_dm m) (Nat.le_of_ble_eq_true rfl) rfl ?_
                  refine v_goto hX (tgt := 65) 81 rfl (by decide) ?_
                  refine V.subM (ihq m (by omega) (by omega)) ?_ rfl ⟨rfl, rfl, rfl, rfl, rfl, (by first | rfl | (refine congrArg (fun z : Int32 => some (Value.int z)) ?_; decide)), trivial⟩
                  rw [e25, hW, hW2, wM_r28, wM_r29, wM_28, wM_29]; unfold att; rw [if_neg hne, nI_clamp (by omega)]
            · skip
              have q1 := hasv_ne (by omega) c92
              rw [bt_mk _ (by omega) (by omega), decide_eq_true hm, Bool.true_and] at q1
              refine v_aload_n hX 0 48 rfl rfl rfl ?_
              refine g_1_0 hX 49  tw_134 rfl ?_
              refine v_iload hX 50 rfl rfl ?_
              refine v_iconst hX (v := 0) 51 rfl (by decide) ?_
              refine v_iast hX (k := 28) (by decide) rfl rfl (vp_in_nI (by omega) (by decide)) rfl 52 rfl ?_
              refine V.mem (M2 := wM M (upd (wAll (cp M b) (bOut M b) (naP (cp M b) n) n (wI M 24) (23 - m)).1 m 0, (wAll (cp M b) (bOut M b) (naP (cp M b) n) n (wI M 24) (23 - m)).2)) (by rw [nI_clamp (by omega), wM_28]) ?_
              refine v_aload_n hX 0 53 rfl rfl rfl ?_
              refine g_1_1 hX 54  tw_135 rfl ?_
              refine v_iload hX 55 rfl rfl ?_
              refine v_sipush hX (v := 1000) 56 rfl (by decide) ?_
              refine v_iast hX (k := 29) (by decide) rfl rfl (vp_in_nI (by omega) (by decide)) rfl 57 rfl ?_
              refine V.mem (M2 := wM M (upd (wAll (cp M b) (bOut M b) (naP (cp M b) n) n (wI M 24) (23 - m)).1 m 0, upd (wAll (cp M b) (bOut M b) (naP (cp M b) n) n (wI M 24) (23 - m)).2 m 1000)) (by rw [nI_clamp (by omega), wM_29]) ?_
              have hS : (upd (wAll (cp M b) (bOut M b) (naP (cp M b) n) n (wI M 24) (23 - m)).1 m 0, upd (wAll (cp M b) (bOut M b) (naP (cp M b) n) n (wI M 24) (23 - m)).2 m 1000) = wS1 (bOut M b) (naP (cp M b) n) m (wAll (cp M b) (bOut M b) (naP (cp M b) n) n (wI M 24) (23 - m)) := by unfold wS1; rw [if_pos q1, if_pos q1]
              rw [hS]
              refine v_goto hX (tgt := 133) 58 rfl (by decide) ?_
              rcases (hw m hm).2.1 with et | ⟨t, ht, et⟩
              · skip
                have hW2 : wStep (cp M b) (bOut M b) (naP (cp M b) n) m (wAll (cp M b) (bOut M b) (naP (cp M b) n) n (wI M 24) (23 - m)) = wS1 (bOut M b) (naP (cp M b) n) m (wAll (cp M b) (bOut M b) (naP (cp M b) n) n (wI M 24) (23 - m)) := by unfold wStep att; rw [if_pos et]
                refine v_aload_n hX 0 68 rfl rfl rfl ?_
                refine v_aload hX 69 rfl rfl ?_
                refine gN_4_3 hX 70 hb (by omega) (List.mem_of_getElem? (i := 6) rfl) rfl ?_
                rw [show (wM M (wS1 (bOut M b) (naP (cp M b) n) m (wAll (cp M b) (bOut M b) (naP (cp M b) n) n (wI M 24) (23 - m)))).1 (b + 2 + m) 3 = -6 by rw [wM_n (by have := isB_no hb (show 2 + m < 26 by omega); omega)]; exact et]
                refine v_aload_n hX 0 71 rfl rfl rfl ?_
                refine g_1_0 hX 72  tw_134 rfl ?_
                refine v_iload hX 73 rfl rfl ?_
                refine v_iald hX (k := 28) (by decide) rfl (vp_in_nI (by omega) (by decide)) 74 rfl ?_
                refine v_aload_n hX 0 75 rfl rfl rfl ?_
                refine g_1_1 hX 76  tw_135 rfl ?_
                refine v_iload hX 77 rfl rfl ?_
                refine v_iald hX (k := 29) (by decide) rfl (vp_in_nI (by omega) (by decide)) 78 rfl ?_
                refine v_callV hX 3 (by decide) rfl rfl (f_addT_no (Or.inl (by decide))) tw_471 tw_468 tw_470 tw_35 tw_42 (by decide +kernel) ⟨⟨rfl, rfl⟩, Nat.le_of_ble_eq_true rfl, Nat.le_of_ble_eq_true rfl⟩ rfl (Nat.le_of_ble_eq_true rfl) rfl rfl 79 rfl ?_
                refine v_iinc hX 80 rfl rfl (nI_dm m) (Nat.le_of_ble_eq_true rfl) rfl ?_
                refine v_goto hX (tgt := 65) 81 rfl (by decide) ?_
                refine V.subM (ihq m (by omega) (by omega)) ?_ rfl ⟨rfl, rfl, rfl, rfl, rfl, (by first | rfl | (refine congrArg (fun z : Int32 => some (Value.int z)) ?_; decide)), trivial⟩
                rw [e25, hW, hW2]
              · skip
                have hne : ¬ cp M b m 3 = -6 := by rw [et]; exact (by decide +kernel : ∀ t, t < 24 → ¬ nI t = -6) t (by omega)
                have hW2 : wStep (cp M b) (bOut M b) (naP (cp M b) n) m (wAll (cp M b) (bOut M b) (naP (cp M b) n) n (wI M 24) (23 - m)) = att (nI t) ((wS1 (bOut M b) (naP (cp M b) n) m (wAll (cp M b) (bOut M b) (naP (cp M b) n) n (wI M 24) (23 - m))).1 m) ((wS1 (bOut M b) (naP (cp M b) n) m (wAll (cp M b) (bOut M b) (naP (cp M b) n) n (wI M 24) (23 - m))).2 m) (wS1 (bOut M b) (naP (cp M b) n) m (wAll (cp M b) (bOut M b) (naP (cp M b) n) n (wI M 24) (23 - m))) := by unfold wStep; rw [et]
                rw [et] at hne
                refine v_aload_n hX 0 68 rfl rfl rfl ?_
                refine v_aload hX 69 rfl rfl ?_
                refine gN_4_3 hX 70 hb (by omega) (List.mem_of_getElem? (i := 6) rfl) rfl ?_
                rw [show (wM M (wS1 (bOut M b) (naP (cp M b) n) m (wAll (cp M b) (bOut M b) (naP (cp M b) n) n (wI M 24) (23 - m)))).1 (b + 2 + m) 3 = nI t by rw [wM_n (by have := isB_no hb (show 2 + m < 26 by omega); omega)]; exact et]
                refine v_aload_n hX 0 71 rfl rfl rfl ?_
                refine g_1_0 hX 72  tw_134 rfl ?_
                refine v_iload hX 73 rfl rfl ?_
                refine v_iald hX (k := 28) (by decide) rfl (vp_in_nI (by omega) (by decide)) 74 rfl ?_
                refine v_aload_n hX 0 75 rfl rfl rfl ?_
                refine g_1_1 hX 76  tw_135 rfl ?_
                refine v_iload hX 77 rfl rfl ?_
                refine v_iald hX (k := 29) (by decide) rfl (vp_in_nI (by omega) (by decide)) 78 rfl ?_
                rw [nI_clamp (by omega)]
                refine v_callV hX 3 (by decide) rfl rfl (f_addT (show t < 24 by omega)) tw_471 tw_468 tw_470 tw_35 tw_42 (by decide +kernel) ⟨⟨rfl, rfl⟩, Nat.le_of_ble_eq_true rfl, Nat.le_of_ble_eq_true rfl⟩ rfl (Nat.le_of_ble_eq_true rfl) rfl rfl 79 rfl ?_
                refine v_iinc hX 80 rfl rfl (nI_dm m) (Nat.le_of_ble_eq_true rfl) rfl ?_
                refine v_goto hX (tgt := 65) 81 rfl (by decide) ?_
                refine V.subM (ihq m (by omega) (by omega)) ?_ rfl ⟨rfl, rfl, rfl, rfl, rfl, (by first | rfl | (refine congrArg (fun z : Int32 => some (Value.int z)) ?_; decide)), trivial⟩
                rw [e25, hW, hW2, wM_r28, wM_r29, wM_28, wM_29]; unfold att; rw [if_neg hne, nI_clamp (by omega)]
          · skip
            have hW : wAll (cp M b) (bOut M b) (naP (cp M b) n) n (wI M 24) (23 - m + 1) = wAll (cp M b) (bOut M b) (naP (cp M b) n) n (wI M 24) (23 - m) := by rw [wAll, em, if_neg (by omega)]
            refine v_callVN hX 1 (by have := isB_lt hb; omega) (cG_B hb) rfl (f_find_out hb hzw (Or.inr (nI_le hm (by omega)))) tw_232 (List.mem_of_getElem? (i := 37) rfl) tw_40 tw_231 tw_3 (by decide +kernel) ⟨⟨rfl, rfl⟩, Nat.le_of_ble_eq_true rfl, Nat.le_of_ble_eq_true rfl⟩ rfl (Nat.le_of_ble_eq_true rfl) rfl rfl 39 rfl ?_
            refine v_astoreN hX 40 rfl (Nat.le_of_ble_eq_true rfl) rfl ?_
            refine v_aloadN hX 41 rfl rfl ?_
            refine v_ifnonnullN hX 42 rfl ?_
            refine v_goto hX (tgt := 156) 43 rfl (by decide) ?_
            refine v_iinc hX 80 rfl rfl (nI_dm m) (Nat.le_of_ble_eq_true rfl) rfl ?_
            refine v_goto hX (tgt := 65) 81 rfl (by decide) ?_
            refine V.subM (ihq m (by omega) (by omega)) ?_ rfl ⟨rfl, rfl, rfl, rfl, rfl, (by first | rfl | (refine congrArg (fun z : Int32 => some (Value.int z)) ?_; decide)), trivial⟩
            rw [e25, hW]
      refine V.subM (lq 24 (Nat.le_refl 24)) ?_ rfl ⟨rfl, rfl, rfl, rfl, rfl, (by first | rfl | (refine congrArg (fun z : Int32 => some (Value.int z)) ?_; decide)), trivial⟩
      rfl
    · skip
      have hk2 : k < 24 := of_nle (a := 24) c32 (by omega) (by omega)
      refine v_aload_n hX 0 19 rfl rfl rfl ?_
      refine g_1_0 hX 20  tw_134 rfl ?_
      refine v_iload hX 21 rfl rfl ?_
      refine v_sipush hX (v := 1000) 22 rfl (by decide) ?_
      refine v_iast hX (k := 28) (by decide) rfl rfl (vp_in_nI (by omega) (by decide)) rfl 23 rfl ?_
      refine v_aload_n hX 0 24 rfl rfl rfl ?_
      refine g_1_1 hX 25  tw_135 rfl ?_
      refine v_iload hX 26 rfl rfl ?_
      refine v_iconst hX (v := 0) 27 rfl (by decide) ?_
      refine v_iast hX (k := 29) (by decide) rfl rfl (vp_in_nI (by omega) (by decide)) rfl 28 rfl ?_
      refine V.mem (M2 := wM M (wI M (k + 1))) (by rw [nI_clamp (by omega)]; exact wI_s) ?_
      refine v_iinc hX 29 rfl rfl (nI_inc k) (Nat.le_of_ble_eq_true rfl) rfl ?_
      refine v_goto hX (tgt := 28) 30 rfl (by decide) ?_
      refine V.subM (ih hk2) ?_ rfl ⟨rfl, rfl, rfl, rfl, rfl, rfl, trivial⟩
      rfl
  refine V.subM (lp 0 (Nat.zero_le _)) ?_ rfl ⟨rfl, rfl, rfl, rfl, rfl, rfl, trivial⟩
  exact wI_0.symm
set_option maxRecDepth 100000 in
set_option maxHeartbeats 4000000 in
theorem f_rowAt {Y : Yt} {M : Mm} {i : Nat} (hi : i < 7) : Fn Y yX2_rowAt wsX2_rowAt { frames := 0, cells := 0, slots := 0, locals := 0 } [.ref (Y.2.2.2.1 33), .int (nI i)] M (some (.ref (Y.2.2.2.1 (M.2 i)))) M := by
  refine Fn.of (cc := cX2_rowAt) (ins := iX2_rowAt) (maxL := 2) (ret := (some (.object "PointAnswers$Bundle"))) (by decide) dX2_rowAt [some (.ref (Y.2.2.2.1 33)), some (.int (nI i))] (Nat.le_of_ble_eq_true rfl) rfl rfl ?_
  intro X hX hQ
  refine v_iload_n hX 1 0 rfl rfl rfl ?_
  refine v_if_lt hX (tgt := 22) 1 rfl (by decide) (fun c1 => absurd c1 (nI_nlt (Nat.zero_le _) (by omega))) (fun c1 => ?_)
  refine v_iload_n hX 1 2 rfl rfl rfl ?_
  refine v_aload_n hX 0 3 rfl rfl rfl ?_
  refine g_2_0 hX 4  tw_184 rfl ?_
  refine v_alen hX (v := nI 7) (k := 34) (t0 := 3) (by decide) rfl rfl rfl 5 rfl ?_
  refine v_icmp_ge hX (tgt := 22) 6 rfl (by decide) (fun c10 => absurd c10 (nI_ge hi (by omega))) (fun c10 => ?_)
  refine v_aload_n hX 0 7 rfl rfl rfl ?_
  refine g_2_0 hX 8  tw_184 rfl ?_
  refine v_iload_n hX 1 9 rfl rfl rfl ?_
  refine v_aald hX (k := 34) (t0 := 3) (v := Y.2.2.2.1 (M.2 i)) (by decide) rfl rfl (vp_in_nI hi (by decide)) (by rw [nI_clamp (by omega)]) 10 rfl ?_
  refine v_goto hX (tgt := 23) 11 rfl (by decide) ?_
  refine v_aret hX hQ rfl (Or.inl ⟨_, rfl⟩) (Or.inr ⟨_, rfl⟩) ?_ ?_ 13 rfl
  · rfl
  · rfl
set_option maxRecDepth 100000 in
set_option maxHeartbeats 4000000 in
theorem f_rowAt_no {Y : Yt} {M : Mm} {x : Int32} (hx : x < 0 ∨ nI 7 ≤ x) : Fn Y yX2_rowAt wsX2_rowAt { frames := 0, cells := 0, slots := 0, locals := 0 } [.ref (Y.2.2.2.1 33), .int x] M (some .null) M := by
  refine Fn.of (cc := cX2_rowAt) (ins := iX2_rowAt) (maxL := 2) (ret := (some (.object "PointAnswers$Bundle"))) (by decide) dX2_rowAt [some (.ref (Y.2.2.2.1 33)), some (.int x)] (Nat.le_of_ble_eq_true rfl) rfl rfl ?_
  intro X hX hQ
  refine v_iload_n hX 1 0 rfl rfl rfl ?_
  refine v_if_lt hX (tgt := 22) 1 rfl (by decide) (fun c1 => ?_) (fun c1 => ?_)
  · skip
    refine v_null hX 12 rfl ?_
    refine v_aret hX hQ rfl (Or.inl ⟨_, rfl⟩) (Or.inl rfl) ?_ ?_ 13 rfl
    · rfl
    · rfl
  · skip
    refine v_iload_n hX 1 2 rfl rfl rfl ?_
    refine v_aload_n hX 0 3 rfl rfl rfl ?_
    refine g_2_0 hX 4  tw_184 rfl ?_
    refine v_alen hX (v := nI 7) (k := 34) (t0 := 3) (by decide) rfl rfl rfl 5 rfl ?_
    refine v_icmp_ge hX (tgt := 22) 6 rfl (by decide) (fun c10 => ?_) (fun c10 => absurd (hx.resolve_left c1) c10)
    refine v_null hX 12 rfl ?_
    refine v_aret hX hQ rfl (Or.inl ⟨_, rfl⟩) (Or.inl rfl) ?_ ?_ 13 rfl
    · rfl
    · rfl
set_option maxRecDepth 100000 in
set_option maxHeartbeats 4000000 in
theorem f_prepare {Y : Yt} {M : Mm} {k n : Nat} (hk : k ≤ 6) (hkk : M.1 33 1 = nI k) (hh : ∀ i, i < 7 → isB (M.2 i) ∧ M.2 i ≠ 1) (hz : M.1 1 1 = nI n) (hn : n ≤ 24) (hw : WF (cp M 1) n) : Fn Y yX2_prepare wsX2_prepare { frames := 2, cells := 0, slots := 0, locals := 45 } [.ref (Y.2.2.2.1 33), .ref (Y.2.2.2.1 1)] M none ((cpB M (M.2 k) 1 n)) := by
  refine Fn.of (cc := cX2_prepare) (ins := iX2_prepare) (maxL := 3) (ret := none) (by decide) dX2_prepare [some (.ref (Y.2.2.2.1 33)), some (.ref (Y.2.2.2.1 1)), none] (Nat.le_of_ble_eq_true rfl) rfl rfl ?_
  intro X hX hQ
  refine v_aload_n hX 0 0 rfl rfl rfl ?_
  refine v_aload_n hX 0 1 rfl rfl rfl ?_
  refine g_2_1 hX 2  tw_185 rfl ?_
  rw [hkk]
  refine v_callV hX 1 (by decide) rfl rfl (f_rowAt (show k < 7 by omega)) tw_224 tw_221 tw_223 tw_1 tw_45 (by decide +kernel) ⟨⟨rfl, rfl⟩, Nat.le_of_ble_eq_true rfl, Nat.le_of_ble_eq_true rfl⟩ rfl (Nat.le_of_ble_eq_true rfl) rfl rfl 3 rfl ?_
  refine v_astore_n hX 2 4 rfl rfl (Nat.le_of_ble_eq_true rfl) rfl ?_
  refine v_aload_n hX 2 5 rfl rfl rfl ?_
  refine v_ifnull hX 6 rfl ?_
  refine v_aload_n hX 2 7 rfl rfl rfl ?_
  refine v_aload_n hX 1 8 rfl rfl rfl ?_
  refine v_callVN hX 1 (by have := isB_lt (hh k (by omega)).1; omega) (cG_B (hh k (by omega)).1) rfl (f_become (hh k (by omega)).1 isB_1 hz hn (hh k (by omega)).2 hw) tw_228 (List.mem_of_getElem? (i := 8) rfl) tw_40 tw_227 tw_2 (by decide +kernel) ⟨⟨rfl, rfl⟩, Nat.le_of_ble_eq_true rfl, Nat.le_of_ble_eq_true rfl⟩ rfl (Nat.le_of_ble_eq_true rfl) rfl rfl 9 rfl ?_
  refine v_vret hX hQ rfl rfl ?_ 10 rfl
  rfl
set_option maxRecDepth 100000 in
set_option maxHeartbeats 4000000 in
theorem f_dropOldest {Y : Yt} {M : Mm} (hh : ∀ i, i < 7 → isB (M.2 i) ∧ M.2 i ≠ 1) : Fn Y yX2_dropOldest wsX2_dropOldest { frames := 1, cells := 0, slots := 0, locals := 21 } [.ref (Y.2.2.2.1 33)] M none ((mhis M (rot M.2))) := by
  refine Fn.of (cc := cX2_dropOldest) (ins := iX2_dropOldest) (maxL := 3) (ret := none) (by decide) dX2_dropOldest [some (.ref (Y.2.2.2.1 33)), none, none] (Nat.le_of_ble_eq_true rfl) rfl rfl ?_
  intro X hX hQ
  refine v_aload_n hX 0 0 rfl rfl rfl ?_
  refine v_iconst hX (v := 0) 1 rfl (by decide) ?_
  refine v_callV hX 1 (by decide) rfl rfl (f_rowAt (show 0 < 7 by decide)) tw_224 tw_221 tw_223 tw_1 tw_45 (by decide +kernel) ⟨⟨rfl, rfl⟩, Nat.le_of_ble_eq_true rfl, Nat.le_of_ble_eq_true rfl⟩ rfl (Nat.le_of_ble_eq_true rfl) rfl rfl 2 rfl ?_
  refine v_astore_n hX 1 3 rfl rfl (Nat.le_of_ble_eq_true rfl) rfl ?_
  refine v_iconst hX (v := 0) 4 rfl (by decide) ?_
  refine v_istore_n hX 2 5 rfl rfl (Nat.le_of_ble_eq_true rfl) rfl ?_
  have lp : ∀ (k : Nat), k ≤ 6 → V Y X (mhis M (roS M.2 k)) 8 [some (.ref (Y.2.2.2.1 33)), some (.ref (Y.2.2.2.1 (M.2 0))), some (.int (nI k))] [] := by
    refine upTo 6 (fun k hk ih => ?_)
    refine v_iload_n hX 2 6 rfl rfl rfl ?_
    refine v_iconst hX (v := 1) 7 rfl (by decide) ?_
    refine v_iadd hX 8 rfl ?_
    refine v_aload_n hX 0 9 rfl rfl rfl ?_
    refine g_2_0 hX 10  tw_184 rfl ?_
    refine v_alen hX (v := nI 7) (k := 34) (t0 := 3) (by decide) rfl rfl rfl 11 rfl ?_
    refine v_icmp_ge hX (tgt := 48) 12 rfl (by decide) (fun c16 => ?_) (fun c16 => ?_)
    · skip
      have hk2 : k = 6 := by rw [nI_1] at c16; have := of_le (a := 7) c16 (by omega) (by omega); omega
      subst hk2
      refine v_vret hX hQ rfl rfl ?_ 32 rfl
      exact congrArg (mhis M) roS_e.symm
    · skip
      have hk2 : k < 6 := by rw [nI_1] at c16; have := of_nle (a := 7) c16 (by omega) (by omega); omega
      refine v_aload_n hX 0 13 rfl rfl rfl ?_
      refine g_2_0 hX 14  tw_184 rfl ?_
      refine v_iload_n hX 2 15 rfl rfl rfl ?_
      refine v_aload_n hX 0 16 rfl rfl rfl ?_
      refine g_2_0 hX 17  tw_184 rfl ?_
      refine v_iload_n hX 2 18 rfl rfl rfl ?_
      refine v_iconst hX (v := 1) 19 rfl (by decide) ?_
      refine v_iadd hX 20 rfl ?_
      refine v_aald hX (k := 34) (t0 := 3) (v := Y.2.2.2.1 (M.2 (k + 1))) (by decide) rfl rfl (by rw [nI_1]; exact vp_in_nI (by omega) (by decide)) (by rw [nI_1, nI_clamp (by omega)]; show some (Y.2.2.2.1 (roS M.2 k (k + 1))) = _; unfold roS; rw [if_neg (by omega), if_neg (by omega)]) 21 rfl ?_
      refine v_aast34 hX (b := M.2 (k + 1)) (hh (k + 1) (by omega)).1 (vp_in_nI (by omega) (by decide)) 22 rfl ?_
      refine v_aload_n hX 0 23 rfl rfl rfl ?_
      refine g_2_0 hX 24  tw_184 rfl ?_
      refine v_iload_n hX 2 25 rfl rfl rfl ?_
      refine v_iconst hX (v := 1) 26 rfl (by decide) ?_
      refine v_iadd hX 27 rfl ?_
      refine v_aload_n hX 1 28 rfl rfl rfl ?_
      refine v_aast34 hX (b := M.2 0) (hh 0 (by omega)).1 (by rw [nI_1]; exact vp_in_nI (by omega) (by decide)) 29 rfl ?_
      refine v_iinc hX 30 rfl rfl (nI_inc k) (Nat.le_of_ble_eq_true rfl) rfl ?_
      refine v_goto hX (tgt := 8) 31 rfl (by decide) ?_
      refine V.subM (ih hk2) ?_ rfl ⟨rfl, rfl, rfl, trivial⟩
      rw [nI_1, nI_clamp (by omega), nI_clamp (by omega), mhis_2, mhis_mhis, mhis_2, mhis_mhis, ← roS_s hk2]
  refine V.subM (lp 0 (Nat.zero_le _)) ?_ rfl ⟨rfl, rfl, rfl, trivial⟩
  rw [roS_0]; rfl
set_option maxRecDepth 100000 in
set_option maxHeartbeats 4000000 in
theorem f_settle {Y : Yt} {M : Mm} {k : Nat} {x : Int32} (hk : k ≤ 6) (hkk : M.1 33 1 = nI k) (hh : ∀ i, i < 7 → isB (M.2 i) ∧ M.2 i ≠ 1) : Fn Y yX2_settle wsX2_settle { frames := 2, cells := 0, slots := 0, locals := 43 } [.ref (Y.2.2.2.1 33), .int x] M (some (.int x)) ((seM M k x)) := by
  refine Fn.of (cc := cX2_settle) (ins := iX2_settle) (maxL := 2) (ret := (some .int)) (by decide) dX2_settle [some (.ref (Y.2.2.2.1 33)), some (.int x)] (Nat.le_of_ble_eq_true rfl) rfl rfl ?_
  intro X hX hQ
  refine v_iload_n hX 1 0 rfl rfl rfl ?_
  refine v_if_lt hX (tgt := 30) 1 rfl (by decide) (fun c1 => ?_) (fun c1 => ?_)
  · skip
    refine v_iload_n hX 1 15 rfl rfl rfl ?_
    refine v_iret hX hQ rfl rfl ?_ ?_ 16 rfl
    · rfl
    · first | (rw [seM, if_pos c1]; done) | (rw [seM, if_neg c1, if_pos hk2, hkk, nI_1]; done) | (rw [seM, if_neg c1, if_neg (by omega)])
  · skip
    refine v_aload_n hX 0 2 rfl rfl rfl ?_
    refine g_2_1 hX 3  tw_185 rfl ?_
    refine v_bipush hX (v := 6) 4 rfl (by decide) ?_
    refine v_icmp_ge hX (tgt := 26) 5 rfl (by decide) (fun c10 => ?_) (fun c10 => ?_)
    · skip
      have hk2 : k = 6 := by rw [hkk] at c10; have := of_le (a := 6) c10 (by omega) (by omega); omega
      refine v_aload_n hX 0 13 rfl rfl rfl ?_
      refine v_callV hX 0 (by decide) rfl rfl (f_dropOldest hh) tw_248 tw_245 tw_247 tw_7 tw_45 (by decide +kernel) ⟨⟨rfl, rfl⟩, Nat.le_of_ble_eq_true rfl, Nat.le_of_ble_eq_true rfl⟩ rfl (Nat.le_of_ble_eq_true rfl) rfl rfl 14 rfl ?_
      refine v_iload_n hX 1 15 rfl rfl rfl ?_
      refine v_iret hX hQ rfl rfl ?_ ?_ 16 rfl
      · rfl
      · first | (rw [seM, if_pos c1]; done) | (rw [seM, if_neg c1, if_pos hk2, hkk, nI_1]; done) | (rw [seM, if_neg c1, if_neg (by omega)])
    · skip
      have hk2 : k < 6 := by rw [hkk] at c10; exact of_nle (a := 6) c10 (by omega) (by omega)
      refine v_aload_n hX 0 6 rfl rfl rfl ?_
      refine v_dup hX 7 rfl rfl ?_
      refine g_2_1 hX 8  tw_185 rfl ?_
      refine v_iconst hX (v := 1) 9 rfl (by decide) ?_
      refine v_iadd hX 10 rfl ?_
      refine p_2_1 hX 11   tw_185 rfl ?_
      refine v_goto hX (tgt := 30) 12 rfl (by decide) ?_
      refine v_iload_n hX 1 15 rfl rfl rfl ?_
      refine v_iret hX hQ rfl rfl ?_ ?_ 16 rfl
      · rfl
      · first | (rw [seM, if_pos c1]; done) | (rw [seM, if_neg c1, if_pos hk2, hkk, nI_1]; done) | (rw [seM, if_neg c1, if_neg (by omega)])
end
section
abbrev Tq : Type := Int32 × Nat × (Nat → Int32)
def RdOK (M : Mm) (s : Nat → Int32) (l : Nat) : Prop := M.1 31 = s ∧ M.1 30 1 = nI l ∧ l ≤ 80 ∧ isCh M l
theorem RdOK.row {M : Mm} {s q : Nat → Int32} {l : Nat} (h : RdOK M s l) : RdOK (mrow M 32 q) s l := by
  obtain ⟨h1, h2, h3, h4⟩ := h
  exact ⟨by rw [mrow_n (by decide)]; exact h1, by rw [mrow_n (by decide)]; exact h2, h3, fun j hj => by rw [mrow_n (by decide)]; exact h4 j hj⟩
def td (s : Nat → Int32) (l : Nat) (lo hi : Int32) (a : Nat) (q : Nat → Int32) : Tq := if chA s l a < lo ∨ ¬ chA s l a ≤ hi then (0, a, q) else (1, a + 1, upd (upd q 1 (chA s l a - 48)) 0 (nI (a + 1)))
def tkc (s : Nat → Int32) (l : Nat) (c : Int32) (a : Nat) (q : Nat → Int32) : Tq := if chA s l a = c then (1, a + 1, upd q 0 (nI (a + 1))) else (0, a, q)
def rdg (s : Nat → Int32) (l : Nat) (lo hi : Int32) (a : Nat) (q : Nat → Int32) : Tq := if (td s l lo hi a q).1 = 0 then (0, (td s l lo hi a q).2) else (1, (td s l lo hi a q).2.1, upd (td s l lo hi a q).2.2 3 ((td s l lo hi a q).2.2 1))
def rnm2 (s : Nat → Int32) (l : Nat) (t : Tq) : Tq := if (td s l 48 57 t.2.1 t.2.2).1 = 0 then (1, (td s l 48 57 t.2.1 t.2.2).2) else (1, (td s l 48 57 t.2.1 t.2.2).2.1, upd (td s l 48 57 t.2.1 t.2.2).2.2 3 (10 * (td s l 48 57 t.2.1 t.2.2).2.2 3 + (td s l 48 57 t.2.1 t.2.2).2.2 1))
def rnm (s : Nat → Int32) (l : Nat) (a : Nat) (q : Nat → Int32) : Tq := if (rdg s l 48 57 a q).1 = 0 then (0, (rdg s l 48 57 a q).2) else if (rdg s l 48 57 a q).2.2 3 ≤ 0 then (1, (rdg s l 48 57 a q).2) else rnm2 s l (rdg s l 48 57 a q)
def rcl (s : Nat → Int32) (l : Nat) : Nat → Nat → (Nat → Int32) → Nat × (Nat → Int32)
  | 0, a, q => (a, q)
  | f + 1, a, q => if (td s l 48 57 a q).1 = 0 then (td s l 48 57 a q).2 else rcl s l f (td s l 48 57 a q).2.1 (upd (td s l 48 57 a q).2.2 5 ((td s l 48 57 a q).2.2 5 ||| ((1 : Int32) <<< ((td s l 48 57 a q).2.2 1 &&& 31))))
def rcs (s : Nat → Int32) (l : Nat) (a : Nat) (q : Nat → Int32) : Tq := if (tkc s l 43 a (upd q 5 0)).1 = 0 then (1, (tkc s l 43 a (upd q 5 0)).2) else (if (rcl s l 80 (tkc s l 43 a (upd q 5 0)).2.1 (tkc s l 43 a (upd q 5 0)).2.2).2 5 = 0 then 0 else 1, rcl s l 80 (tkc s l 43 a (upd q 5 0)).2.1 (tkc s l 43 a (upd q 5 0)).2.2)
def rpp (s : Nat → Int32) (l : Nat) (a : Nat) (q : Nat → Int32) : Tq := if (tkc s l 47 a q).1 = 0 then (0, (tkc s l 47 a q).2) else if (td s l 49 57 (tkc s l 47 a q).2.1 (tkc s l 47 a q).2.2).1 = 0 then (0, (td s l 49 57 (tkc s l 47 a q).2.1 (tkc s l 47 a q).2.2).2) else rcs s l (td s l 49 57 (tkc s l 47 a q).2.1 (tkc s l 47 a q).2.2).2.1 (upd (td s l 49 57 (tkc s l 47 a q).2.1 (tkc s l 47 a q).2.2).2.2 4 ((td s l 49 57 (tkc s l 47 a q).2.1 (tkc s l 47 a q).2.2).2.2 1))
def thn (t u : Tq) : Tq := if t.1 = 0 then (0, t.2) else (if u.1 = 0 then 0 else 1, u.2)
def ror (s : Nat → Int32) (l : Nat) (a : Nat) (q : Nat → Int32) : Tq :=
  if chA s l a = 99 then thn (rdg s l 48 49 (a + 1) (upd (upd q 2 (chA s l a)) 0 (nI (a + 1)))) (rpp s l (rdg s l 48 49 (a + 1) (upd (upd q 2 (chA s l a)) 0 (nI (a + 1)))).2.1 (rdg s l 48 49 (a + 1) (upd (upd q 2 (chA s l a)) 0 (nI (a + 1)))).2.2)
  else if chA s l a = 97 then thn (rnm s l (a + 1) (upd (upd q 2 (chA s l a)) 0 (nI (a + 1)))) (rpp s l (rnm s l (a + 1) (upd (upd q 2 (chA s l a)) 0 (nI (a + 1)))).2.1 (rnm s l (a + 1) (upd (upd q 2 (chA s l a)) 0 (nI (a + 1)))).2.2)
  else if chA s l a = 119 ∨ chA s l a = 114 ∨ chA s l a = 116 then rnm s l (a + 1) (upd (upd q 2 (chA s l a)) 0 (nI (a + 1)))
  else if chA s l a = 111 then rdg s l 48 57 (a + 1) (upd (upd q 2 (chA s l a)) 0 (nI (a + 1)))
  else (0, a, upd q 2 (chA s l a))
def ffl (s : Nat → Int32) (l : Nat) : Nat → Nat → (Nat → Int32) → Int32 × (Nat → Int32)
  | 0, a, q => (nI a, q)
  | f + 1, a, q => if (ror s l a q).1 = 0 then (nI (ror s l a q).2.1, (ror s l a q).2.2) else if ¬ nI (ror s l a q).2.1 < nI l then (-6, (ror s l a q).2.2) else if (tkc s l 59 (ror s l a q).2.1 (ror s l a q).2.2).1 = 0 then (nI (tkc s l 59 (ror s l a q).2.1 (ror s l a q).2.2).2.1, (tkc s l 59 (ror s l a q).2.1 (ror s l a q).2.2).2.2) else ffl s l f (tkc s l 59 (ror s l a q).2.1 (ror s l a q).2.2).2.1 (tkc s l 59 (ror s l a q).2.1 (ror s l a q).2.2).2.2
theorem ord7 (c : Int32) : c = 99 ∨ c = 97 ∨ c = 119 ∨ c = 114 ∨ c = 116 ∨ c = 111 ∨ (¬ c = 99 ∧ ¬ c = 97 ∧ ¬ c = 119 ∧ ¬ c = 114 ∧ ¬ c = 116 ∧ ¬ c = 111) := by
  by_cases h1 : c = 99
  · exact Or.inl h1
  by_cases h2 : c = 97
  · exact Or.inr (Or.inl h2)
  by_cases h3 : c = 119
  · exact Or.inr (Or.inr (Or.inl h3))
  by_cases h4 : c = 114
  · exact Or.inr (Or.inr (Or.inr (Or.inl h4)))
  by_cases h5 : c = 116
  · exact Or.inr (Or.inr (Or.inr (Or.inr (Or.inl h5))))
  by_cases h6 : c = 111
  · exact Or.inr (Or.inr (Or.inr (Or.inr (Or.inr (Or.inl h6)))))
  · exact Or.inr (Or.inr (Or.inr (Or.inr (Or.inr (Or.inr ⟨h1, h2, h3, h4, h5, h6⟩)))))
def okT (l : Nat) (t : Tq) : Prop := t.2.2 0 = nI t.2.1 ∧ t.2.1 ≤ l
theorem chA_lt {s : Nat → Int32} {l a : Nat} (h : ¬ chA s l a = 0) : a < l := by
  unfold chA at h
  by_cases g : a < l
  · exact g
  · rw [if_neg g] at h; exact absurd rfl h
theorem okT_u {l a : Nat} {r : Int32} {q : Nat → Int32} (h : a ≤ l) : okT l (r, a, upd q 0 (nI a)) := ⟨(upd_s : upd q 0 (nI a) 0 = nI a), h⟩
theorem okT_n {l a j : Nat} {r v : Int32} {q : Nat → Int32} (hj : (0 : Nat) ≠ j) (h0 : q 0 = nI a) (h : a ≤ l) : okT l (r, a, upd q j v) := ⟨((upd_n hj).trans h0 : upd q j v 0 = nI a), h⟩
theorem td_ok {s : Nat → Int32} {l a : Nat} {lo hi : Int32} {q : Nat → Int32} (hlo : (0 : Int32) < lo) (h0 : q 0 = nI a) (ha : a ≤ l) : okT l (td s l lo hi a q) := by
  unfold td
  by_cases g : chA s l a < lo ∨ ¬ chA s l a ≤ hi
  · rw [if_pos g]; exact ⟨h0, ha⟩
  · rw [if_neg g]
    have : a < l := chA_lt (s := s) (fun e => g (Or.inl (by rw [e]; exact hlo)))
    exact okT_u (by omega)
theorem tkc_ok {s : Nat → Int32} {l a : Nat} {c : Int32} {q : Nat → Int32} (hc : ¬ c = 0) (h0 : q 0 = nI a) (ha : a ≤ l) : okT l (tkc s l c a q) := by
  unfold tkc
  by_cases g : chA s l a = c
  · rw [if_pos g]
    have : a < l := chA_lt (s := s) (fun e => hc (by rw [← g, e]))
    exact okT_u (by omega)
  · rw [if_neg g]; exact ⟨h0, ha⟩
theorem rdg_ok {s : Nat → Int32} {l a : Nat} {lo hi : Int32} {q : Nat → Int32} (hlo : (0 : Int32) < lo) (h0 : q 0 = nI a) (ha : a ≤ l) : okT l (rdg s l lo hi a q) := by
  have h := td_ok (s := s) (hi := hi) hlo h0 ha
  unfold rdg
  by_cases g : (td s l lo hi a q).1 = 0
  · rw [if_pos g]; exact h
  · rw [if_neg g]; exact okT_n (by decide) h.1 h.2
theorem rnm_ok {s : Nat → Int32} {l a : Nat} {q : Nat → Int32} (h0 : q 0 = nI a) (ha : a ≤ l) : okT l (rnm s l a q) := by
  have h := rdg_ok (s := s) (lo := 48) (hi := 57) (by decide) h0 ha
  have h2 := td_ok (s := s) (lo := 48) (hi := 57) (by decide) h.1 h.2
  unfold rnm
  by_cases g : (rdg s l 48 57 a q).1 = 0
  · rw [if_pos g]; exact h
  · rw [if_neg g]
    by_cases g2 : (rdg s l 48 57 a q).2.2 3 ≤ 0
    · rw [if_pos g2]; exact h
    · rw [if_neg g2]
      unfold rnm2
      by_cases g3 : (td s l 48 57 (rdg s l 48 57 a q).2.1 (rdg s l 48 57 a q).2.2).1 = 0
      · rw [if_pos g3]; exact h2
      · rw [if_neg g3]; exact okT_n (by decide) h2.1 h2.2
theorem rcl_ok {s : Nat → Int32} {l : Nat} : ∀ (f a : Nat) (q : Nat → Int32), q 0 = nI a → a ≤ l → (rcl s l f a q).2 0 = nI (rcl s l f a q).1 ∧ (rcl s l f a q).1 ≤ l := by
  intro f
  induction f with
  | zero => intro a q h0 ha; exact ⟨h0, ha⟩
  | succ f ih =>
    intro a q h0 ha
    have h := td_ok (s := s) (lo := 48) (hi := 57) (by decide) h0 ha
    rw [rcl]
    by_cases g : (td s l 48 57 a q).1 = 0
    · rw [if_pos g]; exact h
    · rw [if_neg g]; exact ih _ _ (by rw [upd_n (by decide)]; exact h.1) h.2
theorem rcs_ok {s : Nat → Int32} {l a : Nat} {q : Nat → Int32} (h0 : q 0 = nI a) (ha : a ≤ l) : okT l (rcs s l a q) := by
  have h := tkc_ok (s := s) (c := 43) (q := upd q 5 0) (by decide) (by rw [upd_n (by decide)]; exact h0) ha
  unfold rcs
  by_cases g : (tkc s l 43 a (upd q 5 0)).1 = 0
  · rw [if_pos g]; exact h
  · rw [if_neg g]; exact rcl_ok 80 _ _ h.1 h.2
theorem rpp_ok {s : Nat → Int32} {l a : Nat} {q : Nat → Int32} (h0 : q 0 = nI a) (ha : a ≤ l) : okT l (rpp s l a q) := by
  have h := tkc_ok (s := s) (c := 47) (by decide) h0 ha
  have h2 := td_ok (s := s) (lo := 49) (hi := 57) (by decide) h.1 h.2
  unfold rpp
  by_cases g : (tkc s l 47 a q).1 = 0
  · rw [if_pos g]; exact h
  · rw [if_neg g]
    by_cases g2 : (td s l 49 57 (tkc s l 47 a q).2.1 (tkc s l 47 a q).2.2).1 = 0
    · rw [if_pos g2]; exact h2
    · rw [if_neg g2]; exact rcs_ok (by rw [upd_n (by decide)]; exact h2.1) h2.2
theorem thn_ok {l : Nat} {t u : Tq} (h : okT l t) (h2 : okT l u) : okT l (thn t u) := by
  unfold thn
  by_cases g : t.1 = 0
  · rw [if_pos g]; exact h
  · rw [if_neg g]; exact h2
theorem ror_ok {s : Nat → Int32} {l a : Nat} {q : Nat → Int32} (h0 : q 0 = nI a) (ha : a ≤ l) : okT l (ror s l a q) := by
  have hu : (upd (upd q 2 (chA s l a)) 0 (nI (a + 1))) 0 = nI (a + 1) := upd_s
  have hz : ∀ c : Int32, ¬ c = 0 → chA s l a = c → a + 1 ≤ l := fun c hc e => by
    have : a < l := chA_lt (s := s) (by rw [e]; exact hc)
    omega
  unfold ror
  by_cases g1 : chA s l a = 99
  · rw [if_pos g1]
    have h := rdg_ok (s := s) (lo := 48) (hi := 49) (by decide) hu (hz _ (by decide) g1)
    exact thn_ok h (rpp_ok h.1 h.2)
  rw [if_neg g1]
  by_cases g2 : chA s l a = 97
  · rw [if_pos g2]
    have h := rnm_ok (s := s) hu (hz _ (by decide) g2)
    exact thn_ok h (rpp_ok h.1 h.2)
  rw [if_neg g2]
  by_cases g3 : chA s l a = 119 ∨ chA s l a = 114 ∨ chA s l a = 116
  · rw [if_pos g3]
    refine rnm_ok hu ?_
    rcases g3 with g | g | g
    · exact hz _ (by decide) g
    · exact hz _ (by decide) g
    · exact hz _ (by decide) g
  rw [if_neg g3]
  by_cases g4 : chA s l a = 111
  · rw [if_pos g4]
    exact rdg_ok (by decide) hu (hz _ (by decide) g4)
  rw [if_neg g4]
  exact okT_n (by decide) h0 ha
theorem chA_c {M : Mm} {s : Nat → Int32} {l a : Nat} (h : RdOK M s l) : narrow .char (.int (chA s l a)) = .int (chA s l a) ∧ fits .char (.int (chA s l a)) = true := by
  unfold chA
  by_cases g : a < l
  · rw [if_pos g, ← h.1]; exact h.2.2.2 a g
  · rw [if_neg g]; exact ⟨rfl, rfl⟩
theorem dz_val {x : Int32} (h : x = 0 ∨ x = 1) : narrow .boolean (.int x) = .int x := nar_b h
theorem td_01 {s : Nat → Int32} {l a : Nat} {lo hi : Int32} {q : Nat → Int32} : (td s l lo hi a q).1 = 0 ∨ (td s l lo hi a q).1 = 1 := by unfold td; split; exact Or.inl rfl; exact Or.inr rfl
theorem rdg_01 {s : Nat → Int32} {l a : Nat} {lo hi : Int32} {q : Nat → Int32} : (rdg s l lo hi a q).1 = 0 ∨ (rdg s l lo hi a q).1 = 1 := by unfold rdg; split; exact Or.inl rfl; exact Or.inr rfl
theorem rnm_01 {s : Nat → Int32} {l a : Nat} {q : Nat → Int32} : (rnm s l a q).1 = 0 ∨ (rnm s l a q).1 = 1 := by
  unfold rnm
  split
  · exact Or.inl rfl
  split
  · exact Or.inr rfl
  unfold rnm2
  split
  · exact Or.inr rfl
  · exact Or.inr rfl
theorem rcs_01 {s : Nat → Int32} {l a : Nat} {q : Nat → Int32} : (rcs s l a q).1 = 0 ∨ (rcs s l a q).1 = 1 := by
  unfold rcs
  split
  · exact Or.inr rfl
  · show (if _ then (0 : Int32) else 1) = 0 ∨ (if _ then (0 : Int32) else 1) = 1
    split
    · exact Or.inl rfl
    · exact Or.inr rfl
theorem rpp_01 {s : Nat → Int32} {l a : Nat} {q : Nat → Int32} : (rpp s l a q).1 = 0 ∨ (rpp s l a q).1 = 1 := by
  unfold rpp
  split
  · exact Or.inl rfl
  split
  · exact Or.inl rfl
  · exact rcs_01
end
section
theorem prep_1 {M : Mm} {c n : Nat} (hc : isB c) (h : c ≠ 1) {j : Nat} (hj : j < 26) : (cpB M c 1 n).1 (1 + j) = M.1 (1 + j) ∨ n ≥ 25 := by
  by_cases hn : n ≤ 24
  · have ha := isB_apart hc isB_1 h
    exact Or.inl (cpB_out (by omega) (by omega))
  · exact Or.inr (by omega)
theorem pr1 {M : Mm} {c n j : Nat} (hc : isB c) (h : c ≠ 1) (hn : n ≤ 24) (hj : j < 26) : (cpB M c 1 n).1 (1 + j) = M.1 (1 + j) := (prep_1 hc h hj).resolve_right (by omega)
theorem prz {M : Mm} {c n : Nat} (hc : isB c) (h : c ≠ 1) (hn : n ≤ 24) : (cpB M c 1 n).1 1 = M.1 1 := pr1 (j := 0) hc h hn (by omega)
theorem prp {M : Mm} {c n i : Nat} (hc : isB c) (h : c ≠ 1) (hn : n ≤ 24) (hi : i < 24) : cp (cpB M c 1 n) 1 i = cp M 1 i := by
  funext j
  show (cpB M c 1 n).1 (1 + 2 + i) j = M.1 (1 + 2 + i) j
  rw [show 1 + 2 + i = 1 + (2 + i) by omega, pr1 hc h hn (by omega)]
theorem prw {M : Mm} {c n k : Nat} (hc : isB c) (h : c ≠ 1) (hn : n ≤ 24) (hk : k ≤ 24) (hw : WF (cp M 1) k) : WF (cp (cpB M c 1 n) 1) k := by
  intro i hi
  rw [prp hc h hn (by omega)]
  exact hw i hi
theorem pro {M : Mm} {c n k : Nat} (hc : isB c) (hn : n ≤ 24) (hk : k = 0 ∨ (27 ≤ k ∧ k < 35) ∨ k = 217 ∨ 270 ≤ k) : (cpB M c 1 n).1 k = M.1 k := by
  have h0 := isB_no hc (show 0 < 26 by decide)
  have h1 := isB_lt hc
  have h2 := isB_cases hc
  exact cpB_out (by omega) (by omega)

def Fr (M M' : Mm) : Prop := M'.2 = M.2 ∧ ∀ k, 27 ≤ k → M'.1 k = M.1 k
theorem Fr.rf {M : Mm} : Fr M M := ⟨rfl, fun _ _ => rfl⟩
theorem Fr.tr {M M1 M2 : Mm} (h : Fr M M1) (g : Fr M1 M2) : Fr M M2 := ⟨g.1.trans h.1, fun k hk => (g.2 k hk).trans (h.2 k hk)⟩
theorem Fr.set {M : Mm} {k j : Nat} {v : Int32} (h : k < 27) : Fr M (mset M k j v) := ⟨rfl, fun k' hk => mset_n (by omega)⟩
theorem Fr.ite {M A B : Mm} {c : Prop} [Decidable c] (hA : Fr M A) (hB : Fr M B) : Fr M (if c then A else B) := by split; exact hA; exact hB
theorem fileM_fr {M : Mm} {n : Nat} {s p c t : Int32} (hn : n < 24) : Fr M (fileM M 1 n s p c t) := by
  unfold fileM
  exact ((((((((Fr.set (by omega)).tr (Fr.set (by omega))).tr (Fr.set (by omega))).tr (Fr.set (by omega))).tr (Fr.set (by omega))).tr (Fr.set (by omega))).tr (Fr.set (by omega))).tr (Fr.set (by omega)))
theorem adM_fr {M : Mm} {s v : Int32} : Fr M (adM M 1 s v) := Fr.ite (Fr.set (by omega)) (Fr.ite (Fr.set (by omega)) Fr.rf)
theorem fcM_fr {M : Mm} {n : Nat} {s p c : Int32} : Fr M (fcM M 1 n s p c) := by
  unfold fcM
  split
  · exact Fr.rf
  split
  · exact fileM_fr (by omega)
  · exact Fr.rf
theorem faM_fr {M : Mm} {n i : Nat} {p c : Int32} : Fr M (faM M 1 n i p c) := by
  unfold faM
  split
  · exact Fr.rf
  split
  · exact Fr.ite (fileM_fr (by omega)) Fr.rf
  · exact Fr.rf
theorem tbM_fr {M : Mm} {i : Nat} (hi : i < 24) : Fr M (tbM M 1 i) := Fr.ite (Fr.set (by omega)) Fr.rf
theorem prM_fr {M : Mm} {i : Nat} (hi : i < 24) : Fr M (prM M 1 i) := Fr.ite Fr.rf (Fr.set (by omega))
theorem tcM_fr {M : Mm} {w : Int32} : Fr M (tcM M 1 w) := Fr.ite Fr.rf (Fr.set (by omega))
theorem moM_fr {M : Mm} {d : Int32} : Fr M (moM M 1 d) := Fr.ite Fr.rf (Fr.ite (Fr.set (by omega)) Fr.rf)
def lo (x : Int32) : Nat → Nat → Int32
  | 0, _ => -6
  | f + 1, k => if bt x k = true then nI k else lo x f (k + 1)
def fbL (w : Int64) : Nat → Int64 → Int32 → Int64 × Int32
  | 0, x, e => (x, e)
  | f + 1, x, e => if 0 ≤ lg_cmp x w ∨ e ≤ 0 then (x, e) else fbL w f (x * 2) (e + Int32.ofInt (-1))
def fbF (w : Int64) (t : Int64 × Int32) : Int32 := (t.2 <<< ((23 : Int32) &&& 31)) + ((if lg_cmp (2 * ((t.1 <<< ((23 : Int32).toInt64 &&& 63)) - (t.1 <<< ((23 : Int32).toInt64 &&& 63)) / w * w)) w ≤ 0 then (t.1 <<< ((23 : Int32).toInt64 &&& 63)) / w else (t.1 <<< ((23 : Int32).toInt64 &&& 63)) / w + 1) - 8388608).toInt32
def fbR (a w : Nat) : Int32 := if nI a ≤ 0 then 0 else fbF (nI w).toInt64 (fbL (nI w).toInt64 6 (nI a).toInt64 127)
def ba2 (M : Mm) (n k : Nat) (out nas : Nat → Bool) (P : Nat → Nat → Int32) : Int32 := bc ((mk (sd (bt (mk out n)) (bt ((1 : Int32) <<< (nI k &&& 31))) P n) n ^^^ mk (sd (bt (mk out n)) (bt 0) P n) n) &&& mk (pTo P (-6)) n)
def baS (M : Mm) (n : Nat) : Nat → Int32 × Int32
  | 0 => (-6, -6)
  | k + 1 => if bt (mk (naP (cp M 1) n) n &&& (mk (bOut M 1) n ^^^ (-1))) k = true then (if ba2 M n k (bOut M 1) (naP (cp M 1) n) (cp M 1) ≤ (baS M n k).2 then baS M n k else (nI k, ba2 M n k (bOut M 1) (naP (cp M 1) n) (cp M 1))) else baS M n k
def ciX (M : Mm) (n : Nat) : Int32 := (mk (pWd (cp M 1)) n ||| mk (pSk (cp M 1) (M.1 1 5)) n) ||| mk (pBl (cp M 1) (M.1 1 3)) n
def ciS (M : Mm) (n d : Nat) : Int32 := mk (sd (bt (ciX M n ||| mk (pLp (cp M 1) (M.1 1 2 + nI d) (M.1 1 4)) n)) (bt 0) (cp M 1) n) n
def ciF (M : Mm) (n : Nat) : Nat → Nat → Int32
  | 0, _ => -6
  | f + 1, d => if ciS M n d = mk (bSd M 1 n) n then ciF M n f (d + 1) else nI d
def imax (x y : Int32) : Int32 := if x < y then y else x
def lpN (M : Mm) (n : Nat) : Int32 := imax 1 (imax (sm (cp M 1) 0 (mk (pWd (cp M 1)) n) n) (sm (cp M 1) 1 (mk (pWd (cp M 1)) n) n))
def lpR (M : Mm) (n : Nat) : Int32 := if lpN M n ≤ 99 then lpN M n else -6
def shC (M : Mm) (n : Nat) (s : Int32) : Nat → Bool := fun i => pTo (cp M 1) (-6) i && pSd (cp M 1) s i
def ofR (M : Mm) (n i : Nat) (w : Int32) : Int32 := if w = 0 then M.1 (1 + 2 + i) 0 else if w = 1 then M.1 (1 + 2 + i) 1 else if w = 2 then M.1 (1 + 2 + i) 4 else if w = 3 then M.1 (1 + 2 + i) 3 else if w = 4 then M.1 (1 + 2 + i) 2 else if w = 5 then (if bSd M 1 n i = true then 1 else 0) else if w = 6 then rsR M 1 n i else if w = 7 then lo (mk (pTo (cp M 1) (nI i)) n &&& mk (bSd M 1 n) n) 24 0 else if w = 8 then mk (pTo (cp M 1) (nI i)) n else if w = 9 then nI (dpN (cp M 1) (i + 1) i) else if w = 10 then dlR M 1 i else -2
def coR (M : Mm) (n k : Nat) (w : Int32) : Int32 := if w = 0 then M.1 1 2 else if w = 1 then M.1 1 1 else if w = 2 then bc (mk (pTo (cp M 1) (-6)) n) else if w = 3 then bc (mk (bSd M 1 n) n) else if w = 4 then bc (mk (pTo (cp M 1) (-6)) n &&& mk (bSd M 1 n) n) else if w = 5 then bc (mk (bOut M 1) n) else if w = 6 then bc ((mk (fun _ => true) n &&& (mk (bOut M 1) n ^^^ (-1))) &&& (mk (bSd M 1 n) n ^^^ (-1))) else if w = 7 then sm (cp M 1) 0 (mk (pWd (cp M 1)) n ||| mk (pSk (cp M 1) (M.1 1 5)) n) n else if w = 8 then sm (cp M 1) 1 (mk (pWd (cp M 1)) n ||| mk (pSk (cp M 1) (M.1 1 5)) n) n else if w = 9 then M.1 1 3 else if w = 10 then M.1 1 4 else if w = 11 then M.1 1 5 else if w = 12 then M.1 30 1 else if w = 13 then M.1 33 1 else -2
def poR (M : Mm) (n : Nat) (w : Int32) : Int32 := if w = 0 then mk (bSd M 1 n) n else if w = 1 then mk (pTo (cp M 1) (-6)) n &&& mk (bSd M 1 n) n else if w = 2 then mk (bOut M 1) n else if w = 3 then (mk (fun _ => true) n &&& (mk (bOut M 1) n ^^^ (-1))) &&& (mk (bSd M 1 n) n ^^^ (-1)) else if w = 4 then mk (pSd (cp M 1) 0) n else if w = 5 then mk (pSd (cp M 1) 1) n else -2
theorem sw_cases (w : Int32) (m : Nat) (hm : m < 2 ^ 31) : (∃ j, j < m ∧ w = nI j) ∨ (w.toInt < 0 ∨ (m : Int) - 1 < w.toInt) := by
  rcases pk_ix w hm with h | h | ⟨j, h1, h2⟩
  · exact Or.inr (Or.inl (by have := Int32.lt_iff_toInt_lt.mp h; simpa using this))
  · have := Int32.le_iff_toInt_le.mp h
    rw [nI_toInt hm] at this
    exact Or.inr (Or.inr (by omega))
  · exact Or.inl ⟨j, h1, h2⟩
theorem sw11 (w : Int32) : w = 0 ∨ w = 1 ∨ w = 2 ∨ w = 3 ∨ w = 4 ∨ w = 5 ∨ w = 6 ∨ w = 7 ∨ w = 8 ∨ w = 9 ∨ w = 10 ∨ (w.toInt < 0 ∨ 10 < w.toInt) := by
  rcases sw_cases w 11 (by decide) with ⟨j, hj, e⟩ | h
  · subst e
    have : j = 0 ∨ j = 1 ∨ j = 2 ∨ j = 3 ∨ j = 4 ∨ j = 5 ∨ j = 6 ∨ j = 7 ∨ j = 8 ∨ j = 9 ∨ j = 10 := by omega
    rcases this with rfl | rfl | rfl | rfl | rfl | rfl | rfl | rfl | rfl | rfl | rfl <;> simp (decide := true)
  · have h : w.toInt < 0 ∨ (10 : Int) < w.toInt := by omega
    repeat (first | exact h | right)
theorem sw14 (w : Int32) : w = 0 ∨ w = 1 ∨ w = 2 ∨ w = 3 ∨ w = 4 ∨ w = 5 ∨ w = 6 ∨ w = 7 ∨ w = 8 ∨ w = 9 ∨ w = 10 ∨ w = 11 ∨ w = 12 ∨ w = 13 ∨ (w.toInt < 0 ∨ 13 < w.toInt) := by
  rcases sw_cases w 14 (by decide) with ⟨j, hj, e⟩ | h
  · subst e
    have : j = 0 ∨ j = 1 ∨ j = 2 ∨ j = 3 ∨ j = 4 ∨ j = 5 ∨ j = 6 ∨ j = 7 ∨ j = 8 ∨ j = 9 ∨ j = 10 ∨ j = 11 ∨ j = 12 ∨ j = 13 := by omega
    rcases this with rfl | rfl | rfl | rfl | rfl | rfl | rfl | rfl | rfl | rfl | rfl | rfl | rfl | rfl <;> simp (decide := true)
  · have h : w.toInt < 0 ∨ (13 : Int) < w.toInt := by omega
    repeat (first | exact h | right)
theorem sw6 (w : Int32) : w = 0 ∨ w = 1 ∨ w = 2 ∨ w = 3 ∨ w = 4 ∨ w = 5 ∨ (w.toInt < 0 ∨ 5 < w.toInt) := by
  rcases sw_cases w 6 (by decide) with ⟨j, hj, e⟩ | h
  · subst e
    have : j = 0 ∨ j = 1 ∨ j = 2 ∨ j = 3 ∨ j = 4 ∨ j = 5 := by omega
    rcases this with rfl | rfl | rfl | rfl | rfl | rfl <;> simp (decide := true)
  · have h : w.toInt < 0 ∨ (5 : Int) < w.toInt := by omega
    repeat (first | exact h | right)
theorem sw_ne {w : Int32} {m : Nat} (h : w.toInt < 0 ∨ (m : Int) < w.toInt) {c : Nat} (hc : c ≤ m) (hm : m < 2 ^ 31) : ¬ w = nI c := by
  intro e
  rw [e, nI_toInt (by omega)] at h
  omega
end
section
set_option maxRecDepth 100000 in
set_option maxHeartbeats 4000000 in
theorem f_set {Y : Yt} {M : Mm} {s v : Int32} {k n : Nat} (hk : k ≤ 6) (hkk : M.1 33 1 = nI k) (hh : ∀ i, i < 7 → isB (M.2 i) ∧ M.2 i ≠ 1) (hz : M.1 1 1 = nI n) (hn : n ≤ 24) (hw : WF (cp M 1) n) : Fn Y yX6_set wsX6_set { frames := 3, cells := 0, slots := 0, locals := 67 } [.ref (Y.2.2.2.1 0), .int s, .int v] M (some (.int (adR (cpB M (M.2 k) 1 n) 1 s v))) ((seM (adM (cpB M (M.2 k) 1 n) 1 s v) k (adR (cpB M (M.2 k) 1 n) 1 s v))) := by
  have hc := hh k (by omega)
  have hz1 : (cpB M (M.2 k) 1 n).1 1 1 = nI n := by rw [prz hc.1 hc.2 hn]; exact hz
  have hw1 : WF (cp (cpB M (M.2 k) 1 n) 1) n := prw hc.1 hc.2 hn (by omega) hw
  have hk1 : (cpB M (M.2 k) 1 n).1 33 1 = nI k := by rw [pro hc.1 hn (by omega)]; exact hkk
  have hfr : Fr (cpB M (M.2 k) 1 n) (adM (cpB M (M.2 k) 1 n) 1 s v) := adM_fr
  have hk2 : (adM (cpB M (M.2 k) 1 n) 1 s v).1 33 1 = nI k := by rw [hfr.2 33 (by decide)]; exact hk1
  have hh2 : ∀ z9, z9 < 7 → isB ((adM (cpB M (M.2 k) 1 n) 1 s v).2 z9) ∧ (adM (cpB M (M.2 k) 1 n) 1 s v).2 z9 ≠ 1 := by rw [hfr.1]; exact hh
  refine Fn.of (cc := cX6_set) (ins := iX6_set) (maxL := 3) (ret := (some .int)) (by decide) dX6_set [some (.ref (Y.2.2.2.1 0)), some (.int s), some (.int v)] (Nat.le_of_ble_eq_true rfl) rfl rfl ?_
  intro X hX hQ
  refine v_aload_n hX 0 0 rfl rfl rfl ?_
  refine g_6_4 hX 1  tw_196 rfl ?_
  refine v_aload_n hX 0 2 rfl rfl rfl ?_
  refine g_6_0 hX 3  tw_192 rfl ?_
  refine v_callVN hX 1 (by decide) rfl rfl (f_prepare hk hkk hh hz hn hw) tw_220 (List.mem_of_getElem? (i := 7) rfl) tw_45 tw_219 tw_0 (by decide +kernel) ⟨⟨rfl, rfl⟩, Nat.le_of_ble_eq_true rfl, Nat.le_of_ble_eq_true rfl⟩ rfl (Nat.le_of_ble_eq_true rfl) rfl rfl 4 rfl ?_
  refine v_aload_n hX 0 5 rfl rfl rfl ?_
  refine g_6_4 hX 6  tw_196 rfl ?_
  refine v_aload_n hX 0 7 rfl rfl rfl ?_
  refine g_6_0 hX 8  tw_192 rfl ?_
  refine v_iload_n hX 1 9 rfl rfl rfl ?_
  refine v_iload_n hX 2 10 rfl rfl rfl ?_
  refine v_callVN hX 2 (by have := isB_lt isB_1; omega) (cG_B isB_1) rfl (f_adjust isB_1) tw_240 (List.mem_of_getElem? (i := 10) rfl) tw_40 tw_239 tw_5 (by decide +kernel) ⟨⟨rfl, rfl⟩, Nat.le_of_ble_eq_true rfl, Nat.le_of_ble_eq_true rfl⟩ rfl (Nat.le_of_ble_eq_true rfl) rfl rfl 11 rfl ?_
  refine v_callVN hX 1 (by decide) rfl rfl (f_settle hk hk2 hh2) tw_244 (List.mem_of_getElem? (i := 11) rfl) tw_45 tw_243 tw_6 (by decide +kernel) ⟨⟨rfl, rfl⟩, Nat.le_of_ble_eq_true rfl, Nat.le_of_ble_eq_true rfl⟩ rfl (Nat.le_of_ble_eq_true rfl) rfl rfl 12 rfl ?_
  refine v_iret hX hQ rfl rfl ?_ ?_ 13 rfl
  · rfl
  · rfl
set_option maxRecDepth 100000 in
set_option maxHeartbeats 4000000 in
theorem f_claim {Y : Yt} {M : Mm} {s p c : Int32} {k n : Nat} (hk : k ≤ 6) (hkk : M.1 33 1 = nI k) (hh : ∀ i, i < 7 → isB (M.2 i) ∧ M.2 i ≠ 1) (hz : M.1 1 1 = nI n) (hn : n ≤ 24) (hw : WF (cp M 1) n) : Fn Y yX6_claim wsX6_claim { frames := 3, cells := 0, slots := 0, locals := 68 } [.ref (Y.2.2.2.1 0), .int s, .int p, .int c] M (some (.int (fcR n s p c))) ((seM (fcM (cpB M (M.2 k) 1 n) 1 n s p c) k (fcR n s p c))) := by
  have hc := hh k (by omega)
  have hz1 : (cpB M (M.2 k) 1 n).1 1 1 = nI n := by rw [prz hc.1 hc.2 hn]; exact hz
  have hw1 : WF (cp (cpB M (M.2 k) 1 n) 1) n := prw hc.1 hc.2 hn (by omega) hw
  have hk1 : (cpB M (M.2 k) 1 n).1 33 1 = nI k := by rw [pro hc.1 hn (by omega)]; exact hkk
  have hfr : Fr (cpB M (M.2 k) 1 n) (fcM (cpB M (M.2 k) 1 n) 1 n s p c) := fcM_fr
  have hk2 : (fcM (cpB M (M.2 k) 1 n) 1 n s p c).1 33 1 = nI k := by rw [hfr.2 33 (by decide)]; exact hk1
  have hh2 : ∀ z9, z9 < 7 → isB ((fcM (cpB M (M.2 k) 1 n) 1 n s p c).2 z9) ∧ (fcM (cpB M (M.2 k) 1 n) 1 n s p c).2 z9 ≠ 1 := by rw [hfr.1]; exact hh
  refine Fn.of (cc := cX6_claim) (ins := iX6_claim) (maxL := 4) (ret := (some .int)) (by decide) dX6_claim [some (.ref (Y.2.2.2.1 0)), some (.int s), some (.int p), some (.int c)] (Nat.le_of_ble_eq_true rfl) rfl rfl ?_
  intro X hX hQ
  refine v_aload_n hX 0 0 rfl rfl rfl ?_
  refine g_6_4 hX 1  tw_196 rfl ?_
  refine v_aload_n hX 0 2 rfl rfl rfl ?_
  refine g_6_0 hX 3  tw_192 rfl ?_
  refine v_callVN hX 1 (by decide) rfl rfl (f_prepare hk hkk hh hz hn hw) tw_220 (List.mem_of_getElem? (i := 7) rfl) tw_45 tw_219 tw_0 (by decide +kernel) ⟨⟨rfl, rfl⟩, Nat.le_of_ble_eq_true rfl, Nat.le_of_ble_eq_true rfl⟩ rfl (Nat.le_of_ble_eq_true rfl) rfl rfl 4 rfl ?_
  refine v_aload_n hX 0 5 rfl rfl rfl ?_
  refine g_6_4 hX 6  tw_196 rfl ?_
  refine v_aload_n hX 0 7 rfl rfl rfl ?_
  refine g_6_0 hX 8  tw_192 rfl ?_
  refine v_iload_n hX 1 9 rfl rfl rfl ?_
  refine v_iload_n hX 2 10 rfl rfl rfl ?_
  refine v_iload_n hX 3 11 rfl rfl rfl ?_
  refine v_callVN hX 3 (by have := isB_lt isB_1; omega) (cG_B isB_1) rfl (f_fileClaim isB_1 hz1 hn) tw_256 (List.mem_of_getElem? (i := 12) rfl) tw_40 tw_255 tw_8 (by decide +kernel) ⟨⟨rfl, rfl⟩, Nat.le_of_ble_eq_true rfl, Nat.le_of_ble_eq_true rfl⟩ rfl (Nat.le_of_ble_eq_true rfl) rfl rfl 12 rfl ?_
  refine v_callVN hX 1 (by decide) rfl rfl (f_settle hk hk2 hh2) tw_244 (List.mem_of_getElem? (i := 11) rfl) tw_45 tw_243 tw_6 (by decide +kernel) ⟨⟨rfl, rfl⟩, Nat.le_of_ble_eq_true rfl, Nat.le_of_ble_eq_true rfl⟩ rfl (Nat.le_of_ble_eq_true rfl) rfl rfl 13 rfl ?_
  refine v_iret hX hQ rfl rfl ?_ ?_ 14 rfl
  · rfl
  · rfl
set_option maxRecDepth 100000 in
set_option maxHeartbeats 4000000 in
theorem f_answer_no {Y : Yt} {M : Mm} {p c : Int32} {k n : Nat} (hk : k ≤ 6) (hkk : M.1 33 1 = nI k) (hh : ∀ i, i < 7 → isB (M.2 i) ∧ M.2 i ≠ 1) (hz : M.1 1 1 = nI n) (hn : n ≤ 24) (hw : WF (cp M 1) n) {x : Int32} (hx : x < 0 ∨ nI n ≤ x) : Fn Y yX6_answer wsX6_answer { frames := 3, cells := 0, slots := 0, locals := 69 } [.ref (Y.2.2.2.1 0), .int x, .int p, .int c] M (some (.int (-1))) ((seM ((cpB M (M.2 k) 1 n)) k (-1))) := by
  have hc := hh k (by omega)
  have hz1 : (cpB M (M.2 k) 1 n).1 1 1 = nI n := by rw [prz hc.1 hc.2 hn]; exact hz
  have hw1 : WF (cp (cpB M (M.2 k) 1 n) 1) n := prw hc.1 hc.2 hn (by omega) hw
  have hk1 : (cpB M (M.2 k) 1 n).1 33 1 = nI k := by rw [pro hc.1 hn (by omega)]; exact hkk
  have hfr : Fr (cpB M (M.2 k) 1 n) ((cpB M (M.2 k) 1 n)) := Fr.rf
  have hk2 : ((cpB M (M.2 k) 1 n)).1 33 1 = nI k := by rw [hfr.2 33 (by decide)]; exact hk1
  have hh2 : ∀ z9, z9 < 7 → isB (((cpB M (M.2 k) 1 n)).2 z9) ∧ ((cpB M (M.2 k) 1 n)).2 z9 ≠ 1 := by rw [hfr.1]; exact hh
  refine Fn.of (cc := cX6_answer) (ins := iX6_answer) (maxL := 4) (ret := (some .int)) (by decide) dX6_answer [some (.ref (Y.2.2.2.1 0)), some (.int x), some (.int p), some (.int c)] (Nat.le_of_ble_eq_true rfl) rfl rfl ?_
  intro X hX hQ
  refine v_aload_n hX 0 0 rfl rfl rfl ?_
  refine g_6_4 hX 1  tw_196 rfl ?_
  refine v_aload_n hX 0 2 rfl rfl rfl ?_
  refine g_6_0 hX 3  tw_192 rfl ?_
  refine v_callVN hX 1 (by decide) rfl rfl (f_prepare hk hkk hh hz hn hw) tw_220 (List.mem_of_getElem? (i := 7) rfl) tw_45 tw_219 tw_0 (by decide +kernel) ⟨⟨rfl, rfl⟩, Nat.le_of_ble_eq_true rfl, Nat.le_of_ble_eq_true rfl⟩ rfl (Nat.le_of_ble_eq_true rfl) rfl rfl 4 rfl ?_
  refine v_aload_n hX 0 5 rfl rfl rfl ?_
  refine g_6_4 hX 6  tw_196 rfl ?_
  refine v_aload_n hX 0 7 rfl rfl rfl ?_
  refine g_6_0 hX 8  tw_192 rfl ?_
  refine v_iload_n hX 1 9 rfl rfl rfl ?_
  refine v_iload_n hX 2 10 rfl rfl rfl ?_
  refine v_iload_n hX 3 11 rfl rfl rfl ?_
  refine v_callVN hX 3 (by have := isB_lt isB_1; omega) (cG_B isB_1) rfl (f_fileAnswer_no isB_1 hz1 hn hx) tw_275 (List.mem_of_getElem? (i := 13) rfl) tw_40 tw_274 tw_11 (by decide +kernel) ⟨⟨rfl, rfl⟩, Nat.le_of_ble_eq_true rfl, Nat.le_of_ble_eq_true rfl⟩ rfl (Nat.le_of_ble_eq_true rfl) rfl rfl 12 rfl ?_
  refine v_callVN hX 1 (by decide) rfl rfl (f_settle hk hk2 hh2) tw_244 (List.mem_of_getElem? (i := 11) rfl) tw_45 tw_243 tw_6 (by decide +kernel) ⟨⟨rfl, rfl⟩, Nat.le_of_ble_eq_true rfl, Nat.le_of_ble_eq_true rfl⟩ rfl (Nat.le_of_ble_eq_true rfl) rfl rfl 13 rfl ?_
  refine v_iret hX hQ rfl rfl ?_ ?_ 14 rfl
  · rfl
  · rfl
set_option maxRecDepth 100000 in
set_option maxHeartbeats 4000000 in
theorem f_answer {Y : Yt} {M : Mm} {p c : Int32} {k n : Nat} (hk : k ≤ 6) (hkk : M.1 33 1 = nI k) (hh : ∀ i, i < 7 → isB (M.2 i) ∧ M.2 i ≠ 1) (hz : M.1 1 1 = nI n) (hn : n ≤ 24) (hw : WF (cp M 1) n) {i : Nat} (hi : i < n) : Fn Y yX6_answer wsX6_answer { frames := 3, cells := 0, slots := 0, locals := 69 } [.ref (Y.2.2.2.1 0), .int (nI i), .int p, .int c] M (some (.int (faR (cpB M (M.2 k) 1 n) 1 n i p c))) ((seM (faM (cpB M (M.2 k) 1 n) 1 n i p c) k (faR (cpB M (M.2 k) 1 n) 1 n i p c))) := by
  have hc := hh k (by omega)
  have hz1 : (cpB M (M.2 k) 1 n).1 1 1 = nI n := by rw [prz hc.1 hc.2 hn]; exact hz
  have hw1 : WF (cp (cpB M (M.2 k) 1 n) 1) n := prw hc.1 hc.2 hn (by omega) hw
  have hk1 : (cpB M (M.2 k) 1 n).1 33 1 = nI k := by rw [pro hc.1 hn (by omega)]; exact hkk
  have hfr : Fr (cpB M (M.2 k) 1 n) (faM (cpB M (M.2 k) 1 n) 1 n i p c) := faM_fr
  have hk2 : (faM (cpB M (M.2 k) 1 n) 1 n i p c).1 33 1 = nI k := by rw [hfr.2 33 (by decide)]; exact hk1
  have hh2 : ∀ z9, z9 < 7 → isB ((faM (cpB M (M.2 k) 1 n) 1 n i p c).2 z9) ∧ (faM (cpB M (M.2 k) 1 n) 1 n i p c).2 z9 ≠ 1 := by rw [hfr.1]; exact hh
  refine Fn.of (cc := cX6_answer) (ins := iX6_answer) (maxL := 4) (ret := (some .int)) (by decide) dX6_answer [some (.ref (Y.2.2.2.1 0)), some (.int (nI i)), some (.int p), some (.int c)] (Nat.le_of_ble_eq_true rfl) rfl rfl ?_
  intro X hX hQ
  refine v_aload_n hX 0 0 rfl rfl rfl ?_
  refine g_6_4 hX 1  tw_196 rfl ?_
  refine v_aload_n hX 0 2 rfl rfl rfl ?_
  refine g_6_0 hX 3  tw_192 rfl ?_
  refine v_callVN hX 1 (by decide) rfl rfl (f_prepare hk hkk hh hz hn hw) tw_220 (List.mem_of_getElem? (i := 7) rfl) tw_45 tw_219 tw_0 (by decide +kernel) ⟨⟨rfl, rfl⟩, Nat.le_of_ble_eq_true rfl, Nat.le_of_ble_eq_true rfl⟩ rfl (Nat.le_of_ble_eq_true rfl) rfl rfl 4 rfl ?_
  refine v_aload_n hX 0 5 rfl rfl rfl ?_
  refine g_6_4 hX 6  tw_196 rfl ?_
  refine v_aload_n hX 0 7 rfl rfl rfl ?_
  refine g_6_0 hX 8  tw_192 rfl ?_
  refine v_iload_n hX 1 9 rfl rfl rfl ?_
  refine v_iload_n hX 2 10 rfl rfl rfl ?_
  refine v_iload_n hX 3 11 rfl rfl rfl ?_
  refine v_callVN hX 3 (by have := isB_lt isB_1; omega) (cG_B isB_1) rfl (f_fileAnswer isB_1 hz1 hn hi) tw_275 (List.mem_of_getElem? (i := 13) rfl) tw_40 tw_274 tw_11 (by decide +kernel) ⟨⟨rfl, rfl⟩, Nat.le_of_ble_eq_true rfl, Nat.le_of_ble_eq_true rfl⟩ rfl (Nat.le_of_ble_eq_true rfl) rfl rfl 12 rfl ?_
  refine v_callVN hX 1 (by decide) rfl rfl (f_settle hk hk2 hh2) tw_244 (List.mem_of_getElem? (i := 11) rfl) tw_45 tw_243 tw_6 (by decide +kernel) ⟨⟨rfl, rfl⟩, Nat.le_of_ble_eq_true rfl, Nat.le_of_ble_eq_true rfl⟩ rfl (Nat.le_of_ble_eq_true rfl) rfl rfl 13 rfl ?_
  refine v_iret hX hQ rfl rfl ?_ ?_ 14 rfl
  · rfl
  · rfl
set_option maxRecDepth 100000 in
set_option maxHeartbeats 4000000 in
theorem f_withdraw_no {Y : Yt} {M : Mm} {k n : Nat} (hk : k ≤ 6) (hkk : M.1 33 1 = nI k) (hh : ∀ i, i < 7 → isB (M.2 i) ∧ M.2 i ≠ 1) (hz : M.1 1 1 = nI n) (hn : n ≤ 24) (hw : WF (cp M 1) n) {x : Int32} (hx : x < 0 ∨ nI n ≤ x) : Fn Y yX6_withdraw wsX6_withdraw { frames := 5, cells := 0, slots := 0, locals := 110 } [.ref (Y.2.2.2.1 0), .int x] M (some (.int (-1))) ((seM ((cpB M (M.2 k) 1 n)) k (-1))) := by
  have hc := hh k (by omega)
  have hz1 : (cpB M (M.2 k) 1 n).1 1 1 = nI n := by rw [prz hc.1 hc.2 hn]; exact hz
  have hw1 : WF (cp (cpB M (M.2 k) 1 n) 1) n := prw hc.1 hc.2 hn (by omega) hw
  have hk1 : (cpB M (M.2 k) 1 n).1 33 1 = nI k := by rw [pro hc.1 hn (by omega)]; exact hkk
  have hfr : Fr (cpB M (M.2 k) 1 n) ((cpB M (M.2 k) 1 n)) := Fr.rf
  have hk2 : ((cpB M (M.2 k) 1 n)).1 33 1 = nI k := by rw [hfr.2 33 (by decide)]; exact hk1
  have hh2 : ∀ z9, z9 < 7 → isB (((cpB M (M.2 k) 1 n)).2 z9) ∧ ((cpB M (M.2 k) 1 n)).2 z9 ≠ 1 := by rw [hfr.1]; exact hh
  refine Fn.of (cc := cX6_withdraw) (ins := iX6_withdraw) (maxL := 2) (ret := (some .int)) (by decide) dX6_withdraw [some (.ref (Y.2.2.2.1 0)), some (.int x)] (Nat.le_of_ble_eq_true rfl) rfl rfl ?_
  intro X hX hQ
  refine v_aload_n hX 0 0 rfl rfl rfl ?_
  refine g_6_4 hX 1  tw_196 rfl ?_
  refine v_aload_n hX 0 2 rfl rfl rfl ?_
  refine g_6_0 hX 3  tw_192 rfl ?_
  refine v_callVN hX 1 (by decide) rfl rfl (f_prepare hk hkk hh hz hn hw) tw_220 (List.mem_of_getElem? (i := 7) rfl) tw_45 tw_219 tw_0 (by decide +kernel) ⟨⟨rfl, rfl⟩, Nat.le_of_ble_eq_true rfl, Nat.le_of_ble_eq_true rfl⟩ rfl (Nat.le_of_ble_eq_true rfl) rfl rfl 4 rfl ?_
  refine v_aload_n hX 0 5 rfl rfl rfl ?_
  refine g_6_4 hX 6  tw_196 rfl ?_
  refine v_aload_n hX 0 7 rfl rfl rfl ?_
  refine g_6_0 hX 8  tw_192 rfl ?_
  refine v_iload_n hX 1 9 rfl rfl rfl ?_
  refine v_callVN hX 1 (by have := isB_lt isB_1; omega) (cG_B isB_1) rfl (f_takeBack_no isB_1 hz1 hn hx) tw_283 (List.mem_of_getElem? (i := 14) rfl) tw_40 tw_282 tw_12 (by decide +kernel) ⟨⟨rfl, rfl⟩, Nat.le_of_ble_eq_true rfl, Nat.le_of_ble_eq_true rfl⟩ rfl (Nat.le_of_ble_eq_true rfl) rfl rfl 10 rfl ?_
  refine v_callVN hX 1 (by decide) rfl rfl (f_settle hk hk2 hh2) tw_244 (List.mem_of_getElem? (i := 11) rfl) tw_45 tw_243 tw_6 (by decide +kernel) ⟨⟨rfl, rfl⟩, Nat.le_of_ble_eq_true rfl, Nat.le_of_ble_eq_true rfl⟩ rfl (Nat.le_of_ble_eq_true rfl) rfl rfl 11 rfl ?_
  refine v_iret hX hQ rfl rfl ?_ ?_ 12 rfl
  · rfl
  · rfl
set_option maxRecDepth 100000 in
set_option maxHeartbeats 4000000 in
theorem f_withdraw {Y : Yt} {M : Mm} {k n : Nat} (hk : k ≤ 6) (hkk : M.1 33 1 = nI k) (hh : ∀ i, i < 7 → isB (M.2 i) ∧ M.2 i ≠ 1) (hz : M.1 1 1 = nI n) (hn : n ≤ 24) (hw : WF (cp M 1) n) {i : Nat} (hi : i < n) : Fn Y yX6_withdraw wsX6_withdraw { frames := 5, cells := 0, slots := 0, locals := 110 } [.ref (Y.2.2.2.1 0), .int (nI i)] M (some (.int (tbR (cpB M (M.2 k) 1 n) 1 n i))) ((seM (tbM (cpB M (M.2 k) 1 n) 1 i) k (tbR (cpB M (M.2 k) 1 n) 1 n i))) := by
  have hc := hh k (by omega)
  have hz1 : (cpB M (M.2 k) 1 n).1 1 1 = nI n := by rw [prz hc.1 hc.2 hn]; exact hz
  have hw1 : WF (cp (cpB M (M.2 k) 1 n) 1) n := prw hc.1 hc.2 hn (by omega) hw
  have hk1 : (cpB M (M.2 k) 1 n).1 33 1 = nI k := by rw [pro hc.1 hn (by omega)]; exact hkk
  have hfr : Fr (cpB M (M.2 k) 1 n) (tbM (cpB M (M.2 k) 1 n) 1 i) := tbM_fr (by omega)
  have hk2 : (tbM (cpB M (M.2 k) 1 n) 1 i).1 33 1 = nI k := by rw [hfr.2 33 (by decide)]; exact hk1
  have hh2 : ∀ z9, z9 < 7 → isB ((tbM (cpB M (M.2 k) 1 n) 1 i).2 z9) ∧ (tbM (cpB M (M.2 k) 1 n) 1 i).2 z9 ≠ 1 := by rw [hfr.1]; exact hh
  refine Fn.of (cc := cX6_withdraw) (ins := iX6_withdraw) (maxL := 2) (ret := (some .int)) (by decide) dX6_withdraw [some (.ref (Y.2.2.2.1 0)), some (.int (nI i))] (Nat.le_of_ble_eq_true rfl) rfl rfl ?_
  intro X hX hQ
  refine v_aload_n hX 0 0 rfl rfl rfl ?_
  refine g_6_4 hX 1  tw_196 rfl ?_
  refine v_aload_n hX 0 2 rfl rfl rfl ?_
  refine g_6_0 hX 3  tw_192 rfl ?_
  refine v_callVN hX 1 (by decide) rfl rfl (f_prepare hk hkk hh hz hn hw) tw_220 (List.mem_of_getElem? (i := 7) rfl) tw_45 tw_219 tw_0 (by decide +kernel) ⟨⟨rfl, rfl⟩, Nat.le_of_ble_eq_true rfl, Nat.le_of_ble_eq_true rfl⟩ rfl (Nat.le_of_ble_eq_true rfl) rfl rfl 4 rfl ?_
  refine v_aload_n hX 0 5 rfl rfl rfl ?_
  refine g_6_4 hX 6  tw_196 rfl ?_
  refine v_aload_n hX 0 7 rfl rfl rfl ?_
  refine g_6_0 hX 8  tw_192 rfl ?_
  refine v_iload_n hX 1 9 rfl rfl rfl ?_
  refine v_callVN hX 1 (by have := isB_lt isB_1; omega) (cG_B isB_1) rfl (f_takeBack isB_1 hz1 hn hi hw1) tw_283 (List.mem_of_getElem? (i := 14) rfl) tw_40 tw_282 tw_12 (by decide +kernel) ⟨⟨rfl, rfl⟩, Nat.le_of_ble_eq_true rfl, Nat.le_of_ble_eq_true rfl⟩ rfl (Nat.le_of_ble_eq_true rfl) rfl rfl 10 rfl ?_
  refine v_callVN hX 1 (by decide) rfl rfl (f_settle hk hk2 hh2) tw_244 (List.mem_of_getElem? (i := 11) rfl) tw_45 tw_243 tw_6 (by decide +kernel) ⟨⟨rfl, rfl⟩, Nat.le_of_ble_eq_true rfl, Nat.le_of_ble_eq_true rfl⟩ rfl (Nat.le_of_ble_eq_true rfl) rfl rfl 11 rfl ?_
  refine v_iret hX hQ rfl rfl ?_ ?_ 12 rfl
  · rfl
  · rfl
set_option maxRecDepth 100000 in
set_option maxHeartbeats 4000000 in
theorem f_renew_no {Y : Yt} {M : Mm} {k n : Nat} (hk : k ≤ 6) (hkk : M.1 33 1 = nI k) (hh : ∀ i, i < 7 → isB (M.2 i) ∧ M.2 i ≠ 1) (hz : M.1 1 1 = nI n) (hn : n ≤ 24) (hw : WF (cp M 1) n) {x : Int32} (hx : x < 0 ∨ nI n ≤ x) : Fn Y yX6_renew wsX6_renew { frames := 3, cells := 0, slots := 0, locals := 67 } [.ref (Y.2.2.2.1 0), .int x] M (some (.int (-1))) ((seM ((cpB M (M.2 k) 1 n)) k (-1))) := by
  have hc := hh k (by omega)
  have hz1 : (cpB M (M.2 k) 1 n).1 1 1 = nI n := by rw [prz hc.1 hc.2 hn]; exact hz
  have hw1 : WF (cp (cpB M (M.2 k) 1 n) 1) n := prw hc.1 hc.2 hn (by omega) hw
  have hk1 : (cpB M (M.2 k) 1 n).1 33 1 = nI k := by rw [pro hc.1 hn (by omega)]; exact hkk
  have hfr : Fr (cpB M (M.2 k) 1 n) ((cpB M (M.2 k) 1 n)) := Fr.rf
  have hk2 : ((cpB M (M.2 k) 1 n)).1 33 1 = nI k := by rw [hfr.2 33 (by decide)]; exact hk1
  have hh2 : ∀ z9, z9 < 7 → isB (((cpB M (M.2 k) 1 n)).2 z9) ∧ ((cpB M (M.2 k) 1 n)).2 z9 ≠ 1 := by rw [hfr.1]; exact hh
  refine Fn.of (cc := cX6_renew) (ins := iX6_renew) (maxL := 2) (ret := (some .int)) (by decide) dX6_renew [some (.ref (Y.2.2.2.1 0)), some (.int x)] (Nat.le_of_ble_eq_true rfl) rfl rfl ?_
  intro X hX hQ
  refine v_aload_n hX 0 0 rfl rfl rfl ?_
  refine g_6_4 hX 1  tw_196 rfl ?_
  refine v_aload_n hX 0 2 rfl rfl rfl ?_
  refine g_6_0 hX 3  tw_192 rfl ?_
  refine v_callVN hX 1 (by decide) rfl rfl (f_prepare hk hkk hh hz hn hw) tw_220 (List.mem_of_getElem? (i := 7) rfl) tw_45 tw_219 tw_0 (by decide +kernel) ⟨⟨rfl, rfl⟩, Nat.le_of_ble_eq_true rfl, Nat.le_of_ble_eq_true rfl⟩ rfl (Nat.le_of_ble_eq_true rfl) rfl rfl 4 rfl ?_
  refine v_aload_n hX 0 5 rfl rfl rfl ?_
  refine g_6_4 hX 6  tw_196 rfl ?_
  refine v_aload_n hX 0 7 rfl rfl rfl ?_
  refine g_6_0 hX 8  tw_192 rfl ?_
  refine v_iload_n hX 1 9 rfl rfl rfl ?_
  refine v_callVN hX 1 (by have := isB_lt isB_1; omega) (cG_B isB_1) rfl (f_prolong_no isB_1 hz1 hn hx) tw_332 (List.mem_of_getElem? (i := 16) rfl) tw_40 tw_331 tw_21 (by decide +kernel) ⟨⟨rfl, rfl⟩, Nat.le_of_ble_eq_true rfl, Nat.le_of_ble_eq_true rfl⟩ rfl (Nat.le_of_ble_eq_true rfl) rfl rfl 10 rfl ?_
  refine v_callVN hX 1 (by decide) rfl rfl (f_settle hk hk2 hh2) tw_244 (List.mem_of_getElem? (i := 11) rfl) tw_45 tw_243 tw_6 (by decide +kernel) ⟨⟨rfl, rfl⟩, Nat.le_of_ble_eq_true rfl, Nat.le_of_ble_eq_true rfl⟩ rfl (Nat.le_of_ble_eq_true rfl) rfl rfl 11 rfl ?_
  refine v_iret hX hQ rfl rfl ?_ ?_ 12 rfl
  · rfl
  · rfl
set_option maxRecDepth 100000 in
set_option maxHeartbeats 4000000 in
theorem f_renew {Y : Yt} {M : Mm} {k n : Nat} (hk : k ≤ 6) (hkk : M.1 33 1 = nI k) (hh : ∀ i, i < 7 → isB (M.2 i) ∧ M.2 i ≠ 1) (hz : M.1 1 1 = nI n) (hn : n ≤ 24) (hw : WF (cp M 1) n) {i : Nat} (hi : i < n) : Fn Y yX6_renew wsX6_renew { frames := 3, cells := 0, slots := 0, locals := 67 } [.ref (Y.2.2.2.1 0), .int (nI i)] M (some (.int (prR (cpB M (M.2 k) 1 n) 1 i))) ((seM (prM (cpB M (M.2 k) 1 n) 1 i) k (prR (cpB M (M.2 k) 1 n) 1 i))) := by
  have hc := hh k (by omega)
  have hz1 : (cpB M (M.2 k) 1 n).1 1 1 = nI n := by rw [prz hc.1 hc.2 hn]; exact hz
  have hw1 : WF (cp (cpB M (M.2 k) 1 n) 1) n := prw hc.1 hc.2 hn (by omega) hw
  have hk1 : (cpB M (M.2 k) 1 n).1 33 1 = nI k := by rw [pro hc.1 hn (by omega)]; exact hkk
  have hfr : Fr (cpB M (M.2 k) 1 n) (prM (cpB M (M.2 k) 1 n) 1 i) := prM_fr (by omega)
  have hk2 : (prM (cpB M (M.2 k) 1 n) 1 i).1 33 1 = nI k := by rw [hfr.2 33 (by decide)]; exact hk1
  have hh2 : ∀ z9, z9 < 7 → isB ((prM (cpB M (M.2 k) 1 n) 1 i).2 z9) ∧ (prM (cpB M (M.2 k) 1 n) 1 i).2 z9 ≠ 1 := by rw [hfr.1]; exact hh
  refine Fn.of (cc := cX6_renew) (ins := iX6_renew) (maxL := 2) (ret := (some .int)) (by decide) dX6_renew [some (.ref (Y.2.2.2.1 0)), some (.int (nI i))] (Nat.le_of_ble_eq_true rfl) rfl rfl ?_
  intro X hX hQ
  refine v_aload_n hX 0 0 rfl rfl rfl ?_
  refine g_6_4 hX 1  tw_196 rfl ?_
  refine v_aload_n hX 0 2 rfl rfl rfl ?_
  refine g_6_0 hX 3  tw_192 rfl ?_
  refine v_callVN hX 1 (by decide) rfl rfl (f_prepare hk hkk hh hz hn hw) tw_220 (List.mem_of_getElem? (i := 7) rfl) tw_45 tw_219 tw_0 (by decide +kernel) ⟨⟨rfl, rfl⟩, Nat.le_of_ble_eq_true rfl, Nat.le_of_ble_eq_true rfl⟩ rfl (Nat.le_of_ble_eq_true rfl) rfl rfl 4 rfl ?_
  refine v_aload_n hX 0 5 rfl rfl rfl ?_
  refine g_6_4 hX 6  tw_196 rfl ?_
  refine v_aload_n hX 0 7 rfl rfl rfl ?_
  refine g_6_0 hX 8  tw_192 rfl ?_
  refine v_iload_n hX 1 9 rfl rfl rfl ?_
  refine v_callVN hX 1 (by have := isB_lt isB_1; omega) (cG_B isB_1) rfl (f_prolong isB_1 hz1 hn hi) tw_332 (List.mem_of_getElem? (i := 16) rfl) tw_40 tw_331 tw_21 (by decide +kernel) ⟨⟨rfl, rfl⟩, Nat.le_of_ble_eq_true rfl, Nat.le_of_ble_eq_true rfl⟩ rfl (Nat.le_of_ble_eq_true rfl) rfl rfl 10 rfl ?_
  refine v_callVN hX 1 (by decide) rfl rfl (f_settle hk hk2 hh2) tw_244 (List.mem_of_getElem? (i := 11) rfl) tw_45 tw_243 tw_6 (by decide +kernel) ⟨⟨rfl, rfl⟩, Nat.le_of_ble_eq_true rfl, Nat.le_of_ble_eq_true rfl⟩ rfl (Nat.le_of_ble_eq_true rfl) rfl rfl 11 rfl ?_
  refine v_iret hX hQ rfl rfl ?_ ?_ 12 rfl
  · rfl
  · rfl
set_option maxRecDepth 100000 in
set_option maxHeartbeats 4000000 in
theorem f_overrule {Y : Yt} {M : Mm} {w : Int32} {k n : Nat} (hk : k ≤ 6) (hkk : M.1 33 1 = nI k) (hh : ∀ i, i < 7 → isB (M.2 i) ∧ M.2 i ≠ 1) (hz : M.1 1 1 = nI n) (hn : n ≤ 24) (hw : WF (cp M 1) n) : Fn Y yX6_overrule wsX6_overrule { frames := 3, cells := 0, slots := 0, locals := 67 } [.ref (Y.2.2.2.1 0), .int w] M (some (.int (tcR (cpB M (M.2 k) 1 n) 1 w))) ((seM (tcM (cpB M (M.2 k) 1 n) 1 w) k (tcR (cpB M (M.2 k) 1 n) 1 w))) := by
  have hc := hh k (by omega)
  have hz1 : (cpB M (M.2 k) 1 n).1 1 1 = nI n := by rw [prz hc.1 hc.2 hn]; exact hz
  have hw1 : WF (cp (cpB M (M.2 k) 1 n) 1) n := prw hc.1 hc.2 hn (by omega) hw
  have hk1 : (cpB M (M.2 k) 1 n).1 33 1 = nI k := by rw [pro hc.1 hn (by omega)]; exact hkk
  have hfr : Fr (cpB M (M.2 k) 1 n) (tcM (cpB M (M.2 k) 1 n) 1 w) := tcM_fr
  have hk2 : (tcM (cpB M (M.2 k) 1 n) 1 w).1 33 1 = nI k := by rw [hfr.2 33 (by decide)]; exact hk1
  have hh2 : ∀ z9, z9 < 7 → isB ((tcM (cpB M (M.2 k) 1 n) 1 w).2 z9) ∧ (tcM (cpB M (M.2 k) 1 n) 1 w).2 z9 ≠ 1 := by rw [hfr.1]; exact hh
  refine Fn.of (cc := cX6_overrule) (ins := iX6_overrule) (maxL := 2) (ret := (some .int)) (by decide) dX6_overrule [some (.ref (Y.2.2.2.1 0)), some (.int w)] (Nat.le_of_ble_eq_true rfl) rfl rfl ?_
  intro X hX hQ
  refine v_aload_n hX 0 0 rfl rfl rfl ?_
  refine g_6_4 hX 1  tw_196 rfl ?_
  refine v_aload_n hX 0 2 rfl rfl rfl ?_
  refine g_6_0 hX 3  tw_192 rfl ?_
  refine v_callVN hX 1 (by decide) rfl rfl (f_prepare hk hkk hh hz hn hw) tw_220 (List.mem_of_getElem? (i := 7) rfl) tw_45 tw_219 tw_0 (by decide +kernel) ⟨⟨rfl, rfl⟩, Nat.le_of_ble_eq_true rfl, Nat.le_of_ble_eq_true rfl⟩ rfl (Nat.le_of_ble_eq_true rfl) rfl rfl 4 rfl ?_
  refine v_aload_n hX 0 5 rfl rfl rfl ?_
  refine g_6_4 hX 6  tw_196 rfl ?_
  refine v_aload_n hX 0 7 rfl rfl rfl ?_
  refine g_6_0 hX 8  tw_192 rfl ?_
  refine v_iload_n hX 1 9 rfl rfl rfl ?_
  refine v_callVN hX 1 (by have := isB_lt isB_1; omega) (cG_B isB_1) rfl (f_turnCase isB_1) tw_340 (List.mem_of_getElem? (i := 17) rfl) tw_40 tw_339 tw_22 (by decide +kernel) ⟨⟨rfl, rfl⟩, Nat.le_of_ble_eq_true rfl, Nat.le_of_ble_eq_true rfl⟩ rfl (Nat.le_of_ble_eq_true rfl) rfl rfl 10 rfl ?_
  refine v_callVN hX 1 (by decide) rfl rfl (f_settle hk hk2 hh2) tw_244 (List.mem_of_getElem? (i := 11) rfl) tw_45 tw_243 tw_6 (by decide +kernel) ⟨⟨rfl, rfl⟩, Nat.le_of_ble_eq_true rfl, Nat.le_of_ble_eq_true rfl⟩ rfl (Nat.le_of_ble_eq_true rfl) rfl rfl 11 rfl ?_
  refine v_iret hX hQ rfl rfl ?_ ?_ 12 rfl
  · rfl
  · rfl
set_option maxRecDepth 100000 in
set_option maxHeartbeats 4000000 in
theorem f_pass {Y : Yt} {M : Mm} {d : Int32} {k n : Nat} (hk : k ≤ 6) (hkk : M.1 33 1 = nI k) (hh : ∀ i, i < 7 → isB (M.2 i) ∧ M.2 i ≠ 1) (hz : M.1 1 1 = nI n) (hn : n ≤ 24) (hw : WF (cp M 1) n) : Fn Y yX6_pass wsX6_pass { frames := 5, cells := 0, slots := 0, locals := 109 } [.ref (Y.2.2.2.1 0), .int d] M (some (.int (moR (cpB M (M.2 k) 1 n) 1 n d))) ((seM (moM (cpB M (M.2 k) 1 n) 1 d) k (moR (cpB M (M.2 k) 1 n) 1 n d))) := by
  have hc := hh k (by omega)
  have hz1 : (cpB M (M.2 k) 1 n).1 1 1 = nI n := by rw [prz hc.1 hc.2 hn]; exact hz
  have hw1 : WF (cp (cpB M (M.2 k) 1 n) 1) n := prw hc.1 hc.2 hn (by omega) hw
  have hk1 : (cpB M (M.2 k) 1 n).1 33 1 = nI k := by rw [pro hc.1 hn (by omega)]; exact hkk
  have hfr : Fr (cpB M (M.2 k) 1 n) (moM (cpB M (M.2 k) 1 n) 1 d) := moM_fr
  have hk2 : (moM (cpB M (M.2 k) 1 n) 1 d).1 33 1 = nI k := by rw [hfr.2 33 (by decide)]; exact hk1
  have hh2 : ∀ z9, z9 < 7 → isB ((moM (cpB M (M.2 k) 1 n) 1 d).2 z9) ∧ (moM (cpB M (M.2 k) 1 n) 1 d).2 z9 ≠ 1 := by rw [hfr.1]; exact hh
  refine Fn.of (cc := cX6_pass) (ins := iX6_pass) (maxL := 2) (ret := (some .int)) (by decide) dX6_pass [some (.ref (Y.2.2.2.1 0)), some (.int d)] (Nat.le_of_ble_eq_true rfl) rfl rfl ?_
  intro X hX hQ
  refine v_aload_n hX 0 0 rfl rfl rfl ?_
  refine g_6_4 hX 1  tw_196 rfl ?_
  refine v_aload_n hX 0 2 rfl rfl rfl ?_
  refine g_6_0 hX 3  tw_192 rfl ?_
  refine v_callVN hX 1 (by decide) rfl rfl (f_prepare hk hkk hh hz hn hw) tw_220 (List.mem_of_getElem? (i := 7) rfl) tw_45 tw_219 tw_0 (by decide +kernel) ⟨⟨rfl, rfl⟩, Nat.le_of_ble_eq_true rfl, Nat.le_of_ble_eq_true rfl⟩ rfl (Nat.le_of_ble_eq_true rfl) rfl rfl 4 rfl ?_
  refine v_aload_n hX 0 5 rfl rfl rfl ?_
  refine g_6_4 hX 6  tw_196 rfl ?_
  refine v_aload_n hX 0 7 rfl rfl rfl ?_
  refine g_6_0 hX 8  tw_192 rfl ?_
  refine v_iload_n hX 1 9 rfl rfl rfl ?_
  refine v_callVN hX 1 (by have := isB_lt isB_1; omega) (cG_B isB_1) rfl (f_moveOn isB_1 hz1 hn hw1) tw_348 (List.mem_of_getElem? (i := 18) rfl) tw_40 tw_347 tw_23 (by decide +kernel) ⟨⟨rfl, rfl⟩, Nat.le_of_ble_eq_true rfl, Nat.le_of_ble_eq_true rfl⟩ rfl (Nat.le_of_ble_eq_true rfl) rfl rfl 10 rfl ?_
  refine v_callVN hX 1 (by decide) rfl rfl (f_settle hk hk2 hh2) tw_244 (List.mem_of_getElem? (i := 11) rfl) tw_45 tw_243 tw_6 (by decide +kernel) ⟨⟨rfl, rfl⟩, Nat.le_of_ble_eq_true rfl, Nat.le_of_ble_eq_true rfl⟩ rfl (Nat.le_of_ble_eq_true rfl) rfl rfl 11 rfl ?_
  refine v_iret hX hQ rfl rfl ?_ ?_ 12 rfl
  · rfl
  · rfl
set_option maxRecDepth 100000 in
set_option maxHeartbeats 4000000 in
theorem f_lowestOf {Y : Yt} {M : Mm} {x : Int32} : Fn Y yX6_lowestOf wsX6_lowestOf { frames := 1, cells := 0, slots := 0, locals := 21 } [.int x] M (some (.int (lo x 24 0))) M := by
  refine Fn.of (cc := cX6_lowestOf) (ins := iX6_lowestOf) (maxL := 2) (ret := (some .int)) (by decide) dX6_lowestOf [some (.int x), none] (Nat.le_of_ble_eq_true rfl) rfl rfl ?_
  intro X hX hQ
  refine v_iconst hX (v := 0) 0 rfl (by decide) ?_
  refine v_istore_n hX 1 1 rfl rfl (Nat.le_of_ble_eq_true rfl) rfl ?_
  have lp : ∀ (k : Nat), k ≤ 24 → lo x (24 - k) k = lo x 24 0 → V Y X M 2 [some (.int x), some (.int (nI k))] [] := by
    refine upTo 24 (fun k hk ih => ?_)
    intro he
    refine v_iload_n hX 1 2 rfl rfl rfl ?_
    refine v_bipush hX (v := 24) 3 rfl (by decide) ?_
    refine v_icmp_ge hX (tgt := 24) 4 rfl (by decide) (fun c5 => ?_) (fun c5 => ?_)
    · skip
      have hk2 : k = 24 := by have := of_le (a := 24) c5 (by omega) (by omega); omega
      subst hk2
      have he2 : (-6 : Int32) = lo x 24 0 := he
      refine v_bipush hX (v := (-6)) 13 rfl (by decide) ?_
      refine v_iret hX hQ rfl rfl ?_ ?_ 14 rfl
      · rw [he2]
      · rfl
    · skip
      have hk2 : k < 24 := of_nle (a := 24) c5 (by omega) (by omega)
      obtain ⟨f, hf⟩ : ∃ f, 24 - k = f + 1 := ⟨23 - k, by omega⟩
      rw [hf, lo] at he
      refine v_iload_n hX 0 5 rfl rfl rfl ?_
      refine v_iload_n hX 1 6 rfl rfl rfl ?_
      refine v_callS hX 2 (f_has) tw_314 tw_370 tw_313 tw_39 (by decide +kernel) ⟨⟨rfl, rfl⟩, Nat.le_of_ble_eq_true rfl, Nat.le_of_ble_eq_true rfl⟩ rfl (Nat.le_of_ble_eq_true rfl) rfl rfl 7 rfl ?_
      refine v_if_eq hX (tgt := 18) 8 rfl (by decide) (fun c13 => ?_) (fun c13 => ?_)
      · skip
        rw [if_neg (by rw [hasv_eq (by omega) c13]; decide)] at he
        refine v_iinc hX 11 rfl rfl (nI_inc k) (Nat.le_of_ble_eq_true rfl) rfl ?_
        refine v_goto hX (tgt := 2) 12 rfl (by decide) ?_
        exact V.sub (ih hk2 (by rw [show 24 - (k + 1) = f by omega]; exact he)) rfl ⟨rfl, rfl, trivial⟩
      · skip
        rw [if_pos (hasv_ne (by omega) c13)] at he
        refine v_iload_n hX 1 9 rfl rfl rfl ?_
        refine v_iret hX hQ rfl rfl ?_ ?_ 10 rfl
        · rw [he]
        · rfl
  exact V.sub (lp 0 (Nat.zero_le _) rfl) rfl ⟨rfl, rfl, trivial⟩
set_option maxRecDepth 100000 in
set_option maxHeartbeats 4000000 in
theorem f_of_no {Y : Yt} {M : Mm} {n : Nat} {x w : Int32} (hz : M.1 1 1 = nI n) (hn : n ≤ 24) (hx : x < 0 ∨ nI n ≤ x) : Fn Y yX6_of wsX6_of { frames := 5, cells := 0, slots := 0, locals := 109 } [.ref (Y.2.2.2.1 0), .int x, .int w] M (some (.int (-1))) M := by
  refine Fn.of (cc := cX6_of) (ins := iX6_of) (maxL := 4) (ret := (some .int)) (by decide) dX6_of [some (.ref (Y.2.2.2.1 0)), some (.int x), some (.int w), none] (Nat.le_of_ble_eq_true rfl) rfl rfl ?_
  intro X hX hQ
  refine v_aload_n hX 0 0 rfl rfl rfl ?_
  refine g_6_0 hX 1  tw_192 rfl ?_
  refine v_iload_n hX 1 2 rfl rfl rfl ?_
  refine v_callVN hX 1 (by decide) (cG_B isB_1) rfl (f_find_out isB_1 hz hx) tw_232 (List.mem_of_getElem? (i := 19) rfl) tw_40 tw_231 tw_3 (by decide +kernel) ⟨⟨rfl, rfl⟩, Nat.le_of_ble_eq_true rfl, Nat.le_of_ble_eq_true rfl⟩ rfl (Nat.le_of_ble_eq_true rfl) rfl rfl 3 rfl ?_
  refine v_astore_nN hX 3 4 rfl rfl (Nat.le_of_ble_eq_true rfl) rfl ?_
  refine v_aload_nN hX 3 5 rfl rfl rfl ?_
  refine v_ifnonnullN hX 6 rfl ?_
  refine v_iconst hX (v := (-1)) 7 rfl (by decide) ?_
  refine v_iret hX hQ rfl rfl ?_ ?_ 8 rfl
  · rfl
  · rfl
set_option maxRecDepth 100000 in
set_option maxHeartbeats 4000000 in
theorem f_of {Y : Yt} {M : Mm} {n i : Nat} {w : Int32} (hz : M.1 1 1 = nI n) (hn : n ≤ 24) (hw : WF (cp M 1) n) (hi : i < n) : Fn Y yX6_of wsX6_of { frames := 5, cells := 0, slots := 0, locals := 109 } [.ref (Y.2.2.2.1 0), .int (nI i), .int w] M (some (.int (ofR M n i w))) M := by
  refine Fn.of (cc := cX6_of) (ins := iX6_of) (maxL := 4) (ret := (some .int)) (by decide) dX6_of [some (.ref (Y.2.2.2.1 0)), some (.int (nI i)), some (.int w), none] (Nat.le_of_ble_eq_true rfl) rfl rfl ?_
  intro X hX hQ
  refine v_aload_n hX 0 0 rfl rfl rfl ?_
  refine g_6_0 hX 1  tw_192 rfl ?_
  refine v_iload_n hX 1 2 rfl rfl rfl ?_
  refine v_callVN hX 1 (by decide) (cG_B isB_1) rfl (f_find_in isB_1 hz hn hi) tw_232 (List.mem_of_getElem? (i := 19) rfl) tw_40 tw_231 tw_3 (by decide +kernel) ⟨⟨rfl, rfl⟩, Nat.le_of_ble_eq_true rfl, Nat.le_of_ble_eq_true rfl⟩ rfl (Nat.le_of_ble_eq_true rfl) rfl rfl 3 rfl ?_
  refine v_astore_n hX 3 4 rfl rfl (Nat.le_of_ble_eq_true rfl) rfl ?_
  refine v_aload_n hX 3 5 rfl rfl rfl ?_
  refine v_ifnonnull hX (tgt := 15) 6 rfl (by decide) ?_
  refine v_iload_n hX 2 9 rfl rfl rfl ?_
  rcases sw11 w with hc | hc | hc | hc | hc | hc | hc | hc | hc | hc | hc | hc
  · skip
    subst hc
    refine v_tableIn hX (off := 60) (tgt := 76) 10 rfl (by decide) (by decide) (by decide) (by decide) ?_
    refine v_aload_n hX 3 11 rfl rfl rfl ?_
    refine gN_4_0 hX 12 isB_1 (by omega) (List.mem_of_getElem? (i := 1) rfl) rfl ?_
    refine v_iret hX hQ rfl rfl ?_ ?_ 13 rfl
    · simp (decide := true) only [ofR, if_true, if_false]
    · rfl
  · skip
    subst hc
    refine v_tableIn hX (off := 65) (tgt := 81) 10 rfl (by decide) (by decide) (by decide) (by decide) ?_
    refine v_aload_n hX 3 14 rfl rfl rfl ?_
    refine gN_4_1 hX 15 isB_1 (by omega) (List.mem_of_getElem? (i := 3) rfl) rfl ?_
    refine v_iret hX hQ rfl rfl ?_ ?_ 16 rfl
    · simp (decide := true) only [ofR, if_true, if_false]
    · rfl
  · skip
    subst hc
    refine v_tableIn hX (off := 70) (tgt := 86) 10 rfl (by decide) (by decide) (by decide) (by decide) ?_
    refine v_aload_n hX 3 17 rfl rfl rfl ?_
    refine gN_4_4 hX 18 isB_1 (by omega) (List.mem_of_getElem? (i := 10) rfl) rfl ?_
    refine v_iret hX hQ rfl rfl ?_ ?_ 19 rfl
    · simp (decide := true) only [ofR, if_true, if_false]
    · rfl
  · skip
    subst hc
    refine v_tableIn hX (off := 75) (tgt := 91) 10 rfl (by decide) (by decide) (by decide) (by decide) ?_
    refine v_aload_n hX 3 20 rfl rfl rfl ?_
    refine gN_4_3 hX 21 isB_1 (by omega) (List.mem_of_getElem? (i := 8) rfl) rfl ?_
    refine v_iret hX hQ rfl rfl ?_ ?_ 22 rfl
    · simp (decide := true) only [ofR, if_true, if_false]
    · rfl
  · skip
    subst hc
    refine v_tableIn hX (off := 80) (tgt := 96) 10 rfl (by decide) (by decide) (by decide) (by decide) ?_
    refine v_aload_n hX 3 23 rfl rfl rfl ?_
    refine gN_4_2 hX 24 isB_1 (by omega) (List.mem_of_getElem? (i := 5) rfl) rfl ?_
    refine v_iret hX hQ rfl rfl ?_ ?_ 25 rfl
    · simp (decide := true) only [ofR, if_true, if_false]
    · rfl
  · skip
    subst hc
    refine v_tableIn hX (off := 85) (tgt := 101) 10 rfl (by decide) (by decide) (by decide) (by decide) ?_
    refine v_aload_n hX 0 26 rfl rfl rfl ?_
    refine g_6_0 hX 27  tw_192 rfl ?_
    refine v_callVN hX 0 (by decide) (cG_B isB_1) rfl (f_standing isB_1 hz hn hw) tw_287 (List.mem_of_getElem? (i := 20) rfl) tw_40 tw_286 tw_13 (by decide +kernel) ⟨⟨rfl, rfl⟩, Nat.le_of_ble_eq_true rfl, Nat.le_of_ble_eq_true rfl⟩ rfl (Nat.le_of_ble_eq_true rfl) rfl rfl 28 rfl ?_
    refine v_iload_n hX 1 29 rfl rfl rfl ?_
    refine v_callS hX 2 (f_has) tw_314 tw_370 tw_313 tw_39 (by decide +kernel) ⟨⟨rfl, rfl⟩, Nat.le_of_ble_eq_true rfl, Nat.le_of_ble_eq_true rfl⟩ rfl (Nat.le_of_ble_eq_true rfl) rfl rfl 30 rfl ?_
    refine v_if_eq hX (tgt := 119) 31 rfl (by decide) (fun c112 => ?_) (fun c112 => ?_)
    · skip
      have q1 := hasv_eq (by omega) c112
      rw [bt_mk _ (by omega) (by omega), decide_eq_true hi, Bool.true_and] at q1
      refine v_iconst hX (v := 0) 34 rfl (by decide) ?_
      refine v_iret hX hQ rfl rfl ?_ ?_ 35 rfl
      · simp (decide := true) only [ofR, q1, if_true, if_false]
      · rfl
    · skip
      have q1 := hasv_ne (by omega) c112
      rw [bt_mk _ (by omega) (by omega), decide_eq_true hi, Bool.true_and] at q1
      refine v_iconst hX (v := 1) 32 rfl (by decide) ?_
      refine v_goto hX (tgt := 120) 33 rfl (by decide) ?_
      refine v_iret hX hQ rfl rfl ?_ ?_ 35 rfl
      · simp (decide := true) only [ofR, q1, if_true, if_false]
      · rfl
  · skip
    subst hc
    refine v_tableIn hX (off := 105) (tgt := 121) 10 rfl (by decide) (by decide) (by decide) (by decide) ?_
    refine v_aload_n hX 0 36 rfl rfl rfl ?_
    refine g_6_0 hX 37  tw_192 rfl ?_
    refine v_iload_n hX 1 38 rfl rfl rfl ?_
    refine v_callVN hX 1 (by decide) (cG_B isB_1) rfl (f_reasonAgainst isB_1 hz hn hi hw) tw_374 (List.mem_of_getElem? (i := 21) rfl) tw_40 tw_373 tw_24 (by decide +kernel) ⟨⟨rfl, rfl⟩, Nat.le_of_ble_eq_true rfl, Nat.le_of_ble_eq_true rfl⟩ rfl (Nat.le_of_ble_eq_true rfl) rfl rfl 39 rfl ?_
    refine v_iret hX hQ rfl rfl ?_ ?_ 40 rfl
    · simp (decide := true) only [ofR, if_true, if_false]
    · rfl
  · skip
    subst hc
    refine v_tableIn hX (off := 114) (tgt := 130) 10 rfl (by decide) (by decide) (by decide) (by decide) ?_
    refine v_aload_n hX 0 41 rfl rfl rfl ?_
    refine g_6_0 hX 42  tw_192 rfl ?_
    refine v_iload_n hX 1 43 rfl rfl rfl ?_
    refine v_callVN hX 1 (by decide) (cG_B isB_1) rfl (f_answersTo isB_1 hz hn) tw_378 (List.mem_of_getElem? (i := 22) rfl) tw_40 tw_377 tw_25 (by decide +kernel) ⟨⟨rfl, rfl⟩, Nat.le_of_ble_eq_true rfl, Nat.le_of_ble_eq_true rfl⟩ rfl (Nat.le_of_ble_eq_true rfl) rfl rfl 44 rfl ?_
    rw [mk_F]
    refine v_aload_n hX 0 45 rfl rfl rfl ?_
    refine g_6_0 hX 46  tw_192 rfl ?_
    refine v_callVN hX 0 (by decide) (cG_B isB_1) rfl (f_standing isB_1 hz hn hw) tw_287 (List.mem_of_getElem? (i := 20) rfl) tw_40 tw_286 tw_13 (by decide +kernel) ⟨⟨rfl, rfl⟩, Nat.le_of_ble_eq_true rfl, Nat.le_of_ble_eq_true rfl⟩ rfl (Nat.le_of_ble_eq_true rfl) rfl rfl 47 rfl ?_
    refine v_iand hX 48 rfl ?_
    refine v_callS hX 1 (f_lowestOf) tw_381 tw_379 tw_380 tw_39 (by decide +kernel) ⟨⟨rfl, rfl⟩, Nat.le_of_ble_eq_true rfl, Nat.le_of_ble_eq_true rfl⟩ rfl (Nat.le_of_ble_eq_true rfl) rfl rfl 49 rfl ?_
    refine v_iret hX hQ rfl rfl ?_ ?_ 50 rfl
    · simp (decide := true) only [ofR, if_true, if_false]
    · rfl
  · skip
    subst hc
    refine v_tableIn hX (off := 134) (tgt := 150) 10 rfl (by decide) (by decide) (by decide) (by decide) ?_
    refine v_aload_n hX 0 51 rfl rfl rfl ?_
    refine g_6_0 hX 52  tw_192 rfl ?_
    refine v_iload_n hX 1 53 rfl rfl rfl ?_
    refine v_callVN hX 1 (by decide) (cG_B isB_1) rfl (f_answersTo isB_1 hz hn) tw_378 (List.mem_of_getElem? (i := 22) rfl) tw_40 tw_377 tw_25 (by decide +kernel) ⟨⟨rfl, rfl⟩, Nat.le_of_ble_eq_true rfl, Nat.le_of_ble_eq_true rfl⟩ rfl (Nat.le_of_ble_eq_true rfl) rfl rfl 54 rfl ?_
    rw [mk_F]
    refine v_iret hX hQ rfl rfl ?_ ?_ 55 rfl
    · simp (decide := true) only [ofR, if_true, if_false]
    · rfl
  · skip
    subst hc
    refine v_tableIn hX (off := 143) (tgt := 159) 10 rfl (by decide) (by decide) (by decide) (by decide) ?_
    refine v_aload_n hX 0 56 rfl rfl rfl ?_
    refine g_6_0 hX 57  tw_192 rfl ?_
    refine v_iload_n hX 1 58 rfl rfl rfl ?_
    refine v_callVN hX 1 (by decide) (cG_B isB_1) rfl (f_depthOf isB_1 hz hn hi hw) tw_385 (List.mem_of_getElem? (i := 23) rfl) tw_40 tw_384 tw_26 (by decide +kernel) ⟨⟨rfl, rfl⟩, Nat.le_of_ble_eq_true rfl, Nat.le_of_ble_eq_true rfl⟩ rfl (Nat.le_of_ble_eq_true rfl) rfl rfl 59 rfl ?_
    refine v_iret hX hQ rfl rfl ?_ ?_ 60 rfl
    · simp (decide := true) only [ofR, if_true, if_false]
    · rfl
  · skip
    subst hc
    refine v_tableIn hX (off := 152) (tgt := 168) 10 rfl (by decide) (by decide) (by decide) (by decide) ?_
    refine v_aload_n hX 0 61 rfl rfl rfl ?_
    refine g_6_0 hX 62  tw_192 rfl ?_
    refine v_aload_n hX 3 63 rfl rfl rfl ?_
    refine v_callVN hX 1 (by decide) (cG_B isB_1) rfl (f_daysLeft isB_1 hz hn hi) tw_389 (List.mem_of_getElem? (i := 24) rfl) tw_40 tw_388 tw_27 (by decide +kernel) ⟨⟨rfl, rfl⟩, Nat.le_of_ble_eq_true rfl, Nat.le_of_ble_eq_true rfl⟩ rfl (Nat.le_of_ble_eq_true rfl) rfl rfl 64 rfl ?_
    refine v_iret hX hQ rfl rfl ?_ ?_ 65 rfl
    · simp (decide := true) only [ofR, if_true, if_false]
    · rfl
  · skip
    have hne : ∀ c : Nat, c ≤ 10 → ¬ w = nI c := fun c h9 => sw_ne (m := 10) hc h9 (by decide)
    refine v_tableOut hX (tgt := 177) 10 rfl hc (by decide) ?_
    refine v_bipush hX (v := (-2)) 66 rfl (by decide) ?_
    refine v_iret hX hQ rfl rfl ?_ ?_ 67 rfl
    · unfold ofR; rw [if_neg (show ¬ w = 0 from hne 0 (by decide)), if_neg (show ¬ w = 1 from hne 1 (by decide)), if_neg (show ¬ w = 2 from hne 2 (by decide)), if_neg (show ¬ w = 3 from hne 3 (by decide)), if_neg (show ¬ w = 4 from hne 4 (by decide)), if_neg (show ¬ w = 5 from hne 5 (by decide)), if_neg (show ¬ w = 6 from hne 6 (by decide)), if_neg (show ¬ w = 7 from hne 7 (by decide)), if_neg (show ¬ w = 8 from hne 8 (by decide)), if_neg (show ¬ w = 9 from hne 9 (by decide)), if_neg (show ¬ w = 10 from hne 10 (by decide))]
    · rfl
set_option maxRecDepth 100000 in
set_option maxHeartbeats 4000000 in
theorem f_count {Y : Yt} {M : Mm} {w : Int32} {n : Nat} (hz : M.1 1 1 = nI n) (hn : n ≤ 24) (hw : WF (cp M 1) n) : Fn Y yX6_count wsX6_count { frames := 5, cells := 0, slots := 0, locals := 108 } [.ref (Y.2.2.2.1 0), .int w] M (some (.int (coR M n 0 w))) M := by
  refine Fn.of (cc := cX6_count) (ins := iX6_count) (maxL := 2) (ret := (some .int)) (by decide) dX6_count [some (.ref (Y.2.2.2.1 0)), some (.int w)] (Nat.le_of_ble_eq_true rfl) rfl rfl ?_
  intro X hX hQ
  refine v_iload_n hX 1 0 rfl rfl rfl ?_
  rcases sw14 w with hc | hc | hc | hc | hc | hc | hc | hc | hc | hc | hc | hc | hc | hc | hc
  · skip
    subst hc
    refine v_tableIn hX (off := 71) (tgt := 72) 1 rfl (by decide) (by decide) (by decide) (by decide) ?_
    refine v_aload_n hX 0 2 rfl rfl rfl ?_
    refine g_6_0 hX 3  tw_192 rfl ?_
    refine gN_0_2 hX 4 isB_1 (List.mem_of_getElem? (i := 14) rfl) rfl ?_
    refine v_iret hX hQ rfl rfl ?_ ?_ 5 rfl
    · simp (decide := true) only [coR, if_true, if_false]
    · rfl
  · skip
    subst hc
    refine v_tableIn hX (off := 79) (tgt := 80) 1 rfl (by decide) (by decide) (by decide) (by decide) ?_
    refine v_aload_n hX 0 6 rfl rfl rfl ?_
    refine g_6_0 hX 7  tw_192 rfl ?_
    refine gN_0_1 hX 8 isB_1 (List.mem_of_getElem? (i := 13) rfl) rfl ?_
    refine v_iret hX hQ rfl rfl ?_ ?_ 9 rfl
    · simp (decide := true) only [coR, if_true, if_false]
    · rfl
  · skip
    subst hc
    refine v_tableIn hX (off := 87) (tgt := 88) 1 rfl (by decide) (by decide) (by decide) (by decide) ?_
    refine v_aload_n hX 0 10 rfl rfl rfl ?_
    refine g_6_0 hX 11  tw_192 rfl ?_
    refine v_callVN hX 0 (by decide) (cG_B isB_1) rfl (f_claims isB_1 hz hn) tw_397 (List.mem_of_getElem? (i := 25) rfl) tw_40 tw_396 tw_28 (by decide +kernel) ⟨⟨rfl, rfl⟩, Nat.le_of_ble_eq_true rfl, Nat.le_of_ble_eq_true rfl⟩ rfl (Nat.le_of_ble_eq_true rfl) rfl rfl 12 rfl ?_
    rw [mk_F]
    refine v_callS hX 1 (f_bitCount) tw_321 tw_399 tw_320 tw_46 (by decide +kernel) ⟨⟨rfl, rfl⟩, Nat.le_of_ble_eq_true rfl, Nat.le_of_ble_eq_true rfl⟩ rfl (Nat.le_of_ble_eq_true rfl) rfl rfl 13 rfl ?_
    refine v_iret hX hQ rfl rfl ?_ ?_ 14 rfl
    · simp (decide := true) only [coR, if_true, if_false]
    · rfl
  · skip
    subst hc
    refine v_tableIn hX (off := 98) (tgt := 99) 1 rfl (by decide) (by decide) (by decide) (by decide) ?_
    refine v_aload_n hX 0 15 rfl rfl rfl ?_
    refine g_6_0 hX 16  tw_192 rfl ?_
    refine v_callVN hX 0 (by decide) (cG_B isB_1) rfl (f_standing isB_1 hz hn hw) tw_287 (List.mem_of_getElem? (i := 20) rfl) tw_40 tw_286 tw_13 (by decide +kernel) ⟨⟨rfl, rfl⟩, Nat.le_of_ble_eq_true rfl, Nat.le_of_ble_eq_true rfl⟩ rfl (Nat.le_of_ble_eq_true rfl) rfl rfl 17 rfl ?_
    refine v_callS hX 1 (f_bitCount) tw_321 tw_399 tw_320 tw_46 (by decide +kernel) ⟨⟨rfl, rfl⟩, Nat.le_of_ble_eq_true rfl, Nat.le_of_ble_eq_true rfl⟩ rfl (Nat.le_of_ble_eq_true rfl) rfl rfl 18 rfl ?_
    refine v_iret hX hQ rfl rfl ?_ ?_ 19 rfl
    · simp (decide := true) only [coR, if_true, if_false]
    · rfl
  · skip
    subst hc
    refine v_tableIn hX (off := 109) (tgt := 110) 1 rfl (by decide) (by decide) (by decide) (by decide) ?_
    refine v_aload_n hX 0 20 rfl rfl rfl ?_
    refine g_6_0 hX 21  tw_192 rfl ?_
    refine v_callVN hX 0 (by decide) (cG_B isB_1) rfl (f_claims isB_1 hz hn) tw_397 (List.mem_of_getElem? (i := 25) rfl) tw_40 tw_396 tw_28 (by decide +kernel) ⟨⟨rfl, rfl⟩, Nat.le_of_ble_eq_true rfl, Nat.le_of_ble_eq_true rfl⟩ rfl (Nat.le_of_ble_eq_true rfl) rfl rfl 22 rfl ?_
    rw [mk_F]
    refine v_aload_n hX 0 23 rfl rfl rfl ?_
    refine g_6_0 hX 24  tw_192 rfl ?_
    refine v_callVN hX 0 (by decide) (cG_B isB_1) rfl (f_standing isB_1 hz hn hw) tw_287 (List.mem_of_getElem? (i := 20) rfl) tw_40 tw_286 tw_13 (by decide +kernel) ⟨⟨rfl, rfl⟩, Nat.le_of_ble_eq_true rfl, Nat.le_of_ble_eq_true rfl⟩ rfl (Nat.le_of_ble_eq_true rfl) rfl rfl 25 rfl ?_
    refine v_iand hX 26 rfl ?_
    refine v_callS hX 1 (f_bitCount) tw_321 tw_399 tw_320 tw_46 (by decide +kernel) ⟨⟨rfl, rfl⟩, Nat.le_of_ble_eq_true rfl, Nat.le_of_ble_eq_true rfl⟩ rfl (Nat.le_of_ble_eq_true rfl) rfl rfl 27 rfl ?_
    refine v_iret hX hQ rfl rfl ?_ ?_ 28 rfl
    · simp (decide := true) only [coR, if_true, if_false]
    · rfl
  · skip
    subst hc
    refine v_tableIn hX (off := 128) (tgt := 129) 1 rfl (by decide) (by decide) (by decide) (by decide) ?_
    refine v_aload_n hX 0 29 rfl rfl rfl ?_
    refine g_6_0 hX 30  tw_192 rfl ?_
    refine v_callVN hX 0 (by decide) (cG_B isB_1) rfl (f_out isB_1 hz hn hw) tw_291 (List.mem_of_getElem? (i := 26) rfl) tw_40 tw_290 tw_14 (by decide +kernel) ⟨⟨rfl, rfl⟩, Nat.le_of_ble_eq_true rfl, Nat.le_of_ble_eq_true rfl⟩ rfl (Nat.le_of_ble_eq_true rfl) rfl rfl 31 rfl ?_
    refine v_callS hX 1 (f_bitCount) tw_321 tw_399 tw_320 tw_46 (by decide +kernel) ⟨⟨rfl, rfl⟩, Nat.le_of_ble_eq_true rfl, Nat.le_of_ble_eq_true rfl⟩ rfl (Nat.le_of_ble_eq_true rfl) rfl rfl 32 rfl ?_
    refine v_iret hX hQ rfl rfl ?_ ?_ 33 rfl
    · simp (decide := true) only [coR, if_true, if_false]
    · rfl
  · skip
    subst hc
    refine v_tableIn hX (off := 139) (tgt := 140) 1 rfl (by decide) (by decide) (by decide) (by decide) ?_
    refine v_aload_n hX 0 34 rfl rfl rfl ?_
    refine g_6_0 hX 35  tw_192 rfl ?_
    refine v_callVN hX 0 (by decide) (cG_B isB_1) rfl (f_answered isB_1 hz hn hw) tw_404 (List.mem_of_getElem? (i := 27) rfl) tw_40 tw_403 tw_29 (by decide +kernel) ⟨⟨rfl, rfl⟩, Nat.le_of_ble_eq_true rfl, Nat.le_of_ble_eq_true rfl⟩ rfl (Nat.le_of_ble_eq_true rfl) rfl rfl 36 rfl ?_
    rw [all_mk hn]
    refine v_callS hX 1 (f_bitCount) tw_321 tw_399 tw_320 tw_46 (by decide +kernel) ⟨⟨rfl, rfl⟩, Nat.le_of_ble_eq_true rfl, Nat.le_of_ble_eq_true rfl⟩ rfl (Nat.le_of_ble_eq_true rfl) rfl rfl 37 rfl ?_
    refine v_iret hX hQ rfl rfl ?_ ?_ 38 rfl
    · simp (decide := true) only [coR, if_true, if_false]
    · rfl
  · skip
    subst hc
    refine v_tableIn hX (off := 150) (tgt := 151) 1 rfl (by decide) (by decide) (by decide) (by decide) ?_
    refine v_aload_n hX 0 39 rfl rfl rfl ?_
    refine g_6_0 hX 40  tw_192 rfl ?_
    refine v_iconst hX (v := 0) 41 rfl (by decide) ?_
    refine v_aload_n hX 0 42 rfl rfl rfl ?_
    refine g_6_0 hX 43  tw_192 rfl ?_
    refine v_callVN hX 0 (by decide) (cG_B isB_1) rfl (f_withdrawn isB_1 hz hn) tw_295 (List.mem_of_getElem? (i := 28) rfl) tw_40 tw_294 tw_15 (by decide +kernel) ⟨⟨rfl, rfl⟩, Nat.le_of_ble_eq_true rfl, Nat.le_of_ble_eq_true rfl⟩ rfl (Nat.le_of_ble_eq_true rfl) rfl rfl 44 rfl ?_
    rw [mk_F]
    refine v_aload_n hX 0 45 rfl rfl rfl ?_
    refine g_6_0 hX 46  tw_192 rfl ?_
    refine v_callVN hX 0 (by decide) (cG_B isB_1) rfl (f_struck isB_1 hz hn) tw_299 (List.mem_of_getElem? (i := 29) rfl) tw_40 tw_298 tw_16 (by decide +kernel) ⟨⟨rfl, rfl⟩, Nat.le_of_ble_eq_true rfl, Nat.le_of_ble_eq_true rfl⟩ rfl (Nat.le_of_ble_eq_true rfl) rfl rfl 47 rfl ?_
    rw [skA_mk hw hn]
    refine v_ior hX 48 rfl ?_
    refine v_callVN hX 2 (by decide) (cG_B isB_1) rfl (f_pagesOf isB_1 hz hn) tw_414 (List.mem_of_getElem? (i := 30) rfl) tw_40 tw_413 tw_31 (by decide +kernel) ⟨⟨rfl, rfl⟩, Nat.le_of_ble_eq_true rfl, Nat.le_of_ble_eq_true rfl⟩ rfl (Nat.le_of_ble_eq_true rfl) rfl rfl 49 rfl ?_
    refine v_iret hX hQ rfl rfl ?_ ?_ 50 rfl
    · simp (decide := true) only [coR, if_true, if_false]
    · rfl
  · skip
    subst hc
    refine v_tableIn hX (off := 174) (tgt := 175) 1 rfl (by decide) (by decide) (by decide) (by decide) ?_
    refine v_aload_n hX 0 51 rfl rfl rfl ?_
    refine g_6_0 hX 52  tw_192 rfl ?_
    refine v_iconst hX (v := 1) 53 rfl (by decide) ?_
    refine v_aload_n hX 0 54 rfl rfl rfl ?_
    refine g_6_0 hX 55  tw_192 rfl ?_
    refine v_callVN hX 0 (by decide) (cG_B isB_1) rfl (f_withdrawn isB_1 hz hn) tw_295 (List.mem_of_getElem? (i := 28) rfl) tw_40 tw_294 tw_15 (by decide +kernel) ⟨⟨rfl, rfl⟩, Nat.le_of_ble_eq_true rfl, Nat.le_of_ble_eq_true rfl⟩ rfl (Nat.le_of_ble_eq_true rfl) rfl rfl 56 rfl ?_
    rw [mk_F]
    refine v_aload_n hX 0 57 rfl rfl rfl ?_
    refine g_6_0 hX 58  tw_192 rfl ?_
    refine v_callVN hX 0 (by decide) (cG_B isB_1) rfl (f_struck isB_1 hz hn) tw_299 (List.mem_of_getElem? (i := 29) rfl) tw_40 tw_298 tw_16 (by decide +kernel) ⟨⟨rfl, rfl⟩, Nat.le_of_ble_eq_true rfl, Nat.le_of_ble_eq_true rfl⟩ rfl (Nat.le_of_ble_eq_true rfl) rfl rfl 59 rfl ?_
    rw [skA_mk hw hn]
    refine v_ior hX 60 rfl ?_
    refine v_callVN hX 2 (by decide) (cG_B isB_1) rfl (f_pagesOf isB_1 hz hn) tw_414 (List.mem_of_getElem? (i := 30) rfl) tw_40 tw_413 tw_31 (by decide +kernel) ⟨⟨rfl, rfl⟩, Nat.le_of_ble_eq_true rfl, Nat.le_of_ble_eq_true rfl⟩ rfl (Nat.le_of_ble_eq_true rfl) rfl rfl 61 rfl ?_
    refine v_iret hX hQ rfl rfl ?_ ?_ 62 rfl
    · simp (decide := true) only [coR, if_true, if_false]
    · rfl
  · skip
    subst hc
    refine v_tableIn hX (off := 198) (tgt := 199) 1 rfl (by decide) (by decide) (by decide) (by decide) ?_
    refine v_aload_n hX 0 63 rfl rfl rfl ?_
    refine g_6_0 hX 64  tw_192 rfl ?_
    refine gN_0_3 hX 65 isB_1 (List.mem_of_getElem? (i := 15) rfl) rfl ?_
    refine v_iret hX hQ rfl rfl ?_ ?_ 66 rfl
    · simp (decide := true) only [coR, if_true, if_false]
    · rfl
  · skip
    subst hc
    refine v_tableIn hX (off := 206) (tgt := 207) 1 rfl (by decide) (by decide) (by decide) (by decide) ?_
    refine v_aload_n hX 0 67 rfl rfl rfl ?_
    refine g_6_0 hX 68  tw_192 rfl ?_
    refine gN_0_4 hX 69 isB_1 (List.mem_of_getElem? (i := 16) rfl) rfl ?_
    refine v_iret hX hQ rfl rfl ?_ ?_ 70 rfl
    · simp (decide := true) only [coR, if_true, if_false]
    · rfl
  · skip
    subst hc
    refine v_tableIn hX (off := 214) (tgt := 215) 1 rfl (by decide) (by decide) (by decide) (by decide) ?_
    refine v_aload_n hX 0 71 rfl rfl rfl ?_
    refine g_6_0 hX 72  tw_192 rfl ?_
    refine gN_0_5 hX 73 isB_1 (List.mem_of_getElem? (i := 17) rfl) rfl ?_
    refine v_iret hX hQ rfl rfl ?_ ?_ 74 rfl
    · simp (decide := true) only [coR, if_true, if_false]
    · rfl
  · skip
    subst hc
    refine v_tableIn hX (off := 222) (tgt := 223) 1 rfl (by decide) (by decide) (by decide) (by decide) ?_
    refine v_aload_n hX 0 75 rfl rfl rfl ?_
    refine g_6_2 hX 76  tw_194 rfl ?_
    refine gN_3_1 hX 77  (List.mem_of_getElem? (i := 18) rfl) rfl ?_
    refine v_iret hX hQ rfl rfl ?_ ?_ 78 rfl
    · simp (decide := true) only [coR, if_true, if_false]
    · rfl
  · skip
    subst hc
    refine v_tableIn hX (off := 230) (tgt := 231) 1 rfl (by decide) (by decide) (by decide) (by decide) ?_
    refine v_aload_n hX 0 79 rfl rfl rfl ?_
    refine g_6_4 hX 80  tw_196 rfl ?_
    refine gN_2_1 hX 81  (List.mem_of_getElem? (i := 19) rfl) rfl ?_
    refine v_iret hX hQ rfl rfl ?_ ?_ 82 rfl
    · simp (decide := true) only [coR, if_true, if_false]
    · rfl
  · skip
    have hne : ∀ c : Nat, c ≤ 13 → ¬ w = nI c := fun c h9 => sw_ne (m := 13) hc h9 (by decide)
    refine v_tableOut hX (tgt := 239) 1 rfl hc (by decide) ?_
    refine v_bipush hX (v := (-2)) 83 rfl (by decide) ?_
    refine v_iret hX hQ rfl rfl ?_ ?_ 84 rfl
    · unfold coR; rw [if_neg (show ¬ w = 0 from hne 0 (by decide)), if_neg (show ¬ w = 1 from hne 1 (by decide)), if_neg (show ¬ w = 2 from hne 2 (by decide)), if_neg (show ¬ w = 3 from hne 3 (by decide)), if_neg (show ¬ w = 4 from hne 4 (by decide)), if_neg (show ¬ w = 5 from hne 5 (by decide)), if_neg (show ¬ w = 6 from hne 6 (by decide)), if_neg (show ¬ w = 7 from hne 7 (by decide)), if_neg (show ¬ w = 8 from hne 8 (by decide)), if_neg (show ¬ w = 9 from hne 9 (by decide)), if_neg (show ¬ w = 10 from hne 10 (by decide)), if_neg (show ¬ w = 11 from hne 11 (by decide)), if_neg (show ¬ w = 12 from hne 12 (by decide)), if_neg (show ¬ w = 13 from hne 13 (by decide))]
    · rfl
set_option maxRecDepth 100000 in
set_option maxHeartbeats 4000000 in
theorem f_points {Y : Yt} {M : Mm} {w : Int32} {n : Nat} (hz : M.1 1 1 = nI n) (hn : n ≤ 24) (hw : WF (cp M 1) n) : Fn Y yX6_points wsX6_points { frames := 5, cells := 0, slots := 0, locals := 108 } [.ref (Y.2.2.2.1 0), .int w] M (some (.int (poR M n w))) M := by
  refine Fn.of (cc := cX6_points) (ins := iX6_points) (maxL := 2) (ret := (some .int)) (by decide) dX6_points [some (.ref (Y.2.2.2.1 0)), some (.int w)] (Nat.le_of_ble_eq_true rfl) rfl rfl ?_
  intro X hX hQ
  refine v_iload_n hX 1 0 rfl rfl rfl ?_
  rcases sw6 w with hc | hc | hc | hc | hc | hc | hc
  · skip
    subst hc
    refine v_tableIn hX (off := 39) (tgt := 40) 1 rfl (by decide) (by decide) (by decide) (by decide) ?_
    refine v_aload_n hX 0 2 rfl rfl rfl ?_
    refine g_6_0 hX 3  tw_192 rfl ?_
    refine v_callVN hX 0 (by decide) (cG_B isB_1) rfl (f_standing isB_1 hz hn hw) tw_287 (List.mem_of_getElem? (i := 20) rfl) tw_40 tw_286 tw_13 (by decide +kernel) ⟨⟨rfl, rfl⟩, Nat.le_of_ble_eq_true rfl, Nat.le_of_ble_eq_true rfl⟩ rfl (Nat.le_of_ble_eq_true rfl) rfl rfl 4 rfl ?_
    refine v_iret hX hQ rfl rfl ?_ ?_ 5 rfl
    · simp (decide := true) only [poR, if_true, if_false]
    · rfl
  · skip
    subst hc
    refine v_tableIn hX (off := 47) (tgt := 48) 1 rfl (by decide) (by decide) (by decide) (by decide) ?_
    refine v_aload_n hX 0 6 rfl rfl rfl ?_
    refine g_6_0 hX 7  tw_192 rfl ?_
    refine v_callVN hX 0 (by decide) (cG_B isB_1) rfl (f_claims isB_1 hz hn) tw_397 (List.mem_of_getElem? (i := 25) rfl) tw_40 tw_396 tw_28 (by decide +kernel) ⟨⟨rfl, rfl⟩, Nat.le_of_ble_eq_true rfl, Nat.le_of_ble_eq_true rfl⟩ rfl (Nat.le_of_ble_eq_true rfl) rfl rfl 8 rfl ?_
    rw [mk_F]
    refine v_aload_n hX 0 9 rfl rfl rfl ?_
    refine g_6_0 hX 10  tw_192 rfl ?_
    refine v_callVN hX 0 (by decide) (cG_B isB_1) rfl (f_standing isB_1 hz hn hw) tw_287 (List.mem_of_getElem? (i := 20) rfl) tw_40 tw_286 tw_13 (by decide +kernel) ⟨⟨rfl, rfl⟩, Nat.le_of_ble_eq_true rfl, Nat.le_of_ble_eq_true rfl⟩ rfl (Nat.le_of_ble_eq_true rfl) rfl rfl 11 rfl ?_
    refine v_iand hX 12 rfl ?_
    refine v_iret hX hQ rfl rfl ?_ ?_ 13 rfl
    · simp (decide := true) only [poR, if_true, if_false]
    · rfl
  · skip
    subst hc
    refine v_tableIn hX (off := 63) (tgt := 64) 1 rfl (by decide) (by decide) (by decide) (by decide) ?_
    refine v_aload_n hX 0 14 rfl rfl rfl ?_
    refine g_6_0 hX 15  tw_192 rfl ?_
    refine v_callVN hX 0 (by decide) (cG_B isB_1) rfl (f_out isB_1 hz hn hw) tw_291 (List.mem_of_getElem? (i := 26) rfl) tw_40 tw_290 tw_14 (by decide +kernel) ⟨⟨rfl, rfl⟩, Nat.le_of_ble_eq_true rfl, Nat.le_of_ble_eq_true rfl⟩ rfl (Nat.le_of_ble_eq_true rfl) rfl rfl 16 rfl ?_
    refine v_iret hX hQ rfl rfl ?_ ?_ 17 rfl
    · simp (decide := true) only [poR, if_true, if_false]
    · rfl
  · skip
    subst hc
    refine v_tableIn hX (off := 71) (tgt := 72) 1 rfl (by decide) (by decide) (by decide) (by decide) ?_
    refine v_aload_n hX 0 18 rfl rfl rfl ?_
    refine g_6_0 hX 19  tw_192 rfl ?_
    refine v_callVN hX 0 (by decide) (cG_B isB_1) rfl (f_answered isB_1 hz hn hw) tw_404 (List.mem_of_getElem? (i := 27) rfl) tw_40 tw_403 tw_29 (by decide +kernel) ⟨⟨rfl, rfl⟩, Nat.le_of_ble_eq_true rfl, Nat.le_of_ble_eq_true rfl⟩ rfl (Nat.le_of_ble_eq_true rfl) rfl rfl 20 rfl ?_
    rw [all_mk hn]
    refine v_iret hX hQ rfl rfl ?_ ?_ 21 rfl
    · simp (decide := true) only [poR, if_true, if_false]
    · rfl
  · skip
    subst hc
    refine v_tableIn hX (off := 79) (tgt := 80) 1 rfl (by decide) (by decide) (by decide) (by decide) ?_
    refine v_aload_n hX 0 22 rfl rfl rfl ?_
    refine g_6_0 hX 23  tw_192 rfl ?_
    refine v_iconst hX (v := 0) 24 rfl (by decide) ?_
    refine v_callVN hX 1 (by decide) (cG_B isB_1) rfl (f_ofSide isB_1 hz hn) tw_425 (List.mem_of_getElem? (i := 31) rfl) tw_40 tw_424 tw_32 (by decide +kernel) ⟨⟨rfl, rfl⟩, Nat.le_of_ble_eq_true rfl, Nat.le_of_ble_eq_true rfl⟩ rfl (Nat.le_of_ble_eq_true rfl) rfl rfl 25 rfl ?_
    rw [mk_F]
    refine v_iret hX hQ rfl rfl ?_ ?_ 26 rfl
    · simp (decide := true) only [poR, if_true, if_false]
    · rfl
  · skip
    subst hc
    refine v_tableIn hX (off := 88) (tgt := 89) 1 rfl (by decide) (by decide) (by decide) (by decide) ?_
    refine v_aload_n hX 0 27 rfl rfl rfl ?_
    refine g_6_0 hX 28  tw_192 rfl ?_
    refine v_iconst hX (v := 1) 29 rfl (by decide) ?_
    refine v_callVN hX 1 (by decide) (cG_B isB_1) rfl (f_ofSide isB_1 hz hn) tw_425 (List.mem_of_getElem? (i := 31) rfl) tw_40 tw_424 tw_32 (by decide +kernel) ⟨⟨rfl, rfl⟩, Nat.le_of_ble_eq_true rfl, Nat.le_of_ble_eq_true rfl⟩ rfl (Nat.le_of_ble_eq_true rfl) rfl rfl 30 rfl ?_
    rw [mk_F]
    refine v_iret hX hQ rfl rfl ?_ ?_ 31 rfl
    · simp (decide := true) only [poR, if_true, if_false]
    · rfl
  · skip
    have hne : ∀ c : Nat, c ≤ 5 → ¬ w = nI c := fun c h9 => sw_ne (m := 5) hc h9 (by decide)
    refine v_tableOut hX (tgt := 98) 1 rfl hc (by decide) ?_
    refine v_bipush hX (v := (-2)) 32 rfl (by decide) ?_
    refine v_iret hX hQ rfl rfl ?_ ?_ 33 rfl
    · unfold poR; rw [if_neg (show ¬ w = 0 from hne 0 (by decide)), if_neg (show ¬ w = 1 from hne 1 (by decide)), if_neg (show ¬ w = 2 from hne 2 (by decide)), if_neg (show ¬ w = 3 from hne 3 (by decide)), if_neg (show ¬ w = 4 from hne 4 (by decide)), if_neg (show ¬ w = 5 from hne 5 (by decide))]
    · rfl
set_option maxRecDepth 100000 in
set_option maxHeartbeats 4000000 in
theorem f_toFall_no {Y : Yt} {M : Mm} {n : Nat} {x : Int32} (hz : M.1 1 1 = nI n) (hx : x < 0 ∨ nI n ≤ x) : Fn Y yX6_toFall wsX6_toFall { frames := 4, cells := 0, slots := 0, locals := 92 } [.ref (Y.2.2.2.1 0), .int x] M (some (.int (-1))) M := by
  refine Fn.of (cc := cX6_toFall) (ins := iX6_toFall) (maxL := 2) (ret := (some .int)) (by decide) dX6_toFall [some (.ref (Y.2.2.2.1 0)), some (.int x)] (Nat.le_of_ble_eq_true rfl) rfl rfl ?_
  intro X hX hQ
  refine v_aload_n hX 0 0 rfl rfl rfl ?_
  refine g_6_0 hX 1  tw_192 rfl ?_
  refine v_iload_n hX 1 2 rfl rfl rfl ?_
  refine v_callVN hX 1 (by decide) (cG_B isB_1) rfl (f_find_out isB_1 hz hx) tw_232 (List.mem_of_getElem? (i := 19) rfl) tw_40 tw_231 tw_3 (by decide +kernel) ⟨⟨rfl, rfl⟩, Nat.le_of_ble_eq_true rfl, Nat.le_of_ble_eq_true rfl⟩ rfl (Nat.le_of_ble_eq_true rfl) rfl rfl 3 rfl ?_
  refine v_ifnonnullN hX 4 rfl ?_
  refine v_iconst hX (v := (-1)) 5 rfl (by decide) ?_
  refine v_iret hX hQ rfl rfl ?_ ?_ 6 rfl
  · rfl
  · rfl
set_option maxRecDepth 100000 in
set_option maxHeartbeats 4000000 in
theorem f_toFall {Y : Yt} {M : Mm} {n i : Nat} (hz : M.1 1 1 = nI n) (hn : n ≤ 24) (hw : WF (cp M 1) n) (hi : i < n) : Fn Y yX6_toFall wsX6_toFall { frames := 4, cells := 0, slots := 0, locals := 92 } [.ref (Y.2.2.2.1 0), .int (nI i)] M (some (.int (if (wM M (wAll (cp M 1) (bOut M 1) (naP (cp M 1) n) n (wI M 24) 24)).1 28 i < 1000 then (wM M (wAll (cp M 1) (bOut M 1) (naP (cp M 1) n) n (wI M 24) 24)).1 28 i else -6))) ((wM M (wAll (cp M 1) (bOut M 1) (naP (cp M 1) n) n (wI M 24) 24))) := by
  refine Fn.of (cc := cX6_toFall) (ins := iX6_toFall) (maxL := 2) (ret := (some .int)) (by decide) dX6_toFall [some (.ref (Y.2.2.2.1 0)), some (.int (nI i))] (Nat.le_of_ble_eq_true rfl) rfl rfl ?_
  intro X hX hQ
  refine v_aload_n hX 0 0 rfl rfl rfl ?_
  refine g_6_0 hX 1  tw_192 rfl ?_
  refine v_iload_n hX 1 2 rfl rfl rfl ?_
  refine v_callVN hX 1 (by decide) (cG_B isB_1) rfl (f_find_in isB_1 hz hn hi) tw_232 (List.mem_of_getElem? (i := 19) rfl) tw_40 tw_231 tw_3 (by decide +kernel) ⟨⟨rfl, rfl⟩, Nat.le_of_ble_eq_true rfl, Nat.le_of_ble_eq_true rfl⟩ rfl (Nat.le_of_ble_eq_true rfl) rfl rfl 3 rfl ?_
  refine v_ifnonnull hX (tgt := 13) 4 rfl (by decide) ?_
  refine v_aload_n hX 0 7 rfl rfl rfl ?_
  refine g_6_1 hX 8  tw_193 rfl ?_
  refine v_aload_n hX 0 9 rfl rfl rfl ?_
  refine g_6_0 hX 10  tw_192 rfl ?_
  refine v_callVN hX 1 (by decide) rfl rfl (f_weigh isB_1 hz hn hw) tw_460 (List.mem_of_getElem? (i := 34) rfl) tw_42 tw_459 tw_34 (by decide +kernel) ⟨⟨rfl, rfl⟩, Nat.le_of_ble_eq_true rfl, Nat.le_of_ble_eq_true rfl⟩ rfl (Nat.le_of_ble_eq_true rfl) rfl rfl 11 rfl ?_
  refine v_aload_n hX 0 12 rfl rfl rfl ?_
  refine g_6_1 hX 13  tw_193 rfl ?_
  refine v_iload_n hX 1 14 rfl rfl rfl ?_
  refine v_callVN hX 1 (by decide) rfl rfl (f_ansFall (show i < 24 by omega)) tw_475 (List.mem_of_getElem? (i := 39) rfl) tw_42 tw_474 tw_36 (by decide +kernel) ⟨⟨rfl, rfl⟩, Nat.le_of_ble_eq_true rfl, Nat.le_of_ble_eq_true rfl⟩ rfl (Nat.le_of_ble_eq_true rfl) rfl rfl 15 rfl ?_
  refine v_iret hX hQ rfl rfl ?_ ?_ 16 rfl
  · rfl
  · rfl
set_option maxRecDepth 100000 in
set_option maxHeartbeats 4000000 in
theorem f_toStand_no {Y : Yt} {M : Mm} {n : Nat} {x : Int32} (hz : M.1 1 1 = nI n) (hx : x < 0 ∨ nI n ≤ x) : Fn Y yX6_toStand wsX6_toStand { frames := 4, cells := 0, slots := 0, locals := 92 } [.ref (Y.2.2.2.1 0), .int x] M (some (.int (-1))) M := by
  refine Fn.of (cc := cX6_toStand) (ins := iX6_toStand) (maxL := 2) (ret := (some .int)) (by decide) dX6_toStand [some (.ref (Y.2.2.2.1 0)), some (.int x)] (Nat.le_of_ble_eq_true rfl) rfl rfl ?_
  intro X hX hQ
  refine v_aload_n hX 0 0 rfl rfl rfl ?_
  refine g_6_0 hX 1  tw_192 rfl ?_
  refine v_iload_n hX 1 2 rfl rfl rfl ?_
  refine v_callVN hX 1 (by decide) (cG_B isB_1) rfl (f_find_out isB_1 hz hx) tw_232 (List.mem_of_getElem? (i := 19) rfl) tw_40 tw_231 tw_3 (by decide +kernel) ⟨⟨rfl, rfl⟩, Nat.le_of_ble_eq_true rfl, Nat.le_of_ble_eq_true rfl⟩ rfl (Nat.le_of_ble_eq_true rfl) rfl rfl 3 rfl ?_
  refine v_ifnonnullN hX 4 rfl ?_
  refine v_iconst hX (v := (-1)) 5 rfl (by decide) ?_
  refine v_iret hX hQ rfl rfl ?_ ?_ 6 rfl
  · rfl
  · rfl
set_option maxRecDepth 100000 in
set_option maxHeartbeats 4000000 in
theorem f_toStand {Y : Yt} {M : Mm} {n i : Nat} (hz : M.1 1 1 = nI n) (hn : n ≤ 24) (hw : WF (cp M 1) n) (hi : i < n) : Fn Y yX6_toStand wsX6_toStand { frames := 4, cells := 0, slots := 0, locals := 92 } [.ref (Y.2.2.2.1 0), .int (nI i)] M (some (.int (if bOut M 1 i = true then -5 else if (wM M (wAll (cp M 1) (bOut M 1) (naP (cp M 1) n) n (wI M 24) 24)).1 29 i < 1000 then (wM M (wAll (cp M 1) (bOut M 1) (naP (cp M 1) n) n (wI M 24) 24)).1 29 i else -6))) ((if bOut M 1 i = true then M else (wM M (wAll (cp M 1) (bOut M 1) (naP (cp M 1) n) n (wI M 24) 24)))) := by
  refine Fn.of (cc := cX6_toStand) (ins := iX6_toStand) (maxL := 2) (ret := (some .int)) (by decide) dX6_toStand [some (.ref (Y.2.2.2.1 0)), some (.int (nI i))] (Nat.le_of_ble_eq_true rfl) rfl rfl ?_
  intro X hX hQ
  refine v_aload_n hX 0 0 rfl rfl rfl ?_
  refine g_6_0 hX 1  tw_192 rfl ?_
  refine v_iload_n hX 1 2 rfl rfl rfl ?_
  refine v_callVN hX 1 (by decide) (cG_B isB_1) rfl (f_find_in isB_1 hz hn hi) tw_232 (List.mem_of_getElem? (i := 19) rfl) tw_40 tw_231 tw_3 (by decide +kernel) ⟨⟨rfl, rfl⟩, Nat.le_of_ble_eq_true rfl, Nat.le_of_ble_eq_true rfl⟩ rfl (Nat.le_of_ble_eq_true rfl) rfl rfl 3 rfl ?_
  refine v_ifnonnull hX (tgt := 13) 4 rfl (by decide) ?_
  refine v_aload_n hX 0 7 rfl rfl rfl ?_
  refine g_6_0 hX 8  tw_192 rfl ?_
  refine v_callVN hX 0 (by decide) (cG_B isB_1) rfl (f_out isB_1 hz hn hw) tw_291 (List.mem_of_getElem? (i := 26) rfl) tw_40 tw_290 tw_14 (by decide +kernel) ⟨⟨rfl, rfl⟩, Nat.le_of_ble_eq_true rfl, Nat.le_of_ble_eq_true rfl⟩ rfl (Nat.le_of_ble_eq_true rfl) rfl rfl 9 rfl ?_
  refine v_iload_n hX 1 10 rfl rfl rfl ?_
  refine v_callS hX 2 (f_has) tw_314 tw_370 tw_313 tw_39 (by decide +kernel) ⟨⟨rfl, rfl⟩, Nat.le_of_ble_eq_true rfl, Nat.le_of_ble_eq_true rfl⟩ rfl (Nat.le_of_ble_eq_true rfl) rfl rfl 11 rfl ?_
  refine v_if_eq hX (tgt := 30) 12 rfl (by decide) (fun c24 => ?_) (fun c24 => ?_)
  · skip
    have q1 := hasv_eq (by omega) c24
    rw [bt_mk _ (by omega) (by omega), decide_eq_true hi, Bool.true_and] at q1
    refine v_aload_n hX 0 15 rfl rfl rfl ?_
    refine g_6_1 hX 16  tw_193 rfl ?_
    refine v_aload_n hX 0 17 rfl rfl rfl ?_
    refine g_6_0 hX 18  tw_192 rfl ?_
    refine v_callVN hX 1 (by decide) rfl rfl (f_weigh isB_1 hz hn hw) tw_460 (List.mem_of_getElem? (i := 34) rfl) tw_42 tw_459 tw_34 (by decide +kernel) ⟨⟨rfl, rfl⟩, Nat.le_of_ble_eq_true rfl, Nat.le_of_ble_eq_true rfl⟩ rfl (Nat.le_of_ble_eq_true rfl) rfl rfl 19 rfl ?_
    refine v_aload_n hX 0 20 rfl rfl rfl ?_
    refine g_6_1 hX 21  tw_193 rfl ?_
    refine v_iload_n hX 1 22 rfl rfl rfl ?_
    refine v_callVN hX 1 (by decide) rfl rfl (f_ansStand (show i < 24 by omega)) tw_486 (List.mem_of_getElem? (i := 40) rfl) tw_42 tw_485 tw_37 (by decide +kernel) ⟨⟨rfl, rfl⟩, Nat.le_of_ble_eq_true rfl, Nat.le_of_ble_eq_true rfl⟩ rfl (Nat.le_of_ble_eq_true rfl) rfl rfl 23 rfl ?_
    refine v_iret hX hQ rfl rfl ?_ ?_ 24 rfl
    · rw [if_neg (by rw [q1]; decide)]
    · rw [if_neg (by rw [q1]; decide)]
  · skip
    have q1 := hasv_ne (by omega) c24
    rw [bt_mk _ (by omega) (by omega), decide_eq_true hi, Bool.true_and] at q1
    refine v_bipush hX (v := (-5)) 13 rfl (by decide) ?_
    refine v_iret hX hQ rfl rfl ?_ ?_ 14 rfl
    · rw [if_pos q1]
    · rw [if_pos q1]
set_option maxRecDepth 100000 in
set_option maxHeartbeats 4000000 in
theorem f_best_bad {Y : Yt} {M : Mm} {w : Int32} (h0 : ¬ w = 0) (h1 : ¬ w = 1) : Fn Y yX6_bestAnswer wsX6_bestAnswer { frames := 3, cells := 0, slots := 0, locals := 68 } [.ref (Y.2.2.2.1 0), .int w] M (some (.int (-2))) M := by
  refine Fn.of (cc := cX6_bestAnswer) (ins := iX6_bestAnswer) (maxL := 9) (ret := (some .int)) (by decide) dX6_bestAnswer [some (.ref (Y.2.2.2.1 0)), some (.int w), none, none, none, none, none, none, none] (Nat.le_of_ble_eq_true rfl) rfl rfl ?_
  intro X hX hQ
  refine v_iload_n hX 1 0 rfl rfl rfl ?_
  refine v_if_eq hX (tgt := 12) 1 rfl (by decide) (fun c1 => absurd c1 h0) (fun c1 => ?_)
  refine v_iload_n hX 1 2 rfl rfl rfl ?_
  refine v_iconst hX (v := 1) 3 rfl (by decide) ?_
  refine v_icmp_eq hX (tgt := 12) 4 rfl (by decide) (fun c6 => absurd c6 h1) (fun c6 => ?_)
  refine v_bipush hX (v := (-2)) 5 rfl (by decide) ?_
  refine v_iret hX hQ rfl rfl ?_ ?_ 6 rfl
  · rfl
  · rfl
set_option maxRecDepth 100000 in
set_option maxHeartbeats 4000000 in
theorem f_best {Y : Yt} {M : Mm} {w : Int32} (h01 : w = 0 ∨ w = 1) {n : Nat} (hz : M.1 1 1 = nI n) (hn : n ≤ 24) (hw : WF (cp M 1) n) : Fn Y yX6_bestAnswer wsX6_bestAnswer { frames := 3, cells := 0, slots := 0, locals := 68 } [.ref (Y.2.2.2.1 0), .int w] M (some (.int (if w = 0 then (baS M n 24).1 else (baS M n 24).2))) M := by
  refine Fn.of (cc := cX6_bestAnswer) (ins := iX6_bestAnswer) (maxL := 9) (ret := (some .int)) (by decide) dX6_bestAnswer [some (.ref (Y.2.2.2.1 0)), some (.int w), none, none, none, none, none, none, none] (Nat.le_of_ble_eq_true rfl) rfl rfl ?_
  intro X hX hQ
  have j0 : V Y X M 12 [some (.ref (Y.2.2.2.1 0)), some (.int w), none, none, none, none, none, none, none] [] := by
    skip
    refine v_bipush hX (v := (-6)) 7 rfl (by decide) ?_
    refine v_istore_n hX 2 8 rfl rfl (Nat.le_of_ble_eq_true rfl) rfl ?_
    refine v_bipush hX (v := (-6)) 9 rfl (by decide) ?_
    refine v_istore_n hX 3 10 rfl rfl (Nat.le_of_ble_eq_true rfl) rfl ?_
    refine v_aload_n hX 0 11 rfl rfl rfl ?_
    refine g_6_0 hX 12  tw_192 rfl ?_
    refine v_callVN hX 0 (by decide) (cG_B isB_1) rfl (f_out isB_1 hz hn hw) tw_291 (List.mem_of_getElem? (i := 26) rfl) tw_40 tw_290 tw_14 (by decide +kernel) ⟨⟨rfl, rfl⟩, Nat.le_of_ble_eq_true rfl, Nat.le_of_ble_eq_true rfl⟩ rfl (Nat.le_of_ble_eq_true rfl) rfl rfl 13 rfl ?_
    refine v_istore hX 14 rfl (Nat.le_of_ble_eq_true rfl) rfl ?_
    refine v_aload_n hX 0 15 rfl rfl rfl ?_
    refine g_6_0 hX 16  tw_192 rfl ?_
    refine v_iload hX 17 rfl rfl ?_
    refine v_iconst hX (v := 0) 18 rfl (by decide) ?_
    refine v_callVN hX 2 (by decide) (cG_B isB_1) rfl (f_standingIf isB_1 hz hn hw) tw_311 (List.mem_of_getElem? (i := 32) rfl) tw_40 tw_310 tw_19 (by decide +kernel) ⟨⟨rfl, rfl⟩, Nat.le_of_ble_eq_true rfl, Nat.le_of_ble_eq_true rfl⟩ rfl (Nat.le_of_ble_eq_true rfl) rfl rfl 19 rfl ?_
    refine v_istore hX 20 rfl (Nat.le_of_ble_eq_true rfl) rfl ?_
    refine v_aload_n hX 0 21 rfl rfl rfl ?_
    refine g_6_0 hX 22  tw_192 rfl ?_
    refine v_callVN hX 0 (by decide) (cG_B isB_1) rfl (f_withoutAnswers isB_1 hz hn) tw_452 (List.mem_of_getElem? (i := 33) rfl) tw_40 tw_451 tw_33 (by decide +kernel) ⟨⟨rfl, rfl⟩, Nat.le_of_ble_eq_true rfl, Nat.le_of_ble_eq_true rfl⟩ rfl (Nat.le_of_ble_eq_true rfl) rfl rfl 23 rfl ?_
    rw [wa_mk hw hn]
    refine v_iload hX 24 rfl rfl ?_
    refine v_iconst hX (v := (-1)) 25 rfl (by decide) ?_
    refine v_ixor hX 26 rfl ?_
    refine v_iand hX 27 rfl ?_
    refine v_istore hX 28 rfl (Nat.le_of_ble_eq_true rfl) rfl ?_
    refine v_iconst hX (v := 0) 29 rfl (by decide) ?_
    refine v_istore hX 30 rfl (Nat.le_of_ble_eq_true rfl) rfl ?_
    have lp : ∀ (k : Nat), k ≤ 24 → V Y X M 56 [some (.ref (Y.2.2.2.1 0)), some (.int w), some (.int (baS M n k).1), some (.int (baS M n k).2), some (.int (mk (bOut M 1) n)), some (.int (mk (sd (bt (mk (bOut M 1) n)) (bt 0) (cp M 1) n) n)), some (.int (mk (naP (cp M 1) n) n &&& (mk (bOut M 1) n ^^^ (-1)))), some (.int (nI k)), none] [] := by
      refine upTo 24 (fun k hk ih => ?_)
      refine v_iload hX 31 rfl rfl ?_
      refine v_bipush hX (v := 24) 32 rfl (by decide) ?_
      refine v_icmp_ge hX (tgt := 120) 33 rfl (by decide) (fun c60 => ?_) (fun c60 => ?_)
      · skip
        have hk2 : k = 24 := by have := of_le (a := 24) c60 (by omega) (by omega); omega
        subst hk2
        refine v_iload_n hX 1 62 rfl rfl rfl ?_
        refine v_if_ne hX (tgt := 128) 63 rfl (by decide) (fun c121 => ?_) (fun c121 => ?_)
        · skip
          refine v_iload_n hX 3 66 rfl rfl rfl ?_
          refine v_iret hX hQ rfl rfl ?_ ?_ 67 rfl
          · simp only [c121, if_true, if_false]
          · rfl
        · skip
          refine v_iload_n hX 2 64 rfl rfl rfl ?_
          refine v_goto hX (tgt := 129) 65 rfl (by decide) ?_
          refine v_iret hX hQ rfl rfl ?_ ?_ 67 rfl
          · simp only [c121, if_true, if_false]
          · rfl
      · skip
        have hk2 : k < 24 := of_nle (a := 24) c60 (by omega) (by omega)
        refine v_iload hX 34 rfl rfl ?_
        refine v_iload hX 35 rfl rfl ?_
        refine v_callS hX 2 (f_has) tw_314 tw_370 tw_313 tw_39 (by decide +kernel) ⟨⟨rfl, rfl⟩, Nat.le_of_ble_eq_true rfl, Nat.le_of_ble_eq_true rfl⟩ rfl (Nat.le_of_ble_eq_true rfl) rfl rfl 36 rfl ?_
        refine v_if_eq hX (tgt := 114) 37 rfl (by decide) (fun c70 => ?_) (fun c70 => ?_)
        · skip
          have q1 := hasv_eq (by omega) c70
          have hs : baS M n (k + 1) = baS M n k := by rw [baS, if_neg (by rw [q1]; decide)]
          refine v_iinc hX 60 rfl rfl (nI_inc k) (Nat.le_of_ble_eq_true rfl) rfl ?_
          refine v_goto hX (tgt := 56) 61 rfl (by decide) ?_
          exact V.sub (ih hk2) rfl ⟨rfl, rfl, (by first | rfl | (refine congrArg (fun z : Int32 => some (Value.int z)) ?_; rw [hs])), (by first | rfl | (refine congrArg (fun z : Int32 => some (Value.int z)) ?_; rw [hs])), rfl, rfl, rfl, rfl, trivial⟩
        · skip
          have q1 := hasv_ne (by omega) c70
          refine v_aload_n hX 0 38 rfl rfl rfl ?_
          refine g_6_0 hX 39  tw_192 rfl ?_
          refine v_iload hX 40 rfl rfl ?_
          refine v_iconst hX (v := 1) 41 rfl (by decide) ?_
          refine v_iload hX 42 rfl rfl ?_
          refine v_ishl hX 43 rfl ?_
          refine v_callVN hX 2 (by decide) (cG_B isB_1) rfl (f_standingIf isB_1 hz hn hw) tw_311 (List.mem_of_getElem? (i := 32) rfl) tw_40 tw_310 tw_19 (by decide +kernel) ⟨⟨rfl, rfl⟩, Nat.le_of_ble_eq_true rfl, Nat.le_of_ble_eq_true rfl⟩ rfl (Nat.le_of_ble_eq_true rfl) rfl rfl 44 rfl ?_
          refine v_iload hX 45 rfl rfl ?_
          refine v_ixor hX 46 rfl ?_
          refine v_aload_n hX 0 47 rfl rfl rfl ?_
          refine g_6_0 hX 48  tw_192 rfl ?_
          refine v_callVN hX 0 (by decide) (cG_B isB_1) rfl (f_claims isB_1 hz hn) tw_397 (List.mem_of_getElem? (i := 25) rfl) tw_40 tw_396 tw_28 (by decide +kernel) ⟨⟨rfl, rfl⟩, Nat.le_of_ble_eq_true rfl, Nat.le_of_ble_eq_true rfl⟩ rfl (Nat.le_of_ble_eq_true rfl) rfl rfl 49 rfl ?_
          rw [mk_F]
          refine v_iand hX 50 rfl ?_
          refine v_callS hX 1 (f_bitCount) tw_321 tw_399 tw_320 tw_46 (by decide +kernel) ⟨⟨rfl, rfl⟩, Nat.le_of_ble_eq_true rfl, Nat.le_of_ble_eq_true rfl⟩ rfl (Nat.le_of_ble_eq_true rfl) rfl rfl 51 rfl ?_
          show V Y X M _ _ (.int (ba2 M n k (bOut M 1) (naP (cp M 1) n) (cp M 1)) :: _)
          refine v_istore hX 52 rfl (Nat.le_of_ble_eq_true rfl) rfl ?_
          refine v_iload hX 53 rfl rfl ?_
          refine v_iload_n hX 3 54 rfl rfl rfl ?_
          refine v_icmp_le hX (tgt := 114) 55 rfl (by decide) (fun c105 => ?_) (fun c105 => ?_)
          · skip
            have hs : baS M n (k + 1) = baS M n k := by rw [baS, if_pos q1, if_pos c105]
            refine v_iinc hX 60 rfl rfl (nI_inc k) (Nat.le_of_ble_eq_true rfl) rfl ?_
            refine v_goto hX (tgt := 56) 61 rfl (by decide) ?_
            exact V.sub (ih hk2) rfl ⟨rfl, rfl, (by first | rfl | (refine congrArg (fun z : Int32 => some (Value.int z)) ?_; rw [hs])), (by first | rfl | (refine congrArg (fun z : Int32 => some (Value.int z)) ?_; rw [hs])), rfl, rfl, rfl, rfl, trivial⟩
          · skip
            have hs : baS M n (k + 1) = (nI k, ba2 M n k (bOut M 1) (naP (cp M 1) n) (cp M 1)) := by rw [baS, if_pos q1, if_neg c105]
            refine v_iload hX 56 rfl rfl ?_
            refine v_istore_n hX 2 57 rfl rfl (Nat.le_of_ble_eq_true rfl) rfl ?_
            refine v_iload hX 58 rfl rfl ?_
            refine v_istore_n hX 3 59 rfl rfl (Nat.le_of_ble_eq_true rfl) rfl ?_
            refine v_iinc hX 60 rfl rfl (nI_inc k) (Nat.le_of_ble_eq_true rfl) rfl ?_
            refine v_goto hX (tgt := 56) 61 rfl (by decide) ?_
            exact V.sub (ih hk2) rfl ⟨rfl, rfl, (by first | rfl | (refine congrArg (fun z : Int32 => some (Value.int z)) ?_; rw [hs])), (by first | rfl | (refine congrArg (fun z : Int32 => some (Value.int z)) ?_; rw [hs])), rfl, rfl, rfl, rfl, trivial⟩
    exact V.sub (lp 0 (Nat.zero_le _)) rfl ⟨rfl, rfl, (by first | rfl | (refine congrArg (fun z : Int32 => some (Value.int z)) ?_; rfl)), (by first | rfl | (refine congrArg (fun z : Int32 => some (Value.int z)) ?_; rfl)), rfl, rfl, rfl, rfl, trivial⟩
  refine v_iload_n hX 1 0 rfl rfl rfl ?_
  refine v_if_eq hX (tgt := 12) 1 rfl (by decide) (fun c1 => ?_) (fun c1 => ?_)
  · skip
    exact V.sub (j0) rfl ⟨rfl, rfl, trivial⟩
  · skip
    refine v_iload_n hX 1 2 rfl rfl rfl ?_
    refine v_iconst hX (v := 1) 3 rfl (by decide) ?_
    refine v_icmp_eq hX (tgt := 12) 4 rfl (by decide) (fun c6 => ?_) (fun c6 => absurd (h01.resolve_left c1) c6)
    exact V.sub (j0) rfl ⟨rfl, rfl, trivial⟩
set_option maxRecDepth 100000 in
set_option maxHeartbeats 4000000 in
theorem f_changesIn {Y : Yt} {M : Mm} {n : Nat} (hz : M.1 1 1 = nI n) (hn : n ≤ 24) (hw : WF (cp M 1) n) : Fn Y yX6_changesIn wsX6_changesIn { frames := 4, cells := 0, slots := 0, locals := 88 } [.ref (Y.2.2.2.1 0)] M (some (.int (ciF M n 61 1))) M := by
  refine Fn.of (cc := cX6_changesIn) (ins := iX6_changesIn) (maxL := 4) (ret := (some .int)) (by decide) dX6_changesIn [some (.ref (Y.2.2.2.1 0)), none, none, none] (Nat.le_of_ble_eq_true rfl) rfl rfl ?_
  intro X hX hQ
  refine v_aload_n hX 0 0 rfl rfl rfl ?_
  refine g_6_0 hX 1  tw_192 rfl ?_
  refine v_callVN hX 0 (by decide) (cG_B isB_1) rfl (f_withdrawn isB_1 hz hn) tw_295 (List.mem_of_getElem? (i := 28) rfl) tw_40 tw_294 tw_15 (by decide +kernel) ⟨⟨rfl, rfl⟩, Nat.le_of_ble_eq_true rfl, Nat.le_of_ble_eq_true rfl⟩ rfl (Nat.le_of_ble_eq_true rfl) rfl rfl 2 rfl ?_
  rw [mk_F]
  refine v_aload_n hX 0 3 rfl rfl rfl ?_
  refine g_6_0 hX 4  tw_192 rfl ?_
  refine v_callVN hX 0 (by decide) (cG_B isB_1) rfl (f_struck isB_1 hz hn) tw_299 (List.mem_of_getElem? (i := 29) rfl) tw_40 tw_298 tw_16 (by decide +kernel) ⟨⟨rfl, rfl⟩, Nat.le_of_ble_eq_true rfl, Nat.le_of_ble_eq_true rfl⟩ rfl (Nat.le_of_ble_eq_true rfl) rfl rfl 5 rfl ?_
  rw [skA_mk hw hn]
  refine v_ior hX 6 rfl ?_
  refine v_aload_n hX 0 7 rfl rfl rfl ?_
  refine g_6_0 hX 8  tw_192 rfl ?_
  refine v_callVN hX 0 (by decide) (cG_B isB_1) rfl (f_baseless isB_1 hz hn) tw_307 (List.mem_of_getElem? (i := 41) rfl) tw_40 tw_306 tw_18 (by decide +kernel) ⟨⟨rfl, rfl⟩, Nat.le_of_ble_eq_true rfl, Nat.le_of_ble_eq_true rfl⟩ rfl (Nat.le_of_ble_eq_true rfl) rfl rfl 9 rfl ?_
  rw [mk_F]
  refine v_ior hX 10 rfl ?_
  refine v_istore_n hX 1 11 rfl rfl (Nat.le_of_ble_eq_true rfl) rfl ?_
  refine v_aload_n hX 0 12 rfl rfl rfl ?_
  refine g_6_0 hX 13  tw_192 rfl ?_
  refine v_callVN hX 0 (by decide) (cG_B isB_1) rfl (f_standing isB_1 hz hn hw) tw_287 (List.mem_of_getElem? (i := 20) rfl) tw_40 tw_286 tw_13 (by decide +kernel) ⟨⟨rfl, rfl⟩, Nat.le_of_ble_eq_true rfl, Nat.le_of_ble_eq_true rfl⟩ rfl (Nat.le_of_ble_eq_true rfl) rfl rfl 14 rfl ?_
  refine v_istore_n hX 2 15 rfl rfl (Nat.le_of_ble_eq_true rfl) rfl ?_
  refine v_iconst hX (v := 1) 16 rfl (by decide) ?_
  refine v_istore_n hX 3 17 rfl rfl (Nat.le_of_ble_eq_true rfl) rfl ?_
  have lp : ∀ (k : Nat), k ≤ 61 → ciF M n (61 - k) (k + 1) = ciF M n 61 1 → V Y X M 34 [some (.ref (Y.2.2.2.1 0)), some (.int (ciX M n)), some (.int (mk (bSd M 1 n) n)), some (.int (nI (k + 1)))] [] := by
    refine upTo 61 (fun k hk ih => ?_)
    intro he
    refine v_iload_n hX 3 18 rfl rfl rfl ?_
    refine v_bipush hX (v := 61) 19 rfl (by decide) ?_
    refine v_icmp_gt hX (tgt := 78) 20 rfl (by decide) (fun c37 => ?_) (fun c37 => ?_)
    · skip
      have hk2 : k = 61 := by have := of_lt (a := 61) c37 (by omega) (by omega); omega
      subst hk2
      have he2 : (-6 : Int32) = ciF M n 61 1 := he
      refine v_bipush hX (v := (-6)) 41 rfl (by decide) ?_
      refine v_iret hX hQ rfl rfl ?_ ?_ 42 rfl
      · rw [he2]
      · rfl
    · skip
      have hk2 : k < 61 := by have := of_nlt (a := 61) c37 (by omega) (by omega); omega
      obtain ⟨f, hf⟩ : ∃ f, 61 - k = f + 1 := ⟨60 - k, by omega⟩
      rw [hf, ciF] at he
      refine v_aload_n hX 0 21 rfl rfl rfl ?_
      refine g_6_0 hX 22  tw_192 rfl ?_
      refine v_iload_n hX 1 23 rfl rfl rfl ?_
      refine v_aload_n hX 0 24 rfl rfl rfl ?_
      refine g_6_0 hX 25  tw_192 rfl ?_
      refine v_aload_n hX 0 26 rfl rfl rfl ?_
      refine g_6_0 hX 27  tw_192 rfl ?_
      refine gN_0_2 hX 28 isB_1 (List.mem_of_getElem? (i := 14) rfl) rfl ?_
      refine v_iload_n hX 3 29 rfl rfl rfl ?_
      refine v_iadd hX 30 rfl ?_
      refine v_callVN hX 1 (by decide) (cG_B isB_1) rfl (f_lapsedOn isB_1 hz hn) tw_303 (List.mem_of_getElem? (i := 42) rfl) tw_40 tw_302 tw_17 (by decide +kernel) ⟨⟨rfl, rfl⟩, Nat.le_of_ble_eq_true rfl, Nat.le_of_ble_eq_true rfl⟩ rfl (Nat.le_of_ble_eq_true rfl) rfl rfl 31 rfl ?_
      rw [mk_F]
      refine v_ior hX 32 rfl ?_
      refine v_iconst hX (v := 0) 33 rfl (by decide) ?_
      refine v_callVN hX 2 (by decide) (cG_B isB_1) rfl (f_standingIf isB_1 hz hn hw) tw_311 (List.mem_of_getElem? (i := 32) rfl) tw_40 tw_310 tw_19 (by decide +kernel) ⟨⟨rfl, rfl⟩, Nat.le_of_ble_eq_true rfl, Nat.le_of_ble_eq_true rfl⟩ rfl (Nat.le_of_ble_eq_true rfl) rfl rfl 34 rfl ?_
      show V Y X M _ _ (.int (ciS M n (k + 1)) :: _)
      refine v_iload_n hX 2 35 rfl rfl rfl ?_
      refine v_icmp_eq hX (tgt := 72) 36 rfl (by decide) (fun c67 => ?_) (fun c67 => ?_)
      · skip
        rw [if_pos c67] at he
        refine v_iinc hX 39 rfl rfl (nI_inc (k + 1)) (Nat.le_of_ble_eq_true rfl) rfl ?_
        refine v_goto hX (tgt := 34) 40 rfl (by decide) ?_
        exact V.sub (ih hk2 (by rw [show 61 - (k + 1) = f by omega]; exact he)) rfl ⟨rfl, rfl, rfl, rfl, trivial⟩
      · skip
        rw [if_neg c67] at he
        refine v_iload_n hX 3 37 rfl rfl rfl ?_
        refine v_iret hX hQ rfl rfl ?_ ?_ 38 rfl
        · rw [he]
        · rfl
  exact V.sub (lp 0 (Nat.zero_le _) rfl) rfl ⟨rfl, rfl, rfl, rfl, trivial⟩
set_option maxRecDepth 100000 in
set_option maxHeartbeats 4000000 in
theorem f_leastPages {Y : Yt} {M : Mm} {n : Nat} (hz : M.1 1 1 = nI n) (hn : n ≤ 24) (hw : WF (cp M 1) n) : Fn Y yX6_leastPages wsX6_leastPages { frames := 2, cells := 0, slots := 0, locals := 46 } [.ref (Y.2.2.2.1 0)] M (some (.int (lpR M n))) M := by
  refine Fn.of (cc := cX6_leastPages) (ins := iX6_leastPages) (maxL := 3) (ret := (some .int)) (by decide) dX6_leastPages [some (.ref (Y.2.2.2.1 0)), none, none] (Nat.le_of_ble_eq_true rfl) rfl rfl ?_
  intro X hX hQ
  refine v_aload_n hX 0 0 rfl rfl rfl ?_
  refine g_6_0 hX 1  tw_192 rfl ?_
  refine v_callVN hX 0 (by decide) (cG_B isB_1) rfl (f_withdrawn isB_1 hz hn) tw_295 (List.mem_of_getElem? (i := 28) rfl) tw_40 tw_294 tw_15 (by decide +kernel) ⟨⟨rfl, rfl⟩, Nat.le_of_ble_eq_true rfl, Nat.le_of_ble_eq_true rfl⟩ rfl (Nat.le_of_ble_eq_true rfl) rfl rfl 2 rfl ?_
  rw [mk_F]
  refine v_istore_n hX 1 3 rfl rfl (Nat.le_of_ble_eq_true rfl) rfl ?_
  refine v_iconst hX (v := 1) 4 rfl (by decide) ?_
  refine v_aload_n hX 0 5 rfl rfl rfl ?_
  refine g_6_0 hX 6  tw_192 rfl ?_
  refine v_iconst hX (v := 0) 7 rfl (by decide) ?_
  refine v_iload_n hX 1 8 rfl rfl rfl ?_
  refine v_callVN hX 2 (by decide) (cG_B isB_1) rfl (f_pagesOf isB_1 hz hn) tw_414 (List.mem_of_getElem? (i := 30) rfl) tw_40 tw_413 tw_31 (by decide +kernel) ⟨⟨rfl, rfl⟩, Nat.le_of_ble_eq_true rfl, Nat.le_of_ble_eq_true rfl⟩ rfl (Nat.le_of_ble_eq_true rfl) rfl rfl 9 rfl ?_
  refine v_aload_n hX 0 10 rfl rfl rfl ?_
  refine g_6_0 hX 11  tw_192 rfl ?_
  refine v_iconst hX (v := 1) 12 rfl (by decide) ?_
  refine v_iload_n hX 1 13 rfl rfl rfl ?_
  refine v_callVN hX 2 (by decide) (cG_B isB_1) rfl (f_pagesOf isB_1 hz hn) tw_414 (List.mem_of_getElem? (i := 30) rfl) tw_40 tw_413 tw_31 (by decide +kernel) ⟨⟨rfl, rfl⟩, Nat.le_of_ble_eq_true rfl, Nat.le_of_ble_eq_true rfl⟩ rfl (Nat.le_of_ble_eq_true rfl) rfl rfl 14 rfl ?_
  refine v_mmax hX tw_494 tw_495 tw_47 tw_496 (Nat.le_of_ble_eq_true rfl) (Nat.le_of_ble_eq_true rfl) rfl 15 rfl ?_
  refine v_mmax hX tw_494 tw_495 tw_47 tw_496 (Nat.le_of_ble_eq_true rfl) (Nat.le_of_ble_eq_true rfl) rfl 16 rfl ?_
  show V Y X M _ _ (.int (lpN M n) :: _)
  refine v_istore_n hX 2 17 rfl rfl (Nat.le_of_ble_eq_true rfl) rfl ?_
  refine v_iload_n hX 2 18 rfl rfl rfl ?_
  refine v_bipush hX (v := 99) 19 rfl (by decide) ?_
  refine v_icmp_le hX (tgt := 45) 20 rfl (by decide) (fun c37 => ?_) (fun c37 => ?_)
  · skip
    refine v_iload_n hX 2 23 rfl rfl rfl ?_
    refine v_iret hX hQ rfl rfl ?_ ?_ 24 rfl
    · simp only [lpR, c37, if_true, if_false]
    · rfl
  · skip
    refine v_bipush hX (v := (-6)) 21 rfl (by decide) ?_
    refine v_goto hX (tgt := 46) 22 rfl (by decide) ?_
    refine v_iret hX hQ rfl rfl ?_ ?_ 24 rfl
    · simp only [lpR, c37, if_true, if_false]
    · rfl
end
section
theorem snE_le {x : Int64} {k : Nat} (hk : k ≤ 8) : ∃ g, g ≤ 8 ∧ snE x k = nI g := by
  unfold snE
  split
  · exact ⟨0, by omega, rfl⟩
  · exact ⟨k, hk, rfl⟩
theorem snL_le {x : Int64} : ∀ f k, k + f ≤ 8 → ∃ g, g ≤ 8 ∧ snL x f k = nI g := by
  intro f
  induction f with
  | zero => intro k hk; exact snE_le (by omega)
  | succ f ih =>
    intro k hk
    rw [snL]
    split
    · exact snE_le (by omega)
    split
    · exact ⟨0, by omega, rfl⟩
    · exact ih (k + 1) (by omega)
theorem sgn_nar (x : Int64) (p : Int32) : vp_nar .char (sgn x p) = sgn x p := pk_vc _
def apR (M : Mm) (x : Int64) (l g t : Nat) : Nat → Int32 := fun j => if l ≤ j ∧ j < l + t then sgn x (nI (g - 1 - (j - l))) else M.1 31 j
def apM (M : Mm) (x : Int64) (l g t : Nat) : Mm := mset (mrow M 31 (apR M x l g t)) 30 1 (nI (l + t))
theorem apM_0 {M : Mm} {x : Int64} {l g : Nat} (h : M.1 30 1 = nI l) : apM M x l g 0 = M := by
  refine Prod.ext (funext fun k => ?_) rfl
  unfold apM
  by_cases e : k = 30
  · subst e
    rw [mset_s, mrow_n (by decide)]
    funext j
    unfold upd
    by_cases q : j = 1
    · subst q; rw [if_pos rfl, h]
      rfl
    · rw [if_neg q]
  · rw [mset_n e]
    by_cases e2 : k = 31
    · subst e2
      rw [mrow_s]
      funext j
      unfold apR
      rw [if_neg (by omega)]
    · rw [mrow_n e2]
theorem apM_s {M : Mm} {x : Int64} {l g t : Nat} (ht : t < g) : mset (mset (apM M x l g t) 31 (l + t) (sgn x (nI (g - 1 - t)))) 30 1 (nI (l + t + 1)) = apM M x l g (t + 1) := by
  refine Prod.ext (funext fun k => ?_) rfl
  unfold apM
  by_cases e : k = 30
  · subst e
    rw [mset_s, mset_n (by decide), mset_s, mset_s, mrow_n (by decide), mrow_n (by decide)]
    funext j
    unfold upd
    by_cases q : j = 1
    · subst q; rfl
    · simp [q]
  · rw [mset_n e, mset_n e]
    by_cases e2 : k = 31
    · subst e2
      rw [mset_s, mset_n (by decide), mrow_s, mrow_s]
      funext j
      unfold upd apR
      by_cases q : j = l + t
      · subst q
        rw [if_pos rfl, if_pos (by omega)]
        congr 2
        omega
      · rw [if_neg q]
        by_cases q2 : l ≤ j ∧ j < l + t
        · rw [if_pos q2, if_pos (by omega)]
        · rw [if_neg q2, if_neg (by omega)]
    · rw [mset_n e2, mset_n e, mrow_n e2, mrow_n e2]
theorem apM_30 {M : Mm} {x : Int64} {l g t : Nat} : (apM M x l g t).1 30 1 = nI (l + t) := by unfold apM; rw [mset_s, upd_s]
def foR (M : Mm) (n : Nat) : Int32 :=
  if M.1 32 2 = 99 then fcR n (M.1 32 3) (M.1 32 4) (M.1 32 5)
  else if M.1 32 2 = 97 then (if ¬ M.1 32 3 < 0 ∧ ¬ nI n ≤ M.1 32 3 then faR M 1 n (M.1 32 3).toNatClampNeg (M.1 32 4) (M.1 32 5) else -1)
  else if M.1 32 2 = 119 then (if ¬ M.1 32 3 < 0 ∧ ¬ nI n ≤ M.1 32 3 then tbR M 1 n (M.1 32 3).toNatClampNeg else -1)
  else if M.1 32 2 = 114 then (if ¬ M.1 32 3 < 0 ∧ ¬ nI n ≤ M.1 32 3 then prR M 1 (M.1 32 3).toNatClampNeg else -1)
  else if M.1 32 2 = 116 then moR M 1 n (M.1 32 3)
  else if M.1 32 2 = 111 then tcR M 1 (M.1 32 3)
  else -3
def foM (M : Mm) (n : Nat) : Mm :=
  if M.1 32 2 = 99 then fcM M 1 n (M.1 32 3) (M.1 32 4) (M.1 32 5)
  else if M.1 32 2 = 97 then (if ¬ M.1 32 3 < 0 ∧ ¬ nI n ≤ M.1 32 3 then faM M 1 n (M.1 32 3).toNatClampNeg (M.1 32 4) (M.1 32 5) else M)
  else if M.1 32 2 = 119 then (if ¬ M.1 32 3 < 0 ∧ ¬ nI n ≤ M.1 32 3 then tbM M 1 (M.1 32 3).toNatClampNeg else M)
  else if M.1 32 2 = 114 then (if ¬ M.1 32 3 < 0 ∧ ¬ nI n ≤ M.1 32 3 then prM M 1 (M.1 32 3).toNatClampNeg else M)
  else if M.1 32 2 = 116 then moM M 1 (M.1 32 3)
  else if M.1 32 2 = 111 then tcM M 1 (M.1 32 3)
  else M
theorem ix_in {n j : Nat} (hj : j < n) (hn : n ≤ 24) : ¬ nI j < 0 ∧ ¬ nI n ≤ nI j := ⟨nI_nlt (Nat.zero_le _) (by omega), nI_ge hj (by omega)⟩

def PB (M : Mm) (n : Nat) : Prop := M.1 1 1 = nI n ∧ n ≤ 24 ∧ WF (cp M 1) n
theorem WF_ext {P P' : Nat → Nat → Int32} {n : Nat} (h : ∀ i, i < n → P i 0 = P' i 0 ∧ P i 3 = P' i 3 ∧ P i 6 = P' i 6) (hw : WF P n) : WF P' n := by
  intro i hi
  obtain ⟨h0, h3, h6⟩ := h i hi
  rw [← h0, ← h3, ← h6]
  exact hw i hi
theorem PB.row {M : Mm} {n k j : Nat} {v : Int32} (hk : k = 1) (hj : j ≠ 1) (h : PB M n) : PB (mset M k j v) n := by
  subst hk
  exact ⟨by rw [mset_s, upd_n hj.symm]; exact h.1, h.2.1, by rw [cp_mset_b]; exact h.2.2⟩
theorem PB.pt {M : Mm} {n i j : Nat} {v : Int32} (hj : j ≠ 0 ∧ j ≠ 3) (hv : j = 6 → v = 0 ∨ v = 1) (h : PB M n) : PB (mset M (1 + 2 + i) j v) n := by
  refine ⟨by rw [mset_n (by omega)]; exact h.1, h.2.1, ?_⟩
  rw [cp_mset_p]
  intro k hk
  obtain ⟨h1, h2, h3⟩ := h.2.2 k hk
  dsimp only
  refine ⟨by rw [if_neg (by omega)]; exact h1, by rw [if_neg (by omega)]; exact h2, ?_⟩
  by_cases g : k = i ∧ 6 = j
  · rw [if_pos g]; exact hv g.2.symm
  · rw [if_neg g]; exact h3
theorem PB.out {M : Mm} {n k : Nat} {f : Nat → Int32} (hk : 27 ≤ k) (h : PB M n) : PB (mrow M k f) n := by
  refine ⟨by rw [mrow_n (by omega)]; exact h.1, h.2.1, WF_ext (fun i hi => ?_) h.2.2⟩
  have e : cp (mrow M k f) 1 i = cp M 1 i := by funext j; unfold cp; rw [mrow_n (by have := h.2.1; omega)]
  rw [e]
  exact ⟨rfl, rfl, rfl⟩
theorem fileM_cp {M : Mm} {n i : Nat} {s p c t : Int32} (hi : i < n) : cp (fileM M 1 n s p c t) 1 i = cp M 1 i := by
  funext j
  unfold cp fileM
  rw [mset_n (by omega), mset_n (by omega), mset_n (by omega), mset_n (by omega), mset_n (by omega), mset_n (by omega), mset_n (by omega), mset_n (by omega)]
theorem fileM_new {M : Mm} {n : Nat} {s p c t : Int32} : cp (fileM M 1 n s p c t) 1 n 0 = s ∧ cp (fileM M 1 n s p c t) 1 n 1 = p ∧ cp (fileM M 1 n s p c t) 1 n 2 = c ∧ cp (fileM M 1 n s p c t) 1 n 3 = t ∧ cp (fileM M 1 n s p c t) 1 n 4 = M.1 1 2 ∧ cp (fileM M 1 n s p c t) 1 n 5 = M.1 1 2 ∧ cp (fileM M 1 n s p c t) 1 n 6 = 0 := by
  unfold cp fileM
  simp only [mset_n (show 1 + 2 + n ≠ 1 by omega), mset_s]
  refine ⟨?_, ?_, ?_, ?_, ?_, ?_, ?_⟩ <;> simp [upd]
theorem fileM_1 {M : Mm} {n : Nat} {s p c t : Int32} : (fileM M 1 n s p c t).1 1 = upd (M.1 1) 1 (nI (n + 1)) := by
  unfold fileM
  simp only [mset_s, mset_n (show 1 ≠ 1 + 2 + n by omega)]
theorem fileM_PB {M : Mm} {n : Nat} {s p c t : Int32} (h : PB M n) (hn : n < 24) (hs : s = 0 ∨ s = 1) (ht : t = -6 ∨ ∃ i, i < n ∧ t = nI i) : PB (fileM M 1 n s p c t) (n + 1) := by
  refine ⟨by rw [fileM_1, upd_s], by omega, ?_⟩
  intro i hi
  by_cases e : i = n
  · subst e
    have q := fileM_new (M := M) (n := i) (s := s) (p := p) (c := c) (t := t)
    rw [q.1, q.2.2.2.1, q.2.2.2.2.2.2]
    exact ⟨hs, ht, Or.inl rfl⟩
  · rw [fileM_cp (by omega)]
    exact h.2.2 i (by omega)
theorem side_01 {s : Int32} (h0 : ¬ s < 0) (h1 : ¬ 1 < s) : s = 0 ∨ s = 1 := by
  rcases sw_cases s 2 (by decide) with ⟨j, hj, e⟩ | h
  · have : j = 0 ∨ j = 1 := by omega
    rcases this with rfl | rfl
    · exact Or.inl e
    · exact Or.inr e
  · exfalso
    rw [Int32.lt_iff_toInt_lt] at h0 h1
    have e0 : (0 : Int32).toInt = 0 := rfl
    have e1 : (1 : Int32).toInt = 1 := rfl
    rw [e0] at h0
    rw [e1] at h1
    omega
theorem sub_01 {s : Int32} (h : s = 0 ∨ s = 1) : 1 - s = 0 ∨ 1 - s = 1 := by rcases h with rfl | rfl; exact Or.inr rfl; exact Or.inl rfl
theorem fcM_PB {M : Mm} {n : Nat} {s p c : Int32} (h : PB M n) : ∃ n', PB (fcM M 1 n s p c) n' := by
  unfold fcM
  split
  · exact ⟨n, h⟩
  split
  · rename_i g g2
    exact ⟨n + 1, fileM_PB h g2 (side_01 (fun q => g (Or.inl q)) (fun q => g (Or.inr (Or.inl q)))) (Or.inl rfl)⟩
  · exact ⟨n, h⟩
theorem faM_PB {M : Mm} {n i : Nat} {p c : Int32} (h : PB M n) (hi : i < n) : ∃ n', PB (faM M 1 n i p c) n' := by
  unfold faM
  split
  · exact ⟨n, h⟩
  split
  · rename_i g g2
    split
    · exact ⟨n + 1, fileM_PB h g2 (sub_01 (h.2.2 i hi).1) (Or.inr ⟨i, hi, rfl⟩)⟩
    · exact ⟨n, h⟩
  · exact ⟨n, h⟩
theorem tbM_PB {M : Mm} {n i : Nat} (h : PB M n) : PB (tbM M 1 i) n := by
  unfold tbM
  split
  · exact h.pt (by decide) (fun _ => Or.inr rfl)
  · exact h
theorem prM_PB {M : Mm} {n i : Nat} (h : PB M n) : PB (prM M 1 i) n := by
  unfold prM
  split
  · exact h
  · exact h.pt (by decide) (fun q => absurd q (by decide))
theorem tcM_PB {M : Mm} {n : Nat} {w : Int32} (h : PB M n) : PB (tcM M 1 w) n := by
  unfold tcM
  split
  · exact h
  · exact h.row rfl (by decide)
theorem moM_PB {M : Mm} {n : Nat} {d : Int32} (h : PB M n) : PB (moM M 1 d) n := by
  unfold moM
  split
  · exact h
  split
  · exact h.row rfl (by decide)
  · exact h
theorem ix_of {x : Int32} {n : Nat} (hn : n ≤ 24) (h : ¬ x < 0 ∧ ¬ nI n ≤ x) : ∃ j, j < n ∧ x = nI j ∧ x.toNatClampNeg = j := by
  rcases pk_ix x (show n < 2 ^ 31 by omega) with g | g | ⟨j, h1, h2⟩
  · exact absurd g h.1
  · exact absurd g h.2
  · exact ⟨j, h1, h2, by rw [h2, nI_clamp (by omega)]⟩
theorem foM_PB {M : Mm} {n : Nat} (h : PB M n) : ∃ n', PB (foM M n) n' := by
  unfold foM
  split
  · exact fcM_PB h
  split
  · split
    · rename_i g
      obtain ⟨j, h1, h2, h3⟩ := ix_of h.2.1 g
      rw [h3]
      exact faM_PB h h1
    · exact ⟨n, h⟩
  split
  · split
    · exact ⟨n, tbM_PB h⟩
    · exact ⟨n, h⟩
  split
  · split
    · exact ⟨n, prM_PB h⟩
    · exact ⟨n, h⟩
  split
  · exact ⟨n, moM_PB h⟩
  split
  · exact ⟨n, tcM_PB h⟩
  · exact ⟨n, h⟩
theorem foM_fr {M : Mm} {n : Nat} (hn : n ≤ 24) : Fr M (foM M n) := by
  unfold foM
  split
  · exact fcM_fr
  split
  · split
    · exact faM_fr
    · exact Fr.rf
  split
  · split
    · rename_i g
      obtain ⟨j, h1, h2, h3⟩ := ix_of hn g
      rw [h3]
      exact tbM_fr (by omega)
    · exact Fr.rf
  split
  · split
    · rename_i g
      obtain ⟨j, h1, h2, h3⟩ := ix_of hn g
      rw [h3]
      exact prM_fr (by omega)
    · exact Fr.rf
  split
  · exact moM_fr
  split
  · exact tcM_fr
  · exact Fr.rf
def nOf (M : Mm) : Nat := (M.1 1 1).toNatClampNeg
theorem nOf_eq {M : Mm} {n : Nat} (h : PB M n) : nOf M = n := by unfold nOf; rw [h.1, nI_clamp (by have := h.2.1; omega)]
def coL (s : Nat → Int32) (l : Nat) : Nat → Nat → Nat → Mm → Nat × Mm
  | 0, d, _, M => (d, M)
  | f + 1, d, a, M => if (ror s l a (M.1 32)).1 = 0 then (d, mrow M 32 (ror s l a (M.1 32)).2.2) else if foR (mrow M 32 (ror s l a (M.1 32)).2.2) (nOf M) < 0 then (d, foM (mrow M 32 (ror s l a (M.1 32)).2.2) (nOf M)) else coL s l f (d + 1) (tkc s l 59 (ror s l a (M.1 32)).2.1 (ror s l a (M.1 32)).2.2).2.1 (mrow (foM (mrow M 32 (ror s l a (M.1 32)).2.2) (nOf M)) 32 (tkc s l 59 (ror s l a (M.1 32)).2.1 (ror s l a (M.1 32)).2.2).2.2)
theorem RdOK.fr {M M' : Mm} {s : Nat → Int32} {l : Nat} (h : RdOK M s l) (g : Fr M M') : RdOK M' s l := by
  obtain ⟨h1, h2, h3, h4⟩ := h
  exact ⟨by rw [g.2 31 (by decide)]; exact h1, by rw [g.2 30 (by decide)]; exact h2, h3, fun j hj => by rw [g.2 31 (by decide)]; exact h4 j hj⟩
theorem cpB_row {M : Mm} {c n : Nat} {f : Nat → Int32} (hc : isB c) (h : c ≠ 1) (hn : n ≤ 24) : cpB (mrow M 32 f) c 1 n = mrow (cpB M c 1 n) 32 f := by
  have h0 := isB_no hc (show 0 < 26 by decide)
  have h1 := isB_lt hc
  have h2 := isB_cases hc
  refine Prod.ext (funext fun k => ?_) rfl
  by_cases e : k = 32
  · subst e
    rw [mrow_s, cpB_out (by omega) (by omega), mrow_s]
  · rw [mrow_n e]
    unfold cpB
    show (if k = c then _ else if c + 2 ≤ k ∧ k < c + 2 + n then _ else _) = (if k = c then _ else if c + 2 ≤ k ∧ k < c + 2 + n then _ else _)
    split
    · rename_i g
      rw [mrow_n (show 1 ≠ 32 by decide), mrow_n (show c ≠ 32 by omega)]
    split
    · rename_i g g2
      rw [mrow_n (show 1 + (k - c) ≠ 32 by omega), mrow_n e]
    · rw [mrow_n e]
end
section
theorem zero_or (x : Int32) : x ||| 0 = x := Int32.or_zero
def nv (q : Nat → Bool) : Nat → Nat
  | 0 => 0
  | n + 1 => nv q n + (if q n = true then 2 ^ n else 0)
theorem nv_lt (q : Nat → Bool) (n : Nat) : nv q n < 2 ^ n := by
  induction n with
  | zero => exact Nat.one_pos
  | succ n ih =>
    rw [nv, Nat.pow_succ]
    split <;> omega
theorem nv_bit (q : Nat → Bool) (n i : Nat) : (nv q n).testBit i = (decide (i < n) && q i) := by
  induction n with
  | zero => simp [nv]
  | succ n ih =>
    rw [nv]
    split
    · rename_i h
      rw [Nat.add_comm]
      rcases Nat.lt_trichotomy i n with g | g | g
      · rw [Nat.testBit_two_pow_add_gt g, ih]
        simp [g, Nat.lt_succ_of_lt g]
      · subst g
        rw [Nat.testBit_two_pow_add_eq, ih]
        simp [h]
      · have hlt : 2 ^ n + nv q n < 2 ^ i := by
          have h1 := nv_lt q n
          have h2 : 2 ^ (n + 1) ≤ 2 ^ i := Nat.pow_le_pow_right (by decide) g
          rw [Nat.pow_succ] at h2
          omega
        rw [Nat.testBit_lt_two_pow hlt]
        have : ¬ i < n + 1 := by omega
        simp [this]
    · rename_i h
      rw [Nat.add_zero, ih]
      by_cases g : i = n
      · subst g
        have : q i = false := by cases e : q i; rfl; exact absurd e h
        simp [this]
      · have e : decide (i < n + 1) = decide (i < n) := by by_cases g2 : i < n <;> simp [g2] <;> omega
        rw [e]
theorem bt_nI (v i : Nat) (hi : i < 32) : bt (nI v) i = v.testBit i := by
  unfold bt
  show (BitVec.ofNat 32 v).getLsbD i = _
  rw [BitVec.getLsbD_ofNat]
  simp [hi]
theorem mk_nv (q : Nat → Bool) {n : Nat} (hn : n ≤ 32) : mk q n = nI (nv q n) := by
  apply b_ext
  intro i hi
  rw [bt_mk q hn hi, bt_nI _ _ hi, nv_bit]
theorem nv_low {q : Nat → Bool} {n m : Nat} (hm : m < n) (hq : q m = true) (hl : ∀ i, i < m → q i = false) : nv q n = 2 ^ (m + 1) * (nv q n / 2 ^ (m + 1)) + 2 ^ m := by
  have h : nv q n % 2 ^ (m + 1) = 2 ^ m := by
    apply Nat.eq_of_testBit_eq
    intro i
    rw [Nat.testBit_mod_two_pow, nv_bit, Nat.testBit_two_pow]
    rcases Nat.lt_trichotomy i m with g | g | g
    · have h1 : ¬ m = i := by omega
      rw [hl i g]; simp [h1]
    · subst g; simp [hm, hq]
    · have h1 : ¬ m = i := by omega
      have h2 : ¬ i < m + 1 := by omega
      simp [h1, h2]
  have h2 := Nat.div_add_mod (nv q n) (2 ^ (m + 1))
  rw [h] at h2
  exact h2.symm
theorem mk_step {q : Nat → Bool} {n m : Nat} (hn : n ≤ 24) (hm : m < n) (hq : q m = true) (hl : ∀ i, i < m → q i = false) : mk q n &&& (mk q n - 1) = mk (fun i => q i && !decide (i = m)) n := by
  have hv := nv_low hm hq hl
  have hp : 0 < 2 ^ m := Nat.two_pow_pos m
  have hv1 : nv q n - 1 = 2 ^ (m + 1) * (nv q n / 2 ^ (m + 1)) + (2 ^ m - 1) := by omega
  have hlt : 2 ^ m < 2 ^ (m + 1) := by rw [Nat.pow_succ]; omega
  rw [mk_nv q (by omega)]
  have e1 : nI (nv q n) - 1 = nI (nv q n - 1) := by
    obtain ⟨w, hw⟩ : ∃ w, nv q n = w + 1 := ⟨nv q n - 1, by omega⟩
    rw [hw, nI_pred]
    rfl
  rw [e1]
  apply b_ext
  intro i hi
  rw [b_and, bt_nI _ _ hi, bt_nI _ _ hi, bt_mk _ (by omega) hi, nv_bit]
  rcases Nat.lt_trichotomy i m with g | g | g
  · rw [hl i g]; simp
  · subst g
    have : (nv q n - 1).testBit i = false := by
      rw [hv1, Nat.testBit_two_pow_mul_add _ (by omega), if_pos (by omega), Nat.testBit_two_pow_sub_one]
      simp
    rw [this]; simp
  · have h2 : (nv q n - 1).testBit i = (nv q n).testBit i := by
      rw [hv1]
      conv => rhs; rw [hv]
      rw [Nat.testBit_two_pow_mul_add _ (by omega), Nat.testBit_two_pow_mul_add _ hlt, if_neg (by omega), if_neg (by omega)]
    have h3 : ¬ i = m := by omega
    rw [h2, nv_bit]
    simp [h3]
theorem cnt_congr {p q : Nat → Bool} {n : Nat} (h : ∀ i, i < n → p i = q i) : cnt p n = cnt q n := by
  induction n with
  | zero => rfl
  | succ n ih => rw [cnt, cnt, ih (fun i hi => h i (by omega)), h n (by omega)]
theorem cnt_rm {q : Nat → Bool} {n m : Nat} (hm : m < n) (hq : q m = true) : cnt q n = cnt (fun i => q i && !decide (i = m)) n + 1 := by
  induction n with
  | zero => omega
  | succ n ih =>
    rw [cnt, cnt]
    by_cases e : n = m
    · subst e
      rw [cnt_congr (q := q) (p := fun i => q i && !decide (i = n)) (fun i hi => by have : ¬ i = n := by omega
                                                                                    simp [this])]
      simp [hq]
    · rw [ih (by omega)]
      simp [e]
      omega
theorem cnt_0 {q : Nat → Bool} {n : Nat} (h : mk q n = 0) (hn : n ≤ 24) : cnt q n = 0 := by
  have hq : ∀ i, i < n → q i = false := by
    intro i hi
    have h1 := bt_mk q (show n ≤ 32 by omega) (show i < 32 by omega)
    rw [h, b_0] at h1
    simpa [hi] using h1.symm
  clear h
  induction n with
  | zero => rfl
  | succ n ih => rw [cnt, ih (by omega) (fun i hi => hq i (by omega)), hq n (by omega)]; rfl
theorem ex_low {q : Nat → Bool} {n : Nat} (hn : n ≤ 24) (h : ¬ mk q n = 0) : ∃ m, m < n ∧ q m = true ∧ ∀ i, i < m → q i = false := by
  induction n with
  | zero => exact absurd rfl h
  | succ n ih =>
    by_cases g : mk q n = 0
    · have hq : ∀ i, i < n → q i = false := by
        intro i hi
        have h1 := bt_mk q (show n ≤ 32 by omega) (show i < 32 by omega)
        rw [g, b_0] at h1
        simpa [hi] using h1.symm
      refine ⟨n, by omega, ?_, hq⟩
      cases e : q n
      · exfalso
        rw [mk, g, if_neg (by rw [e]; decide)] at h
        exact h rfl
      · rfl
    · obtain ⟨m, h1, h2, h3⟩ := ih (by omega) g
      exact ⟨m, by omega, h2, h3⟩
theorem cnt_le (q : Nat → Bool) (n : Nat) : cnt q n ≤ n := by
  induction n with
  | zero => exact Nat.le_refl 0
  | succ n ih => rw [cnt]; split <;> omega
theorem and_cat {A m : Nat} (R N : Nat) (hA : A < 256) (hm : m < 256) : (A + 256 * R) &&& (m + 256 * N) = (A &&& m) + 256 * (R &&& N) := by
  apply Nat.eq_of_testBit_eq
  intro i
  have e : ∀ a r : Nat, a < 2 ^ 8 → (a + 256 * r).testBit i = if i < 8 then a.testBit i else r.testBit (i - 8) := by
    intro a r ha
    rw [Nat.add_comm]
    exact Nat.testBit_two_pow_mul_add r ha i
  rw [Nat.testBit_and, e A R hA, e m N hm, e (A &&& m) (R &&& N) (Nat.and_lt_two_pow A hm)]
  split <;> rw [Nat.testBit_and]
theorem nx_and (a b : Nat) : nI a &&& nI b = nI (a &&& b) := by
  apply Int32.toBitVec_inj.1
  show BitVec.ofNat 32 a &&& BitVec.ofNat 32 b = BitVec.ofNat 32 (a &&& b)
  apply BitVec.eq_of_getLsbD_eq
  intro i hi
  simp [hi]
theorem bb1 : ∀ A, A < 256 → ∀ r, r < 2 → (A / 2 + 128 * r) &&& 85 = A / 2 &&& 85 ∧ A / 2 &&& 85 ≤ A := by decide +kernel
theorem bb2 : ∀ A, A < 256 → ∀ r, r < 4 → (A / 4 + 64 * r) &&& 51 = A / 4 &&& 51 := by decide +kernel
theorem bb3 : ∀ A, A < 69 → ∀ r, r < 5 → (A + A / 16 + 16 * r) &&& 15 = (A + A / 16) &&& 15 ∧ A + A / 16 + 16 * r < 256 := by decide +kernel
def s1 (A : Nat) : Nat := A - (A / 2 &&& 85)
def s2 (A : Nat) : Nat := (A &&& 51) + (A / 4 &&& 51)
def s3 (A : Nat) : Nat := (A + A / 16) &&& 15
theorem sb2 : ∀ A, A < 256 → s1 A < 256 ∧ s2 (s1 A) < 69 ∧ s2 (s1 A) % 16 < 5 ∧ s3 (s2 (s1 A)) = cnt (fun i => A.testBit i) 8 := by decide +kernel
theorem S1c {A R N : Nat} (hA : A < 256) : (A + 256 * R) - ((A + 256 * R) / 2 &&& (85 + 256 * N)) = s1 A + 256 * (R - (R / 2 &&& N)) := by
  have e : (A + 256 * R) / 2 = (A / 2 + 128 * (R % 2)) + 256 * (R / 2) := by omega
  have h := bb1 A hA (R % 2) (by omega)
  have h2 : R / 2 &&& N ≤ R := Nat.le_trans Nat.and_le_left (Nat.div_le_self R 2)
  rw [e, and_cat _ _ (by omega) (by decide), h.1]
  unfold s1
  omega
theorem S2c {A R N : Nat} (hA : A < 256) : ((A + 256 * R) &&& (51 + 256 * N)) + ((A + 256 * R) / 4 &&& (51 + 256 * N)) = s2 A + 256 * ((R &&& N) + (R / 4 &&& N)) := by
  have e : (A + 256 * R) / 4 = (A / 4 + 64 * (R % 4)) + 256 * (R / 4) := by omega
  rw [e, and_cat _ _ hA (by decide), and_cat _ _ (by omega) (by decide), bb2 A hA (R % 4) (by omega)]
  unfold s2
  omega
theorem S3c {A R N : Nat} (hA : A < 69) (hR : R % 16 < 5) : ((A + 256 * R) + (A + 256 * R) / 16) &&& (15 + 256 * N) = s3 A + 256 * ((R + R / 16) &&& N) := by
  have e : (A + 256 * R) + (A + 256 * R) / 16 = (A + A / 16 + 16 * (R % 16)) + 256 * (R + R / 16) := by omega
  have h := bb3 A hA (R % 16) hR
  rw [e, and_cat _ _ h.2 (by decide), h.1]
  rfl
def bcN (x : Nat) : Nat :=
  let y := x - (x / 2 &&& 1431655765)
  let z := (y &&& 858993459) + (y / 4 &&& 858993459)
  let w := (z + z / 16) &&& 252645135
  let t := w + w / 256
  (t + t / 65536) &&& 63
theorem bcN_3 {A B C : Nat} (hA : A < 256) (hB : B < 256) (hC : C < 256) : bcN (A + 256 * (B + 256 * C)) = cnt (fun i => A.testBit i) 8 + cnt (fun i => B.testBit i) 8 + cnt (fun i => C.testBit i) 8 := by
  have a := sb2 A hA
  have b := sb2 B hB
  have c := sb2 C hC
  have la := cnt_le (fun i => A.testBit i) 8
  have lb := cnt_le (fun i => B.testBit i) 8
  have lc := cnt_le (fun i => C.testBit i) 8
  have y : (A + 256 * (B + 256 * C)) - ((A + 256 * (B + 256 * C)) / 2 &&& 1431655765) = s1 A + 256 * (s1 B + 256 * (s1 C + 256 * 0)) := by
    have h3 := S1c (A := C) (R := 0) (N := 85) hC
    rw [show (0 : Nat) - (0 / 2 &&& 85) = 0 by decide, Nat.mul_zero, Nat.add_zero] at h3
    rw [show (1431655765 : Nat) = 85 + 256 * (85 + 256 * (85 + 256 * 85)) by decide, S1c hA, S1c hB, h3]
  have z : ((s1 A + 256 * (s1 B + 256 * (s1 C + 256 * 0))) &&& 858993459) + ((s1 A + 256 * (s1 B + 256 * (s1 C + 256 * 0))) / 4 &&& 858993459) = s2 (s1 A) + 256 * (s2 (s1 B) + 256 * (s2 (s1 C) + 256 * 0)) := by
    rw [show (858993459 : Nat) = 51 + 256 * (51 + 256 * (51 + 256 * 51)) by decide, S2c a.1, S2c b.1, S2c c.1]
    rfl
  have w : ((s2 (s1 A) + 256 * (s2 (s1 B) + 256 * (s2 (s1 C) + 256 * 0))) + (s2 (s1 A) + 256 * (s2 (s1 B) + 256 * (s2 (s1 C) + 256 * 0))) / 16) &&& 252645135 = s3 (s2 (s1 A)) + 256 * (s3 (s2 (s1 B)) + 256 * (s3 (s2 (s1 C)) + 256 * 0)) := by
    rw [show (252645135 : Nat) = 15 + 256 * (15 + 256 * (15 + 256 * 15)) by decide, S3c a.2.1 (by have := b.2.2.1; omega), S3c b.2.1 (by have := c.2.2.1; omega), S3c c.2.1 (by decide)]
    rfl
  unfold bcN
  dsimp only
  rw [y, z, w, a.2.2.2, b.2.2.2, c.2.2.2]
  rw [show (63 : Nat) = 2 ^ 6 - 1 by decide, Nat.and_two_pow_sub_one_eq_mod]
  clear y z w a b c
  generalize cnt (fun i => A.testBit i) 8 = a at la ⊢
  generalize cnt (fun i => B.testBit i) 8 = b at lb ⊢
  generalize cnt (fun i => C.testBit i) 8 = c at lc ⊢
  have h1 : (a + 256 * (b + 256 * (c + 256 * 0))) / 256 = b + 256 * c := by omega
  rw [h1]
  have h2 : (a + 256 * (b + 256 * (c + 256 * 0)) + (b + 256 * c)) / 65536 = c := by omega
  rw [h2]
  omega
theorem bc_nI {x : Nat} (hx : x < 2 ^ 24) : bc (nI x) = nI (bcN x) := by
  have h1 : x / 2 &&& 1431655765 ≤ x := Nat.le_trans Nat.and_le_left (Nat.div_le_self x 2)
  have e1 : bc1 (nI x) = nI (x - (x / 2 &&& 1431655765)) := by
    unfold bc1
    rw [pk_ushrN (by omega) 1 1 (by decide), show (1431655765 : Int32) = nI 1431655765 from rfl, nx_and, pk_sub (by rw [Nat.pow_one]; exact h1), Nat.pow_one]
  have e2 : ∀ y, y < 2 ^ 24 → bc2 (nI y) = nI ((y &&& 858993459) + (y / 4 &&& 858993459)) := by
    intro y hy
    unfold bc2
    rw [pk_ushrN (by omega) 2 2 (by decide), show (858993459 : Int32) = nI 858993459 from rfl, nx_and, nx_and, nI_add]
  have e3 : ∀ z, z < 2 ^ 26 → bc3 (nI z) = nI ((z + z / 16) &&& 252645135) := by
    intro z hz
    unfold bc3
    rw [pk_ushrN (by omega) 4 4 (by decide), nI_add, show (252645135 : Int32) = nI 252645135 from rfl, nx_and]
  have e4 : ∀ w, w < 2 ^ 28 → bc4 (nI w) = nI (w + w / 256) := by
    intro w hw
    unfold bc4
    rw [pk_ushrN (by omega) 8 8 (by decide), nI_add]
  have e5 : ∀ w, w < 2 ^ 30 → bc5 (nI w) = nI (w + w / 65536) := by
    intro w hw
    unfold bc5
    rw [pk_ushrN (by omega) 16 16 (by decide), nI_add]
  have hy : x - (x / 2 &&& 1431655765) < 2 ^ 24 := by omega
  have b2 : ∀ y, y < 2 ^ 24 → (y &&& 858993459) + (y / 4 &&& 858993459) < 2 ^ 26 := by
    intro y hy
    have q1 : y &&& 858993459 ≤ y := Nat.and_le_left
    have q2 : y / 4 &&& 858993459 ≤ y / 4 := Nat.and_le_left
    omega
  have b3 : ∀ z, (z + z / 16) &&& 252645135 < 2 ^ 28 := by
    intro z
    have q1 : (z + z / 16) &&& 252645135 ≤ 252645135 := Nat.and_le_right
    omega
  have b4 : ∀ w, w < 2 ^ 28 → w + w / 256 < 2 ^ 30 := by
    intro w hw
    omega
  unfold bc
  rw [e1, e2 _ hy, e3 _ (b2 _ hy), e4 _ (b3 _), e5 _ (b4 _ (b3 _))]
  exact nx_and _ 63
theorem cnt_split (p : Nat → Bool) (a b : Nat) : cnt p (a + b) = cnt p a + cnt (fun i => p (a + i)) b := by
  induction b with
  | zero => rfl
  | succ b ih => rw [← Nat.add_assoc, cnt, cnt, ih]; omega
theorem cnt_ext {p : Nat → Bool} {n m : Nat} (h : n ≤ m) (hp : ∀ i, n ≤ i → p i = false) : cnt p m = cnt p n := by
  obtain ⟨d, rfl⟩ : ∃ d, m = n + d := ⟨m - n, by omega⟩
  rw [cnt_split]
  have : cnt (fun i => p (n + i)) d = 0 := by
    induction d with
    | zero => rfl
    | succ d ih => rw [cnt, ih (by omega), hp _ (by omega)]; rfl
  omega
theorem bc_mk {p : Nat → Bool} {n : Nat} (hn : n ≤ 24) : bc (mk p n) = nI (cnt p n) := by
  have hlt : nv p n < 2 ^ 24 := Nat.lt_of_lt_of_le (nv_lt p n) (Nat.pow_le_pow_right (by decide) hn)
  rw [mk_nv p (by omega), bc_nI hlt]
  congr 1
  have e : nv p n = nv p n % 256 + 256 * (nv p n / 256 % 256 + 256 * (nv p n / 65536)) := by omega
  conv => lhs; rw [e]
  rw [bcN_3 (by omega) (by omega) (by omega)]
  have t0 : ∀ i, i < 8 → (nv p n % 256).testBit i = (nv p n).testBit i := by
    intro i hi
    rw [show (256 : Nat) = 2 ^ 8 by decide, Nat.testBit_mod_two_pow]
    simp [hi]
  have t1 : ∀ i, i < 8 → (nv p n / 256 % 256).testBit i = (nv p n).testBit (8 + i) := by
    intro i hi
    rw [show (256 : Nat) = 2 ^ 8 by decide, Nat.testBit_mod_two_pow, Nat.testBit_div_two_pow, Nat.add_comm]
    simp [hi]
  have t2 : ∀ i, i < 8 → (nv p n / 65536).testBit i = (nv p n).testBit (16 + i) := by
    intro i hi
    rw [show (65536 : Nat) = 2 ^ 16 by decide, Nat.testBit_div_two_pow, Nat.add_comm]
  rw [cnt_congr (q := fun i => (nv p n).testBit i) t0, cnt_congr (q := fun i => (nv p n).testBit (8 + i)) t1, cnt_congr (q := fun i => (nv p n).testBit (16 + i)) t2]
  have c1 := cnt_split (fun i => (nv p n).testBit i) 8 16
  have c2 := cnt_split (fun i => (nv p n).testBit (8 + i)) 8 8
  have c3 : cnt (fun i => (nv p n).testBit i) 24 = cnt p n := by
    rw [cnt_ext hn (fun i hi => by rw [nv_bit, decide_eq_false (by omega)]; rfl)]
    exact cnt_congr (fun i hi => by rw [nv_bit, decide_eq_true hi]; rfl)
  have c4 : cnt (fun i => (nv p n).testBit (8 + (8 + i))) 8 = cnt (fun i => (nv p n).testBit (16 + i)) 8 := cnt_congr (fun i _ => by congr 1; omega)
  have c1 : cnt (fun i => (nv p n).testBit i) 24 = cnt (fun i => (nv p n).testBit i) 8 + cnt (fun i => (nv p n).testBit (8 + i)) 16 := c1
  have c2 : cnt (fun i => (nv p n).testBit (8 + i)) 16 = cnt (fun i => (nv p n).testBit (8 + i)) 8 + cnt (fun i => (nv p n).testBit (8 + (8 + i))) 8 := c2
  rw [c4] at c2
  omega
theorem cnt_mono {p q : Nat → Bool} {n : Nat} (h : ∀ i, p i = true → q i = true) : cnt p n ≤ cnt q n := by
  induction n with
  | zero => exact Nat.le_refl _
  | succ n ih =>
    rw [cnt, cnt]
    by_cases g : p n = true
    · rw [if_pos g, if_pos (h n g)]; omega
    · rw [if_neg g]; omega
theorem mk_0 {q : Nat → Bool} {n : Nat} (h : cnt q n = 0) : mk q n = 0 := by
  rw [mk_congr (q := fun _ => false) (fun i hi => ?_)]
  · induction n with
    | zero => rfl
    | succ n ih => rw [mk, ih (by rw [cnt] at h; omega), if_neg (by decide)]
  · induction n with
    | zero => omega
    | succ n ih =>
      rw [cnt] at h
      by_cases e : i = n
      · subst e
        cases hq : q i
        · rfl
        · rw [if_pos hq] at h; omega
      · exact ih (by omega) (by omega)
abbrev fbX (w x : Int64) (e : Int32) : Prop := 0 ≤ lg_cmp x w ∨ e ≤ 0
def fbE (w : Int64) : Nat → Int64 → Int32 → Bool
  | 0, x, e => decide (fbX w x e)
  | f + 1, x, e => decide (fbX w x e) || fbE w f (x * 2) (e + Int32.ofInt (-1))
theorem fbL_0 {w : Int64} {f : Nat} {x : Int64} {e : Int32} (h : fbX w x e) : fbL w f x e = (x, e) := by
  cases f with
  | zero => rfl
  | succ f => rw [fbL, if_pos h]
theorem fbE_s {w : Int64} {f : Nat} {x : Int64} {e : Int32} (h : fbE w f x e = true) (hc : ¬ fbX w x e) : ∃ f2, f = f2 + 1 ∧ fbE w f2 (x * 2) (e + Int32.ofInt (-1)) = true := by
  cases f with
  | zero => exact absurd (of_decide_eq_true h) hc
  | succ f =>
    rw [fbE, decide_eq_false hc, Bool.false_or] at h
    exact ⟨f, rfl, h⟩
theorem fb_all : ∀ w, w < 25 → w = 0 ∨ ((nI w).toInt64 ≠ 0 ∧ ∀ a, a < 25 → a = 0 ∨ fbE (nI w).toInt64 6 (nI a).toInt64 127 = true) := by decide +kernel
def clP (P : Nat → Nat → Int32) (t : Int32) : Nat → Bool := fun i => pTo P (-6) i && pSd P t i
def shF (M : Mm) (n : Nat) (t : Int32) : Int32 := if cnt (clP (cp M 1) t) n = 0 then -6 else fbR (cnt (fun i => clP (cp M 1) t i && bSd M 1 n i) n) (cnt (clP (cp M 1) t) n)
end
section
set_option maxRecDepth 100000 in
set_option maxHeartbeats 4000000 in
theorem f_floatBits {Y : Yt} {M : Mm} {a w : Nat} (ha : a < 25) (hw : w < 25) (hw0 : ¬ w = 0) : Fn Y yX6_floatBits wsX6_floatBits { frames := 0, cells := 0, slots := 0, locals := 0 } [.int (nI a), .int (nI w)] M (some (.int (fbR a w))) M := by
  have hal := (fb_all w hw).resolve_left hw0
  have hne := hal.1
  refine Fn.of (cc := cX6_floatBits) (ins := iX6_floatBits) (maxL := 9) (ret := (some .int)) (by decide) dX6_floatBits [some (.int (nI a)), some (.int (nI w)), none, none, none, none, none, none, none] (Nat.le_of_ble_eq_true rfl) rfl rfl ?_
  intro X hX hQ
  refine v_iload_n hX 0 0 rfl rfl rfl ?_
  refine v_if_le hX (tgt := 8) 1 rfl (by decide) (fun c1 => ?_) (fun c1 => ?_)
  · skip
    have ha1 : nI a ≤ 0 := c1
    refine v_iconst hX (v := 0) 4 rfl (by decide) ?_
    refine v_iret hX hQ rfl rfl ?_ ?_ 5 rfl
    · unfold fbR; rw [if_pos ha1]
    · rfl
  · skip
    have ha1 : ¬ nI a ≤ 0 := c1
    have ha0 : ¬ a = 0 := fun g => c1 (by rw [g]; decide)
    refine v_iload_n hX 1 2 rfl rfl rfl ?_
    refine v_if_gt hX (tgt := 10) 3 rfl (by decide) (fun c5 => ?_) (fun c5 => absurd (by exact nI_lt (a := 0) (by omega) (by omega)) c5)
    refine v_iload_n hX 0 6 rfl rfl rfl ?_
    refine v_i2l hX 7 rfl rfl ?_
    refine v_lstore_n hX 2 8 rfl rfl (Nat.le_of_ble_eq_true rfl) rfl ?_
    refine v_bipush hX (v := 127) 9 rfl (by decide) ?_
    refine v_istore hX 10 rfl (Nat.le_of_ble_eq_true rfl) rfl ?_
    have lp : ∀ (f : Nat), f ≤ 6 → ∀ (x : Int64) (e : Int32), fbE (nI w).toInt64 f x e = true → fbL (nI w).toInt64 f x e = (fbL (nI w).toInt64 6 (nI a).toInt64 127) → V Y X M 17 [some (.int (nI a)), some (.int (nI w)), some (.long x), none, some (.int e), none, none, none, none] [] := by
      refine downTo (fun f ih => ?_)
      intro hf6 x e hE3 he
      refine v_lload_n hX 2 11 rfl rfl rfl ?_
      refine v_iload_n hX 1 12 rfl rfl rfl ?_
      refine v_i2l hX 13 rfl rfl ?_
      refine v_lcmp hX 14 rfl ?_
      refine v_if_ge hX (tgt := 41) 15 rfl (by decide) (fun c21 => ?_) (fun c21 => ?_)
      · skip
        have e1 : (x, e) = (fbL (nI w).toInt64 6 (nI a).toInt64 127) := by rw [← he]; exact (fbL_0 (Or.inl c21)).symm
        refine v_lload_n hX 2 24 rfl rfl rfl ?_
        refine v_bipush hX (v := 23) 25 rfl (by decide) ?_
        refine v_lshl hX 26 rfl rfl ?_
        refine v_lstore hX 27 rfl (Nat.le_of_ble_eq_true rfl) rfl ?_
        refine v_lload hX 28 rfl rfl ?_
        refine v_iload_n hX 1 29 rfl rfl rfl ?_
        refine v_i2l hX 30 rfl rfl ?_
        refine v_ldiv hX hne 31 rfl ?_
        refine v_lstore hX 32 rfl (Nat.le_of_ble_eq_true rfl) rfl ?_
        refine v_ldc2 hX tw_433 33 rfl ?_
        refine v_lload hX 34 rfl rfl ?_
        refine v_iload_n hX 1 35 rfl rfl rfl ?_
        refine v_i2l hX 36 rfl rfl ?_
        refine v_lrem hX hne 37 rfl ?_
        refine v_lmul hX 38 rfl ?_
        refine v_iload_n hX 1 39 rfl rfl rfl ?_
        refine v_i2l hX 40 rfl rfl ?_
        refine v_lcmp hX 41 rfl ?_
        refine v_if_le hX (tgt := 75) 42 rfl (by decide) (fun c66 => ?_) (fun c66 => ?_)
        · skip
          have q1 := c66
          refine v_iload hX 47 rfl rfl ?_
          refine v_bipush hX (v := 23) 48 rfl (by decide) ?_
          refine v_ishl hX 49 rfl ?_
          refine v_lload hX 50 rfl rfl ?_
          refine v_ldc2 hX tw_434 51 rfl ?_
          refine v_lsub hX 52 rfl ?_
          refine v_l2i hX 53 rfl rfl ?_
          refine v_iadd hX 54 rfl ?_
          refine v_iret hX hQ rfl rfl ?_ ?_ 55 rfl
          · unfold fbR; rw [if_neg ha1, ← e1]; unfold fbF; first | (rw [if_pos q1]; done) | (rw [if_neg q1]; done) | (rw [if_pos q1]; rfl) | (rw [if_neg q1]; rfl)
          · rfl
        · skip
          have q1 := c66
          refine v_lload hX 43 rfl rfl ?_
          refine v_lconst hX (v := 1) 44 rfl rfl ?_
          refine v_ladd hX 45 rfl ?_
          refine v_lstore hX 46 rfl (Nat.le_of_ble_eq_true rfl) rfl ?_
          refine v_iload hX 47 rfl rfl ?_
          refine v_bipush hX (v := 23) 48 rfl (by decide) ?_
          refine v_ishl hX 49 rfl ?_
          refine v_lload hX 50 rfl rfl ?_
          refine v_ldc2 hX tw_434 51 rfl ?_
          refine v_lsub hX 52 rfl ?_
          refine v_l2i hX 53 rfl rfl ?_
          refine v_iadd hX 54 rfl ?_
          refine v_iret hX hQ rfl rfl ?_ ?_ 55 rfl
          · unfold fbR; rw [if_neg ha1, ← e1]; unfold fbF; first | (rw [if_pos q1]; done) | (rw [if_neg q1]; done) | (rw [if_pos q1]; rfl) | (rw [if_neg q1]; rfl)
          · rfl
      · skip
        refine v_iload hX 16 rfl rfl ?_
        refine v_if_le hX (tgt := 41) 17 rfl (by decide) (fun c26 => ?_) (fun c26 => ?_)
        · skip
          have e1 : (x, e) = (fbL (nI w).toInt64 6 (nI a).toInt64 127) := by rw [← he]; exact (fbL_0 (Or.inr c26)).symm
          refine v_lload_n hX 2 24 rfl rfl rfl ?_
          refine v_bipush hX (v := 23) 25 rfl (by decide) ?_
          refine v_lshl hX 26 rfl rfl ?_
          refine v_lstore hX 27 rfl (Nat.le_of_ble_eq_true rfl) rfl ?_
          refine v_lload hX 28 rfl rfl ?_
          refine v_iload_n hX 1 29 rfl rfl rfl ?_
          refine v_i2l hX 30 rfl rfl ?_
          refine v_ldiv hX hne 31 rfl ?_
          refine v_lstore hX 32 rfl (Nat.le_of_ble_eq_true rfl) rfl ?_
          refine v_ldc2 hX tw_433 33 rfl ?_
          refine v_lload hX 34 rfl rfl ?_
          refine v_iload_n hX 1 35 rfl rfl rfl ?_
          refine v_i2l hX 36 rfl rfl ?_
          refine v_lrem hX hne 37 rfl ?_
          refine v_lmul hX 38 rfl ?_
          refine v_iload_n hX 1 39 rfl rfl rfl ?_
          refine v_i2l hX 40 rfl rfl ?_
          refine v_lcmp hX 41 rfl ?_
          refine v_if_le hX (tgt := 75) 42 rfl (by decide) (fun c66 => ?_) (fun c66 => ?_)
          · skip
            have q1 := c66
            refine v_iload hX 47 rfl rfl ?_
            refine v_bipush hX (v := 23) 48 rfl (by decide) ?_
            refine v_ishl hX 49 rfl ?_
            refine v_lload hX 50 rfl rfl ?_
            refine v_ldc2 hX tw_434 51 rfl ?_
            refine v_lsub hX 52 rfl ?_
            refine v_l2i hX 53 rfl rfl ?_
            refine v_iadd hX 54 rfl ?_
            refine v_iret hX hQ rfl rfl ?_ ?_ 55 rfl
            · unfold fbR; rw [if_neg ha1, ← e1]; unfold fbF; first | (rw [if_pos q1]; done) | (rw [if_neg q1]; done) | (rw [if_pos q1]; rfl) | (rw [if_neg q1]; rfl)
            · rfl
          · skip
            have q1 := c66
            refine v_lload hX 43 rfl rfl ?_
            refine v_lconst hX (v := 1) 44 rfl rfl ?_
            refine v_ladd hX 45 rfl ?_
            refine v_lstore hX 46 rfl (Nat.le_of_ble_eq_true rfl) rfl ?_
            refine v_iload hX 47 rfl rfl ?_
            refine v_bipush hX (v := 23) 48 rfl (by decide) ?_
            refine v_ishl hX 49 rfl ?_
            refine v_lload hX 50 rfl rfl ?_
            refine v_ldc2 hX tw_434 51 rfl ?_
            refine v_lsub hX 52 rfl ?_
            refine v_l2i hX 53 rfl rfl ?_
            refine v_iadd hX 54 rfl ?_
            refine v_iret hX hQ rfl rfl ?_ ?_ 55 rfl
            · unfold fbR; rw [if_neg ha1, ← e1]; unfold fbF; first | (rw [if_pos q1]; done) | (rw [if_neg q1]; done) | (rw [if_pos q1]; rfl) | (rw [if_neg q1]; rfl)
            · rfl
        · skip
          have hnx : ¬ fbX (nI w).toInt64 x e := fun g => g.elim c21 c26
          obtain ⟨f2, hf2, hE4⟩ := fbE_s hE3 hnx
          rw [hf2, fbL, if_neg hnx] at he
          refine v_lload_n hX 2 18 rfl rfl rfl ?_
          refine v_ldc2 hX tw_433 19 rfl ?_
          refine v_lmul hX 20 rfl ?_
          refine v_lstore_n hX 2 21 rfl rfl (Nat.le_of_ble_eq_true rfl) rfl ?_
          refine v_iinc hX 22 rfl rfl rfl (Nat.le_of_ble_eq_true rfl) rfl ?_
          refine v_goto hX (tgt := 17) 23 rfl (by decide) ?_
          exact V.sub (ih f2 (by omega) (by omega) (x * 2) (e + Int32.ofInt (-1)) hE4 he) rfl ⟨rfl, rfl, rfl, rfl, trivial⟩
    exact V.sub (lp 6 (Nat.le_refl _) _ 127 ((hal.2 a ha).resolve_left ha0) rfl) rfl ⟨rfl, rfl, rfl, rfl, trivial⟩
set_option maxRecDepth 100000 in
set_option maxHeartbeats 4000000 in
theorem f_share {Y : Yt} {M : Mm} {t : Int32} {n : Nat} (hz : M.1 1 1 = nI n) (hn : n ≤ 24) (hw : WF (cp M 1) n) (h : t = 0 ∨ t = 1) : Fn Y yX6_share wsX6_share { frames := 4, cells := 0, slots := 0, locals := 88 } [.ref (Y.2.2.2.1 0), .int t] M (some (.int (shF M n t))) M := by
  have hcb : cnt (clP (cp M 1) t) n ≤ 24 := Nat.le_trans (cnt_le _ _) hn
  have hca : cnt (fun i => clP (cp M 1) t i && bSd M 1 n i) n ≤ cnt (clP (cp M 1) t) n := cnt_mono (fun i g => by simp only [Bool.and_eq_true] at g; exact g.1)
  refine Fn.of (cc := cX6_share) (ins := iX6_share) (maxL := 3) (ret := (some .int)) (by decide) dX6_share [some (.ref (Y.2.2.2.1 0)), some (.int t), none] (Nat.le_of_ble_eq_true rfl) rfl rfl ?_
  intro X hX hQ
  refine v_iload_n hX 1 0 rfl rfl rfl ?_
  refine v_if_eq hX (tgt := 11) 1 rfl (by decide) (fun c1 => ?_) (fun c1 => ?_)
  · skip
    refine v_aload_n hX 0 7 rfl rfl rfl ?_
    refine g_6_0 hX 8  tw_192 rfl ?_
    refine v_callVN hX 0 (by decide) (cG_B isB_1) rfl (f_claims isB_1 hz hn) tw_397 (List.mem_of_getElem? (i := 25) rfl) tw_40 tw_396 tw_28 (by decide +kernel) ⟨⟨rfl, rfl⟩, Nat.le_of_ble_eq_true rfl, Nat.le_of_ble_eq_true rfl⟩ rfl (Nat.le_of_ble_eq_true rfl) rfl rfl 9 rfl ?_
    rw [mk_F]
    refine v_aload_n hX 0 10 rfl rfl rfl ?_
    refine g_6_0 hX 11  tw_192 rfl ?_
    refine v_iload_n hX 1 12 rfl rfl rfl ?_
    refine v_callVN hX 1 (by decide) (cG_B isB_1) rfl (f_ofSide isB_1 hz hn) tw_425 (List.mem_of_getElem? (i := 31) rfl) tw_40 tw_424 tw_32 (by decide +kernel) ⟨⟨rfl, rfl⟩, Nat.le_of_ble_eq_true rfl, Nat.le_of_ble_eq_true rfl⟩ rfl (Nat.le_of_ble_eq_true rfl) rfl rfl 13 rfl ?_
    rw [mk_F]
    refine v_iand hX 14 rfl ?_
    rw [mk_and _ _ (by omega)]
    show V Y X M _ _ (.int (mk (clP (cp M 1) t) n) :: _)
    refine v_istore_n hX 2 15 rfl rfl (Nat.le_of_ble_eq_true rfl) rfl ?_
    refine v_iload_n hX 2 16 rfl rfl rfl ?_
    refine v_if_ne hX (tgt := 35) 17 rfl (by decide) (fun c29 => ?_) (fun c29 => ?_)
    · skip
      have hb0 : ¬ cnt (clP (cp M 1) t) n = 0 := fun e => c29 (mk_0 e)
      refine v_iload_n hX 2 20 rfl rfl rfl ?_
      refine v_aload_n hX 0 21 rfl rfl rfl ?_
      refine g_6_0 hX 22  tw_192 rfl ?_
      refine v_callVN hX 0 (by decide) (cG_B isB_1) rfl (f_standing isB_1 hz hn hw) tw_287 (List.mem_of_getElem? (i := 20) rfl) tw_40 tw_286 tw_13 (by decide +kernel) ⟨⟨rfl, rfl⟩, Nat.le_of_ble_eq_true rfl, Nat.le_of_ble_eq_true rfl⟩ rfl (Nat.le_of_ble_eq_true rfl) rfl rfl 23 rfl ?_
      refine v_iand hX 24 rfl ?_
      rw [mk_and _ _ (by omega)]
      show V Y X M _ _ (.int (mk (fun i => clP (cp M 1) t i && bSd M 1 n i) n) :: _)
      refine v_callS hX 1 (f_bitCount) tw_321 tw_399 tw_320 tw_46 (by decide +kernel) ⟨⟨rfl, rfl⟩, Nat.le_of_ble_eq_true rfl, Nat.le_of_ble_eq_true rfl⟩ rfl (Nat.le_of_ble_eq_true rfl) rfl rfl 25 rfl ?_
      rw [bc_mk hn]
      refine v_iload_n hX 2 26 rfl rfl rfl ?_
      refine v_callS hX 1 (f_bitCount) tw_321 tw_399 tw_320 tw_46 (by decide +kernel) ⟨⟨rfl, rfl⟩, Nat.le_of_ble_eq_true rfl, Nat.le_of_ble_eq_true rfl⟩ rfl (Nat.le_of_ble_eq_true rfl) rfl rfl 27 rfl ?_
      rw [bc_mk hn]
      refine v_callS hX 2 (f_floatBits (show cnt (fun i => clP (cp M 1) t i && bSd M 1 n i) n < 25 by omega) (show cnt (clP (cp M 1) t) n < 25 by omega) hb0) tw_432 tw_430 tw_431 tw_39 (by decide +kernel) ⟨⟨rfl, rfl⟩, Nat.le_of_ble_eq_true rfl, Nat.le_of_ble_eq_true rfl⟩ rfl (Nat.le_of_ble_eq_true rfl) rfl rfl 28 rfl ?_
      refine v_iret hX hQ rfl rfl ?_ ?_ 29 rfl
      · unfold shF; rw [if_neg hb0]
      · rfl
    · skip
      have hb0 : cnt (clP (cp M 1) t) n = 0 := cnt_0 c29 hn
      refine v_bipush hX (v := (-6)) 18 rfl (by decide) ?_
      refine v_iret hX hQ rfl rfl ?_ ?_ 19 rfl
      · unfold shF; rw [if_pos hb0]
      · rfl
  · skip
    refine v_iload_n hX 1 2 rfl rfl rfl ?_
    refine v_iconst hX (v := 1) 3 rfl (by decide) ?_
    refine v_icmp_eq hX (tgt := 11) 4 rfl (by decide) (fun c6 => ?_) (fun c6 => absurd (h.resolve_left c1) c6)
    refine v_aload_n hX 0 7 rfl rfl rfl ?_
    refine g_6_0 hX 8  tw_192 rfl ?_
    refine v_callVN hX 0 (by decide) (cG_B isB_1) rfl (f_claims isB_1 hz hn) tw_397 (List.mem_of_getElem? (i := 25) rfl) tw_40 tw_396 tw_28 (by decide +kernel) ⟨⟨rfl, rfl⟩, Nat.le_of_ble_eq_true rfl, Nat.le_of_ble_eq_true rfl⟩ rfl (Nat.le_of_ble_eq_true rfl) rfl rfl 9 rfl ?_
    rw [mk_F]
    refine v_aload_n hX 0 10 rfl rfl rfl ?_
    refine g_6_0 hX 11  tw_192 rfl ?_
    refine v_iload_n hX 1 12 rfl rfl rfl ?_
    refine v_callVN hX 1 (by decide) (cG_B isB_1) rfl (f_ofSide isB_1 hz hn) tw_425 (List.mem_of_getElem? (i := 31) rfl) tw_40 tw_424 tw_32 (by decide +kernel) ⟨⟨rfl, rfl⟩, Nat.le_of_ble_eq_true rfl, Nat.le_of_ble_eq_true rfl⟩ rfl (Nat.le_of_ble_eq_true rfl) rfl rfl 13 rfl ?_
    rw [mk_F]
    refine v_iand hX 14 rfl ?_
    rw [mk_and _ _ (by omega)]
    show V Y X M _ _ (.int (mk (clP (cp M 1) t) n) :: _)
    refine v_istore_n hX 2 15 rfl rfl (Nat.le_of_ble_eq_true rfl) rfl ?_
    refine v_iload_n hX 2 16 rfl rfl rfl ?_
    refine v_if_ne hX (tgt := 35) 17 rfl (by decide) (fun c29 => ?_) (fun c29 => ?_)
    · skip
      have hb0 : ¬ cnt (clP (cp M 1) t) n = 0 := fun e => c29 (mk_0 e)
      refine v_iload_n hX 2 20 rfl rfl rfl ?_
      refine v_aload_n hX 0 21 rfl rfl rfl ?_
      refine g_6_0 hX 22  tw_192 rfl ?_
      refine v_callVN hX 0 (by decide) (cG_B isB_1) rfl (f_standing isB_1 hz hn hw) tw_287 (List.mem_of_getElem? (i := 20) rfl) tw_40 tw_286 tw_13 (by decide +kernel) ⟨⟨rfl, rfl⟩, Nat.le_of_ble_eq_true rfl, Nat.le_of_ble_eq_true rfl⟩ rfl (Nat.le_of_ble_eq_true rfl) rfl rfl 23 rfl ?_
      refine v_iand hX 24 rfl ?_
      rw [mk_and _ _ (by omega)]
      show V Y X M _ _ (.int (mk (fun i => clP (cp M 1) t i && bSd M 1 n i) n) :: _)
      refine v_callS hX 1 (f_bitCount) tw_321 tw_399 tw_320 tw_46 (by decide +kernel) ⟨⟨rfl, rfl⟩, Nat.le_of_ble_eq_true rfl, Nat.le_of_ble_eq_true rfl⟩ rfl (Nat.le_of_ble_eq_true rfl) rfl rfl 25 rfl ?_
      rw [bc_mk hn]
      refine v_iload_n hX 2 26 rfl rfl rfl ?_
      refine v_callS hX 1 (f_bitCount) tw_321 tw_399 tw_320 tw_46 (by decide +kernel) ⟨⟨rfl, rfl⟩, Nat.le_of_ble_eq_true rfl, Nat.le_of_ble_eq_true rfl⟩ rfl (Nat.le_of_ble_eq_true rfl) rfl rfl 27 rfl ?_
      rw [bc_mk hn]
      refine v_callS hX 2 (f_floatBits (show cnt (fun i => clP (cp M 1) t i && bSd M 1 n i) n < 25 by omega) (show cnt (clP (cp M 1) t) n < 25 by omega) hb0) tw_432 tw_430 tw_431 tw_39 (by decide +kernel) ⟨⟨rfl, rfl⟩, Nat.le_of_ble_eq_true rfl, Nat.le_of_ble_eq_true rfl⟩ rfl (Nat.le_of_ble_eq_true rfl) rfl rfl 28 rfl ?_
      refine v_iret hX hQ rfl rfl ?_ ?_ 29 rfl
      · unfold shF; rw [if_neg hb0]
      · rfl
    · skip
      have hb0 : cnt (clP (cp M 1) t) n = 0 := cnt_0 c29 hn
      refine v_bipush hX (v := (-6)) 18 rfl (by decide) ?_
      refine v_iret hX hQ rfl rfl ?_ ?_ 19 rfl
      · unfold shF; rw [if_pos hb0]
      · rfl
set_option maxRecDepth 100000 in
set_option maxHeartbeats 4000000 in
theorem f_share_no {Y : Yt} {M : Mm} {t : Int32} (h0 : ¬ t = 0) (h1 : ¬ t = 1) : Fn Y yX6_share wsX6_share { frames := 4, cells := 0, slots := 0, locals := 88 } [.ref (Y.2.2.2.1 0), .int t] M (some (.int (-1))) M := by
  refine Fn.of (cc := cX6_share) (ins := iX6_share) (maxL := 3) (ret := (some .int)) (by decide) dX6_share [some (.ref (Y.2.2.2.1 0)), some (.int t), none] (Nat.le_of_ble_eq_true rfl) rfl rfl ?_
  intro X hX hQ
  refine v_iload_n hX 1 0 rfl rfl rfl ?_
  refine v_if_eq hX (tgt := 11) 1 rfl (by decide) (fun c1 => absurd c1 h0) (fun c1 => ?_)
  refine v_iload_n hX 1 2 rfl rfl rfl ?_
  refine v_iconst hX (v := 1) 3 rfl (by decide) ?_
  refine v_icmp_eq hX (tgt := 11) 4 rfl (by decide) (fun c6 => absurd c6 h1) (fun c6 => ?_)
  refine v_iconst hX (v := (-1)) 5 rfl (by decide) ?_
  refine v_iret hX hQ rfl rfl ?_ ?_ 6 rfl
  · rfl
  · rfl
end
section
def aC (Y : Yt) (r o a n : Nat) : Prop := (o = 0 ∧ r ≠ 2 ∧ r < 279 ∧ a = Y.2.2.2.1 r ∧ ∀ h f, cG Y.2.2.1 Y.2.2.2.1 h f r = .inl (Y.2.2.1 1, n, .inl f)) ∨ (r = 2 ∧ n ≤ 64 ∧ ∃ j, o = 64 * j ∧ Y.2.2.2.2.2[j]? = some (a, n))
def zf (M : Mm) (j : Nat) : Nat → Int32 := fun x => if x < 64 * j then M.1 2 x else 0
def xc (X : XT) (a b : Nat) : XT :=
  match X with
  | (p, e, R, s, m, args, below, meth, c, cells, slots, Q, A) => (p, e, R, s, m, args, below, meth, c, cells + a, slots + b, Q, A)
def xce (X : XT) : Nat :=
  match X with
  | (_, _, _, _, _, _, _, _, _, cells, _, _, _) => cells
def xsl (X : XT) : Nat :=
  match X with
  | (_, _, _, _, _, _, _, _, _, _, slots, _, _) => slots
def pY (Y : Yt) (q n : Nat) : Yt := (Y.1, Y.2.1, Y.2.2.1, Y.2.2.2.1, Y.2.2.2.2.1, Y.2.2.2.2.2 ++ [(q, n)])
def sl (Y : Yt) : Nat := Y.2.2.2.2.2.length
theorem xce_xc {X : XT} {a b : Nat} : xce (xc X a b) = xce X + a := rfl
theorem xsl_xc {X : XT} {a b : Nat} : xsl (xc X a b) = xsl X + b := rfl
theorem xc_xc {X : XT} {a b a2 b2 : Nat} : xc (xc X a b) a2 b2 = xc X (a + a2) (b + b2) := by
  obtain ⟨p, e, R, s, m, args, below, meth, c, cells, slots, Q, A⟩ := X
  show (_, _, _, _, _, _, _, _, _, _, _, _, _) = (_, _, _, _, _, _, _, _, _, _, _, _, _)
  rw [Nat.add_assoc, Nat.add_assoc]
theorem vOK.xc {Y : Yt} {X : XT} {ins : List (Nat × Instr × Nat)} {nL : Nat} {own : String} {rm : Room} {ret : Option FieldType} (hX : vOK Y X ins nL own rm ret) {a b : Nat} (ha : xce X + a ≤ rm.cells) (hb : xsl X + b ≤ rm.slots) : vOK Y (xc X a b) ins nL own rm ret := by
  obtain ⟨l, D, cy, ad, z, sc⟩ := Y
  obtain ⟨p, e, R, s, m, args, below, meth, c, cells, slots, Q, A⟩ := X
  obtain ⟨hx, hcd, hml, hts, hown, hK, hdd, hN, rfl, hret, hlk, hcl, hsl⟩ := hX
  exact ⟨hx, hcd, hml, hts, hown, hK, hdd, hN, rfl, hret, hlk, ha, hb⟩
theorem mrow_newc {cy : Nat → ClassId} {ad : Nat → Nat} {sc : List (Nat × Nat)} {M : Mm} {q n : Nat} : wl cy ad sc M ++ [(q, .inl (cy 1, n, .inl (fun _ => 0)))] = wl cy ad (sc ++ [(q, n)]) (mrow M 2 (zf M sc.length)) := by
  unfold wl
  have e0 : scF (mrow M 2 (zf M sc.length)) (0 + sc.length) = fun _ => 0 := by
    funext x
    unfold scF zf
    rw [mrow_s, Nat.zero_add]
    by_cases h : x < 64
    · rw [if_pos h, if_neg (by omega)]
    · rw [if_neg h]
  have e1 : fx cy ad (mrow M 2 (zf M sc.length)) = fx cy ad M := fx_congr (fun k hk => by
    by_cases e : k = 2
    · subst e; exact cG_2
    · rw [mrow_n e]; rfl)
  have e2 : sw cy (mrow M 2 (zf M sc.length)) 0 sc = sw cy M 0 sc := sw_ext (fun j hj => by
    funext x
    unfold scF zf
    rw [mrow_s, Nat.zero_add]
    by_cases h : x < 64
    · rw [if_pos h, if_pos h, if_pos (by omega)]
    · rw [if_neg h, if_neg h])
  rw [sw_push, e0, List.append_assoc, e1, e2]
section VM
variable {Y : Yt} {X : XT} {M M' : Mm} {pc : Nat} {L : List (Option Value)} {st : List Value} {ins : List (Nat × Instr × Nat)} {nL : Nat} {own : String} {rm : Room} {ret : Option FieldType}
theorem aC.get {r o a n : Nat} (h : aC Y r o a n) (M : Mm) : ∃ k f, (wl Y.2.2.1 Y.2.2.2.1 Y.2.2.2.2.2 M)[k]? = some (a, .inl (Y.2.2.1 1, n, .inl f)) ∧ (∀ x, x < n → f x = M.1 r (o + x)) ∧ ∀ x v, x < n → (wl Y.2.2.1 Y.2.2.2.1 Y.2.2.2.2.2 M).set k (a, .inl (Y.2.2.1 1, n, .inl (upd f x v))) = wl Y.2.2.1 Y.2.2.2.1 Y.2.2.2.2.2 (mset M r (o + x) v) := by
  rcases h with ⟨rfl, h2, hk, rfl, hc⟩ | ⟨rfl, hn, j, rfl, hj⟩
  · refine ⟨r, M.1 r, wl_get hk (hc M.2 (M.1 r)), fun x _ => by rw [Nat.zero_add], fun x v _ => ?_⟩
    rw [Nat.zero_add]
    exact wl_mset ⟨hk, h2⟩ (hc M.2 _)
  · exact ⟨279 + j, scF M j, wl_gets hj, fun x hx => scF_at (by omega), fun x v hx => wl_msets hj (by omega)⟩
theorem aC.push {r o a n q m : Nat} (h : aC Y r o a n) : aC (pY Y q m) r o a n := by
  rcases h with h | ⟨h1, h2, j, hk, hj⟩
  · exact Or.inl h
  · exact Or.inr ⟨h1, h2, j, hk, by
      have hl : j < Y.2.2.2.2.2.length := (List.getElem?_eq_some_iff.mp hj).1
      show (Y.2.2.2.2.2 ++ [(q, m)])[j]? = _
      rw [List.getElem?_append_left hl]
      exact hj⟩
theorem aC.new {q m : Nat} (hm : m ≤ 64) : aC (pY Y q m) 2 (64 * sl Y) q m := Or.inr ⟨rfl, hm, sl Y, rfl, by
  show (Y.2.2.2.2.2 ++ [(q, m)])[Y.2.2.2.2.2.length]? = _
  rw [List.getElem?_append_right (Nat.le_refl _), Nat.sub_self]
  rfl⟩
theorem v_ialg (hX : vOK Y X ins nL own rm ret) {r o a n : Nat} (hC : aC Y r o a n) {i : Int32} (hin : vp_in i n) (ix : Nat) (hd : gi ins ix = some (pc, .iaload, 1)) (kk : V Y X M (pc + 1) L (.int (M.1 r (o + i.toNatClampNeg)) :: st)) : V Y X M pc L (.int i :: .ref a :: st) := by
  obtain ⟨l, D, cy, ad, z, sc⟩ := Y
  obtain ⟨p, e, R, s, m, args, below, meth, c, cells, slots, Q, A⟩ := X
  obtain ⟨hx, hcd, hml, hts, hown, hK, ⟨hdd, hda⟩, hN, rfl, hret, hlk, hcl, hsl⟩ := hX
  intro H locs ls hP hS hl
  have hd := hcd ix _ hd
  obtain ⟨k, f, h1, h2, _⟩ := hC.get M
  refine va_iald (D := D) (ws := wl cy ad sc M) (tys := tq cy) hx rfl hK hP k 1 h1 rfl hin hd ?_
  rw [h2 _ (Nat.not_le.mp (fun g => hin (Or.inr g)))]
  exact kk H locs ls hP hS hl
theorem v_iasg (hX : vOK Y X ins nL own rm ret) {r o a n : Nat} (hC : aC Y r o a n) {i x : Int32} (hin : vp_in i n) (ix : Nat) (hd : gi ins ix = some (pc, .iastore, 1)) (kk : V Y X (mset M r (o + i.toNatClampNeg) x) (pc + 1) L st) : V Y X M pc L (.int x :: .int i :: .ref a :: st) := by
  obtain ⟨l, D, cy, ad, z, sc⟩ := Y
  obtain ⟨p, e, R, s, m, args, below, meth, c, cells, slots, Q, A⟩ := X
  obtain ⟨hx, hcd, hml, hts, hown, hK, ⟨hdd, hda⟩, hN, rfl, hret, hlk, hcl, hsl⟩ := hX
  intro H locs ls hP hS hl
  have hd := hcd ix _ hd
  obtain ⟨k, f, h1, h2, h3⟩ := hC.get M
  refine va_iast (D := D) (ws := wl cy ad sc M) (tys := tq cy) hx rfl hK hP (wl_D hdd hda M) hS k 1 h1 rfl hin hd (fun H1 locs1 hP1 _ hS1 => ?_)
  have h3 := h3 i.toNatClampNeg x (Nat.not_le.mp (fun g => hin (Or.inr g)))
  have h3 : (wl cy ad sc M).set k (a, .inl (cy 1, n, .inl (upd f i.toNatClampNeg x))) = wl cy ad sc (mset M r (o + i.toNatClampNeg) x) := h3
  rw [h3] at hP1
  exact kk H1 locs1 ls hP1 hS1 hl
theorem v_irem (hX : vOK Y X ins nL own rm ret) {x y v : Int32} (hne : ¬ y = 0) (hv : x - x / y * y = v) (ix : Nat) (hd : gi ins ix = some (pc, .irem, 1)) (kk : V Y X M (pc + 1) L (.int v :: st)) : V Y X M pc L (.int y :: .int x :: st) := by
  obtain ⟨l, D, cy, ad, z, sc⟩ := Y
  obtain ⟨p, e, R, s, m, args, below, meth, c, cells, slots, Q, A⟩ := X
  obtain ⟨hx, hcd, hml, hts, hown, hK, ⟨hdd, hda⟩, hN, rfl, hret, hlk, hcl, hsl⟩ := hX
  intro H locs ls hP hS hl
  have hd := hcd ix _ hd
  subst hv
  exact lv_irem hx rfl hd hne (kk H locs ls hP hS hl)
theorem cI_of {D : va_G} {cl : List vw_C} {cy : Nat → ClassId} {s : State} {cA : ClassId} (hK : va_K D cl (tq cy ++ [(cA, .int)]) s) : cA = cy 1 := by
  have h1 := (hK.2 1 (cy 1, .int) rfl).2
  have h2 := (hK.2 5 (cA, .int) rfl).2
  exact Option.some.inj ((show s.vm.findClass _ = some cA from h2).symm.trans (show s.vm.findClass _ = some (cy 1) from h1))
theorem Dd.push {cy : Nat → ClassId} {ad : Nat → Nat} {z : Nat} {sc : List (Nat × Nat)} {M : Mm} {q n : Nat} (h : va_D (fA z) (wl cy ad sc M ++ [(q, .inl (cy 1, n, .inl (fun _ => 0)))])) : Dd cy ad z (sc ++ [(q, n)]) := by
  rw [mrow_newc] at h
  have key : ∀ (M1 M2 : Mm) (sc2 : List (Nat × Nat)) (i : Nat) (p : Nat × va_E), (wl cy ad sc2 M1)[i]? = some p → ∃ p2, (wl cy ad sc2 M2)[i]? = some p2 ∧ p2.1 = p.1 := by
    intro M1 M2 sc2 i p hp
    by_cases hi : i < 279
    · rw [wl_get (M := M1) hi rfl] at hp
      exact ⟨_, wl_get hi rfl, by rw [← Option.some.inj hp]⟩
    · obtain ⟨j, rfl⟩ : ∃ j, i = 279 + j := ⟨i - 279, by omega⟩
      unfold wl at hp ⊢
      rw [List.getElem?_append_right (by rw [fx_len]; omega), fx_len, Nat.add_sub_cancel_left, sw_get] at hp ⊢
      cases hj : sc2[j]? with
      | none => rw [hj] at hp; cases hp
      | some r =>
        rw [hj] at hp
        exact ⟨_, rfl, by rw [← Option.some.inj hp]⟩
  intro M2
  refine ⟨fun i j p r hp hr e => ?_, fun k r hr => ?_⟩
  · obtain ⟨p2, h1, e1⟩ := key M2 _ _ i p hp
    obtain ⟨r2, h2, e2⟩ := key M2 _ _ j r hr
    exact h.1 i j p2 r2 h1 h2 (by rw [e1, e2, e])
  · obtain ⟨r2, h2, e2⟩ := key M2 _ _ k r hr
    rw [← e2]
    exact h.2 k r2 h2
theorem v_newi (hX : vOK Y X ins nL own rm ret) {x : Int32} {m0 : Nat} (hx0 : ¬ x < 0) (hx1 : x.toNatClampNeg = m0) (hb : m0 * 4 ≤ 536870912) (hcells : xce X + 1 ≤ rm.cells) (hslots : xsl X + m0 ≤ rm.slots) (ix : Nat) (hd : gi ins ix = some (pc, .newarray .int, 2)) (kk : ∀ q : Nat, vOK (pY Y q m0) (xc X 1 m0) ins nL own rm ret → V (pY Y q m0) (xc X 1 m0) (mrow M 2 (zf M (sl Y))) (pc + 2) L (.ref q :: st)) : V Y X M pc L (.int x :: st) := by
  obtain ⟨l, D, cy, ad, z, sc⟩ := Y
  obtain ⟨p, e, R, s, m, args, below, meth, c, cells, slots, Q, A⟩ := X
  obtain ⟨hx, hcd, hml, hts, hown, hK, ⟨hdd, hda⟩, hN, rfl, hret, hlk, hcl, hsl⟩ := hX
  intro H locs ls hP hS hl
  have hd2 := hcd ix _ hd
  obtain ⟨rfl, hz⟩ := hda
  refine va_newa (D := D) (ws := wl cy ad sc M) (tys := tq cy) (atype := .int) (ty := .int) (a0 := (m0, .inl (fun _ => 0))) hx rfl (hts _ tw_141) rfl hK hP (hdd M) hS (fun q hq => Nat.le_trans hz hq) (fun cA => rfl) hx0 hx1 (by show m0 * 4 ≤ _; omega) hcells hslots hd2 (fun q cA H1 hK1 hP1 hD1 hS1 => ?_)
  have hcA := cI_of hK1
  subst hcA
  have hdd2 := Dd.push hD1
  rw [mrow_newc] at hP1
  exact kk q ⟨hx, hcd, hml, hts, hown, hK, ⟨hdd2, rfl, hz⟩, hN, rfl, hret, hlk, hcells, hslots⟩ H1 locs ls hP1 hS1 hl
def vQA (Y : Yt) (X : XT) (rv : Option Value) (PM : Mm → Prop) (mc ms : Nat) : Prop :=
  match Y, X with
  | (l, D, cy, ad, z, sc), (p, e, R, s, m, args, below, meth, c, cells, slots, Q, A) =>
    Q = MQ below (fun _ st oc t => oc = .returned rv ∧ (∃ M' : Mm, PM M' ∧ va_P D vwCl (wl cy ad sc M') t.heap) ∧ va_F (fA z) st t) args s mc ms (fA z)
def FnA (Y : Yt) (y : MethodName) (ws : List Cond) (rm : Room) (As : List Value) (M : Mm) (rv : Option Value) (PM : Mm → Prop) (mc ms : Nat) : Prop :=
  match Y with
  | (l, D, cy, ad, z, sc) => Met l y ws rm (va_Pc As (wd (l, D, cy, ad, z, sc) M)) (fun _ st oc t => oc = .returned rv ∧ (∃ M' : Mm, PM M' ∧ va_P D vwCl (wl cy ad sc M') t.heap) ∧ va_F (fA z) st t) mc ms (fA z)
theorem vQA.xc {rv : Option Value} {PM : Mm → Prop} {mc ms a b : Nat} (h : vQA Y X rv PM mc ms) : vQA Y (xc X a b) rv PM mc ms := by
  obtain ⟨l, D, cy, ad, z, sc⟩ := Y
  obtain ⟨p, e, R, s, m, args, below, meth, c, cells, slots, Q, A⟩ := X
  exact h
theorem FnA.of {y : MethodName} {rm : Room} {As : List Value} {rv : Option Value} {PM : Mm → Prop} {mc ms : Nat} {cc : ByteArray} {ins : List (Nat × Instr × Nat)} {maxL : Nat} {ret : Option FieldType} (hy : plainName y.cls = true) (hdc : ins.all (fun q => decide (decode cc q.1 = .ok q.2)) = true) (L0 : List (Option Value)) (hen : (lg_sl As).length ≤ maxL) (hL0 : L0.length = maxL) (hsub : la 0 L0 = lv_args 0 As)
    (body : ∀ X : XT, vOK Y X ins maxL y.cls rm ret → xce X = 0 → xsl X = 0 → vQA Y X rv PM mc ms → V Y X M 0 L0 []) : FnA Y y (Cond.code y cc maxL ret :: wT) rm As M rv PM mc ms := by
  obtain ⟨l, D, cy, ad, z, sc⟩ := Y
  refine Met.ofW (cc := cc) (maxL := maxL) (ret := ret) hy rfl ?_
  intro p e s m args below meth c s₁ B hml hv
  obtain ⟨rfl, hP, hK, hD, hN⟩ := hv
  have hl := lv_entry As hen
  rw [← hsub] at hl
  rw [lg_entry_eq]
  exact body (p, e, rm, s, m, As.toArray, below, meth, c, 0, 0, MQ below (fun _ st oc t => oc = .returned rv ∧ (∃ M' : Mm, PM M' ∧ va_P D vwCl (wl cy ad sc M') t.heap) ∧ va_F (fA z) st t) As.toArray s mc ms (fA z), fA z)
    ⟨B.exec, by rw [B.bytes]; exact dcd hdc, hml, fun w hw => atoms_spec (ws := Cond.code y cc maxL ret :: wT) B.pre w (List.mem_cons_of_mem _ hw), findClass_of_methodNamed B.named, hK, ⟨hD, rfl, zl_of hD hP⟩, hN, rfl, B.returns, B.notSynchronized, Nat.zero_le _, Nat.zero_le _⟩ rfl rfl rfl s.heap [] _ hP va_S.rf (by subst hL0; exact hl)
theorem wl_pre {cy : Nat → ClassId} {ad : Nat → Nat} {sc t : List (Nat × Nat)} {M : Mm} {D : va_G} {H : Heap} (h : va_P D vwCl (wl cy ad (sc ++ t) M) H) : va_P D vwCl (wl cy ad sc M) H := by
  intro k q hq
  refine h k q ?_
  by_cases hk : k < 279
  · rw [wl_get (M := M) hk rfl] at hq ⊢
    exact hq
  · obtain ⟨j, rfl⟩ : ∃ j, k = 279 + j := ⟨k - 279, by omega⟩
    unfold wl at hq ⊢
    rw [List.getElem?_append_right (by rw [fx_len]; omega), fx_len, Nat.add_sub_cancel_left, sw_get] at hq ⊢
    cases hj : sc[j]? with
    | none => rw [hj] at hq; cases hq
    | some r =>
      rw [List.getElem?_append_left (List.getElem?_eq_some_iff.mp hj).1]
      exact hq
theorem v_ireA {Y2 : Yt} (hX : vOK Y2 X ins nL own rm ret) {t : List (Nat × Nat)} (hY : Y2 = (Y.1, Y.2.1, Y.2.2.1, Y.2.2.2.1, Y.2.2.2.2.1, t)) (h0 : Y.2.2.2.2.2 = []) {ty : FieldType} {x : Int32} {rv : Option Value} {PM : Mm → Prop} {mc ms : Nat} {M0 : Mm} (hQ : vQA Y X rv PM mc ms) (hc : xce X ≤ mc) (hs : xsl X ≤ ms) (hr : ret = some ty) (hn : narrow ty (.int x) = .int x) (hv : rv = some (.int x)) (hM : PM M0) (hE : ∃ f, M = mrow M0 2 f) (ix : Nat) (hd : gi ins ix = some (pc, .ireturn, 1)) : V Y2 X M pc L [.int x] := by
  subst hY
  obtain ⟨l, D, cy, ad, z, sc⟩ := Y
  obtain ⟨p, e, R, s, m, args, below, meth, c, cells, slots, Q, A⟩ := X
  obtain ⟨hx, hcd, hml, hts, hown, hK, ⟨hdd, hda, hz⟩, hN, rfl, hret, hlk, hcl, hsl⟩ := hX
  intro H locs ls hP hS hl
  have hd := hcd ix _ hd
  subst hda
  have h0 : sc = [] := h0
  subst h0
  obtain rfl := hQ
  subst hv
  obtain ⟨f, rfl⟩ := hE
  have e1 : wl cy ad [] (mrow M0 2 f) = wl cy ad [] M0 := by
    unfold wl
    rw [fx_congr (M := mrow M0 2 f) (M' := M0) (fun k hk => by
      by_cases e : k = 2
      · subst e; exact cG_2
      · rw [mrow_n e]; rfl)]
    rfl
  have hP2 : va_P D vwCl (wl cy ad [] M0) H := by
    rw [← e1]
    exact wl_pre (t := t) (by rw [List.nil_append]; exact hP)
  exact W.widen hc hs (W.zret hx rfl (hret.trans hr) hn (fun t2 ht _ => ⟨rfl, ⟨M0, hM, by rw [ht]; exact hP2⟩, hS.F ht⟩) hS.2.2 hd hlk)
theorem v_runA {p : Program} {l : Launch} {e : Env} {R : Room} {s : State} {m : MethodId} {args : Array Value} {below : List Frame} {meth : Method} {c : Code} {H : Heap} {locs : List Loc} {cells slots mc ms : Nat} {Q : State → Prop} {pc : Nat} {ls : Array Slot} {rest st0 : List Value} {A0 A1 : Nat → Prop} {H0 : Heap} {PH : Heap → Prop} {rv : Option Value}
    (hr : va_Run p l e R s m args below meth c H locs cells slots mc ms (F0 m pc ls st0) rest (fun st oc t => oc = .returned rv ∧ PH t.heap ∧ va_F A1 st t) A1) (hS : va_S A0 H0 H locs) (hA : ∀ q, A1 q → A0 q)
    (kk : ∀ (H1 : Heap) (locs1 : List Loc), PH H1 → va_S A0 H0 H1 locs1 → W p l e R s m args below meth c H1 locs1 (cells + mc) (slots + ms) Q (F0 m (pc + 3) ls (rv.toList ++ rest))) : W p l e R s m args below meth c H locs cells slots Q (F0 m pc ls st0) := by
  intro T hT X
  obtain ⟨v, st₀, t, T', L, h0, X', hL, e1, e2, ⟨hv, hp, hz, hk⟩, st⟩ := hr T hT X
  cases hv
  rw [h0] at hz hk
  obtain ⟨t2, a1, b1⟩ := kk T'.heap (locs ++ L) (by rw [e1]; exact hp)
    ⟨Nat.le_trans hS.1 (by rw [e1]; exact hz), fun q h1 h2 => by rw [e1, hk q (Nat.lt_of_lt_of_le h1 hS.1) (fun z => h2 (hA q z))]; exact hS.2.1 q h1 h2, fun q hq => by
      rcases List.mem_append.mp hq with h | h
      · exact hS.2.2 q h
      · exact hA _ (hL q h)⟩ T' rfl X'
  exact ⟨t2, st t2 a1, b1⟩
theorem v_callSA (hX : vOK Y X ins nL own rm ret) (nA : Nat) {y : MethodName} {rmc : Room} {rv : Option Value} {bytes : ByteArray} {maxL index mc ms : Nat} {retc : Option FieldType} {st0 : List Value} {As : List Value} {PM : Mm → Prop} (hF : FnA Y y (Cond.code y bytes maxL retc :: wT) rmc As M rv PM mc ms) (hcw : Cond.code y bytes maxL retc ∈ wT) (hlink : Cond.methodLink own index y ∈ wT) (hstt : Cond.static y ∈ wT) (hini : Cond.initialized y.cls ∈ wT) (hdd2 : y.cls ≠ "java/lang/invoke/MethodHandle" ∧ y.cls ≠ "java/lang/invoke/VarHandle" ∧ (parseMethodDescriptor y.desc).map (fun d => d.parameters.length) = some nA) (hR : (rmc.cells = mc ∧ rmc.slots = ms) ∧ rmc.frames + 1 ≤ rm.frames ∧ 8 + (maxL + 11) + rmc.locals ≤ rm.locals) (hcs : xce X + mc ≤ rm.cells ∧ xsl X + ms ≤ rm.slots) (hL : L.length = nL) (hW : (st.map fun v => v.category).sum ≤ 8) (hnA : As.length = nA) (hst : st0 = As.reverse ++ st) (ix : Nat) (hd : gi ins ix = some (pc, .invokestatic index, 3)) (kk : ∀ M' : Mm, PM M' → V Y (xc X mc ms) M' (pc + 3) L (rv.toList ++ st)) : V Y X M pc L st0 := by
  obtain ⟨l, D, cy, ad, z, sc⟩ := Y
  obtain ⟨p, e, R, s, m, args, below, meth, c, cells, slots, Q, A⟩ := X
  obtain ⟨hx, hcd, hml, hts, hown, hK, ⟨hdd, hda⟩, hN, rfl, hret, hlk, hcl, hsl⟩ := hX
  intro H locs ls hP hS hl
  have hd := hcd ix _ hd
  refine v_runA (PH := fun H1 => ∃ M' : Mm, PM M' ∧ va_P D vwCl (wl cy ad sc M') H1) (A1 := fA z) (rest := st) (mc := mc) (ms := ms) (va_runS (As := As) (rest := st) ⟨hx, rfl, hml, hown, hts⟩ hF (va_cwS nA hts (gS hcw hlink hstt hini) rfl hR.1.1 hR.1.2 hdd2 hR.2) ⟨wd_blind, fun U hU hW => ⟨rfl, by rw [hU]; exact hP, va_K.moved hW.alike hK, hdd, Nn.warm hW hN⟩⟩ rfl hnA (hl.1.trans hL) hst (lv_room hW) hd hcs) hS (fA_sub hda) (fun H1 locs1 hP1 hS1 => ?_)
  obtain ⟨M', h1, h2⟩ := hP1
  exact kk M' h1 H1 locs1 ls h2 hS1 hl
def scp (X : XT) (b N : Nat) (xs : Nat → Int32) : Prop :=
  match X with
  | (_, _, _, s, _, _, _, _, _, _, _, _, A) => va_X b N xs s s.heap ∧ b < s.heap.size ∧ ¬ A b
theorem scp.xc {b N a2 b2 : Nat} {xs : Nat → Int32} (h : scp X b N xs) : scp (xc X a2 b2) b N xs := by
  obtain ⟨p, e, R, s, m, args, below, meth, c, cells, slots, Q, A⟩ := X
  exact h
theorem v_sld (hX : vOK Y X ins nL own rm ret) {b N : Nat} {xs : Nat → Int32} (hs : scp X b N xs) {i : Int32} (hin : vp_in i N) (ix : Nat) (hd : gi ins ix = some (pc, .iaload, 1)) (kk : V Y X M (pc + 1) L (.int (xs i.toNatClampNeg) :: st)) : V Y X M pc L (.int i :: .ref b :: st) := by
  obtain ⟨l, D, cy, ad, z, sc⟩ := Y
  obtain ⟨p, e, R, s, m, args, below, meth, c, cells, slots, Q, A⟩ := X
  obtain ⟨hx, hcd, hml, hts, hown, hK, ⟨hdd, hda⟩, hN, rfl, hret, hlk, hcl, hsl⟩ := hX
  intro H locs ls hP hS hl
  have hd := hcd ix _ hd
  exact va_sld hx rfl hs.1 hs.2.1 hs.2.2 hS hin hd (kk H locs ls hP hS hl)
theorem v_slen (hX : vOK Y X ins nL own rm ret) {b N : Nat} {xs : Nat → Int32} (hs : scp X b N xs) (ix : Nat) (hd : gi ins ix = some (pc, .arraylength, 1)) (kk : V Y X M (pc + 1) L (.int (nI N) :: st)) : V Y X M pc L (.ref b :: st) := by
  obtain ⟨l, D, cy, ad, z, sc⟩ := Y
  obtain ⟨p, e, R, s, m, args, below, meth, c, cells, slots, Q, A⟩ := X
  obtain ⟨hx, hcd, hml, hts, hown, hK, ⟨hdd, hda⟩, hN, rfl, hret, hlk, hcl, hsl⟩ := hX
  intro H locs ls hP hS hl
  have hd := hcd ix _ hd
  exact va_slen hx rfl hs.1 hs.2.1 hs.2.2 hS hd (kk H locs ls hP hS hl)
def wdS (Y : Yt) (M : Mm) (b N : Nat) (xs : Nat → Int32) (U : State) : Prop := wd Y M U ∧ va_X b N xs U U.heap ∧ b < Y.2.2.2.2.1
def FnS (Y : Yt) (y : MethodName) (ws : List Cond) (rm : Room) (As : List Value) (M : Mm) (rv : Option Value) (b N : Nat) (xs : Nat → Int32) : Prop :=
  match Y with
  | (l, D, cy, ad, z, sc) => Met l y ws rm (va_Pc As (wdS (l, D, cy, ad, z, sc) M b N xs)) (fun _ st oc t => oc = .returned rv ∧ va_P D vwCl (wl cy ad sc M) t.heap ∧ va_F (fA z) st t) 0 0 (fA z)
theorem FnS.of {y : MethodName} {rm : Room} {As : List Value} {rv : Option Value} {cc : ByteArray} {maxL : Nat} {ret : Option FieldType} {b N : Nat} {xs : Nat → Int32} (hy : plainName y.cls = true) (hdc : ins.all (fun q => decide (decode cc q.1 = .ok q.2)) = true) (L0 : List (Option Value)) (hen : (lg_sl As).length ≤ maxL) (hL0 : L0.length = maxL) (hsub : la 0 L0 = lv_args 0 As)
    (body : ∀ X : XT, vOK Y X ins maxL y.cls rm ret → vQ Y X rv M → scp X b N xs → V Y X M 0 L0 []) : FnS Y y (Cond.code y cc maxL ret :: wT) rm As M rv b N xs := by
  obtain ⟨l, D, cy, ad, z, sc⟩ := Y
  refine Met.ofW (cc := cc) (maxL := maxL) (ret := ret) hy rfl ?_
  intro p e s m args below meth c s₁ B hml hv
  obtain ⟨rfl, ⟨hP, hK, hD, hN⟩, hXs, hbz⟩ := hv
  have hl := lv_entry As hen
  rw [← hsub] at hl
  rw [lg_entry_eq]
  have hbl : b < s.heap.size := by
    obtain ⟨scr, h1, _⟩ := hXs
    exact (Array.getElem?_eq_some_iff.mp h1).1
  exact body (p, e, rm, s, m, As.toArray, below, meth, c, 0, 0, MQ below (fun _ st oc t => oc = .returned rv ∧ va_P D vwCl (wl cy ad sc M) t.heap ∧ va_F (fA z) st t) As.toArray s 0 0 (fA z), fA z)
    ⟨B.exec, by rw [B.bytes]; exact dcd hdc, hml, fun w hw => atoms_spec (ws := Cond.code y cc maxL ret :: wT) B.pre w (List.mem_cons_of_mem _ hw), findClass_of_methodNamed B.named, hK, ⟨hD, rfl, zl_of hD hP⟩, hN, rfl, B.returns, B.notSynchronized, Nat.zero_le _, Nat.zero_le _⟩ ⟨rfl, rfl⟩ ⟨hXs, hbl, Nat.not_le.mpr hbz⟩ s.heap [] _ hP va_S.rf (by subst hL0; exact hl)
theorem va_X.alike {b N : Nat} {xs : Nat → Int32} {u U : State} {H H' : Heap} (hvm : u.vm.Alike U.vm) (hH : H'[b]? = H[b]?) (h : va_X b N xs u H) : va_X b N xs U H' := by
  obtain ⟨scr, h1, h2, h3, h4, h5⟩ := h
  exact ⟨scr, by rw [hH]; exact h1, State.isArrayOf_alike hvm h2, h3, h4, h5⟩
theorem wdS_blind {b N : Nat} {xs : Nat → Int32} {As : List Value} : FrameBlind (va_Pc As (wdS Y M b N xs)) := by
  intro a U g mk h
  obtain ⟨h1, h2, h3, h4⟩ := h
  have h5 := wd_blind (Y := Y) (M := M) (As := As) a U g mk ⟨h1, h2⟩
  exact ⟨h1, h5.2, va_X.alike (Vm.Alike.refl U.vm) rfl h3, h4⟩
theorem v_callSS (hX : vOK Y X ins nL own rm ret) (nA : Nat) {y : MethodName} {rmc : Room} {rv : Option Value} {bytes : ByteArray} {maxL index : Nat} {retc : Option FieldType} {st0 : List Value} {As : List Value} {b N : Nat} {xs : Nat → Int32} (hsc : scp X b N xs) (hF : FnS Y y (Cond.code y bytes maxL retc :: wT) rmc As M rv b N xs) (hcw : Cond.code y bytes maxL retc ∈ wT) (hlink : Cond.methodLink own index y ∈ wT) (hstt : Cond.static y ∈ wT) (hini : Cond.initialized y.cls ∈ wT) (hdd2 : y.cls ≠ "java/lang/invoke/MethodHandle" ∧ y.cls ≠ "java/lang/invoke/VarHandle" ∧ (parseMethodDescriptor y.desc).map (fun d => d.parameters.length) = some nA) (hR : (rmc.cells = 0 ∧ rmc.slots = 0) ∧ rmc.frames + 1 ≤ rm.frames ∧ 8 + (maxL + 11) + rmc.locals ≤ rm.locals) (hL : L.length = nL) (hW : (st.map fun v => v.category).sum ≤ 8) (hnA : As.length = nA) (hst : st0 = As.reverse ++ st) (ix : Nat) (hd : gi ins ix = some (pc, .invokestatic index, 3)) (kk : V Y X M (pc + 3) L (rv.toList ++ st)) : V Y X M pc L st0 := by
  obtain ⟨l, D, cy, ad, z, sc⟩ := Y
  obtain ⟨p, e, R, s, m, args, below, meth, c, cells, slots, Q, A⟩ := X
  obtain ⟨hx, hcd, hml, hts, hown, hK, ⟨hdd, hda, hz⟩, hN, rfl, hret, hlk, hcl, hsl⟩ := hX
  intro H locs ls hP hS hl
  have hd := hcd ix _ hd
  obtain ⟨hs1, hs2, hs3⟩ := hsc
  subst hda
  refine v_run (w1 := wl cy ad sc M) (A1 := fA z) (rest := st) (va_runS (As := As) (rest := st) ⟨hx, rfl, hml, hown, hts⟩ hF (va_cwS nA hts (gS hcw hlink hstt hini) rfl hR.1.1 hR.1.2 hdd2 hR.2) ⟨wdS_blind, fun U hU hW => ⟨rfl, ⟨by rw [hU]; exact hP, va_K.moved hW.alike hK, hdd, Nn.warm hW hN⟩, va_X.alike hW.alike (by rw [hU]; exact hS.2.1 b hs2 hs3) hs1, Nat.not_le.mp hs3⟩⟩ rfl hnA (hl.1.trans hL) hst (lv_room hW) hd ⟨hcl, hsl⟩) hS (fun _ h => h) (fun H1 locs1 hP1 hS1 => kk H1 locs1 ls hP1 hS1 hl)
theorem aC_270 : aC Y 270 0 (Y.2.2.2.1 270) 24 := Or.inl ⟨rfl, by decide, by decide, rfl, fun _ _ => rfl⟩
theorem aC_271 : aC Y 271 0 (Y.2.2.2.1 271) 24 := Or.inl ⟨rfl, by decide, by decide, rfl, fun _ _ => rfl⟩
theorem aC_272 : aC Y 272 0 (Y.2.2.2.1 272) 24 := Or.inl ⟨rfl, by decide, by decide, rfl, fun _ _ => rfl⟩
theorem aC_273 : aC Y 273 0 (Y.2.2.2.1 273) 24 := Or.inl ⟨rfl, by decide, by decide, rfl, fun _ _ => rfl⟩
theorem aC_274 : aC Y 274 0 (Y.2.2.2.1 274) 24 := Or.inl ⟨rfl, by decide, by decide, rfl, fun _ _ => rfl⟩
theorem aC_275 : aC Y 275 0 (Y.2.2.2.1 275) 24 := Or.inl ⟨rfl, by decide, by decide, rfl, fun _ _ => rfl⟩
theorem aC_276 : aC Y 276 0 (Y.2.2.2.1 276) 24 := Or.inl ⟨rfl, by decide, by decide, rfl, fun _ _ => rfl⟩
theorem aC_277 : aC Y 277 0 (Y.2.2.2.1 277) 24 := Or.inl ⟨rfl, by decide, by decide, rfl, fun _ _ => rfl⟩
theorem aC_278 : aC Y 278 0 (Y.2.2.2.1 278) 5 := Or.inl ⟨rfl, by decide, by decide, rfl, fun _ _ => rfl⟩
theorem l_cell {Y : Yt} {M : Mm} {b N k : Nat} {xs : Nat → Int32} (hN : N < 2 ^ 31) (hk : k < 2 ^ 31) : FnS Y yL_cell wsL_cell { frames := 0, cells := 0, slots := 0, locals := 0 } [.ref b, .int (nI k)] M (some (.int (if k < N then xs k else 32452867 * nI k + 15485863))) b N xs := by
  refine FnS.of (cc := cL_cell) (ins := iL_cell) (maxL := 2) (ret := (some .int)) (by decide) dL_cell [some (.ref b), some (.int (nI k))] (Nat.le_of_ble_eq_true rfl) rfl rfl ?_
  intro X hX hQ hs
  refine v_iload_n hX 1 0 rfl rfl rfl ?_
  refine v_aload_n hX 0 1 rfl rfl rfl ?_
  refine v_slen hX hs 2 rfl ?_
  refine v_icmp_ge hX (tgt := 12) 3 rfl (by decide) (fun c3 => ?_) (fun c3 => ?_)
  · have h : ¬ k < N := by have := of_le c3 (by omega) (by omega); omega
    rw [if_neg h] at hQ
    refine v_ldc hX tw_352 8 rfl ?_
    refine v_iload_n hX 1 9 rfl rfl rfl ?_
    refine v_imul hX 10 rfl ?_
    refine v_ldc hX tw_353 11 rfl ?_
    refine v_iadd hX 12 rfl ?_
    exact v_iret hX hQ rfl rfl rfl rfl 13 rfl
  · have h : k < N := of_nle c3 (by omega) (by omega)
    rw [if_pos h] at hQ
    refine v_aload_n hX 0 4 rfl rfl rfl ?_
    refine v_iload_n hX 1 5 rfl rfl rfl ?_
    refine v_sld hX hs (vp_in_nI h (by omega)) 6 rfl ?_
    rw [nI_clamp hk]
    refine v_goto hX (tgt := 19) 7 rfl (by decide) ?_
    exact v_iret hX hQ rfl rfl rfl rfl 13 rfl
end VM
end
section
theorem nI_sub {a b : Nat} (h : b ≤ a) : nI a - nI b = nI (a - b) := by
  have e : nI a = nI (a - b) + nI b := by rw [nI_add, Nat.sub_add_cancel h]
  rw [e, Int32.add_sub_cancel]
theorem nI_mul (a b : Nat) : nI a * nI b = nI (a * b) := (Int32.ofNat_mul a b).symm
theorem nI_mod {a b : Nat} (ha : a < 2 ^ 31) (hb : b < 2 ^ 31) : nI a - nI a / nI b * nI b = nI (a % b) := by
  have e : nI a / nI b = nI (a / b) := (Int32.ofNat_div ha hb).symm
  have h1 : a / b * b ≤ a := Nat.div_mul_le_self a b
  have h2 : a / b * b + a % b = a := Nat.div_add_mod' a b
  rw [e, nI_mul, nI_sub h1]
  congr 1
  omega
theorem lw_nn (v : Int32) : ∃ j, j < 2 ^ 31 ∧ v &&& 2147483647 = nI j := nI_of (by
  intro h
  rw [Int32.lt_iff_toInt_lt] at h
  have h2 : (v &&& 2147483647).toBitVec.msb = true := by
    rw [BitVec.msb_eq_toInt]
    exact decide_eq_true h
  rw [Int32.toBitVec_and, BitVec.msb_and] at h2
  have h3 : (2147483647 : Int32).toBitVec.msb = false := by decide
  rw [h3, Bool.and_false] at h2
  cases h2)
def lo0 (v : Int32) (n : Nat) : Nat := (v &&& 2147483647).toNatClampNeg % n
theorem lo0_lt {v : Int32} {n : Nat} (h : 0 < n) : lo0 v n < n := Nat.mod_lt _ h
theorem lo0_eq {v : Int32} {n : Nat} (hn : n < 2 ^ 31) : (v &&& 2147483647) - (v &&& 2147483647) / nI n * nI n = nI (lo0 v n) := by
  obtain ⟨j, hj, e⟩ := lw_nn v
  unfold lo0
  rw [e, nI_clamp hj, nI_mod hj hn]
theorem b_1 {i : Nat} (hi : i < 32) : bt 1 i = decide (i = 0) := by
  have h := bt_one (k := 0) (i := i) (by omega) hi
  rw [show ((1 : Int32) <<< (nI 0 &&& 31)) = 1 from by decide] at h
  exact h
theorem shr1 {x : Int32} {k : Nat} (hk : k < 31) : (x >>> (nI k &&& 31)) &&& 1 = if bt x k = true then 1 else 0 := by
  apply b_ext
  intro i hi
  rw [b_and, b_sshr k (by omega) x hi, b_1 hi]
  by_cases e : i = 0
  · subst e
    rw [decide_eq_true rfl, Bool.and_true, if_pos (by omega), Nat.add_zero]
    cases h : bt x k
    · rw [if_neg (by decide), b_0]
    · rw [if_pos rfl, b_1 hi]; rfl
  · rw [decide_eq_false e, Bool.and_false]
    cases bt x k
    · rw [if_neg (by decide), b_0]
    · rw [if_pos rfl, b_1 hi, decide_eq_false e]
theorem shr1n {x : Int32} {k : Nat} (hk : k < 31) : (x >>> (nI k &&& 31)) &&& 1 = nI (if bt x k = true then 1 else 0) := by
  rw [shr1 hk]
  split <;> rfl
theorem cnt_pos {q : Nat → Bool} {n : Nat} : 0 < cnt q n ↔ ∃ i, i < n ∧ q i = true := by
  induction n with
  | zero => simp [cnt]
  | succ n ih =>
    rw [cnt]
    constructor
    · intro h
      by_cases g : q n = true
      · exact ⟨n, by omega, g⟩
      · rw [if_neg g] at h
        obtain ⟨i, h1, h2⟩ := ih.mp h
        exact ⟨i, by omega, h2⟩
    · rintro ⟨i, h1, h2⟩
      by_cases g : i = n
      · subst g; rw [if_pos h2]; omega
      · have := ih.mpr ⟨i, by omega, h2⟩
        omega
theorem cnt_bt {p : Nat → Bool} {n : Nat} (hn : n ≤ 24) : cnt (bt (mk p n)) 24 = cnt p n := by
  rw [cnt_ext hn (fun i hi => by
    by_cases h : i < 32
    · rw [bt_mk _ (by omega) h, decide_eq_false (by omega)]; rfl
    · exact b_big (by omega))]
  exact cnt_congr (fun i hi => by rw [bt_mk _ (by omega) (by omega), decide_eq_true hi, Bool.true_and])
def rz1 (P : Nat → Nat → Int32) (d la pg ov : Int32) (i : Nat) : Int32 := if pWd P i = true then 1 else if pSk P pg i = true then 2 else if pLp P d la i = true then 3 else if pBl P ov i = true then 4 else 0
theorem rz1_0 {P : Nat → Nat → Int32} {d la pg ov : Int32} {i : Nat} : (rz1 P d la pg ov i != 0) = pOut P d la pg ov i := by
  unfold rz1 pOut
  cases pWd P i <;> cases pSk P pg i <;> cases pLp P d la i <;> cases pBl P ov i <;> rfl
theorem rz1_12 {P : Nat → Nat → Int32} {d la pg ov : Int32} {i : Nat} : (¬ rz1 P d la pg ov i = 1 ∧ ¬ rz1 P d la pg ov i = 2) ↔ (pWd P i = false ∧ pSk P pg i = false) := by
  unfold rz1
  cases pWd P i <;> cases pSk P pg i <;> cases pLp P d la i <;> cases pBl P ov i <;> simp (decide := true)
theorem tk_rz {P : Nat → Nat → Int32} {d la pg ov s : Int32} {q n : Nat} (hw : WF P n) (hq : q < n) : tk P pg s (q + 1) = tk P pg s q + (if P q 0 = s ∧ ¬ rz1 P d la pg ov q = 1 ∧ ¬ rz1 P d la pg ov q = 2 then P q 1 else 0) := by
  simp only [rz1_12]
  rw [tk]
  have h6 := (hw q hq).2.2
  by_cases h0 : P q 0 = s
  · subst h0
    rcases h6 with h6 | h6
    · have e1 : pWd P q = false := by unfold pWd; rw [h6]; rfl
      have e2 : pSk P pg q = !decide (tk P pg (P q 0) q + P q 1 ≤ pg) := by unfold pSk stK; rw [h6]; simp
      rw [if_pos ⟨rfl, h6⟩, e1, e2]
      by_cases g : tk P pg (P q 0) q + P q 1 ≤ pg
      · rw [if_pos g, if_pos (by simp [g])]
      · rw [if_neg g, if_neg (by simp [g]), Int32.add_zero]
    · have e1 : pWd P q = true := by unfold pWd; rw [h6]; rfl
      rw [if_neg (fun g => by rw [h6] at g; exact absurd g.2 (by decide)), e1, if_neg (by simp), Int32.add_zero]
  · rw [if_neg (fun g => h0 g.1), if_neg (fun g => h0 g.1), Int32.add_zero]
def toV (P : Nat → Nat → Int32) (i : Nat) : Int32 := if P i 3 = -6 then -1 else P i 3
theorem toV_c {P : Nat → Nat → Int32} {n i : Nat} (hw : WF P n) (hi : i < n) : (P i 3 = -6 ∧ toV P i = -1) ∨ ∃ t, t < i ∧ P i 3 = nI t ∧ toV P i = nI t := by
  unfold toV
  rcases (hw i hi).2.1 with h | ⟨t, h1, h2⟩
  · exact Or.inl ⟨h, if_pos h⟩
  · by_cases e : P i 3 = -6
    · exact Or.inl ⟨e, if_pos e⟩
    · exact Or.inr ⟨t, h1, h2, by rw [if_neg e, h2]⟩
theorem nI_n6 : ∀ t, t < 24 → ¬ nI t = -6 := by decide +kernel
theorem nI_n1 : ∀ t, t < 24 → ¬ nI t = -1 := by decide +kernel
theorem toV_lt {P : Nat → Nat → Int32} {n i : Nat} (hw : WF P n) (hn : n ≤ 24) (hi : i < n) : toV P i < 0 ↔ P i 3 = -6 := by
  rcases toV_c hw hi with ⟨h1, h2⟩ | ⟨t, h0, h1, h2⟩
  · rw [h1, h2]; decide
  · rw [h1, h2]
    exact ⟨fun h => absurd h (nI_pos (by omega)), fun h => absurd h (nI_n6 t (by omega))⟩
theorem toV_eq {P : Nat → Nat → Int32} {n i p : Nat} (hw : WF P n) (hn : n ≤ 24) (hi : i < n) (hp : p < 24) : toV P i = nI p ↔ P i 3 = nI p := by
  rcases toV_c hw hi with ⟨h1, h2⟩ | ⟨t, h0, h1, h2⟩
  · rw [h1, h2]
    exact ⟨fun h => absurd h.symm (nI_n1 p hp), fun h => absurd h.symm (nI_n6 p hp)⟩
  · rw [h1, h2]
def sm9 (P : Nat → Nat → Int32) (n : Nat) : Prop := ∀ i, i < n → (∃ s, s ≤ 999 ∧ P i 5 = nI s) ∧ (∃ c, c < 1024 ∧ P i 2 = nI c) ∧ ∃ g, 1 ≤ g ∧ g ≤ 9 ∧ P i 1 = nI g
def LSt (M : Mm) (P : Nat → Nat → Int32) (n : Nat) : Prop := ∀ i, i < n → M.1 270 i = P i 0 ∧ M.1 271 i = P i 1 ∧ M.1 272 i = P i 4 ∧ M.1 273 i = P i 5 ∧ M.1 274 i = toV P i ∧ M.1 275 i = P i 2 ∧ M.1 276 i = P i 6
theorem lp_eq {P : Nat → Nat → Int32} {i dy l : Nat} (h : sm9 P (i + 1)) (hd : dy ≤ 3000) (hl : l ≤ 60) (h3 : ¬ P i 3 = -6) : pLp P (nI dy) (nI l) i = !decide (nI dy ≤ P i 5 + nI l) := by
  obtain ⟨⟨s, hs, e⟩, _⟩ := h i (by omega)
  unfold pLp
  rw [e]
  have e1 : (P i 3 != -6) = true := by simp [h3]
  rw [e1, Bool.true_and, nI_add]
  congr 1
  apply decide_eq_decide.mpr
  rw [Int32.le_iff_toInt_le, Int32.le_iff_toInt_le, Int32.toInt_sub, nI_toInt (by omega), nI_toInt (by omega), nI_toInt (by omega), nI_toInt (by omega), Int.bmod_eq_of_le (by omega) (by omega)]
  omega
theorem bl_eq {x y : Int32} : ((x &&& (y ^^^ (-1))) == 0) = decide (x ||| y = y) := by
  rw [Bool.eq_iff_iff, beq_iff_eq, decide_eq_true_eq]
  constructor
  · intro h
    apply b_ext
    intro i hi
    have h1 : bt (x &&& (y ^^^ (-1))) i = false := by rw [h, b_0]
    rw [b_and, b_xor, b_m1 i hi] at h1
    rw [b_or]
    revert h1
    cases bt x i <;> cases bt y i <;> simp
  · intro h
    apply b_ext
    intro i hi
    have h1 : bt (x ||| y) i = bt y i := by rw [h]
    rw [b_or] at h1
    rw [b_and, b_xor, b_m1 i hi, b_0]
    revert h1
    cases bt x i <;> cases bt y i <;> simp
def rzW (P : Nat → Nat → Int32) (d la pg ov more : Int32) (n : Nat) : Nat → Int32 := fun i => if rz1 P d la pg ov i = 0 then (if sd (pOut P d la pg ov) (bt more) P n i = true then 0 else 5) else rz1 P d la pg ov i
def r1A (f : Nat → Int32) (P : Nat → Nat → Int32) (d la pg ov : Int32) (p : Nat) : Nat → Int32 := fun i => if i < p then rz1 P d la pg ov i else f i
def r2A (f : Nat → Int32) (P : Nat → Nat → Int32) (d la pg ov more : Int32) (n m : Nat) : Nat → Int32 := fun i => if i < n then (if m ≤ i then rzW P d la pg ov more n i else rz1 P d la pg ov i) else f i
theorem r1A_0 {f : Nat → Int32} {P : Nat → Nat → Int32} {d la pg ov : Int32} : r1A f P d la pg ov 0 = f := by funext i; unfold r1A; rw [if_neg (by omega)]
theorem r1A_s {f : Nat → Int32} {P : Nat → Nat → Int32} {d la pg ov : Int32} {p : Nat} : upd (r1A f P d la pg ov p) p (rz1 P d la pg ov p) = r1A f P d la pg ov (p + 1) := by
  funext i
  unfold upd r1A
  by_cases h : i = p
  · subst h; simp
  · have : (i < p + 1) ↔ (i < p) := by constructor <;> (intro g; omega)
    simp [h, this]
theorem r2A_n {f : Nat → Int32} {P : Nat → Nat → Int32} {d la pg ov more : Int32} {n : Nat} : r2A f P d la pg ov more n n = r1A f P d la pg ov n := by
  funext i
  unfold r2A r1A
  by_cases h : i < n
  · rw [if_pos h, if_pos h, if_neg (by omega)]
  · rw [if_neg h, if_neg h]
theorem r2A_s {f : Nat → Int32} {P : Nat → Nat → Int32} {d la pg ov more : Int32} {n m : Nat} (hm : m < n) : upd (r2A f P d la pg ov more n (m + 1)) m (rzW P d la pg ov more n m) = r2A f P d la pg ov more n m := by
  funext i
  unfold upd r2A
  by_cases h : i = m
  · subst h; simp [hm]
  · have : (m + 1 ≤ i) ↔ (m ≤ i) := by constructor <;> (intro g; omega)
    simp [h, this]
theorem r2A_k {f : Nat → Int32} {P : Nat → Nat → Int32} {d la pg ov more : Int32} {n m : Nat} (hm : m < n) (h : ¬ rz1 P d la pg ov m = 0) : r2A f P d la pg ov more n (m + 1) = r2A f P d la pg ov more n m := by
  funext i
  unfold r2A
  by_cases e : i = m
  · subst e; rw [if_pos hm, if_pos hm, if_neg (by omega), if_pos (Nat.le_refl _)]; unfold rzW; rw [if_neg h]
  · have : (m + 1 ≤ i) ↔ (m ≤ i) := by constructor <;> (intro g; omega)
    simp [this]
def rzA (f : Nat → Int32) (P : Nat → Nat → Int32) (d la pg ov more : Int32) (n : Nat) : Nat → Int32 := fun i => if i < n then rzW P d la pg ov more n i else f i
theorem r2A_0 {f : Nat → Int32} {P : Nat → Nat → Int32} {d la pg ov more : Int32} {n : Nat} : r2A f P d la pg ov more n 0 = rzA f P d la pg ov more n := by
  funext i
  unfold r2A rzA
  rw [if_pos (Nat.zero_le i)]
theorem rzW_0 {P : Nat → Nat → Int32} {d la pg ov more : Int32} {n i : Nat} (hi : i < n) : rzW P d la pg ov more n i = 0 ↔ sd (pOut P d la pg ov) (bt more) P n i = true := by
  unfold rzW
  constructor
  · intro h
    by_cases g : rz1 P d la pg ov i = 0
    · rw [if_pos g] at h
      cases hs : sd (pOut P d la pg ov) (bt more) P n i
      · rw [hs, if_neg (by decide)] at h; exact absurd h (by decide)
      · rfl
    · rw [if_neg g] at h; exact absurd h g
  · intro h
    have h1 := h
    rw [sd_eq hi] at h1
    have h2 : pOut P d la pg ov i = false := by
      cases hp : pOut P d la pg ov i
      · rfl
      · rw [hp] at h1; simp at h1
    have h3 : rz1 P d la pg ov i = 0 := by
      have := rz1_0 (P := P) (d := d) (la := la) (pg := pg) (ov := ov) (i := i)
      rw [h2] at this
      simpa using this
    rw [if_pos h3, if_pos h]
def stQ (P : Nat → Nat → Int32) (d la pg ov more : Int32) (n p : Nat) : Nat → Bool := fun a => decide (p < a) && (P a 3 == nI p && sd (pOut P d la pg ov) (bt more) P n a)
def stN (P : Nat → Nat → Int32) (d la pg ov more : Int32) (n p a : Nat) : Nat := (if bt more p = true then 1 else 0) + cnt (stQ P d la pg ov more n p) a
theorem stN_0 {P : Nat → Nat → Int32} {d la pg ov more : Int32} {n p : Nat} : stN P d la pg ov more n p (p + 1) = if bt more p = true then 1 else 0 := by
  unfold stN
  have : ¬ 0 < cnt (stQ P d la pg ov more n p) (p + 1) := by
    rw [cnt_pos]
    rintro ⟨i, h1, h2⟩
    unfold stQ at h2
    rw [decide_eq_false (by omega)] at h2
    cases h2
  omega
theorem stN_s {P : Nat → Nat → Int32} {d la pg ov more : Int32} {n p a : Nat} (hp : p < a) (ha : a < n) : stN P d la pg ov more n p (a + 1) = stN P d la pg ov more n p a + (if P a 3 = nI p ∧ rzW P d la pg ov more n a = 0 then 1 else 0) := by
  unfold stN
  rw [cnt, Nat.add_assoc]
  congr 2
  unfold stQ
  rw [decide_eq_true hp, Bool.true_and]
  by_cases h : P a 3 = nI p ∧ rzW P d la pg ov more n a = 0
  · rw [if_pos h, if_pos (by rw [h.1, (rzW_0 ha).mp h.2]; simp)]
  · rw [if_neg h, if_neg (fun g => h (by simp only [Bool.and_eq_true, beq_iff_eq] at g; exact ⟨g.1, (rzW_0 ha).mpr g.2⟩))]
theorem stN_le {P : Nat → Nat → Int32} {d la pg ov more : Int32} {n p a : Nat} : stN P d la pg ov more n p a ≤ 1 + a := by
  unfold stN
  have := cnt_le (stQ P d la pg ov more n p) a
  split <;> omega
theorem stN_e {P : Nat → Nat → Int32} {d la pg ov more : Int32} {n p : Nat} (hp : p < n) (h : rz1 P d la pg ov p = 0) : stN P d la pg ov more n p n = 0 ↔ sd (pOut P d la pg ov) (bt more) P n p = true := by
  have ho : pOut P d la pg ov p = false := by rw [← rz1_0, h]; rfl
  rw [sd_eq hp, ho]
  unfold stN
  have key : anS (sd (pOut P d la pg ov) (bt more) P n) P n (p + 1) p = true ↔ 0 < cnt (stQ P d la pg ov more n p) n := by
    rw [cnt_pos]
    unfold anS stQ
    rw [List.any_eq_true]
    constructor
    · rintro ⟨a, h1, h2⟩
      exact ⟨a, List.mem_range.mp h1, h2⟩
    · rintro ⟨a, h1, h2⟩
      exact ⟨a, List.mem_range.mpr h1, h2⟩
  cases hb : bt more p
  · rw [if_neg (by decide)]
    cases ha : anS (sd (pOut P d la pg ov) (bt more) P n) P n (p + 1) p
    · rw [ha] at key
      have : ¬ 0 < cnt (stQ P d la pg ov more n p) n := fun g => Bool.noConfusion (key.mpr g)
      exact ⟨fun _ => rfl, fun _ => by omega⟩
    · have := key.mp ha
      exact ⟨fun _ => by omega, fun g => Bool.noConfusion g⟩
  · rw [if_pos rfl]
    exact ⟨fun g => by omega, fun g => by simp at g⟩
def fbL2 (w : Int64) : Nat → Int64 → Int32 → Int64 × Int32
  | 0, x, e => (x, e)
  | f + 1, x, e => if 0 ≤ lg_cmp x w then (x, e) else fbL2 w f (x * 2) (e + Int32.ofInt (-1))
theorem fbL2_0 {w : Int64} {f : Nat} {x : Int64} {e : Int32} (h : 0 ≤ lg_cmp x w) : fbL2 w f x e = (x, e) := by
  cases f with
  | zero => rfl
  | succ f => rw [fbL2, if_pos h]
def lsE (w : Int64) : Nat → Int64 → Bool
  | 0, x => decide (0 ≤ lg_cmp x w)
  | f + 1, x => decide (0 ≤ lg_cmp x w) || lsE w f (x * 2)
theorem lsE_s {w : Int64} {f : Nat} {x : Int64} (h : lsE w f x = true) (hc : ¬ 0 ≤ lg_cmp x w) : ∃ f2, f = f2 + 1 ∧ lsE w f2 (x * 2) = true := by
  cases f with
  | zero => exact absurd (of_decide_eq_true h) hc
  | succ f =>
    rw [lsE, decide_eq_false hc, Bool.false_or] at h
    exact ⟨f, rfl, h⟩
def lsD (w x : Int64) : Int64 := if 0 < lg_cmp (2 * (x * 8388608 - x * 8388608 / w * w)) w ∨ (lg_cmp (2 * (x * 8388608 - x * 8388608 / w * w)) w = 0 ∧ lg_cmp (x * 8388608 / w - x * 8388608 / w / 2 * 2) 1 = 0) then 1 else 0
def lsF (w x : Int64) (e : Int32) : Int32 := e * 8388608 + (x * 8388608 / w + lsD w x - 8388608).toInt32
theorem ls_all : ∀ w, w < 25 → w = 0 ∨ ((nI w).toInt64 ≠ 0 ∧ ∀ a, a < 25 → a ≤ w → a = 0 ∨ (lsE (nI w).toInt64 6 (nI a).toInt64 = true ∧ lsF (nI w).toInt64 (fbL2 (nI w).toInt64 6 (nI a).toInt64 127).1 (fbL2 (nI w).toInt64 6 (nI a).toInt64 127).2 = fbR a w)) := by decide +kernel
theorem rz1_v {P : Nat → Nat → Int32} {dy la n p : Nat} {pg ov : Int32} (hw : WF P n) (hp : p < n) (h9 : sm9 P n) (hd : dy ≤ 3000) (hl : la ≤ 60) : rz1 P (nI dy) (nI la) pg ov p = if P p 6 = 1 then 1 else if ¬ P p 1 + tk P pg (P p 0) p ≤ pg then 2 else if ¬ (if P p 3 = -6 ∨ nI dy ≤ P p 5 + nI la then (0 : Int32) else 1) = 0 then 3 else if ¬ (if P p 2 ≤ 0 ∨ ¬ P p 2 ||| ov = ov then (0 : Int32) else 1) = 0 then 4 else 0 := by
  have h6 := (hw p hp).2.2
  have hlp : pLp P (nI dy) (nI la) p = !decide (P p 3 = -6 ∨ nI dy ≤ P p 5 + nI la) := by
    by_cases h3 : P p 3 = -6
    · unfold pLp
      simp [h3]
    · rw [lp_eq (fun i hi => h9 i (by omega)) hd hl h3]
      simp [h3]
  have hbl : pBl P ov p = !decide (P p 2 ≤ 0 ∨ ¬ P p 2 ||| ov = ov) := by
    unfold pBl
    rw [bl_eq]
    obtain ⟨_, ⟨c, hc, e⟩, _⟩ := h9 p hp
    rw [e]
    rcases Nat.eq_zero_or_pos c with h | h
    · subst h
      simp (decide := true)
    · have e1 : (nI c != 0) = true := by simp [nI_ne0 h (by omega)]
      have e2 : ¬ nI c ≤ 0 := nI_nle h (by omega)
      simp [e1, e2]
  unfold rz1
  rw [hlp, hbl]
  rcases h6 with h6 | h6
  · have e1 : pWd P p = false := by unfold pWd; rw [h6]; rfl
    have e2 : pSk P pg p = !decide (P p 1 + tk P pg (P p 0) p ≤ pg) := by unfold pSk stK; rw [h6, Int32.add_comm]; simp
    rw [e1, e2, if_neg (show ¬ false = true by decide), if_neg (show ¬ P p 6 = 1 by rw [h6]; decide)]
    by_cases g1 : P p 1 + tk P pg (P p 0) p ≤ pg
    · rw [decide_eq_true g1, if_neg (show ¬ (!true) = true by decide), if_neg (show ¬ ¬ P p 1 + tk P pg (P p 0) p ≤ pg from fun h => h g1)]
      have k3 : (if (!decide (P p 2 ≤ 0 ∨ ¬ P p 2 ||| ov = ov)) = true then (4 : Int32) else 0) = if ¬ (if P p 2 ≤ 0 ∨ ¬ P p 2 ||| ov = ov then (0 : Int32) else 1) = 0 then 4 else 0 := by
        by_cases g3 : P p 2 ≤ 0 ∨ ¬ P p 2 ||| ov = ov
        · rw [decide_eq_true g3, if_pos g3]; rfl
        · rw [decide_eq_false g3, if_neg g3]; rfl
      by_cases g2 : P p 3 = -6 ∨ nI dy ≤ P p 5 + nI la
      · rw [decide_eq_true g2, if_pos g2]; exact k3
      · rw [decide_eq_false g2, if_neg g2]; rfl
    · rw [decide_eq_false g1, if_pos (show (!false) = true by decide), if_pos g1]
  · have e1 : pWd P p = true := by unfold pWd; rw [h6]; rfl
    rw [e1, if_pos rfl, if_pos h6]
def mput (M : Mm) (r o n : Nat) (g : Nat → Int32) : Mm := mrow M r (fun x => if o ≤ x ∧ x < o + n then g (x - o) else M.1 r x)
theorem mput_at {M : Mm} {r o n k : Nat} {g : Nat → Int32} (h : k < n) : (mput M r o n g).1 r (o + k) = g k := by
  unfold mput
  rw [mrow_s, if_pos (by omega), Nat.add_sub_cancel_left]
theorem mput_o {M : Mm} {r o n r2 : Nat} {g : Nat → Int32} (h : r2 ≠ r) : (mput M r o n g).1 r2 = M.1 r2 := by unfold mput; rw [mrow_n h]
theorem mput_2 {M : Mm} {r o n : Nat} {g : Nat → Int32} : (mput M r o n g).2 = M.2 := rfl
theorem mput_set {M : Mm} {r o n k : Nat} {g : Nat → Int32} {v : Int32} (h : k < n) : mset (mput M r o n g) r (o + k) v = mput M r o n (upd g k v) := by
  unfold mput
  rw [mset_mrow]
  congr 1
  funext x
  unfold upd
  by_cases h1 : x = o + k
  · subst h1; rw [if_pos rfl, if_pos (by omega), if_pos (by omega)]
  · rw [if_neg h1]
    show (if o ≤ x ∧ x < o + n then g (x - o) else M.1 r x) = _
    by_cases h2 : o ≤ x ∧ x < o + n
    · rw [if_pos h2, if_pos h2, if_neg (by omega)]
    · rw [if_neg h2, if_neg h2]
theorem mput_self {M : Mm} {r o n : Nat} : mput M r o n (fun z9 => M.1 r (o + z9)) = M := by
  unfold mput
  have e : (fun x => if o ≤ x ∧ x < o + n then M.1 r (o + (x - o)) else M.1 r x) = M.1 r := by
    funext x
    by_cases h2 : o ≤ x ∧ x < o + n
    · rw [if_pos h2, show o + (x - o) = x by omega]
    · rw [if_neg h2]
  rw [e, mrow_self]
theorem mput_cg {M : Mm} {r o n : Nat} {g g' : Nat → Int32} (h : ∀ k, k < n → g k = g' k) : mput M r o n g = mput M r o n g' := by
  unfold mput
  congr 1
  funext x
  by_cases h2 : o ≤ x ∧ x < o + n
  · rw [if_pos h2, if_pos h2, h _ (by omega)]
  · rw [if_neg h2, if_neg h2]
theorem mput_mput {M : Mm} {r o n : Nat} {g g' : Nat → Int32} : mput (mput M r o n g) r o n g' = mput M r o n g' := by
  unfold mput
  rw [mrow_mrow, mrow_s]
  congr 1
  funext x
  by_cases h2 : o ≤ x ∧ x < o + n
  · rw [if_pos h2, if_pos h2]
  · rw [if_neg h2, if_neg h2, if_neg h2]
end
section
set_option maxRecDepth 100000 in
set_option maxHeartbeats 4000000 in
theorem l_low {Y : Yt} {M : Mm} {v : Int32} {n : Nat} (h0 : 0 < n) (hn : n < 2 ^ 31) : Fn Y yL_low wsL_low { frames := 0, cells := 0, slots := 0, locals := 0 } [.int v, .int (nI n)] M (some (.int (nI (lo0 v n)))) M := by
  refine Fn.of (cc := cL_low) (ins := iL_low) (maxL := 2) (ret := (some .int)) (by decide) dL_low [some (.int v), some (.int (nI n))] (Nat.le_of_ble_eq_true rfl) rfl rfl ?_
  intro X hX hQ
  refine v_iload_n hX 0 0 rfl rfl rfl ?_
  refine v_ldc hX tw_357 1 rfl ?_
  refine v_iand hX 2 rfl ?_
  refine v_iload_n hX 1 3 rfl rfl rfl ?_
  refine v_irem hX (nI_ne0 h0 hn) (lo0_eq hn) 4 rfl ?_
  refine v_iret hX hQ rfl rfl ?_ ?_ 5 rfl
  · rfl
  · rfl
set_option maxRecDepth 100000 in
set_option maxHeartbeats 4000000 in
theorem l_bits {Y : Yt} {M : Mm} {x : Int32} : Fn Y yL_bits wsL_bits { frames := 0, cells := 0, slots := 0, locals := 0 } [.int x] M (some (.int (nI (cnt (bt x) 24)))) M := by
  refine Fn.of (cc := cL_bits) (ins := iL_bits) (maxL := 3) (ret := (some .int)) (by decide) dL_bits [some (.int x), none, none] (Nat.le_of_ble_eq_true rfl) rfl rfl ?_
  intro X hX hQ
  refine v_iconst hX (v := 0) 0 rfl (by decide) ?_
  refine v_istore_n hX 1 1 rfl rfl (Nat.le_of_ble_eq_true rfl) rfl ?_
  refine v_iconst hX (v := 0) 2 rfl (by decide) ?_
  refine v_istore_n hX 2 3 rfl rfl (Nat.le_of_ble_eq_true rfl) rfl ?_
  have lp : ∀ (k : Nat), k ≤ 24 → V Y X M 4 [some (.int x), some (.int (nI (cnt (bt x) k))), some (.int (nI k))] [] := by
    refine upTo 24 (fun k hk ih => ?_)
    refine v_iload_n hX 2 4 rfl rfl rfl ?_
    refine v_bipush hX (v := 24) 5 rfl (by decide) ?_
    refine v_icmp_ge hX (tgt := 24) 6 rfl (by decide) (fun c7 => ?_) (fun c7 => ?_)
    · skip
      have hk2 : k = 24 := by have := of_le (a := 24) c7 (by omega) (by omega); omega
      subst hk2
      refine v_iload_n hX 1 17 rfl rfl rfl ?_
      refine v_iret hX hQ rfl rfl ?_ ?_ 18 rfl
      · rfl
      · rfl
    · skip
      have hk2 : k < 24 := of_nle (a := 24) c7 (by omega) (by omega)
      refine v_iload_n hX 1 7 rfl rfl rfl ?_
      refine v_iload_n hX 0 8 rfl rfl rfl ?_
      refine v_iload_n hX 2 9 rfl rfl rfl ?_
      refine v_ishr hX 10 rfl ?_
      refine v_iconst hX (v := 1) 11 rfl (by decide) ?_
      refine v_iand hX 12 rfl ?_
      rw [shr1n (show k < 31 by omega)]
      refine v_iadd hX 13 rfl ?_
      rw [nI_add]
      refine v_istore_n hX 1 14 rfl rfl (Nat.le_of_ble_eq_true rfl) rfl ?_
      refine v_iinc hX 15 rfl rfl (nI_inc k) (Nat.le_of_ble_eq_true rfl) rfl ?_
      refine v_goto hX (tgt := 4) 16 rfl (by decide) ?_
      exact V.sub (ih hk2) rfl ⟨rfl, (by first | rfl | (refine congrArg (fun z : Int32 => some (Value.int z)) ?_; rfl)), rfl, trivial⟩
  exact V.sub (lp 0 (Nat.zero_le _)) rfl ⟨rfl, (by first | rfl | (refine congrArg (fun z : Int32 => some (Value.int z)) ?_; rfl)), rfl, trivial⟩
set_option maxRecDepth 100000 in
set_option maxHeartbeats 4000000 in
theorem l_share {Y : Yt} {M : Mm} {a w : Nat} (ha : a < 25) (hw : w < 25) (hw0 : ¬ w = 0) (hle : a ≤ w) : Fn Y yL_share wsL_share { frames := 0, cells := 0, slots := 0, locals := 0 } [.int (nI a), .int (nI w)] M (some (.int (fbR a w))) M := by
  have hall := (ls_all w hw).resolve_left hw0
  have hal2 := hall.2 a ha hle
  refine Fn.of (cc := cL_share) (ins := iL_share) (maxL := 9) (ret := (some .int)) (by decide) dL_share [some (.int (nI a)), some (.int (nI w)), none, none, none, none, none, none, none] (Nat.le_of_ble_eq_true rfl) rfl rfl ?_
  intro X hX hQ
  refine v_iload_n hX 0 0 rfl rfl rfl ?_
  refine v_if_ne hX (tgt := 6) 1 rfl (by decide) (fun c1 => ?_) (fun c1 => ?_)
  · skip
    have ha0 : ¬ a = 0 := fun g => c1 (by rw [g]; rfl)
    refine v_iload_n hX 0 4 rfl rfl rfl ?_
    refine v_i2l hX 5 rfl rfl ?_
    refine v_lstore_n hX 2 6 rfl rfl (Nat.le_of_ble_eq_true rfl) rfl ?_
    refine v_bipush hX (v := 127) 7 rfl (by decide) ?_
    refine v_istore hX 8 rfl (Nat.le_of_ble_eq_true rfl) rfl ?_
    have lp : ∀ (f : Nat), f ≤ 6 → ∀ (x : Int64) (e : Int32), lsE (nI w).toInt64 f x = true → fbL2 (nI w).toInt64 f x e = fbL2 (nI w).toInt64 6 (nI a).toInt64 127 → V Y X M 13 [some (.int (nI a)), some (.int (nI w)), some (.long x), none, some (.int e), none, none, none, none] [] := by
      refine downTo (fun f ih => ?_)
      intro hf6 x e hE3 he
      refine v_lload_n hX 2 9 rfl rfl rfl ?_
      refine v_iload_n hX 1 10 rfl rfl rfl ?_
      refine v_i2l hX 11 rfl rfl ?_
      refine v_lcmp hX 12 rfl ?_
      refine v_if_ge hX (tgt := 32) 13 rfl (by decide) (fun c17 => ?_) (fun c17 => ?_)
      · skip
        have e1 : (x, e) = fbL2 (nI w).toInt64 6 (nI a).toInt64 127 := by rw [← he]; exact (fbL2_0 c17).symm
        have hs := (hal2.resolve_left ha0).2
        rw [← e1] at hs
        have hs : lsF (nI w).toInt64 x e = fbR a w := hs
        refine v_lload_n hX 2 20 rfl rfl rfl ?_
        refine v_ldc2 hX tw_439 21 rfl ?_
        refine v_lmul hX 22 rfl ?_
        refine v_iload_n hX 1 23 rfl rfl rfl ?_
        refine v_i2l hX 24 rfl rfl ?_
        refine v_ldiv hX hall.1 25 rfl ?_
        refine v_lstore hX 26 rfl (Nat.le_of_ble_eq_true rfl) rfl ?_
        refine v_lload_n hX 2 27 rfl rfl rfl ?_
        refine v_ldc2 hX tw_439 28 rfl ?_
        refine v_lmul hX 29 rfl ?_
        refine v_iload_n hX 1 30 rfl rfl rfl ?_
        refine v_i2l hX 31 rfl rfl ?_
        refine v_lrem hX hall.1 32 rfl ?_
        refine v_lstore hX 33 rfl (Nat.le_of_ble_eq_true rfl) rfl ?_
        have j94 : ∀ (v : Int64), v = lsD (nI w).toInt64 x → V Y X M 94 [some (.int (nI a)), some (.int (nI w)), some (.long x), none, some (.int e), some (.long (x * 8388608 / (nI w).toInt64)), none, some (.long (x * 8388608 - x * 8388608 / (nI w).toInt64 * (nI w).toInt64)), none] [.long v, .long (x * 8388608 / (nI w).toInt64)] := by
          intro v hv
          refine v_ladd hX 58 rfl ?_
          refine v_lstore hX 59 rfl (Nat.le_of_ble_eq_true rfl) rfl ?_
          refine v_iload hX 60 rfl rfl ?_
          refine v_ldc hX tw_440 61 rfl ?_
          refine v_imul hX 62 rfl ?_
          refine v_lload hX 63 rfl rfl ?_
          refine v_ldc2 hX tw_439 64 rfl ?_
          refine v_lsub hX 65 rfl ?_
          refine v_l2i hX 66 rfl rfl ?_
          refine v_iadd hX 67 rfl ?_
          refine v_iret hX hQ rfl rfl ?_ ?_ 68 rfl
          · rw [← hs, hv]; rfl
          · rfl
        refine v_lload hX 34 rfl rfl ?_
        refine v_ldc2 hX tw_438 35 rfl ?_
        refine v_lload hX 36 rfl rfl ?_
        refine v_lmul hX 37 rfl ?_
        refine v_iload_n hX 1 38 rfl rfl rfl ?_
        refine v_i2l hX 39 rfl rfl ?_
        refine v_lcmp hX 40 rfl ?_
        refine v_if_gt hX (tgt := 89) 41 rfl (by decide) (fun c63 => ?_) (fun c63 => ?_)
        · skip
          refine v_lconst hX (v := 1) 55 rfl rfl ?_
          refine v_goto hX (tgt := 94) 56 rfl (by decide) ?_
          exact V.sub (j94 1 (by unfold lsD; exact (if_pos (Or.inl c63)).symm)) rfl ⟨rfl, rfl, rfl, rfl, rfl, rfl, trivial⟩
        · skip
          refine v_ldc2 hX tw_438 42 rfl ?_
          refine v_lload hX 43 rfl rfl ?_
          refine v_lmul hX 44 rfl ?_
          refine v_iload_n hX 1 45 rfl rfl rfl ?_
          refine v_i2l hX 46 rfl rfl ?_
          refine v_lcmp hX 47 rfl ?_
          refine v_if_ne hX (tgt := 93) 48 rfl (by decide) (fun c75 => ?_) (fun c75 => ?_)
          · skip
            refine v_lconst hX (v := 0) 57 rfl rfl ?_
            exact V.sub (j94 0 (by unfold lsD; exact (if_neg (fun h => h.elim c63 (fun g => c75 g.1))).symm)) rfl ⟨rfl, rfl, rfl, rfl, rfl, rfl, trivial⟩
          · skip
            refine v_lload hX 49 rfl rfl ?_
            refine v_ldc2 hX tw_438 50 rfl ?_
            refine v_lrem hX (by decide) 51 rfl ?_
            refine v_lconst hX (v := 1) 52 rfl rfl ?_
            refine v_lcmp hX 53 rfl ?_
            refine v_if_ne hX (tgt := 93) 54 rfl (by decide) (fun c86 => ?_) (fun c86 => ?_)
            · skip
              refine v_lconst hX (v := 0) 57 rfl rfl ?_
              exact V.sub (j94 0 (by unfold lsD; exact (if_neg (fun h => h.elim c63 (fun g => c86 g.2))).symm)) rfl ⟨rfl, rfl, rfl, rfl, rfl, rfl, trivial⟩
            · skip
              refine v_lconst hX (v := 1) 55 rfl rfl ?_
              refine v_goto hX (tgt := 94) 56 rfl (by decide) ?_
              exact V.sub (j94 1 (by unfold lsD; exact (if_pos (Or.inr ⟨c75, c86⟩)).symm)) rfl ⟨rfl, rfl, rfl, rfl, rfl, rfl, trivial⟩
      · skip
        obtain ⟨f2, rfl, hE4⟩ := lsE_s hE3 c17
        rw [fbL2, if_neg c17] at he
        refine v_lload_n hX 2 14 rfl rfl rfl ?_
        refine v_ldc2 hX tw_438 15 rfl ?_
        refine v_lmul hX 16 rfl ?_
        refine v_lstore_n hX 2 17 rfl rfl (Nat.le_of_ble_eq_true rfl) rfl ?_
        refine v_iinc hX 18 rfl rfl rfl (Nat.le_of_ble_eq_true rfl) rfl ?_
        refine v_goto hX (tgt := 13) 19 rfl (by decide) ?_
        exact V.sub (ih f2 (by omega) (by omega) (x * 2) (e + Int32.ofInt (-1)) hE4 he) rfl ⟨rfl, rfl, rfl, rfl, trivial⟩
    exact V.sub (lp 6 (Nat.le_refl _) _ 127 (hal2.resolve_left ha0).1 rfl) rfl ⟨rfl, rfl, rfl, rfl, trivial⟩
  · skip
    have ha0 : a = 0 := by have := (nI_eq (a := a) (b := 0) (by omega) (by omega)).mp c1; exact this
    subst ha0
    refine v_iconst hX (v := 0) 2 rfl (by decide) ?_
    refine v_iret hX hQ rfl rfl ?_ ?_ 3 rfl
    · rfl
    · rfl
end
section
set_option maxRecDepth 100000 in
set_option maxHeartbeats 4000000 in
theorem l_reasons {Y : Yt} {M : Mm} {P : Nat → Nat → Int32} {n la dy kr ko wa : Nat} {pg ov more : Int32} (hn : n ≤ 24) (hw : WF P n) (h9 : sm9 P n) (hS : LSt M P n) (hla : la ≤ 60) (hdy : dy ≤ 3000) (hT0 : M.1 278 0 = nI la) (hT1 : M.1 278 1 = pg) (hT2 : M.1 278 2 = nI dy) (hT3 : M.1 278 3 = nI n) (hT4 : M.1 278 4 = ov) (hC : aC Y kr ko wa 24) (hkw : kr = 277 ∨ kr = 2) : Fn Y yL_reasons wsL_reasons { frames := 0, cells := 0, slots := 0, locals := 0 } [.ref (Y.2.2.2.1 270), .ref (Y.2.2.2.1 271), .ref (Y.2.2.2.1 273), .ref (Y.2.2.2.1 274), .ref (Y.2.2.2.1 275), .ref (Y.2.2.2.1 276), .ref wa, .ref (Y.2.2.2.1 278), .int more] M none ((mput M kr ko 24 (rzA (fun z9 => M.1 kr (ko + z9)) P (nI dy) (nI la) pg ov more n))) := by
  have hB0 : ∀ f, (mput M kr ko 24 f).1 278 (0 + Int32.toNatClampNeg 0) = nI la := fun f => by rw [mput_o (by omega)]; exact hT0
  have hB1 : ∀ f, (mput M kr ko 24 f).1 278 (0 + Int32.toNatClampNeg 1) = pg := fun f => by rw [mput_o (by omega)]; exact hT1
  have hB2 : ∀ f, (mput M kr ko 24 f).1 278 (0 + Int32.toNatClampNeg 2) = nI dy := fun f => by rw [mput_o (by omega)]; exact hT2
  have hB3 : ∀ f, (mput M kr ko 24 f).1 278 (0 + Int32.toNatClampNeg 3) = nI n := fun f => by rw [mput_o (by omega)]; exact hT3
  have hB4 : ∀ f, (mput M kr ko 24 f).1 278 (0 + Int32.toNatClampNeg 4) = ov := fun f => by rw [mput_o (by omega)]; exact hT4
  have hA0 : ∀ f k, k < n → (mput M kr ko 24 f).1 270 (0 + (nI k).toNatClampNeg) = P k 0 := fun f k hk => by rw [mput_o (by omega), nI_clamp (by omega), Nat.zero_add]; exact (hS k hk).1
  have hA1 : ∀ f k, k < n → (mput M kr ko 24 f).1 271 (0 + (nI k).toNatClampNeg) = P k 1 := fun f k hk => by rw [mput_o (by omega), nI_clamp (by omega), Nat.zero_add]; exact (hS k hk).2.1
  have hA3 : ∀ f k, k < n → (mput M kr ko 24 f).1 273 (0 + (nI k).toNatClampNeg) = P k 5 := fun f k hk => by rw [mput_o (by omega), nI_clamp (by omega), Nat.zero_add]; exact (hS k hk).2.2.2.1
  have hA4 : ∀ f k, k < n → (mput M kr ko 24 f).1 274 (0 + (nI k).toNatClampNeg) = toV P k := fun f k hk => by rw [mput_o (by omega), nI_clamp (by omega), Nat.zero_add]; exact (hS k hk).2.2.2.2.1
  have hA5 : ∀ f k, k < n → (mput M kr ko 24 f).1 275 (0 + (nI k).toNatClampNeg) = P k 2 := fun f k hk => by rw [mput_o (by omega), nI_clamp (by omega), Nat.zero_add]; exact (hS k hk).2.2.2.2.2.1
  have hA6 : ∀ f k, k < n → (mput M kr ko 24 f).1 276 (0 + (nI k).toNatClampNeg) = P k 6 := fun f k hk => by rw [mput_o (by omega), nI_clamp (by omega), Nat.zero_add]; exact (hS k hk).2.2.2.2.2.2
  have hAw : ∀ f k, k < 24 → (mput M kr ko 24 f).1 kr (ko + (nI k).toNatClampNeg) = f k := fun f k hk => by rw [nI_clamp (by omega), mput_at hk]
  refine Fn.of (cc := cL_reasons) (ins := iL_reasons) (maxL := 13) (ret := none) (by decide) dL_reasons [some (.ref (Y.2.2.2.1 270)), some (.ref (Y.2.2.2.1 271)), some (.ref (Y.2.2.2.1 273)), some (.ref (Y.2.2.2.1 274)), some (.ref (Y.2.2.2.1 275)), some (.ref (Y.2.2.2.1 276)), some (.ref wa), some (.ref (Y.2.2.2.1 278)), some (.int more), none, none, none, none] (Nat.le_of_ble_eq_true rfl) rfl rfl ?_
  intro X hX hQ
  refine v_iconst hX (v := 0) 0 rfl (by decide) ?_
  refine v_istore hX 1 rfl (Nat.le_of_ble_eq_true rfl) rfl ?_
  have lp : ∀ (p : Nat), p ≤ n → V Y X (mput M kr ko 24 (r1A (fun z9 => M.1 kr (ko + z9)) P (nI dy) (nI la) pg ov p)) 3 [some (.ref (Y.2.2.2.1 270)), some (.ref (Y.2.2.2.1 271)), some (.ref (Y.2.2.2.1 273)), some (.ref (Y.2.2.2.1 274)), some (.ref (Y.2.2.2.1 275)), some (.ref (Y.2.2.2.1 276)), some (.ref wa), some (.ref (Y.2.2.2.1 278)), some (.int more), some (.int (nI p)), none, none, none] [] := by
    refine upTo n (fun p hp0 ih => ?_)
    refine v_iload hX 2 rfl rfl ?_
    refine v_aload hX 3 rfl rfl ?_
    refine v_iconst hX (v := 3) 4 rfl (by decide) ?_
    refine v_ialg hX aC_278 (vp_in_nI (n := 3) (by decide) (by decide)) 5 rfl ?_
    rw [hB3]
    refine v_icmp_ge hX (tgt := 194) 6 rfl (by decide) (fun c9 => ?_) (fun c9 => ?_)
    · skip
      have hpn : n = p := by have := of_le c9 (by omega) (by omega); omega
      subst hpn
      refine v_aload hX 109 rfl rfl ?_
      refine v_iconst hX (v := 3) 110 rfl (by decide) ?_
      refine v_ialg hX aC_278 (vp_in_nI (n := 3) (by decide) (by decide)) 111 rfl ?_
      rw [hB3]
      refine v_iconst hX (v := 1) 112 rfl (by decide) ?_
      refine v_isub hX 113 rfl ?_
      refine v_istore hX 114 rfl (Nat.le_of_ble_eq_true rfl) rfl ?_
      have lr : ∀ (m : Nat), m ≤ n → V Y X (mput M kr ko 24 (r2A (fun z9 => M.1 kr (ko + z9)) P (nI dy) (nI la) pg ov more n m)) 202 [some (.ref (Y.2.2.2.1 270)), some (.ref (Y.2.2.2.1 271)), some (.ref (Y.2.2.2.1 273)), some (.ref (Y.2.2.2.1 274)), some (.ref (Y.2.2.2.1 275)), some (.ref (Y.2.2.2.1 276)), some (.ref wa), some (.ref (Y.2.2.2.1 278)), some (.int more), some (.int (nI m - 1)), none, none, none] [] := by
        refine downTo (fun m ihr => ?_)
        intro hm
        rcases Nat.eq_zero_or_pos m with h0 | h0
        · skip
          subst h0
          refine v_iload hX 115 rfl rfl ?_
          refine v_if_lt hX (tgt := 293) 116 rfl (by decide) (fun c204 => ?_) (fun c204 => absurd (by decide) c204)
          refine v_vret hX hQ rfl rfl ?_ 163 rfl
          rw [r2A_0]
        · skip
          obtain ⟨m, rfl⟩ : ∃ m2, m = m2 + 1 := ⟨m - 1, by omega⟩
          rw [nI_pred]
          refine v_iload hX 115 rfl rfl ?_
          refine v_if_lt hX (tgt := 293) 116 rfl (by decide) (fun c204 => absurd c204 (nI_nlt (Nat.zero_le _) (by omega))) (fun c204 => ?_)
          refine v_aload hX 117 rfl rfl ?_
          refine v_iload hX 118 rfl rfl ?_
          refine v_ialg hX hC (vp_in_nI (by omega) (by decide)) 119 rfl ?_
          rw [hAw _ _ (by omega), show r2A (fun z9 => M.1 kr (ko + z9)) P (nI dy) (nI la) pg ov more n (m + 1) m = rz1 P (nI dy) (nI la) pg ov m from by unfold r2A; rw [if_pos (by omega), if_neg (by omega)]]
          refine v_if_ne hX (tgt := 287) 120 rfl (by decide) (fun c212 => ?_) (fun c212 => ?_)
          · skip
            have q212 : ¬ rz1 P (nI dy) (nI la) pg ov m = 0 := c212
            refine v_iinc hX 161 rfl rfl (nI_dm m) (Nat.le_of_ble_eq_true rfl) rfl ?_
            refine v_goto hX (tgt := 202) 162 rfl (by decide) ?_
            refine V.subM (ihr m (by omega) (by omega)) ?_ rfl ⟨rfl, rfl, rfl, rfl, rfl, rfl, rfl, rfl, rfl, (by first | rfl | (refine congrArg (fun z : Int32 => some (Value.int z)) ?_; rfl)), trivial⟩
            first | rfl | exact congrArg (mput M kr ko 24) (r2A_k (by omega) q212)
          · skip
            have q212 : rz1 P (nI dy) (nI la) pg ov m = 0 := by first | exact c212 | exact Decidable.of_not_not c212
            refine v_iload hX 121 rfl rfl ?_
            refine v_iload hX 122 rfl rfl ?_
            refine v_ishr hX 123 rfl ?_
            refine v_iconst hX (v := 1) 124 rfl (by decide) ?_
            refine v_iand hX 125 rfl ?_
            rw [shr1n (show m < 31 by omega)]
            refine v_istore hX 126 rfl (Nat.le_of_ble_eq_true rfl) rfl ?_
            refine v_iload hX 127 rfl rfl ?_
            refine v_iconst hX (v := 1) 128 rfl (by decide) ?_
            refine v_iadd hX 129 rfl ?_
            rw [nI_1]
            refine v_istore hX 130 rfl (Nat.le_of_ble_eq_true rfl) rfl ?_
            have ls : ∀ (a : Nat), a ≤ n → m + 1 ≤ a → V Y X (mput M kr ko 24 (r2A (fun z9 => M.1 kr (ko + z9)) P (nI dy) (nI la) pg ov more n (m + 1))) 230 [some (.ref (Y.2.2.2.1 270)), some (.ref (Y.2.2.2.1 271)), some (.ref (Y.2.2.2.1 273)), some (.ref (Y.2.2.2.1 274)), some (.ref (Y.2.2.2.1 275)), some (.ref (Y.2.2.2.1 276)), some (.ref wa), some (.ref (Y.2.2.2.1 278)), some (.int more), some (.int (nI m)), some (.int (nI (stN P (nI dy) (nI la) pg ov more n m a))), some (.int (nI a)), none] [] := by
              refine upTo n (fun a ha ihs => ?_)
              intro hma
              have hsle := stN_le (P := P) (d := nI dy) (la := nI la) (pg := pg) (ov := ov) (more := more) (n := n) (p := m) (a := a)
              refine v_iload hX 131 rfl rfl ?_
              refine v_aload hX 132 rfl rfl ?_
              refine v_iconst hX (v := 3) 133 rfl (by decide) ?_
              refine v_ialg hX aC_278 (vp_in_nI (n := 3) (by decide) (by decide)) 134 rfl ?_
              rw [hB3]
              refine v_icmp_ge hX (tgt := 272) 135 rfl (by decide) (fun c236 => ?_) (fun c236 => ?_)
              · skip
                have han : n = a := by have := of_le c236 (by omega) (by omega); omega
                subst han
                have j286 : ∀ (v5 : Int32), v5 = rzW P (nI dy) (nI la) pg ov more n m → V Y X (mput M kr ko 24 (r2A (fun z9 => M.1 kr (ko + z9)) P (nI dy) (nI la) pg ov more n (m + 1))) 286 [some (.ref (Y.2.2.2.1 270)), some (.ref (Y.2.2.2.1 271)), some (.ref (Y.2.2.2.1 273)), some (.ref (Y.2.2.2.1 274)), some (.ref (Y.2.2.2.1 275)), some (.ref (Y.2.2.2.1 276)), some (.ref wa), some (.ref (Y.2.2.2.1 278)), some (.int more), some (.int (nI m)), none, none, none] [.int v5, .int (nI m), .ref wa] := by
                  intro v5 hv5
                  refine v_iasg hX hC (vp_in_nI (by omega) (by decide)) 160 rfl ?_
                  refine V.mem (M2 := mput M kr ko 24 (r2A (fun z9 => M.1 kr (ko + z9)) P (nI dy) (nI la) pg ov more n m)) (by rw [nI_clamp (by omega), mput_set (by omega), hv5, r2A_s (by omega)]) ?_
                  refine v_iinc hX 161 rfl rfl (nI_dm m) (Nat.le_of_ble_eq_true rfl) rfl ?_
                  refine v_goto hX (tgt := 202) 162 rfl (by decide) ?_
                  refine V.subM (ihr m (by omega) (by omega)) ?_ rfl ⟨rfl, rfl, rfl, rfl, rfl, rfl, rfl, rfl, rfl, (by first | rfl | (refine congrArg (fun z : Int32 => some (Value.int z)) ?_; rfl)), trivial⟩
                  first | rfl | exact congrArg (mput M kr ko 24) (r2A_k (by omega) q212)
                have hse := stN_e (P := P) (d := nI dy) (la := nI la) (pg := pg) (ov := ov) (more := more) (n := n) (p := m) (by omega) q212
                refine v_aload hX 153 rfl rfl ?_
                refine v_iload hX 154 rfl rfl ?_
                refine v_iload hX 155 rfl rfl ?_
                refine v_if_le hX (tgt := 285) 156 rfl (by decide) (fun c278 => ?_) (fun c278 => ?_)
                · skip
                  refine v_iconst hX (v := 0) 159 rfl (by decide) ?_
                  exact V.sub (j286 _ (by unfold rzW; rw [if_pos q212, if_pos (hse.mp (Nat.eq_zero_of_not_pos (fun g => nI_nle g (by omega) c278)))])) rfl ⟨rfl, rfl, rfl, rfl, rfl, rfl, rfl, rfl, rfl, rfl, trivial⟩
                · skip
                  refine v_iconst hX (v := 5) 157 rfl (by decide) ?_
                  refine v_goto hX (tgt := 286) 158 rfl (by decide) ?_
                  exact V.sub (j286 _ (by unfold rzW; rw [if_pos q212, if_neg (fun g => c278 (by rw [hse.mpr g]; decide))])) rfl ⟨rfl, rfl, rfl, rfl, rfl, rfl, rfl, rfl, rfl, rfl, trivial⟩
              · skip
                have ha2 : a < n := of_nle c236 (by omega) (by omega)
                have j263 : ∀ (v4 : Int32), v4 = nI (if P a 3 = nI m ∧ rzW P (nI dy) (nI la) pg ov more n a = 0 then 1 else 0) → V Y X (mput M kr ko 24 (r2A (fun z9 => M.1 kr (ko + z9)) P (nI dy) (nI la) pg ov more n (m + 1))) 263 [some (.ref (Y.2.2.2.1 270)), some (.ref (Y.2.2.2.1 271)), some (.ref (Y.2.2.2.1 273)), some (.ref (Y.2.2.2.1 274)), some (.ref (Y.2.2.2.1 275)), some (.ref (Y.2.2.2.1 276)), some (.ref wa), some (.ref (Y.2.2.2.1 278)), some (.int more), some (.int (nI m)), some (.int (nI (stN P (nI dy) (nI la) pg ov more n m a))), some (.int (nI a)), none] [.int v4, .int (nI (stN P (nI dy) (nI la) pg ov more n m a))] := by
                  intro v4 hv4
                  have hs4 := stN_s (P := P) (d := nI dy) (la := nI la) (pg := pg) (ov := ov) (more := more) (n := n) (p := m) (a := a) (by omega) ha2
                  refine v_iadd hX 149 rfl ?_
                  rw [hv4, nI_add]
                  refine v_istore hX 150 rfl (Nat.le_of_ble_eq_true rfl) rfl ?_
                  refine v_iinc hX 151 rfl rfl (nI_inc a) (Nat.le_of_ble_eq_true rfl) rfl ?_
                  refine v_goto hX (tgt := 230) 152 rfl (by decide) ?_
                  refine V.subM (ihs ha2 (by omega)) ?_ rfl ⟨rfl, rfl, rfl, rfl, rfl, rfl, rfl, rfl, rfl, rfl, (by first | rfl | (refine congrArg (fun z : Int32 => some (Value.int z)) ?_; rw [hs4])), rfl, trivial⟩
                  rfl
                refine v_iload hX 136 rfl rfl ?_
                refine v_aload_n hX 3 137 rfl rfl rfl ?_
                refine v_iload hX 138 rfl rfl ?_
                refine v_ialg hX aC_274 (vp_in_nI (by omega) (by decide)) 139 rfl ?_
                rw [hA4 _ _ (by omega)]
                refine v_iload hX 140 rfl rfl ?_
                refine v_icmp_ne hX (tgt := 262) 141 rfl (by decide) (fun c247 => ?_) (fun c247 => ?_)
                · skip
                  have q247 : ¬ P a 3 = nI m := fun g => c247 ((toV_eq hw hn ha2 (by omega)).mpr g)
                  refine v_iconst hX (v := 0) 148 rfl (by decide) ?_
                  exact V.sub (j263 _ (by rw [if_neg (fun h => q247 h.1)]; rfl)) rfl ⟨rfl, rfl, rfl, rfl, rfl, rfl, rfl, rfl, rfl, rfl, rfl, rfl, trivial⟩
                · skip
                  have q247 : P a 3 = nI m := (toV_eq hw hn ha2 (by omega)).mp c247
                  refine v_aload hX 142 rfl rfl ?_
                  refine v_iload hX 143 rfl rfl ?_
                  refine v_ialg hX hC (vp_in_nI (by omega) (by decide)) 144 rfl ?_
                  rw [hAw _ _ (by omega), show r2A (fun z9 => M.1 kr (ko + z9)) P (nI dy) (nI la) pg ov more n (m + 1) a = rzW P (nI dy) (nI la) pg ov more n a from by unfold r2A; rw [if_pos (by omega), if_pos (by omega)]]
                  refine v_if_ne hX (tgt := 262) 145 rfl (by decide) (fun c255 => ?_) (fun c255 => ?_)
                  · skip
                    refine v_iconst hX (v := 0) 148 rfl (by decide) ?_
                    exact V.sub (j263 _ (by rw [if_neg (fun h => c255 h.2)]; rfl)) rfl ⟨rfl, rfl, rfl, rfl, rfl, rfl, rfl, rfl, rfl, rfl, rfl, rfl, trivial⟩
                  · skip
                    refine v_iconst hX (v := 1) 146 rfl (by decide) ?_
                    refine v_goto hX (tgt := 263) 147 rfl (by decide) ?_
                    exact V.sub (j263 _ (by rw [if_pos ⟨q247, c255⟩]; rfl)) rfl ⟨rfl, rfl, rfl, rfl, rfl, rfl, rfl, rfl, rfl, rfl, rfl, rfl, trivial⟩
            refine V.subM (ls (m + 1) (by omega) (Nat.le_refl _)) ?_ rfl ⟨rfl, rfl, rfl, rfl, rfl, rfl, rfl, rfl, rfl, rfl, (by first | rfl | (refine congrArg (fun z : Int32 => some (Value.int z)) ?_; rw [stN_0])), rfl, trivial⟩
            rfl
      refine V.subM (lr n (Nat.le_refl n)) ?_ rfl ⟨rfl, rfl, rfl, rfl, rfl, rfl, rfl, rfl, rfl, (by first | rfl | (refine congrArg (fun z : Int32 => some (Value.int z)) ?_; rfl)), trivial⟩
      rw [r2A_n]
    · skip
      have hp : p < n := of_nle c9 (by omega) (by omega)
      refine v_aload_n hX 1 7 rfl rfl rfl ?_
      refine v_iload hX 8 rfl rfl ?_
      refine v_ialg hX aC_271 (vp_in_nI (by omega) (by decide)) 9 rfl ?_
      rw [hA1 _ _ (by omega)]
      refine v_istore hX 10 rfl (Nat.le_of_ble_eq_true rfl) rfl ?_
      refine v_iconst hX (v := 0) 11 rfl (by decide) ?_
      refine v_istore hX 12 rfl (Nat.le_of_ble_eq_true rfl) rfl ?_
      have lq : ∀ (q : Nat), q ≤ p → V Y X (mput M kr ko 24 (r1A (fun z9 => M.1 kr (ko + z9)) P (nI dy) (nI la) pg ov p)) 21 [some (.ref (Y.2.2.2.1 270)), some (.ref (Y.2.2.2.1 271)), some (.ref (Y.2.2.2.1 273)), some (.ref (Y.2.2.2.1 274)), some (.ref (Y.2.2.2.1 275)), some (.ref (Y.2.2.2.1 276)), some (.ref wa), some (.ref (Y.2.2.2.1 278)), some (.int more), some (.int (nI p)), some (.int (P p 1 + tk P pg (P p 0) q)), some (.int (nI q)), none] [] := by
        refine upTo p (fun q hq0 ihq => ?_)
        refine v_iload hX 13 rfl rfl ?_
        refine v_iload hX 14 rfl rfl ?_
        refine v_icmp_ge hX (tgt := 76) 15 rfl (by decide) (fun c25 => ?_) (fun c25 => ?_)
        · skip
          have hqp : p = q := by have := of_le c25 (by omega) (by omega); omega
          subst hqp
          have j104 : ∀ (v1 : Int32), v1 = (if P p 3 = -6 ∨ nI dy ≤ P p 5 + nI la then (0 : Int32) else 1) → V Y X (mput M kr ko 24 (r1A (fun z9 => M.1 kr (ko + z9)) P (nI dy) (nI la) pg ov p)) 104 [some (.ref (Y.2.2.2.1 270)), some (.ref (Y.2.2.2.1 271)), some (.ref (Y.2.2.2.1 273)), some (.ref (Y.2.2.2.1 274)), some (.ref (Y.2.2.2.1 275)), some (.ref (Y.2.2.2.1 276)), some (.ref wa), some (.ref (Y.2.2.2.1 278)), some (.int more), some (.int (nI p)), some (.int (P p 1 + tk P pg (P p 0) p)), none, none] [.int v1] := by
            intro v1 hv1
            refine v_istore hX 61 rfl (Nat.le_of_ble_eq_true rfl) rfl ?_
            have j136 : ∀ (v2 : Int32), v2 = (if P p 2 ≤ 0 ∨ ¬ P p 2 ||| ov = ov then (0 : Int32) else 1) → V Y X (mput M kr ko 24 (r1A (fun z9 => M.1 kr (ko + z9)) P (nI dy) (nI la) pg ov p)) 136 [some (.ref (Y.2.2.2.1 270)), some (.ref (Y.2.2.2.1 271)), some (.ref (Y.2.2.2.1 273)), some (.ref (Y.2.2.2.1 274)), some (.ref (Y.2.2.2.1 275)), some (.ref (Y.2.2.2.1 276)), some (.ref wa), some (.ref (Y.2.2.2.1 278)), some (.int more), some (.int (nI p)), some (.int (P p 1 + tk P pg (P p 0) p)), some (.int v1), none] [.int v2] := by
              intro v2 hv2
              refine v_istore hX 80 rfl (Nat.le_of_ble_eq_true rfl) rfl ?_
              have j187 : ∀ (v3 : Int32), v3 = rz1 P (nI dy) (nI la) pg ov p → V Y X (mput M kr ko 24 (r1A (fun z9 => M.1 kr (ko + z9)) P (nI dy) (nI la) pg ov p)) 187 [some (.ref (Y.2.2.2.1 270)), some (.ref (Y.2.2.2.1 271)), some (.ref (Y.2.2.2.1 273)), some (.ref (Y.2.2.2.1 274)), some (.ref (Y.2.2.2.1 275)), some (.ref (Y.2.2.2.1 276)), some (.ref wa), some (.ref (Y.2.2.2.1 278)), some (.int more), some (.int (nI p)), none, none, none] [.int v3, .int (nI p), .ref wa] := by
                intro v3 hv3
                refine v_iasg hX hC (vp_in_nI (by omega) (by decide)) 106 rfl ?_
                refine V.mem (M2 := mput M kr ko 24 (r1A (fun z9 => M.1 kr (ko + z9)) P (nI dy) (nI la) pg ov (p + 1))) (by rw [nI_clamp (by omega), mput_set (by omega), hv3, r1A_s]) ?_
                refine v_iinc hX 107 rfl rfl (nI_inc p) (Nat.le_of_ble_eq_true rfl) rfl ?_
                refine v_goto hX (tgt := 3) 108 rfl (by decide) ?_
                refine V.subM (ih hp) ?_ rfl ⟨rfl, rfl, rfl, rfl, rfl, rfl, rfl, rfl, rfl, rfl, trivial⟩
                rfl
              have hr1 : rz1 P (nI dy) (nI la) pg ov p = if P p 6 = 1 then 1 else if ¬ P p 1 + tk P pg (P p 0) p ≤ pg then 2 else if ¬ v1 = 0 then 3 else if ¬ v2 = 0 then 4 else 0 := by rw [hv1, hv2]; exact rz1_v hw hp h9 hdy hla
              refine v_aload hX 81 rfl rfl ?_
              refine v_iload hX 82 rfl rfl ?_
              refine v_aload hX 83 rfl rfl ?_
              refine v_iload hX 84 rfl rfl ?_
              refine v_ialg hX aC_276 (vp_in_nI (by omega) (by decide)) 85 rfl ?_
              rw [hA6 _ _ (by omega)]
              refine v_iconst hX (v := 1) 86 rfl (by decide) ?_
              refine v_icmp_ne hX (tgt := 155) 87 rfl (by decide) (fun c148 => ?_) (fun c148 => ?_)
              · skip
                refine v_iload hX 90 rfl rfl ?_
                refine v_aload hX 91 rfl rfl ?_
                refine v_iconst hX (v := 1) 92 rfl (by decide) ?_
                refine v_ialg hX aC_278 (vp_in_nI (n := 1) (by decide) (by decide)) 93 rfl ?_
                rw [hB1]
                refine v_icmp_le hX (tgt := 168) 94 rfl (by decide) (fun c161 => ?_) (fun c161 => ?_)
                · skip
                  refine v_iload hX 97 rfl rfl ?_
                  refine v_if_eq hX (tgt := 177) 98 rfl (by decide) (fun c170 => ?_) (fun c170 => ?_)
                  · skip
                    refine v_iload hX 101 rfl rfl ?_
                    refine v_if_eq hX (tgt := 186) 102 rfl (by decide) (fun c179 => ?_) (fun c179 => ?_)
                    · skip
                      refine v_iconst hX (v := 0) 105 rfl (by decide) ?_
                      exact V.sub (j187 _ (by rw [hr1, if_neg c148, if_neg (fun g => g c161), if_neg (fun g => g c170), if_neg (fun g => g c179)])) rfl ⟨rfl, rfl, rfl, rfl, rfl, rfl, rfl, rfl, rfl, rfl, trivial⟩
                    · skip
                      refine v_iconst hX (v := 4) 103 rfl (by decide) ?_
                      refine v_goto hX (tgt := 187) 104 rfl (by decide) ?_
                      exact V.sub (j187 _ (by rw [hr1, if_neg c148, if_neg (fun g => g c161), if_neg (fun g => g c170), if_pos c179])) rfl ⟨rfl, rfl, rfl, rfl, rfl, rfl, rfl, rfl, rfl, rfl, trivial⟩
                  · skip
                    refine v_iconst hX (v := 3) 99 rfl (by decide) ?_
                    refine v_goto hX (tgt := 187) 100 rfl (by decide) ?_
                    exact V.sub (j187 _ (by rw [hr1, if_neg c148, if_neg (fun g => g c161), if_pos c170])) rfl ⟨rfl, rfl, rfl, rfl, rfl, rfl, rfl, rfl, rfl, rfl, trivial⟩
                · skip
                  refine v_iconst hX (v := 2) 95 rfl (by decide) ?_
                  refine v_goto hX (tgt := 187) 96 rfl (by decide) ?_
                  exact V.sub (j187 _ (by rw [hr1, if_neg c148, if_pos c161])) rfl ⟨rfl, rfl, rfl, rfl, rfl, rfl, rfl, rfl, rfl, rfl, trivial⟩
              · skip
                refine v_iconst hX (v := 1) 88 rfl (by decide) ?_
                refine v_goto hX (tgt := 187) 89 rfl (by decide) ?_
                exact V.sub (j187 _ (by rw [hr1, if_pos c148])) rfl ⟨rfl, rfl, rfl, rfl, rfl, rfl, rfl, rfl, rfl, rfl, trivial⟩
            refine v_aload hX 62 rfl rfl ?_
            refine v_iload hX 63 rfl rfl ?_
            refine v_ialg hX aC_275 (vp_in_nI (by omega) (by decide)) 64 rfl ?_
            rw [hA5 _ _ (by omega)]
            refine v_if_le hX (tgt := 135) 65 rfl (by decide) (fun c111 => ?_) (fun c111 => ?_)
            · skip
              refine v_iconst hX (v := 0) 79 rfl (by decide) ?_
              exact V.sub (j136 _ (if_pos (Or.inl c111)).symm) rfl ⟨rfl, rfl, rfl, rfl, rfl, rfl, rfl, rfl, rfl, rfl, rfl, rfl, trivial⟩
            · skip
              refine v_aload hX 66 rfl rfl ?_
              refine v_iload hX 67 rfl rfl ?_
              refine v_ialg hX aC_275 (vp_in_nI (by omega) (by decide)) 68 rfl ?_
              rw [hA5 _ _ (by omega)]
              refine v_aload hX 69 rfl rfl ?_
              refine v_iconst hX (v := 4) 70 rfl (by decide) ?_
              refine v_ialg hX aC_278 (vp_in_nI (n := 4) (by decide) (by decide)) 71 rfl ?_
              rw [hB4]
              refine v_ior hX 72 rfl ?_
              refine v_aload hX 73 rfl rfl ?_
              refine v_iconst hX (v := 4) 74 rfl (by decide) ?_
              refine v_ialg hX aC_278 (vp_in_nI (n := 4) (by decide) (by decide)) 75 rfl ?_
              rw [hB4]
              refine v_icmp_ne hX (tgt := 135) 76 rfl (by decide) (fun c128 => ?_) (fun c128 => ?_)
              · skip
                refine v_iconst hX (v := 0) 79 rfl (by decide) ?_
                exact V.sub (j136 _ (if_pos (Or.inr c128)).symm) rfl ⟨rfl, rfl, rfl, rfl, rfl, rfl, rfl, rfl, rfl, rfl, rfl, rfl, trivial⟩
              · skip
                refine v_iconst hX (v := 1) 77 rfl (by decide) ?_
                refine v_goto hX (tgt := 136) 78 rfl (by decide) ?_
                exact V.sub (j136 _ (if_neg (fun h => h.elim c111 (fun g => g c128))).symm) rfl ⟨rfl, rfl, rfl, rfl, rfl, rfl, rfl, rfl, rfl, rfl, rfl, rfl, trivial⟩
          refine v_aload_n hX 3 43 rfl rfl rfl ?_
          refine v_iload hX 44 rfl rfl ?_
          refine v_ialg hX aC_274 (vp_in_nI (by omega) (by decide)) 45 rfl ?_
          rw [hA4 _ _ (by omega)]
          refine v_if_lt hX (tgt := 103) 46 rfl (by decide) (fun c80 => ?_) (fun c80 => ?_)
          · skip
            have q80 : P p 3 = -6 := (toV_lt hw hn hp).mp c80
            refine v_iconst hX (v := 0) 60 rfl (by decide) ?_
            exact V.sub (j104 _ (if_pos (Or.inl q80)).symm) rfl ⟨rfl, rfl, rfl, rfl, rfl, rfl, rfl, rfl, rfl, rfl, rfl, trivial⟩
          · skip
            have q80 : ¬ P p 3 = -6 := fun g => c80 ((toV_lt hw hn hp).mpr g)
            refine v_aload_n hX 2 47 rfl rfl rfl ?_
            refine v_iload hX 48 rfl rfl ?_
            refine v_ialg hX aC_273 (vp_in_nI (by omega) (by decide)) 49 rfl ?_
            rw [hA3 _ _ (by omega)]
            refine v_aload hX 50 rfl rfl ?_
            refine v_iconst hX (v := 0) 51 rfl (by decide) ?_
            refine v_ialg hX aC_278 (vp_in_nI (n := 0) (by decide) (by decide)) 52 rfl ?_
            rw [hB0]
            refine v_iadd hX 53 rfl ?_
            refine v_aload hX 54 rfl rfl ?_
            refine v_iconst hX (v := 2) 55 rfl (by decide) ?_
            refine v_ialg hX aC_278 (vp_in_nI (n := 2) (by decide) (by decide)) 56 rfl ?_
            rw [hB2]
            refine v_icmp_ge hX (tgt := 103) 57 rfl (by decide) (fun c96 => ?_) (fun c96 => ?_)
            · skip
              refine v_iconst hX (v := 0) 60 rfl (by decide) ?_
              exact V.sub (j104 _ (if_pos (Or.inr c96)).symm) rfl ⟨rfl, rfl, rfl, rfl, rfl, rfl, rfl, rfl, rfl, rfl, rfl, trivial⟩
            · skip
              refine v_iconst hX (v := 1) 58 rfl (by decide) ?_
              refine v_goto hX (tgt := 104) 59 rfl (by decide) ?_
              exact V.sub (j104 _ (if_neg (fun h => h.elim q80 c96)).symm) rfl ⟨rfl, rfl, rfl, rfl, rfl, rfl, rfl, rfl, rfl, rfl, rfl, trivial⟩
        · skip
          have hqp : q < p := of_nle c25 (by omega) (by omega)
          have j67 : ∀ (v : Int32), v = (if P q 0 = P p 0 ∧ ¬ rz1 P (nI dy) (nI la) pg ov q = 1 ∧ ¬ rz1 P (nI dy) (nI la) pg ov q = 2 then P q 1 else 0) → V Y X (mput M kr ko 24 (r1A (fun z9 => M.1 kr (ko + z9)) P (nI dy) (nI la) pg ov p)) 67 [some (.ref (Y.2.2.2.1 270)), some (.ref (Y.2.2.2.1 271)), some (.ref (Y.2.2.2.1 273)), some (.ref (Y.2.2.2.1 274)), some (.ref (Y.2.2.2.1 275)), some (.ref (Y.2.2.2.1 276)), some (.ref wa), some (.ref (Y.2.2.2.1 278)), some (.int more), some (.int (nI p)), some (.int (P p 1 + tk P pg (P p 0) q)), some (.int (nI q)), none] [.int v, .int (P p 1 + tk P pg (P p 0) q)] := by
            intro v hv
            have hs := tk_rz (d := nI dy) (la := nI la) (pg := pg) (ov := ov) (s := P p 0) hw (show q < n by omega)
            rw [← hv] at hs
            refine v_iadd hX 39 rfl ?_
            refine v_istore hX 40 rfl (Nat.le_of_ble_eq_true rfl) rfl ?_
            refine v_iinc hX 41 rfl rfl (nI_inc q) (Nat.le_of_ble_eq_true rfl) rfl ?_
            refine v_goto hX (tgt := 21) 42 rfl (by decide) ?_
            refine V.subM (ihq hqp) ?_ rfl ⟨rfl, rfl, rfl, rfl, rfl, rfl, rfl, rfl, rfl, rfl, (by first | rfl | (refine congrArg (fun z : Int32 => some (Value.int z)) ?_; rw [hs, Int32.add_assoc])), rfl, trivial⟩
            rfl
          refine v_iload hX 16 rfl rfl ?_
          refine v_aload_n hX 0 17 rfl rfl rfl ?_
          refine v_iload hX 18 rfl rfl ?_
          refine v_ialg hX aC_270 (vp_in_nI (by omega) (by decide)) 19 rfl ?_
          rw [hA0 _ _ (by omega)]
          refine v_aload_n hX 0 20 rfl rfl rfl ?_
          refine v_iload hX 21 rfl rfl ?_
          refine v_ialg hX aC_270 (vp_in_nI (by omega) (by decide)) 22 rfl ?_
          rw [hA0 _ _ (by omega)]
          refine v_icmp_ne hX (tgt := 66) 23 rfl (by decide) (fun c38 => ?_) (fun c38 => ?_)
          · skip
            refine v_iconst hX (v := 0) 38 rfl (by decide) ?_
            exact V.sub (j67 _ (if_neg (fun h => c38 h.1)).symm) rfl ⟨rfl, rfl, rfl, rfl, rfl, rfl, rfl, rfl, rfl, rfl, rfl, rfl, trivial⟩
          · skip
            refine v_aload hX 24 rfl rfl ?_
            refine v_iload hX 25 rfl rfl ?_
            refine v_ialg hX hC (vp_in_nI (by omega) (by decide)) 26 rfl ?_
            rw [hAw _ _ (by omega), show r1A (fun z9 => M.1 kr (ko + z9)) P (nI dy) (nI la) pg ov p q = rz1 P (nI dy) (nI la) pg ov q from if_pos hqp]
            refine v_iconst hX (v := 1) 27 rfl (by decide) ?_
            refine v_icmp_eq hX (tgt := 66) 28 rfl (by decide) (fun c47 => ?_) (fun c47 => ?_)
            · skip
              refine v_iconst hX (v := 0) 38 rfl (by decide) ?_
              exact V.sub (j67 _ (if_neg (fun h => h.2.1 c47)).symm) rfl ⟨rfl, rfl, rfl, rfl, rfl, rfl, rfl, rfl, rfl, rfl, rfl, rfl, trivial⟩
            · skip
              refine v_aload hX 29 rfl rfl ?_
              refine v_iload hX 30 rfl rfl ?_
              refine v_ialg hX hC (vp_in_nI (by omega) (by decide)) 31 rfl ?_
              rw [hAw _ _ (by omega), show r1A (fun z9 => M.1 kr (ko + z9)) P (nI dy) (nI la) pg ov p q = rz1 P (nI dy) (nI la) pg ov q from if_pos hqp]
              refine v_iconst hX (v := 2) 32 rfl (by decide) ?_
              refine v_icmp_eq hX (tgt := 66) 33 rfl (by decide) (fun c56 => ?_) (fun c56 => ?_)
              · skip
                refine v_iconst hX (v := 0) 38 rfl (by decide) ?_
                exact V.sub (j67 _ (if_neg (fun h => h.2.2 c56)).symm) rfl ⟨rfl, rfl, rfl, rfl, rfl, rfl, rfl, rfl, rfl, rfl, rfl, rfl, trivial⟩
              · skip
                refine v_aload_n hX 1 34 rfl rfl rfl ?_
                refine v_iload hX 35 rfl rfl ?_
                refine v_ialg hX aC_271 (vp_in_nI (by omega) (by decide)) 36 rfl ?_
                rw [hA1 _ _ (by omega)]
                refine v_goto hX (tgt := 67) 37 rfl (by decide) ?_
                exact V.sub (j67 _ (if_pos ⟨c38, c47, c56⟩).symm) rfl ⟨rfl, rfl, rfl, rfl, rfl, rfl, rfl, rfl, rfl, rfl, rfl, rfl, trivial⟩
      refine V.subM (lq 0 (Nat.zero_le _)) ?_ rfl ⟨rfl, rfl, rfl, rfl, rfl, rfl, rfl, rfl, rfl, rfl, (by first | rfl | (refine congrArg (fun z : Int32 => some (Value.int z)) ?_; exact (Int32.add_zero _).symm)), rfl, trivial⟩
      rfl
  refine V.subM (lp 0 (Nat.zero_le _)) ?_ rfl ⟨rfl, rfl, rfl, rfl, rfl, rfl, rfl, rfl, rfl, rfl, trivial⟩
  rw [r1A_0, mput_self]
end
section
theorem cp_r2 {M : Mm} {f : Nat → Int32} : cp (mrow M 2 f) 1 = cp M 1 := by
  funext i j
  unfold cp
  rw [mrow_n (by omega)]
theorem bO_r2 {M : Mm} {f : Nat → Int32} : bOut (mrow M 2 f) 1 = bOut M 1 := by
  unfold bOut
  rw [cp_r2, mrow_n (by decide)]
theorem bS_r2 {M : Mm} {f : Nat → Int32} {n : Nat} : bSd (mrow M 2 f) 1 n = bSd M 1 n := by
  unfold bSd
  rw [cp_r2, bO_r2]
theorem ofR_r2 {M : Mm} {f : Nat → Int32} {n i : Nat} {w : Int32} : ofR (mrow M 2 f) n i w = ofR M n i w := by
  unfold ofR rsR dlR
  simp only [cp_r2, bS_r2, mrow_n (show (1 : Nat) ≠ 2 by decide), mrow_n (show 1 + 2 + i ≠ 2 by omega)]
theorem coR_r2 {M : Mm} {f : Nat → Int32} {n k : Nat} {w : Int32} : coR (mrow M 2 f) n k w = coR M n k w := by
  unfold coR
  simp only [cp_r2, bS_r2, bO_r2, mrow_n (show (1 : Nat) ≠ 2 by decide), mrow_n (show (30 : Nat) ≠ 2 by decide), mrow_n (show (33 : Nat) ≠ 2 by decide)]
theorem poR_r2 {M : Mm} {f : Nat → Int32} {n : Nat} {w : Int32} : poR (mrow M 2 f) n w = poR M n w := by
  unfold poR
  simp only [cp_r2, bS_r2, bO_r2]
theorem shF_r2 {M : Mm} {f : Nat → Int32} {n : Nat} {w : Int32} : shF (mrow M 2 f) n w = shF M n w := by
  unfold shF
  simp only [cp_r2, bS_r2]
def pM (M : Mm) (S U : Nat → Int32) : Mm := mrow M 2 (fun x => if x < 64 then S x else U (x - 64))
theorem pM_o {M : Mm} {S U : Nat → Int32} {k : Nat} (h : k ≠ 2) : (pM M S U).1 k = M.1 k := mrow_n h
theorem pM_S {M : Mm} {S U : Nat → Int32} {x : Nat} (h : x < 64) : (pM M S U).1 2 (0 + x) = S x := by
  unfold pM
  rw [mrow_s, Nat.zero_add, if_pos h]
theorem pM_U {M : Mm} {S U : Nat → Int32} {x : Nat} : (pM M S U).1 2 (64 + x) = U x := by
  unfold pM
  rw [mrow_s, if_neg (by omega), Nat.add_sub_cancel_left]
theorem pM_sS {M : Mm} {S U : Nat → Int32} {x : Nat} {v : Int32} (h : x < 64) : mset (pM M S U) 2 (0 + x) v = pM M (upd S x v) U := by
  unfold pM
  rw [mset_mrow, Nat.zero_add]
  congr 1
  funext y
  unfold upd
  by_cases h1 : y = x
  · subst h1; rw [if_pos rfl, if_pos h, if_pos rfl]
  · rw [if_neg h1]
    show (if y < 64 then S y else U (y - 64)) = _
    by_cases h2 : y < 64
    · rw [if_pos h2, if_pos h2, if_neg h1]
    · rw [if_neg h2, if_neg h2]
theorem pM_sU {M : Mm} {S U : Nat → Int32} {x : Nat} {v : Int32} : mset (pM M S U) 2 (64 + x) v = pM M S (upd U x v) := by
  unfold pM
  rw [mset_mrow]
  congr 1
  funext y
  unfold upd
  by_cases h1 : y = 64 + x
  · subst h1; rw [if_pos rfl, if_neg (by omega), if_pos (by omega)]
  · rw [if_neg h1]
    show (if y < 64 then S y else U (y - 64)) = _
    by_cases h2 : y < 64
    · rw [if_pos h2, if_pos h2]
    · rw [if_neg h2, if_neg h2, if_neg (by omega)]
theorem pM_00 {M : Mm} : mrow (mrow M 2 (zf M 0)) 2 (zf (mrow M 2 (zf M 0)) 1) = pM M (fun _ => 0) (fun _ => 0) := by
  unfold pM
  rw [mrow_mrow]
  congr 1
def wv (M : Mm) (n : Nat) : Nat → Int32 := rzW (cp M 1) (M.1 1 2) (M.1 1 4) (M.1 1 5) (M.1 1 3) 0 n
theorem bt0 : bt 0 = fun _ => false := by funext i; exact b_0 i
theorem wv_0 {M : Mm} {n i : Nat} (hi : i < n) : wv M n i = 0 ↔ bSd M 1 n i = true := by
  unfold wv
  rw [rzW_0 hi, bt0]
  rfl
theorem wv_all {M : Mm} {n i : Nat} (hi : i < n) : wv M n i = rsR M 1 n i ∧ (bOut M 1 i = true ↔ (¬ wv M n i ≤ 0 ∧ ¬ 5 ≤ wv M n i)) ∧ ((!bOut M 1 i && !bSd M 1 n i) = true ↔ wv M n i = 5) ∧ ((pWd (cp M 1) i || pSk (cp M 1) (M.1 1 5) i) = true ↔ (wv M n i = 1 ∨ wv M n i = 2)) := by
  have hs : bSd M 1 n i = true → bOut M 1 i = false := by
    intro h
    unfold bSd at h
    rw [sd_eq hi] at h
    cases hb : bOut M 1 i
    · rfl
    · rw [hb] at h; simp at h
  have e : sd (pOut (cp M 1) (M.1 1 2) (M.1 1 4) (M.1 1 5) (M.1 1 3)) (bt 0) (cp M 1) n i = bSd M 1 n i := by rw [bt0]; rfl
  unfold wv rzW rz1 rsR
  rw [e]
  unfold bOut pOut at hs ⊢
  revert hs
  generalize bSd M 1 n i = b
  cases pWd (cp M 1) i <;> cases pSk (cp M 1) (M.1 1 5) i <;> cases pLp (cp M 1) (M.1 1 2) (M.1 1 4) i <;> cases pBl (cp M 1) (M.1 1 3) i <;> cases b <;> simp (decide := true)
theorem mkz1 (p : Nat → Bool) (n : Nat) : mk p n ||| (if p n = true then (1 : Int32) <<< (nI n &&& 31) else 0) = mk p (n + 1) := by
  rw [mk]
  split
  · rfl
  · exact zero_or _
def anq (M : Mm) (n : Nat) : Nat → Bool := fun i => !bOut M 1 i && !bSd M 1 n i
def sS (M : Mm) (n p : Nat) : Nat → Int32 := fun k => if k = 0 then mk (bSd M 1 n) p else if k = 2 then mk (bOut M 1) p else if k = 3 then mk (anq M n) p else if k = 4 then mk (pSd (cp M 1) 0) p else if k = 5 then mk (pSd (cp M 1) 1) p else 0
def uX (M : Mm) (n : Nat) : Int32 := mk (pWd (cp M 1)) n ||| mk (pSk (cp M 1) (M.1 1 5)) n
def uS (M : Mm) (n p : Nat) : Nat → Int32 := fun k => if k = 0 then sm (cp M 1) 0 (uX M n) p else if k = 1 then sm (cp M 1) 1 (uX M n) p else 0
theorem sS_0 {M : Mm} {n : Nat} : sS M n 0 = fun _ => 0 := by
  funext k
  unfold sS
  simp only [mk, ite_self]
theorem uS_0 {M : Mm} {n : Nat} : uS M n 0 = fun _ => 0 := by
  funext k
  unfold uS
  simp only [sm, ite_self]
theorem sS_s {M : Mm} {n p s : Nat} (hs : s < 2) (hp : cp M 1 p 0 = nI s) : upd (upd (upd (upd (sS M n p) 0 (mk (bSd M 1 n) (p + 1))) 2 (mk (bOut M 1) (p + 1))) 3 (mk (anq M n) (p + 1))) (4 + s) (mk (pSd (cp M 1) (nI s)) (p + 1)) = sS M n (p + 1) := by
  funext k
  rcases (show s = 0 ∨ s = 1 by omega) with rfl | rfl
  · have e1 : mk (pSd (cp M 1) 1) (p + 1) = mk (pSd (cp M 1) 1) p := (mk_f (by unfold pSd; rw [hp]; rfl)).symm
    unfold upd sS
    by_cases h0 : k = 0
    · subst h0; rfl
    by_cases h2 : k = 2
    · subst h2; rfl
    by_cases h3 : k = 3
    · subst h3; rfl
    by_cases h4 : k = 4
    · subst h4; rfl
    simp only [if_neg h0, if_neg h2, if_neg h3, if_neg (show ¬ k = 4 + 0 from h4), if_neg h4, e1]
  · have e1 : mk (pSd (cp M 1) 0) (p + 1) = mk (pSd (cp M 1) 0) p := (mk_f (by unfold pSd; rw [hp]; rfl)).symm
    unfold upd sS
    by_cases h0 : k = 0
    · subst h0; rfl
    by_cases h2 : k = 2
    · subst h2; rfl
    by_cases h3 : k = 3
    · subst h3; rfl
    by_cases h5 : k = 5
    · subst h5; rfl
    simp only [if_neg h0, if_neg h2, if_neg h3, if_neg (show ¬ k = 4 + 1 from h5), if_neg h5, e1]
theorem uX_bt {M : Mm} {n i : Nat} (hn : n ≤ 24) (hi : i < n) : bt (uX M n) i = (pWd (cp M 1) i || pSk (cp M 1) (M.1 1 5) i) := by
  unfold uX
  rw [b_or, bt_mk _ (by omega) (by omega), bt_mk _ (by omega) (by omega), decide_eq_true hi, Bool.true_and, Bool.true_and]
theorem uS_s {M : Mm} {n p s : Nat} (hn : n ≤ 24) (hpn : p < n) (hs : s < 2) (hp : cp M 1 p 0 = nI s) : upd (uS M n p) s (uS M n p s + (if wv M n p = 1 ∨ wv M n p = 2 then 0 else cp M 1 p 1)) = uS M n (p + 1) := by
  have hb : bt (uX M n) p = true ↔ (wv M n p = 1 ∨ wv M n p = 2) := by rw [uX_bt hn hpn]; exact (wv_all hpn).2.2.2
  have hsm : ∀ t : Int32, sm (cp M 1) t (uX M n) (p + 1) = if cp M 1 p 0 = t then sm (cp M 1) t (uX M n) p + (if wv M n p = 1 ∨ wv M n p = 2 then 0 else cp M 1 p 1) else sm (cp M 1) t (uX M n) p := by
    intro t
    rw [sm]
    by_cases h0 : cp M 1 p 0 = t
    · rw [if_pos h0]
      by_cases h1 : wv M n p = 1 ∨ wv M n p = 2
      · rw [if_pos h1, Int32.add_zero, if_neg (fun g => by rw [hb.mpr h1] at g; exact absurd g.2 (by decide))]
      · rw [if_neg h1, if_pos ⟨h0, by cases hh : bt (uX M n) p; rfl; exact absurd (hb.mp hh) h1⟩]
    · rw [if_neg h0, if_neg (fun g => h0 g.1)]
  funext k
  unfold upd uS
  rcases (show s = 0 ∨ s = 1 by omega) with rfl | rfl
  · have hp0 : cp M 1 p 0 = 0 := hp
    by_cases h0 : k = 0
    · subst h0
      show sm (cp M 1) 0 (uX M n) p + (if wv M n p = 1 ∨ wv M n p = 2 then 0 else cp M 1 p 1) = sm (cp M 1) 0 (uX M n) (p + 1)
      rw [hsm 0, if_pos hp0]
    by_cases h1 : k = 1
    · subst h1
      show sm (cp M 1) 1 (uX M n) p = sm (cp M 1) 1 (uX M n) (p + 1)
      rw [hsm 1, if_neg (by rw [hp0]; decide)]
    · rw [if_neg h0, if_neg h0, if_neg h1, if_neg h0, if_neg h1]
  · have hp1 : cp M 1 p 0 = 1 := hp
    by_cases h0 : k = 0
    · subst h0
      show sm (cp M 1) 0 (uX M n) p = sm (cp M 1) 0 (uX M n) (p + 1)
      rw [hsm 0, if_neg (by rw [hp1]; decide)]
    by_cases h1 : k = 1
    · subst h1
      show sm (cp M 1) 1 (uX M n) p + (if wv M n p = 1 ∨ wv M n p = 2 then 0 else cp M 1 p 1) = sm (cp M 1) 1 (uX M n) (p + 1)
      rw [hsm 1, if_pos hp1]
    · rw [if_neg h1, if_neg h0, if_neg h1, if_neg h0, if_neg h1]
theorem lo_skip {x : Int32} : ∀ j f k, (∀ i, k ≤ i → i < k + j → bt x i = false) → lo x (j + f) k = lo x f (k + j) := by
  intro j
  induction j with
  | zero => intro f k _; rw [Nat.zero_add]; rfl
  | succ j ih =>
    intro f k h
    rw [show j + 1 + f = (j + f) + 1 by omega, lo, if_neg (by rw [h k (Nat.le_refl _) (by omega)]; decide), ih f (k + 1) (fun i h1 h2 => h i (by omega) (by omega)), show k + 1 + j = k + (j + 1) by omega]
theorem lo_non {x : Int32} : ∀ f k, (∀ i, k ≤ i → i < k + f → bt x i = false) → lo x f k = -6 := by
  intro f
  induction f with
  | zero => intro k _; rfl
  | succ f ih => intro k h; rw [lo, if_neg (by rw [h k (Nat.le_refl _) (by omega)]; decide), ih (k + 1) (fun i h1 h2 => h i (by omega) (by omega))]
def ldn (q : Nat → Bool) : Nat → Nat → Int32
  | 0, _ => -6
  | f + 1, m => if q m = true then nI m else ldn q f (m + 1)
theorem lo_ldn {q : Nat → Bool} {x : Int32} {n : Nat} (hn : n ≤ 24) (h : ∀ i, i < 32 → bt x i = (decide (i < n) && q i)) : ∀ f m, m + f = n → lo x (24 - m) m = ldn q f m := by
  intro f
  induction f with
  | zero =>
    intro m hm
    rw [ldn]
    exact lo_non _ _ (fun i h1 h2 => by rw [h i (by omega), decide_eq_false (by omega)]; rfl)
  | succ f ih =>
    intro m hm
    rw [ldn, show 24 - m = (24 - (m + 1)) + 1 by omega, lo, h m (by omega), decide_eq_true (by omega), Bool.true_and, ih (m + 1) (by omega)]
theorem lo_at {q : Nat → Bool} {n p : Nat} (hn : n ≤ 24) (hp : p < n) (hq : ∀ i, i ≤ p → q i = false) : lo (mk q n) 24 0 = ldn q (n - (p + 1)) (p + 1) := by
  have hb : ∀ i, i < 32 → bt (mk q n) i = (decide (i < n) && q i) := fun i hi => bt_mk _ (by omega) hi
  have h1 := lo_skip (x := mk q n) (p + 1) (24 - (p + 1)) 0 (fun i _ h2 => by rw [hb i (by omega), hq i (by omega), Bool.and_false])
  rw [show p + 1 + (24 - (p + 1)) = 24 by omega, Nat.zero_add] at h1
  rw [h1]
  exact lo_ldn hn hb _ _ (by omega)
theorem dp_fuel {P : Nat → Nat → Int32} {n : Nat} (hw : WF P n) (hn : n ≤ 24) : ∀ i f g, i < n → i < f → i < g → dpN P f i = dpN P g i := by
  intro i
  refine Nat.strongRecOn i ?_
  intro i ih f g hi hf hg
  obtain ⟨f, rfl⟩ : ∃ f', f = f' + 1 := ⟨f - 1, by omega⟩
  obtain ⟨g, rfl⟩ : ∃ g', g = g' + 1 := ⟨g - 1, by omega⟩
  rw [dpN, dpN]
  by_cases h : P i 3 = -6
  · rw [if_pos h, if_pos h]
  · rw [if_neg h, if_neg h]
    rcases (hw i hi).2.1 with h2 | ⟨t, ht, h2⟩
    · exact absurd h2 h
    · rw [h2, nI_clamp (by omega), ih t ht f g (by omega) (by omega) (by omega)]
theorem dp_0 {P : Nat → Nat → Int32} {i : Nat} (h : P i 3 = -6) : dpN P (i + 1) i = 0 := by rw [dpN, if_pos h]
theorem dp_s {P : Nat → Nat → Int32} {n i t : Nat} (hw : WF P n) (hn : n ≤ 24) (hi : i < n) (ht : t < i) (h : P i 3 = nI t) : dpN P (i + 1) i = dpN P (t + 1) t + 1 := by
  rw [dpN, if_neg (by rw [h]; exact nI_n6 t (by omega)), h, nI_clamp (by omega), dp_fuel hw hn t i (t + 1) (by omega) ht (by omega)]
theorem dp_le {P : Nat → Nat → Int32} {n : Nat} (hw : WF P n) (hn : n ≤ 24) : ∀ i, i < n → dpN P (i + 1) i ≤ i := by
  intro i
  refine Nat.strongRecOn i ?_
  intro i ih hi
  rcases (hw i hi).2.1 with h2 | ⟨t, ht, h2⟩
  · rw [dp_0 h2]; omega
  · rw [dp_s hw hn hi ht h2]
    have := ih t ht (by omega)
    omega
def ansM (P : Nat → Nat → Int32) (n p m : Nat) : Int32 := mk (fun i => decide (m ≤ i) && (P i 3 == nI p)) n
theorem ansM_n {P : Nat → Nat → Int32} {n p : Nat} : ansM P n p n = 0 := by
  unfold ansM
  rw [mk_congr (q := fun _ => false) (fun i hi => by rw [decide_eq_false (by omega)]; rfl)]
  induction n with
  | zero => rfl
  | succ n ih => rw [mk, if_neg (by decide), ih]
theorem ansM_s {P : Nat → Nat → Int32} {n p m : Nat} (hn : n ≤ 24) (hm : m < n) : ansM P n p (m + 1) ||| (if P m 3 = nI p then (1 : Int32) <<< (nI m &&& 31) else 0) = ansM P n p m := by
  apply b_ext
  intro i hi
  unfold ansM
  rw [b_or, bt_mk _ (by omega) hi, bt_mk _ (by omega) hi]
  by_cases e : i = m
  · subst e
    rw [decide_eq_false (show ¬ i + 1 ≤ i by omega), decide_eq_true (Nat.le_refl i), decide_eq_true hm]
    by_cases g : P i 3 = nI p
    · rw [if_pos g, bt_one (by omega) hi, g]; simp
    · rw [if_neg g, b_0]; simp [g]
  · have : bt (if P m 3 = nI p then (1 : Int32) <<< (nI m &&& 31) else 0) i = false := by
      split
      · rw [bt_one (by omega) hi, decide_eq_false e]
      · exact b_0 i
    rw [this, Bool.or_false]
    congr 2
    apply decide_eq_decide.mpr
    omega
theorem ansM_e {P : Nat → Nat → Int32} {n p : Nat} (hw : WF P n) (hn : n ≤ 24) (hp : p < n) : ansM P n p (p + 1) = mk (pTo P (nI p)) n := by
  unfold ansM
  apply mk_congr
  intro i hi
  unfold pTo
  by_cases h : P i 3 = nI p
  · rcases (hw i hi).2.1 with h2 | ⟨t, ht, h2⟩
    · rw [h2] at h; exact absurd h.symm (nI_n6 p (by omega))
    · have e : t = p := by rw [h2] at h; exact (nI_eq (by omega) (by omega)).mp h
      rw [decide_eq_true (by omega), Bool.true_and]
  · have : (P i 3 == nI p) = false := by simp [h]
    rw [this, Bool.and_false]
def lwq (M : Mm) (n p : Nat) : Nat → Bool := fun i => pTo (cp M 1) (nI p) i && bSd M 1 n i
theorem lwq_lo {M : Mm} {n p : Nat} (hw : WF (cp M 1) n) (hn : n ≤ 24) (hp : p < n) : lo (mk (pTo (cp M 1) (nI p)) n &&& mk (bSd M 1 n) n) 24 0 = ldn (lwq M n p) (n - (p + 1)) (p + 1) := by
  rw [mk_and _ _ (by omega)]
  refine lo_at hn hp (fun i hi => ?_)
  show (pTo (cp M 1) (nI p) i && bSd M 1 n i) = false
  have : pTo (cp M 1) (nI p) i = false := by
    unfold pTo
    rcases (hw i (by omega)).2.1 with h2 | ⟨t, ht, h2⟩
    · rw [h2]; simp; exact fun g => nI_n6 p (by omega) g.symm
    · rw [h2]; simp; intro g; have := (nI_eq (a := t) (b := p) (by omega) (by omega)).mp g; omega
  rw [this, Bool.false_and]
theorem ldn_s {q : Nat → Bool} {n m : Nat} (hm : m < n) : ldn q (n - m) m = if q m = true then nI m else ldn q (n - (m + 1)) (m + 1) := by
  rw [show n - m = (n - (m + 1)) + 1 by omega, ldn]
theorem tk_le {P : Nat → Nat → Int32} {pg s : Int32} (h : 0 ≤ pg) : ∀ k, tk P pg s k ≤ pg := by
  intro k
  induction k with
  | zero => exact h
  | succ k ih =>
    rw [tk]
    split
    · split
      · rename_i g; exact g
      · exact ih
    · exact ih
theorem uS_tk {M : Mm} {n : Nat} (hn : n ≤ 24) (hw : WF (cp M 1) n) (s : Int32) : ∀ k, k ≤ n → sm (cp M 1) s (uX M n) k = tk (cp M 1) (M.1 1 5) s k := by
  intro k
  induction k with
  | zero => intro _; rfl
  | succ k ih =>
    intro hk
    rw [sm, tk, ih (by omega), uX_bt hn (by omega)]
    have h6 := (hw k (by omega)).2.2
    by_cases h0 : cp M 1 k 0 = s
    · subst h0
      rcases h6 with h6 | h6
      · have e1 : pWd (cp M 1) k = false := by unfold pWd; rw [h6]; rfl
        have e2 : pSk (cp M 1) (M.1 1 5) k = !decide (tk (cp M 1) (M.1 1 5) (cp M 1 k 0) k + cp M 1 k 1 ≤ M.1 1 5) := by unfold pSk stK; rw [h6]; simp
        rw [e1, e2, if_pos (show cp M 1 k 0 = cp M 1 k 0 ∧ cp M 1 k 6 = 0 from ⟨rfl, h6⟩)]
        by_cases g : tk (cp M 1) (M.1 1 5) (cp M 1 k 0) k + cp M 1 k 1 ≤ M.1 1 5
        · rw [if_pos g, decide_eq_true g]; simp
        · rw [if_neg g, decide_eq_false g]; simp
      · have e1 : pWd (cp M 1) k = true := by unfold pWd; rw [h6]; rfl
        rw [e1, if_neg (show ¬ (cp M 1 k 0 = cp M 1 k 0 ∧ cp M 1 k 6 = 0) from fun g => by rw [h6] at g; exact absurd g.2 (by decide))]
        simp
    · rw [if_neg (fun g => h0 g.1), if_neg (fun g => h0 g.1)]
theorem of_0 {M : Mm} {n i : Nat} : ofR M n i 0 = cp M 1 i 0 := by unfold ofR; rw [if_pos rfl]; rfl
theorem of_1 {M : Mm} {n i : Nat} : ofR M n i 1 = cp M 1 i 1 := by unfold ofR; rw [if_neg (by decide), if_pos rfl]; rfl
theorem of_2 {M : Mm} {n i : Nat} : ofR M n i 2 = cp M 1 i 4 := by unfold ofR; rw [if_neg (by decide), if_neg (by decide), if_pos rfl]; rfl
theorem of_3 {M : Mm} {n i : Nat} : ofR M n i 3 = cp M 1 i 3 := by unfold ofR; rw [if_neg (by decide), if_neg (by decide), if_neg (by decide), if_pos rfl]; rfl
theorem of_4 {M : Mm} {n i : Nat} : ofR M n i 4 = cp M 1 i 2 := by unfold ofR; rw [if_neg (by decide), if_neg (by decide), if_neg (by decide), if_neg (by decide), if_pos rfl]; rfl
theorem of_5 {M : Mm} {n i : Nat} : ofR M n i 5 = (if bSd M 1 n i = true then 1 else 0) := by unfold ofR; rw [if_neg (by decide), if_neg (by decide), if_neg (by decide), if_neg (by decide), if_neg (by decide), if_pos rfl]
theorem of_6 {M : Mm} {n i : Nat} : ofR M n i 6 = rsR M 1 n i := by unfold ofR; rw [if_neg (by decide), if_neg (by decide), if_neg (by decide), if_neg (by decide), if_neg (by decide), if_neg (by decide), if_pos rfl]
theorem of_7 {M : Mm} {n i : Nat} : ofR M n i 7 = lo (mk (pTo (cp M 1) (nI i)) n &&& mk (bSd M 1 n) n) 24 0 := by unfold ofR; rw [if_neg (by decide), if_neg (by decide), if_neg (by decide), if_neg (by decide), if_neg (by decide), if_neg (by decide), if_neg (by decide), if_pos rfl]
theorem of_8 {M : Mm} {n i : Nat} : ofR M n i 8 = mk (pTo (cp M 1) (nI i)) n := by unfold ofR; rw [if_neg (by decide), if_neg (by decide), if_neg (by decide), if_neg (by decide), if_neg (by decide), if_neg (by decide), if_neg (by decide), if_neg (by decide), if_pos rfl]
theorem of_9 {M : Mm} {n i : Nat} : ofR M n i 9 = nI (dpN (cp M 1) (i + 1) i) := by unfold ofR; rw [if_neg (by decide), if_neg (by decide), if_neg (by decide), if_neg (by decide), if_neg (by decide), if_neg (by decide), if_neg (by decide), if_neg (by decide), if_neg (by decide), if_pos rfl]
theorem of_10 {M : Mm} {n i : Nat} : ofR M n i 10 = dlR M 1 i := by unfold ofR; rw [if_neg (by decide), if_neg (by decide), if_neg (by decide), if_neg (by decide), if_neg (by decide), if_neg (by decide), if_neg (by decide), if_neg (by decide), if_neg (by decide), if_neg (by decide), if_pos rfl]
theorem kc_0 {M : Mm} {n : Nat} : coR M n 0 0 = M.1 1 2 := by unfold coR; rw [if_pos rfl]
theorem kc_1 {M : Mm} {n : Nat} : coR M n 0 1 = M.1 1 1 := by unfold coR; rw [if_neg (by decide), if_pos rfl]
theorem kc_2 {M : Mm} {n : Nat} : coR M n 0 2 = bc (mk (pTo (cp M 1) (-6)) n) := by unfold coR; rw [if_neg (by decide), if_neg (by decide), if_pos rfl]
theorem kc_3 {M : Mm} {n : Nat} : coR M n 0 3 = bc (mk (bSd M 1 n) n) := by unfold coR; rw [if_neg (by decide), if_neg (by decide), if_neg (by decide), if_pos rfl]
theorem kc_4 {M : Mm} {n : Nat} : coR M n 0 4 = bc (mk (pTo (cp M 1) (-6)) n &&& mk (bSd M 1 n) n) := by unfold coR; rw [if_neg (by decide), if_neg (by decide), if_neg (by decide), if_neg (by decide), if_pos rfl]
theorem kc_5 {M : Mm} {n : Nat} : coR M n 0 5 = bc (mk (bOut M 1) n) := by unfold coR; rw [if_neg (by decide), if_neg (by decide), if_neg (by decide), if_neg (by decide), if_neg (by decide), if_pos rfl]
theorem kc_6 {M : Mm} {n : Nat} : coR M n 0 6 = bc ((mk (fun _ => true) n &&& (mk (bOut M 1) n ^^^ (-1))) &&& (mk (bSd M 1 n) n ^^^ (-1))) := by unfold coR; rw [if_neg (by decide), if_neg (by decide), if_neg (by decide), if_neg (by decide), if_neg (by decide), if_neg (by decide), if_pos rfl]
theorem kc_7 {M : Mm} {n : Nat} : coR M n 0 7 = sm (cp M 1) 0 (uX M n) n := by unfold coR; rw [if_neg (by decide), if_neg (by decide), if_neg (by decide), if_neg (by decide), if_neg (by decide), if_neg (by decide), if_neg (by decide), if_pos rfl]; rfl
theorem kc_8 {M : Mm} {n : Nat} : coR M n 0 8 = sm (cp M 1) 1 (uX M n) n := by unfold coR; rw [if_neg (by decide), if_neg (by decide), if_neg (by decide), if_neg (by decide), if_neg (by decide), if_neg (by decide), if_neg (by decide), if_neg (by decide), if_pos rfl]; rfl
theorem kc_9 {M : Mm} {n : Nat} : coR M n 0 9 = M.1 1 3 := by unfold coR; rw [if_neg (by decide), if_neg (by decide), if_neg (by decide), if_neg (by decide), if_neg (by decide), if_neg (by decide), if_neg (by decide), if_neg (by decide), if_neg (by decide), if_pos rfl]
theorem po_0 {M : Mm} {n : Nat} : poR M n 0 = mk (bSd M 1 n) n := by unfold poR; rw [if_pos rfl]
theorem po_1 {M : Mm} {n : Nat} : poR M n 1 = mk (pTo (cp M 1) (-6)) n &&& mk (bSd M 1 n) n := by unfold poR; rw [if_neg (by decide), if_pos rfl]
theorem po_2 {M : Mm} {n : Nat} : poR M n 2 = mk (bOut M 1) n := by unfold poR; rw [if_neg (by decide), if_neg (by decide), if_pos rfl]
theorem po_3 {M : Mm} {n : Nat} : poR M n 3 = (mk (fun _ => true) n &&& (mk (bOut M 1) n ^^^ (-1))) &&& (mk (bSd M 1 n) n ^^^ (-1)) := by unfold poR; rw [if_neg (by decide), if_neg (by decide), if_neg (by decide), if_pos rfl]
theorem po_4 {M : Mm} {n : Nat} : poR M n 4 = mk (pSd (cp M 1) 0) n := by unfold poR; rw [if_neg (by decide), if_neg (by decide), if_neg (by decide), if_neg (by decide), if_pos rfl]
theorem po_5 {M : Mm} {n : Nat} : poR M n 5 = mk (pSd (cp M 1) 1) n := by unfold poR; rw [if_neg (by decide), if_neg (by decide), if_neg (by decide), if_neg (by decide), if_neg (by decide), if_pos rfl]
theorem an_mk {M : Mm} {n : Nat} (hn : n ≤ 24) : (mk (fun _ => true) n &&& (mk (bOut M 1) n ^^^ (-1))) &&& (mk (bSd M 1 n) n ^^^ (-1)) = mk (anq M n) n := by
  rw [mk_not _ _ (by omega), mk_not _ _ (by omega)]
  exact mk_congr (fun i _ => by unfold anq; rw [Bool.true_and])
def cs1 (M : Mm) (n : Nat) : Int32 := mk (bSd M 1 n) n &&& mk (pCl (cp M 1)) n
theorem cs1_mk {M : Mm} {n : Nat} (hn : n ≤ 24) : cs1 M n = mk (fun i => bSd M 1 n i && pCl (cp M 1) i) n := mk_and _ _ (by omega)
theorem co4_eq {M : Mm} {n : Nat} (hn : n ≤ 24) : coR M n 0 4 = nI (cnt (fun i => bSd M 1 n i && pCl (cp M 1) i) n) := by
  rw [kc_4, mk_and _ _ (by omega), bc_mk hn]
  exact congrArg nI (cnt_congr (fun i _ => Bool.and_comm _ _))
theorem co6_eq {M : Mm} {n : Nat} (hn : n ≤ 24) : coR M n 0 6 = nI (cnt (anq M n) n) := by rw [kc_6, an_mk hn, bc_mk hn]
def sF (M : Mm) (n : Nat) : Nat → Int32 := upd (sS M n n) 1 (cs1 M n)
theorem po_S {M : Mm} {n k : Nat} (hn : n ≤ 24) (hk : k < 6) : poR M n (nI k) = sF M n k := by
  rcases (show k = 0 ∨ k = 1 ∨ k = 2 ∨ k = 3 ∨ k = 4 ∨ k = 5 by omega) with rfl | rfl | rfl | rfl | rfl | rfl
  · exact po_0
  · refine po_1.trans ?_
    show _ = cs1 M n
    unfold cs1
    rw [mk_and _ _ (by omega), mk_and _ _ (by omega)]
    exact mk_congr (fun i _ => Bool.and_comm _ _)
  · exact po_2
  · exact po_3.trans (an_mk hn)
  · exact po_4
  · exact po_5
theorem sF_45 {M : Mm} {n k : Nat} (hk : k < 2) : sF M n (4 + k) = mk (pSd (cp M 1) (nI k)) n := by
  rcases (show k = 0 ∨ k = 1 by omega) with rfl | rfl
  · rfl
  · rfl
theorem sS_45 {M : Mm} {n p s : Nat} {a b c : Int32} (hs : s < 2) : upd (upd (upd (sS M n p) 0 a) 2 b) 3 c (4 + s) = mk (pSd (cp M 1) (nI s)) p := by
  rcases (show s = 0 ∨ s = 1 by omega) with rfl | rfl
  · rfl
  · rfl
theorem uS_le {M : Mm} {n : Nat} (hn : n ≤ 24) (hw : WF (cp M 1) n) (h : 0 ≤ M.1 1 5) (s : Int32) : ¬ M.1 1 5 < sm (cp M 1) s (uX M n) n := by
  rw [uS_tk hn hw s n (Nat.le_refl n)]
  exact Int32.not_lt.mpr (tk_le h n)
theorem cnt_s1 {M : Mm} {n : Nat} {t : Int32} : cnt (fun i => (bSd M 1 n i && pCl (cp M 1) i) && pSd (cp M 1) t i) n = cnt (fun i => clP (cp M 1) t i && bSd M 1 n i) n := cnt_congr (fun i _ => by
  show ((bSd M 1 n i && pTo (cp M 1) (-6) i) && pSd (cp M 1) t i) = ((pTo (cp M 1) (-6) i && pSd (cp M 1) t i) && bSd M 1 n i)
  cases bSd M 1 n i <;> cases pTo (cp M 1) (-6) i <;> cases pSd (cp M 1) t i <;> rfl)
theorem yet_eq {M : Mm} {n p la dy : Nat} (hw : WF (cp M 1) n) (h9 : sm9 (cp M 1) n) (hp : p < n) (hn : n ≤ 24) (hl : la ≤ 60) (hd : dy ≤ 999) (h4 : M.1 1 4 = nI la) (h2 : M.1 1 2 = nI dy) : dlR M 1 p = if toV (cp M 1) p < 0 ∨ ¬ nI dy ≤ cp M 1 p 5 + nI la then -6 else cp M 1 p 5 + nI la - nI dy := by
  obtain ⟨⟨s, hs, e⟩, _⟩ := h9 p hp
  have e5 : M.1 (1 + 2 + p) 5 = nI s := e
  have h3 : M.1 (1 + 2 + p) 3 = -6 ↔ toV (cp M 1) p < 0 := (toV_lt hw hn hp).symm
  have hk : 0 ≤ nI s + nI la - nI dy ↔ nI dy ≤ nI s + nI la := by
    rw [nI_add, Int32.le_iff_toInt_le, Int32.le_iff_toInt_le, Int32.toInt_sub, nI_toInt (by omega), nI_toInt (by omega), Int.bmod_eq_of_le (by omega) (by omega)]
    show (0 : Int) ≤ _ ↔ _
    omega
  unfold dlR
  rw [e5, h4, h2, e]
  by_cases g : toV (cp M 1) p < 0
  · rw [if_pos (Or.inl (h3.mpr g)), if_pos (Or.inl g)]
  · by_cases g2 : nI dy ≤ nI s + nI la
    · rw [if_neg (fun h => h.elim (fun h => g (h3.mp h)) (fun h => h (hk.mpr g2))), if_neg (fun h => h.elim g (fun h => h g2))]
    · rw [if_pos (Or.inr (fun h => g2 (hk.mp h))), if_pos (Or.inr g2)]
theorem toV_ge {P : Nat → Nat → Int32} {n i : Nat} (hw : WF P n) (hn : n ≤ 24) (hi : i < n) (h : 0 ≤ toV P i) : ¬ P i 3 = -6 := fun e => absurd ((toV_lt hw hn hi).mpr e) (Int32.not_lt.mpr h)
theorem toV_ng {P : Nat → Nat → Int32} {n i : Nat} (hw : WF P n) (hn : n ≤ 24) (hi : i < n) (h : ¬ 0 ≤ toV P i) : P i 3 = -6 := (toV_lt hw hn hi).mp (Int32.not_le.mp h)
end
section
set_option maxRecDepth 100000 in
set_option maxHeartbeats 8000000 in
theorem l_points_b {Y : Yt} {X : XT} {M : Mm} (hX : vOK Y X iL_points 19 "PointAnswersLaw" { frames := 6, cells := 2, slots := 8, locals := 132 } (some .boolean)) {q1 q2 : Nat} (hC1 : aC Y 2 0 q1 6) (hC2 : aC Y 2 64 q2 2) {n la dy : Nat} (hz : M.1 1 1 = nI n) (hn : n ≤ 24) (hw : WF (cp M 1) n) (hS : LSt M (cp M 1) n) (h9 : sm9 (cp M 1) n) (hsd : ∀ i t, i < n → t < i → cp M 1 i 3 = nI t → ¬ cp M 1 i 0 = cp M 1 t 0) (hT0 : M.1 278 0 = M.1 1 4) (hT1 : M.1 278 1 = M.1 1 5) (hT2 : M.1 278 2 = M.1 1 2) (hT3 : M.1 278 3 = nI n) (hT4 : M.1 278 4 = M.1 1 3) (hla : la ≤ 60) (hdy : dy ≤ 999) (h4 : M.1 1 4 = nI la) (h2 : M.1 1 2 = nI dy) (h5 : 0 ≤ M.1 1 5) (hW : ∀ i, i < n → M.1 277 i = wv M n i) (hret : ∀ M1 L1, (∃ f, M1 = mrow M 2 f) → V Y X M1 863 L1 [.int 1]) : V Y X (pM M (fun _ => 0) (fun _ => 0)) 14 [some (.ref (Y.2.2.2.1 0)), some (.ref (Y.2.2.2.1 270)), some (.ref (Y.2.2.2.1 271)), some (.ref (Y.2.2.2.1 272)), some (.ref (Y.2.2.2.1 273)), some (.ref (Y.2.2.2.1 274)), some (.ref (Y.2.2.2.1 275)), some (.ref (Y.2.2.2.1 276)), some (.ref (Y.2.2.2.1 277)), some (.ref (Y.2.2.2.1 278)), some (.ref q1), some (.int 0), some (.ref q2), none, none, none, none, none, none] [] := by
  have hB0 : ∀ S U, (pM M S U).1 278 (0 + Int32.toNatClampNeg 0) = nI la := fun S U => by rw [pM_o (by decide)]; exact hT0.trans h4
  have hB1 : ∀ S U, (pM M S U).1 278 (0 + Int32.toNatClampNeg 1) = M.1 1 5 := fun S U => by rw [pM_o (by decide)]; exact hT1
  have hB2 : ∀ S U, (pM M S U).1 278 (0 + Int32.toNatClampNeg 2) = nI dy := fun S U => by rw [pM_o (by decide)]; exact hT2.trans h2
  have hB3 : ∀ S U, (pM M S U).1 278 (0 + Int32.toNatClampNeg 3) = nI n := fun S U => by rw [pM_o (by decide)]; exact hT3
  have hB4 : ∀ S U, (pM M S U).1 278 (0 + Int32.toNatClampNeg 4) = M.1 1 3 := fun S U => by rw [pM_o (by decide)]; exact hT4
  have hA0 : ∀ S U k, k < n → (pM M S U).1 270 (0 + (nI k).toNatClampNeg) = cp M 1 k 0 := fun S U k hk => by rw [pM_o (by decide), nI_clamp (by omega), Nat.zero_add]; exact (hS k hk).1
  have hA1 : ∀ S U k, k < n → (pM M S U).1 271 (0 + (nI k).toNatClampNeg) = cp M 1 k 1 := fun S U k hk => by rw [pM_o (by decide), nI_clamp (by omega), Nat.zero_add]; exact (hS k hk).2.1
  have hA2 : ∀ S U k, k < n → (pM M S U).1 272 (0 + (nI k).toNatClampNeg) = cp M 1 k 4 := fun S U k hk => by rw [pM_o (by decide), nI_clamp (by omega), Nat.zero_add]; exact (hS k hk).2.2.1
  have hA3 : ∀ S U k, k < n → (pM M S U).1 273 (0 + (nI k).toNatClampNeg) = cp M 1 k 5 := fun S U k hk => by rw [pM_o (by decide), nI_clamp (by omega), Nat.zero_add]; exact (hS k hk).2.2.2.1
  have hA4 : ∀ S U k, k < n → (pM M S U).1 274 (0 + (nI k).toNatClampNeg) = toV (cp M 1) k := fun S U k hk => by rw [pM_o (by decide), nI_clamp (by omega), Nat.zero_add]; exact (hS k hk).2.2.2.2.1
  have hA5 : ∀ S U k, k < n → (pM M S U).1 275 (0 + (nI k).toNatClampNeg) = cp M 1 k 2 := fun S U k hk => by rw [pM_o (by decide), nI_clamp (by omega), Nat.zero_add]; exact (hS k hk).2.2.2.2.2.1
  have hA6 : ∀ S U k, k < n → (pM M S U).1 276 (0 + (nI k).toNatClampNeg) = cp M 1 k 6 := fun S U k hk => by rw [pM_o (by decide), nI_clamp (by omega), Nat.zero_add]; exact (hS k hk).2.2.2.2.2.2
  have hAw : ∀ S U k, k < n → (pM M S U).1 277 (0 + (nI k).toNatClampNeg) = wv M n k := fun S U k hk => by rw [pM_o (by decide), nI_clamp (by omega), Nat.zero_add]; exact hW k hk
  have hS0 : ∀ S U, (pM M S U).1 2 (0 + Int32.toNatClampNeg 0) = S 0 := fun S U => pM_S (x := 0) (by decide)
  have hS1 : ∀ S U, (pM M S U).1 2 (0 + Int32.toNatClampNeg 1) = S 1 := fun S U => pM_S (x := 1) (by decide)
  have hS2 : ∀ S U, (pM M S U).1 2 (0 + Int32.toNatClampNeg 2) = S 2 := fun S U => pM_S (x := 2) (by decide)
  have hS3 : ∀ S U, (pM M S U).1 2 (0 + Int32.toNatClampNeg 3) = S 3 := fun S U => pM_S (x := 3) (by decide)
  have hU0 : ∀ S U, (pM M S U).1 2 (64 + Int32.toNatClampNeg 0) = U 0 := fun S U => pM_U (x := 0)
  have hU1 : ∀ S U, (pM M S U).1 2 (64 + Int32.toNatClampNeg 1) = U 1 := fun S U => pM_U (x := 1)
  have hzm : ∀ S U, (pM M S U).1 1 1 = nI n := fun S U => by rw [pM_o (by decide)]; exact hz
  have hwm : ∀ S U, WF (cp (pM M S U) 1) n := fun S U => by unfold pM; rw [cp_r2]; exact hw
  have hof : ∀ S U i w, ofR (pM M S U) n i w = ofR M n i w := fun S U i w => ofR_r2
  have hco : ∀ S U w, coR (pM M S U) n 0 w = coR M n 0 w := fun S U w => coR_r2
  have hpo : ∀ S U w, poR (pM M S U) n w = poR M n w := fun S U w => poR_r2
  have hsh : ∀ S U w, shF (pM M S U) n w = shF M n w := fun S U w => shF_r2
  refine v_iconst hX (v := 0) 8 rfl (by decide) ?_
  refine v_istore hX 9 rfl (Nat.le_of_ble_eq_true rfl) rfl ?_
  have lp : ∀ (p : Nat), p ≤ n → V Y X (pM M (sS M n p) (uS M n p)) 17 [some (.ref (Y.2.2.2.1 0)), some (.ref (Y.2.2.2.1 270)), some (.ref (Y.2.2.2.1 271)), some (.ref (Y.2.2.2.1 272)), some (.ref (Y.2.2.2.1 273)), some (.ref (Y.2.2.2.1 274)), some (.ref (Y.2.2.2.1 275)), some (.ref (Y.2.2.2.1 276)), some (.ref (Y.2.2.2.1 277)), some (.ref (Y.2.2.2.1 278)), some (.ref q1), some (.int (mk (pCl (cp M 1)) p)), some (.ref q2), some (.int (nI p)), none, none, none, none, none] [] := by
    refine upTo n (fun p hp0 ih => ?_)
    refine v_iload hX 10 rfl rfl ?_
    refine v_aload hX 11 rfl rfl ?_
    refine v_iconst hX (v := 3) 12 rfl (by decide) ?_
    refine v_ialg hX aC_278 (vp_in_nI (n := 3) (by decide) (by decide)) 13 rfl ?_
    rw [hB3]
    refine v_icmp_ge hX (tgt := 561) 14 rfl (by decide) (fun c23 => ?_) (fun c23 => ?_)
    · skip
      have hpn : n = p := by have := of_le c23 (by omega) (by omega); omega
      subst hpn
      refine v_aload hX 317 rfl rfl ?_
      refine v_iconst hX (v := 1) 318 rfl (by decide) ?_
      refine v_aload hX 319 rfl rfl ?_
      refine v_iconst hX (v := 0) 320 rfl (by decide) ?_
      refine v_ialg hX hC1 (vp_in_nI (n := 0) (by decide) (by decide)) 321 rfl ?_
      rw [hS0]
      show V _ _ _ _ _ (.int (mk (bSd M 1 n) n) :: _)
      refine v_iload hX 322 rfl rfl ?_
      refine v_iand hX 323 rfl ?_
      refine v_iasg hX hC1 (vp_in_nI (n := 1) (by decide) (by decide)) 324 rfl ?_
      refine V.mem (M2 := (pM M (sF M n) (uS M n n))) (by exact pM_sS (x := 1) (by decide)) ?_
      refine v_aload_n hX 0 325 rfl rfl rfl ?_
      refine v_iconst hX (v := 0) 326 rfl (by decide) ?_
      refine v_callV hX 1 (by decide) rfl rfl (f_count (hzm _ _) hn (hwm _ _)) tw_393 tw_390 tw_391 tw_392 tw_39 (by decide +kernel) ⟨⟨rfl, rfl⟩, Nat.le_of_ble_eq_true rfl, Nat.le_of_ble_eq_true rfl⟩ rfl (Nat.le_of_ble_eq_true rfl) rfl rfl 327 rfl ?_
      rw [hco]
      refine v_aload hX 328 rfl rfl ?_
      refine v_iconst hX (v := 2) 329 rfl (by decide) ?_
      refine v_ialg hX aC_278 (vp_in_nI (n := 2) (by decide) (by decide)) 330 rfl ?_
      rw [hB2]
      refine v_icmp_ne hX (tgt := 735) 331 rfl (by decide) (fun c581 => absurd c581 (fun h => h (kc_0.trans h2))) (fun c581 => ?_)
      refine v_aload_n hX 0 332 rfl rfl rfl ?_
      refine v_iconst hX (v := 1) 333 rfl (by decide) ?_
      refine v_callV hX 1 (by decide) rfl rfl (f_count (hzm _ _) hn (hwm _ _)) tw_393 tw_390 tw_391 tw_392 tw_39 (by decide +kernel) ⟨⟨rfl, rfl⟩, Nat.le_of_ble_eq_true rfl, Nat.le_of_ble_eq_true rfl⟩ rfl (Nat.le_of_ble_eq_true rfl) rfl rfl 334 rfl ?_
      rw [hco]
      refine v_aload hX 335 rfl rfl ?_
      refine v_iconst hX (v := 3) 336 rfl (by decide) ?_
      refine v_ialg hX aC_278 (vp_in_nI (n := 3) (by decide) (by decide)) 337 rfl ?_
      rw [hB3]
      refine v_icmp_ne hX (tgt := 735) 338 rfl (by decide) (fun c593 => absurd c593 (fun h => h (kc_1.trans hz))) (fun c593 => ?_)
      refine v_aload_n hX 0 339 rfl rfl rfl ?_
      refine v_iconst hX (v := 2) 340 rfl (by decide) ?_
      refine v_callV hX 1 (by decide) rfl rfl (f_count (hzm _ _) hn (hwm _ _)) tw_393 tw_390 tw_391 tw_392 tw_39 (by decide +kernel) ⟨⟨rfl, rfl⟩, Nat.le_of_ble_eq_true rfl, Nat.le_of_ble_eq_true rfl⟩ rfl (Nat.le_of_ble_eq_true rfl) rfl rfl 341 rfl ?_
      rw [hco]
      refine v_iload hX 342 rfl rfl ?_
      refine v_callS hX 1 (l_bits) tw_417 tw_415 tw_416 tw_38 (by decide +kernel) ⟨⟨rfl, rfl⟩, Nat.le_of_ble_eq_true rfl, Nat.le_of_ble_eq_true rfl⟩ rfl (Nat.le_of_ble_eq_true rfl) rfl rfl 343 rfl ?_
      rw [cnt_bt hn]
      refine v_icmp_ne hX (tgt := 735) 344 rfl (by decide) (fun c606 => absurd c606 (fun h => h (kc_2.trans (bc_mk hn)))) (fun c606 => ?_)
      refine v_aload_n hX 0 345 rfl rfl rfl ?_
      refine v_iconst hX (v := 3) 346 rfl (by decide) ?_
      refine v_callV hX 1 (by decide) rfl rfl (f_count (hzm _ _) hn (hwm _ _)) tw_393 tw_390 tw_391 tw_392 tw_39 (by decide +kernel) ⟨⟨rfl, rfl⟩, Nat.le_of_ble_eq_true rfl, Nat.le_of_ble_eq_true rfl⟩ rfl (Nat.le_of_ble_eq_true rfl) rfl rfl 347 rfl ?_
      rw [hco]
      refine v_aload hX 348 rfl rfl ?_
      refine v_iconst hX (v := 0) 349 rfl (by decide) ?_
      refine v_ialg hX hC1 (vp_in_nI (n := 0) (by decide) (by decide)) 350 rfl ?_
      rw [hS0]
      show V _ _ _ _ _ (.int (mk (bSd M 1 n) n) :: _)
      refine v_callS hX 1 (l_bits) tw_417 tw_415 tw_416 tw_38 (by decide +kernel) ⟨⟨rfl, rfl⟩, Nat.le_of_ble_eq_true rfl, Nat.le_of_ble_eq_true rfl⟩ rfl (Nat.le_of_ble_eq_true rfl) rfl rfl 351 rfl ?_
      rw [cnt_bt hn]
      refine v_icmp_ne hX (tgt := 735) 352 rfl (by decide) (fun c621 => absurd c621 (fun h => h (kc_3.trans (bc_mk hn)))) (fun c621 => ?_)
      refine v_aload_n hX 0 353 rfl rfl rfl ?_
      refine v_iconst hX (v := 4) 354 rfl (by decide) ?_
      refine v_callV hX 1 (by decide) rfl rfl (f_count (hzm _ _) hn (hwm _ _)) tw_393 tw_390 tw_391 tw_392 tw_39 (by decide +kernel) ⟨⟨rfl, rfl⟩, Nat.le_of_ble_eq_true rfl, Nat.le_of_ble_eq_true rfl⟩ rfl (Nat.le_of_ble_eq_true rfl) rfl rfl 355 rfl ?_
      rw [hco]
      refine v_aload hX 356 rfl rfl ?_
      refine v_iconst hX (v := 1) 357 rfl (by decide) ?_
      refine v_ialg hX hC1 (vp_in_nI (n := 1) (by decide) (by decide)) 358 rfl ?_
      rw [hS1]
      show V _ _ _ _ _ (.int (cs1 M n) :: _)
      rw [cs1_mk hn]
      refine v_callS hX 1 (l_bits) tw_417 tw_415 tw_416 tw_38 (by decide +kernel) ⟨⟨rfl, rfl⟩, Nat.le_of_ble_eq_true rfl, Nat.le_of_ble_eq_true rfl⟩ rfl (Nat.le_of_ble_eq_true rfl) rfl rfl 359 rfl ?_
      rw [cnt_bt hn]
      refine v_icmp_ne hX (tgt := 735) 360 rfl (by decide) (fun c636 => absurd c636 (fun h => h (co4_eq hn))) (fun c636 => ?_)
      refine v_aload_n hX 0 361 rfl rfl rfl ?_
      refine v_iconst hX (v := 5) 362 rfl (by decide) ?_
      refine v_callV hX 1 (by decide) rfl rfl (f_count (hzm _ _) hn (hwm _ _)) tw_393 tw_390 tw_391 tw_392 tw_39 (by decide +kernel) ⟨⟨rfl, rfl⟩, Nat.le_of_ble_eq_true rfl, Nat.le_of_ble_eq_true rfl⟩ rfl (Nat.le_of_ble_eq_true rfl) rfl rfl 363 rfl ?_
      rw [hco]
      refine v_aload hX 364 rfl rfl ?_
      refine v_iconst hX (v := 2) 365 rfl (by decide) ?_
      refine v_ialg hX hC1 (vp_in_nI (n := 2) (by decide) (by decide)) 366 rfl ?_
      rw [hS2]
      show V _ _ _ _ _ (.int (mk (bOut M 1) n) :: _)
      refine v_callS hX 1 (l_bits) tw_417 tw_415 tw_416 tw_38 (by decide +kernel) ⟨⟨rfl, rfl⟩, Nat.le_of_ble_eq_true rfl, Nat.le_of_ble_eq_true rfl⟩ rfl (Nat.le_of_ble_eq_true rfl) rfl rfl 367 rfl ?_
      rw [cnt_bt hn]
      refine v_icmp_ne hX (tgt := 735) 368 rfl (by decide) (fun c651 => absurd c651 (fun h => h (kc_5.trans (bc_mk hn)))) (fun c651 => ?_)
      refine v_aload_n hX 0 369 rfl rfl rfl ?_
      refine v_bipush hX (v := 6) 370 rfl (by decide) ?_
      refine v_callV hX 1 (by decide) rfl rfl (f_count (hzm _ _) hn (hwm _ _)) tw_393 tw_390 tw_391 tw_392 tw_39 (by decide +kernel) ⟨⟨rfl, rfl⟩, Nat.le_of_ble_eq_true rfl, Nat.le_of_ble_eq_true rfl⟩ rfl (Nat.le_of_ble_eq_true rfl) rfl rfl 371 rfl ?_
      rw [hco]
      refine v_aload hX 372 rfl rfl ?_
      refine v_iconst hX (v := 3) 373 rfl (by decide) ?_
      refine v_ialg hX hC1 (vp_in_nI (n := 3) (by decide) (by decide)) 374 rfl ?_
      rw [hS3]
      show V _ _ _ _ _ (.int (mk (anq M n) n) :: _)
      refine v_callS hX 1 (l_bits) tw_417 tw_415 tw_416 tw_38 (by decide +kernel) ⟨⟨rfl, rfl⟩, Nat.le_of_ble_eq_true rfl, Nat.le_of_ble_eq_true rfl⟩ rfl (Nat.le_of_ble_eq_true rfl) rfl rfl 375 rfl ?_
      rw [cnt_bt hn]
      refine v_icmp_ne hX (tgt := 735) 376 rfl (by decide) (fun c667 => absurd c667 (fun h => h (co6_eq hn))) (fun c667 => ?_)
      refine v_aload_n hX 0 377 rfl rfl rfl ?_
      refine v_bipush hX (v := 7) 378 rfl (by decide) ?_
      refine v_callV hX 1 (by decide) rfl rfl (f_count (hzm _ _) hn (hwm _ _)) tw_393 tw_390 tw_391 tw_392 tw_39 (by decide +kernel) ⟨⟨rfl, rfl⟩, Nat.le_of_ble_eq_true rfl, Nat.le_of_ble_eq_true rfl⟩ rfl (Nat.le_of_ble_eq_true rfl) rfl rfl 379 rfl ?_
      rw [hco]
      refine v_aload hX 380 rfl rfl ?_
      refine v_iconst hX (v := 0) 381 rfl (by decide) ?_
      refine v_ialg hX hC2 (vp_in_nI (n := 0) (by decide) (by decide)) 382 rfl ?_
      rw [hU0]
      show V _ _ _ _ _ (.int (sm (cp M 1) 0 (uX M n) n) :: _)
      refine v_icmp_ne hX (tgt := 735) 383 rfl (by decide) (fun c680 => absurd c680 (fun h => h kc_7)) (fun c680 => ?_)
      refine v_aload_n hX 0 384 rfl rfl rfl ?_
      refine v_bipush hX (v := 8) 385 rfl (by decide) ?_
      refine v_callV hX 1 (by decide) rfl rfl (f_count (hzm _ _) hn (hwm _ _)) tw_393 tw_390 tw_391 tw_392 tw_39 (by decide +kernel) ⟨⟨rfl, rfl⟩, Nat.le_of_ble_eq_true rfl, Nat.le_of_ble_eq_true rfl⟩ rfl (Nat.le_of_ble_eq_true rfl) rfl rfl 386 rfl ?_
      rw [hco]
      refine v_aload hX 387 rfl rfl ?_
      refine v_iconst hX (v := 1) 388 rfl (by decide) ?_
      refine v_ialg hX hC2 (vp_in_nI (n := 1) (by decide) (by decide)) 389 rfl ?_
      rw [hU1]
      show V _ _ _ _ _ (.int (sm (cp M 1) 1 (uX M n) n) :: _)
      refine v_icmp_ne hX (tgt := 735) 390 rfl (by decide) (fun c693 => absurd c693 (fun h => h kc_8)) (fun c693 => ?_)
      refine v_aload_n hX 0 391 rfl rfl rfl ?_
      refine v_bipush hX (v := 9) 392 rfl (by decide) ?_
      refine v_callV hX 1 (by decide) rfl rfl (f_count (hzm _ _) hn (hwm _ _)) tw_393 tw_390 tw_391 tw_392 tw_39 (by decide +kernel) ⟨⟨rfl, rfl⟩, Nat.le_of_ble_eq_true rfl, Nat.le_of_ble_eq_true rfl⟩ rfl (Nat.le_of_ble_eq_true rfl) rfl rfl 393 rfl ?_
      rw [hco]
      refine v_aload hX 394 rfl rfl ?_
      refine v_iconst hX (v := 4) 395 rfl (by decide) ?_
      refine v_ialg hX aC_278 (vp_in_nI (n := 4) (by decide) (by decide)) 396 rfl ?_
      rw [hB4]
      refine v_icmp_ne hX (tgt := 735) 397 rfl (by decide) (fun c706 => absurd c706 (fun h => h kc_9)) (fun c706 => ?_)
      refine v_aload hX 398 rfl rfl ?_
      refine v_iconst hX (v := 0) 399 rfl (by decide) ?_
      refine v_ialg hX hC2 (vp_in_nI (n := 0) (by decide) (by decide)) 400 rfl ?_
      rw [hU0]
      show V _ _ _ _ _ (.int (sm (cp M 1) 0 (uX M n) n) :: _)
      refine v_aload hX 401 rfl rfl ?_
      refine v_iconst hX (v := 1) 402 rfl (by decide) ?_
      refine v_ialg hX aC_278 (vp_in_nI (n := 1) (by decide) (by decide)) 403 rfl ?_
      rw [hB1]
      refine v_icmp_gt hX (tgt := 735) 404 rfl (by decide) (fun c717 => absurd c717 (uS_le hn hw h5 0)) (fun c717 => ?_)
      refine v_aload hX 405 rfl rfl ?_
      refine v_iconst hX (v := 1) 406 rfl (by decide) ?_
      refine v_ialg hX hC2 (vp_in_nI (n := 1) (by decide) (by decide)) 407 rfl ?_
      rw [hU1]
      show V _ _ _ _ _ (.int (sm (cp M 1) 1 (uX M n) n) :: _)
      refine v_aload hX 408 rfl rfl ?_
      refine v_iconst hX (v := 1) 409 rfl (by decide) ?_
      refine v_ialg hX aC_278 (vp_in_nI (n := 1) (by decide) (by decide)) 410 rfl ?_
      rw [hB1]
      refine v_icmp_gt hX (tgt := 735) 411 rfl (by decide) (fun c728 => absurd c728 (uS_le hn hw h5 1)) (fun c728 => ?_)
      refine v_iconst hX (v := 1) 412 rfl (by decide) ?_
      refine v_goto hX (tgt := 736) 413 rfl (by decide) ?_
      refine v_istore hX 415 rfl (Nat.le_of_ble_eq_true rfl) rfl ?_
      refine v_iconst hX (v := 0) 416 rfl (by decide) ?_
      refine v_istore hX 417 rfl (Nat.le_of_ble_eq_true rfl) rfl ?_
      have lk : ∀ (k : Nat), k ≤ 6 → V Y X (pM M (sF M n) (uS M n n)) 741 [some (.ref (Y.2.2.2.1 0)), some (.ref (Y.2.2.2.1 270)), some (.ref (Y.2.2.2.1 271)), some (.ref (Y.2.2.2.1 272)), some (.ref (Y.2.2.2.1 273)), some (.ref (Y.2.2.2.1 274)), some (.ref (Y.2.2.2.1 275)), some (.ref (Y.2.2.2.1 276)), some (.ref (Y.2.2.2.1 277)), some (.ref (Y.2.2.2.1 278)), some (.ref q1), some (.int (mk (pCl (cp M 1)) n)), some (.ref q2), some (.int 1), some (.int (nI k)), none, none, none, none] [] := by
        refine upTo 6 (fun k hk0 ihk => ?_)
        refine v_iload hX 418 rfl rfl ?_
        refine v_bipush hX (v := 6) 419 rfl (by decide) ?_
        refine v_icmp_ge hX (tgt := 780) 420 rfl (by decide) (fun c745 => ?_) (fun c745 => ?_)
        · skip
          refine v_iconst hX (v := 0) 436 rfl (by decide) ?_
          refine v_istore hX 437 rfl (Nat.le_of_ble_eq_true rfl) rfl ?_
          have ls : ∀ (k : Nat), k ≤ 2 → V Y X (pM M (sF M n) (uS M n n)) 783 [some (.ref (Y.2.2.2.1 0)), some (.ref (Y.2.2.2.1 270)), some (.ref (Y.2.2.2.1 271)), some (.ref (Y.2.2.2.1 272)), some (.ref (Y.2.2.2.1 273)), some (.ref (Y.2.2.2.1 274)), some (.ref (Y.2.2.2.1 275)), some (.ref (Y.2.2.2.1 276)), some (.ref (Y.2.2.2.1 277)), some (.ref (Y.2.2.2.1 278)), some (.ref q1), some (.int (mk (pCl (cp M 1)) n)), some (.ref q2), some (.int 1), some (.int (nI k)), none, none, none, none] [] := by
            refine upTo 2 (fun k hk0 ihs => ?_)
            refine v_iload hX 438 rfl rfl ?_
            refine v_iconst hX (v := 2) 439 rfl (by decide) ?_
            refine v_icmp_ge hX (tgt := 861) 440 rfl (by decide) (fun c786 => ?_) (fun c786 => ?_)
            · skip
              refine v_iload hX 478 rfl rfl ?_
              exact hret _ _ ⟨_, rfl⟩
            · skip
              have hk2 : k < 2 := of_nle (a := 2) c786 (by omega) (by omega)
              refine v_iload hX 441 rfl rfl ?_
              refine v_aload hX 442 rfl rfl ?_
              refine v_iconst hX (v := 4) 443 rfl (by decide) ?_
              refine v_iload hX 444 rfl rfl ?_
              refine v_iadd hX 445 rfl ?_
              rw [show (4 : Int32) + nI k = nI (4 + k) from nI_add 4 k]
              refine v_ialg hX hC1 (vp_in_nI (by omega) (by decide)) 446 rfl ?_
              rw [nI_clamp (by omega), pM_S (by omega), sF_45 hk2]
              refine v_iand hX 447 rfl ?_
              rw [mk_and _ _ (by omega)]
              refine v_callS hX 1 (l_bits) tw_417 tw_415 tw_416 tw_38 (by decide +kernel) ⟨⟨rfl, rfl⟩, Nat.le_of_ble_eq_true rfl, Nat.le_of_ble_eq_true rfl⟩ rfl (Nat.le_of_ble_eq_true rfl) rfl rfl 448 rfl ?_
              rw [cnt_bt hn]
              show V _ _ _ _ _ (.int (nI (cnt (clP (cp M 1) (nI k)) n)) :: _)
              refine v_istore hX 449 rfl (Nat.le_of_ble_eq_true rfl) rfl ?_
              refine v_iload hX 450 rfl rfl ?_
              refine v_if_eq hX (tgt := 852) 451 rfl (by decide) (fun c806 => absurd c806 (by decide)) (fun c806 => ?_)
              refine v_aload_n hX 0 452 rfl rfl rfl ?_
              refine v_iload hX 453 rfl rfl ?_
              refine v_callV hX 1 (by decide) rfl rfl (f_share (hzm _ _) hn (hwm _ _) (by rcases (show k = 0 ∨ k = 1 by omega) with rfl | rfl; exact Or.inl rfl; exact Or.inr rfl)) tw_429 tw_426 tw_427 tw_428 tw_39 (by decide +kernel) ⟨⟨rfl, rfl⟩, Nat.le_of_ble_eq_true rfl, Nat.le_of_ble_eq_true rfl⟩ rfl (Nat.le_of_ble_eq_true rfl) rfl rfl 454 rfl ?_
              rw [hsh]
              have j845 : ∀ (v : Int32), v = shF M n (nI k) → V Y X (pM M (sF M n) (uS M n n)) 845 [some (.ref (Y.2.2.2.1 0)), some (.ref (Y.2.2.2.1 270)), some (.ref (Y.2.2.2.1 271)), some (.ref (Y.2.2.2.1 272)), some (.ref (Y.2.2.2.1 273)), some (.ref (Y.2.2.2.1 274)), some (.ref (Y.2.2.2.1 275)), some (.ref (Y.2.2.2.1 276)), some (.ref (Y.2.2.2.1 277)), some (.ref (Y.2.2.2.1 278)), some (.ref q1), some (.int (mk (pCl (cp M 1)) n)), some (.ref q2), some (.int 1), some (.int (nI k)), some (.int (nI (cnt (clP (cp M 1) (nI k)) n))), none, none, none] [.int v, .int (shF M n (nI k))] := by
                intro v hv845
                refine v_icmp_ne hX (tgt := 852) 471 rfl (by decide) (fun c845 => absurd c845 (fun h => h hv845.symm)) (fun c845 => ?_)
                refine v_iconst hX (v := 1) 472 rfl (by decide) ?_
                refine v_goto hX (tgt := 853) 473 rfl (by decide) ?_
                refine v_istore hX 475 rfl (Nat.le_of_ble_eq_true rfl) rfl ?_
                refine v_iinc hX 476 rfl rfl (nI_inc k) (Nat.le_of_ble_eq_true rfl) rfl ?_
                refine v_goto hX (tgt := 783) 477 rfl (by decide) ?_
                refine V.subM (ihs hk2) ?_ rfl ⟨rfl, rfl, rfl, rfl, rfl, rfl, rfl, rfl, rfl, rfl, rfl, rfl, rfl, rfl, rfl, trivial⟩
                rfl
              refine v_iload hX 455 rfl rfl ?_
              refine v_if_ne hX (tgt := 825) 456 rfl (by decide) (fun c817 => ?_) (fun c817 => ?_)
              · skip
                have q817 : ¬ cnt (clP (cp M 1) (nI k)) n = 0 := fun e => c817 (by rw [e]; rfl)
                refine v_aload hX 459 rfl rfl ?_
                refine v_iconst hX (v := 1) 460 rfl (by decide) ?_
                refine v_ialg hX hC1 (vp_in_nI (n := 1) (by decide) (by decide)) 461 rfl ?_
                rw [hS1]
                show V _ _ _ _ _ (.int (cs1 M n) :: _)
                rw [cs1_mk hn]
                refine v_aload hX 462 rfl rfl ?_
                refine v_iconst hX (v := 4) 463 rfl (by decide) ?_
                refine v_iload hX 464 rfl rfl ?_
                refine v_iadd hX 465 rfl ?_
                rw [show (4 : Int32) + nI k = nI (4 + k) from nI_add 4 k]
                refine v_ialg hX hC1 (vp_in_nI (by omega) (by decide)) 466 rfl ?_
                rw [nI_clamp (by omega), pM_S (by omega), sF_45 hk2]
                refine v_iand hX 467 rfl ?_
                rw [mk_and _ _ (by omega)]
                refine v_callS hX 1 (l_bits) tw_417 tw_415 tw_416 tw_38 (by decide +kernel) ⟨⟨rfl, rfl⟩, Nat.le_of_ble_eq_true rfl, Nat.le_of_ble_eq_true rfl⟩ rfl (Nat.le_of_ble_eq_true rfl) rfl rfl 468 rfl ?_
                rw [cnt_bt hn, cnt_s1]
                refine v_iload hX 469 rfl rfl ?_
                refine v_callS hX 2 (l_share (show _ < 25 by have := cnt_le (fun i => clP (cp M 1) (nI k) i && bSd M 1 n i) n; omega) (show _ < 25 by have := cnt_le (clP (cp M 1) (nI k)) n; omega) q817 (cnt_mono (fun i g => by simp only [Bool.and_eq_true] at g; exact g.1))) tw_437 tw_435 tw_436 tw_38 (by decide +kernel) ⟨⟨rfl, rfl⟩, Nat.le_of_ble_eq_true rfl, Nat.le_of_ble_eq_true rfl⟩ rfl (Nat.le_of_ble_eq_true rfl) rfl rfl 470 rfl ?_
                exact V.sub (j845 _ (by unfold shF; exact (if_neg q817).symm)) rfl ⟨rfl, rfl, rfl, rfl, rfl, rfl, rfl, rfl, rfl, rfl, rfl, rfl, rfl, rfl, rfl, rfl, trivial⟩
              · skip
                have q817 : cnt (clP (cp M 1) (nI k)) n = 0 := by have hcl := cnt_le (clP (cp M 1) (nI k)) n; exact (nI_eq (b := 0) (by omega) (by omega)).mp c817
                refine v_bipush hX (v := (-6)) 457 rfl (by decide) ?_
                refine v_goto hX (tgt := 845) 458 rfl (by decide) ?_
                exact V.sub (j845 _ (by unfold shF; exact (if_pos q817).symm)) rfl ⟨rfl, rfl, rfl, rfl, rfl, rfl, rfl, rfl, rfl, rfl, rfl, rfl, rfl, rfl, rfl, rfl, trivial⟩
          refine V.subM (ls 0 (Nat.zero_le _)) ?_ rfl ⟨rfl, rfl, rfl, rfl, rfl, rfl, rfl, rfl, rfl, rfl, rfl, rfl, rfl, rfl, rfl, trivial⟩
          rfl
        · skip
          have hk6 : k < 6 := of_nle (a := 6) c745 (by omega) (by omega)
          refine v_iload hX 421 rfl rfl ?_
          refine v_if_eq hX (tgt := 771) 422 rfl (by decide) (fun c750 => absurd c750 (by decide)) (fun c750 => ?_)
          refine v_aload_n hX 0 423 rfl rfl rfl ?_
          refine v_iload hX 424 rfl rfl ?_
          refine v_callV hX 1 (by decide) rfl rfl (f_points (hzm _ _) hn (hwm _ _)) tw_421 tw_418 tw_419 tw_420 tw_39 (by decide +kernel) ⟨⟨rfl, rfl⟩, Nat.le_of_ble_eq_true rfl, Nat.le_of_ble_eq_true rfl⟩ rfl (Nat.le_of_ble_eq_true rfl) rfl rfl 425 rfl ?_
          rw [hpo]
          refine v_aload hX 426 rfl rfl ?_
          refine v_iload hX 427 rfl rfl ?_
          refine v_ialg hX hC1 (vp_in_nI (by omega) (by decide)) 428 rfl ?_
          rw [nI_clamp (by omega), pM_S (by omega)]
          refine v_icmp_ne hX (tgt := 771) 429 rfl (by decide) (fun c764 => absurd c764 (fun h => h (po_S hn hk6))) (fun c764 => ?_)
          refine v_iconst hX (v := 1) 430 rfl (by decide) ?_
          refine v_goto hX (tgt := 772) 431 rfl (by decide) ?_
          refine v_istore hX 433 rfl (Nat.le_of_ble_eq_true rfl) rfl ?_
          refine v_iinc hX 434 rfl rfl (nI_inc k) (Nat.le_of_ble_eq_true rfl) rfl ?_
          refine v_goto hX (tgt := 741) 435 rfl (by decide) ?_
          refine V.subM (ihk hk6) ?_ rfl ⟨rfl, rfl, rfl, rfl, rfl, rfl, rfl, rfl, rfl, rfl, rfl, rfl, rfl, rfl, rfl, trivial⟩
          rfl
      refine V.subM (lk 0 (Nat.zero_le _)) ?_ rfl ⟨rfl, rfl, rfl, rfl, rfl, rfl, rfl, rfl, rfl, rfl, rfl, rfl, rfl, rfl, rfl, trivial⟩
      rfl
    · skip
      have hp : p < n := of_nle c23 (by omega) (by omega)
      obtain ⟨s, hs, es⟩ : ∃ s, s < 2 ∧ cp M 1 p 0 = nI s := by rcases (hw p hp).1 with h | h; exact ⟨0, by decide, h⟩; exact ⟨1, by decide, h⟩
      refine v_iconst hX (v := 0) 15 rfl (by decide) ?_
      refine v_istore hX 16 rfl (Nat.le_of_ble_eq_true rfl) rfl ?_
      refine v_bipush hX (v := (-6)) 17 rfl (by decide) ?_
      refine v_istore hX 18 rfl (Nat.le_of_ble_eq_true rfl) rfl ?_
      refine v_aload hX 19 rfl rfl ?_
      refine v_iconst hX (v := 3) 20 rfl (by decide) ?_
      refine v_ialg hX aC_278 (vp_in_nI (n := 3) (by decide) (by decide)) 21 rfl ?_
      rw [hB3]
      refine v_iconst hX (v := 1) 22 rfl (by decide) ?_
      refine v_isub hX 23 rfl ?_
      refine v_istore hX 24 rfl (Nat.le_of_ble_eq_true rfl) rfl ?_
      have la : ∀ (m : Nat), m ≤ n → p + 1 ≤ m → V Y X (pM M (sS M n p) (uS M n p)) 41 [some (.ref (Y.2.2.2.1 0)), some (.ref (Y.2.2.2.1 270)), some (.ref (Y.2.2.2.1 271)), some (.ref (Y.2.2.2.1 272)), some (.ref (Y.2.2.2.1 273)), some (.ref (Y.2.2.2.1 274)), some (.ref (Y.2.2.2.1 275)), some (.ref (Y.2.2.2.1 276)), some (.ref (Y.2.2.2.1 277)), some (.ref (Y.2.2.2.1 278)), some (.ref q1), some (.int (mk (pCl (cp M 1)) p)), some (.ref q2), some (.int (nI p)), some (.int (ansM (cp M 1) n p m)), some (.int (ldn (lwq M n p) (n - m) m)), some (.int (nI m - 1)), none, none] [] := by
        refine downTo (fun m iha => ?_)
        intro hm hpm
        rcases Nat.eq_zero_or_pos m with h0 | h0
        · skip
          exfalso; omega
          skip
        · skip
          obtain ⟨m, rfl⟩ : ∃ m2, m = m2 + 1 := ⟨m - 1, by omega⟩
          rw [nI_pred]
          refine v_iload hX 25 rfl rfl ?_
          refine v_iload hX 26 rfl rfl ?_
          refine v_icmp_le hX (tgt := 104) 27 rfl (by decide) (fun c45 => ?_) (fun c45 => ?_)
          · skip
            have hmp : p = m := by have := of_le c45 (by omega) (by omega); omega
            subst hmp
            refine v_iconst hX (v := 0) 56 rfl (by decide) ?_
            refine v_istore hX 57 rfl (Nat.le_of_ble_eq_true rfl) rfl ?_
            refine v_iload hX 58 rfl rfl ?_
            refine v_istore hX 59 rfl (Nat.le_of_ble_eq_true rfl) rfl ?_
            have ld : ∀ (q : Nat), q ≤ p → ∀ (d : Nat), d + dpN (cp M 1) (q + 1) q = dpN (cp M 1) (p + 1) p → V Y X (pM M (sS M n p) (uS M n p)) 111 [some (.ref (Y.2.2.2.1 0)), some (.ref (Y.2.2.2.1 270)), some (.ref (Y.2.2.2.1 271)), some (.ref (Y.2.2.2.1 272)), some (.ref (Y.2.2.2.1 273)), some (.ref (Y.2.2.2.1 274)), some (.ref (Y.2.2.2.1 275)), some (.ref (Y.2.2.2.1 276)), some (.ref (Y.2.2.2.1 277)), some (.ref (Y.2.2.2.1 278)), some (.ref q1), some (.int (mk (pCl (cp M 1)) p)), some (.ref q2), some (.int (nI p)), some (.int (ansM (cp M 1) n p (p + 1))), some (.int (ldn (lwq M n p) (n - (p + 1)) (p + 1))), some (.int (nI d)), some (.int (nI q)), none] [] := by
              refine downTo (fun q ihd => ?_)
              intro hqp d hd
              refine v_aload hX 60 rfl rfl ?_
              refine v_iload hX 61 rfl rfl ?_
              refine v_ialg hX aC_274 (vp_in_nI (by omega) (by decide)) 62 rfl ?_
              rw [hA4 _ _ _ (by omega)]
              refine v_if_lt hX (tgt := 132) 63 rfl (by decide) (fun c116 => ?_) (fun c116 => ?_)
              · skip
                have q116 : cp M 1 q 3 = -6 := (toV_lt hw hn (by omega)).mp c116
                rw [dp_0 q116, Nat.add_zero] at hd
                subst hd
                have j177 : ∀ (v : Int32), v = dlR M 1 p → V Y X (pM M (sS M n p) (uS M n p)) 177 [some (.ref (Y.2.2.2.1 0)), some (.ref (Y.2.2.2.1 270)), some (.ref (Y.2.2.2.1 271)), some (.ref (Y.2.2.2.1 272)), some (.ref (Y.2.2.2.1 273)), some (.ref (Y.2.2.2.1 274)), some (.ref (Y.2.2.2.1 275)), some (.ref (Y.2.2.2.1 276)), some (.ref (Y.2.2.2.1 277)), some (.ref (Y.2.2.2.1 278)), some (.ref q1), some (.int (mk (pCl (cp M 1)) p)), some (.ref q2), some (.int (nI p)), some (.int (ansM (cp M 1) n p (p + 1))), some (.int (ldn (lwq M n p) (n - (p + 1)) (p + 1))), some (.int (nI (dpN (cp M 1) (p + 1) p))), none, none] [.int v] := by
                  intro v hv10
                  refine v_istore hX 98 rfl (Nat.le_of_ble_eq_true rfl) rfl ?_
                  refine v_aload_n hX 0 99 rfl rfl rfl ?_
                  refine v_iload hX 100 rfl rfl ?_
                  refine v_iconst hX (v := 0) 101 rfl (by decide) ?_
                  refine v_callV hX 2 (by decide) rfl rfl (f_of (hzm _ _) hn (hwm _ _) hp) tw_367 tw_364 tw_365 tw_366 tw_39 (by decide +kernel) ⟨⟨rfl, rfl⟩, Nat.le_of_ble_eq_true rfl, Nat.le_of_ble_eq_true rfl⟩ rfl (Nat.le_of_ble_eq_true rfl) rfl rfl 102 rfl ?_
                  rw [hof]
                  refine v_aload_n hX 1 103 rfl rfl rfl ?_
                  refine v_iload hX 104 rfl rfl ?_
                  refine v_ialg hX aC_270 (vp_in_nI (by omega) (by decide)) 105 rfl ?_
                  rw [hA0 _ _ _ (by omega)]
                  refine v_icmp_ne hX (tgt := 307) 106 rfl (by decide) (fun c190 => absurd c190 (fun h => h of_0)) (fun c190 => ?_)
                  refine v_aload_n hX 0 107 rfl rfl rfl ?_
                  refine v_iload hX 108 rfl rfl ?_
                  refine v_iconst hX (v := 1) 109 rfl (by decide) ?_
                  refine v_callV hX 2 (by decide) rfl rfl (f_of (hzm _ _) hn (hwm _ _) hp) tw_367 tw_364 tw_365 tw_366 tw_39 (by decide +kernel) ⟨⟨rfl, rfl⟩, Nat.le_of_ble_eq_true rfl, Nat.le_of_ble_eq_true rfl⟩ rfl (Nat.le_of_ble_eq_true rfl) rfl rfl 110 rfl ?_
                  rw [hof]
                  refine v_aload_n hX 2 111 rfl rfl rfl ?_
                  refine v_iload hX 112 rfl rfl ?_
                  refine v_ialg hX aC_271 (vp_in_nI (by omega) (by decide)) 113 rfl ?_
                  rw [hA1 _ _ _ (by omega)]
                  refine v_icmp_ne hX (tgt := 307) 114 rfl (by decide) (fun c204 => absurd c204 (fun h => h of_1)) (fun c204 => ?_)
                  refine v_aload_n hX 0 115 rfl rfl rfl ?_
                  refine v_iload hX 116 rfl rfl ?_
                  refine v_iconst hX (v := 2) 117 rfl (by decide) ?_
                  refine v_callV hX 2 (by decide) rfl rfl (f_of (hzm _ _) hn (hwm _ _) hp) tw_367 tw_364 tw_365 tw_366 tw_39 (by decide +kernel) ⟨⟨rfl, rfl⟩, Nat.le_of_ble_eq_true rfl, Nat.le_of_ble_eq_true rfl⟩ rfl (Nat.le_of_ble_eq_true rfl) rfl rfl 118 rfl ?_
                  rw [hof]
                  refine v_aload_n hX 3 119 rfl rfl rfl ?_
                  refine v_iload hX 120 rfl rfl ?_
                  refine v_ialg hX aC_272 (vp_in_nI (by omega) (by decide)) 121 rfl ?_
                  rw [hA2 _ _ _ (by omega)]
                  refine v_icmp_ne hX (tgt := 307) 122 rfl (by decide) (fun c218 => absurd c218 (fun h => h of_2)) (fun c218 => ?_)
                  refine v_aload_n hX 0 123 rfl rfl rfl ?_
                  refine v_iload hX 124 rfl rfl ?_
                  refine v_iconst hX (v := 3) 125 rfl (by decide) ?_
                  refine v_callV hX 2 (by decide) rfl rfl (f_of (hzm _ _) hn (hwm _ _) hp) tw_367 tw_364 tw_365 tw_366 tw_39 (by decide +kernel) ⟨⟨rfl, rfl⟩, Nat.le_of_ble_eq_true rfl, Nat.le_of_ble_eq_true rfl⟩ rfl (Nat.le_of_ble_eq_true rfl) rfl rfl 126 rfl ?_
                  rw [hof]
                  have j246 : ∀ (v3 : Int32), v3 = cp M 1 p 3 → V Y X (pM M (sS M n p) (uS M n p)) 246 [some (.ref (Y.2.2.2.1 0)), some (.ref (Y.2.2.2.1 270)), some (.ref (Y.2.2.2.1 271)), some (.ref (Y.2.2.2.1 272)), some (.ref (Y.2.2.2.1 273)), some (.ref (Y.2.2.2.1 274)), some (.ref (Y.2.2.2.1 275)), some (.ref (Y.2.2.2.1 276)), some (.ref (Y.2.2.2.1 277)), some (.ref (Y.2.2.2.1 278)), some (.ref q1), some (.int (mk (pCl (cp M 1)) p)), some (.ref q2), some (.int (nI p)), some (.int (ansM (cp M 1) n p (p + 1))), some (.int (ldn (lwq M n p) (n - (p + 1)) (p + 1))), some (.int (nI (dpN (cp M 1) (p + 1) p))), some (.int v), none] [.int v3, .int (ofR M n p 3)] := by
                    intro v3 hv3
                    refine v_icmp_ne hX (tgt := 307) 136 rfl (by decide) (fun c246 => absurd c246 (fun h => h (of_3.trans hv3.symm))) (fun c246 => ?_)
                    refine v_aload_n hX 0 137 rfl rfl rfl ?_
                    refine v_iload hX 138 rfl rfl ?_
                    refine v_iconst hX (v := 4) 139 rfl (by decide) ?_
                    refine v_callV hX 2 (by decide) rfl rfl (f_of (hzm _ _) hn (hwm _ _) hp) tw_367 tw_364 tw_365 tw_366 tw_39 (by decide +kernel) ⟨⟨rfl, rfl⟩, Nat.le_of_ble_eq_true rfl, Nat.le_of_ble_eq_true rfl⟩ rfl (Nat.le_of_ble_eq_true rfl) rfl rfl 140 rfl ?_
                    rw [hof]
                    refine v_aload hX 141 rfl rfl ?_
                    refine v_iload hX 142 rfl rfl ?_
                    refine v_ialg hX aC_275 (vp_in_nI (by omega) (by decide)) 143 rfl ?_
                    rw [hA5 _ _ _ (by omega)]
                    refine v_icmp_ne hX (tgt := 307) 144 rfl (by decide) (fun c261 => absurd c261 (fun h => h of_4)) (fun c261 => ?_)
                    refine v_aload_n hX 0 145 rfl rfl rfl ?_
                    refine v_iload hX 146 rfl rfl ?_
                    refine v_iconst hX (v := 5) 147 rfl (by decide) ?_
                    refine v_callV hX 2 (by decide) rfl rfl (f_of (hzm _ _) hn (hwm _ _) hp) tw_367 tw_364 tw_365 tw_366 tw_39 (by decide +kernel) ⟨⟨rfl, rfl⟩, Nat.le_of_ble_eq_true rfl, Nat.le_of_ble_eq_true rfl⟩ rfl (Nat.le_of_ble_eq_true rfl) rfl rfl 148 rfl ?_
                    rw [hof]
                    have j284 : ∀ (v5 : Int32), v5 = (if bSd M 1 n p = true then 1 else 0) → V Y X (pM M (sS M n p) (uS M n p)) 284 [some (.ref (Y.2.2.2.1 0)), some (.ref (Y.2.2.2.1 270)), some (.ref (Y.2.2.2.1 271)), some (.ref (Y.2.2.2.1 272)), some (.ref (Y.2.2.2.1 273)), some (.ref (Y.2.2.2.1 274)), some (.ref (Y.2.2.2.1 275)), some (.ref (Y.2.2.2.1 276)), some (.ref (Y.2.2.2.1 277)), some (.ref (Y.2.2.2.1 278)), some (.ref q1), some (.int (mk (pCl (cp M 1)) p)), some (.ref q2), some (.int (nI p)), some (.int (ansM (cp M 1) n p (p + 1))), some (.int (ldn (lwq M n p) (n - (p + 1)) (p + 1))), some (.int (nI (dpN (cp M 1) (p + 1) p))), some (.int v), none] [.int v5, .int (ofR M n p 5)] := by
                      intro v5 hv5
                      refine v_icmp_ne hX (tgt := 307) 156 rfl (by decide) (fun c284 => absurd c284 (fun h => h (of_5.trans hv5.symm))) (fun c284 => ?_)
                      refine v_aload_n hX 0 157 rfl rfl rfl ?_
                      refine v_iload hX 158 rfl rfl ?_
                      refine v_bipush hX (v := 6) 159 rfl (by decide) ?_
                      refine v_callV hX 2 (by decide) rfl rfl (f_of (hzm _ _) hn (hwm _ _) hp) tw_367 tw_364 tw_365 tw_366 tw_39 (by decide +kernel) ⟨⟨rfl, rfl⟩, Nat.le_of_ble_eq_true rfl, Nat.le_of_ble_eq_true rfl⟩ rfl (Nat.le_of_ble_eq_true rfl) rfl rfl 160 rfl ?_
                      rw [hof]
                      refine v_aload hX 161 rfl rfl ?_
                      refine v_iload hX 162 rfl rfl ?_
                      refine v_ialg hX aC_277 (vp_in_nI (by omega) (by decide)) 163 rfl ?_
                      rw [hAw _ _ _ (by omega)]
                      refine v_icmp_ne hX (tgt := 307) 164 rfl (by decide) (fun c300 => absurd c300 (fun h => h (of_6.trans (wv_all hp).1.symm))) (fun c300 => ?_)
                      refine v_iconst hX (v := 1) 165 rfl (by decide) ?_
                      refine v_goto hX (tgt := 308) 166 rfl (by decide) ?_
                      refine v_istore hX 168 rfl (Nat.le_of_ble_eq_true rfl) rfl ?_
                      refine v_iload hX 169 rfl rfl ?_
                      refine v_if_eq hX (tgt := 393) 170 rfl (by decide) (fun c312 => absurd c312 (by decide)) (fun c312 => ?_)
                      refine v_aload_n hX 0 171 rfl rfl rfl ?_
                      refine v_iload hX 172 rfl rfl ?_
                      refine v_bipush hX (v := 7) 173 rfl (by decide) ?_
                      refine v_callV hX 2 (by decide) rfl rfl (f_of (hzm _ _) hn (hwm _ _) hp) tw_367 tw_364 tw_365 tw_366 tw_39 (by decide +kernel) ⟨⟨rfl, rfl⟩, Nat.le_of_ble_eq_true rfl, Nat.le_of_ble_eq_true rfl⟩ rfl (Nat.le_of_ble_eq_true rfl) rfl rfl 174 rfl ?_
                      rw [hof]
                      refine v_iload hX 175 rfl rfl ?_
                      refine v_icmp_ne hX (tgt := 393) 176 rfl (by decide) (fun c325 => absurd c325 (fun h => h (of_7.trans (lwq_lo hw hn hp)))) (fun c325 => ?_)
                      refine v_aload_n hX 0 177 rfl rfl rfl ?_
                      refine v_iload hX 178 rfl rfl ?_
                      refine v_bipush hX (v := 8) 179 rfl (by decide) ?_
                      refine v_callV hX 2 (by decide) rfl rfl (f_of (hzm _ _) hn (hwm _ _) hp) tw_367 tw_364 tw_365 tw_366 tw_39 (by decide +kernel) ⟨⟨rfl, rfl⟩, Nat.le_of_ble_eq_true rfl, Nat.le_of_ble_eq_true rfl⟩ rfl (Nat.le_of_ble_eq_true rfl) rfl rfl 180 rfl ?_
                      rw [hof]
                      refine v_iload hX 181 rfl rfl ?_
                      refine v_icmp_ne hX (tgt := 393) 182 rfl (by decide) (fun c338 => absurd c338 (fun h => h (of_8.trans (ansM_e hw hn hp).symm))) (fun c338 => ?_)
                      refine v_aload_n hX 0 183 rfl rfl rfl ?_
                      refine v_iload hX 184 rfl rfl ?_
                      refine v_bipush hX (v := 9) 185 rfl (by decide) ?_
                      refine v_callV hX 2 (by decide) rfl rfl (f_of (hzm _ _) hn (hwm _ _) hp) tw_367 tw_364 tw_365 tw_366 tw_39 (by decide +kernel) ⟨⟨rfl, rfl⟩, Nat.le_of_ble_eq_true rfl, Nat.le_of_ble_eq_true rfl⟩ rfl (Nat.le_of_ble_eq_true rfl) rfl rfl 186 rfl ?_
                      rw [hof]
                      refine v_iload hX 187 rfl rfl ?_
                      refine v_icmp_ne hX (tgt := 393) 188 rfl (by decide) (fun c351 => absurd c351 (fun h => h of_9)) (fun c351 => ?_)
                      refine v_aload_n hX 0 189 rfl rfl rfl ?_
                      refine v_iload hX 190 rfl rfl ?_
                      refine v_bipush hX (v := 10) 191 rfl (by decide) ?_
                      refine v_callV hX 2 (by decide) rfl rfl (f_of (hzm _ _) hn (hwm _ _) hp) tw_367 tw_364 tw_365 tw_366 tw_39 (by decide +kernel) ⟨⟨rfl, rfl⟩, Nat.le_of_ble_eq_true rfl, Nat.le_of_ble_eq_true rfl⟩ rfl (Nat.le_of_ble_eq_true rfl) rfl rfl 192 rfl ?_
                      rw [hof]
                      refine v_iload hX 193 rfl rfl ?_
                      refine v_icmp_ne hX (tgt := 393) 194 rfl (by decide) (fun c364 => absurd c364 (fun h => h (of_10.trans hv10.symm))) (fun c364 => ?_)
                      have j389 : V Y X (pM M (sS M n p) (uS M n p)) 389 [some (.ref (Y.2.2.2.1 0)), some (.ref (Y.2.2.2.1 270)), some (.ref (Y.2.2.2.1 271)), some (.ref (Y.2.2.2.1 272)), some (.ref (Y.2.2.2.1 273)), some (.ref (Y.2.2.2.1 274)), some (.ref (Y.2.2.2.1 275)), some (.ref (Y.2.2.2.1 276)), some (.ref (Y.2.2.2.1 277)), some (.ref (Y.2.2.2.1 278)), some (.ref q1), some (.int (mk (pCl (cp M 1)) p)), some (.ref q2), some (.int (nI p)), none, none, none, none, none] [] := by
                        skip
                        refine v_iconst hX (v := 1) 208 rfl (by decide) ?_
                        refine v_goto hX (tgt := 394) 209 rfl (by decide) ?_
                        refine v_istore hX 211 rfl (Nat.le_of_ble_eq_true rfl) rfl ?_
                        refine v_iload hX 212 rfl rfl ?_
                        refine v_if_ne hX (tgt := 403) 213 rfl (by decide) (fun c398 => ?_) (fun c398 => absurd c398 (by decide))
                        have j421 : ∀ (v : Int32), v = (if pCl (cp M 1) p = true then ((1 : Int32) <<< (nI p &&& 31)) else 0) → V Y X (pM M (sS M n p) (uS M n p)) 421 [some (.ref (Y.2.2.2.1 0)), some (.ref (Y.2.2.2.1 270)), some (.ref (Y.2.2.2.1 271)), some (.ref (Y.2.2.2.1 272)), some (.ref (Y.2.2.2.1 273)), some (.ref (Y.2.2.2.1 274)), some (.ref (Y.2.2.2.1 275)), some (.ref (Y.2.2.2.1 276)), some (.ref (Y.2.2.2.1 277)), some (.ref (Y.2.2.2.1 278)), some (.ref q1), some (.int (mk (pCl (cp M 1)) p)), some (.ref q2), some (.int (nI p)), none, none, none, none, none] [.int v, .int (mk (pCl (cp M 1)) p)] := by
                          intro v hv421
                          refine v_ior hX 226 rfl ?_
                          rw [hv421, mkz1]
                          refine v_istore hX 227 rfl (Nat.le_of_ble_eq_true rfl) rfl ?_
                          refine v_aload hX 228 rfl rfl ?_
                          refine v_iconst hX (v := 0) 229 rfl (by decide) ?_
                          refine v_dup2 hX 230 rfl rfl rfl ?_
                          refine v_ialg hX hC1 (vp_in_nI (n := 0) (by decide) (by decide)) 231 rfl ?_
                          have j445 : ∀ (v : Int32), v = (if bSd M 1 n p = true then ((1 : Int32) <<< (nI p &&& 31)) else 0) → V Y X (pM M (sS M n p) (uS M n p)) 445 [some (.ref (Y.2.2.2.1 0)), some (.ref (Y.2.2.2.1 270)), some (.ref (Y.2.2.2.1 271)), some (.ref (Y.2.2.2.1 272)), some (.ref (Y.2.2.2.1 273)), some (.ref (Y.2.2.2.1 274)), some (.ref (Y.2.2.2.1 275)), some (.ref (Y.2.2.2.1 276)), some (.ref (Y.2.2.2.1 277)), some (.ref (Y.2.2.2.1 278)), some (.ref q1), some (.int (mk (pCl (cp M 1)) (p + 1))), some (.ref q2), some (.int (nI p)), none, none, none, none, none] [.int v, .int (mk (bSd M 1 n) p), .int 0, .ref q1] := by
                            intro v hv445
                            refine v_ior hX 241 rfl ?_
                            rw [hv445, mkz1]
                            refine v_iasg hX hC1 (vp_in_nI (n := 0) (by decide) (by decide)) 242 rfl ?_
                            refine V.mem (M2 := pM M (upd (sS M n p) 0 (mk (bSd M 1 n) (p + 1))) (uS M n p)) (by exact pM_sS (x := 0) (by decide)) ?_
                            refine v_aload hX 243 rfl rfl ?_
                            refine v_iconst hX (v := 2) 244 rfl (by decide) ?_
                            refine v_dup2 hX 245 rfl rfl rfl ?_
                            refine v_ialg hX hC1 (vp_in_nI (n := 2) (by decide) (by decide)) 246 rfl ?_
                            rw [hS2]
                            show V _ _ _ _ _ (.int (mk (bOut M 1) p) :: _)
                            have j477 : ∀ (v : Int32), v = (if bOut M 1 p = true then ((1 : Int32) <<< (nI p &&& 31)) else 0) → V Y X (pM M (upd (sS M n p) 0 (mk (bSd M 1 n) (p + 1))) (uS M n p)) 477 [some (.ref (Y.2.2.2.1 0)), some (.ref (Y.2.2.2.1 270)), some (.ref (Y.2.2.2.1 271)), some (.ref (Y.2.2.2.1 272)), some (.ref (Y.2.2.2.1 273)), some (.ref (Y.2.2.2.1 274)), some (.ref (Y.2.2.2.1 275)), some (.ref (Y.2.2.2.1 276)), some (.ref (Y.2.2.2.1 277)), some (.ref (Y.2.2.2.1 278)), some (.ref q1), some (.int (mk (pCl (cp M 1)) (p + 1))), some (.ref q2), some (.int (nI p)), none, none, none, none, none] [.int v, .int (mk (bOut M 1) p), .int 2, .ref q1] := by
                              intro v hv477
                              refine v_ior hX 261 rfl ?_
                              rw [hv477, mkz1]
                              refine v_iasg hX hC1 (vp_in_nI (n := 2) (by decide) (by decide)) 262 rfl ?_
                              refine V.mem (M2 := pM M (upd (upd (sS M n p) 0 (mk (bSd M 1 n) (p + 1))) 2 (mk (bOut M 1) (p + 1))) (uS M n p)) (by exact pM_sS (x := 2) (by decide)) ?_
                              refine v_aload hX 263 rfl rfl ?_
                              refine v_iconst hX (v := 3) 264 rfl (by decide) ?_
                              refine v_dup2 hX 265 rfl rfl rfl ?_
                              refine v_ialg hX hC1 (vp_in_nI (n := 3) (by decide) (by decide)) 266 rfl ?_
                              rw [hS3]
                              show V _ _ _ _ _ (.int (mk (anq M n) p) :: _)
                              have j501 : ∀ (v : Int32), v = (if anq M n p = true then ((1 : Int32) <<< (nI p &&& 31)) else 0) → V Y X (pM M (upd (upd (sS M n p) 0 (mk (bSd M 1 n) (p + 1))) 2 (mk (bOut M 1) (p + 1))) (uS M n p)) 501 [some (.ref (Y.2.2.2.1 0)), some (.ref (Y.2.2.2.1 270)), some (.ref (Y.2.2.2.1 271)), some (.ref (Y.2.2.2.1 272)), some (.ref (Y.2.2.2.1 273)), some (.ref (Y.2.2.2.1 274)), some (.ref (Y.2.2.2.1 275)), some (.ref (Y.2.2.2.1 276)), some (.ref (Y.2.2.2.1 277)), some (.ref (Y.2.2.2.1 278)), some (.ref q1), some (.int (mk (pCl (cp M 1)) (p + 1))), some (.ref q2), some (.int (nI p)), none, none, none, none, none] [.int v, .int (mk (anq M n) p), .int 3, .ref q1] := by
                                intro v hv501
                                refine v_ior hX 277 rfl ?_
                                rw [hv501, mkz1]
                                refine v_iasg hX hC1 (vp_in_nI (n := 3) (by decide) (by decide)) 278 rfl ?_
                                refine V.mem (M2 := pM M (upd (upd (upd (sS M n p) 0 (mk (bSd M 1 n) (p + 1))) 2 (mk (bOut M 1) (p + 1))) 3 (mk (anq M n) (p + 1))) (uS M n p)) (by exact pM_sS (x := 3) (by decide)) ?_
                                refine v_aload hX 279 rfl rfl ?_
                                refine v_iconst hX (v := 4) 280 rfl (by decide) ?_
                                refine v_aload_n hX 1 281 rfl rfl rfl ?_
                                refine v_iload hX 282 rfl rfl ?_
                                refine v_ialg hX aC_270 (vp_in_nI (by omega) (by decide)) 283 rfl ?_
                                rw [hA0 _ _ _ (by omega), es]
                                refine v_iadd hX 284 rfl ?_
                                rw [show (4 : Int32) + nI s = nI (4 + s) from nI_add 4 s]
                                refine v_dup2 hX 285 rfl rfl rfl ?_
                                refine v_ialg hX hC1 (vp_in_nI (by omega) (by decide)) 286 rfl ?_
                                rw [nI_clamp (by omega), pM_S (by omega), sS_45 hs]
                                refine v_iconst hX (v := 1) 287 rfl (by decide) ?_
                                refine v_iload hX 288 rfl rfl ?_
                                refine v_ishl hX 289 rfl ?_
                                refine v_ior hX 290 rfl ?_
                                rw [mk_t (show pSd (cp M 1) (nI s) p = true by unfold pSd; rw [es]; simp)]
                                refine v_iasg hX hC1 (vp_in_nI (by omega) (by decide)) 291 rfl ?_
                                refine V.mem (M2 := pM M (sS M n (p + 1)) (uS M n p)) (by rw [nI_clamp (by omega), pM_sS (by omega), sS_s hs es]) ?_
                                refine v_aload hX 292 rfl rfl ?_
                                refine v_aload_n hX 1 293 rfl rfl rfl ?_
                                refine v_iload hX 294 rfl rfl ?_
                                refine v_ialg hX aC_270 (vp_in_nI (by omega) (by decide)) 295 rfl ?_
                                rw [hA0 _ _ _ (by omega), es]
                                refine v_dup2 hX 296 rfl rfl rfl ?_
                                refine v_ialg hX hC2 (vp_in_nI hs (by decide)) 297 rfl ?_
                                rw [nI_clamp (by omega), pM_U]
                                have j553 : ∀ (v : Int32), v = (if wv M n p = 1 ∨ wv M n p = 2 then 0 else cp M 1 p 1) → V Y X (pM M (sS M n (p + 1)) (uS M n p)) 553 [some (.ref (Y.2.2.2.1 0)), some (.ref (Y.2.2.2.1 270)), some (.ref (Y.2.2.2.1 271)), some (.ref (Y.2.2.2.1 272)), some (.ref (Y.2.2.2.1 273)), some (.ref (Y.2.2.2.1 274)), some (.ref (Y.2.2.2.1 275)), some (.ref (Y.2.2.2.1 276)), some (.ref (Y.2.2.2.1 277)), some (.ref (Y.2.2.2.1 278)), some (.ref q1), some (.int (mk (pCl (cp M 1)) (p + 1))), some (.ref q2), some (.int (nI p)), none, none, none, none, none] [.int v, .int (uS M n p s), .int (nI s), .ref q2] := by
                                  intro v hv553
                                  refine v_iadd hX 313 rfl ?_
                                  refine v_iasg hX hC2 (vp_in_nI hs (by decide)) 314 rfl ?_
                                  refine V.mem (M2 := pM M (sS M n (p + 1)) (uS M n (p + 1))) (by rw [hv553, nI_clamp (by omega), pM_sU, uS_s hn hp hs es]) ?_
                                  refine v_iinc hX 315 rfl rfl (nI_inc p) (Nat.le_of_ble_eq_true rfl) rfl ?_
                                  refine v_goto hX (tgt := 17) 316 rfl (by decide) ?_
                                  refine V.subM (ih hp) ?_ rfl ⟨rfl, rfl, rfl, rfl, rfl, rfl, rfl, rfl, rfl, rfl, rfl, (by first | rfl | (refine congrArg (fun z : Int32 => some (Value.int z)) ?_; rfl)), rfl, rfl, trivial⟩
                                  rfl
                                refine v_aload hX 298 rfl rfl ?_
                                refine v_iload hX 299 rfl rfl ?_
                                refine v_ialg hX aC_277 (vp_in_nI (by omega) (by decide)) 300 rfl ?_
                                rw [hAw _ _ _ (by omega)]
                                refine v_iconst hX (v := 1) 301 rfl (by decide) ?_
                                refine v_icmp_eq hX (tgt := 545) 302 rfl (by decide) (fun c533 => ?_) (fun c533 => ?_)
                                · skip
                                  refine v_iconst hX (v := 0) 308 rfl (by decide) ?_
                                  refine v_goto hX (tgt := 553) 309 rfl (by decide) ?_
                                  exact V.sub (j553 _ (if_pos (Or.inl c533)).symm) rfl ⟨rfl, rfl, rfl, rfl, rfl, rfl, rfl, rfl, rfl, rfl, rfl, rfl, rfl, rfl, trivial⟩
                                · skip
                                  refine v_aload hX 303 rfl rfl ?_
                                  refine v_iload hX 304 rfl rfl ?_
                                  refine v_ialg hX aC_277 (vp_in_nI (by omega) (by decide)) 305 rfl ?_
                                  rw [hAw _ _ _ (by omega)]
                                  refine v_iconst hX (v := 2) 306 rfl (by decide) ?_
                                  refine v_icmp_ne hX (tgt := 549) 307 rfl (by decide) (fun c542 => ?_) (fun c542 => ?_)
                                  · skip
                                    refine v_aload_n hX 2 310 rfl rfl rfl ?_
                                    refine v_iload hX 311 rfl rfl ?_
                                    refine v_ialg hX aC_271 (vp_in_nI (by omega) (by decide)) 312 rfl ?_
                                    rw [hA1 _ _ _ (by omega)]
                                    exact V.sub (j553 _ (if_neg (fun h => h.elim c533 c542)).symm) rfl ⟨rfl, rfl, rfl, rfl, rfl, rfl, rfl, rfl, rfl, rfl, rfl, rfl, rfl, rfl, trivial⟩
                                  · skip
                                    refine v_iconst hX (v := 0) 308 rfl (by decide) ?_
                                    refine v_goto hX (tgt := 553) 309 rfl (by decide) ?_
                                    exact V.sub (j553 _ (if_pos (Or.inr c542)).symm) rfl ⟨rfl, rfl, rfl, rfl, rfl, rfl, rfl, rfl, rfl, rfl, rfl, rfl, rfl, rfl, trivial⟩
                              refine v_aload hX 267 rfl rfl ?_
                              refine v_iload hX 268 rfl rfl ?_
                              refine v_ialg hX aC_277 (vp_in_nI (by omega) (by decide)) 269 rfl ?_
                              rw [hAw _ _ _ (by omega)]
                              refine v_iconst hX (v := 5) 270 rfl (by decide) ?_
                              refine v_icmp_ne hX (tgt := 500) 271 rfl (by decide) (fun c490 => ?_) (fun c490 => ?_)
                              · skip
                                refine v_iconst hX (v := 0) 276 rfl (by decide) ?_
                                exact V.sub (j501 _ (if_neg (fun g => c490 ((wv_all hp).2.2.1.mp (show (!bOut M 1 p && !bSd M 1 n p) = true from g)))).symm) rfl ⟨rfl, rfl, rfl, rfl, rfl, rfl, rfl, rfl, rfl, rfl, rfl, rfl, rfl, rfl, trivial⟩
                              · skip
                                refine v_iconst hX (v := 1) 272 rfl (by decide) ?_
                                refine v_iload hX 273 rfl rfl ?_
                                refine v_ishl hX 274 rfl ?_
                                refine v_goto hX (tgt := 501) 275 rfl (by decide) ?_
                                exact V.sub (j501 _ (if_pos (show anq M n p = true from (wv_all hp).2.2.1.mpr c490)).symm) rfl ⟨rfl, rfl, rfl, rfl, rfl, rfl, rfl, rfl, rfl, rfl, rfl, rfl, rfl, rfl, trivial⟩
                            refine v_aload hX 247 rfl rfl ?_
                            refine v_iload hX 248 rfl rfl ?_
                            refine v_ialg hX aC_277 (vp_in_nI (by omega) (by decide)) 249 rfl ?_
                            rw [hAw _ _ _ (by omega)]
                            refine v_if_le hX (tgt := 476) 250 rfl (by decide) (fun c457 => ?_) (fun c457 => ?_)
                            · skip
                              refine v_iconst hX (v := 0) 260 rfl (by decide) ?_
                              exact V.sub (j477 _ (if_neg (fun g => ((wv_all hp).2.1.mp g).1 c457)).symm) rfl ⟨rfl, rfl, rfl, rfl, rfl, rfl, rfl, rfl, rfl, rfl, rfl, rfl, rfl, rfl, trivial⟩
                            · skip
                              refine v_aload hX 251 rfl rfl ?_
                              refine v_iload hX 252 rfl rfl ?_
                              refine v_ialg hX aC_277 (vp_in_nI (by omega) (by decide)) 253 rfl ?_
                              rw [hAw _ _ _ (by omega)]
                              refine v_iconst hX (v := 5) 254 rfl (by decide) ?_
                              refine v_icmp_ge hX (tgt := 476) 255 rfl (by decide) (fun c466 => ?_) (fun c466 => ?_)
                              · skip
                                refine v_iconst hX (v := 0) 260 rfl (by decide) ?_
                                exact V.sub (j477 _ (if_neg (fun g => ((wv_all hp).2.1.mp g).2 c466)).symm) rfl ⟨rfl, rfl, rfl, rfl, rfl, rfl, rfl, rfl, rfl, rfl, rfl, rfl, rfl, rfl, trivial⟩
                              · skip
                                refine v_iconst hX (v := 1) 256 rfl (by decide) ?_
                                refine v_iload hX 257 rfl rfl ?_
                                refine v_ishl hX 258 rfl ?_
                                refine v_goto hX (tgt := 477) 259 rfl (by decide) ?_
                                exact V.sub (j477 _ (if_pos ((wv_all hp).2.1.mpr ⟨c457, c466⟩)).symm) rfl ⟨rfl, rfl, rfl, rfl, rfl, rfl, rfl, rfl, rfl, rfl, rfl, rfl, rfl, rfl, trivial⟩
                          refine v_aload hX 232 rfl rfl ?_
                          refine v_iload hX 233 rfl rfl ?_
                          refine v_ialg hX aC_277 (vp_in_nI (by omega) (by decide)) 234 rfl ?_
                          rw [hAw _ _ _ (by omega)]
                          refine v_if_ne hX (tgt := 444) 235 rfl (by decide) (fun c434 => ?_) (fun c434 => ?_)
                          · skip
                            refine v_iconst hX (v := 0) 240 rfl (by decide) ?_
                            exact V.sub (j445 _ (if_neg (fun g => c434 ((wv_0 hp).mpr g))).symm) rfl ⟨rfl, rfl, rfl, rfl, rfl, rfl, rfl, rfl, rfl, rfl, rfl, rfl, rfl, rfl, trivial⟩
                          · skip
                            refine v_iconst hX (v := 1) 236 rfl (by decide) ?_
                            refine v_iload hX 237 rfl rfl ?_
                            refine v_ishl hX 238 rfl ?_
                            refine v_goto hX (tgt := 445) 239 rfl (by decide) ?_
                            exact V.sub (j445 _ (if_pos ((wv_0 hp).mp c434)).symm) rfl ⟨rfl, rfl, rfl, rfl, rfl, rfl, rfl, rfl, rfl, rfl, rfl, rfl, rfl, rfl, trivial⟩
                        refine v_iload hX 216 rfl rfl ?_
                        refine v_aload hX 217 rfl rfl ?_
                        refine v_iload hX 218 rfl rfl ?_
                        refine v_ialg hX aC_274 (vp_in_nI (by omega) (by decide)) 219 rfl ?_
                        rw [hA4 _ _ _ (by omega)]
                        refine v_if_ge hX (tgt := 420) 220 rfl (by decide) (fun c410 => ?_) (fun c410 => ?_)
                        · skip
                          refine v_iconst hX (v := 0) 225 rfl (by decide) ?_
                          exact V.sub (j421 _ (if_neg (fun g => toV_ge hw hn hp c410 (by unfold pCl at g; simpa using g))).symm) rfl ⟨rfl, rfl, rfl, rfl, rfl, rfl, rfl, rfl, rfl, rfl, rfl, rfl, rfl, rfl, trivial⟩
                        · skip
                          refine v_iconst hX (v := 1) 221 rfl (by decide) ?_
                          refine v_iload hX 222 rfl rfl ?_
                          refine v_ishl hX 223 rfl ?_
                          refine v_goto hX (tgt := 421) 224 rfl (by decide) ?_
                          exact V.sub (j421 _ (if_pos (by unfold pCl; rw [toV_ng hw hn hp c410]; rfl)).symm) rfl ⟨rfl, rfl, rfl, rfl, rfl, rfl, rfl, rfl, rfl, rfl, rfl, rfl, rfl, rfl, trivial⟩
                      refine v_aload hX 195 rfl rfl ?_
                      refine v_iload hX 196 rfl rfl ?_
                      refine v_ialg hX aC_274 (vp_in_nI (by omega) (by decide)) 197 rfl ?_
                      rw [hA4 _ _ _ (by omega)]
                      refine v_if_lt hX (tgt := 389) 198 rfl (by decide) (fun c372 => ?_) (fun c372 => ?_)
                      · skip
                        exact V.sub (j389) rfl ⟨rfl, rfl, rfl, rfl, rfl, rfl, rfl, rfl, rfl, rfl, rfl, rfl, rfl, rfl, trivial⟩
                      · skip
                        obtain ⟨t, ht, e3, et⟩ : ∃ t, t < p ∧ cp M 1 p 3 = nI t ∧ toV (cp M 1) p = nI t := by rcases toV_c hw hp with h | h; exact absurd ((toV_lt hw hn hp).mpr h.1) c372; exact h
                        refine v_aload_n hX 1 199 rfl rfl rfl ?_
                        refine v_iload hX 200 rfl rfl ?_
                        refine v_ialg hX aC_270 (vp_in_nI (by omega) (by decide)) 201 rfl ?_
                        rw [hA0 _ _ _ (by omega)]
                        refine v_aload_n hX 1 202 rfl rfl rfl ?_
                        refine v_aload hX 203 rfl rfl ?_
                        refine v_iload hX 204 rfl rfl ?_
                        refine v_ialg hX aC_274 (vp_in_nI (by omega) (by decide)) 205 rfl ?_
                        rw [hA4 _ _ _ (by omega), et]
                        refine v_ialg hX aC_270 (vp_in_nI (by omega) (by decide)) 206 rfl ?_
                        rw [hA0 _ _ _ (by omega)]
                        refine v_icmp_eq hX (tgt := 393) 207 rfl (by decide) (fun c386 => absurd c386 (hsd p t hp ht e3)) (fun c386 => ?_)
                        exact V.sub (j389) rfl ⟨rfl, rfl, rfl, rfl, rfl, rfl, rfl, rfl, rfl, rfl, rfl, rfl, rfl, rfl, trivial⟩
                    refine v_aload hX 149 rfl rfl ?_
                    refine v_iload hX 150 rfl rfl ?_
                    refine v_ialg hX aC_277 (vp_in_nI (by omega) (by decide)) 151 rfl ?_
                    rw [hAw _ _ _ (by omega)]
                    refine v_if_ne hX (tgt := 283) 152 rfl (by decide) (fun c276 => ?_) (fun c276 => ?_)
                    · skip
                      refine v_iconst hX (v := 0) 155 rfl (by decide) ?_
                      exact V.sub (j284 _ (if_neg (fun g => c276 ((wv_0 hp).mpr g))).symm) rfl ⟨rfl, rfl, rfl, rfl, rfl, rfl, rfl, rfl, rfl, rfl, rfl, rfl, rfl, rfl, rfl, rfl, rfl, rfl, trivial⟩
                    · skip
                      refine v_iconst hX (v := 1) 153 rfl (by decide) ?_
                      refine v_goto hX (tgt := 284) 154 rfl (by decide) ?_
                      exact V.sub (j284 _ (if_pos ((wv_0 hp).mp c276)).symm) rfl ⟨rfl, rfl, rfl, rfl, rfl, rfl, rfl, rfl, rfl, rfl, rfl, rfl, rfl, rfl, rfl, rfl, rfl, rfl, trivial⟩
                  refine v_aload hX 127 rfl rfl ?_
                  refine v_iload hX 128 rfl rfl ?_
                  refine v_ialg hX aC_274 (vp_in_nI (by omega) (by decide)) 129 rfl ?_
                  rw [hA4 _ _ _ (by omega)]
                  refine v_if_ge hX (tgt := 241) 130 rfl (by decide) (fun c233 => ?_) (fun c233 => ?_)
                  · skip
                    refine v_aload hX 133 rfl rfl ?_
                    refine v_iload hX 134 rfl rfl ?_
                    refine v_ialg hX aC_274 (vp_in_nI (by omega) (by decide)) 135 rfl ?_
                    rw [hA4 _ _ _ (by omega)]
                    exact V.sub (j246 _ (if_neg (toV_ge hw hn hp c233))) rfl ⟨rfl, rfl, rfl, rfl, rfl, rfl, rfl, rfl, rfl, rfl, rfl, rfl, rfl, rfl, rfl, rfl, rfl, rfl, trivial⟩
                  · skip
                    refine v_bipush hX (v := (-6)) 131 rfl (by decide) ?_
                    refine v_goto hX (tgt := 246) 132 rfl (by decide) ?_
                    exact V.sub (j246 _ (toV_ng hw hn hp c233).symm) rfl ⟨rfl, rfl, rfl, rfl, rfl, rfl, rfl, rfl, rfl, rfl, rfl, rfl, rfl, rfl, rfl, rfl, rfl, rfl, trivial⟩
                have hyt := yet_eq (la := la) (dy := dy) hw h9 hp hn hla hdy h4 h2
                refine v_aload hX 70 rfl rfl ?_
                refine v_iload hX 71 rfl rfl ?_
                refine v_ialg hX aC_274 (vp_in_nI (by omega) (by decide)) 72 rfl ?_
                rw [hA4 _ _ _ (by omega)]
                refine v_if_lt hX (tgt := 157) 73 rfl (by decide) (fun c137 => ?_) (fun c137 => ?_)
                · skip
                  refine v_bipush hX (v := (-6)) 85 rfl (by decide) ?_
                  refine v_goto hX (tgt := 177) 86 rfl (by decide) ?_
                  exact V.sub (j177 _ (by rw [hyt]; exact (if_pos (Or.inl c137)).symm)) rfl ⟨rfl, rfl, rfl, rfl, rfl, rfl, rfl, rfl, rfl, rfl, rfl, rfl, rfl, rfl, rfl, rfl, rfl, trivial⟩
                · skip
                  refine v_aload hX 74 rfl rfl ?_
                  refine v_iload hX 75 rfl rfl ?_
                  refine v_ialg hX aC_273 (vp_in_nI (by omega) (by decide)) 76 rfl ?_
                  rw [hA3 _ _ _ (by omega)]
                  refine v_aload hX 77 rfl rfl ?_
                  refine v_iconst hX (v := 0) 78 rfl (by decide) ?_
                  refine v_ialg hX aC_278 (vp_in_nI (n := 0) (by decide) (by decide)) 79 rfl ?_
                  rw [hB0]
                  refine v_iadd hX 80 rfl ?_
                  refine v_aload hX 81 rfl rfl ?_
                  refine v_iconst hX (v := 2) 82 rfl (by decide) ?_
                  refine v_ialg hX aC_278 (vp_in_nI (n := 2) (by decide) (by decide)) 83 rfl ?_
                  rw [hB2]
                  refine v_icmp_ge hX (tgt := 162) 84 rfl (by decide) (fun c154 => ?_) (fun c154 => ?_)
                  · skip
                    refine v_aload hX 87 rfl rfl ?_
                    refine v_iload hX 88 rfl rfl ?_
                    refine v_ialg hX aC_273 (vp_in_nI (by omega) (by decide)) 89 rfl ?_
                    rw [hA3 _ _ _ (by omega)]
                    refine v_aload hX 90 rfl rfl ?_
                    refine v_iconst hX (v := 0) 91 rfl (by decide) ?_
                    refine v_ialg hX aC_278 (vp_in_nI (n := 0) (by decide) (by decide)) 92 rfl ?_
                    rw [hB0]
                    refine v_iadd hX 93 rfl ?_
                    refine v_aload hX 94 rfl rfl ?_
                    refine v_iconst hX (v := 2) 95 rfl (by decide) ?_
                    refine v_ialg hX aC_278 (vp_in_nI (n := 2) (by decide) (by decide)) 96 rfl ?_
                    rw [hB2]
                    refine v_isub hX 97 rfl ?_
                    exact V.sub (j177 _ (by rw [hyt]; exact (if_neg (fun h => h.elim c137 (fun g => g c154))).symm)) rfl ⟨rfl, rfl, rfl, rfl, rfl, rfl, rfl, rfl, rfl, rfl, rfl, rfl, rfl, rfl, rfl, rfl, rfl, trivial⟩
                  · skip
                    refine v_bipush hX (v := (-6)) 85 rfl (by decide) ?_
                    refine v_goto hX (tgt := 177) 86 rfl (by decide) ?_
                    exact V.sub (j177 _ (by rw [hyt]; exact (if_pos (Or.inr c154)).symm)) rfl ⟨rfl, rfl, rfl, rfl, rfl, rfl, rfl, rfl, rfl, rfl, rfl, rfl, rfl, rfl, rfl, rfl, rfl, trivial⟩
              · skip
                obtain ⟨t, ht, e3, et⟩ : ∃ t, t < q ∧ cp M 1 q 3 = nI t ∧ toV (cp M 1) q = nI t := by rcases toV_c hw (show q < n by omega) with h | h; exact absurd ((toV_lt hw hn (by omega)).mpr h.1) c116; exact h
                rw [dp_s hw hn (by omega) ht e3] at hd
                refine v_iinc hX 64 rfl rfl (nI_inc d) (Nat.le_of_ble_eq_true rfl) rfl ?_
                refine v_aload hX 65 rfl rfl ?_
                refine v_iload hX 66 rfl rfl ?_
                refine v_ialg hX aC_274 (vp_in_nI (by omega) (by decide)) 67 rfl ?_
                rw [hA4 _ _ _ (by omega), et]
                refine v_istore hX 68 rfl (Nat.le_of_ble_eq_true rfl) rfl ?_
                refine v_goto hX (tgt := 111) 69 rfl (by decide) ?_
                refine V.subM (ihd t ht (by omega) (d + 1) (by omega)) ?_ rfl ⟨rfl, rfl, rfl, rfl, rfl, rfl, rfl, rfl, rfl, rfl, rfl, rfl, rfl, rfl, rfl, rfl, rfl, rfl, trivial⟩
                rfl
            refine V.subM (ld p (Nat.le_refl p) 0 (Nat.zero_add _)) ?_ rfl ⟨rfl, rfl, rfl, rfl, rfl, rfl, rfl, rfl, rfl, rfl, rfl, rfl, rfl, rfl, rfl, rfl, rfl, rfl, trivial⟩
            rfl
          · skip
            have hmp : p < m := of_nle c45 (by omega) (by omega)
            have j68 : ∀ (v : Int32), v = (if cp M 1 m 3 = nI p then (1 : Int32) <<< (nI m &&& 31) else 0) → V Y X (pM M (sS M n p) (uS M n p)) 68 [some (.ref (Y.2.2.2.1 0)), some (.ref (Y.2.2.2.1 270)), some (.ref (Y.2.2.2.1 271)), some (.ref (Y.2.2.2.1 272)), some (.ref (Y.2.2.2.1 273)), some (.ref (Y.2.2.2.1 274)), some (.ref (Y.2.2.2.1 275)), some (.ref (Y.2.2.2.1 276)), some (.ref (Y.2.2.2.1 277)), some (.ref (Y.2.2.2.1 278)), some (.ref q1), some (.int (mk (pCl (cp M 1)) p)), some (.ref q2), some (.int (nI p)), some (.int (ansM (cp M 1) n p (m + 1))), some (.int (ldn (lwq M n p) (n - (m + 1)) (m + 1))), some (.int (nI m)), none, none] [.int v, .int (ansM (cp M 1) n p (m + 1))] := by
              intro v hv68
              refine v_ior hX 39 rfl ?_
              rw [hv68, ansM_s hn (by omega)]
              refine v_istore hX 40 rfl (Nat.le_of_ble_eq_true rfl) rfl ?_
              have j96 : ∀ (v : Int32), v = ldn (lwq M n p) (n - m) m → V Y X (pM M (sS M n p) (uS M n p)) 96 [some (.ref (Y.2.2.2.1 0)), some (.ref (Y.2.2.2.1 270)), some (.ref (Y.2.2.2.1 271)), some (.ref (Y.2.2.2.1 272)), some (.ref (Y.2.2.2.1 273)), some (.ref (Y.2.2.2.1 274)), some (.ref (Y.2.2.2.1 275)), some (.ref (Y.2.2.2.1 276)), some (.ref (Y.2.2.2.1 277)), some (.ref (Y.2.2.2.1 278)), some (.ref q1), some (.int (mk (pCl (cp M 1)) p)), some (.ref q2), some (.int (nI p)), some (.int (ansM (cp M 1) n p m)), none, some (.int (nI m)), none, none] [.int v] := by
                intro v hv96
                refine v_istore hX 53 rfl (Nat.le_of_ble_eq_true rfl) rfl ?_
                refine v_iinc hX 54 rfl rfl (nI_dm m) (Nat.le_of_ble_eq_true rfl) rfl ?_
                refine v_goto hX (tgt := 41) 55 rfl (by decide) ?_
                refine V.subM (iha m (by omega) (by omega) (by omega)) ?_ rfl ⟨rfl, rfl, rfl, rfl, rfl, rfl, rfl, rfl, rfl, rfl, rfl, rfl, rfl, rfl, (by first | rfl | (refine congrArg (fun z : Int32 => some (Value.int z)) ?_; first | rfl | exact hv96)), (by first | rfl | (refine congrArg (fun z : Int32 => some (Value.int z)) ?_; first | rfl | exact hv96)), (by first | rfl | (refine congrArg (fun z : Int32 => some (Value.int z)) ?_; first | rfl | exact hv96)), trivial⟩
                rfl
              refine v_aload hX 41 rfl rfl ?_
              refine v_iload hX 42 rfl rfl ?_
              refine v_ialg hX aC_274 (vp_in_nI (by omega) (by decide)) 43 rfl ?_
              rw [hA4 _ _ _ (by omega)]
              refine v_iload hX 44 rfl rfl ?_
              refine v_icmp_ne hX (tgt := 94) 45 rfl (by decide) (fun c78 => ?_) (fun c78 => ?_)
              · skip
                have q78 : ¬ cp M 1 m 3 = nI p := fun g => c78 ((toV_eq hw hn (by omega) (by omega)).mpr g)
                refine v_iload hX 52 rfl rfl ?_
                exact V.sub (j96 _ (by rw [ldn_s (q := lwq M n p) (show m < n by omega)]; exact (if_neg (fun g => by unfold lwq pTo at g; simp only [Bool.and_eq_true, beq_iff_eq] at g; exact q78 g.1)).symm)) rfl ⟨rfl, rfl, rfl, rfl, rfl, rfl, rfl, rfl, rfl, rfl, rfl, rfl, rfl, rfl, rfl, rfl, trivial⟩
              · skip
                have q78 : cp M 1 m 3 = nI p := (toV_eq hw hn (by omega) (by omega)).mp c78
                refine v_aload hX 46 rfl rfl ?_
                refine v_iload hX 47 rfl rfl ?_
                refine v_ialg hX aC_277 (vp_in_nI (by omega) (by decide)) 48 rfl ?_
                rw [hAw _ _ _ (by omega)]
                refine v_if_ne hX (tgt := 94) 49 rfl (by decide) (fun c86 => ?_) (fun c86 => ?_)
                · skip
                  refine v_iload hX 52 rfl rfl ?_
                  exact V.sub (j96 _ (by rw [ldn_s (q := lwq M n p) (show m < n by omega)]; exact (if_neg (fun g => by unfold lwq pTo at g; simp only [Bool.and_eq_true, beq_iff_eq] at g; exact c86 ((wv_0 (by omega)).mpr g.2))).symm)) rfl ⟨rfl, rfl, rfl, rfl, rfl, rfl, rfl, rfl, rfl, rfl, rfl, rfl, rfl, rfl, rfl, rfl, trivial⟩
                · skip
                  refine v_iload hX 50 rfl rfl ?_
                  refine v_goto hX (tgt := 96) 51 rfl (by decide) ?_
                  exact V.sub (j96 _ (by rw [ldn_s (q := lwq M n p) (show m < n by omega)]; exact (if_pos (by unfold lwq pTo; rw [q78, (wv_0 (by omega)).mp c86]; simp)).symm)) rfl ⟨rfl, rfl, rfl, rfl, rfl, rfl, rfl, rfl, rfl, rfl, rfl, rfl, rfl, rfl, rfl, rfl, trivial⟩
            refine v_iload hX 28 rfl rfl ?_
            refine v_aload hX 29 rfl rfl ?_
            refine v_iload hX 30 rfl rfl ?_
            refine v_ialg hX aC_274 (vp_in_nI (by omega) (by decide)) 31 rfl ?_
            rw [hA4 _ _ _ (by omega)]
            refine v_iload hX 32 rfl rfl ?_
            refine v_icmp_ne hX (tgt := 67) 33 rfl (by decide) (fun c57 => ?_) (fun c57 => ?_)
            · skip
              have q57 : ¬ cp M 1 m 3 = nI p := fun g => c57 ((toV_eq hw hn (by omega) (by omega)).mpr g)
              refine v_iconst hX (v := 0) 38 rfl (by decide) ?_
              exact V.sub (j68 _ (if_neg q57).symm) rfl ⟨rfl, rfl, rfl, rfl, rfl, rfl, rfl, rfl, rfl, rfl, rfl, rfl, rfl, rfl, rfl, rfl, rfl, trivial⟩
            · skip
              have q57 : cp M 1 m 3 = nI p := (toV_eq hw hn (by omega) (by omega)).mp c57
              refine v_iconst hX (v := 1) 34 rfl (by decide) ?_
              refine v_iload hX 35 rfl rfl ?_
              refine v_ishl hX 36 rfl ?_
              refine v_goto hX (tgt := 68) 37 rfl (by decide) ?_
              exact V.sub (j68 _ (if_pos q57).symm) rfl ⟨rfl, rfl, rfl, rfl, rfl, rfl, rfl, rfl, rfl, rfl, rfl, rfl, rfl, rfl, rfl, rfl, rfl, trivial⟩
      refine V.subM (la n (Nat.le_refl n) (by omega)) ?_ rfl ⟨rfl, rfl, rfl, rfl, rfl, rfl, rfl, rfl, rfl, rfl, rfl, rfl, rfl, rfl, (by first | rfl | (refine congrArg (fun z : Int32 => some (Value.int z)) ?_; first | exact ansM_n.symm | (rw [Nat.sub_self]; rfl))), (by first | rfl | (refine congrArg (fun z : Int32 => some (Value.int z)) ?_; first | exact ansM_n.symm | (rw [Nat.sub_self]; rfl))), (by first | rfl | (refine congrArg (fun z : Int32 => some (Value.int z)) ?_; first | exact ansM_n.symm | (rw [Nat.sub_self]; rfl))), trivial⟩
      rfl
  refine V.subM (lp 0 (Nat.zero_le _)) ?_ rfl ⟨rfl, rfl, rfl, rfl, rfl, rfl, rfl, rfl, rfl, rfl, rfl, (by first | rfl | (refine congrArg (fun z : Int32 => some (Value.int z)) ?_; rfl)), rfl, rfl, trivial⟩
  rw [sS_0, uS_0]
set_option maxRecDepth 100000 in
set_option maxHeartbeats 8000000 in
theorem l_points {Y : Yt} {M : Mm} (h0 : Y.2.2.2.2.2 = []) {n la dy : Nat} (hz : M.1 1 1 = nI n) (hn : n ≤ 24) (hw : WF (cp M 1) n) (hS : LSt M (cp M 1) n) (h9 : sm9 (cp M 1) n) (hsd : ∀ i t, i < n → t < i → cp M 1 i 3 = nI t → ¬ cp M 1 i 0 = cp M 1 t 0) (hT0 : M.1 278 0 = M.1 1 4) (hT1 : M.1 278 1 = M.1 1 5) (hT2 : M.1 278 2 = M.1 1 2) (hT3 : M.1 278 3 = nI n) (hT4 : M.1 278 4 = M.1 1 3) (hla : la ≤ 60) (hdy : dy ≤ 999) (h4 : M.1 1 4 = nI la) (h2 : M.1 1 2 = nI dy) (h5 : 0 ≤ M.1 1 5) (hW : ∀ i, i < n → M.1 277 i = wv M n i) : FnA Y yL_points wsL_points { frames := 6, cells := 2, slots := 8, locals := 132 } [.ref (Y.2.2.2.1 0), .ref (Y.2.2.2.1 270), .ref (Y.2.2.2.1 271), .ref (Y.2.2.2.1 272), .ref (Y.2.2.2.1 273), .ref (Y.2.2.2.1 274), .ref (Y.2.2.2.1 275), .ref (Y.2.2.2.1 276), .ref (Y.2.2.2.1 277), .ref (Y.2.2.2.1 278)] M (some (.int 1)) (fun M1 => M1 = M) 2 8 := by
  refine FnA.of (cc := cL_points) (ins := iL_points) (maxL := 19) (ret := (some .boolean)) (by decide) dL_points [some (.ref (Y.2.2.2.1 0)), some (.ref (Y.2.2.2.1 270)), some (.ref (Y.2.2.2.1 271)), some (.ref (Y.2.2.2.1 272)), some (.ref (Y.2.2.2.1 273)), some (.ref (Y.2.2.2.1 274)), some (.ref (Y.2.2.2.1 275)), some (.ref (Y.2.2.2.1 276)), some (.ref (Y.2.2.2.1 277)), some (.ref (Y.2.2.2.1 278)), none, none, none, none, none, none, none, none, none] (Nat.le_of_ble_eq_true rfl) rfl rfl ?_
  intro X hX hx0 hs0 hQ
  refine v_bipush hX (v := 6) 0 rfl (by decide) ?_
  refine v_newi hX (m0 := 6) (by decide) rfl (by decide) (by rw [hx0]; decide) (by rw [hs0]; decide) 1 rfl (fun q1 hX1 => ?_)
  refine v_astore hX1 2 rfl (Nat.le_of_ble_eq_true rfl) rfl ?_
  refine v_iconst hX1 (v := 0) 3 rfl (by decide) ?_
  refine v_istore hX1 4 rfl (Nat.le_of_ble_eq_true rfl) rfl ?_
  refine v_iconst hX1 (v := 2) 5 rfl (by decide) ?_
  refine v_newi hX1 (m0 := 2) (by decide) rfl (by decide) (by rw [xce_xc, hx0]; decide) (by rw [xsl_xc, hs0]; decide) 6 rfl (fun q2 hX2 => ?_)
  refine v_astore hX2 7 rfl (Nat.le_of_ble_eq_true rfl) rfl ?_
  have hsl : sl Y = 0 := by unfold sl; rw [h0]; rfl
  have hsl1 : sl (pY Y q1 6) = 1 := by unfold sl pY; rw [h0]; rfl
  have hC1 : aC (pY (pY Y q1 6) q2 2) 2 0 q1 6 := by have h := aC.new (Y := Y) (q := q1) (m := 6) (by decide); rw [hsl] at h; exact h.push
  have hC2 : aC (pY (pY Y q1 6) q2 2) 2 64 q2 2 := by have h := aC.new (Y := pY Y q1 6) (q := q2) (m := 2) (by decide); rw [hsl1] at h; exact h
  rw [hsl1, hsl]
  refine V.mem pM_00 ?_
  exact l_points_b hX2 hC1 hC2 hz hn hw hS h9 hsd hT0 hT1 hT2 hT3 hT4 hla hdy h4 h2 h5 hW (fun M1 L1 hE => v_ireA hX2 (t := [(q1, 6), (q2, 2)]) (by unfold pY; rw [h0]; rfl) h0 (vQA.xc (vQA.xc hQ)) (by rw [xce_xc, xce_xc, hx0]; decide) (by rw [xsl_xc, xsl_xc, hs0]; decide) rfl rfl rfl rfl hE 479 rfl)
end
section
def qM (M : Mm) (T V : Nat → Int32) : Mm := mrow (mrow M 278 T) 2 V
theorem qM_o {M : Mm} {T V : Nat → Int32} {k : Nat} (h : k ≠ 278 ∧ k ≠ 2) : (qM M T V).1 k = M.1 k := by unfold qM; rw [mrow_n h.2, mrow_n h.1]
theorem qM_T {M : Mm} {T V : Nat → Int32} : (qM M T V).1 278 = T := by unfold qM; rw [mrow_n (by decide), mrow_s]
theorem qM_V {M : Mm} {T V : Nat → Int32} : (qM M T V).1 2 = V := mrow_s
theorem qM_sT {M : Mm} {T V : Nat → Int32} {x : Nat} {v : Int32} : mset (qM M T V) 278 (0 + x) v = qM M (upd T x v) V := by
  unfold qM
  rw [Nat.zero_add, mrow_comm (by decide), mset_mrow, mrow_comm (by decide)]
theorem qM_put {M : Mm} {T V g : Nat → Int32} {o n : Nat} : mput (qM M T V) 2 o n g = qM M T (fun x => if o ≤ x ∧ x < o + n then g (x - o) else V x) := by
  unfold mput qM
  rw [mrow_mrow, mrow_s]
theorem qM_r2 {M : Mm} {V : Nat → Int32} : qM M (M.1 278) V = mrow M 2 V := by unfold qM; rw [mrow_self]
theorem lpR_r2 {M : Mm} {f : Nat → Int32} {n : Nat} : lpR (mrow M 2 f) n = lpR M n := by
  unfold lpR lpN
  simp only [cp_r2]
theorem ciS_r2 {M : Mm} {f : Nat → Int32} {n d : Nat} : ciS (mrow M 2 f) n d = ciS M n d := by
  unfold ciS ciX
  simp only [cp_r2, mrow_n (show (1 : Nat) ≠ 2 by decide)]
theorem ciF_r2 {M : Mm} {f : Nat → Int32} {n : Nat} : ∀ k d, ciF (mrow M 2 f) n k d = ciF M n k d := by
  intro k
  induction k with
  | zero => intro d; rfl
  | succ k ih => intro d; rw [ciF, ciF, ciS_r2, bS_r2, ih]
theorem sd_cg {o o' q q' : Nat → Bool} {P P' : Nat → Nat → Int32} {n : Nat} (ho : ∀ i, i < n → o i = o' i) (hq : ∀ i, i < n → q i = q' i) (hP : ∀ i, i < n → P i 3 = P' i 3) : ∀ i, i < n → sd o q P n i = sd o' q' P' n i := by
  refine sd_uniq (fun i hi => ?_)
  rw [sd_eq hi, ho i hi, hq i hi]
  congr 2
  unfold anS
  rw [Bool.eq_iff_iff, List.any_eq_true, List.any_eq_true]
  constructor
  · rintro ⟨a, ha, hb⟩
    exact ⟨a, ha, by rw [← hP a (List.mem_range.mp ha)]; exact hb⟩
  · rintro ⟨a, ha, hb⟩
    exact ⟨a, ha, by rw [hP a (List.mem_range.mp ha)]; exact hb⟩
def sdk (M : Mm) (n d : Nat) : Nat → Bool := sd (pOut (cp M 1) (M.1 1 2 + nI d) (M.1 1 4) (M.1 1 5) (M.1 1 3)) (bt 0) (cp M 1) n
theorem ciS_eq {M : Mm} {n d : Nat} (hn : n ≤ 24) : ciS M n d = mk (sdk M n d) n := by
  unfold ciS sdk
  refine mk_congr (sd_cg (fun i hi => ?_) (fun _ _ => rfl) (fun _ _ => rfl))
  unfold ciX pOut
  rw [b_or, b_or, b_or, bt_mk _ (by omega) (by omega), bt_mk _ (by omega) (by omega), bt_mk _ (by omega) (by omega), bt_mk _ (by omega) (by omega), decide_eq_true hi]
  cases pWd (cp M 1) i <;> cases pSk (cp M 1) (M.1 1 5) i <;> cases pLp (cp M 1) (M.1 1 2 + nI d) (M.1 1 4) i <;> cases pBl (cp M 1) (M.1 1 3) i <;> rfl
def fdF (M : Mm) (n : Nat) : Nat → Nat → Int32
  | 0, _ => -6
  | f + 1, k => if mk (sdk M n k) n = mk (bSd M 1 n) n then fdF M n f (k + 1) else nI k
theorem ci_fd {M : Mm} {n : Nat} (hn : n ≤ 24) : ∀ f d, ciF M n f d = fdF M n f d := by
  intro f
  induction f with
  | zero => intro d; rfl
  | succ f ih => intro d; rw [ciF, fdF, ciS_eq hn, ih]
theorem fdF_last {M : Mm} {n : Nat} : ∀ f k, (mk (sdk M n (k + f + 1)) n = mk (bSd M 1 n) n ↔ mk (sdk M n (k + f)) n = mk (bSd M 1 n) n) → fdF M n (f + 2) k = fdF M n (f + 1) k := by
  intro f
  induction f with
  | zero =>
    intro k h
    show (if mk (sdk M n k) n = mk (bSd M 1 n) n then (if mk (sdk M n (k + 1)) n = mk (bSd M 1 n) n then (-6 : Int32) else nI (k + 1)) else nI k) = if mk (sdk M n k) n = mk (bSd M 1 n) n then (-6 : Int32) else nI k
    by_cases e : mk (sdk M n k) n = mk (bSd M 1 n) n
    · rw [if_pos e, if_pos e, if_pos (h.mpr e)]
    · rw [if_neg e, if_neg e]
  | succ f ih =>
    intro k h
    have h1 := ih (k + 1) (by rw [show k + 1 + f + 1 = k + (f + 1) + 1 by omega, show k + 1 + f = k + (f + 1) by omega]; exact h)
    show (if mk (sdk M n k) n = mk (bSd M 1 n) n then fdF M n (f + 2) (k + 1) else nI k) = if mk (sdk M n k) n = mk (bSd M 1 n) n then fdF M n (f + 1) (k + 1) else nI k
    rw [h1]
def s5d (P : Nat → Nat → Int32) (n dy : Nat) : Prop := ∀ i, i < n → ∃ s, s ≤ dy ∧ P i 5 = nI s
theorem sdk_last {M : Mm} {n la dy : Nat} (h9 : sm9 (cp M 1) n) (h5d : s5d (cp M 1) n dy) (hla : la ≤ 60) (hdy : dy ≤ 999) (h4 : M.1 1 4 = nI la) (h2 : M.1 1 2 = nI dy) : ∀ i, i < n → sdk M n 62 i = sdk M n 61 i := by
  unfold sdk
  refine sd_cg (fun i hi => ?_) (fun _ _ => rfl) (fun _ _ => rfl)
  unfold pOut
  have e : pLp (cp M 1) (M.1 1 2 + nI 62) (M.1 1 4) i = pLp (cp M 1) (M.1 1 2 + nI 61) (M.1 1 4) i := by
    rw [h2, h4, nI_add, nI_add]
    by_cases h3 : cp M 1 i 3 = -6
    · unfold pLp
      simp [h3]
    · obtain ⟨s, hs, e5⟩ := h5d i hi
      rw [lp_eq (fun j hj => h9 j (by omega)) (by omega) hla h3, lp_eq (fun j hj => h9 j (by omega)) (by omega) hla h3, e5, nI_add]
      rw [decide_eq_false (nI_ge (show s + la < dy + 62 by omega) (by omega)), decide_eq_false (nI_ge (show s + la < dy + 61 by omega) (by omega))]
  rw [e]
theorem fd_62 {M : Mm} {n la dy : Nat} (hn : n ≤ 24) (h9 : sm9 (cp M 1) n) (h5d : s5d (cp M 1) n dy) (hla : la ≤ 60) (hdy : dy ≤ 999) (h4 : M.1 1 4 = nI la) (h2 : M.1 1 2 = nI dy) : ciF M n 61 1 = fdF M n 62 1 := by
  rw [ci_fd hn]
  exact (fdF_last 60 1 (by rw [mk_congr (sdk_last h9 h5d hla hdy h4 h2)])).symm
def bI (b : Bool) : Int32 := if b = true then 1 else 0
theorem bI_0 {b : Bool} : bI b = 0 ↔ b = false := by cases b <;> decide
theorem bI_eq {a b : Bool} : bI a = bI b ↔ a = b := by cases a <;> cases b <;> decide
def oth (M : Mm) (n k p : Nat) : Bool := (List.range p).any (fun i => sdk M n k i != bSd M 1 n i)
theorem oth_s {M : Mm} {n k p : Nat} : oth M n k (p + 1) = (oth M n k p || (sdk M n k p != bSd M 1 n p)) := by
  unfold oth
  rw [List.range_succ, List.any_append]
  simp
theorem oth_n {M : Mm} {n k : Nat} (hn : n ≤ 24) : oth M n k n = false ↔ mk (sdk M n k) n = mk (bSd M 1 n) n := by
  rw [mk_eq_iff (by omega)]
  unfold oth
  constructor
  · intro h i hi
    have h1 := List.any_eq_false.mp h i (List.mem_range.mpr hi)
    revert h1
    cases sdk M n k i <;> cases bSd M 1 n i <;> simp
  · intro h
    refine List.any_eq_false.mpr (fun i hi => ?_)
    rw [h i (List.mem_range.mp hi)]
    simp
theorem fd_s {M : Mm} {n m : Nat} (hn : n ≤ 24) (hm : m < 62) : fdF M n (62 - m) (m + 1) = if oth M n (m + 1) n = true then nI (m + 1) else fdF M n (62 - (m + 1)) (m + 2) := by
  rw [show 62 - m = (62 - (m + 1)) + 1 by omega, fdF]
  by_cases h : mk (sdk M n (m + 1)) n = mk (bSd M 1 n) n
  · rw [if_pos h, if_neg (by rw [(oth_n hn).mpr h]; decide)]
  · rw [if_neg h, if_pos (by cases ho : oth M n (m + 1) n; exact absurd ((oth_n hn).mp ho) h; rfl)]
theorem rzW_2 {P : Nat → Nat → Int32} {d la pg ov more : Int32} {n i : Nat} (hw : WF P n) (hi : i < n) : rzW P d la pg ov more n i = 2 ↔ pSk P pg i = true := by
  have h6 := (hw i hi).2.2
  have hs : pSk P pg i = true → pWd P i = false := by
    intro h
    unfold pSk stK at h
    unfold pWd
    simp only [Bool.and_eq_true, beq_iff_eq] at h
    rw [h.1.2]; rfl
  unfold rzW rz1
  revert hs
  generalize sd (pOut P d la pg ov) (bt more) P n i = b
  cases pWd P i <;> cases pSk P pg i <;> cases pLp P d la i <;> cases pBl P ov i <;> cases b <;> simp (decide := true)
def pgN (P : Nat → Nat → Int32) (i : Nat) : Nat := (P i 1).toNatClampNeg
theorem pgN_e {P : Nat → Nat → Int32} {n i : Nat} (h9 : sm9 P n) (hi : i < n) : P i 1 = nI (pgN P i) ∧ pgN P i ≤ 9 := by
  obtain ⟨_, _, g, h1, h2, e⟩ := h9 i hi
  unfold pgN
  rw [e, nI_clamp (by omega)]
  exact ⟨rfl, h2⟩
def smN (P : Nat → Nat → Int32) (s : Int32) : Nat → Nat
  | 0 => 0
  | k + 1 => if P k 0 = s ∧ P k 6 = 0 then smN P s k + pgN P k else smN P s k
def tkN (P : Nat → Nat → Int32) (g : Nat) (s : Int32) : Nat → Nat
  | 0 => 0
  | k + 1 => if P k 0 = s ∧ P k 6 = 0 then (if tkN P g s k + pgN P k ≤ g then tkN P g s k + pgN P k else tkN P g s k) else tkN P g s k
theorem smN_le {P : Nat → Nat → Int32} {n : Nat} {s : Int32} (h9 : sm9 P n) : ∀ k, k ≤ n → smN P s k ≤ 9 * k := by
  intro k
  induction k with
  | zero => intro _; exact Nat.le_refl _
  | succ k ih =>
    intro hk
    have := ih (by omega)
    have := (pgN_e h9 (show k < n by omega)).2
    rw [smN]
    split <;> omega
theorem tkN_le {P : Nat → Nat → Int32} {g : Nat} {s : Int32} : ∀ k, tkN P g s k ≤ g ∧ tkN P g s k ≤ smN P s k := by
  intro k
  induction k with
  | zero => exact ⟨Nat.zero_le _, Nat.le_refl _⟩
  | succ k ih =>
    rw [tkN, smN]
    split
    · split <;> omega
    · exact ih
theorem smN_mono {P : Nat → Nat → Int32} {s : Int32} : ∀ k n, k ≤ n → smN P s k ≤ smN P s n := by
  intro k n
  induction n with
  | zero => intro h; rw [show k = 0 by omega]; exact Nat.le_refl _
  | succ n ih =>
    intro h
    by_cases e : k = n + 1
    · rw [e]; exact Nat.le_refl _
    · have := ih (by omega)
      rw [smN]
      split <;> omega
theorem sm_N {P : Nat → Nat → Int32} {n : Nat} {s : Int32} (h9 : sm9 P n) (hn : n ≤ 24) : ∀ k, k ≤ n → sm P s (mk (pWd P) n) k = nI (smN P s k) := by
  intro k
  induction k with
  | zero => intro _; rfl
  | succ k ih =>
    intro hk
    rw [sm, smN, ih (by omega)]
    have hb : bt (mk (pWd P) n) k = false ↔ P k 6 = 0 := by
      rw [bt_mk _ (by omega) (by omega), decide_eq_true (by omega), Bool.true_and]
      unfold pWd
      simp
    by_cases h : P k 0 = s ∧ P k 6 = 0
    · rw [if_pos h, if_pos ⟨h.1, hb.mpr h.2⟩]
      have e := (pgN_e h9 (show k < n by omega)).1
      rw [← nI_add, ← e]
    · rw [if_neg h, if_neg (fun g => h ⟨g.1, hb.mp g.2⟩)]
theorem tk_N {P : Nat → Nat → Int32} {n g : Nat} {s : Int32} (h9 : sm9 P n) (hg : g ≤ 999) : ∀ k, k ≤ n → tk P (nI g) s k = nI (tkN P g s k) := by
  intro k
  induction k with
  | zero => intro _; rfl
  | succ k ih =>
    intro hk
    have e := pgN_e h9 (show k < n by omega)
    have hl := tkN_le (P := P) (g := g) (s := s) k
    rw [tk, tkN, ih (by omega), e.1, nI_add]
    by_cases h : P k 0 = s ∧ P k 6 = 0
    · rw [if_pos h, if_pos h]
      by_cases h2 : tkN P g s k + pgN P k ≤ g
      · rw [if_pos h2, if_pos (nI_le h2 (by omega))]
      · rw [if_neg h2, if_neg (nI_ge (by omega) (by omega))]
    · rw [if_neg h, if_neg h]
theorem sk_N {P : Nat → Nat → Int32} {n g i : Nat} (h9 : sm9 P n) (hg : g ≤ 999) (hi : i < n) : pSk P (nI g) i = true ↔ (P i 6 = 0 ∧ g < tkN P g (P i 0) i + pgN P i) := by
  have e := pgN_e h9 hi
  have hl := tkN_le (P := P) (g := g) (s := P i 0) i
  unfold pSk stK
  rw [tk_N h9 hg i (by omega), e.1, nI_add]
  simp only [beq_self_eq_true, Bool.true_and, Bool.and_eq_true, beq_iff_eq, Bool.not_eq_true', decide_eq_false_iff_not]
  rw [nI_leI (by omega) (by omega)]
  constructor
  · rintro ⟨h1, h2⟩; exact ⟨h1, by omega⟩
  · rintro ⟨h1, h2⟩; exact ⟨h1, by omega⟩
def stkB (P : Nat → Nat → Int32) (g p : Nat) : Bool := (List.range p).any (fun i => pSk P (nI g) i)
theorem stkB_s {P : Nat → Nat → Int32} {g p : Nat} : stkB P g (p + 1) = (stkB P g p || pSk P (nI g) p) := by
  unfold stkB
  rw [List.range_succ, List.any_append]
  simp
theorem stkB_n {P : Nat → Nat → Int32} {n g : Nat} (h9 : sm9 P n) (hw : WF P n) (hg : g ≤ 999) : stkB P g n = true ↔ (g < smN P 0 n ∨ g < smN P 1 n) := by
  unfold stkB
  rw [List.any_eq_true]
  constructor
  · rintro ⟨i, hi, hb⟩
    have hi := List.mem_range.mp hi
    obtain ⟨h6, hk⟩ := (sk_N h9 hg hi).mp hb
    have h1 := (tkN_le (P := P) (g := g) (s := P i 0) i).2
    have h2 : smN P (P i 0) (i + 1) = smN P (P i 0) i + pgN P i := by rw [smN, if_pos ⟨rfl, h6⟩]
    have h3 := smN_mono (P := P) (s := P i 0) (i + 1) n (by omega)
    rcases (hw i hi).1 with h0 | h0
    · rw [h0] at h1 h2 h3 hk; exact Or.inl (by omega)
    · rw [h0] at h1 h2 h3 hk; exact Or.inr (by omega)
  · intro h
    refine Decidable.byContradiction (fun hno => ?_)
    have hall : ∀ i, i < n → P i 6 = 0 → tkN P g (P i 0) i + pgN P i ≤ g := fun i hi h6 =>
      Decidable.byContradiction (fun hc => hno ⟨i, List.mem_range.mpr hi, (sk_N h9 hg hi).mpr ⟨h6, by omega⟩⟩)
    have key : ∀ s k, k ≤ n → tkN P g s k = smN P s k := by
      intro s k
      induction k with
      | zero => intro _; rfl
      | succ k ih =>
        intro hk
        rw [tkN, smN, ← ih (by omega)]
        by_cases hc : P k 0 = s ∧ P k 6 = 0
        · rw [if_pos hc, if_pos hc, if_pos (by rw [← hc.1]; exact hall k (by omega) hc.2)]
        · rw [if_neg hc, if_neg hc]
    have h0 := (tkN_le (P := P) (g := g) (s := 0) n).1
    have h1 := (tkN_le (P := P) (g := g) (s := 1) n).1
    rw [key _ n (Nat.le_refl n)] at h0 h1
    omega
theorem imax_nI {a b : Nat} (ha : a < 2 ^ 31) (hb : b < 2 ^ 31) : imax (nI a) (nI b) = nI (max a b) := by
  unfold imax
  by_cases g : a < b
  · rw [if_pos (nI_lt g hb), Nat.max_eq_right (by omega)]
  · rw [if_neg (nI_nlt (by omega) ha), Nat.max_eq_left (by omega)]
theorem lp_c {M : Mm} {n : Nat} (h9 : sm9 (cp M 1) n) (hw : WF (cp M 1) n) (hn : n ≤ 24) : (lpR M n = -6 ∧ stkB (cp M 1) 99 n = true) ∨ ∃ L, 1 ≤ L ∧ L ≤ 99 ∧ lpR M n = nI L ∧ stkB (cp M 1) L n = false ∧ (2 ≤ L → stkB (cp M 1) (L - 1) n = true) := by
  have h0 := smN_le (s := 0) h9 n (Nat.le_refl n)
  have h1 := smN_le (s := 1) h9 n (Nat.le_refl n)
  have e : lpN M n = nI (max 1 (max (smN (cp M 1) 0 n) (smN (cp M 1) 1 n))) := by
    unfold lpN
    rw [sm_N h9 hn n (Nat.le_refl n), sm_N h9 hn n (Nat.le_refl n), imax_nI (by omega) (by omega)]
    exact imax_nI (a := 1) (by omega) (by omega)
  generalize hL : max 1 (max (smN (cp M 1) 0 n) (smN (cp M 1) 1 n)) = L at e
  by_cases h : L ≤ 99
  · refine Or.inr ⟨L, by omega, h, ?_, ?_, ?_⟩
    · unfold lpR
      rw [e, if_pos (show nI L ≤ 99 from nI_le (b := 99) h (by omega))]
    · rw [Bool.eq_false_iff]
      intro hc
      have := (stkB_n h9 hw (by omega)).mp hc
      omega
    · intro h2
      exact (stkB_n h9 hw (by omega)).mpr (by omega)
  · refine Or.inl ⟨?_, ?_⟩
    · unfold lpR
      rw [e, if_neg (show ¬ nI L ≤ 99 from nI_ge (a := 99) (b := L) (by omega) (by omega))]
    · exact (stkB_n h9 hw (by omega)).mpr (by omega)
theorem lp_g {M : Mm} {n k : Nat} (h9 : sm9 (cp M 1) n) (hw : WF (cp M 1) n) (hn : n ≤ 24) (hk : k < 2) : ∃ g, g ≤ 99 ∧ (lpR M n = -6 → g = 99) ∧ (¬ lpR M n = -6 → lpR M n - nI k = nI g) ∧ (g = 0 ∨ bI (stkB (cp M 1) g n) = if lpR M n = -6 ∨ k = 1 then (1 : Int32) else 0) := by
  rcases lp_c h9 hw hn with ⟨h1, h2⟩ | ⟨L, h1, h2, e, h3, h4⟩
  · exact ⟨99, Nat.le_refl _, fun _ => rfl, fun g => absurd h1 g, Or.inr (by rw [h2, if_pos (Or.inl h1)]; rfl)⟩
  · have hne : ¬ lpR M n = -6 := by rw [e]; exact (by decide +kernel : ∀ t, t < 100 → ¬ nI t = -6) L (by omega)
    refine ⟨L - k, by omega, fun g => absurd g hne, fun _ => by rw [e]; exact nI_sub (by omega), ?_⟩
    rcases (show k = 0 ∨ k = 1 by omega) with rfl | rfl
    · exact Or.inr (by rw [Nat.sub_zero, h3, if_neg (fun g => g.elim hne (by decide))]; rfl)
    · by_cases g2 : 2 ≤ L
      · exact Or.inr (by rw [h4 g2, if_pos (Or.inr rfl)]; rfl)
      · exact Or.inl (by omega)
theorem l_reasonsQ {Y : Yt} {M : Mm} {P : Nat → Nat → Int32} {n la dy wa : Nat} {pg ov more : Int32} {T V : Nat → Int32} (hn : n ≤ 24) (hw : WF P n) (h9 : sm9 P n) (hS : LSt M P n) (hla : la ≤ 60) (hdy : dy ≤ 3000) (hT0 : T 0 = nI la) (hT1 : T 1 = pg) (hT2 : T 2 = nI dy) (hT3 : T 3 = nI n) (hT4 : T 4 = ov) (hC : aC Y 2 0 wa 24) : ∃ V2 : Nat → Int32, (∀ i, i < n → V2 i = rzW P (nI dy) (nI la) pg ov more n i) ∧ Fn Y yL_reasons wsL_reasons { frames := 0, cells := 0, slots := 0, locals := 0 } [.ref (Y.2.2.2.1 270), .ref (Y.2.2.2.1 271), .ref (Y.2.2.2.1 273), .ref (Y.2.2.2.1 274), .ref (Y.2.2.2.1 275), .ref (Y.2.2.2.1 276), .ref wa, .ref (Y.2.2.2.1 278), .int more] (qM M T V) none (qM M T V2) := by
  refine ⟨fun x => if 0 ≤ x ∧ x < 0 + 24 then rzA (fun z9 => (qM M T V).1 2 (0 + z9)) P (nI dy) (nI la) pg ov more n (x - 0) else V x, fun i hi => ?_, ?_⟩
  · show (if 0 ≤ i ∧ i < 0 + 24 then _ else _) = _
    rw [if_pos (by omega), Nat.sub_zero]
    unfold rzA
    rw [if_pos hi]
  · have h := l_reasons (Y := Y) (M := qM M T V) (P := P) (la := la) (dy := dy) (pg := pg) (ov := ov) (more := more) hn hw h9 (fun i hi => by simp only [qM_o (show (270 : Nat) ≠ 278 ∧ (270 : Nat) ≠ 2 by decide), qM_o (show (271 : Nat) ≠ 278 ∧ (271 : Nat) ≠ 2 by decide), qM_o (show (272 : Nat) ≠ 278 ∧ (272 : Nat) ≠ 2 by decide), qM_o (show (273 : Nat) ≠ 278 ∧ (273 : Nat) ≠ 2 by decide), qM_o (show (274 : Nat) ≠ 278 ∧ (274 : Nat) ≠ 2 by decide), qM_o (show (275 : Nat) ≠ 278 ∧ (275 : Nat) ≠ 2 by decide), qM_o (show (276 : Nat) ≠ 278 ∧ (276 : Nat) ≠ 2 by decide)]; exact hS i hi) hla hdy (by rw [qM_T]; exact hT0) (by rw [qM_T]; exact hT1) (by rw [qM_T]; exact hT2) (by rw [qM_T]; exact hT3) (by rw [qM_T]; exact hT4) hC (Or.inr rfl)
    rw [qM_put] at h
    exact h
end
section
set_option maxRecDepth 100000 in
set_option maxHeartbeats 8000000 in
theorem l_days_b {Y : Yt} {X : XT} {M : Mm} (hX : vOK Y X iL_days 18 "PointAnswersLaw" { frames := 5, cells := 1, slots := 24, locals := 111 } (some .boolean)) {q1 : Nat} {V0 : Nat → Int32} (hC1 : aC Y 2 0 q1 24) {n la dy : Nat} (hz : M.1 1 1 = nI n) (hn : n ≤ 24) (hw : WF (cp M 1) n) (hS : LSt M (cp M 1) n) (h9 : sm9 (cp M 1) n) (hsd : ∀ i t, i < n → t < i → cp M 1 i 3 = nI t → ¬ cp M 1 i 0 = cp M 1 t 0) (hT0 : M.1 278 0 = M.1 1 4) (hT1 : M.1 278 1 = M.1 1 5) (hT2 : M.1 278 2 = M.1 1 2) (hT3 : M.1 278 3 = nI n) (hT4 : M.1 278 4 = M.1 1 3) (hla : la ≤ 60) (hdy : dy ≤ 999) (h4 : M.1 1 4 = nI la) (h2 : M.1 1 2 = nI dy) (h5 : 0 ≤ M.1 1 5) (hW : ∀ i, i < n → M.1 277 i = wv M n i) (h5d : s5d (cp M 1) n dy) (hret : ∀ M1 L1, (∃ f, M1 = mrow M 2 f) → V Y X M1 332 L1 [.int 1]) : V Y X (mrow M 2 V0) 12 [some (.ref (Y.2.2.2.1 0)), some (.ref (Y.2.2.2.1 270)), some (.ref (Y.2.2.2.1 271)), some (.ref (Y.2.2.2.1 273)), some (.ref (Y.2.2.2.1 274)), some (.ref (Y.2.2.2.1 275)), some (.ref (Y.2.2.2.1 276)), some (.ref (Y.2.2.2.1 277)), some (.ref (Y.2.2.2.1 278)), some (.ref q1), some (.int (nI dy)), none, none, none, none, none, none, none] [] := by
  have hB1 : ∀ T V, (qM M T V).1 278 (0 + Int32.toNatClampNeg 1) = T 1 := fun T V => by rw [qM_T]; rfl
  have hB2 : ∀ T V, (qM M T V).1 278 (0 + Int32.toNatClampNeg 2) = T 2 := fun T V => by rw [qM_T]; rfl
  have hB3 : ∀ T V, (qM M T V).1 278 (0 + Int32.toNatClampNeg 3) = T 3 := fun T V => by rw [qM_T]; rfl
  have hAw : ∀ T V k, k < n → (qM M T V).1 277 (0 + (nI k).toNatClampNeg) = wv M n k := fun T V k hk => by rw [qM_o (by decide), nI_clamp (by omega), Nat.zero_add]; exact hW k hk
  have hAv : ∀ T V k, k < 24 → (qM M T V).1 2 (0 + (nI k).toNatClampNeg) = V k := fun T V k hk => by rw [qM_V, nI_clamp (by omega), Nat.zero_add]
  have hTE : ∀ T : Nat → Int32, (∀ j, j ≠ 1 → T j = M.1 278 j) → upd T 1 (M.1 1 5) = M.1 278 := fun T hT => by funext j; unfold upd; by_cases e : j = 1; subst e; rw [if_pos rfl]; exact hT1.symm; rw [if_neg e]; exact hT j e
  have hlp := lp_c h9 hw hn
  have h3T : M.1 278 3 = nI n := hT3
  have hTT : upd (M.1 278) 2 (nI dy) = M.1 278 := by funext j; unfold upd; by_cases e : j = 2; subst e; rw [if_pos rfl]; exact (hT2.trans h2).symm; rw [if_neg e]
  refine v_bipush hX (v := (-6)) 7 rfl (by decide) ?_
  refine v_istore hX 8 rfl (Nat.le_of_ble_eq_true rfl) rfl ?_
  refine v_bipush hX (v := 62) 9 rfl (by decide) ?_
  refine v_istore hX 10 rfl (Nat.le_of_ble_eq_true rfl) rfl ?_
  have lp : ∀ (k : Nat), k ≤ 62 → ∀ (T Vv : Nat → Int32), (∀ j, j ≠ 2 → T j = M.1 278 j) → V Y X (qM M T Vv) 20 [some (.ref (Y.2.2.2.1 0)), some (.ref (Y.2.2.2.1 270)), some (.ref (Y.2.2.2.1 271)), some (.ref (Y.2.2.2.1 273)), some (.ref (Y.2.2.2.1 274)), some (.ref (Y.2.2.2.1 275)), some (.ref (Y.2.2.2.1 276)), some (.ref (Y.2.2.2.1 277)), some (.ref (Y.2.2.2.1 278)), some (.ref q1), some (.int (nI dy)), some (.int (fdF M n (62 - k) (k + 1))), some (.int (nI k)), none, none, none, none, none] [] := by
    refine downTo (fun k ih => ?_)
    intro hk T Vv hT
    rcases Nat.eq_zero_or_pos k with h0 | h0
    · skip
      subst h0
      have hT8 : upd T 2 (nI dy) = M.1 278 := by rw [← hTT]; funext j; unfold upd; by_cases e : j = 2; rw [if_pos e, if_pos e]; rw [if_neg e, if_neg e]; exact hT j e
      refine v_iload hX 11 rfl rfl ?_
      refine v_if_le hX (tgt := 133) 12 rfl (by decide) (fun c22 => ?_) (fun c22 => absurd (by decide) c22)
      refine v_aload hX 69 rfl rfl ?_
      refine v_iconst hX (v := 2) 70 rfl (by decide) ?_
      refine v_iload hX 71 rfl rfl ?_
      refine v_iasg hX aC_278 (vp_in_nI (n := 2) (by decide) (by decide)) 72 rfl ?_
      refine V.mem (M2 := mrow M 2 Vv) (by rw [← qM_r2, ← hT8]; exact qM_sT (x := 2)) ?_
      refine v_aload_n hX 0 73 rfl rfl rfl ?_
      refine v_callV hX 0 (by decide) rfl rfl (f_leastPages (M := mrow M 2 Vv) (by rw [mrow_n (by decide)]; exact hz) hn (by rw [cp_r2]; exact hw)) tw_493 tw_490 tw_491 tw_492 tw_39 (by decide +kernel) ⟨⟨rfl, rfl⟩, Nat.le_of_ble_eq_true rfl, Nat.le_of_ble_eq_true rfl⟩ rfl (Nat.le_of_ble_eq_true rfl) rfl rfl 74 rfl ?_
      rw [lpR_r2]
      refine v_istore hX 75 rfl (Nat.le_of_ble_eq_true rfl) rfl ?_
      refine v_aload hX 76 rfl rfl ?_
      refine v_iconst hX (v := 1) 77 rfl (by decide) ?_
      refine v_ialg hX aC_278 (vp_in_nI (n := 1) (by decide) (by decide)) 78 rfl ?_
      rw [show (mrow M 2 Vv).1 278 (0 + Int32.toNatClampNeg 1) = M.1 1 5 from by rw [mrow_n (by decide)]; exact hT1]
      refine v_istore hX 79 rfl (Nat.le_of_ble_eq_true rfl) rfl ?_
      refine v_aload_n hX 0 80 rfl rfl rfl ?_
      refine v_callV hX 0 (by decide) rfl rfl (f_changesIn (M := mrow M 2 Vv) (by rw [mrow_n (by decide)]; exact hz) hn (by rw [cp_r2]; exact hw)) tw_500 tw_497 tw_498 tw_499 tw_39 (by decide +kernel) ⟨⟨rfl, rfl⟩, Nat.le_of_ble_eq_true rfl, Nat.le_of_ble_eq_true rfl⟩ rfl (Nat.le_of_ble_eq_true rfl) rfl rfl 81 rfl ?_
      rw [ciF_r2]
      refine v_iload hX 82 rfl rfl ?_
      refine v_icmp_ne hX (tgt := 184) 83 rfl (by decide) (fun c157 => absurd c157 (fun h => h (fd_62 hn h9 h5d hla hdy h4 h2))) (fun c157 => ?_)
      have j180 : V Y X (mrow M 2 Vv) 180 [some (.ref (Y.2.2.2.1 0)), some (.ref (Y.2.2.2.1 270)), some (.ref (Y.2.2.2.1 271)), some (.ref (Y.2.2.2.1 273)), some (.ref (Y.2.2.2.1 274)), some (.ref (Y.2.2.2.1 275)), some (.ref (Y.2.2.2.1 276)), some (.ref (Y.2.2.2.1 277)), some (.ref (Y.2.2.2.1 278)), some (.ref q1), none, none, some (.int (lpR M n)), some (.int (M.1 1 5)), none, none, none, none] [] := by
        skip
        refine v_iconst hX (v := 1) 93 rfl (by decide) ?_
        refine v_goto hX (tgt := 185) 94 rfl (by decide) ?_
        refine v_istore hX 96 rfl (Nat.le_of_ble_eq_true rfl) rfl ?_
        refine v_iconst hX (v := 0) 97 rfl (by decide) ?_
        refine v_istore hX 98 rfl (Nat.le_of_ble_eq_true rfl) rfl ?_
        have lk : ∀ (k : Nat), k ≤ 2 → ∀ (T Vv : Nat → Int32), (∀ j, j ≠ 1 → T j = M.1 278 j) → V Y X (qM M T Vv) 190 [some (.ref (Y.2.2.2.1 0)), some (.ref (Y.2.2.2.1 270)), some (.ref (Y.2.2.2.1 271)), some (.ref (Y.2.2.2.1 273)), some (.ref (Y.2.2.2.1 274)), some (.ref (Y.2.2.2.1 275)), some (.ref (Y.2.2.2.1 276)), some (.ref (Y.2.2.2.1 277)), some (.ref (Y.2.2.2.1 278)), some (.ref q1), none, none, some (.int (lpR M n)), some (.int (M.1 1 5)), some (.int 1), some (.int (nI k)), none, none] [] := by
          refine upTo 2 (fun k hk0 ihk => ?_)
          intro T Vv hT
          refine v_iload hX 99 rfl rfl ?_
          refine v_iconst hX (v := 2) 100 rfl (by decide) ?_
          refine v_icmp_ge hX (tgt := 324) 101 rfl (by decide) (fun c193 => ?_) (fun c193 => ?_)
          · skip
            refine v_aload hX 168 rfl rfl ?_
            refine v_iconst hX (v := 1) 169 rfl (by decide) ?_
            refine v_iload hX 170 rfl rfl ?_
            refine v_iasg hX aC_278 (vp_in_nI (n := 1) (by decide) (by decide)) 171 rfl ?_
            refine V.mem (M2 := mrow M 2 Vv) (by rw [← qM_r2, ← hTE T hT]; exact qM_sT (x := 1)) ?_
            refine v_iload hX 172 rfl rfl ?_
            exact hret _ _ ⟨_, rfl⟩
          · skip
            have hk2 : k < 2 := of_nle (a := 2) c193 (by omega) (by omega)
            refine v_iload hX 102 rfl rfl ?_
            refine v_if_eq hX (tgt := 324) 103 rfl (by decide) (fun c198 => absurd c198 (by decide)) (fun c198 => ?_)
            obtain ⟨g, hg9, hg1, hg2, hg3⟩ := lp_g h9 hw hn hk2
            refine v_aload hX 104 rfl rfl ?_
            refine v_iconst hX (v := 1) 105 rfl (by decide) ?_
            have j221 : ∀ (x6 : Int32), x6 = nI g → V Y X (qM M T Vv) 221 [some (.ref (Y.2.2.2.1 0)), some (.ref (Y.2.2.2.1 270)), some (.ref (Y.2.2.2.1 271)), some (.ref (Y.2.2.2.1 273)), some (.ref (Y.2.2.2.1 274)), some (.ref (Y.2.2.2.1 275)), some (.ref (Y.2.2.2.1 276)), some (.ref (Y.2.2.2.1 277)), some (.ref (Y.2.2.2.1 278)), some (.ref q1), none, none, some (.int (lpR M n)), some (.int (M.1 1 5)), some (.int 1), some (.int (nI k)), none, none] [.int x6, .int 1, .ref (Y.2.2.2.1 278)] := by
              intro x6 hx6
              refine v_iasg hX aC_278 (vp_in_nI (n := 1) (by decide) (by decide)) 114 rfl ?_
              refine V.mem (M2 := qM M (upd T 1 (nI g)) Vv) (by rw [hx6]; exact qM_sT (x := 1)) ?_
              refine v_aload_n hX 1 115 rfl rfl rfl ?_
              refine v_aload_n hX 2 116 rfl rfl rfl ?_
              refine v_aload_n hX 3 117 rfl rfl rfl ?_
              refine v_aload hX 118 rfl rfl ?_
              refine v_aload hX 119 rfl rfl ?_
              refine v_aload hX 120 rfl rfl ?_
              refine v_aload hX 121 rfl rfl ?_
              refine v_aload hX 122 rfl rfl ?_
              refine v_iconst hX (v := 0) 123 rfl (by decide) ?_
              obtain ⟨V2, hV2, hF⟩ := l_reasonsQ (Y := Y) (M := M) (P := cp M 1) (more := 0) (pg := nI g) (ov := M.1 1 3) (T := upd T 1 (nI g)) (V := Vv) hn hw h9 hS hla (show dy ≤ 3000 by omega) ((hT 0 (by decide)).trans (hT0.trans h4)) rfl ((hT 2 (by decide)).trans (hT2.trans h2)) ((hT 3 (by decide)).trans hT3) ((hT 4 (by decide)).trans hT4) hC1
              have hs2 : ∀ i, i < n → (V2 i = 2 ↔ pSk (cp M 1) (nI g) i = true) := fun i hi => by rw [hV2 i hi]; exact rzW_2 hw hi
              have hU3 : upd T 1 (nI g) 3 = nI n := (hT 3 (by decide)).trans hT3
              refine v_callS hX 9 (hF) tw_360 tw_358 tw_359 tw_38 (by decide +kernel) ⟨⟨rfl, rfl⟩, Nat.le_of_ble_eq_true rfl, Nat.le_of_ble_eq_true rfl⟩ rfl (Nat.le_of_ble_eq_true rfl) rfl rfl 124 rfl ?_
              refine v_iconst hX (v := 0) 125 rfl (by decide) ?_
              refine v_istore hX 126 rfl (Nat.le_of_ble_eq_true rfl) rfl ?_
              refine v_iconst hX (v := 0) 127 rfl (by decide) ?_
              refine v_istore hX 128 rfl (Nat.le_of_ble_eq_true rfl) rfl ?_
              have lt : ∀ (p : Nat), p ≤ n → V Y X (qM M (upd T 1 (nI g)) V2) 245 [some (.ref (Y.2.2.2.1 0)), some (.ref (Y.2.2.2.1 270)), some (.ref (Y.2.2.2.1 271)), some (.ref (Y.2.2.2.1 273)), some (.ref (Y.2.2.2.1 274)), some (.ref (Y.2.2.2.1 275)), some (.ref (Y.2.2.2.1 276)), some (.ref (Y.2.2.2.1 277)), some (.ref (Y.2.2.2.1 278)), some (.ref q1), none, none, some (.int (lpR M n)), some (.int (M.1 1 5)), some (.int 1), some (.int (nI k)), some (.int (bI (stkB (cp M 1) g p))), some (.int (nI p))] [] := by
                refine upTo n (fun p hp0 iht => ?_)
                refine v_iload hX 129 rfl rfl ?_
                refine v_aload hX 130 rfl rfl ?_
                refine v_iconst hX (v := 3) 131 rfl (by decide) ?_
                refine v_ialg hX aC_278 (vp_in_nI (n := 3) (by decide) (by decide)) 132 rfl ?_
                rw [hB3, hU3]
                refine v_icmp_ge hX (tgt := 281) 133 rfl (by decide) (fun c251 => ?_) (fun c251 => ?_)
                · skip
                  have hpn : n = p := by have := of_le c251 (by omega) (by omega); omega
                  subst hpn
                  refine v_aload hX 147 rfl rfl ?_
                  refine v_iconst hX (v := 1) 148 rfl (by decide) ?_
                  refine v_ialg hX aC_278 (vp_in_nI (n := 1) (by decide) (by decide)) 149 rfl ?_
                  rw [hB1, show upd T 1 (nI g) 1 = nI g from upd_s]
                  refine v_if_eq hX (tgt := 311) 150 rfl (by decide) (fun c285 => ?_) (fun c285 => ?_)
                  · skip
                    refine v_iconst hX (v := 1) 162 rfl (by decide) ?_
                    refine v_goto hX (tgt := 316) 163 rfl (by decide) ?_
                    refine v_istore hX 165 rfl (Nat.le_of_ble_eq_true rfl) rfl ?_
                    refine v_iinc hX 166 rfl rfl (nI_inc k) (Nat.le_of_ble_eq_true rfl) rfl ?_
                    refine v_goto hX (tgt := 190) 167 rfl (by decide) ?_
                    refine V.subM (ihk hk2 (upd T 1 (nI g)) V2 (fun j hj => by rw [upd_n hj]; exact hT j hj)) ?_ rfl ⟨rfl, rfl, rfl, rfl, rfl, rfl, rfl, rfl, rfl, rfl, rfl, rfl, rfl, rfl, trivial⟩
                    rfl
                  · skip
                    have hg0 : ¬ g = 0 := fun e => c285 (by rw [e]; rfl)
                    have hg4 := hg3.resolve_left hg0
                    have j308 : ∀ (x7 : Int32), x7 = (if lpR M n = -6 ∨ k = 1 then (1 : Int32) else 0) → V Y X (qM M (upd T 1 (nI g)) V2) 308 [some (.ref (Y.2.2.2.1 0)), some (.ref (Y.2.2.2.1 270)), some (.ref (Y.2.2.2.1 271)), some (.ref (Y.2.2.2.1 273)), some (.ref (Y.2.2.2.1 274)), some (.ref (Y.2.2.2.1 275)), some (.ref (Y.2.2.2.1 276)), some (.ref (Y.2.2.2.1 277)), some (.ref (Y.2.2.2.1 278)), some (.ref q1), none, none, some (.int (lpR M n)), some (.int (M.1 1 5)), some (.int 1), some (.int (nI k)), some (.int (bI (stkB (cp M 1) g n))), none] [.int x7, .int (bI (stkB (cp M 1) g n))] := by
                      intro x7 hx7
                      refine v_icmp_ne hX (tgt := 315) 161 rfl (by decide) (fun c308 => absurd c308 (fun h => h (hg4.trans hx7.symm))) (fun c308 => ?_)
                      refine v_iconst hX (v := 1) 162 rfl (by decide) ?_
                      refine v_goto hX (tgt := 316) 163 rfl (by decide) ?_
                      refine v_istore hX 165 rfl (Nat.le_of_ble_eq_true rfl) rfl ?_
                      refine v_iinc hX 166 rfl rfl (nI_inc k) (Nat.le_of_ble_eq_true rfl) rfl ?_
                      refine v_goto hX (tgt := 190) 167 rfl (by decide) ?_
                      refine V.subM (ihk hk2 (upd T 1 (nI g)) V2 (fun j hj => by rw [upd_n hj]; exact hT j hj)) ?_ rfl ⟨rfl, rfl, rfl, rfl, rfl, rfl, rfl, rfl, rfl, rfl, rfl, rfl, rfl, rfl, trivial⟩
                      rfl
                    refine v_iload hX 151 rfl rfl ?_
                    refine v_iload hX 152 rfl rfl ?_
                    refine v_bipush hX (v := (-6)) 153 rfl (by decide) ?_
                    refine v_icmp_eq hX (tgt := 303) 154 rfl (by decide) (fun c294 => ?_) (fun c294 => ?_)
                    · skip
                      refine v_iconst hX (v := 1) 158 rfl (by decide) ?_
                      refine v_goto hX (tgt := 308) 159 rfl (by decide) ?_
                      exact V.sub (j308 _ (if_pos (Or.inl c294)).symm) rfl ⟨rfl, rfl, rfl, rfl, rfl, rfl, rfl, rfl, rfl, rfl, rfl, rfl, rfl, rfl, rfl, trivial⟩
                    · skip
                      refine v_iload hX 155 rfl rfl ?_
                      refine v_iconst hX (v := 1) 156 rfl (by decide) ?_
                      refine v_icmp_ne hX (tgt := 307) 157 rfl (by decide) (fun c300 => ?_) (fun c300 => ?_)
                      · skip
                        refine v_iconst hX (v := 0) 160 rfl (by decide) ?_
                        exact V.sub (j308 _ (if_neg (fun h => h.elim c294 (fun e => c300 (by rw [e]; rfl)))).symm) rfl ⟨rfl, rfl, rfl, rfl, rfl, rfl, rfl, rfl, rfl, rfl, rfl, rfl, rfl, rfl, rfl, trivial⟩
                      · skip
                        refine v_iconst hX (v := 1) 158 rfl (by decide) ?_
                        refine v_goto hX (tgt := 308) 159 rfl (by decide) ?_
                        exact V.sub (j308 _ (if_pos (Or.inr ((nI_eq (b := 1) (by omega) (by omega)).mp c300))).symm) rfl ⟨rfl, rfl, rfl, rfl, rfl, rfl, rfl, rfl, rfl, rfl, rfl, rfl, rfl, rfl, rfl, trivial⟩
                · skip
                  have hp : p < n := of_nle c251 (by omega) (by omega)
                  have j273 : ∀ (x5 : Int32), x5 = bI (stkB (cp M 1) g (p + 1)) → V Y X (qM M (upd T 1 (nI g)) V2) 273 [some (.ref (Y.2.2.2.1 0)), some (.ref (Y.2.2.2.1 270)), some (.ref (Y.2.2.2.1 271)), some (.ref (Y.2.2.2.1 273)), some (.ref (Y.2.2.2.1 274)), some (.ref (Y.2.2.2.1 275)), some (.ref (Y.2.2.2.1 276)), some (.ref (Y.2.2.2.1 277)), some (.ref (Y.2.2.2.1 278)), some (.ref q1), none, none, some (.int (lpR M n)), some (.int (M.1 1 5)), some (.int 1), some (.int (nI k)), none, some (.int (nI p))] [.int x5] := by
                    intro x5 hx5
                    refine v_istore hX 144 rfl (Nat.le_of_ble_eq_true rfl) rfl ?_
                    refine v_iinc hX 145 rfl rfl (nI_inc p) (Nat.le_of_ble_eq_true rfl) rfl ?_
                    refine v_goto hX (tgt := 245) 146 rfl (by decide) ?_
                    refine V.subM (iht hp) ?_ rfl ⟨rfl, rfl, rfl, rfl, rfl, rfl, rfl, rfl, rfl, rfl, rfl, rfl, rfl, rfl, (by first | rfl | (refine congrArg (fun z : Int32 => some (Value.int z)) ?_; exact hx5)), rfl, trivial⟩
                    rfl
                  refine v_iload hX 134 rfl rfl ?_
                  refine v_if_ne hX (tgt := 268) 135 rfl (by decide) (fun c256 => ?_) (fun c256 => ?_)
                  · skip
                    have q256 : stkB (cp M 1) g p = true := by cases ho : stkB (cp M 1) g p; exact absurd (bI_0.mpr ho) c256; rfl
                    refine v_iconst hX (v := 1) 141 rfl (by decide) ?_
                    refine v_goto hX (tgt := 273) 142 rfl (by decide) ?_
                    exact V.sub (j273 _ (by rw [stkB_s, q256]; rfl)) rfl ⟨rfl, rfl, rfl, rfl, rfl, rfl, rfl, rfl, rfl, rfl, rfl, rfl, rfl, rfl, rfl, trivial⟩
                  · skip
                    have q256 : stkB (cp M 1) g p = false := bI_0.mp c256
                    refine v_aload hX 136 rfl rfl ?_
                    refine v_iload hX 137 rfl rfl ?_
                    refine v_ialg hX hC1 (vp_in_nI (by omega) (by decide)) 138 rfl ?_
                    rw [hAv _ _ _ (by omega)]
                    refine v_iconst hX (v := 2) 139 rfl (by decide) ?_
                    refine v_icmp_ne hX (tgt := 272) 140 rfl (by decide) (fun c265 => ?_) (fun c265 => ?_)
                    · skip
                      refine v_iconst hX (v := 0) 143 rfl (by decide) ?_
                      exact V.sub (j273 _ (by rw [stkB_s, q256]; cases ho : pSk (cp M 1) (nI g) p; rfl; exact absurd ((hs2 p hp).mpr ho) c265)) rfl ⟨rfl, rfl, rfl, rfl, rfl, rfl, rfl, rfl, rfl, rfl, rfl, rfl, rfl, rfl, rfl, trivial⟩
                    · skip
                      refine v_iconst hX (v := 1) 141 rfl (by decide) ?_
                      refine v_goto hX (tgt := 273) 142 rfl (by decide) ?_
                      exact V.sub (j273 _ (by rw [stkB_s, (hs2 p hp).mp c265, Bool.or_true]; rfl)) rfl ⟨rfl, rfl, rfl, rfl, rfl, rfl, rfl, rfl, rfl, rfl, rfl, rfl, rfl, rfl, rfl, trivial⟩
              refine V.subM (lt 0 (Nat.zero_le _)) ?_ rfl ⟨rfl, rfl, rfl, rfl, rfl, rfl, rfl, rfl, rfl, rfl, rfl, rfl, rfl, rfl, (by first | rfl | (refine congrArg (fun z : Int32 => some (Value.int z)) ?_; rfl)), rfl, trivial⟩
              rfl
            refine v_iload hX 106 rfl rfl ?_
            refine v_bipush hX (v := (-6)) 107 rfl (by decide) ?_
            refine v_icmp_ne hX (tgt := 216) 108 rfl (by decide) (fun c208 => ?_) (fun c208 => ?_)
            · skip
              refine v_iload hX 111 rfl rfl ?_
              refine v_iload hX 112 rfl rfl ?_
              refine v_isub hX 113 rfl ?_
              exact V.sub (j221 _ (hg2 c208)) rfl ⟨rfl, rfl, rfl, rfl, rfl, rfl, rfl, rfl, rfl, rfl, rfl, rfl, rfl, rfl, trivial⟩
            · skip
              refine v_bipush hX (v := 99) 109 rfl (by decide) ?_
              refine v_goto hX (tgt := 221) 110 rfl (by decide) ?_
              exact V.sub (j221 _ (by rw [hg1 c208]; rfl)) rfl ⟨rfl, rfl, rfl, rfl, rfl, rfl, rfl, rfl, rfl, rfl, rfl, rfl, rfl, rfl, trivial⟩
        refine V.subM (lk 0 (Nat.zero_le _) (M.1 278) Vv (fun _ _ => rfl)) ?_ rfl ⟨rfl, rfl, rfl, rfl, rfl, rfl, rfl, rfl, rfl, rfl, rfl, rfl, rfl, rfl, trivial⟩
        exact qM_r2.symm
      refine v_iload hX 84 rfl rfl ?_
      refine v_bipush hX (v := (-6)) 85 rfl (by decide) ?_
      refine v_icmp_eq hX (tgt := 180) 86 rfl (by decide) (fun c164 => ?_) (fun c164 => ?_)
      · skip
        exact V.sub (j180) rfl ⟨rfl, rfl, rfl, rfl, rfl, rfl, rfl, rfl, rfl, rfl, rfl, rfl, trivial⟩
      · skip
        refine v_iload hX 87 rfl rfl ?_
        refine v_iconst hX (v := 1) 88 rfl (by decide) ?_
        refine v_icmp_lt hX (tgt := 184) 89 rfl (by decide) (fun c170 => absurd c170 (by rcases hlp with h | ⟨L, h1, h3, e, _⟩; exact absurd h.1 c164; rw [e]; exact nI_nlt (b := 1) h1 (by omega))) (fun c170 => ?_)
        refine v_iload hX 90 rfl rfl ?_
        refine v_bipush hX (v := 99) 91 rfl (by decide) ?_
        refine v_icmp_gt hX (tgt := 184) 92 rfl (by decide) (fun c177 => absurd c177 (by rcases hlp with h | ⟨L, h1, h3, e, _⟩; exact absurd h.1 c164; rw [e]; exact nI_nlt (a := 99) h3 (by omega))) (fun c177 => ?_)
        exact V.sub (j180) rfl ⟨rfl, rfl, rfl, rfl, rfl, rfl, rfl, rfl, rfl, rfl, rfl, rfl, trivial⟩
    · skip
      obtain ⟨m, rfl⟩ : ∃ m2, k = m2 + 1 := ⟨k - 1, by omega⟩
      refine v_iload hX 11 rfl rfl ?_
      refine v_if_le hX (tgt := 133) 12 rfl (by decide) (fun c22 => absurd c22 (nI_nle (by omega) (by omega))) (fun c22 => ?_)
      refine v_aload hX 13 rfl rfl ?_
      refine v_iconst hX (v := 2) 14 rfl (by decide) ?_
      refine v_iload hX 15 rfl rfl ?_
      refine v_iload hX 16 rfl rfl ?_
      refine v_iadd hX 17 rfl ?_
      rw [nI_add]
      refine v_iasg hX aC_278 (vp_in_nI (n := 2) (by decide) (by decide)) 18 rfl ?_
      refine V.mem (M2 := qM M (upd T 2 (nI (dy + (m + 1)))) Vv) (by exact qM_sT (x := 2)) ?_
      refine v_aload_n hX 1 19 rfl rfl rfl ?_
      refine v_aload_n hX 2 20 rfl rfl rfl ?_
      refine v_aload_n hX 3 21 rfl rfl rfl ?_
      refine v_aload hX 22 rfl rfl ?_
      refine v_aload hX 23 rfl rfl ?_
      refine v_aload hX 24 rfl rfl ?_
      refine v_aload hX 25 rfl rfl ?_
      refine v_aload hX 26 rfl rfl ?_
      refine v_iconst hX (v := 0) 27 rfl (by decide) ?_
      obtain ⟨V2, hV2, hF⟩ := l_reasonsQ (Y := Y) (M := M) (P := cp M 1) (more := 0) (pg := M.1 1 5) (ov := M.1 1 3) (T := upd T 2 (nI (dy + (m + 1)))) (V := Vv) hn hw h9 hS hla (show dy + (m + 1) ≤ 3000 by omega) ((hT 0 (by decide)).trans (hT0.trans h4)) ((hT 1 (by decide)).trans hT1) rfl ((hT 3 (by decide)).trans hT3) ((hT 4 (by decide)).trans hT4) hC1
      have hs0 : ∀ i, i < n → (V2 i = 0 ↔ sdk M n (m + 1) i = true) := fun i hi => by rw [hV2 i hi, rzW_0 hi]; unfold sdk; rw [h2, h4, nI_add]
      have hU3 : upd T 2 (nI (dy + (m + 1))) 3 = nI n := (hT 3 (by decide)).trans hT3
      refine v_callS hX 9 (hF) tw_360 tw_358 tw_359 tw_38 (by decide +kernel) ⟨⟨rfl, rfl⟩, Nat.le_of_ble_eq_true rfl, Nat.le_of_ble_eq_true rfl⟩ rfl (Nat.le_of_ble_eq_true rfl) rfl rfl 28 rfl ?_
      refine v_iconst hX (v := 0) 29 rfl (by decide) ?_
      refine v_istore hX 30 rfl (Nat.le_of_ble_eq_true rfl) rfl ?_
      refine v_iconst hX (v := 0) 31 rfl (by decide) ?_
      refine v_istore hX 32 rfl (Nat.le_of_ble_eq_true rfl) rfl ?_
      have lo : ∀ (p : Nat), p ≤ n → V Y X (qM M (upd T 2 (nI (dy + (m + 1)))) V2) 57 [some (.ref (Y.2.2.2.1 0)), some (.ref (Y.2.2.2.1 270)), some (.ref (Y.2.2.2.1 271)), some (.ref (Y.2.2.2.1 273)), some (.ref (Y.2.2.2.1 274)), some (.ref (Y.2.2.2.1 275)), some (.ref (Y.2.2.2.1 276)), some (.ref (Y.2.2.2.1 277)), some (.ref (Y.2.2.2.1 278)), some (.ref q1), some (.int (nI dy)), some (.int (fdF M n (62 - (m + 1)) (m + 2))), some (.int (nI (m + 1))), some (.int (bI (oth M n (m + 1) p))), some (.int (nI p)), none, none, none] [] := by
        refine upTo n (fun p hp0 iho => ?_)
        refine v_iload hX 33 rfl rfl ?_
        refine v_aload hX 34 rfl rfl ?_
        refine v_iconst hX (v := 3) 35 rfl (by decide) ?_
        refine v_ialg hX aC_278 (vp_in_nI (n := 3) (by decide) (by decide)) 36 rfl ?_
        rw [hB3, hU3]
        refine v_icmp_ge hX (tgt := 113) 37 rfl (by decide) (fun c63 => ?_) (fun c63 => ?_)
        · skip
          have hpn : n = p := by have := of_le c63 (by omega) (by omega); omega
          subst hpn
          have j125 : ∀ (x4 : Int32), x4 = fdF M n (62 - m) (m + 1) → V Y X (qM M (upd T 2 (nI (dy + (m + 1)))) V2) 125 [some (.ref (Y.2.2.2.1 0)), some (.ref (Y.2.2.2.1 270)), some (.ref (Y.2.2.2.1 271)), some (.ref (Y.2.2.2.1 273)), some (.ref (Y.2.2.2.1 274)), some (.ref (Y.2.2.2.1 275)), some (.ref (Y.2.2.2.1 276)), some (.ref (Y.2.2.2.1 277)), some (.ref (Y.2.2.2.1 278)), some (.ref q1), some (.int (nI dy)), none, some (.int (nI (m + 1))), none, none, none, none, none] [.int x4] := by
            intro x4 hx4
            refine v_istore hX 66 rfl (Nat.le_of_ble_eq_true rfl) rfl ?_
            refine v_iinc hX 67 rfl rfl (nI_dec m) (Nat.le_of_ble_eq_true rfl) rfl ?_
            refine v_goto hX (tgt := 20) 68 rfl (by decide) ?_
            refine V.subM (ih m (by omega) (by omega) (upd T 2 (nI (dy + (m + 1)))) V2 (fun j hj => by rw [upd_n hj]; exact hT j hj)) ?_ rfl ⟨rfl, rfl, rfl, rfl, rfl, rfl, rfl, rfl, rfl, rfl, rfl, (by first | rfl | (refine congrArg (fun z : Int32 => some (Value.int z)) ?_; exact hx4)), rfl, trivial⟩
            rfl
          refine v_iload hX 61 rfl rfl ?_
          refine v_if_eq hX (tgt := 123) 62 rfl (by decide) (fun c115 => ?_) (fun c115 => ?_)
          · skip
            have q115 : oth M n (m + 1) n = false := bI_0.mp c115
            refine v_iload hX 65 rfl rfl ?_
            exact V.sub (j125 _ (by rw [fd_s (m := m) hn (by omega), if_neg (by rw [q115]; decide)])) rfl ⟨rfl, rfl, rfl, rfl, rfl, rfl, rfl, rfl, rfl, rfl, rfl, rfl, trivial⟩
          · skip
            have q115 : oth M n (m + 1) n = true := by cases ho : oth M n (m + 1) n; exact absurd (bI_0.mpr ho) c115; rfl
            refine v_iload hX 63 rfl rfl ?_
            refine v_goto hX (tgt := 125) 64 rfl (by decide) ?_
            exact V.sub (j125 _ (by rw [fd_s (m := m) hn (by omega), if_pos q115])) rfl ⟨rfl, rfl, rfl, rfl, rfl, rfl, rfl, rfl, rfl, rfl, rfl, rfl, trivial⟩
        · skip
          have hp : p < n := of_nle c63 (by omega) (by omega)
          have j105 : ∀ (x3 : Int32), x3 = bI (oth M n (m + 1) (p + 1)) → V Y X (qM M (upd T 2 (nI (dy + (m + 1)))) V2) 105 [some (.ref (Y.2.2.2.1 0)), some (.ref (Y.2.2.2.1 270)), some (.ref (Y.2.2.2.1 271)), some (.ref (Y.2.2.2.1 273)), some (.ref (Y.2.2.2.1 274)), some (.ref (Y.2.2.2.1 275)), some (.ref (Y.2.2.2.1 276)), some (.ref (Y.2.2.2.1 277)), some (.ref (Y.2.2.2.1 278)), some (.ref q1), some (.int (nI dy)), some (.int (fdF M n (62 - (m + 1)) (m + 2))), some (.int (nI (m + 1))), none, some (.int (nI p)), none, none, none] [.int x3] := by
            intro x3 hx3
            refine v_istore hX 58 rfl (Nat.le_of_ble_eq_true rfl) rfl ?_
            refine v_iinc hX 59 rfl rfl (nI_inc p) (Nat.le_of_ble_eq_true rfl) rfl ?_
            refine v_goto hX (tgt := 57) 60 rfl (by decide) ?_
            refine V.subM (iho hp) ?_ rfl ⟨rfl, rfl, rfl, rfl, rfl, rfl, rfl, rfl, rfl, rfl, rfl, rfl, rfl, (by first | rfl | (refine congrArg (fun z : Int32 => some (Value.int z)) ?_; exact hx3)), rfl, trivial⟩
            rfl
          refine v_iload hX 38 rfl rfl ?_
          refine v_if_ne hX (tgt := 100) 39 rfl (by decide) (fun c68 => ?_) (fun c68 => ?_)
          · skip
            have q68 : oth M n (m + 1) p = true := by cases ho : oth M n (m + 1) p; exact absurd (bI_0.mpr ho) c68; rfl
            refine v_iconst hX (v := 1) 55 rfl (by decide) ?_
            refine v_goto hX (tgt := 105) 56 rfl (by decide) ?_
            exact V.sub (j105 _ (by rw [oth_s, q68]; rfl)) rfl ⟨rfl, rfl, rfl, rfl, rfl, rfl, rfl, rfl, rfl, rfl, rfl, rfl, rfl, rfl, trivial⟩
          · skip
            have q68 : oth M n (m + 1) p = false := bI_0.mp c68
            have j84 : ∀ (x1 : Int32), x1 = bI (sdk M n (m + 1) p) → V Y X (qM M (upd T 2 (nI (dy + (m + 1)))) V2) 84 [some (.ref (Y.2.2.2.1 0)), some (.ref (Y.2.2.2.1 270)), some (.ref (Y.2.2.2.1 271)), some (.ref (Y.2.2.2.1 273)), some (.ref (Y.2.2.2.1 274)), some (.ref (Y.2.2.2.1 275)), some (.ref (Y.2.2.2.1 276)), some (.ref (Y.2.2.2.1 277)), some (.ref (Y.2.2.2.1 278)), some (.ref q1), some (.int (nI dy)), some (.int (fdF M n (62 - (m + 1)) (m + 2))), some (.int (nI (m + 1))), none, some (.int (nI p)), none, none, none] [.int x1] := by
              intro x1 hx1
              have j97 : ∀ (x2 : Int32), x2 = bI (bSd M 1 n p) → V Y X (qM M (upd T 2 (nI (dy + (m + 1)))) V2) 97 [some (.ref (Y.2.2.2.1 0)), some (.ref (Y.2.2.2.1 270)), some (.ref (Y.2.2.2.1 271)), some (.ref (Y.2.2.2.1 273)), some (.ref (Y.2.2.2.1 274)), some (.ref (Y.2.2.2.1 275)), some (.ref (Y.2.2.2.1 276)), some (.ref (Y.2.2.2.1 277)), some (.ref (Y.2.2.2.1 278)), some (.ref q1), some (.int (nI dy)), some (.int (fdF M n (62 - (m + 1)) (m + 2))), some (.int (nI (m + 1))), none, some (.int (nI p)), none, none, none] [.int x2, .int x1] := by
                intro x2 hx2
                refine v_icmp_eq hX (tgt := 104) 54 rfl (by decide) (fun c97 => ?_) (fun c97 => ?_)
                · skip
                  refine v_iconst hX (v := 0) 57 rfl (by decide) ?_
                  exact V.sub (j105 _ (by rw [oth_s, q68, bI_eq.mp (hx1.symm.trans (c97.trans hx2))]; cases bSd M 1 n p <;> rfl)) rfl ⟨rfl, rfl, rfl, rfl, rfl, rfl, rfl, rfl, rfl, rfl, rfl, rfl, rfl, rfl, trivial⟩
                · skip
                  refine v_iconst hX (v := 1) 55 rfl (by decide) ?_
                  refine v_goto hX (tgt := 105) 56 rfl (by decide) ?_
                  exact V.sub (j105 _ (by rw [oth_s]; have h : ¬ sdk M n (m + 1) p = bSd M 1 n p := fun g => c97 (by rw [hx1, hx2, g]); cases ha : sdk M n (m + 1) p <;> cases hb : bSd M 1 n p <;> rw [ha, hb] at h <;> first | exact absurd rfl h | (cases oth M n (m + 1) p <;> rfl))) rfl ⟨rfl, rfl, rfl, rfl, rfl, rfl, rfl, rfl, rfl, rfl, rfl, rfl, rfl, rfl, trivial⟩
              refine v_aload hX 47 rfl rfl ?_
              refine v_iload hX 48 rfl rfl ?_
              refine v_ialg hX aC_277 (vp_in_nI (by omega) (by decide)) 49 rfl ?_
              rw [hAw _ _ _ (by omega)]
              refine v_if_ne hX (tgt := 96) 50 rfl (by decide) (fun c89 => ?_) (fun c89 => ?_)
              · skip
                refine v_iconst hX (v := 0) 53 rfl (by decide) ?_
                exact V.sub (j97 _ (by cases ho : bSd M 1 n p; rfl; exact absurd ((wv_0 hp).mpr ho) c89)) rfl ⟨rfl, rfl, rfl, rfl, rfl, rfl, rfl, rfl, rfl, rfl, rfl, rfl, rfl, rfl, trivial⟩
              · skip
                refine v_iconst hX (v := 1) 51 rfl (by decide) ?_
                refine v_goto hX (tgt := 97) 52 rfl (by decide) ?_
                exact V.sub (j97 _ (by rw [(wv_0 hp).mp c89]; rfl)) rfl ⟨rfl, rfl, rfl, rfl, rfl, rfl, rfl, rfl, rfl, rfl, rfl, rfl, rfl, rfl, trivial⟩
            refine v_aload hX 40 rfl rfl ?_
            refine v_iload hX 41 rfl rfl ?_
            refine v_ialg hX hC1 (vp_in_nI (by omega) (by decide)) 42 rfl ?_
            rw [hAv _ _ _ (by omega)]
            refine v_if_ne hX (tgt := 83) 43 rfl (by decide) (fun c76 => ?_) (fun c76 => ?_)
            · skip
              refine v_iconst hX (v := 0) 46 rfl (by decide) ?_
              exact V.sub (j84 _ (by cases ho : sdk M n (m + 1) p; rfl; exact absurd ((hs0 p hp).mpr ho) c76)) rfl ⟨rfl, rfl, rfl, rfl, rfl, rfl, rfl, rfl, rfl, rfl, rfl, rfl, rfl, rfl, trivial⟩
            · skip
              refine v_iconst hX (v := 1) 44 rfl (by decide) ?_
              refine v_goto hX (tgt := 84) 45 rfl (by decide) ?_
              exact V.sub (j84 _ (by rw [(hs0 p hp).mp c76]; rfl)) rfl ⟨rfl, rfl, rfl, rfl, rfl, rfl, rfl, rfl, rfl, rfl, rfl, rfl, rfl, rfl, trivial⟩
      refine V.subM (lo 0 (Nat.zero_le _)) ?_ rfl ⟨rfl, rfl, rfl, rfl, rfl, rfl, rfl, rfl, rfl, rfl, rfl, rfl, rfl, (by first | rfl | (refine congrArg (fun z : Int32 => some (Value.int z)) ?_; rfl)), rfl, trivial⟩
      rfl
  refine V.subM (lp 62 (Nat.le_refl 62) (M.1 278) V0 (fun _ _ => rfl)) ?_ rfl ⟨rfl, rfl, rfl, rfl, rfl, rfl, rfl, rfl, rfl, rfl, rfl, (by first | rfl | (refine congrArg (fun z : Int32 => some (Value.int z)) ?_; rfl)), rfl, trivial⟩
  exact qM_r2.symm
set_option maxRecDepth 100000 in
set_option maxHeartbeats 8000000 in
theorem l_days {Y : Yt} {M : Mm} (h0 : Y.2.2.2.2.2 = []) {n la dy : Nat} (hz : M.1 1 1 = nI n) (hn : n ≤ 24) (hw : WF (cp M 1) n) (hS : LSt M (cp M 1) n) (h9 : sm9 (cp M 1) n) (hsd : ∀ i t, i < n → t < i → cp M 1 i 3 = nI t → ¬ cp M 1 i 0 = cp M 1 t 0) (hT0 : M.1 278 0 = M.1 1 4) (hT1 : M.1 278 1 = M.1 1 5) (hT2 : M.1 278 2 = M.1 1 2) (hT3 : M.1 278 3 = nI n) (hT4 : M.1 278 4 = M.1 1 3) (hla : la ≤ 60) (hdy : dy ≤ 999) (h4 : M.1 1 4 = nI la) (h2 : M.1 1 2 = nI dy) (h5 : 0 ≤ M.1 1 5) (hW : ∀ i, i < n → M.1 277 i = wv M n i) (h5d : s5d (cp M 1) n dy) : FnA Y yL_days wsL_days { frames := 5, cells := 1, slots := 24, locals := 111 } [.ref (Y.2.2.2.1 0), .ref (Y.2.2.2.1 270), .ref (Y.2.2.2.1 271), .ref (Y.2.2.2.1 273), .ref (Y.2.2.2.1 274), .ref (Y.2.2.2.1 275), .ref (Y.2.2.2.1 276), .ref (Y.2.2.2.1 277), .ref (Y.2.2.2.1 278)] M (some (.int 1)) (fun M1 => M1 = M) 1 24 := by
  refine FnA.of (cc := cL_days) (ins := iL_days) (maxL := 18) (ret := (some .boolean)) (by decide) dL_days [some (.ref (Y.2.2.2.1 0)), some (.ref (Y.2.2.2.1 270)), some (.ref (Y.2.2.2.1 271)), some (.ref (Y.2.2.2.1 273)), some (.ref (Y.2.2.2.1 274)), some (.ref (Y.2.2.2.1 275)), some (.ref (Y.2.2.2.1 276)), some (.ref (Y.2.2.2.1 277)), some (.ref (Y.2.2.2.1 278)), none, none, none, none, none, none, none, none, none] (Nat.le_of_ble_eq_true rfl) rfl rfl ?_
  intro X hX hx0 hs0 hQ
  refine v_bipush hX (v := 24) 0 rfl (by decide) ?_
  refine v_newi hX (m0 := 24) (by decide) rfl (by decide) (by rw [hx0]; decide) (by rw [hs0]; decide) 1 rfl (fun q1 hX1 => ?_)
  refine v_astore hX1 2 rfl (Nat.le_of_ble_eq_true rfl) rfl ?_
  have hsl : sl Y = 0 := by unfold sl; rw [h0]; rfl
  have hC1 : aC (pY Y q1 24) 2 0 q1 24 := by have h := aC.new (Y := Y) (q := q1) (m := 24) (by decide); rw [hsl] at h; exact h
  refine v_aload hX1 3 rfl rfl ?_
  refine v_iconst hX1 (v := 2) 4 rfl (by decide) ?_
  refine v_ialg hX1 aC_278 (vp_in_nI (n := 2) (by decide) (by decide)) 5 rfl ?_
  rw [show (mrow M 2 (zf M (sl Y))).1 278 (0 + Int32.toNatClampNeg 2) = nI dy from by rw [mrow_n (by decide)]; exact hT2.trans h2]
  refine v_istore hX1 6 rfl (Nat.le_of_ble_eq_true rfl) rfl ?_
  exact l_days_b hX1 hC1 hz hn hw hS h9 hsd hT0 hT1 hT2 hT3 hT4 hla hdy h4 h2 h5 hW h5d (fun M1 L1 hE => v_ireA hX1 (t := [(q1, 24)]) (by unfold pY; rw [h0]; rfl) h0 (vQA.xc hQ) (by rw [xce_xc, hx0]; decide) (by rw [xsl_xc, hs0]; decide) rfl rfl rfl rfl hE 173 rfl)
end
