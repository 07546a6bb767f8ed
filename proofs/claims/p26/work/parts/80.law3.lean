theorem nw_m0 : Cond.methodLinkNest "PointAnswers" 11 ⟨"PointAnswers$Bundle", "<init>", "()V"⟩ "PointAnswers" ∈ lw_tbl := List.mem_of_getElem? (i := 58) (by decide +kernel)
theorem nw_m1 : Cond.methodLinkNest "PointAnswers$Bundle" 24 ⟨"PointAnswers$Point", "<init>", "()V"⟩ "PointAnswers" ∈ lw_tbl := List.mem_of_getElem? (i := 65) (by decide +kernel)
theorem nw_m2 : Cond.methodLinkNest "PointAnswers" 18 ⟨"PointAnswers$Costs", "<init>", "()V"⟩ "PointAnswers" ∈ lw_tbl := List.mem_of_getElem? (i := 130) (by decide +kernel)
theorem nw_m3 : Cond.methodLinkNest "PointAnswers" 25 ⟨"PointAnswers$Pad", "<init>", "()V"⟩ "PointAnswers" ∈ lw_tbl := List.mem_of_getElem? (i := 144) (by decide +kernel)
theorem nw_m4 : Cond.methodLinkNest "PointAnswers" 32 ⟨"PointAnswers$Reader", "<init>", "()V"⟩ "PointAnswers" ∈ lw_tbl := List.mem_of_getElem? (i := 158) (by decide +kernel)
theorem nw_m5 : Cond.methodLinkNest "PointAnswers" 39 ⟨"PointAnswers$History", "<init>", "()V"⟩ "PointAnswers" ∈ lw_tbl := List.mem_of_getElem? (i := 177) (by decide +kernel)
theorem nw_m6 : Cond.methodLinkNest "PointAnswers$History" 17 ⟨"PointAnswers$Bundle", "<init>", "()V"⟩ "PointAnswers" ∈ lw_tbl := List.mem_of_getElem? (i := 183) (by decide +kernel)
theorem nw_m7 : Cond.methodLinkNest "PointAnswers" 48 ⟨"PointAnswers$History", "prepare", "(LPointAnswers$Bundle;)V"⟩ "PointAnswers" ∈ lw_tbl := List.mem_of_getElem? (i := 217) (by decide +kernel)
theorem nw_m8 : Cond.methodLinkNest "PointAnswers$History" 26 ⟨"PointAnswers$Bundle", "become", "(LPointAnswers$Bundle;)V"⟩ "PointAnswers" ∈ lw_tbl := List.mem_of_getElem? (i := 225) (by decide +kernel)
theorem nw_m9 : Cond.methodLinkNest "PointAnswers$Bundle" 38 ⟨"PointAnswers$Point", "become", "(LPointAnswers$Point;)V"⟩ "PointAnswers" ∈ lw_tbl := List.mem_of_getElem? (i := 233) (by decide +kernel)
theorem nw_m10 : Cond.methodLinkNest "PointAnswers" 52 ⟨"PointAnswers$Bundle", "adjust", "(II)I"⟩ "PointAnswers" ∈ lw_tbl := List.mem_of_getElem? (i := 237) (by decide +kernel)
theorem nw_m11 : Cond.methodLinkNest "PointAnswers" 56 ⟨"PointAnswers$History", "settle", "(I)I"⟩ "PointAnswers" ∈ lw_tbl := List.mem_of_getElem? (i := 241) (by decide +kernel)
theorem nw_m12 : Cond.methodLinkNest "PointAnswers" 60 ⟨"PointAnswers$Bundle", "fileClaim", "(III)I"⟩ "PointAnswers" ∈ lw_tbl := List.mem_of_getElem? (i := 253) (by decide +kernel)
theorem nw_m13 : Cond.methodLinkNest "PointAnswers" 64 ⟨"PointAnswers$Bundle", "fileAnswer", "(III)I"⟩ "PointAnswers" ∈ lw_tbl := List.mem_of_getElem? (i := 272) (by decide +kernel)
theorem nw_m14 : Cond.methodLinkNest "PointAnswers" 67 ⟨"PointAnswers$Bundle", "takeBack", "(I)I"⟩ "PointAnswers" ∈ lw_tbl := List.mem_of_getElem? (i := 280) (by decide +kernel)
theorem nw_m15 : Cond.methodLinkNest "PointAnswers$Bundle" 86 ⟨"PointAnswers", "has", "(II)Z"⟩ "PointAnswers" ∈ lw_tbl := List.mem_of_getElem? (i := 312) (by decide +kernel)
theorem nw_m16 : Cond.methodLinkNest "PointAnswers" 70 ⟨"PointAnswers$Bundle", "prolong", "(I)I"⟩ "PointAnswers" ∈ lw_tbl := List.mem_of_getElem? (i := 329) (by decide +kernel)
theorem nw_m17 : Cond.methodLinkNest "PointAnswers" 73 ⟨"PointAnswers$Bundle", "turnCase", "(I)I"⟩ "PointAnswers" ∈ lw_tbl := List.mem_of_getElem? (i := 337) (by decide +kernel)
theorem nw_m18 : Cond.methodLinkNest "PointAnswers" 76 ⟨"PointAnswers$Bundle", "moveOn", "(I)I"⟩ "PointAnswers" ∈ lw_tbl := List.mem_of_getElem? (i := 345) (by decide +kernel)
theorem nw_m19 : Cond.methodLinkNest "PointAnswers" 79 ⟨"PointAnswers$Bundle", "find", "(I)LPointAnswers$Point;"⟩ "PointAnswers" ∈ lw_tbl := List.mem_of_getElem? (i := 368) (by decide +kernel)
theorem nw_m20 : Cond.methodLinkNest "PointAnswers" 101 ⟨"PointAnswers$Bundle", "standing", "()I"⟩ "PointAnswers" ∈ lw_tbl := List.mem_of_getElem? (i := 369) (by decide +kernel)
theorem nw_m21 : Cond.methodLinkNest "PointAnswers" 109 ⟨"PointAnswers$Bundle", "reasonAgainst", "(I)I"⟩ "PointAnswers" ∈ lw_tbl := List.mem_of_getElem? (i := 371) (by decide +kernel)
theorem nw_m22 : Cond.methodLinkNest "PointAnswers" 112 ⟨"PointAnswers$Bundle", "answersTo", "(I)I"⟩ "PointAnswers" ∈ lw_tbl := List.mem_of_getElem? (i := 375) (by decide +kernel)
theorem nw_m23 : Cond.methodLinkNest "PointAnswers" 118 ⟨"PointAnswers$Bundle", "depthOf", "(I)I"⟩ "PointAnswers" ∈ lw_tbl := List.mem_of_getElem? (i := 382) (by decide +kernel)
theorem nw_m24 : Cond.methodLinkNest "PointAnswers" 121 ⟨"PointAnswers$Bundle", "daysLeft", "(LPointAnswers$Point;)I"⟩ "PointAnswers" ∈ lw_tbl := List.mem_of_getElem? (i := 386) (by decide +kernel)
theorem nw_m25 : Cond.methodLinkNest "PointAnswers" 131 ⟨"PointAnswers$Bundle", "claims", "()I"⟩ "PointAnswers" ∈ lw_tbl := List.mem_of_getElem? (i := 394) (by decide +kernel)
theorem nw_m26 : Cond.methodLinkNest "PointAnswers" 139 ⟨"PointAnswers$Bundle", "out", "()I"⟩ "PointAnswers" ∈ lw_tbl := List.mem_of_getElem? (i := 400) (by decide +kernel)
theorem nw_m27 : Cond.methodLinkNest "PointAnswers" 142 ⟨"PointAnswers$Bundle", "answered", "()I"⟩ "PointAnswers" ∈ lw_tbl := List.mem_of_getElem? (i := 401) (by decide +kernel)
theorem nw_m28 : Cond.methodLinkNest "PointAnswers" 145 ⟨"PointAnswers$Bundle", "withdrawn", "()I"⟩ "PointAnswers" ∈ lw_tbl := List.mem_of_getElem? (i := 409) (by decide +kernel)
theorem nw_m29 : Cond.methodLinkNest "PointAnswers" 148 ⟨"PointAnswers$Bundle", "struck", "()I"⟩ "PointAnswers" ∈ lw_tbl := List.mem_of_getElem? (i := 410) (by decide +kernel)
theorem nw_m30 : Cond.methodLinkNest "PointAnswers" 151 ⟨"PointAnswers$Bundle", "pagesOf", "(II)I"⟩ "PointAnswers" ∈ lw_tbl := List.mem_of_getElem? (i := 411) (by decide +kernel)
theorem nw_m31 : Cond.methodLinkNest "PointAnswers" 169 ⟨"PointAnswers$Bundle", "ofSide", "(I)I"⟩ "PointAnswers" ∈ lw_tbl := List.mem_of_getElem? (i := 422) (by decide +kernel)
theorem nw_m32 : Cond.methodLinkNest "PointAnswers" 184 ⟨"PointAnswers$Bundle", "standingIf", "(II)I"⟩ "PointAnswers" ∈ lw_tbl := List.mem_of_getElem? (i := 448) (by decide +kernel)
theorem nw_m33 : Cond.methodLinkNest "PointAnswers" 187 ⟨"PointAnswers$Bundle", "withoutAnswers", "()I"⟩ "PointAnswers" ∈ lw_tbl := List.mem_of_getElem? (i := 449) (by decide +kernel)
theorem nw_m34 : Cond.methodLinkNest "PointAnswers" 175 ⟨"PointAnswers$Costs", "weigh", "(LPointAnswers$Bundle;)V"⟩ "PointAnswers" ∈ lw_tbl := List.mem_of_getElem? (i := 457) (by decide +kernel)
theorem nw_m35 : Cond.methodLinkNest "PointAnswers$Costs" 18 ⟨"PointAnswers$Bundle", "out", "()I"⟩ "PointAnswers" ∈ lw_tbl := List.mem_of_getElem? (i := 461) (by decide +kernel)
theorem nw_m36 : Cond.methodLinkNest "PointAnswers$Costs" 24 ⟨"PointAnswers$Bundle", "withoutAnswers", "()I"⟩ "PointAnswers" ∈ lw_tbl := List.mem_of_getElem? (i := 462) (by decide +kernel)
theorem nw_m37 : Cond.methodLinkNest "PointAnswers$Costs" 33 ⟨"PointAnswers$Bundle", "find", "(I)LPointAnswers$Point;"⟩ "PointAnswers" ∈ lw_tbl := List.mem_of_getElem? (i := 466) (by decide +kernel)
theorem nw_m38 : Cond.methodLinkNest "PointAnswers$Costs" 37 ⟨"PointAnswers", "has", "(II)Z"⟩ "PointAnswers" ∈ lw_tbl := List.mem_of_getElem? (i := 467) (by decide +kernel)
theorem nw_m39 : Cond.methodLinkNest "PointAnswers" 178 ⟨"PointAnswers$Costs", "answersToFall", "(I)I"⟩ "PointAnswers" ∈ lw_tbl := List.mem_of_getElem? (i := 472) (by decide +kernel)
theorem nw_m40 : Cond.methodLinkNest "PointAnswers" 181 ⟨"PointAnswers$Costs", "answersToStand", "(I)I"⟩ "PointAnswers" ∈ lw_tbl := List.mem_of_getElem? (i := 483) (by decide +kernel)
theorem nw_m41 : Cond.methodLinkNest "PointAnswers" 190 ⟨"PointAnswers$Bundle", "baseless", "()I"⟩ "PointAnswers" ∈ lw_tbl := List.mem_of_getElem? (i := 501) (by decide +kernel)
theorem nw_m42 : Cond.methodLinkNest "PointAnswers" 193 ⟨"PointAnswers$Bundle", "lapsedOn", "(I)I"⟩ "PointAnswers" ∈ lw_tbl := List.mem_of_getElem? (i := 502) (by decide +kernel)
theorem nw_f0 : Cond.fieldLinkNest "PointAnswers$Bundle" 58 "PointAnswers$Point" "side" "I" "PointAnswers" ∈ lw_tbl := List.mem_of_getElem? (i := 70) (by decide +kernel)
theorem nw_f1 : Cond.fieldLinkNest "PointAnswers" 83 "PointAnswers$Point" "side" "I" "PointAnswers" ∈ lw_tbl := List.mem_of_getElem? (i := 71) (by decide +kernel)
theorem nw_f2 : Cond.fieldLinkNest "PointAnswers$Bundle" 61 "PointAnswers$Point" "pages" "I" "PointAnswers" ∈ lw_tbl := List.mem_of_getElem? (i := 73) (by decide +kernel)
theorem nw_f3 : Cond.fieldLinkNest "PointAnswers" 89 "PointAnswers$Point" "pages" "I" "PointAnswers" ∈ lw_tbl := List.mem_of_getElem? (i := 74) (by decide +kernel)
theorem nw_f4 : Cond.fieldLinkNest "PointAnswers$Bundle" 64 "PointAnswers$Point" "cases" "I" "PointAnswers" ∈ lw_tbl := List.mem_of_getElem? (i := 76) (by decide +kernel)
theorem nw_f5 : Cond.fieldLinkNest "PointAnswers" 98 "PointAnswers$Point" "cases" "I" "PointAnswers" ∈ lw_tbl := List.mem_of_getElem? (i := 77) (by decide +kernel)
theorem nw_f6 : Cond.fieldLinkNest "PointAnswers$Costs" 41 "PointAnswers$Point" "target" "I" "PointAnswers" ∈ lw_tbl := List.mem_of_getElem? (i := 79) (by decide +kernel)
theorem nw_f7 : Cond.fieldLinkNest "PointAnswers$Bundle" 67 "PointAnswers$Point" "target" "I" "PointAnswers" ∈ lw_tbl := List.mem_of_getElem? (i := 80) (by decide +kernel)
theorem nw_f8 : Cond.fieldLinkNest "PointAnswers" 95 "PointAnswers$Point" "target" "I" "PointAnswers" ∈ lw_tbl := List.mem_of_getElem? (i := 81) (by decide +kernel)
theorem nw_f9 : Cond.fieldLinkNest "PointAnswers$Bundle" 70 "PointAnswers$Point" "filed" "I" "PointAnswers" ∈ lw_tbl := List.mem_of_getElem? (i := 83) (by decide +kernel)
theorem nw_f10 : Cond.fieldLinkNest "PointAnswers" 92 "PointAnswers$Point" "filed" "I" "PointAnswers" ∈ lw_tbl := List.mem_of_getElem? (i := 84) (by decide +kernel)
theorem nw_f11 : Cond.fieldLinkNest "PointAnswers$Bundle" 73 "PointAnswers$Point" "lastsFrom" "I" "PointAnswers" ∈ lw_tbl := List.mem_of_getElem? (i := 86) (by decide +kernel)
theorem nw_f12 : Cond.fieldLinkNest "PointAnswers$Bundle" 54 "PointAnswers$Point" "withdrawn" "Z" "PointAnswers" ∈ lw_tbl := List.mem_of_getElem? (i := 88) (by decide +kernel)
theorem nw_f13 : Cond.fieldLinkNest "PointAnswers" 128 "PointAnswers$Bundle" "size" "I" "PointAnswers" ∈ lw_tbl := List.mem_of_getElem? (i := 106) (by decide +kernel)
theorem nw_f14 : Cond.fieldLinkNest "PointAnswers" 125 "PointAnswers$Bundle" "day" "I" "PointAnswers" ∈ lw_tbl := List.mem_of_getElem? (i := 108) (by decide +kernel)
theorem nw_f15 : Cond.fieldLinkNest "PointAnswers" 154 "PointAnswers$Bundle" "overruled" "I" "PointAnswers" ∈ lw_tbl := List.mem_of_getElem? (i := 110) (by decide +kernel)
theorem nw_f16 : Cond.fieldLinkNest "PointAnswers" 157 "PointAnswers$Bundle" "lapse" "I" "PointAnswers" ∈ lw_tbl := List.mem_of_getElem? (i := 112) (by decide +kernel)
theorem nw_f17 : Cond.fieldLinkNest "PointAnswers" 160 "PointAnswers$Bundle" "allowedPages" "I" "PointAnswers" ∈ lw_tbl := List.mem_of_getElem? (i := 114) (by decide +kernel)
theorem nw_f18 : Cond.fieldLinkNest "PointAnswers" 163 "PointAnswers$Pad" "length" "I" "PointAnswers" ∈ lw_tbl := List.mem_of_getElem? (i := 149) (by decide +kernel)
theorem nw_f19 : Cond.fieldLinkNest "PointAnswers" 166 "PointAnswers$History" "kept" "I" "PointAnswers" ∈ lw_tbl := List.mem_of_getElem? (i := 186) (by decide +kernel)
set_option maxRecDepth 20000 in
theorem nM_in : ∀ q ∈ nM, Cond.methodLinkNest q.1 q.2.1 q.2.2.1 q.2.2.2 ∈ lw_tbl := List.forall_mem_cons.mpr ⟨nw_m0, List.forall_mem_cons.mpr ⟨nw_m1, List.forall_mem_cons.mpr ⟨nw_m2, List.forall_mem_cons.mpr ⟨nw_m3, List.forall_mem_cons.mpr ⟨nw_m4, List.forall_mem_cons.mpr ⟨nw_m5, List.forall_mem_cons.mpr ⟨nw_m6, List.forall_mem_cons.mpr ⟨nw_m7, List.forall_mem_cons.mpr ⟨nw_m8, List.forall_mem_cons.mpr ⟨nw_m9, List.forall_mem_cons.mpr ⟨nw_m10, List.forall_mem_cons.mpr ⟨nw_m11, List.forall_mem_cons.mpr ⟨nw_m12, List.forall_mem_cons.mpr ⟨nw_m13, List.forall_mem_cons.mpr ⟨nw_m14, List.forall_mem_cons.mpr ⟨nw_m15, List.forall_mem_cons.mpr ⟨nw_m16, List.forall_mem_cons.mpr ⟨nw_m17, List.forall_mem_cons.mpr ⟨nw_m18, List.forall_mem_cons.mpr ⟨nw_m19, List.forall_mem_cons.mpr ⟨nw_m20, List.forall_mem_cons.mpr ⟨nw_m21, List.forall_mem_cons.mpr ⟨nw_m22, List.forall_mem_cons.mpr ⟨nw_m23, List.forall_mem_cons.mpr ⟨nw_m24, List.forall_mem_cons.mpr ⟨nw_m25, List.forall_mem_cons.mpr ⟨nw_m26, List.forall_mem_cons.mpr ⟨nw_m27, List.forall_mem_cons.mpr ⟨nw_m28, List.forall_mem_cons.mpr ⟨nw_m29, List.forall_mem_cons.mpr ⟨nw_m30, List.forall_mem_cons.mpr ⟨nw_m31, List.forall_mem_cons.mpr ⟨nw_m32, List.forall_mem_cons.mpr ⟨nw_m33, List.forall_mem_cons.mpr ⟨nw_m34, List.forall_mem_cons.mpr ⟨nw_m35, List.forall_mem_cons.mpr ⟨nw_m36, List.forall_mem_cons.mpr ⟨nw_m37, List.forall_mem_cons.mpr ⟨nw_m38, List.forall_mem_cons.mpr ⟨nw_m39, List.forall_mem_cons.mpr ⟨nw_m40, List.forall_mem_cons.mpr ⟨nw_m41, List.forall_mem_cons.mpr ⟨nw_m42, fun _ h => absurd h List.not_mem_nil⟩⟩⟩⟩⟩⟩⟩⟩⟩⟩⟩⟩⟩⟩⟩⟩⟩⟩⟩⟩⟩⟩⟩⟩⟩⟩⟩⟩⟩⟩⟩⟩⟩⟩⟩⟩⟩⟩⟩⟩⟩⟩⟩
set_option maxRecDepth 20000 in
theorem nF_in : ∀ q ∈ nF, Cond.fieldLinkNest q.1 q.2.1 q.2.2.1 q.2.2.2.1 q.2.2.2.2.1 q.2.2.2.2.2 ∈ lw_tbl := List.forall_mem_cons.mpr ⟨nw_f0, List.forall_mem_cons.mpr ⟨nw_f1, List.forall_mem_cons.mpr ⟨nw_f2, List.forall_mem_cons.mpr ⟨nw_f3, List.forall_mem_cons.mpr ⟨nw_f4, List.forall_mem_cons.mpr ⟨nw_f5, List.forall_mem_cons.mpr ⟨nw_f6, List.forall_mem_cons.mpr ⟨nw_f7, List.forall_mem_cons.mpr ⟨nw_f8, List.forall_mem_cons.mpr ⟨nw_f9, List.forall_mem_cons.mpr ⟨nw_f10, List.forall_mem_cons.mpr ⟨nw_f11, List.forall_mem_cons.mpr ⟨nw_f12, List.forall_mem_cons.mpr ⟨nw_f13, List.forall_mem_cons.mpr ⟨nw_f14, List.forall_mem_cons.mpr ⟨nw_f15, List.forall_mem_cons.mpr ⟨nw_f16, List.forall_mem_cons.mpr ⟨nw_f17, List.forall_mem_cons.mpr ⟨nw_f18, List.forall_mem_cons.mpr ⟨nw_f19, fun _ h => absurd h List.not_mem_nil⟩⟩⟩⟩⟩⟩⟩⟩⟩⟩⟩⟩⟩⟩⟩⟩⟩⟩⟩⟩
theorem nw_aP : Cond.arrayOver (.object "PointAnswers$Point") ∈ lw_tbl := List.mem_of_getElem? (i := 63) (by decide +kernel)
theorem nw_aB : Cond.arrayOver (.object "PointAnswers$Bundle") ∈ lw_tbl := List.mem_of_getElem? (i := 182) (by decide +kernel)
set_option maxRecDepth 100000 in
set_option maxHeartbeats 8000000 in
theorem whole_start {p : Program} {e : Env} {s : State} {m : MethodId} {below : List Frame} {meth : Method} {c : Code} (l : Launch) (hflags : l.flags = flags0) {b L : Nat} {xs : Nat → Int32} (hL : L ≤ 260) (C0 : lw_At p s m meth c b L xs) : W p l e room_1 s m #[Value.ref b] below meth c s.heap [] 0 0 (lw_Z below #[Value.ref b] s) (entryFrame m ([Value.ref b] : List Value).toArray 22) := by
  obtain ⟨hx, hb, hr, hml, hown, hts, hsx, hbl, hlk, hpre⟩ := C0
  have htw : ∀ w ∈ wT, w.before #[Value.ref b] s = true := fun w hw => hts w (wT_tbl w hw)
  obtain ⟨c0, i0, K0⟩ := u_known (C := RX0) (T := TX0) (N := 6) (n := 6) htw inX0 (htw _ tw_57)
  obtain ⟨c1, i1, K1⟩ := u_known (C := RX1) (T := TX1) (N := 2) (n := 2) htw inX1 (htw _ tw_129)
  obtain ⟨c2, i2, K2⟩ := u_known (C := RX2) (T := TX2) (N := 2) (n := 2) htw inX2 (htw _ tw_176)
  obtain ⟨c3, i3, K3⟩ := u_known (C := RX3) (T := TX3) (N := 2) (n := 2) htw inX3 (htw _ tw_143)
  obtain ⟨c4, i4, K4⟩ := u_known (C := RX4) (T := TX4) (N := 7) (n := 7) htw inX4 (htw _ tw_64)
  obtain ⟨c5, i5, K5⟩ := u_known (C := RX5) (T := TX5) (N := 6) (n := 6) htw inX5 (htw _ tw_157)
  obtain ⟨c6, i6, K6⟩ := u_known (C := RX6) (T := TX6) (N := 7) (n := 7) htw inX6 (htw _ tw_49)
  obtain ⟨D, hKc⟩ : ∃ D : va_G, ∀ (k : Nat) (q : vw_C), vwCl[k]? = some q → u_Kn s q.1 q.2.1 q.2.2 (D.1 k) (D.2 k) := by
    refine ⟨(fun k => match k with | 0 => c0 | 1 => c1 | 2 => c2 | 3 => c3 | 4 => c4 | 5 => c5 | _ => c6, fun k => match k with | 0 => i0 | 1 => i1 | 2 => i2 | 3 => i3 | 4 => i4 | 5 => i5 | _ => i6), fun k q hq => ?_⟩
    match k, hq with
    | 0, hq => cases hq; exact K0
    | 1, hq => cases hq; exact K1
    | 2, hq => cases hq; exact K2
    | 3, hq => cases hq; exact K3
    | 4, hq => cases hq; exact K4
    | 5, hq => cases hq; exact K5
    | 6, hq => cases hq; exact K6
    | k + 7, hq => simp at hq
  obtain ⟨aC, kC, pC, aC1, aC2, aC3⟩ := Cond.arrayClass_spec (htw _ tw_155)
  obtain ⟨aI, kI, pI, aI1, aI2, aI3⟩ := Cond.arrayClass_spec (htw _ tw_141)
  obtain ⟨pB, aB, kB, aB1, aB2, aB3, aB4, aB5⟩ := Cond.arrayOver_spec (hts _ nw_aB)
  obtain ⟨pP, aP, kP, aP1, aP2, aP3, aP4, aP5⟩ := Cond.arrayOver_spec (hts _ nw_aP)
  obtain ⟨cy, hcy⟩ : ∃ cy : Nat → ClassId, ∀ (k : Nat) (q : ClassId × FieldType), (tq cy)[k]? = some q → ArrOfT s q.1 q.2 ∧ va_RA s q.1 q.2 := by
    refine ⟨fun k => match k with | 0 => aC | 1 => aI | 2 => aI | 3 => aB | _ => aP, fun k q hq => ?_⟩
    match k, hq with
    | 0, hq => cases hq; exact ⟨fun n z => ⟨fun k h => (by cases h), kC, aC2, pC, aC3⟩, aC1⟩
    | 1, hq => cases hq; exact ⟨fun n z => ⟨fun k h => (by cases h), kI, aI2, pI, aI3⟩, aI1⟩
    | 2, hq => cases hq; exact ⟨fun n z => ⟨fun k h => (by cases h), kI, aI2, pI, aI3⟩, aI1⟩
    | 3, hq => cases hq; exact ⟨fun n z => ⟨fun k h => (by cases h), kB, aB3, pB, aB4⟩, kB, pB, aB3, aB4, aB1, aB5⟩
    | 4, hq => cases hq; exact ⟨fun n z => ⟨fun k h => (by cases h), kP, aP3, pP, aP4⟩, kP, pP, aP3, aP4, aP1, aP5⟩
    | k + 5, hq => simp [tq] at hq
  have hK : va_K D vwCl (tq cy) s := ⟨hKc, hcy⟩
  have hN : Nn s := ⟨fun q hq => va_Nw.of rfl (hts _ (nM_in q hq)), fun q hq => va_Nw.of rfl (hts _ (nF_in q hq))⟩
  have hAO : AOs s := ⟨va_AO.of (hts _ nw_aB), va_AO.of (hts _ nw_aP)⟩
  have hdec : ∀ i q, gi iL_law i = some q → decode c.code q.1 = .ok q.2 := by rw [hb]; exact dcd dL_law
  have hX : cOK (l, D, cy, s.heap.size) (p, e, room_1, s, m, #[Value.ref b], below, meth, c, 0, 0, lw_Z below #[Value.ref b] s, fun q : Nat => s.heap.size ≤ q) 0 iL_law 22 "PointAnswersLaw" room_1 := ⟨hx, hdec, hml, htw, hown, hK, rfl, rfl, hN, hAO, rfl⟩
  have hXv : vOK (l, D, cy, fun i => s.heap.size + i, s.heap.size, []) (p, e, room_1, s, m, #[Value.ref b], below, meth, c, 279, 2333, lw_Z below #[Value.ref b] s, fun q : Nat => s.heap.size ≤ q) iL_law 22 "PointAnswersLaw" room_1 (some .boolean) := ⟨hx, hdec, hml, htw, hown, hK, ⟨Dd0, rfl, Nat.le_refl _⟩, hN, rfl, hr, hlk, Nat.le_of_ble_eq_true rfl, Nat.le_of_ble_eq_true rfl⟩
  have hsc : scp (p, e, room_1, s, m, #[Value.ref b], below, meth, c, 279, 2333, lw_Z below #[Value.ref b] s, fun q : Nat => s.heap.size ≤ q) b L xs := ⟨hsx, hbl, Nat.not_le.mpr hbl⟩
  have hend : ∀ a9 b9 M, a9 ≤ 312 → b9 ≤ 5408 → V (l, D, cy, fun i => s.heap.size + i, s.heap.size, []) (xc (p, e, room_1, s, m, #[Value.ref b], below, meth, c, 279, 2333, lw_Z below #[Value.ref b] s, fun q : Nat => s.heap.size ≤ q) a9 b9) M 1053 [some (.ref b), some (.ref (s.heap.size + 0)), some (.ref (s.heap.size + 270)), some (.ref (s.heap.size + 271)), some (.ref (s.heap.size + 272)), some (.ref (s.heap.size + 273)), some (.ref (s.heap.size + 274)), some (.ref (s.heap.size + 275)), some (.ref (s.heap.size + 276)), some (.ref (s.heap.size + 277)), some (.ref (s.heap.size + 278)), some (.int (nI 52)), none, none, none, none, none, none, none, none, none, none] [] := fun a9 b9 M ha hb9 => by
    have hX5 := hXv.xc (a := a9) (b := b9) (by show 279 + a9 ≤ 600000; omega) (by show 2333 + b9 ≤ 7302250; omega)
    refine v_iconst hX5 (v := 1) 556 rfl (by decide) ?_
    intro H locs ls hP hS hl
    refine W.widen (show 279 + a9 ≤ 600000 by omega) (show 2333 + b9 ≤ 7302250 by omega) ?_
    refine va_forget (fun q hq => hS.2.2 q hq) ?_
    exact lw_ret hx hb hr hlk (dcd dL_law 557 (1054, .ireturn, 1) rfl)
  have key : Vc (l, D, cy, s.heap.size) (p, e, room_1, s, m, #[Value.ref b], below, meth, c, 0, 0, lw_Z below #[Value.ref b] s, fun q : Nat => s.heap.size ≤ q) 0 (fun _ => pE) 0 0 0 [some (.ref b), none, none, none, none, none, none, none, none, none, none, none, none, none, none, none, none, none, none, none, none, none] [] := by
    refine c_new hX (ci := 6) (C := RX6) (T := TX6) (N := 7) (fs := [.null, .null, .null, .null, .null, .null, .int 0]) (by omega) rfl inX6 tyX6 tyX6_ok tw_48 tw_49 tw_39 (fun j hj => by rcases (show j = 0 ∨ j = 1 ∨ j = 2 ∨ j = 3 ∨ j = 4 ∨ j = 5 ∨ j = 6 by omega) with rfl | rfl | rfl | rfl | rfl | rfl | rfl <;> rfl) (Nat.le_of_ble_eq_true rfl) (Nat.le_of_ble_eq_true rfl) 0 rfl ?_
    refine c_dup hX 1 rfl rfl ?_
    refine c_callI hX (by omega) (by omega) (c_PA eu_s) tw_52 tw_50 tw_39 tw_51 rfl ⟨by decide, by decide, by decide +kernel⟩ ⟨⟨rfl, rfl⟩, (Nat.le_of_ble_eq_true rfl), (Nat.le_of_ble_eq_true rfl)⟩ ⟨(Nat.le_of_ble_eq_true rfl), (Nat.le_of_ble_eq_true rfl)⟩ rfl (Nat.le_of_ble_eq_true rfl) 2 rfl ?_
    refine c_astore_n hX 1 3 rfl rfl (Nat.le_of_ble_eq_true rfl) rfl ?_
    refine Vc.nn (n2 := 270) (sl2 := 2136) rfl rfl ?_
    refine c_bipush hX (v := 24) 4 rfl (by decide) ?_
    refine c_newai hX (m0 := 24) (by omega) (by decide) (by decide) (by decide) (Nat.le_of_ble_eq_true rfl) (Nat.le_of_ble_eq_true rfl) 5 rfl ?_
    refine c_astore_n hX 2 6 rfl rfl (Nat.le_of_ble_eq_true rfl) rfl ?_
    refine Vc.nn (n2 := 271) (sl2 := 2160) rfl rfl ?_
    refine c_bipush hX (v := 24) 7 rfl (by decide) ?_
    refine c_newai hX (m0 := 24) (by omega) (by decide) (by decide) (by decide) (Nat.le_of_ble_eq_true rfl) (Nat.le_of_ble_eq_true rfl) 8 rfl ?_
    refine c_astore_n hX 3 9 rfl rfl (Nat.le_of_ble_eq_true rfl) rfl ?_
    refine Vc.nn (n2 := 272) (sl2 := 2184) rfl rfl ?_
    refine c_bipush hX (v := 24) 10 rfl (by decide) ?_
    refine c_newai hX (m0 := 24) (by omega) (by decide) (by decide) (by decide) (Nat.le_of_ble_eq_true rfl) (Nat.le_of_ble_eq_true rfl) 11 rfl ?_
    refine c_astore hX 12 rfl (Nat.le_of_ble_eq_true rfl) rfl ?_
    refine Vc.nn (n2 := 273) (sl2 := 2208) rfl rfl ?_
    refine c_bipush hX (v := 24) 13 rfl (by decide) ?_
    refine c_newai hX (m0 := 24) (by omega) (by decide) (by decide) (by decide) (Nat.le_of_ble_eq_true rfl) (Nat.le_of_ble_eq_true rfl) 14 rfl ?_
    refine c_astore hX 15 rfl (Nat.le_of_ble_eq_true rfl) rfl ?_
    refine Vc.nn (n2 := 274) (sl2 := 2232) rfl rfl ?_
    refine c_bipush hX (v := 24) 16 rfl (by decide) ?_
    refine c_newai hX (m0 := 24) (by omega) (by decide) (by decide) (by decide) (Nat.le_of_ble_eq_true rfl) (Nat.le_of_ble_eq_true rfl) 17 rfl ?_
    refine c_astore hX 18 rfl (Nat.le_of_ble_eq_true rfl) rfl ?_
    refine Vc.nn (n2 := 275) (sl2 := 2256) rfl rfl ?_
    refine c_bipush hX (v := 24) 19 rfl (by decide) ?_
    refine c_newai hX (m0 := 24) (by omega) (by decide) (by decide) (by decide) (Nat.le_of_ble_eq_true rfl) (Nat.le_of_ble_eq_true rfl) 20 rfl ?_
    refine c_astore hX 21 rfl (Nat.le_of_ble_eq_true rfl) rfl ?_
    refine Vc.nn (n2 := 276) (sl2 := 2280) rfl rfl ?_
    refine c_bipush hX (v := 24) 22 rfl (by decide) ?_
    refine c_newai hX (m0 := 24) (by omega) (by decide) (by decide) (by decide) (Nat.le_of_ble_eq_true rfl) (Nat.le_of_ble_eq_true rfl) 23 rfl ?_
    refine c_astore hX 24 rfl (Nat.le_of_ble_eq_true rfl) rfl ?_
    refine Vc.nn (n2 := 277) (sl2 := 2304) rfl rfl ?_
    refine c_bipush hX (v := 24) 25 rfl (by decide) ?_
    refine c_newai hX (m0 := 24) (by omega) (by decide) (by decide) (by decide) (Nat.le_of_ble_eq_true rfl) (Nat.le_of_ble_eq_true rfl) 26 rfl ?_
    refine c_astore hX 27 rfl (Nat.le_of_ble_eq_true rfl) rfl ?_
    refine Vc.nn (n2 := 278) (sl2 := 2328) rfl rfl ?_
    refine c_iconst hX (v := 5) 28 rfl (by decide) ?_
    refine c_newai hX (m0 := 5) (by omega) (by decide) (by decide) (by decide) (Nat.le_of_ble_eq_true rfl) (Nat.le_of_ble_eq_true rfl) 29 rfl ?_
    refine c_astore hX 30 rfl (Nat.le_of_ble_eq_true rfl) rfl ?_
    refine Vc.nn (n2 := 279) (sl2 := 2333) rfl rfl ?_
    refine Vc.toV (fun i hi => ?_) (Nat.le_of_ble_eq_true rfl) ?_
    · by_cases g : i < 270
      · rw [eu_n (by omega), eu_n (by omega), eu_n (by omega), eu_n (by omega), eu_n (by omega), eu_n (by omega), eu_n (by omega), eu_n (by omega), eu_n (by omega)]
      · rcases (show i = 270 ∨ i = 271 ∨ i = 272 ∨ i = 273 ∨ i = 274 ∨ i = 275 ∨ i = 276 ∨ i = 277 ∨ i = 278 by omega) with rfl | rfl | rfl | rfl | rfl | rfl | rfl | rfl | rfl <;> rfl
    refine v_aload hXv 31 rfl rfl ?_
    refine v_iconst hXv (v := 0) 32 rfl (by decide) ?_
    refine v_bipush hXv (v := 14) 33 rfl (by decide) ?_
    refine v_iasg hXv (aC_278 (Y := (l, D, cy, fun i => s.heap.size + i, s.heap.size, []))) (vp_in_nI (n := 0) (by decide) (by decide)) 34 rfl ?_
    refine v_aload hXv 35 rfl rfl ?_
    refine v_iconst hXv (v := 1) 36 rfl (by decide) ?_
    refine v_bipush hXv (v := 30) 37 rfl (by decide) ?_
    refine v_iasg hXv (aC_278 (Y := (l, D, cy, fun i => s.heap.size + i, s.heap.size, []))) (vp_in_nI (n := 1) (by decide) (by decide)) 38 rfl ?_
    refine v_iconst hXv (v := 0) 39 rfl (by decide) ?_
    refine v_istore hXv 40 rfl (Nat.le_of_ble_eq_true rfl) rfl ?_
    exact V.subM (l_law_loop (Y := (l, D, cy, fun i => s.heap.size + i, s.heap.size, [])) (X := (p, e, room_1, s, m, #[Value.ref b], below, meth, c, 279, 2333, lw_Z below #[Value.ref b] s, fun q : Nat => s.heap.size ≤ q)) (b := b) hXv rfl hsc (Nat.lt_of_le_of_lt hL (by decide)) (Nat.le_of_ble_eq_true rfl) (Nat.le_of_ble_eq_true rfl) hend 0 (Nat.zero_le _) 0 0 M1s 0 14 0 (Nat.zero_le _) (Nat.zero_le _) li_0) rfl rfl ⟨rfl, rfl, rfl, rfl, rfl, rfl, rfl, rfl, rfl, rfl, rfl, rfl, trivial⟩
  have hl := lv_entry [Value.ref b] (n := 22) (Nat.le_of_ble_eq_true rfl)
  rw [lg_entry_eq]
  exact key s.heap [] _ rfl (fun k q h => by simp [kw] at h) va_S.rf hl
