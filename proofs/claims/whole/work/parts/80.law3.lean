theorem nw_m0 : Cond.methodLinkNest "PointAnswers" 11 ⟨"PointAnswers$Bundle", "<init>", "()V"⟩ "PointAnswers" ∈ lw_tbl := List.mem_of_getElem? (i := 112) (by decide +kernel)
theorem nw_m1 : Cond.methodLinkNest "PointAnswers$Bundle" 24 ⟨"PointAnswers$Point", "<init>", "()V"⟩ "PointAnswers" ∈ lw_tbl := List.mem_of_getElem? (i := 119) (by decide +kernel)
theorem nw_m2 : Cond.methodLinkNest "PointAnswers" 18 ⟨"PointAnswers$Costs", "<init>", "()V"⟩ "PointAnswers" ∈ lw_tbl := List.mem_of_getElem? (i := 184) (by decide +kernel)
theorem nw_m3 : Cond.methodLinkNest "PointAnswers" 25 ⟨"PointAnswers$Pad", "<init>", "()V"⟩ "PointAnswers" ∈ lw_tbl := List.mem_of_getElem? (i := 198) (by decide +kernel)
theorem nw_m4 : Cond.methodLinkNest "PointAnswers" 32 ⟨"PointAnswers$Reader", "<init>", "()V"⟩ "PointAnswers" ∈ lw_tbl := List.mem_of_getElem? (i := 214) (by decide +kernel)
theorem nw_m5 : Cond.methodLinkNest "PointAnswers" 39 ⟨"PointAnswers$History", "<init>", "()V"⟩ "PointAnswers" ∈ lw_tbl := List.mem_of_getElem? (i := 243) (by decide +kernel)
theorem nw_m6 : Cond.methodLinkNest "PointAnswers$History" 17 ⟨"PointAnswers$Bundle", "<init>", "()V"⟩ "PointAnswers" ∈ lw_tbl := List.mem_of_getElem? (i := 249) (by decide +kernel)
theorem nw_m7 : Cond.methodLinkNest "PointAnswers" 48 ⟨"PointAnswers$History", "prepare", "(LPointAnswers$Bundle;)V"⟩ "PointAnswers" ∈ lw_tbl := List.mem_of_getElem? (i := 284) (by decide +kernel)
theorem nw_m8 : Cond.methodLinkNest "PointAnswers$History" 26 ⟨"PointAnswers$Bundle", "become", "(LPointAnswers$Bundle;)V"⟩ "PointAnswers" ∈ lw_tbl := List.mem_of_getElem? (i := 292) (by decide +kernel)
theorem nw_m9 : Cond.methodLinkNest "PointAnswers$Bundle" 38 ⟨"PointAnswers$Point", "become", "(LPointAnswers$Point;)V"⟩ "PointAnswers" ∈ lw_tbl := List.mem_of_getElem? (i := 300) (by decide +kernel)
theorem nw_m10 : Cond.methodLinkNest "PointAnswers" 52 ⟨"PointAnswers$Bundle", "adjust", "(II)I"⟩ "PointAnswers" ∈ lw_tbl := List.mem_of_getElem? (i := 304) (by decide +kernel)
theorem nw_m11 : Cond.methodLinkNest "PointAnswers" 56 ⟨"PointAnswers$History", "settle", "(I)I"⟩ "PointAnswers" ∈ lw_tbl := List.mem_of_getElem? (i := 308) (by decide +kernel)
theorem nw_m12 : Cond.methodLinkNest "PointAnswers" 60 ⟨"PointAnswers$Bundle", "fileClaim", "(III)I"⟩ "PointAnswers" ∈ lw_tbl := List.mem_of_getElem? (i := 320) (by decide +kernel)
theorem nw_m13 : Cond.methodLinkNest "PointAnswers" 64 ⟨"PointAnswers$Bundle", "fileAnswer", "(III)I"⟩ "PointAnswers" ∈ lw_tbl := List.mem_of_getElem? (i := 339) (by decide +kernel)
theorem nw_m14 : Cond.methodLinkNest "PointAnswers" 67 ⟨"PointAnswers$Bundle", "takeBack", "(I)I"⟩ "PointAnswers" ∈ lw_tbl := List.mem_of_getElem? (i := 347) (by decide +kernel)
theorem nw_m15 : Cond.methodLinkNest "PointAnswers$Bundle" 86 ⟨"PointAnswers", "has", "(II)Z"⟩ "PointAnswers" ∈ lw_tbl := List.mem_of_getElem? (i := 379) (by decide +kernel)
theorem nw_m16 : Cond.methodLinkNest "PointAnswers" 70 ⟨"PointAnswers$Bundle", "prolong", "(I)I"⟩ "PointAnswers" ∈ lw_tbl := List.mem_of_getElem? (i := 396) (by decide +kernel)
theorem nw_m17 : Cond.methodLinkNest "PointAnswers" 73 ⟨"PointAnswers$Bundle", "turnCase", "(I)I"⟩ "PointAnswers" ∈ lw_tbl := List.mem_of_getElem? (i := 404) (by decide +kernel)
theorem nw_m18 : Cond.methodLinkNest "PointAnswers" 76 ⟨"PointAnswers$Bundle", "moveOn", "(I)I"⟩ "PointAnswers" ∈ lw_tbl := List.mem_of_getElem? (i := 412) (by decide +kernel)
theorem nw_m19 : Cond.methodLinkNest "PointAnswers" 79 ⟨"PointAnswers$Bundle", "find", "(I)LPointAnswers$Point;"⟩ "PointAnswers" ∈ lw_tbl := List.mem_of_getElem? (i := 420) (by decide +kernel)
theorem nw_m20 : Cond.methodLinkNest "PointAnswers" 101 ⟨"PointAnswers$Bundle", "standing", "()I"⟩ "PointAnswers" ∈ lw_tbl := List.mem_of_getElem? (i := 421) (by decide +kernel)
theorem nw_m21 : Cond.methodLinkNest "PointAnswers" 109 ⟨"PointAnswers$Bundle", "reasonAgainst", "(I)I"⟩ "PointAnswers" ∈ lw_tbl := List.mem_of_getElem? (i := 423) (by decide +kernel)
theorem nw_m22 : Cond.methodLinkNest "PointAnswers" 112 ⟨"PointAnswers$Bundle", "answersTo", "(I)I"⟩ "PointAnswers" ∈ lw_tbl := List.mem_of_getElem? (i := 427) (by decide +kernel)
theorem nw_m23 : Cond.methodLinkNest "PointAnswers" 118 ⟨"PointAnswers$Bundle", "depthOf", "(I)I"⟩ "PointAnswers" ∈ lw_tbl := List.mem_of_getElem? (i := 434) (by decide +kernel)
theorem nw_m24 : Cond.methodLinkNest "PointAnswers" 121 ⟨"PointAnswers$Bundle", "daysLeft", "(LPointAnswers$Point;)I"⟩ "PointAnswers" ∈ lw_tbl := List.mem_of_getElem? (i := 438) (by decide +kernel)
theorem nw_m25 : Cond.methodLinkNest "PointAnswers" 131 ⟨"PointAnswers$Bundle", "claims", "()I"⟩ "PointAnswers" ∈ lw_tbl := List.mem_of_getElem? (i := 446) (by decide +kernel)
theorem nw_m26 : Cond.methodLinkNest "PointAnswers" 139 ⟨"PointAnswers$Bundle", "out", "()I"⟩ "PointAnswers" ∈ lw_tbl := List.mem_of_getElem? (i := 452) (by decide +kernel)
theorem nw_m27 : Cond.methodLinkNest "PointAnswers" 142 ⟨"PointAnswers$Bundle", "answered", "()I"⟩ "PointAnswers" ∈ lw_tbl := List.mem_of_getElem? (i := 453) (by decide +kernel)
theorem nw_m28 : Cond.methodLinkNest "PointAnswers" 145 ⟨"PointAnswers$Bundle", "withdrawn", "()I"⟩ "PointAnswers" ∈ lw_tbl := List.mem_of_getElem? (i := 461) (by decide +kernel)
theorem nw_m29 : Cond.methodLinkNest "PointAnswers" 148 ⟨"PointAnswers$Bundle", "struck", "()I"⟩ "PointAnswers" ∈ lw_tbl := List.mem_of_getElem? (i := 462) (by decide +kernel)
theorem nw_m30 : Cond.methodLinkNest "PointAnswers" 151 ⟨"PointAnswers$Bundle", "pagesOf", "(II)I"⟩ "PointAnswers" ∈ lw_tbl := List.mem_of_getElem? (i := 463) (by decide +kernel)
theorem nw_m31 : Cond.methodLinkNest "PointAnswers" 169 ⟨"PointAnswers$Bundle", "ofSide", "(I)I"⟩ "PointAnswers" ∈ lw_tbl := List.mem_of_getElem? (i := 471) (by decide +kernel)
theorem nw_m32 : Cond.methodLinkNest "PointAnswers" 175 ⟨"PointAnswers$Costs", "weigh", "(LPointAnswers$Bundle;)V"⟩ "PointAnswers" ∈ lw_tbl := List.mem_of_getElem? (i := 488) (by decide +kernel)
theorem nw_m33 : Cond.methodLinkNest "PointAnswers$Costs" 18 ⟨"PointAnswers$Bundle", "out", "()I"⟩ "PointAnswers" ∈ lw_tbl := List.mem_of_getElem? (i := 492) (by decide +kernel)
theorem nw_m34 : Cond.methodLinkNest "PointAnswers$Costs" 24 ⟨"PointAnswers$Bundle", "withoutAnswers", "()I"⟩ "PointAnswers" ∈ lw_tbl := List.mem_of_getElem? (i := 493) (by decide +kernel)
theorem nw_m35 : Cond.methodLinkNest "PointAnswers$Costs" 33 ⟨"PointAnswers$Bundle", "find", "(I)LPointAnswers$Point;"⟩ "PointAnswers" ∈ lw_tbl := List.mem_of_getElem? (i := 500) (by decide +kernel)
theorem nw_m36 : Cond.methodLinkNest "PointAnswers$Costs" 37 ⟨"PointAnswers", "has", "(II)Z"⟩ "PointAnswers" ∈ lw_tbl := List.mem_of_getElem? (i := 501) (by decide +kernel)
theorem nw_m37 : Cond.methodLinkNest "PointAnswers" 178 ⟨"PointAnswers$Costs", "answersToFall", "(I)I"⟩ "PointAnswers" ∈ lw_tbl := List.mem_of_getElem? (i := 506) (by decide +kernel)
theorem nw_m38 : Cond.methodLinkNest "PointAnswers" 181 ⟨"PointAnswers$Costs", "answersToStand", "(I)I"⟩ "PointAnswers" ∈ lw_tbl := List.mem_of_getElem? (i := 517) (by decide +kernel)
theorem nw_m39 : Cond.methodLinkNest "PointAnswers" 184 ⟨"PointAnswers$Bundle", "standingIf", "(II)I"⟩ "PointAnswers" ∈ lw_tbl := List.mem_of_getElem? (i := 525) (by decide +kernel)
theorem nw_m40 : Cond.methodLinkNest "PointAnswers" 187 ⟨"PointAnswers$Bundle", "withoutAnswers", "()I"⟩ "PointAnswers" ∈ lw_tbl := List.mem_of_getElem? (i := 526) (by decide +kernel)
theorem nw_m41 : Cond.methodLinkNest "PointAnswers" 190 ⟨"PointAnswers$Bundle", "baseless", "()I"⟩ "PointAnswers" ∈ lw_tbl := List.mem_of_getElem? (i := 531) (by decide +kernel)
theorem nw_m42 : Cond.methodLinkNest "PointAnswers" 193 ⟨"PointAnswers$Bundle", "lapsedOn", "(I)I"⟩ "PointAnswers" ∈ lw_tbl := List.mem_of_getElem? (i := 532) (by decide +kernel)
theorem nw_m43 : Cond.methodLinkNest "PointAnswers" 201 ⟨"PointAnswers$Pad", "signsIn", "(J)I"⟩ "PointAnswers" ∈ lw_tbl := List.mem_of_getElem? (i := 544) (by decide +kernel)
theorem nw_m44 : Cond.methodLinkNest "PointAnswers" 205 ⟨"PointAnswers$Pad", "signOf", "(JI)C"⟩ "PointAnswers" ∈ lw_tbl := List.mem_of_getElem? (i := 551) (by decide +kernel)
theorem nw_m45 : Cond.methodLinkNest "PointAnswers" 209 ⟨"PointAnswers$Pad", "append", "(C)V"⟩ "PointAnswers" ∈ lw_tbl := List.mem_of_getElem? (i := 552) (by decide +kernel)
theorem nw_m46 : Cond.methodLinkNest "PointAnswers" 213 ⟨"PointAnswers$Pad", "empty", "()I"⟩ "PointAnswers" ∈ lw_tbl := List.mem_of_getElem? (i := 560) (by decide +kernel)
theorem nw_m47 : Cond.methodLinkNest "PointAnswers" 216 ⟨"PointAnswers$Reader", "firstFault", "(LPointAnswers$Pad;)I"⟩ "PointAnswers" ∈ lw_tbl := List.mem_of_getElem? (i := 568) (by decide +kernel)
theorem nw_m48 : Cond.methodLinkNest "PointAnswers$Reader" 31 ⟨"PointAnswers$Pad", "signAt", "(I)C"⟩ "PointAnswers" ∈ lw_tbl := List.mem_of_getElem? (i := 580) (by decide +kernel)
theorem nw_m49 : Cond.methodLinkNest "PointAnswers" 220 ⟨"PointAnswers$Reader", "rewind", "()V"⟩ "PointAnswers" ∈ lw_tbl := List.mem_of_getElem? (i := 612) (by decide +kernel)
theorem nw_m50 : Cond.methodLinkNest "PointAnswers" 223 ⟨"PointAnswers$Reader", "readOrder", "(LPointAnswers$Pad;)Z"⟩ "PointAnswers" ∈ lw_tbl := List.mem_of_getElem? (i := 613) (by decide +kernel)
theorem nw_m51 : Cond.methodLinkNest "PointAnswers" 230 ⟨"PointAnswers$Reader", "take", "(LPointAnswers$Pad;C)Z"⟩ "PointAnswers" ∈ lw_tbl := List.mem_of_getElem? (i := 618) (by decide +kernel)
theorem nw_m52 : Cond.methodLinkNest "PointAnswers" 234 ⟨"PointAnswers$History", "bringBack", "(LPointAnswers$Bundle;)I"⟩ "PointAnswers" ∈ lw_tbl := List.mem_of_getElem? (i := 623) (by decide +kernel)
theorem nw_m53 : Cond.methodLinkNest "PointAnswers" 242 ⟨"PointAnswers$Bundle", "become", "(LPointAnswers$Bundle;)V"⟩ "PointAnswers" ∈ lw_tbl := List.mem_of_getElem? (i := 635) (by decide +kernel)
theorem nw_f0 : Cond.fieldLinkNest "PointAnswers$Bundle" 58 "PointAnswers$Point" "side" "I" "PointAnswers" ∈ lw_tbl := List.mem_of_getElem? (i := 124) (by decide +kernel)
theorem nw_f1 : Cond.fieldLinkNest "PointAnswers" 83 "PointAnswers$Point" "side" "I" "PointAnswers" ∈ lw_tbl := List.mem_of_getElem? (i := 125) (by decide +kernel)
theorem nw_f2 : Cond.fieldLinkNest "PointAnswers$Bundle" 61 "PointAnswers$Point" "pages" "I" "PointAnswers" ∈ lw_tbl := List.mem_of_getElem? (i := 127) (by decide +kernel)
theorem nw_f3 : Cond.fieldLinkNest "PointAnswers" 89 "PointAnswers$Point" "pages" "I" "PointAnswers" ∈ lw_tbl := List.mem_of_getElem? (i := 128) (by decide +kernel)
theorem nw_f4 : Cond.fieldLinkNest "PointAnswers$Bundle" 64 "PointAnswers$Point" "cases" "I" "PointAnswers" ∈ lw_tbl := List.mem_of_getElem? (i := 130) (by decide +kernel)
theorem nw_f5 : Cond.fieldLinkNest "PointAnswers" 98 "PointAnswers$Point" "cases" "I" "PointAnswers" ∈ lw_tbl := List.mem_of_getElem? (i := 131) (by decide +kernel)
theorem nw_f6 : Cond.fieldLinkNest "PointAnswers$Costs" 41 "PointAnswers$Point" "target" "I" "PointAnswers" ∈ lw_tbl := List.mem_of_getElem? (i := 133) (by decide +kernel)
theorem nw_f7 : Cond.fieldLinkNest "PointAnswers$Bundle" 67 "PointAnswers$Point" "target" "I" "PointAnswers" ∈ lw_tbl := List.mem_of_getElem? (i := 134) (by decide +kernel)
theorem nw_f8 : Cond.fieldLinkNest "PointAnswers" 95 "PointAnswers$Point" "target" "I" "PointAnswers" ∈ lw_tbl := List.mem_of_getElem? (i := 135) (by decide +kernel)
theorem nw_f9 : Cond.fieldLinkNest "PointAnswers$Bundle" 70 "PointAnswers$Point" "filed" "I" "PointAnswers" ∈ lw_tbl := List.mem_of_getElem? (i := 137) (by decide +kernel)
theorem nw_f10 : Cond.fieldLinkNest "PointAnswers" 92 "PointAnswers$Point" "filed" "I" "PointAnswers" ∈ lw_tbl := List.mem_of_getElem? (i := 138) (by decide +kernel)
theorem nw_f11 : Cond.fieldLinkNest "PointAnswers$Bundle" 73 "PointAnswers$Point" "lastsFrom" "I" "PointAnswers" ∈ lw_tbl := List.mem_of_getElem? (i := 140) (by decide +kernel)
theorem nw_f12 : Cond.fieldLinkNest "PointAnswers$Bundle" 54 "PointAnswers$Point" "withdrawn" "Z" "PointAnswers" ∈ lw_tbl := List.mem_of_getElem? (i := 142) (by decide +kernel)
theorem nw_f13 : Cond.fieldLinkNest "PointAnswers" 128 "PointAnswers$Bundle" "size" "I" "PointAnswers" ∈ lw_tbl := List.mem_of_getElem? (i := 160) (by decide +kernel)
theorem nw_f14 : Cond.fieldLinkNest "PointAnswers" 125 "PointAnswers$Bundle" "day" "I" "PointAnswers" ∈ lw_tbl := List.mem_of_getElem? (i := 162) (by decide +kernel)
theorem nw_f15 : Cond.fieldLinkNest "PointAnswers" 154 "PointAnswers$Bundle" "overruled" "I" "PointAnswers" ∈ lw_tbl := List.mem_of_getElem? (i := 164) (by decide +kernel)
theorem nw_f16 : Cond.fieldLinkNest "PointAnswers" 157 "PointAnswers$Bundle" "lapse" "I" "PointAnswers" ∈ lw_tbl := List.mem_of_getElem? (i := 166) (by decide +kernel)
theorem nw_f17 : Cond.fieldLinkNest "PointAnswers" 160 "PointAnswers$Bundle" "allowedPages" "I" "PointAnswers" ∈ lw_tbl := List.mem_of_getElem? (i := 168) (by decide +kernel)
theorem nw_f18 : Cond.fieldLinkNest "PointAnswers$Reader" 22 "PointAnswers$Pad" "length" "I" "PointAnswers" ∈ lw_tbl := List.mem_of_getElem? (i := 204) (by decide +kernel)
theorem nw_f19 : Cond.fieldLinkNest "PointAnswers" 163 "PointAnswers$Pad" "length" "I" "PointAnswers" ∈ lw_tbl := List.mem_of_getElem? (i := 205) (by decide +kernel)
theorem nw_f20 : Cond.fieldLinkNest "PointAnswers" 248 "PointAnswers$Reader" "kind" "C" "PointAnswers" ∈ lw_tbl := List.mem_of_getElem? (i := 221) (by decide +kernel)
theorem nw_f21 : Cond.fieldLinkNest "PointAnswers" 252 "PointAnswers$Reader" "number" "I" "PointAnswers" ∈ lw_tbl := List.mem_of_getElem? (i := 223) (by decide +kernel)
theorem nw_f22 : Cond.fieldLinkNest "PointAnswers" 255 "PointAnswers$Reader" "pages" "I" "PointAnswers" ∈ lw_tbl := List.mem_of_getElem? (i := 225) (by decide +kernel)
theorem nw_f23 : Cond.fieldLinkNest "PointAnswers" 256 "PointAnswers$Reader" "cases" "I" "PointAnswers" ∈ lw_tbl := List.mem_of_getElem? (i := 227) (by decide +kernel)
theorem nw_f24 : Cond.fieldLinkNest "PointAnswers" 166 "PointAnswers$History" "kept" "I" "PointAnswers" ∈ lw_tbl := List.mem_of_getElem? (i := 252) (by decide +kernel)
set_option maxRecDepth 20000 in
theorem nM_in : ∀ q ∈ nM, Cond.methodLinkNest q.1 q.2.1 q.2.2.1 q.2.2.2 ∈ lw_tbl := List.forall_mem_cons.mpr ⟨nw_m0, List.forall_mem_cons.mpr ⟨nw_m1, List.forall_mem_cons.mpr ⟨nw_m2, List.forall_mem_cons.mpr ⟨nw_m3, List.forall_mem_cons.mpr ⟨nw_m4, List.forall_mem_cons.mpr ⟨nw_m5, List.forall_mem_cons.mpr ⟨nw_m6, List.forall_mem_cons.mpr ⟨nw_m7, List.forall_mem_cons.mpr ⟨nw_m8, List.forall_mem_cons.mpr ⟨nw_m9, List.forall_mem_cons.mpr ⟨nw_m10, List.forall_mem_cons.mpr ⟨nw_m11, List.forall_mem_cons.mpr ⟨nw_m12, List.forall_mem_cons.mpr ⟨nw_m13, List.forall_mem_cons.mpr ⟨nw_m14, List.forall_mem_cons.mpr ⟨nw_m15, List.forall_mem_cons.mpr ⟨nw_m16, List.forall_mem_cons.mpr ⟨nw_m17, List.forall_mem_cons.mpr ⟨nw_m18, List.forall_mem_cons.mpr ⟨nw_m19, List.forall_mem_cons.mpr ⟨nw_m20, List.forall_mem_cons.mpr ⟨nw_m21, List.forall_mem_cons.mpr ⟨nw_m22, List.forall_mem_cons.mpr ⟨nw_m23, List.forall_mem_cons.mpr ⟨nw_m24, List.forall_mem_cons.mpr ⟨nw_m25, List.forall_mem_cons.mpr ⟨nw_m26, List.forall_mem_cons.mpr ⟨nw_m27, List.forall_mem_cons.mpr ⟨nw_m28, List.forall_mem_cons.mpr ⟨nw_m29, List.forall_mem_cons.mpr ⟨nw_m30, List.forall_mem_cons.mpr ⟨nw_m31, List.forall_mem_cons.mpr ⟨nw_m32, List.forall_mem_cons.mpr ⟨nw_m33, List.forall_mem_cons.mpr ⟨nw_m34, List.forall_mem_cons.mpr ⟨nw_m35, List.forall_mem_cons.mpr ⟨nw_m36, List.forall_mem_cons.mpr ⟨nw_m37, List.forall_mem_cons.mpr ⟨nw_m38, List.forall_mem_cons.mpr ⟨nw_m39, List.forall_mem_cons.mpr ⟨nw_m40, List.forall_mem_cons.mpr ⟨nw_m41, List.forall_mem_cons.mpr ⟨nw_m42, List.forall_mem_cons.mpr ⟨nw_m43, List.forall_mem_cons.mpr ⟨nw_m44, List.forall_mem_cons.mpr ⟨nw_m45, List.forall_mem_cons.mpr ⟨nw_m46, List.forall_mem_cons.mpr ⟨nw_m47, List.forall_mem_cons.mpr ⟨nw_m48, List.forall_mem_cons.mpr ⟨nw_m49, List.forall_mem_cons.mpr ⟨nw_m50, List.forall_mem_cons.mpr ⟨nw_m51, List.forall_mem_cons.mpr ⟨nw_m52, List.forall_mem_cons.mpr ⟨nw_m53, fun _ h => absurd h List.not_mem_nil⟩⟩⟩⟩⟩⟩⟩⟩⟩⟩⟩⟩⟩⟩⟩⟩⟩⟩⟩⟩⟩⟩⟩⟩⟩⟩⟩⟩⟩⟩⟩⟩⟩⟩⟩⟩⟩⟩⟩⟩⟩⟩⟩⟩⟩⟩⟩⟩⟩⟩⟩⟩⟩⟩
set_option maxRecDepth 20000 in
theorem nF_in : ∀ q ∈ nF, Cond.fieldLinkNest q.1 q.2.1 q.2.2.1 q.2.2.2.1 q.2.2.2.2.1 q.2.2.2.2.2 ∈ lw_tbl := List.forall_mem_cons.mpr ⟨nw_f0, List.forall_mem_cons.mpr ⟨nw_f1, List.forall_mem_cons.mpr ⟨nw_f2, List.forall_mem_cons.mpr ⟨nw_f3, List.forall_mem_cons.mpr ⟨nw_f4, List.forall_mem_cons.mpr ⟨nw_f5, List.forall_mem_cons.mpr ⟨nw_f6, List.forall_mem_cons.mpr ⟨nw_f7, List.forall_mem_cons.mpr ⟨nw_f8, List.forall_mem_cons.mpr ⟨nw_f9, List.forall_mem_cons.mpr ⟨nw_f10, List.forall_mem_cons.mpr ⟨nw_f11, List.forall_mem_cons.mpr ⟨nw_f12, List.forall_mem_cons.mpr ⟨nw_f13, List.forall_mem_cons.mpr ⟨nw_f14, List.forall_mem_cons.mpr ⟨nw_f15, List.forall_mem_cons.mpr ⟨nw_f16, List.forall_mem_cons.mpr ⟨nw_f17, List.forall_mem_cons.mpr ⟨nw_f18, List.forall_mem_cons.mpr ⟨nw_f19, List.forall_mem_cons.mpr ⟨nw_f20, List.forall_mem_cons.mpr ⟨nw_f21, List.forall_mem_cons.mpr ⟨nw_f22, List.forall_mem_cons.mpr ⟨nw_f23, List.forall_mem_cons.mpr ⟨nw_f24, fun _ h => absurd h List.not_mem_nil⟩⟩⟩⟩⟩⟩⟩⟩⟩⟩⟩⟩⟩⟩⟩⟩⟩⟩⟩⟩⟩⟩⟩⟩⟩
theorem nw_aP : Cond.arrayOver (.object "PointAnswers$Point") ∈ lw_tbl := List.mem_of_getElem? (i := 117) (by decide +kernel)
theorem nw_aB : Cond.arrayOver (.object "PointAnswers$Bundle") ∈ lw_tbl := List.mem_of_getElem? (i := 248) (by decide +kernel)
theorem gt4 {L i : Nat} (hL : L ≤ 2048) (hi : i ≤ 2048) (c : ¬ nI L - 4 < nI i) : i + 4 ≤ L := by
  rcases Nat.lt_or_ge L 4 with g | g
  · exfalso
    refine c ?_
    have h : ∀ L, L < 4 → (nI L - 4).toInt < 0 := by decide
    rw [Int32.lt_iff_toInt_lt, nI_toInt (show i < 2 ^ 31 by omega)]
    have := h L g
    omega
  · rcases Nat.lt_or_ge i (L - 3) with q | q
    · omega
    · exfalso
      refine c ?_
      rw [show (4 : Int32) = nI 4 from rfl, nI_sub g]
      exact nI_lt (by omega) (by omega)
set_option maxRecDepth 100000 in
set_option maxHeartbeats 4000000 in
theorem law_loop {Y : Yt} {X : XT} {b L : Nat} {xs : Nat → Int32} (hX : vOK Y X iL_law 4 "PointAnswersLaw" room_1 (some .boolean)) (hs : sc X b L xs) (hL : L ≤ 2048) (hend : ∀ M Ls, V Y X M 706 Ls [.int 1]) : ∀ (f i : Nat) (M : Mm), i ≤ L → L - i < f → Sim M → V Y X M 18 [some (.ref b), some (.ref (Y.2.2.2 0)), some (.ref (Y.2.2.2 270)), some (.int (nI i))] [] := by
  intro f
  induction f with
  | zero => intro i M _ h; omega
  | succ f ih =>
    intro i M hi hf h
    refine v_iload_n hX 3 10 rfl rfl rfl ?_
    refine v_aload_n hX 0 11 rfl rfl rfl ?_
    refine v_slen hX hs 12 rfl ?_
    refine v_iconst hX (v := 4) 13 rfl (by decide) ?_
    refine v_isub hX 14 rfl ?_
    refine v_icmp_gt hX (tgt := 705) 15 rfl (by decide) (fun c => ?_) (fun c => ?_)
    · refine v_iconst hX (v := 1) 439 rfl (by decide) ?_
      exact hend M _
    · have hi4 : i + 4 ≤ L := gt4 hL (by omega) c
      have step : ∀ M2, Sim M2 → V Y X M2 699 [some (.ref b), some (.ref (Y.2.2.2 0)), some (.ref (Y.2.2.2 270)), some (.int (nI i))] [] := fun M2 h2 => by
        refine v_iinc hX (v := nI (i + 4)) 437 rfl rfl (nI_add i 4) (Nat.le_of_ble_eq_true rfl) rfl ?_
        refine v_goto hX (tgt := 18) 438 rfl (by decide) ?_
        exact ih (i + 4) M2 (by omega) (by omega) h2
      refine v_aload_n hX 0 16 rfl rfl rfl ?_
      refine v_iload_n hX 3 17 rfl rfl rfl ?_
      refine v_sld hX hs (vp_in_nI (by omega) (by omega)) 18 rfl ?_
      refine v_bipush hX (v := 31) 19 rfl (by decide) ?_
      refine v_iand hX 20 rfl ?_
      rcases sw_cases (xs (nI i).toNatClampNeg &&& 31) 23 (by decide) with ⟨j, hj, e⟩ | g
      · rw [e]
        rcases (show j = 0 ∨ j = 1 ∨ j = 2 ∨ j = 3 ∨ j = 4 ∨ j = 5 ∨ j = 6 ∨ j = 7 ∨ j = 8 ∨ j = 9 ∨ j = 10 ∨ j = 11 ∨ j = 12 ∨ j = 13 ∨ j = 14 ∨ j = 15 ∨ j = 16 ∨ j = 17 ∨ j = 18 ∨ j = 19 ∨ j = 20 ∨ j = 21 ∨ j = 22 by omega) with rfl | rfl | rfl | rfl | rfl | rfl | rfl | rfl | rfl | rfl | rfl | rfl | rfl | rfl | rfl | rfl | rfl | rfl | rfl | rfl | rfl | rfl | rfl
        · exact v_tableIn hX (off := 108) (tgt := 140) 21 rfl (by decide) (by decide) (by decide) (by decide) (l_0 hX hs hL hi4 h step)
        · exact v_tableIn hX (off := 141) (tgt := 173) 21 rfl (by decide) (by decide) (by decide) (by decide) (l_1 hX hs hL hi4 h step)
        · exact v_tableIn hX (off := 184) (tgt := 216) 21 rfl (by decide) (by decide) (by decide) (by decide) (l_2 hX hs hL hi4 h step)
        · exact v_tableIn hX (off := 227) (tgt := 259) 21 rfl (by decide) (by decide) (by decide) (by decide) (l_3 hX hs hL hi4 h step)
        · exact v_tableIn hX (off := 250) (tgt := 282) 21 rfl (by decide) (by decide) (by decide) (by decide) (l_4 hX hs hL hi4 h step)
        · exact v_tableIn hX (off := 273) (tgt := 305) 21 rfl (by decide) (by decide) (by decide) (by decide) (l_5 hX hs hL hi4 h step)
        · exact v_tableIn hX (off := 296) (tgt := 328) 21 rfl (by decide) (by decide) (by decide) (by decide) (l_6 hX hs hL hi4 h step)
        · exact v_tableIn hX (off := 319) (tgt := 351) 21 rfl (by decide) (by decide) (by decide) (by decide) (l_7 hX hs hL hi4 h step)
        · exact v_tableIn hX (off := 352) (tgt := 384) 21 rfl (by decide) (by decide) (by decide) (by decide) (l_8 hX hs hL hi4 h step)
        · exact v_tableIn hX (off := 375) (tgt := 407) 21 rfl (by decide) (by decide) (by decide) (by decide) (l_9 hX hs hL hi4 h step)
        · exact v_tableIn hX (off := 398) (tgt := 430) 21 rfl (by decide) (by decide) (by decide) (by decide) (l_10 hX hs hL hi4 h step)
        · exact v_tableIn hX (off := 421) (tgt := 453) 21 rfl (by decide) (by decide) (by decide) (by decide) (l_11 hX hs hL hi4 h step)
        · exact v_tableIn hX (off := 444) (tgt := 476) 21 rfl (by decide) (by decide) (by decide) (by decide) (l_12 hX hs hL hi4 h step)
        · exact v_tableIn hX (off := 467) (tgt := 499) 21 rfl (by decide) (by decide) (by decide) (by decide) (l_13 hX hs hL hi4 h step)
        · exact v_tableIn hX (off := 490) (tgt := 522) 21 rfl (by decide) (by decide) (by decide) (by decide) (l_14 hX hs hL hi4 h step)
        · exact v_tableIn hX (off := 503) (tgt := 535) 21 rfl (by decide) (by decide) (by decide) (by decide) (l_15 hX hs hL hi4 h step)
        · exact v_tableIn hX (off := 516) (tgt := 548) 21 rfl (by decide) (by decide) (by decide) (by decide) (l_16 hX hs hL hi4 h step)
        · exact v_tableIn hX (off := 569) (tgt := 601) 21 rfl (by decide) (by decide) (by decide) (by decide) (l_17 hX hs hL hi4 h step)
        · exact v_tableIn hX (off := 582) (tgt := 614) 21 rfl (by decide) (by decide) (by decide) (by decide) (l_18 hX hs hL hi4 h step)
        · exact v_tableIn hX (off := 595) (tgt := 627) 21 rfl (by decide) (by decide) (by decide) (by decide) (l_19 hX hs hL hi4 h step)
        · exact v_tableIn hX (off := 608) (tgt := 640) 21 rfl (by decide) (by decide) (by decide) (by decide) (l_20 hX hs hL hi4 h step)
        · exact v_tableIn hX (off := 621) (tgt := 653) 21 rfl (by decide) (by decide) (by decide) (by decide) (l_21 hX hs hL hi4 h step)
        · exact v_tableIn hX (off := 644) (tgt := 676) 21 rfl (by decide) (by decide) (by decide) (by decide) (l_22 hX hs hL hi4 h step)
      · exact v_tableOut hX (tgt := 699) 21 rfl (by omega) (by decide) (step M h)
set_option maxRecDepth 100000 in
set_option maxHeartbeats 8000000 in
theorem whole_start {p : Program} {e : Env} {s : State} {m : MethodId} {below : List Frame} {meth : Method} {c : Code} (l : Launch) (hflags : l.flags = flags0) {b L : Nat} {xs : Nat → Int32} (hL : L ≤ 2048) (C0 : lw_At p s m meth c b L xs) : W p l e room_1 s m #[Value.ref b] below meth c s.heap [] 0 0 (lw_Z below #[Value.ref b] s) (entryFrame m ([Value.ref b] : List Value).toArray 4) := by
  obtain ⟨hx, hb, hr, hml, hown, hts, hsx, hbl, hlk, hpre⟩ := C0
  have htw : ∀ w ∈ wT, w.before #[Value.ref b] s = true := fun w hw => hts w (wT_tbl w hw)
  obtain ⟨c0, i0, K0⟩ := u_known (C := RX0) (T := TX0) (N := 6) (n := 6) htw inX0 (htw _ tw_111)
  obtain ⟨c1, i1, K1⟩ := u_known (C := RX1) (T := TX1) (N := 2) (n := 2) htw inX1 (htw _ tw_183)
  obtain ⟨c2, i2, K2⟩ := u_known (C := RX2) (T := TX2) (N := 2) (n := 2) htw inX2 (htw _ tw_242)
  obtain ⟨c3, i3, K3⟩ := u_known (C := RX3) (T := TX3) (N := 2) (n := 2) htw inX3 (htw _ tw_197)
  obtain ⟨c4, i4, K4⟩ := u_known (C := RX4) (T := TX4) (N := 7) (n := 7) htw inX4 (htw _ tw_118)
  obtain ⟨c5, i5, K5⟩ := u_known (C := RX5) (T := TX5) (N := 6) (n := 6) htw inX5 (htw _ tw_213)
  obtain ⟨c6, i6, K6⟩ := u_known (C := RX6) (T := TX6) (N := 7) (n := 7) htw inX6 (htw _ tw_103)
  obtain ⟨c7, i7, K7⟩ := u_known (C := RX7) (T := TX7) (N := 15) (n := 15) htw inX7 (htw _ tw_641)
  obtain ⟨D, hKc⟩ : ∃ D : va_G, ∀ (k : Nat) (q : vw_C), vwCl[k]? = some q → u_Kn s q.1 q.2.1 q.2.2 (D.1 k) (D.2 k) := by
    refine ⟨(fun k => match k with | 0 => c0 | 1 => c1 | 2 => c2 | 3 => c3 | 4 => c4 | 5 => c5 | 6 => c6 | _ => c7, fun k => match k with | 0 => i0 | 1 => i1 | 2 => i2 | 3 => i3 | 4 => i4 | 5 => i5 | 6 => i6 | _ => i7), fun k q hq => ?_⟩
    match k, hq with
    | 0, hq => cases hq; exact K0
    | 1, hq => cases hq; exact K1
    | 2, hq => cases hq; exact K2
    | 3, hq => cases hq; exact K3
    | 4, hq => cases hq; exact K4
    | 5, hq => cases hq; exact K5
    | 6, hq => cases hq; exact K6
    | 7, hq => cases hq; exact K7
    | k + 8, hq => simp at hq
  obtain ⟨aC, kC, pC, aC1, aC2, aC3⟩ := Cond.arrayClass_spec (htw _ tw_211)
  obtain ⟨aI, kI, pI, aI1, aI2, aI3⟩ := Cond.arrayClass_spec (htw _ tw_195)
  obtain ⟨aZ, kZ, pZ, aZ1, aZ2, aZ3⟩ := Cond.arrayClass_spec (htw _ tw_692)
  obtain ⟨pB, aB, kB, aB1, aB2, aB3, aB4, aB5⟩ := Cond.arrayOver_spec (hts _ nw_aB)
  obtain ⟨pP, aP, kP, aP1, aP2, aP3, aP4, aP5⟩ := Cond.arrayOver_spec (hts _ nw_aP)
  obtain ⟨cy, hcy⟩ : ∃ cy : Nat → ClassId, ∀ (k : Nat) (q : ClassId × FieldType), (tq cy)[k]? = some q → ArrOfT s q.1 q.2 ∧ va_RA s q.1 q.2 := by
    refine ⟨fun k => match k with | 0 => aC | 1 => aI | 2 => aZ | 3 => aB | _ => aP, fun k q hq => ?_⟩
    match k, hq with
    | 0, hq => cases hq; exact ⟨fun n z => ⟨fun k h => (by cases h), kC, aC2, pC, aC3⟩, aC1⟩
    | 1, hq => cases hq; exact ⟨fun n z => ⟨fun k h => (by cases h), kI, aI2, pI, aI3⟩, aI1⟩
    | 2, hq => cases hq; exact ⟨fun n z => ⟨fun k h => (by cases h), kZ, aZ2, pZ, aZ3⟩, aZ1⟩
    | 3, hq => cases hq; exact ⟨fun n z => ⟨fun k h => (by cases h), kB, aB3, pB, aB4⟩, kB, pB, aB3, aB4, aB1, aB5⟩
    | 4, hq => cases hq; exact ⟨fun n z => ⟨fun k h => (by cases h), kP, aP3, pP, aP4⟩, kP, pP, aP3, aP4, aP1, aP5⟩
    | k + 5, hq => simp [tq] at hq
  have hK : va_K D vwCl (tq cy) s := ⟨hKc, hcy⟩
  have hN : Nn s := ⟨fun q hq => va_Nw.of rfl (hts _ (nM_in q hq)), fun q hq => va_Nw.of rfl (hts _ (nF_in q hq))⟩
  have hAO : AOs s := ⟨va_AO.of (hts _ nw_aB), va_AO.of (hts _ nw_aP)⟩
  have hdec : ∀ i q, gi iL_law i = some q → decode c.code q.1 = .ok q.2 := by rw [hb]; exact dcd dL_law
  have hX : cOK (l, D, cy, s.heap.size) (p, e, room_1, s, m, #[Value.ref b], below, meth, c, 0, 0, lw_Z below #[Value.ref b] s, fun q : Nat => s.heap.size ≤ q) 0 iL_law 4 "PointAnswersLaw" room_1 := ⟨hx, hdec, hml, htw, hown, hK, rfl, rfl, hN, hAO, rfl⟩
  have hXv : vOK (l, D, cy, fun i => s.heap.size + i) (p, e, room_1, s, m, #[Value.ref b], below, meth, c, 600000, 7302250, lw_Z below #[Value.ref b] s, fun q : Nat => s.heap.size ≤ q) iL_law 4 "PointAnswersLaw" room_1 (some .boolean) := ⟨hx, hdec, hml, htw, hown, hK, ⟨fun i j _ _ e => Nat.add_left_cancel e, fun k _ => Nat.le_add_right _ k⟩, hN, rfl, hr, hlk, Nat.le_refl _, Nat.le_refl _⟩
  have hsc : sc (p, e, room_1, s, m, #[Value.ref b], below, meth, c, 600000, 7302250, lw_Z below #[Value.ref b] s, fun q : Nat => s.heap.size ≤ q) b L xs := ⟨hsx, hbl, Nat.not_le.mpr hbl⟩
  have hend : ∀ M Ls, V (l, D, cy, fun i => s.heap.size + i) (p, e, room_1, s, m, #[Value.ref b], below, meth, c, 600000, 7302250, lw_Z below #[Value.ref b] s, fun q : Nat => s.heap.size ≤ q) M 706 Ls [.int 1] := fun M Ls => by
    intro H locs ls hP hS hl
    refine va_forget (fun q hq => hS.2.2 q hq) ?_
    exact lw_ret (d0 := s.drawn) (Drawn.sameBut.refl s.drawn lw_cs) hx hb hr hlk (dcd dL_law 440 (706, .ireturn, 1) rfl)
  have key : Vc (l, D, cy, s.heap.size) (p, e, room_1, s, m, #[Value.ref b], below, meth, c, 0, 0, lw_Z below #[Value.ref b] s, fun q : Nat => s.heap.size ≤ q) 0 (fun _ => pE) 0 0 0 [some (.ref b), none, none, none] [] := by
    refine c_new hX (ci := 6) (C := RX6) (T := TX6) (N := 7) (fs := [.null, .null, .null, .null, .null, .null, .int 0]) (by omega) rfl inX6 tyX6 tyX6_ok tw_102 tw_103 tw_92 (fun j hj => by rcases (show j = 0 ∨ j = 1 ∨ j = 2 ∨ j = 3 ∨ j = 4 ∨ j = 5 ∨ j = 6 by omega) with rfl | rfl | rfl | rfl | rfl | rfl | rfl <;> rfl) (Nat.le_of_ble_eq_true rfl) (Nat.le_of_ble_eq_true rfl) 0 rfl ?_
    refine c_dup hX 1 rfl rfl ?_
    refine c_callI hX (by omega) (by omega) (c_PA eu_s) tw_106 tw_104 tw_92 tw_105 rfl ⟨by decide, by decide, by decide +kernel⟩ ⟨⟨rfl, rfl⟩, (Nat.le_of_ble_eq_true rfl), (Nat.le_of_ble_eq_true rfl)⟩ ⟨(Nat.le_of_ble_eq_true rfl), (Nat.le_of_ble_eq_true rfl)⟩ rfl (Nat.le_of_ble_eq_true rfl) 2 rfl ?_
    refine c_astore_n hX 1 3 rfl rfl (Nat.le_of_ble_eq_true rfl) rfl ?_
    refine Vc.nn (n2 := 270) (sl2 := 2136) rfl rfl ?_
    refine c_new hX (ci := 7) (C := RX7) (T := TX7) (N := 15) (fs := [.null, .null, .null, .null, .int 0, .null, .int 0, .null, .null, .null, .null, .null, .int 0, .int 0, .int 0]) (by omega) rfl inX7 tyX7 tyX7_ok tw_640 tw_641 tw_99 (fun j hj => by rcases (show j = 0 ∨ j = 1 ∨ j = 2 ∨ j = 3 ∨ j = 4 ∨ j = 5 ∨ j = 6 ∨ j = 7 ∨ j = 8 ∨ j = 9 ∨ j = 10 ∨ j = 11 ∨ j = 12 ∨ j = 13 ∨ j = 14 by omega) with rfl | rfl | rfl | rfl | rfl | rfl | rfl | rfl | rfl | rfl | rfl | rfl | rfl | rfl | rfl <;> rfl) (Nat.le_of_ble_eq_true rfl) (Nat.le_of_ble_eq_true rfl) 4 rfl ?_
    refine c_dup hX 5 rfl rfl ?_
    refine c_callI hX (by omega) (by omega) (c_Model eu_s) tw_644 tw_642 tw_99 tw_643 rfl ⟨by decide, by decide, by decide +kernel⟩ ⟨⟨rfl, rfl⟩, (Nat.le_of_ble_eq_true rfl), (Nat.le_of_ble_eq_true rfl)⟩ ⟨(Nat.le_of_ble_eq_true rfl), (Nat.le_of_ble_eq_true rfl)⟩ rfl (Nat.le_of_ble_eq_true rfl) 6 rfl ?_
    refine c_astore_n hX 2 7 rfl rfl (Nat.le_of_ble_eq_true rfl) rfl ?_
    refine c_iconst hX (v := 0) 8 rfl (by decide) ?_
    refine c_istore_n hX 3 9 rfl rfl (Nat.le_of_ble_eq_true rfl) rfl ?_
    refine Vc.nn (n2 := 281) (sl2 := 3976) rfl rfl ?_
    refine Vc.toV (fun i hi => ?_) (Nat.le_of_ble_eq_true rfl) (law_loop (Y := (l, D, cy, fun i => s.heap.size + i)) hXv hsc hL hend (L + 1) 0 M0 (Nat.zero_le _) (by omega) sim0)
    unfold mE
    by_cases g : i < 270
    · rw [if_pos g, eu_n (by omega)]
    · rw [if_neg g]
  have hl := lv_entry [Value.ref b] (n := 4) (Nat.le_of_ble_eq_true rfl)
  rw [lg_entry_eq]
  exact key s.heap [] _ rfl (fun k q h => by simp [kw] at h) va_S.rf hl
