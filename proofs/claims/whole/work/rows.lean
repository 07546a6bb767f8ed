section
def lw_okq (q : MethodName × Nat) : Prop := (q.1.cls ≠ "java/lang/invoke/MethodHandle" ∧ q.1.cls ≠ "java/lang/invoke/VarHandle") ∧ Cond.instantiable q.1.cls q.2 ∈ tables_1 ∧ Cond.privateMethod q.1 ∈ tables_1 ∧ Cond.instanceMethod q.1 ∈ tables_1
theorem lw_p0 : lw_okq (⟨"PointAnswers$History", "prepare", "(LPointAnswers$Bundle;)V"⟩, 2) := ⟨⟨by decide +kernel, by decide +kernel⟩, List.mem_of_getElem? (i := 151) (by decide +kernel), List.mem_of_getElem? (i := 194) (by decide +kernel), List.mem_of_getElem? (i := 195) (by decide +kernel)⟩
theorem lw_p1 : lw_okq (⟨"PointAnswers$History", "rowAt", "(I)LPointAnswers$Bundle;"⟩, 2) := ⟨⟨by decide +kernel, by decide +kernel⟩, List.mem_of_getElem? (i := 151) (by decide +kernel), List.mem_of_getElem? (i := 198) (by decide +kernel), List.mem_of_getElem? (i := 199) (by decide +kernel)⟩
theorem lw_p2 : lw_okq (⟨"PointAnswers$Bundle", "become", "(LPointAnswers$Bundle;)V"⟩, 6) := ⟨⟨by decide +kernel, by decide +kernel⟩, List.mem_of_getElem? (i := 20) (by decide +kernel), List.mem_of_getElem? (i := 202) (by decide +kernel), List.mem_of_getElem? (i := 203) (by decide +kernel)⟩
theorem lw_p3 : lw_okq (⟨"PointAnswers$Bundle", "find", "(I)LPointAnswers$Point;"⟩, 6) := ⟨⟨by decide +kernel, by decide +kernel⟩, List.mem_of_getElem? (i := 20) (by decide +kernel), List.mem_of_getElem? (i := 206) (by decide +kernel), List.mem_of_getElem? (i := 207) (by decide +kernel)⟩
theorem lw_p4 : lw_okq (⟨"PointAnswers$Point", "become", "(LPointAnswers$Point;)V"⟩, 7) := ⟨⟨by decide +kernel, by decide +kernel⟩, List.mem_of_getElem? (i := 27) (by decide +kernel), List.mem_of_getElem? (i := 210) (by decide +kernel), List.mem_of_getElem? (i := 211) (by decide +kernel)⟩
theorem lw_p5 : lw_okq (⟨"PointAnswers$Bundle", "adjust", "(II)I"⟩, 6) := ⟨⟨by decide +kernel, by decide +kernel⟩, List.mem_of_getElem? (i := 20) (by decide +kernel), List.mem_of_getElem? (i := 214) (by decide +kernel), List.mem_of_getElem? (i := 215) (by decide +kernel)⟩
theorem lw_p6 : lw_okq (⟨"PointAnswers$History", "settle", "(I)I"⟩, 2) := ⟨⟨by decide +kernel, by decide +kernel⟩, List.mem_of_getElem? (i := 151) (by decide +kernel), List.mem_of_getElem? (i := 218) (by decide +kernel), List.mem_of_getElem? (i := 219) (by decide +kernel)⟩
theorem lw_p7 : lw_okq (⟨"PointAnswers$History", "dropOldest", "()V"⟩, 2) := ⟨⟨by decide +kernel, by decide +kernel⟩, List.mem_of_getElem? (i := 151) (by decide +kernel), List.mem_of_getElem? (i := 222) (by decide +kernel), List.mem_of_getElem? (i := 223) (by decide +kernel)⟩
theorem lw_p8 : lw_okq (⟨"PointAnswers$Bundle", "fileClaim", "(III)I"⟩, 6) := ⟨⟨by decide +kernel, by decide +kernel⟩, List.mem_of_getElem? (i := 20) (by decide +kernel), List.mem_of_getElem? (i := 230) (by decide +kernel), List.mem_of_getElem? (i := 231) (by decide +kernel)⟩
theorem lw_p9 : lw_okq (⟨"PointAnswers$Bundle", "file", "(IIII)I"⟩, 6) := ⟨⟨by decide +kernel, by decide +kernel⟩, List.mem_of_getElem? (i := 20) (by decide +kernel), List.mem_of_getElem? (i := 237) (by decide +kernel), List.mem_of_getElem? (i := 238) (by decide +kernel)⟩
theorem lw_p10 : lw_okq (⟨"PointAnswers$Bundle", "freeRow", "()LPointAnswers$Point;"⟩, 6) := ⟨⟨by decide +kernel, by decide +kernel⟩, List.mem_of_getElem? (i := 20) (by decide +kernel), List.mem_of_getElem? (i := 241) (by decide +kernel), List.mem_of_getElem? (i := 242) (by decide +kernel)⟩
theorem lw_p11 : lw_okq (⟨"PointAnswers$Bundle", "fileAnswer", "(III)I"⟩, 6) := ⟨⟨by decide +kernel, by decide +kernel⟩, List.mem_of_getElem? (i := 20) (by decide +kernel), List.mem_of_getElem? (i := 249) (by decide +kernel), List.mem_of_getElem? (i := 250) (by decide +kernel)⟩
theorem lw_p12 : lw_okq (⟨"PointAnswers$Bundle", "takeBack", "(I)I"⟩, 6) := ⟨⟨by decide +kernel, by decide +kernel⟩, List.mem_of_getElem? (i := 20) (by decide +kernel), List.mem_of_getElem? (i := 257) (by decide +kernel), List.mem_of_getElem? (i := 258) (by decide +kernel)⟩
theorem lw_p13 : lw_okq (⟨"PointAnswers$Bundle", "standing", "()I"⟩, 6) := ⟨⟨by decide +kernel, by decide +kernel⟩, List.mem_of_getElem? (i := 20) (by decide +kernel), List.mem_of_getElem? (i := 261) (by decide +kernel), List.mem_of_getElem? (i := 262) (by decide +kernel)⟩
theorem lw_p14 : lw_okq (⟨"PointAnswers$Bundle", "out", "()I"⟩, 6) := ⟨⟨by decide +kernel, by decide +kernel⟩, List.mem_of_getElem? (i := 20) (by decide +kernel), List.mem_of_getElem? (i := 265) (by decide +kernel), List.mem_of_getElem? (i := 266) (by decide +kernel)⟩
theorem lw_p15 : lw_okq (⟨"PointAnswers$Bundle", "withdrawn", "()I"⟩, 6) := ⟨⟨by decide +kernel, by decide +kernel⟩, List.mem_of_getElem? (i := 20) (by decide +kernel), List.mem_of_getElem? (i := 269) (by decide +kernel), List.mem_of_getElem? (i := 270) (by decide +kernel)⟩
def lw_privs_1 : List (MethodName × Nat) := [(⟨"PointAnswers$History", "prepare", "(LPointAnswers$Bundle;)V"⟩, 2), (⟨"PointAnswers$History", "rowAt", "(I)LPointAnswers$Bundle;"⟩, 2), (⟨"PointAnswers$Bundle", "become", "(LPointAnswers$Bundle;)V"⟩, 6), (⟨"PointAnswers$Bundle", "find", "(I)LPointAnswers$Point;"⟩, 6), (⟨"PointAnswers$Point", "become", "(LPointAnswers$Point;)V"⟩, 7), (⟨"PointAnswers$Bundle", "adjust", "(II)I"⟩, 6), (⟨"PointAnswers$History", "settle", "(I)I"⟩, 2), (⟨"PointAnswers$History", "dropOldest", "()V"⟩, 2), (⟨"PointAnswers$Bundle", "fileClaim", "(III)I"⟩, 6), (⟨"PointAnswers$Bundle", "file", "(IIII)I"⟩, 6), (⟨"PointAnswers$Bundle", "freeRow", "()LPointAnswers$Point;"⟩, 6), (⟨"PointAnswers$Bundle", "fileAnswer", "(III)I"⟩, 6), (⟨"PointAnswers$Bundle", "takeBack", "(I)I"⟩, 6), (⟨"PointAnswers$Bundle", "standing", "()I"⟩, 6), (⟨"PointAnswers$Bundle", "out", "()I"⟩, 6), (⟨"PointAnswers$Bundle", "withdrawn", "()I"⟩, 6)]
theorem lw_r1 : ∀ q ∈ lw_privs_1, lw_okq q := List.forall_mem_cons.mpr ⟨lw_p0, List.forall_mem_cons.mpr ⟨lw_p1, List.forall_mem_cons.mpr ⟨lw_p2, List.forall_mem_cons.mpr ⟨lw_p3, List.forall_mem_cons.mpr ⟨lw_p4, List.forall_mem_cons.mpr ⟨lw_p5, List.forall_mem_cons.mpr ⟨lw_p6, List.forall_mem_cons.mpr ⟨lw_p7, List.forall_mem_cons.mpr ⟨lw_p8, List.forall_mem_cons.mpr ⟨lw_p9, List.forall_mem_cons.mpr ⟨lw_p10, List.forall_mem_cons.mpr ⟨lw_p11, List.forall_mem_cons.mpr ⟨lw_p12, List.forall_mem_cons.mpr ⟨lw_p13, List.forall_mem_cons.mpr ⟨lw_p14, List.forall_mem_cons.mpr ⟨lw_p15, fun _ h => absurd h List.not_mem_nil⟩⟩⟩⟩⟩⟩⟩⟩⟩⟩⟩⟩⟩⟩⟩⟩
theorem lw_p16 : lw_okq (⟨"PointAnswers$Bundle", "struck", "()I"⟩, 6) := ⟨⟨by decide +kernel, by decide +kernel⟩, List.mem_of_getElem? (i := 20) (by decide +kernel), List.mem_of_getElem? (i := 273) (by decide +kernel), List.mem_of_getElem? (i := 274) (by decide +kernel)⟩
theorem lw_p17 : lw_okq (⟨"PointAnswers$Bundle", "lapsedOn", "(I)I"⟩, 6) := ⟨⟨by decide +kernel, by decide +kernel⟩, List.mem_of_getElem? (i := 20) (by decide +kernel), List.mem_of_getElem? (i := 277) (by decide +kernel), List.mem_of_getElem? (i := 278) (by decide +kernel)⟩
theorem lw_p18 : lw_okq (⟨"PointAnswers$Bundle", "baseless", "()I"⟩, 6) := ⟨⟨by decide +kernel, by decide +kernel⟩, List.mem_of_getElem? (i := 20) (by decide +kernel), List.mem_of_getElem? (i := 281) (by decide +kernel), List.mem_of_getElem? (i := 282) (by decide +kernel)⟩
theorem lw_p19 : lw_okq (⟨"PointAnswers$Bundle", "standingIf", "(II)I"⟩, 6) := ⟨⟨by decide +kernel, by decide +kernel⟩, List.mem_of_getElem? (i := 20) (by decide +kernel), List.mem_of_getElem? (i := 285) (by decide +kernel), List.mem_of_getElem? (i := 286) (by decide +kernel)⟩
theorem lw_p20 : lw_okq (⟨"PointAnswers$Bundle", "targetOf", "(I)I"⟩, 6) := ⟨⟨by decide +kernel, by decide +kernel⟩, List.mem_of_getElem? (i := 20) (by decide +kernel), List.mem_of_getElem? (i := 292) (by decide +kernel), List.mem_of_getElem? (i := 293) (by decide +kernel)⟩
theorem lw_p21 : lw_okq (⟨"PointAnswers$Bundle", "prolong", "(I)I"⟩, 6) := ⟨⟨by decide +kernel, by decide +kernel⟩, List.mem_of_getElem? (i := 20) (by decide +kernel), List.mem_of_getElem? (i := 306) (by decide +kernel), List.mem_of_getElem? (i := 307) (by decide +kernel)⟩
theorem lw_p22 : lw_okq (⟨"PointAnswers$Bundle", "turnCase", "(I)I"⟩, 6) := ⟨⟨by decide +kernel, by decide +kernel⟩, List.mem_of_getElem? (i := 20) (by decide +kernel), List.mem_of_getElem? (i := 314) (by decide +kernel), List.mem_of_getElem? (i := 315) (by decide +kernel)⟩
theorem lw_p23 : lw_okq (⟨"PointAnswers$Bundle", "moveOn", "(I)I"⟩, 6) := ⟨⟨by decide +kernel, by decide +kernel⟩, List.mem_of_getElem? (i := 20) (by decide +kernel), List.mem_of_getElem? (i := 322) (by decide +kernel), List.mem_of_getElem? (i := 323) (by decide +kernel)⟩
theorem lw_p24 : lw_okq (⟨"PointAnswers$Bundle", "reasonAgainst", "(I)I"⟩, 6) := ⟨⟨by decide +kernel, by decide +kernel⟩, List.mem_of_getElem? (i := 20) (by decide +kernel), List.mem_of_getElem? (i := 333) (by decide +kernel), List.mem_of_getElem? (i := 334) (by decide +kernel)⟩
theorem lw_p25 : lw_okq (⟨"PointAnswers$Bundle", "answersTo", "(I)I"⟩, 6) := ⟨⟨by decide +kernel, by decide +kernel⟩, List.mem_of_getElem? (i := 20) (by decide +kernel), List.mem_of_getElem? (i := 337) (by decide +kernel), List.mem_of_getElem? (i := 338) (by decide +kernel)⟩
theorem lw_p26 : lw_okq (⟨"PointAnswers$Bundle", "depthOf", "(I)I"⟩, 6) := ⟨⟨by decide +kernel, by decide +kernel⟩, List.mem_of_getElem? (i := 20) (by decide +kernel), List.mem_of_getElem? (i := 344) (by decide +kernel), List.mem_of_getElem? (i := 345) (by decide +kernel)⟩
theorem lw_p27 : lw_okq (⟨"PointAnswers$Bundle", "daysLeft", "(LPointAnswers$Point;)I"⟩, 6) := ⟨⟨by decide +kernel, by decide +kernel⟩, List.mem_of_getElem? (i := 20) (by decide +kernel), List.mem_of_getElem? (i := 348) (by decide +kernel), List.mem_of_getElem? (i := 349) (by decide +kernel)⟩
theorem lw_p28 : lw_okq (⟨"PointAnswers$Bundle", "claims", "()I"⟩, 6) := ⟨⟨by decide +kernel, by decide +kernel⟩, List.mem_of_getElem? (i := 20) (by decide +kernel), List.mem_of_getElem? (i := 356) (by decide +kernel), List.mem_of_getElem? (i := 357) (by decide +kernel)⟩
theorem lw_p29 : lw_okq (⟨"PointAnswers$Bundle", "answered", "()I"⟩, 6) := ⟨⟨by decide +kernel, by decide +kernel⟩, List.mem_of_getElem? (i := 20) (by decide +kernel), List.mem_of_getElem? (i := 363) (by decide +kernel), List.mem_of_getElem? (i := 364) (by decide +kernel)⟩
theorem lw_p30 : lw_okq (⟨"PointAnswers$Bundle", "all", "()I"⟩, 6) := ⟨⟨by decide +kernel, by decide +kernel⟩, List.mem_of_getElem? (i := 20) (by decide +kernel), List.mem_of_getElem? (i := 367) (by decide +kernel), List.mem_of_getElem? (i := 368) (by decide +kernel)⟩
theorem lw_p31 : lw_okq (⟨"PointAnswers$Bundle", "pagesOf", "(II)I"⟩, 6) := ⟨⟨by decide +kernel, by decide +kernel⟩, List.mem_of_getElem? (i := 20) (by decide +kernel), List.mem_of_getElem? (i := 373) (by decide +kernel), List.mem_of_getElem? (i := 374) (by decide +kernel)⟩
def lw_privs_2 : List (MethodName × Nat) := [(⟨"PointAnswers$Bundle", "struck", "()I"⟩, 6), (⟨"PointAnswers$Bundle", "lapsedOn", "(I)I"⟩, 6), (⟨"PointAnswers$Bundle", "baseless", "()I"⟩, 6), (⟨"PointAnswers$Bundle", "standingIf", "(II)I"⟩, 6), (⟨"PointAnswers$Bundle", "targetOf", "(I)I"⟩, 6), (⟨"PointAnswers$Bundle", "prolong", "(I)I"⟩, 6), (⟨"PointAnswers$Bundle", "turnCase", "(I)I"⟩, 6), (⟨"PointAnswers$Bundle", "moveOn", "(I)I"⟩, 6), (⟨"PointAnswers$Bundle", "reasonAgainst", "(I)I"⟩, 6), (⟨"PointAnswers$Bundle", "answersTo", "(I)I"⟩, 6), (⟨"PointAnswers$Bundle", "depthOf", "(I)I"⟩, 6), (⟨"PointAnswers$Bundle", "daysLeft", "(LPointAnswers$Point;)I"⟩, 6), (⟨"PointAnswers$Bundle", "claims", "()I"⟩, 6), (⟨"PointAnswers$Bundle", "answered", "()I"⟩, 6), (⟨"PointAnswers$Bundle", "all", "()I"⟩, 6), (⟨"PointAnswers$Bundle", "pagesOf", "(II)I"⟩, 6)]
theorem lw_r2 : ∀ q ∈ lw_privs_2, lw_okq q := List.forall_mem_cons.mpr ⟨lw_p16, List.forall_mem_cons.mpr ⟨lw_p17, List.forall_mem_cons.mpr ⟨lw_p18, List.forall_mem_cons.mpr ⟨lw_p19, List.forall_mem_cons.mpr ⟨lw_p20, List.forall_mem_cons.mpr ⟨lw_p21, List.forall_mem_cons.mpr ⟨lw_p22, List.forall_mem_cons.mpr ⟨lw_p23, List.forall_mem_cons.mpr ⟨lw_p24, List.forall_mem_cons.mpr ⟨lw_p25, List.forall_mem_cons.mpr ⟨lw_p26, List.forall_mem_cons.mpr ⟨lw_p27, List.forall_mem_cons.mpr ⟨lw_p28, List.forall_mem_cons.mpr ⟨lw_p29, List.forall_mem_cons.mpr ⟨lw_p30, List.forall_mem_cons.mpr ⟨lw_p31, fun _ h => absurd h List.not_mem_nil⟩⟩⟩⟩⟩⟩⟩⟩⟩⟩⟩⟩⟩⟩⟩⟩
theorem lw_p32 : lw_okq (⟨"PointAnswers$Bundle", "ofSide", "(I)I"⟩, 6) := ⟨⟨by decide +kernel, by decide +kernel⟩, List.mem_of_getElem? (i := 20) (by decide +kernel), List.mem_of_getElem? (i := 381) (by decide +kernel), List.mem_of_getElem? (i := 382) (by decide +kernel)⟩
theorem lw_p33 : lw_okq (⟨"PointAnswers$Costs", "weigh", "(LPointAnswers$Bundle;)V"⟩, 2) := ⟨⟨by decide +kernel, by decide +kernel⟩, List.mem_of_getElem? (i := 92) (by decide +kernel), List.mem_of_getElem? (i := 398) (by decide +kernel), List.mem_of_getElem? (i := 399) (by decide +kernel)⟩
theorem lw_p34 : lw_okq (⟨"PointAnswers$Bundle", "withoutAnswers", "()I"⟩, 6) := ⟨⟨by decide +kernel, by decide +kernel⟩, List.mem_of_getElem? (i := 20) (by decide +kernel), List.mem_of_getElem? (i := 403) (by decide +kernel), List.mem_of_getElem? (i := 404) (by decide +kernel)⟩
theorem lw_p35 : lw_okq (⟨"PointAnswers$Costs", "addToTarget", "(III)V"⟩, 2) := ⟨⟨by decide +kernel, by decide +kernel⟩, List.mem_of_getElem? (i := 92) (by decide +kernel), List.mem_of_getElem? (i := 409) (by decide +kernel), List.mem_of_getElem? (i := 410) (by decide +kernel)⟩
theorem lw_p36 : lw_okq (⟨"PointAnswers$Costs", "answersToFall", "(I)I"⟩, 2) := ⟨⟨by decide +kernel, by decide +kernel⟩, List.mem_of_getElem? (i := 92) (by decide +kernel), List.mem_of_getElem? (i := 416) (by decide +kernel), List.mem_of_getElem? (i := 417) (by decide +kernel)⟩
theorem lw_p37 : lw_okq (⟨"PointAnswers$Costs", "answersToStand", "(I)I"⟩, 2) := ⟨⟨by decide +kernel, by decide +kernel⟩, List.mem_of_getElem? (i := 92) (by decide +kernel), List.mem_of_getElem? (i := 427) (by decide +kernel), List.mem_of_getElem? (i := 428) (by decide +kernel)⟩
theorem lw_p38 : lw_okq (⟨"PointAnswers$Pad", "append", "(C)V"⟩, 2) := ⟨⟨by decide +kernel, by decide +kernel⟩, List.mem_of_getElem? (i := 106) (by decide +kernel), List.mem_of_getElem? (i := 462) (by decide +kernel), List.mem_of_getElem? (i := 463) (by decide +kernel)⟩
theorem lw_p39 : lw_okq (⟨"PointAnswers$Pad", "empty", "()I"⟩, 2) := ⟨⟨by decide +kernel, by decide +kernel⟩, List.mem_of_getElem? (i := 106) (by decide +kernel), List.mem_of_getElem? (i := 470) (by decide +kernel), List.mem_of_getElem? (i := 471) (by decide +kernel)⟩
theorem lw_p40 : lw_okq (⟨"PointAnswers$Reader", "firstFault", "(LPointAnswers$Pad;)I"⟩, 6) := ⟨⟨by decide +kernel, by decide +kernel⟩, List.mem_of_getElem? (i := 122) (by decide +kernel), List.mem_of_getElem? (i := 478) (by decide +kernel), List.mem_of_getElem? (i := 479) (by decide +kernel)⟩
theorem lw_p41 : lw_okq (⟨"PointAnswers$Reader", "rewind", "()V"⟩, 6) := ⟨⟨by decide +kernel, by decide +kernel⟩, List.mem_of_getElem? (i := 122) (by decide +kernel), List.mem_of_getElem? (i := 482) (by decide +kernel), List.mem_of_getElem? (i := 483) (by decide +kernel)⟩
theorem lw_p42 : lw_okq (⟨"PointAnswers$Reader", "readOrder", "(LPointAnswers$Pad;)Z"⟩, 6) := ⟨⟨by decide +kernel, by decide +kernel⟩, List.mem_of_getElem? (i := 122) (by decide +kernel), List.mem_of_getElem? (i := 486) (by decide +kernel), List.mem_of_getElem? (i := 487) (by decide +kernel)⟩
theorem lw_p43 : lw_okq (⟨"PointAnswers$Pad", "signAt", "(I)C"⟩, 2) := ⟨⟨by decide +kernel, by decide +kernel⟩, List.mem_of_getElem? (i := 106) (by decide +kernel), List.mem_of_getElem? (i := 490) (by decide +kernel), List.mem_of_getElem? (i := 491) (by decide +kernel)⟩
theorem lw_p44 : lw_okq (⟨"PointAnswers$Reader", "readDigit", "(LPointAnswers$Pad;CC)Z"⟩, 6) := ⟨⟨by decide +kernel, by decide +kernel⟩, List.mem_of_getElem? (i := 122) (by decide +kernel), List.mem_of_getElem? (i := 494) (by decide +kernel), List.mem_of_getElem? (i := 495) (by decide +kernel)⟩
theorem lw_p45 : lw_okq (⟨"PointAnswers$Reader", "takeDigit", "(LPointAnswers$Pad;CC)Z"⟩, 6) := ⟨⟨by decide +kernel, by decide +kernel⟩, List.mem_of_getElem? (i := 122) (by decide +kernel), List.mem_of_getElem? (i := 498) (by decide +kernel), List.mem_of_getElem? (i := 499) (by decide +kernel)⟩
theorem lw_p46 : lw_okq (⟨"PointAnswers$Reader", "readPaper", "(LPointAnswers$Pad;)Z"⟩, 6) := ⟨⟨by decide +kernel, by decide +kernel⟩, List.mem_of_getElem? (i := 122) (by decide +kernel), List.mem_of_getElem? (i := 502) (by decide +kernel), List.mem_of_getElem? (i := 503) (by decide +kernel)⟩
theorem lw_p47 : lw_okq (⟨"PointAnswers$Reader", "take", "(LPointAnswers$Pad;C)Z"⟩, 6) := ⟨⟨by decide +kernel, by decide +kernel⟩, List.mem_of_getElem? (i := 122) (by decide +kernel), List.mem_of_getElem? (i := 506) (by decide +kernel), List.mem_of_getElem? (i := 507) (by decide +kernel)⟩
def lw_privs_3 : List (MethodName × Nat) := [(⟨"PointAnswers$Bundle", "ofSide", "(I)I"⟩, 6), (⟨"PointAnswers$Costs", "weigh", "(LPointAnswers$Bundle;)V"⟩, 2), (⟨"PointAnswers$Bundle", "withoutAnswers", "()I"⟩, 6), (⟨"PointAnswers$Costs", "addToTarget", "(III)V"⟩, 2), (⟨"PointAnswers$Costs", "answersToFall", "(I)I"⟩, 2), (⟨"PointAnswers$Costs", "answersToStand", "(I)I"⟩, 2), (⟨"PointAnswers$Pad", "append", "(C)V"⟩, 2), (⟨"PointAnswers$Pad", "empty", "()I"⟩, 2), (⟨"PointAnswers$Reader", "firstFault", "(LPointAnswers$Pad;)I"⟩, 6), (⟨"PointAnswers$Reader", "rewind", "()V"⟩, 6), (⟨"PointAnswers$Reader", "readOrder", "(LPointAnswers$Pad;)Z"⟩, 6), (⟨"PointAnswers$Pad", "signAt", "(I)C"⟩, 2), (⟨"PointAnswers$Reader", "readDigit", "(LPointAnswers$Pad;CC)Z"⟩, 6), (⟨"PointAnswers$Reader", "takeDigit", "(LPointAnswers$Pad;CC)Z"⟩, 6), (⟨"PointAnswers$Reader", "readPaper", "(LPointAnswers$Pad;)Z"⟩, 6), (⟨"PointAnswers$Reader", "take", "(LPointAnswers$Pad;C)Z"⟩, 6)]
theorem lw_r3 : ∀ q ∈ lw_privs_3, lw_okq q := List.forall_mem_cons.mpr ⟨lw_p32, List.forall_mem_cons.mpr ⟨lw_p33, List.forall_mem_cons.mpr ⟨lw_p34, List.forall_mem_cons.mpr ⟨lw_p35, List.forall_mem_cons.mpr ⟨lw_p36, List.forall_mem_cons.mpr ⟨lw_p37, List.forall_mem_cons.mpr ⟨lw_p38, List.forall_mem_cons.mpr ⟨lw_p39, List.forall_mem_cons.mpr ⟨lw_p40, List.forall_mem_cons.mpr ⟨lw_p41, List.forall_mem_cons.mpr ⟨lw_p42, List.forall_mem_cons.mpr ⟨lw_p43, List.forall_mem_cons.mpr ⟨lw_p44, List.forall_mem_cons.mpr ⟨lw_p45, List.forall_mem_cons.mpr ⟨lw_p46, List.forall_mem_cons.mpr ⟨lw_p47, fun _ h => absurd h List.not_mem_nil⟩⟩⟩⟩⟩⟩⟩⟩⟩⟩⟩⟩⟩⟩⟩⟩
theorem lw_p48 : lw_okq (⟨"PointAnswers$Reader", "readCites", "(LPointAnswers$Pad;)Z"⟩, 6) := ⟨⟨by decide +kernel, by decide +kernel⟩, List.mem_of_getElem? (i := 122) (by decide +kernel), List.mem_of_getElem? (i := 510) (by decide +kernel), List.mem_of_getElem? (i := 511) (by decide +kernel)⟩
theorem lw_p49 : lw_okq (⟨"PointAnswers$Reader", "readNumber", "(LPointAnswers$Pad;)Z"⟩, 6) := ⟨⟨by decide +kernel, by decide +kernel⟩, List.mem_of_getElem? (i := 122) (by decide +kernel), List.mem_of_getElem? (i := 514) (by decide +kernel), List.mem_of_getElem? (i := 515) (by decide +kernel)⟩
theorem lw_p50 : lw_okq (⟨"PointAnswers", "follow", "()I"⟩, 7) := ⟨⟨by decide +kernel, by decide +kernel⟩, List.mem_of_getElem? (i := 12) (by decide +kernel), List.mem_of_getElem? (i := 524) (by decide +kernel), List.mem_of_getElem? (i := 525) (by decide +kernel)⟩
theorem lw_p51 : lw_okq (⟨"PointAnswers$History", "bringBack", "(LPointAnswers$Bundle;)I"⟩, 2) := ⟨⟨by decide +kernel, by decide +kernel⟩, List.mem_of_getElem? (i := 151) (by decide +kernel), List.mem_of_getElem? (i := 533) (by decide +kernel), List.mem_of_getElem? (i := 534) (by decide +kernel)⟩
theorem lw_p52 : lw_okq (⟨"PointAnswers", "slotRow", "(I)LPointAnswers$Bundle;"⟩, 7) := ⟨⟨by decide +kernel, by decide +kernel⟩, List.mem_of_getElem? (i := 12) (by decide +kernel), List.mem_of_getElem? (i := 541) (by decide +kernel), List.mem_of_getElem? (i := 542) (by decide +kernel)⟩
theorem lw_p53 : lw_okq (⟨"PointAnswersModel", "record", "()V"⟩, 15) := ⟨⟨by decide +kernel, by decide +kernel⟩, List.mem_of_getElem? (i := 550) (by decide +kernel), List.mem_of_getElem? (i := 618) (by decide +kernel), List.mem_of_getElem? (i := 619) (by decide +kernel)⟩
theorem lw_p54 : lw_okq (⟨"PointAnswersModel", "whyNotClaim", "(III)I"⟩, 15) := ⟨⟨by decide +kernel, by decide +kernel⟩, List.mem_of_getElem? (i := 550) (by decide +kernel), List.mem_of_getElem? (i := 633) (by decide +kernel), List.mem_of_getElem? (i := 634) (by decide +kernel)⟩
theorem lw_p55 : lw_okq (⟨"PointAnswersModel", "file", "(IIII)I"⟩, 15) := ⟨⟨by decide +kernel, by decide +kernel⟩, List.mem_of_getElem? (i := 550) (by decide +kernel), List.mem_of_getElem? (i := 640) (by decide +kernel), List.mem_of_getElem? (i := 641) (by decide +kernel)⟩
theorem lw_p56 : lw_okq (⟨"PointAnswersModel", "lay", "(III)V"⟩, 15) := ⟨⟨by decide +kernel, by decide +kernel⟩, List.mem_of_getElem? (i := 550) (by decide +kernel), List.mem_of_getElem? (i := 644) (by decide +kernel), List.mem_of_getElem? (i := 645) (by decide +kernel)⟩
theorem lw_p57 : lw_okq (⟨"PointAnswersModel", "whyNotAnswer", "(III)I"⟩, 15) := ⟨⟨by decide +kernel, by decide +kernel⟩, List.mem_of_getElem? (i := 550) (by decide +kernel), List.mem_of_getElem? (i := 652) (by decide +kernel), List.mem_of_getElem? (i := 653) (by decide +kernel)⟩
theorem lw_p58 : lw_okq (⟨"PointAnswersModel", "isPoint", "(I)Z"⟩, 15) := ⟨⟨by decide +kernel, by decide +kernel⟩, List.mem_of_getElem? (i := 550) (by decide +kernel), List.mem_of_getElem? (i := 656) (by decide +kernel), List.mem_of_getElem? (i := 657) (by decide +kernel)⟩
theorem lw_p59 : lw_okq (⟨"PointAnswersModel", "isWithdrawn", "(I)Z"⟩, 15) := ⟨⟨by decide +kernel, by decide +kernel⟩, List.mem_of_getElem? (i := 550) (by decide +kernel), List.mem_of_getElem? (i := 660) (by decide +kernel), List.mem_of_getElem? (i := 661) (by decide +kernel)⟩
theorem lw_p60 : lw_okq (⟨"PointAnswersModel", "its", "(II)I"⟩, 15) := ⟨⟨by decide +kernel, by decide +kernel⟩, List.mem_of_getElem? (i := 550) (by decide +kernel), List.mem_of_getElem? (i := 664) (by decide +kernel), List.mem_of_getElem? (i := 665) (by decide +kernel)⟩
theorem lw_p61 : lw_okq (⟨"PointAnswersModel", "whyNotWithdraw", "(I)I"⟩, 15) := ⟨⟨by decide +kernel, by decide +kernel⟩, List.mem_of_getElem? (i := 550) (by decide +kernel), List.mem_of_getElem? (i := 672) (by decide +kernel), List.mem_of_getElem? (i := 673) (by decide +kernel)⟩
theorem lw_p62 : lw_okq (⟨"PointAnswersModel", "look", "()V"⟩, 15) := ⟨⟨by decide +kernel, by decide +kernel⟩, List.mem_of_getElem? (i := 550) (by decide +kernel), List.mem_of_getElem? (i := 676) (by decide +kernel), List.mem_of_getElem? (i := 677) (by decide +kernel)⟩
theorem lw_p63 : lw_okq (⟨"PointAnswersModel", "layOut", "()V"⟩, 15) := ⟨⟨by decide +kernel, by decide +kernel⟩, List.mem_of_getElem? (i := 550) (by decide +kernel), List.mem_of_getElem? (i := 680) (by decide +kernel), List.mem_of_getElem? (i := 681) (by decide +kernel)⟩
def lw_privs_4 : List (MethodName × Nat) := [(⟨"PointAnswers$Reader", "readCites", "(LPointAnswers$Pad;)Z"⟩, 6), (⟨"PointAnswers$Reader", "readNumber", "(LPointAnswers$Pad;)Z"⟩, 6), (⟨"PointAnswers", "follow", "()I"⟩, 7), (⟨"PointAnswers$History", "bringBack", "(LPointAnswers$Bundle;)I"⟩, 2), (⟨"PointAnswers", "slotRow", "(I)LPointAnswers$Bundle;"⟩, 7), (⟨"PointAnswersModel", "record", "()V"⟩, 15), (⟨"PointAnswersModel", "whyNotClaim", "(III)I"⟩, 15), (⟨"PointAnswersModel", "file", "(IIII)I"⟩, 15), (⟨"PointAnswersModel", "lay", "(III)V"⟩, 15), (⟨"PointAnswersModel", "whyNotAnswer", "(III)I"⟩, 15), (⟨"PointAnswersModel", "isPoint", "(I)Z"⟩, 15), (⟨"PointAnswersModel", "isWithdrawn", "(I)Z"⟩, 15), (⟨"PointAnswersModel", "its", "(II)I"⟩, 15), (⟨"PointAnswersModel", "whyNotWithdraw", "(I)I"⟩, 15), (⟨"PointAnswersModel", "look", "()V"⟩, 15), (⟨"PointAnswersModel", "layOut", "()V"⟩, 15)]
theorem lw_r4 : ∀ q ∈ lw_privs_4, lw_okq q := List.forall_mem_cons.mpr ⟨lw_p48, List.forall_mem_cons.mpr ⟨lw_p49, List.forall_mem_cons.mpr ⟨lw_p50, List.forall_mem_cons.mpr ⟨lw_p51, List.forall_mem_cons.mpr ⟨lw_p52, List.forall_mem_cons.mpr ⟨lw_p53, List.forall_mem_cons.mpr ⟨lw_p54, List.forall_mem_cons.mpr ⟨lw_p55, List.forall_mem_cons.mpr ⟨lw_p56, List.forall_mem_cons.mpr ⟨lw_p57, List.forall_mem_cons.mpr ⟨lw_p58, List.forall_mem_cons.mpr ⟨lw_p59, List.forall_mem_cons.mpr ⟨lw_p60, List.forall_mem_cons.mpr ⟨lw_p61, List.forall_mem_cons.mpr ⟨lw_p62, List.forall_mem_cons.mpr ⟨lw_p63, fun _ h => absurd h List.not_mem_nil⟩⟩⟩⟩⟩⟩⟩⟩⟩⟩⟩⟩⟩⟩⟩⟩
theorem lw_p64 : lw_okq (⟨"PointAnswersModel", "lapsed", "(I)Z"⟩, 15) := ⟨⟨by decide +kernel, by decide +kernel⟩, List.mem_of_getElem? (i := 550) (by decide +kernel), List.mem_of_getElem? (i := 684) (by decide +kernel), List.mem_of_getElem? (i := 685) (by decide +kernel)⟩
theorem lw_p65 : lw_okq (⟨"PointAnswersModel", "isClaim", "(I)Z"⟩, 15) := ⟨⟨by decide +kernel, by decide +kernel⟩, List.mem_of_getElem? (i := 550) (by decide +kernel), List.mem_of_getElem? (i := 688) (by decide +kernel), List.mem_of_getElem? (i := 689) (by decide +kernel)⟩
theorem lw_p66 : lw_okq (⟨"PointAnswersModel", "hasNoCase", "(I)Z"⟩, 15) := ⟨⟨by decide +kernel, by decide +kernel⟩, List.mem_of_getElem? (i := 550) (by decide +kernel), List.mem_of_getElem? (i := 692) (by decide +kernel), List.mem_of_getElem? (i := 693) (by decide +kernel)⟩
theorem lw_p67 : lw_okq (⟨"PointAnswersModel", "layAnswered", "(I)V"⟩, 15) := ⟨⟨by decide +kernel, by decide +kernel⟩, List.mem_of_getElem? (i := 550) (by decide +kernel), List.mem_of_getElem? (i := 696) (by decide +kernel), List.mem_of_getElem? (i := 697) (by decide +kernel)⟩
theorem lw_p68 : lw_okq (⟨"PointAnswersModel", "standing", "()I"⟩, 15) := ⟨⟨by decide +kernel, by decide +kernel⟩, List.mem_of_getElem? (i := 550) (by decide +kernel), List.mem_of_getElem? (i := 700) (by decide +kernel), List.mem_of_getElem? (i := 701) (by decide +kernel)⟩
theorem lw_p69 : lw_okq (⟨"PointAnswersModel", "whyNotRenew", "(I)I"⟩, 15) := ⟨⟨by decide +kernel, by decide +kernel⟩, List.mem_of_getElem? (i := 550) (by decide +kernel), List.mem_of_getElem? (i := 711) (by decide +kernel), List.mem_of_getElem? (i := 712) (by decide +kernel)⟩
theorem lw_p70 : lw_okq (⟨"PointAnswersModel", "overruleIt", "(I)I"⟩, 15) := ⟨⟨by decide +kernel, by decide +kernel⟩, List.mem_of_getElem? (i := 550) (by decide +kernel), List.mem_of_getElem? (i := 719) (by decide +kernel), List.mem_of_getElem? (i := 720) (by decide +kernel)⟩
theorem lw_p71 : lw_okq (⟨"PointAnswersModel", "whyNotPass", "(I)I"⟩, 15) := ⟨⟨by decide +kernel, by decide +kernel⟩, List.mem_of_getElem? (i := 550) (by decide +kernel), List.mem_of_getElem? (i := 727) (by decide +kernel), List.mem_of_getElem? (i := 728) (by decide +kernel)⟩
theorem lw_p72 : lw_okq (⟨"PointAnswersModel", "lowestThatStands", "(I)I"⟩, 15) := ⟨⟨by decide +kernel, by decide +kernel⟩, List.mem_of_getElem? (i := 550) (by decide +kernel), List.mem_of_getElem? (i := 735) (by decide +kernel), List.mem_of_getElem? (i := 736) (by decide +kernel)⟩
theorem lw_p73 : lw_okq (⟨"PointAnswersModel", "answersTo", "(I)I"⟩, 15) := ⟨⟨by decide +kernel, by decide +kernel⟩, List.mem_of_getElem? (i := 550) (by decide +kernel), List.mem_of_getElem? (i := 739) (by decide +kernel), List.mem_of_getElem? (i := 740) (by decide +kernel)⟩
theorem lw_p74 : lw_okq (⟨"PointAnswersModel", "depth", "(I)I"⟩, 15) := ⟨⟨by decide +kernel, by decide +kernel⟩, List.mem_of_getElem? (i := 550) (by decide +kernel), List.mem_of_getElem? (i := 743) (by decide +kernel), List.mem_of_getElem? (i := 744) (by decide +kernel)⟩
theorem lw_p75 : lw_okq (⟨"PointAnswersModel", "daysYet", "(I)I"⟩, 15) := ⟨⟨by decide +kernel, by decide +kernel⟩, List.mem_of_getElem? (i := 550) (by decide +kernel), List.mem_of_getElem? (i := 747) (by decide +kernel), List.mem_of_getElem? (i := 748) (by decide +kernel)⟩
theorem lw_p76 : lw_okq (⟨"PointAnswersModel", "claims", "()I"⟩, 15) := ⟨⟨by decide +kernel, by decide +kernel⟩, List.mem_of_getElem? (i := 550) (by decide +kernel), List.mem_of_getElem? (i := 755) (by decide +kernel), List.mem_of_getElem? (i := 756) (by decide +kernel)⟩
theorem lw_p77 : lw_okq (⟨"PointAnswersModel", "outOnes", "()I"⟩, 15) := ⟨⟨by decide +kernel, by decide +kernel⟩, List.mem_of_getElem? (i := 550) (by decide +kernel), List.mem_of_getElem? (i := 759) (by decide +kernel), List.mem_of_getElem? (i := 760) (by decide +kernel)⟩
theorem lw_p78 : lw_okq (⟨"PointAnswersModel", "answeredOnes", "()I"⟩, 15) := ⟨⟨by decide +kernel, by decide +kernel⟩, List.mem_of_getElem? (i := 550) (by decide +kernel), List.mem_of_getElem? (i := 763) (by decide +kernel), List.mem_of_getElem? (i := 764) (by decide +kernel)⟩
theorem lw_p79 : lw_okq (⟨"PointAnswersModel", "ofSide", "(I)I"⟩, 15) := ⟨⟨by decide +kernel, by decide +kernel⟩, List.mem_of_getElem? (i := 550) (by decide +kernel), List.mem_of_getElem? (i := 771) (by decide +kernel), List.mem_of_getElem? (i := 772) (by decide +kernel)⟩
def lw_privs_5 : List (MethodName × Nat) := [(⟨"PointAnswersModel", "lapsed", "(I)Z"⟩, 15), (⟨"PointAnswersModel", "isClaim", "(I)Z"⟩, 15), (⟨"PointAnswersModel", "hasNoCase", "(I)Z"⟩, 15), (⟨"PointAnswersModel", "layAnswered", "(I)V"⟩, 15), (⟨"PointAnswersModel", "standing", "()I"⟩, 15), (⟨"PointAnswersModel", "whyNotRenew", "(I)I"⟩, 15), (⟨"PointAnswersModel", "overruleIt", "(I)I"⟩, 15), (⟨"PointAnswersModel", "whyNotPass", "(I)I"⟩, 15), (⟨"PointAnswersModel", "lowestThatStands", "(I)I"⟩, 15), (⟨"PointAnswersModel", "answersTo", "(I)I"⟩, 15), (⟨"PointAnswersModel", "depth", "(I)I"⟩, 15), (⟨"PointAnswersModel", "daysYet", "(I)I"⟩, 15), (⟨"PointAnswersModel", "claims", "()I"⟩, 15), (⟨"PointAnswersModel", "outOnes", "()I"⟩, 15), (⟨"PointAnswersModel", "answeredOnes", "()I"⟩, 15), (⟨"PointAnswersModel", "ofSide", "(I)I"⟩, 15)]
theorem lw_r5 : ∀ q ∈ lw_privs_5, lw_okq q := List.forall_mem_cons.mpr ⟨lw_p64, List.forall_mem_cons.mpr ⟨lw_p65, List.forall_mem_cons.mpr ⟨lw_p66, List.forall_mem_cons.mpr ⟨lw_p67, List.forall_mem_cons.mpr ⟨lw_p68, List.forall_mem_cons.mpr ⟨lw_p69, List.forall_mem_cons.mpr ⟨lw_p70, List.forall_mem_cons.mpr ⟨lw_p71, List.forall_mem_cons.mpr ⟨lw_p72, List.forall_mem_cons.mpr ⟨lw_p73, List.forall_mem_cons.mpr ⟨lw_p74, List.forall_mem_cons.mpr ⟨lw_p75, List.forall_mem_cons.mpr ⟨lw_p76, List.forall_mem_cons.mpr ⟨lw_p77, List.forall_mem_cons.mpr ⟨lw_p78, List.forall_mem_cons.mpr ⟨lw_p79, fun _ h => absurd h List.not_mem_nil⟩⟩⟩⟩⟩⟩⟩⟩⟩⟩⟩⟩⟩⟩⟩⟩
theorem lw_p80 : lw_okq (⟨"PointAnswersModel", "layCosts", "()V"⟩, 15) := ⟨⟨by decide +kernel, by decide +kernel⟩, List.mem_of_getElem? (i := 550) (by decide +kernel), List.mem_of_getElem? (i := 788) (by decide +kernel), List.mem_of_getElem? (i := 789) (by decide +kernel)⟩
theorem lw_p81 : lw_okq (⟨"PointAnswersModel", "changesBy", "(I)I"⟩, 15) := ⟨⟨by decide +kernel, by decide +kernel⟩, List.mem_of_getElem? (i := 550) (by decide +kernel), List.mem_of_getElem? (i := 800) (by decide +kernel), List.mem_of_getElem? (i := 801) (by decide +kernel)⟩
theorem lw_p82 : lw_okq (⟨"PointAnswersModel", "readPad", "()I"⟩, 15) := ⟨⟨by decide +kernel, by decide +kernel⟩, List.mem_of_getElem? (i := 550) (by decide +kernel), List.mem_of_getElem? (i := 825) (by decide +kernel), List.mem_of_getElem? (i := 826) (by decide +kernel)⟩
theorem lw_p83 : lw_okq (⟨"PointAnswersModel", "readOrder", "()V"⟩, 15) := ⟨⟨by decide +kernel, by decide +kernel⟩, List.mem_of_getElem? (i := 550) (by decide +kernel), List.mem_of_getElem? (i := 829) (by decide +kernel), List.mem_of_getElem? (i := 830) (by decide +kernel)⟩
theorem lw_p84 : lw_okq (⟨"PointAnswersModel", "letter", "()I"⟩, 15) := ⟨⟨by decide +kernel, by decide +kernel⟩, List.mem_of_getElem? (i := 550) (by decide +kernel), List.mem_of_getElem? (i := 833) (by decide +kernel), List.mem_of_getElem? (i := 834) (by decide +kernel)⟩
theorem lw_p85 : lw_okq (⟨"PointAnswersModel", "wants", "(Z)V"⟩, 15) := ⟨⟨by decide +kernel, by decide +kernel⟩, List.mem_of_getElem? (i := 550) (by decide +kernel), List.mem_of_getElem? (i := 837) (by decide +kernel), List.mem_of_getElem? (i := 838) (by decide +kernel)⟩
theorem lw_p86 : lw_okq (⟨"PointAnswersModel", "digit", "(II)I"⟩, 15) := ⟨⟨by decide +kernel, by decide +kernel⟩, List.mem_of_getElem? (i := 550) (by decide +kernel), List.mem_of_getElem? (i := 841) (by decide +kernel), List.mem_of_getElem? (i := 842) (by decide +kernel)⟩
theorem lw_p87 : lw_okq (⟨"PointAnswersModel", "number", "()I"⟩, 15) := ⟨⟨by decide +kernel, by decide +kernel⟩, List.mem_of_getElem? (i := 550) (by decide +kernel), List.mem_of_getElem? (i := 845) (by decide +kernel), List.mem_of_getElem? (i := 846) (by decide +kernel)⟩
theorem lw_p88 : lw_okq (⟨"PointAnswersModel", "cites", "()I"⟩, 15) := ⟨⟨by decide +kernel, by decide +kernel⟩, List.mem_of_getElem? (i := 550) (by decide +kernel), List.mem_of_getElem? (i := 849) (by decide +kernel), List.mem_of_getElem? (i := 850) (by decide +kernel)⟩
theorem lw_p89 : lw_okq (⟨"PointAnswersModel", "does", "(I)Z"⟩, 15) := ⟨⟨by decide +kernel, by decide +kernel⟩, List.mem_of_getElem? (i := 550) (by decide +kernel), List.mem_of_getElem? (i := 857) (by decide +kernel), List.mem_of_getElem? (i := 858) (by decide +kernel)⟩
theorem lw_p90 : lw_okq (⟨"PointAnswersModel", "whyNot", "(IIII)I"⟩, 15) := ⟨⟨by decide +kernel, by decide +kernel⟩, List.mem_of_getElem? (i := 550) (by decide +kernel), List.mem_of_getElem? (i := 861) (by decide +kernel), List.mem_of_getElem? (i := 862) (by decide +kernel)⟩
def lw_privs_6 : List (MethodName × Nat) := [(⟨"PointAnswersModel", "layCosts", "()V"⟩, 15), (⟨"PointAnswersModel", "changesBy", "(I)I"⟩, 15), (⟨"PointAnswersModel", "readPad", "()I"⟩, 15), (⟨"PointAnswersModel", "readOrder", "()V"⟩, 15), (⟨"PointAnswersModel", "letter", "()I"⟩, 15), (⟨"PointAnswersModel", "wants", "(Z)V"⟩, 15), (⟨"PointAnswersModel", "digit", "(II)I"⟩, 15), (⟨"PointAnswersModel", "number", "()I"⟩, 15), (⟨"PointAnswersModel", "cites", "()I"⟩, 15), (⟨"PointAnswersModel", "does", "(I)Z"⟩, 15), (⟨"PointAnswersModel", "whyNot", "(IIII)I"⟩, 15)]
theorem lw_r6 : ∀ q ∈ lw_privs_6, lw_okq q := List.forall_mem_cons.mpr ⟨lw_p80, List.forall_mem_cons.mpr ⟨lw_p81, List.forall_mem_cons.mpr ⟨lw_p82, List.forall_mem_cons.mpr ⟨lw_p83, List.forall_mem_cons.mpr ⟨lw_p84, List.forall_mem_cons.mpr ⟨lw_p85, List.forall_mem_cons.mpr ⟨lw_p86, List.forall_mem_cons.mpr ⟨lw_p87, List.forall_mem_cons.mpr ⟨lw_p88, List.forall_mem_cons.mpr ⟨lw_p89, List.forall_mem_cons.mpr ⟨lw_p90, fun _ h => absurd h List.not_mem_nil⟩⟩⟩⟩⟩⟩⟩⟩⟩⟩⟩
def lw_privs : List (MethodName × Nat) := lw_privs_1 ++ (lw_privs_2 ++ (lw_privs_3 ++ (lw_privs_4 ++ (lw_privs_5 ++ (lw_privs_6)))))
def lw_tbl : List Cond := k2_sels lw_privs ++ tables_1
theorem lw_privs_ok : ∀ q ∈ lw_privs, lw_okq q := by
  show ∀ q ∈ lw_privs_1 ++ (lw_privs_2 ++ (lw_privs_3 ++ (lw_privs_4 ++ (lw_privs_5 ++ (lw_privs_6))))), lw_okq q
  exact List.forall_mem_append.mpr ⟨lw_r1, List.forall_mem_append.mpr ⟨lw_r2, List.forall_mem_append.mpr ⟨lw_r3, List.forall_mem_append.mpr ⟨lw_r4, List.forall_mem_append.mpr ⟨lw_r5, lw_r6⟩⟩⟩⟩⟩
abbrev lw_cs : List Choice := [Jvm.Choice.named "NaN.bits"]
theorem lw_bits : nanBits ∈ lw_cs := by first | decide | exact List.mem_cons_self | simp [lw_cs, nanBits]
end
section
def gi {α : Type} : List α → Nat → Option α
  | [], _ => none
  | a :: _, 0 => some a
  | _ :: t, n + 1 => gi t n
theorem gi_mem {α : Type} {l : List α} {i : Nat} {a : α} (h : gi l i = some a) : a ∈ l := by
  induction l generalizing i with
  | nil => cases h
  | cons x t ih =>
    cases i with
    | zero => rw [show x = a from Option.some.inj h]; exact List.mem_cons_self
    | succ n => exact List.mem_cons_of_mem _ (ih h)
theorem dcd {cc : ByteArray} {ins : List (Nat × Instr × Nat)} (h : ins.all (fun q => decide (decode cc q.1 = .ok q.2)) = true) (i : Nat) (q : Nat × Instr × Nat) (hi : gi ins i = some q) : decode cc q.1 = .ok q.2 := by
  have h1 := List.all_eq_true.mp h q (gi_mem hi)
  exact of_decide_eq_true h1
def wT : List Cond := lw_tbl.filter goodWord
theorem tw {w : Cond} (i : Nat) (h : lw_tbl[i]? = some w) (hg : goodWord w = true) : w ∈ wT := List.mem_filter.mpr ⟨List.mem_of_getElem? h, hg⟩
theorem wT_tbl : ∀ w ∈ wT, w ∈ lw_tbl := fun _ h => (List.mem_filter.mp h).1
theorem gI {b1 : ByteArray} {y : MethodName} {n : Nat} {r : Option FieldType} (h : Cond.code y b1 n r ∈ wT) : GoodIn wT (Cond.code y b1 n r :: wT) := by
  intro w hw
  rcases List.mem_cons.mp hw with rfl | hw
  · exact ⟨h, good_of_word (List.mem_filter.mp h).2⟩
  · exact ⟨hw, good_of_word (List.mem_filter.mp hw).2⟩
def RX0 : String := "PointAnswers$Bundle"
def TX0 : u_T := fun k => match k with
  | 0 => ("PointAnswers$Bundle", "rows", "[LPointAnswers$Point;", true)
  | 1 => ("PointAnswers$Bundle", "size", "I", false)
  | 2 => ("PointAnswers$Bundle", "day", "I", false)
  | 3 => ("PointAnswers$Bundle", "overruled", "I", false)
  | 4 => ("PointAnswers$Bundle", "lapse", "I", false)
  | _ => ("PointAnswers$Bundle", "allowedPages", "I", false)
def tyX0 : Nat → FieldType := fun k => match k with
  | 0 => .array (.object "PointAnswers$Point")
  | 1 => .int
  | 2 => .int
  | 3 => .int
  | 4 => .int
  | _ => .int
theorem nmX0 : ∀ a, a < 6 → ∀ b, b < 6 → a ≠ b → (TX0 a).2.1 ≠ (TX0 b).2.1 := by decide +kernel
theorem tyX0_ok : ∀ k, k < 6 → parseFieldDescriptor (TX0 k).2.2.1 = some (tyX0 k) := by decide +kernel
theorem inX0 : ∀ w ∈ u_ws RX0 TX0 6, w ∈ wT := by decide +kernel
def RX1 : String := "PointAnswers$Costs"
def TX1 : u_T := fun k => match k with
  | 0 => ("PointAnswers$Costs", "fall", "[I", true)
  | _ => ("PointAnswers$Costs", "stand", "[I", true)
def tyX1 : Nat → FieldType := fun k => match k with
  | 0 => .array .int
  | _ => .array .int
theorem nmX1 : ∀ a, a < 2 → ∀ b, b < 2 → a ≠ b → (TX1 a).2.1 ≠ (TX1 b).2.1 := by decide +kernel
theorem tyX1_ok : ∀ k, k < 2 → parseFieldDescriptor (TX1 k).2.2.1 = some (tyX1 k) := by decide +kernel
theorem inX1 : ∀ w ∈ u_ws RX1 TX1 2, w ∈ wT := by decide +kernel
def RX2 : String := "PointAnswers$History"
def TX2 : u_T := fun k => match k with
  | 0 => ("PointAnswers$History", "rows", "[LPointAnswers$Bundle;", true)
  | _ => ("PointAnswers$History", "kept", "I", false)
def tyX2 : Nat → FieldType := fun k => match k with
  | 0 => .array (.object "PointAnswers$Bundle")
  | _ => .int
theorem nmX2 : ∀ a, a < 2 → ∀ b, b < 2 → a ≠ b → (TX2 a).2.1 ≠ (TX2 b).2.1 := by decide +kernel
theorem tyX2_ok : ∀ k, k < 2 → parseFieldDescriptor (TX2 k).2.2.1 = some (tyX2 k) := by decide +kernel
theorem inX2 : ∀ w ∈ u_ws RX2 TX2 2, w ∈ wT := by decide +kernel
def RX3 : String := "PointAnswers$Pad"
def TX3 : u_T := fun k => match k with
  | 0 => ("PointAnswers$Pad", "signs", "[C", true)
  | _ => ("PointAnswers$Pad", "length", "I", false)
def tyX3 : Nat → FieldType := fun k => match k with
  | 0 => .array .char
  | _ => .int
theorem nmX3 : ∀ a, a < 2 → ∀ b, b < 2 → a ≠ b → (TX3 a).2.1 ≠ (TX3 b).2.1 := by decide +kernel
theorem tyX3_ok : ∀ k, k < 2 → parseFieldDescriptor (TX3 k).2.2.1 = some (tyX3 k) := by decide +kernel
theorem inX3 : ∀ w ∈ u_ws RX3 TX3 2, w ∈ wT := by decide +kernel
def RX4 : String := "PointAnswers$Point"
def TX4 : u_T := fun k => match k with
  | 0 => ("PointAnswers$Point", "side", "I", false)
  | 1 => ("PointAnswers$Point", "pages", "I", false)
  | 2 => ("PointAnswers$Point", "cases", "I", false)
  | 3 => ("PointAnswers$Point", "target", "I", false)
  | 4 => ("PointAnswers$Point", "filed", "I", false)
  | 5 => ("PointAnswers$Point", "lastsFrom", "I", false)
  | _ => ("PointAnswers$Point", "withdrawn", "Z", false)
def tyX4 : Nat → FieldType := fun k => match k with
  | 0 => .int
  | 1 => .int
  | 2 => .int
  | 3 => .int
  | 4 => .int
  | 5 => .int
  | _ => .boolean
theorem nmX4 : ∀ a, a < 7 → ∀ b, b < 7 → a ≠ b → (TX4 a).2.1 ≠ (TX4 b).2.1 := by decide +kernel
theorem tyX4_ok : ∀ k, k < 7 → parseFieldDescriptor (TX4 k).2.2.1 = some (tyX4 k) := by decide +kernel
theorem inX4 : ∀ w ∈ u_ws RX4 TX4 7, w ∈ wT := by decide +kernel
def RX5 : String := "PointAnswers$Reader"
def TX5 : u_T := fun k => match k with
  | 0 => ("PointAnswers$Reader", "at", "I", false)
  | 1 => ("PointAnswers$Reader", "digit", "I", false)
  | 2 => ("PointAnswers$Reader", "kind", "C", false)
  | 3 => ("PointAnswers$Reader", "number", "I", false)
  | 4 => ("PointAnswers$Reader", "pages", "I", false)
  | _ => ("PointAnswers$Reader", "cases", "I", false)
def tyX5 : Nat → FieldType := fun k => match k with
  | 0 => .int
  | 1 => .int
  | 2 => .char
  | 3 => .int
  | 4 => .int
  | _ => .int
theorem nmX5 : ∀ a, a < 6 → ∀ b, b < 6 → a ≠ b → (TX5 a).2.1 ≠ (TX5 b).2.1 := by decide +kernel
theorem tyX5_ok : ∀ k, k < 6 → parseFieldDescriptor (TX5 k).2.2.1 = some (tyX5 k) := by decide +kernel
theorem inX5 : ∀ w ∈ u_ws RX5 TX5 6, w ∈ wT := by decide +kernel
def RX6 : String := "PointAnswers"
def TX6 : u_T := fun k => match k with
  | 0 => ("PointAnswers", "now", "LPointAnswers$Bundle;", true)
  | 1 => ("PointAnswers", "costs", "LPointAnswers$Costs;", true)
  | 2 => ("PointAnswers", "pad", "LPointAnswers$Pad;", true)
  | 3 => ("PointAnswers", "reader", "LPointAnswers$Reader;", true)
  | 4 => ("PointAnswers", "history", "LPointAnswers$History;", true)
  | 5 => ("PointAnswers", "slots", "[LPointAnswers$Bundle;", true)
  | _ => ("PointAnswers", "savedSlots", "I", false)
def tyX6 : Nat → FieldType := fun k => match k with
  | 0 => .object "PointAnswers$Bundle"
  | 1 => .object "PointAnswers$Costs"
  | 2 => .object "PointAnswers$Pad"
  | 3 => .object "PointAnswers$Reader"
  | 4 => .object "PointAnswers$History"
  | 5 => .array (.object "PointAnswers$Bundle")
  | _ => .int
theorem nmX6 : ∀ a, a < 7 → ∀ b, b < 7 → a ≠ b → (TX6 a).2.1 ≠ (TX6 b).2.1 := by decide +kernel
theorem tyX6_ok : ∀ k, k < 7 → parseFieldDescriptor (TX6 k).2.2.1 = some (tyX6 k) := by decide +kernel
theorem inX6 : ∀ w ∈ u_ws RX6 TX6 7, w ∈ wT := by decide +kernel
def RX7 : String := "PointAnswersModel"
def TX7 : u_T := fun k => match k with
  | 0 => ("PointAnswersModel", "z", "[I", true)
  | 1 => ("PointAnswersModel", "past", "[I", true)
  | 2 => ("PointAnswersModel", "slots", "[I", true)
  | 3 => ("PointAnswersModel", "isSaved", "[Z", true)
  | 4 => ("PointAnswersModel", "pastMany", "I", false)
  | 5 => ("PointAnswersModel", "pad", "[C", true)
  | 6 => ("PointAnswersModel", "typed", "I", false)
  | 7 => ("PointAnswersModel", "why", "[I", true)
  | 8 => ("PointAnswersModel", "taken", "[I", true)
  | 9 => ("PointAnswersModel", "stands", "[I", true)
  | 10 => ("PointAnswersModel", "falls", "[I", true)
  | 11 => ("PointAnswersModel", "orders", "[I", true)
  | 12 => ("PointAnswersModel", "orderMany", "I", false)
  | 13 => ("PointAnswersModel", "spot", "I", false)
  | _ => ("PointAnswersModel", "wrong", "I", false)
def tyX7 : Nat → FieldType := fun k => match k with
  | 0 => .array .int
  | 1 => .array .int
  | 2 => .array .int
  | 3 => .array .boolean
  | 4 => .int
  | 5 => .array .char
  | 6 => .int
  | 7 => .array .int
  | 8 => .array .int
  | 9 => .array .int
  | 10 => .array .int
  | 11 => .array .int
  | 12 => .int
  | 13 => .int
  | _ => .int
theorem nmX7 : ∀ a, a < 15 → ∀ b, b < 15 → a ≠ b → (TX7 a).2.1 ≠ (TX7 b).2.1 := by decide +kernel
theorem tyX7_ok : ∀ k, k < 15 → parseFieldDescriptor (TX7 k).2.2.1 = some (tyX7 k) := by decide +kernel
theorem inX7 : ∀ w ∈ u_ws RX7 TX7 15, w ∈ wT := by decide +kernel
abbrev vwCl : List vw_C := [(RX0, TX0, 6), (RX1, TX1, 2), (RX2, TX2, 2), (RX3, TX3, 2), (RX4, TX4, 7), (RX5, TX5, 6), (RX6, TX6, 7), (RX7, TX7, 15)]
abbrev cX4_init : ByteArray := prog_6_method_1_code
def yX4_init : MethodName := ⟨"PointAnswers$Point", "<init>", "()V"⟩
def iX4_init : List (Nat × Instr × Nat) := [(0, .aload_n 0, 1), (1, .invokespecial 1, 3), (4, .return_, 1)]
theorem dX4_init : iX4_init.all (fun q => decide (decode cX4_init q.1 = .ok q.2)) = true := by decide +kernel
abbrev wsX4_init : List Cond := .code yX4_init cX4_init 1 none :: wT
abbrev cX0_init : ByteArray := prog_2_method_1_code
def yX0_init : MethodName := ⟨"PointAnswers$Bundle", "<init>", "()V"⟩
def iX0_init : List (Nat × Instr × Nat) := [(0, .aload_n 0, 1), (1, .invokespecial 3, 3), (4, .aload_n 0, 1), (5, .bipush 24, 2), (7, .anewarray 9, 3), (10, .putfield 11, 3), (13, .aload_n 0, 1), (14, .bipush 14, 2), (16, .putfield 17, 3), (19, .aload_n 0, 1), (20, .bipush 30, 2), (22, .putfield 21, 3), (25, .iconst 0, 1), (26, .istore_n 1, 1), (27, .iload_n 1, 1), (28, .aload_n 0, 1), (29, .getfield 11, 3), (32, .arraylength, 1), (33, .if_icmp .ge 22, 3), (36, .aload_n 0, 1), (37, .getfield 11, 3), (40, .iload_n 1, 1), (41, .new 9, 3), (44, .dup, 1), (45, .invokespecial 24, 3), (48, .aastore, 1), (49, .iinc 1 1, 3), (52, .goto (-25), 3), (55, .return_, 1)]
theorem dX0_init : iX0_init.all (fun q => decide (decode cX0_init q.1 = .ok q.2)) = true := by decide +kernel
abbrev wsX0_init : List Cond := .code yX0_init cX0_init 2 none :: wT
abbrev cX0_find : ByteArray := prog_2_method_3_code
def yX0_find : MethodName := ⟨"PointAnswers$Bundle", "find", "(I)LPointAnswers$Point;"⟩
def iX0_find : List (Nat × Instr × Nat) := [(0, .iload_n 1, 1), (1, .ifCond .lt 29, 3), (4, .iload_n 1, 1), (5, .aload_n 0, 1), (6, .getfield 25, 3), (9, .if_icmp .ge 21, 3), (12, .iload_n 1, 1), (13, .aload_n 0, 1), (14, .getfield 11, 3), (17, .arraylength, 1), (18, .if_icmp .ge 12, 3), (21, .aload_n 0, 1), (22, .getfield 11, 3), (25, .iload_n 1, 1), (26, .aaload, 1), (27, .goto 4, 3), (30, .aconst_null, 1), (31, .areturn, 1)]
theorem dX0_find : iX0_find.all (fun q => decide (decode cX0_find q.1 = .ok q.2)) = true := by decide +kernel
abbrev wsX0_find : List Cond := .code yX0_find cX0_find 2 (some (.object "PointAnswers$Point")) :: wT
abbrev cX4_become : ByteArray := prog_6_method_2_code
def yX4_become : MethodName := ⟨"PointAnswers$Point", "become", "(LPointAnswers$Point;)V"⟩
def iX4_become : List (Nat × Instr × Nat) := [(0, .aload_n 0, 1), (1, .aload_n 1, 1), (2, .getfield 7, 3), (5, .putfield 7, 3), (8, .aload_n 0, 1), (9, .aload_n 1, 1), (10, .getfield 13, 3), (13, .putfield 13, 3), (16, .aload_n 0, 1), (17, .aload_n 1, 1), (18, .getfield 16, 3), (21, .putfield 16, 3), (24, .aload_n 0, 1), (25, .aload_n 1, 1), (26, .getfield 19, 3), (29, .putfield 19, 3), (32, .aload_n 0, 1), (33, .aload_n 1, 1), (34, .getfield 22, 3), (37, .putfield 22, 3), (40, .aload_n 0, 1), (41, .aload_n 1, 1), (42, .getfield 25, 3), (45, .putfield 25, 3), (48, .aload_n 0, 1), (49, .aload_n 1, 1), (50, .getfield 28, 3), (53, .putfield 28, 3), (56, .return_, 1)]
theorem dX4_become : iX4_become.all (fun q => decide (decode cX4_become q.1 = .ok q.2)) = true := by decide +kernel
abbrev wsX4_become : List Cond := .code yX4_become cX4_become 2 none :: wT
abbrev cX0_become : ByteArray := prog_2_method_2_code
def yX0_become : MethodName := ⟨"PointAnswers$Bundle", "become", "(LPointAnswers$Bundle;)V"⟩
def iX0_become : List (Nat × Instr × Nat) := [(0, .aload_n 0, 1), (1, .aload_n 1, 1), (2, .getfield 25, 3), (5, .putfield 25, 3), (8, .aload_n 0, 1), (9, .aload_n 1, 1), (10, .getfield 28, 3), (13, .putfield 28, 3), (16, .aload_n 0, 1), (17, .aload_n 1, 1), (18, .getfield 31, 3), (21, .putfield 31, 3), (24, .aload_n 0, 1), (25, .aload_n 1, 1), (26, .getfield 17, 3), (29, .putfield 17, 3), (32, .aload_n 0, 1), (33, .aload_n 1, 1), (34, .getfield 21, 3), (37, .putfield 21, 3), (40, .iconst 0, 1), (41, .istore_n 2, 1), (42, .iload_n 2, 1), (43, .aload_n 0, 1), (44, .getfield 11, 3), (47, .arraylength, 1), (48, .if_icmp .ge 46, 3), (51, .iload_n 2, 1), (52, .aload_n 0, 1), (53, .getfield 25, 3), (56, .if_icmp .ge 38, 3), (59, .aload_n 0, 1), (60, .getfield 11, 3), (63, .iload_n 2, 1), (64, .aaload, 1), (65, .astore_n 3, 1), (66, .aload_n 1, 1), (67, .iload_n 2, 1), (68, .invokevirtual 34, 3), (71, .astore 4, 2), (73, .aload_n 3, 1), (74, .ifnull 14, 3), (77, .aload 4, 2), (79, .ifnull 9, 3), (82, .aload_n 3, 1), (83, .aload 4, 2), (85, .invokevirtual 38, 3), (88, .iinc 2 1, 3), (91, .goto (-49), 3), (94, .return_, 1)]
theorem dX0_become : iX0_become.all (fun q => decide (decode cX0_become q.1 = .ok q.2)) = true := by decide +kernel
abbrev wsX0_become : List Cond := .code yX0_become cX0_become 5 none :: wT
abbrev cX0_freeRow : ByteArray := prog_2_method_4_code
def yX0_freeRow : MethodName := ⟨"PointAnswers$Bundle", "freeRow", "()LPointAnswers$Point;"⟩
def iX0_freeRow : List (Nat × Instr × Nat) := [(0, .aload_n 0, 1), (1, .getfield 25, 3), (4, .ifCond .lt 27, 3), (7, .aload_n 0, 1), (8, .getfield 25, 3), (11, .aload_n 0, 1), (12, .getfield 11, 3), (15, .arraylength, 1), (16, .if_icmp .ge 15, 3), (19, .aload_n 0, 1), (20, .getfield 11, 3), (23, .aload_n 0, 1), (24, .getfield 25, 3), (27, .aaload, 1), (28, .goto 4, 3), (31, .aconst_null, 1), (32, .areturn, 1)]
theorem dX0_freeRow : iX0_freeRow.all (fun q => decide (decode cX0_freeRow q.1 = .ok q.2)) = true := by decide +kernel
abbrev wsX0_freeRow : List Cond := .code yX0_freeRow cX0_freeRow 1 (some (.object "PointAnswers$Point")) :: wT
abbrev cX0_adjust : ByteArray := prog_2_method_5_code
def yX0_adjust : MethodName := ⟨"PointAnswers$Bundle", "adjust", "(II)I"⟩
def iX0_adjust : List (Nat × Instr × Nat) := [(0, .bipush (-2), 2), (2, .istore_n 3, 1), (3, .iload_n 1, 1), (4, .ifCond .ne 24, 3), (7, .iload_n 2, 1), (8, .iconst 1, 1), (9, .if_icmp .lt 19, 3), (12, .iload_n 2, 1), (13, .bipush 60, 2), (15, .if_icmp .gt 13, 3), (18, .aload_n 0, 1), (19, .getfield 17, 3), (22, .istore_n 3, 1), (23, .aload_n 0, 1), (24, .iload_n 2, 1), (25, .putfield 17, 3), (28, .iload_n 1, 1), (29, .iconst 1, 1), (30, .if_icmp .ne 24, 3), (33, .iload_n 2, 1), (34, .iconst 1, 1), (35, .if_icmp .lt 19, 3), (38, .iload_n 2, 1), (39, .bipush 99, 2), (41, .if_icmp .gt 13, 3), (44, .aload_n 0, 1), (45, .getfield 21, 3), (48, .istore_n 3, 1), (49, .aload_n 0, 1), (50, .iload_n 2, 1), (51, .putfield 21, 3), (54, .iload_n 3, 1), (55, .ireturn, 1)]
theorem dX0_adjust : iX0_adjust.all (fun q => decide (decode cX0_adjust q.1 = .ok q.2)) = true := by decide +kernel
abbrev wsX0_adjust : List Cond := .code yX0_adjust cX0_adjust 4 (some .int) :: wT
abbrev cX0_canBeFiled : ByteArray := prog_2_method_8_code
def yX0_canBeFiled : MethodName := ⟨"PointAnswers$Bundle", "canBeFiled", "(II)Z"⟩
def iX0_canBeFiled : List (Nat × Instr × Nat) := [(0, .iload_n 0, 1), (1, .iconst 1, 1), (2, .if_icmp .lt 24, 3), (5, .iload_n 0, 1), (6, .bipush 9, 2), (8, .if_icmp .gt 18, 3), (11, .iload_n 1, 1), (12, .ifCond .lt 14, 3), (15, .iload_n 1, 1), (16, .sipush 1023, 3), (19, .if_icmp .gt 7, 3), (22, .iconst 1, 1), (23, .goto 4, 3), (26, .iconst 0, 1), (27, .ireturn, 1)]
theorem dX0_canBeFiled : iX0_canBeFiled.all (fun q => decide (decode cX0_canBeFiled q.1 = .ok q.2)) = true := by decide +kernel
abbrev wsX0_canBeFiled : List Cond := .code yX0_canBeFiled cX0_canBeFiled 2 (some .boolean) :: wT
abbrev cX0_file : ByteArray := prog_2_method_9_code
def yX0_file : MethodName := ⟨"PointAnswers$Bundle", "file", "(IIII)I"⟩
def iX0_file : List (Nat × Instr × Nat) := [(0, .aload_n 0, 1), (1, .invokevirtual 50, 3), (4, .astore 5, 2), (6, .aload 5, 2), (8, .ifnonnull 6, 3), (11, .bipush (-4), 2), (13, .ireturn, 1), (14, .aload 5, 2), (16, .iload_n 1, 1), (17, .putfield 58, 3), (20, .aload 5, 2), (22, .iload_n 2, 1), (23, .putfield 61, 3), (26, .aload 5, 2), (28, .iload_n 3, 1), (29, .putfield 64, 3), (32, .aload 5, 2), (34, .iload 4, 2), (36, .putfield 67, 3), (39, .aload 5, 2), (41, .aload_n 0, 1), (42, .getfield 28, 3), (45, .putfield 70, 3), (48, .aload 5, 2), (50, .aload_n 0, 1), (51, .getfield 28, 3), (54, .putfield 73, 3), (57, .aload 5, 2), (59, .iconst 0, 1), (60, .putfield 54, 3), (63, .aload_n 0, 1), (64, .dup, 1), (65, .getfield 25, 3), (68, .iconst 1, 1), (69, .iadd, 1), (70, .putfield 25, 3), (73, .aload_n 0, 1), (74, .getfield 25, 3), (77, .iconst 1, 1), (78, .isub, 1), (79, .ireturn, 1)]
theorem dX0_file : iX0_file.all (fun q => decide (decode cX0_file q.1 = .ok q.2)) = true := by decide +kernel
abbrev wsX0_file : List Cond := .code yX0_file cX0_file 6 (some .int) :: wT
abbrev cX0_fileClaim : ByteArray := prog_2_method_6_code
def yX0_fileClaim : MethodName := ⟨"PointAnswers$Bundle", "fileClaim", "(III)I"⟩
def iX0_fileClaim : List (Nat × Instr × Nat) := [(0, .iload_n 1, 1), (1, .ifCond .lt 16, 3), (4, .iload_n 1, 1), (5, .iconst 1, 1), (6, .if_icmp .gt 11, 3), (9, .iload_n 2, 1), (10, .iload_n 3, 1), (11, .invokestatic 42, 3), (14, .ifCond .ne 6, 3), (17, .bipush (-2), 2), (19, .ireturn, 1), (20, .aload_n 0, 1), (21, .iload_n 1, 1), (22, .iload_n 2, 1), (23, .iload_n 3, 1), (24, .bipush (-6), 2), (26, .invokevirtual 46, 3), (29, .ireturn, 1)]
theorem dX0_fileClaim : iX0_fileClaim.all (fun q => decide (decode cX0_fileClaim q.1 = .ok q.2)) = true := by decide +kernel
abbrev wsX0_fileClaim : List Cond := .code yX0_fileClaim cX0_fileClaim 4 (some .int) :: wT
abbrev cX0_fileAnswer : ByteArray := prog_2_method_7_code
def yX0_fileAnswer : MethodName := ⟨"PointAnswers$Bundle", "fileAnswer", "(III)I"⟩
def iX0_fileAnswer : List (Nat × Instr × Nat) := [(0, .aload_n 0, 1), (1, .iload_n 1, 1), (2, .invokevirtual 34, 3), (5, .astore 4, 2), (7, .aload 4, 2), (9, .ifnonnull 5, 3), (12, .iconst (-1), 1), (13, .ireturn, 1), (14, .iload_n 2, 1), (15, .iload_n 3, 1), (16, .invokestatic 42, 3), (19, .ifCond .ne 6, 3), (22, .bipush (-2), 2), (24, .ireturn, 1), (25, .aload_n 0, 1), (26, .invokevirtual 50, 3), (29, .ifnonnull 6, 3), (32, .bipush (-4), 2), (34, .ireturn, 1), (35, .aload 4, 2), (37, .getfield 54, 3), (40, .ifCond .eq 6, 3), (43, .bipush (-5), 2), (45, .ireturn, 1), (46, .aload_n 0, 1), (47, .iconst 1, 1), (48, .aload 4, 2), (50, .getfield 58, 3), (53, .isub, 1), (54, .iload_n 2, 1), (55, .iload_n 3, 1), (56, .iload_n 1, 1), (57, .invokevirtual 46, 3), (60, .ireturn, 1)]
theorem dX0_fileAnswer : iX0_fileAnswer.all (fun q => decide (decode cX0_fileAnswer q.1 = .ok q.2)) = true := by decide +kernel
abbrev wsX0_fileAnswer : List Cond := .code yX0_fileAnswer cX0_fileAnswer 5 (some .int) :: wT
abbrev cX0_withdrawn : ByteArray := prog_2_method_20_code
def yX0_withdrawn : MethodName := ⟨"PointAnswers$Bundle", "withdrawn", "()I"⟩
def iX0_withdrawn : List (Nat × Instr × Nat) := [(0, .iconst 0, 1), (1, .istore_n 1, 1), (2, .iconst 0, 1), (3, .istore_n 2, 1), (4, .iload_n 2, 1), (5, .aload_n 0, 1), (6, .getfield 25, 3), (9, .if_icmp .ge 32, 3), (12, .aload_n 0, 1), (13, .iload_n 2, 1), (14, .invokevirtual 34, 3), (17, .astore_n 3, 1), (18, .aload_n 3, 1), (19, .ifnull 16, 3), (22, .aload_n 3, 1), (23, .getfield 54, 3), (26, .ifCond .eq 9, 3), (29, .iload_n 1, 1), (30, .iconst 1, 1), (31, .iload_n 2, 1), (32, .ishl, 1), (33, .ior, 1), (34, .istore_n 1, 1), (35, .iinc 2 1, 3), (38, .goto (-34), 3), (41, .iload_n 1, 1), (42, .ireturn, 1)]
theorem dX0_withdrawn : iX0_withdrawn.all (fun q => decide (decode cX0_withdrawn q.1 = .ok q.2)) = true := by decide +kernel
abbrev wsX0_withdrawn : List Cond := .code yX0_withdrawn cX0_withdrawn 4 (some .int) :: wT
abbrev cX0_struck : ByteArray := prog_2_method_21_code
def yX0_struck : MethodName := ⟨"PointAnswers$Bundle", "struck", "()I"⟩
def iX0_struck : List (Nat × Instr × Nat) := [(0, .iconst 0, 1), (1, .istore_n 1, 1), (2, .iconst 0, 1), (3, .istore_n 2, 1), (4, .iload_n 2, 1), (5, .iconst 1, 1), (6, .if_icmp .gt 94, 3), (9, .iconst 0, 1), (10, .istore_n 3, 1), (11, .iconst 0, 1), (12, .istore 4, 2), (14, .iload 4, 2), (16, .aload_n 0, 1), (17, .getfield 25, 3), (20, .if_icmp .ge 74, 3), (23, .aload_n 0, 1), (24, .iload 4, 2), (26, .invokevirtual 34, 3), (29, .astore 5, 2), (31, .aload 5, 2), (33, .ifnull 55, 3), (36, .aload 5, 2), (38, .getfield 58, 3), (41, .iload_n 2, 1), (42, .if_icmp .ne 46, 3), (45, .aload 5, 2), (47, .getfield 54, 3), (50, .ifCond .eq 6, 3), (53, .goto 35, 3), (56, .iload_n 3, 1), (57, .aload 5, 2), (59, .getfield 61, 3), (62, .iadd, 1), (63, .aload_n 0, 1), (64, .getfield 21, 3), (67, .if_icmp .le 13, 3), (70, .iload_n 1, 1), (71, .iconst 1, 1), (72, .iload 4, 2), (74, .ishl, 1), (75, .ior, 1), (76, .istore_n 1, 1), (77, .goto 11, 3), (80, .iload_n 3, 1), (81, .aload 5, 2), (83, .getfield 61, 3), (86, .iadd, 1), (87, .istore_n 3, 1), (88, .iinc 4 1, 3), (91, .goto (-77), 3), (94, .iinc 2 1, 3), (97, .goto (-93), 3), (100, .iload_n 1, 1), (101, .ireturn, 1)]
theorem dX0_struck : iX0_struck.all (fun q => decide (decode cX0_struck q.1 = .ok q.2)) = true := by decide +kernel
abbrev wsX0_struck : List Cond := .code yX0_struck cX0_struck 6 (some .int) :: wT
abbrev cX0_lapsedOn : ByteArray := prog_2_method_22_code
def yX0_lapsedOn : MethodName := ⟨"PointAnswers$Bundle", "lapsedOn", "(I)I"⟩
def iX0_lapsedOn : List (Nat × Instr × Nat) := [(0, .iconst 0, 1), (1, .istore_n 2, 1), (2, .iconst 0, 1), (3, .istore_n 3, 1), (4, .iload_n 3, 1), (5, .aload_n 0, 1), (6, .getfield 25, 3), (9, .if_icmp .ge 51, 3), (12, .aload_n 0, 1), (13, .iload_n 3, 1), (14, .invokevirtual 34, 3), (17, .astore 4, 2), (19, .aload 4, 2), (21, .ifnull 33, 3), (24, .aload 4, 2), (26, .getfield 67, 3), (29, .bipush (-6), 2), (31, .if_icmp .eq 23, 3), (34, .iload_n 1, 1), (35, .aload 4, 2), (37, .getfield 73, 3), (40, .isub, 1), (41, .aload_n 0, 1), (42, .getfield 17, 3), (45, .if_icmp .le 9, 3), (48, .iload_n 2, 1), (49, .iconst 1, 1), (50, .iload_n 3, 1), (51, .ishl, 1), (52, .ior, 1), (53, .istore_n 2, 1), (54, .iinc 3 1, 3), (57, .goto (-53), 3), (60, .iload_n 2, 1), (61, .ireturn, 1)]
theorem dX0_lapsedOn : iX0_lapsedOn.all (fun q => decide (decode cX0_lapsedOn q.1 = .ok q.2)) = true := by decide +kernel
abbrev wsX0_lapsedOn : List Cond := .code yX0_lapsedOn cX0_lapsedOn 5 (some .int) :: wT
abbrev cX0_baseless : ByteArray := prog_2_method_23_code
def yX0_baseless : MethodName := ⟨"PointAnswers$Bundle", "baseless", "()I"⟩
def iX0_baseless : List (Nat × Instr × Nat) := [(0, .iconst 0, 1), (1, .istore_n 1, 1), (2, .iconst 0, 1), (3, .istore_n 2, 1), (4, .iload_n 2, 1), (5, .aload_n 0, 1), (6, .getfield 25, 3), (9, .if_icmp .ge 46, 3), (12, .aload_n 0, 1), (13, .iload_n 2, 1), (14, .invokevirtual 34, 3), (17, .astore_n 3, 1), (18, .aload_n 3, 1), (19, .ifnull 30, 3), (22, .aload_n 3, 1), (23, .getfield 64, 3), (26, .ifCond .eq 23, 3), (29, .aload_n 3, 1), (30, .getfield 64, 3), (33, .aload_n 0, 1), (34, .getfield 31, 3), (37, .iconst (-1), 1), (38, .ixor, 1), (39, .iand, 1), (40, .ifCond .ne 9, 3), (43, .iload_n 1, 1), (44, .iconst 1, 1), (45, .iload_n 2, 1), (46, .ishl, 1), (47, .ior, 1), (48, .istore_n 1, 1), (49, .iinc 2 1, 3), (52, .goto (-48), 3), (55, .iload_n 1, 1), (56, .ireturn, 1)]
theorem dX0_baseless : iX0_baseless.all (fun q => decide (decode cX0_baseless q.1 = .ok q.2)) = true := by decide +kernel
abbrev wsX0_baseless : List Cond := .code yX0_baseless cX0_baseless 4 (some .int) :: wT
abbrev cX0_out : ByteArray := prog_2_method_24_code
def yX0_out : MethodName := ⟨"PointAnswers$Bundle", "out", "()I"⟩
def iX0_out : List (Nat × Instr × Nat) := [(0, .aload_n 0, 1), (1, .invokevirtual 98, 3), (4, .aload_n 0, 1), (5, .invokevirtual 100, 3), (8, .ior, 1), (9, .aload_n 0, 1), (10, .aload_n 0, 1), (11, .getfield 28, 3), (14, .invokevirtual 103, 3), (17, .ior, 1), (18, .aload_n 0, 1), (19, .invokevirtual 106, 3), (22, .ior, 1), (23, .ireturn, 1)]
theorem dX0_out : iX0_out.all (fun q => decide (decode cX0_out q.1 = .ok q.2)) = true := by decide +kernel
abbrev wsX0_out : List Cond := .code yX0_out cX0_out 1 (some .int) :: wT
abbrev cX6_has : ByteArray := prog_1_method_27_code
def yX6_has : MethodName := ⟨"PointAnswers", "has", "(II)Z"⟩
def iX6_has : List (Nat × Instr × Nat) := [(0, .iload_n 0, 1), (1, .iload_n 1, 1), (2, .iushr, 1), (3, .iconst 1, 1), (4, .iand, 1), (5, .iconst 1, 1), (6, .if_icmp .ne 7, 3), (9, .iconst 1, 1), (10, .goto 4, 3), (13, .iconst 0, 1), (14, .ireturn, 1)]
theorem dX6_has : iX6_has.all (fun q => decide (decode cX6_has q.1 = .ok q.2)) = true := by decide +kernel
abbrev wsX6_has : List Cond := .code yX6_has cX6_has 2 (some .boolean) :: wT
abbrev cX0_targetOf : ByteArray := prog_2_method_18_code
def yX0_targetOf : MethodName := ⟨"PointAnswers$Bundle", "targetOf", "(I)I"⟩
def iX0_targetOf : List (Nat × Instr × Nat) := [(0, .aload_n 0, 1), (1, .iload_n 1, 1), (2, .invokevirtual 34, 3), (5, .astore_n 2, 1), (6, .aload_n 2, 1), (7, .ifnull 12, 3), (10, .aload_n 2, 1), (11, .getfield 67, 3), (14, .bipush (-6), 2), (16, .if_icmp .ne 7, 3), (19, .iconst 0, 1), (20, .goto 9, 3), (23, .iconst 1, 1), (24, .aload_n 2, 1), (25, .getfield 67, 3), (28, .ishl, 1), (29, .ireturn, 1)]
theorem dX0_targetOf : iX0_targetOf.all (fun q => decide (decode cX0_targetOf q.1 = .ok q.2)) = true := by decide +kernel
abbrev wsX0_targetOf : List Cond := .code yX0_targetOf cX0_targetOf 3 (some .int) :: wT
abbrev cX0_standingIf : ByteArray := prog_2_method_27_code
def yX0_standingIf : MethodName := ⟨"PointAnswers$Bundle", "standingIf", "(II)I"⟩
def iX0_standingIf : List (Nat × Instr × Nat) := [(0, .iload_n 2, 1), (1, .istore_n 3, 1), (2, .iconst 0, 1), (3, .istore 4, 2), (5, .aload_n 0, 1), (6, .getfield 25, 3), (9, .iconst 1, 1), (10, .isub, 1), (11, .istore 5, 2), (13, .iload 5, 2), (15, .ifCond .lt 38, 3), (18, .iload_n 1, 1), (19, .iload_n 3, 1), (20, .ior, 1), (21, .iload 5, 2), (23, .invokestatic 86, 3), (26, .ifCond .ne 21, 3), (29, .iload 4, 2), (31, .iconst 1, 1), (32, .iload 5, 2), (34, .ishl, 1), (35, .ior, 1), (36, .istore 4, 2), (38, .iload_n 3, 1), (39, .aload_n 0, 1), (40, .iload 5, 2), (42, .invokevirtual 95, 3), (45, .ior, 1), (46, .istore_n 3, 1), (47, .iinc 5 (-1), 3), (50, .goto (-37), 3), (53, .iload 4, 2), (55, .ireturn, 1)]
theorem dX0_standingIf : iX0_standingIf.all (fun q => decide (decode cX0_standingIf q.1 = .ok q.2)) = true := by decide +kernel
abbrev wsX0_standingIf : List Cond := .code yX0_standingIf cX0_standingIf 6 (some .int) :: wT
abbrev cX0_standing : ByteArray := prog_2_method_25_code
def yX0_standing : MethodName := ⟨"PointAnswers$Bundle", "standing", "()I"⟩
def iX0_standing : List (Nat × Instr × Nat) := [(0, .aload_n 0, 1), (1, .aload_n 0, 1), (2, .invokevirtual 109, 3), (5, .iconst 0, 1), (6, .invokevirtual 112, 3), (9, .ireturn, 1)]
theorem dX0_standing : iX0_standing.all (fun q => decide (decode cX0_standing q.1 = .ok q.2)) = true := by decide +kernel
abbrev wsX0_standing : List Cond := .code yX0_standing cX0_standing 1 (some .int) :: wT
abbrev cJ6_bitCount_0f7a4 : ByteArray := prog_10_method_49_code
def yJ6_bitCount_0f7a4 : MethodName := ⟨"java/lang/Integer", "bitCount", "(I)I"⟩
def iJ6_bitCount_0f7a4 : List (Nat × Instr × Nat) := [(0, .iload_n 0, 1), (1, .iload_n 0, 1), (2, .iconst 1, 1), (3, .iushr, 1), (4, .ldc_w 265, 3), (7, .iand, 1), (8, .isub, 1), (9, .istore_n 0, 1), (10, .iload_n 0, 1), (11, .ldc_w 266, 3), (14, .iand, 1), (15, .iload_n 0, 1), (16, .iconst 2, 1), (17, .iushr, 1), (18, .ldc_w 266, 3), (21, .iand, 1), (22, .iadd, 1), (23, .istore_n 0, 1), (24, .iload_n 0, 1), (25, .iload_n 0, 1), (26, .iconst 4, 1), (27, .iushr, 1), (28, .iadd, 1), (29, .ldc_w 267, 3), (32, .iand, 1), (33, .istore_n 0, 1), (34, .iload_n 0, 1), (35, .iload_n 0, 1), (36, .bipush 8, 2), (38, .iushr, 1), (39, .iadd, 1), (40, .istore_n 0, 1), (41, .iload_n 0, 1), (42, .iload_n 0, 1), (43, .bipush 16, 2), (45, .iushr, 1), (46, .iadd, 1), (47, .istore_n 0, 1), (48, .iload_n 0, 1), (49, .bipush 63, 2), (51, .iand, 1), (52, .ireturn, 1)]
theorem dJ6_bitCount_0f7a4 : iJ6_bitCount_0f7a4.all (fun q => decide (decode cJ6_bitCount_0f7a4 q.1 = .ok q.2)) = true := by decide +kernel
abbrev wsJ6_bitCount_0f7a4 : List Cond := .code yJ6_bitCount_0f7a4 cJ6_bitCount_0f7a4 1 (some .int) :: wT
abbrev cX0_takeBack : ByteArray := prog_2_method_10_code
def yX0_takeBack : MethodName := ⟨"PointAnswers$Bundle", "takeBack", "(I)I"⟩
def iX0_takeBack : List (Nat × Instr × Nat) := [(0, .aload_n 0, 1), (1, .iload_n 1, 1), (2, .invokevirtual 34, 3), (5, .astore_n 2, 1), (6, .aload_n 2, 1), (7, .ifnonnull 5, 3), (10, .iconst (-1), 1), (11, .ireturn, 1), (12, .aload_n 2, 1), (13, .getfield 54, 3), (16, .ifCond .eq 6, 3), (19, .bipush (-5), 2), (21, .ireturn, 1), (22, .aload_n 2, 1), (23, .iconst 1, 1), (24, .putfield 54, 3), (27, .aload_n 0, 1), (28, .invokevirtual 76, 3), (31, .invokestatic 80, 3), (34, .ireturn, 1)]
theorem dX0_takeBack : iX0_takeBack.all (fun q => decide (decode cX0_takeBack q.1 = .ok q.2)) = true := by decide +kernel
abbrev wsX0_takeBack : List Cond := .code yX0_takeBack cX0_takeBack 3 (some .int) :: wT
abbrev cX0_prolong : ByteArray := prog_2_method_11_code
def yX0_prolong : MethodName := ⟨"PointAnswers$Bundle", "prolong", "(I)I"⟩
def iX0_prolong : List (Nat × Instr × Nat) := [(0, .aload_n 0, 1), (1, .iload_n 1, 1), (2, .invokevirtual 34, 3), (5, .astore_n 2, 1), (6, .aload_n 2, 1), (7, .ifnonnull 5, 3), (10, .iconst (-1), 1), (11, .ireturn, 1), (12, .aload_n 2, 1), (13, .getfield 67, 3), (16, .bipush (-6), 2), (18, .if_icmp .eq 10, 3), (21, .aload_n 2, 1), (22, .getfield 54, 3), (25, .ifCond .eq 6, 3), (28, .bipush (-5), 2), (30, .ireturn, 1), (31, .aload_n 0, 1), (32, .getfield 28, 3), (35, .aload_n 2, 1), (36, .getfield 73, 3), (39, .isub, 1), (40, .istore_n 3, 1), (41, .aload_n 2, 1), (42, .aload_n 0, 1), (43, .getfield 28, 3), (46, .putfield 73, 3), (49, .iload_n 3, 1), (50, .ireturn, 1)]
theorem dX0_prolong : iX0_prolong.all (fun q => decide (decode cX0_prolong q.1 = .ok q.2)) = true := by decide +kernel
abbrev wsX0_prolong : List Cond := .code yX0_prolong cX0_prolong 4 (some .int) :: wT
abbrev cX0_turnCase : ByteArray := prog_2_method_12_code
def yX0_turnCase : MethodName := ⟨"PointAnswers$Bundle", "turnCase", "(I)I"⟩
def iX0_turnCase : List (Nat × Instr × Nat) := [(0, .iload_n 1, 1), (1, .ifCond .lt 9, 3), (4, .iload_n 1, 1), (5, .bipush 10, 2), (7, .if_icmp .lt 5, 3), (10, .iconst (-1), 1), (11, .ireturn, 1), (12, .aload_n 0, 1), (13, .dup, 1), (14, .getfield 31, 3), (17, .iconst 1, 1), (18, .iload_n 1, 1), (19, .ishl, 1), (20, .ixor, 1), (21, .putfield 31, 3), (24, .aload_n 0, 1), (25, .getfield 31, 3), (28, .iload_n 1, 1), (29, .invokestatic 86, 3), (32, .ifCond .eq 7, 3), (35, .iconst 1, 1), (36, .goto 4, 3), (39, .iconst 0, 1), (40, .ireturn, 1)]
theorem dX0_turnCase : iX0_turnCase.all (fun q => decide (decode cX0_turnCase q.1 = .ok q.2)) = true := by decide +kernel
abbrev wsX0_turnCase : List Cond := .code yX0_turnCase cX0_turnCase 2 (some .int) :: wT
abbrev cX0_moveOn : ByteArray := prog_2_method_13_code
def yX0_moveOn : MethodName := ⟨"PointAnswers$Bundle", "moveOn", "(I)I"⟩
def iX0_moveOn : List (Nat × Instr × Nat) := [(0, .iload_n 1, 1), (1, .iconst 1, 1), (2, .if_icmp .lt 9, 3), (5, .iload_n 1, 1), (6, .bipush 99, 2), (8, .if_icmp .le 6, 3), (11, .bipush (-2), 2), (13, .ireturn, 1), (14, .aload_n 0, 1), (15, .getfield 28, 3), (18, .iload_n 1, 1), (19, .iadd, 1), (20, .sipush 999, 3), (23, .if_icmp .le 6, 3), (26, .bipush (-5), 2), (28, .ireturn, 1), (29, .aload_n 0, 1), (30, .dup, 1), (31, .getfield 28, 3), (34, .iload_n 1, 1), (35, .iadd, 1), (36, .putfield 28, 3), (39, .aload_n 0, 1), (40, .invokevirtual 76, 3), (43, .invokestatic 80, 3), (46, .ireturn, 1)]
theorem dX0_moveOn : iX0_moveOn.all (fun q => decide (decode cX0_moveOn q.1 = .ok q.2)) = true := by decide +kernel
abbrev wsX0_moveOn : List Cond := .code yX0_moveOn cX0_moveOn 2 (some .int) :: wT
abbrev cX0_all : ByteArray := prog_2_method_14_code
def yX0_all : MethodName := ⟨"PointAnswers$Bundle", "all", "()I"⟩
def iX0_all : List (Nat × Instr × Nat) := [(0, .iconst 1, 1), (1, .aload_n 0, 1), (2, .getfield 25, 3), (5, .ishl, 1), (6, .iconst 1, 1), (7, .isub, 1), (8, .ireturn, 1)]
theorem dX0_all : iX0_all.all (fun q => decide (decode cX0_all q.1 = .ok q.2)) = true := by decide +kernel
abbrev wsX0_all : List Cond := .code yX0_all cX0_all 1 (some .int) :: wT
abbrev cX0_answersTo : ByteArray := prog_2_method_16_code
def yX0_answersTo : MethodName := ⟨"PointAnswers$Bundle", "answersTo", "(I)I"⟩
def iX0_answersTo : List (Nat × Instr × Nat) := [(0, .iconst 0, 1), (1, .istore_n 2, 1), (2, .iconst 0, 1), (3, .istore_n 3, 1), (4, .iload_n 3, 1), (5, .aload_n 0, 1), (6, .getfield 25, 3), (9, .if_icmp .ge 36, 3), (12, .aload_n 0, 1), (13, .iload_n 3, 1), (14, .invokevirtual 34, 3), (17, .astore 4, 2), (19, .aload 4, 2), (21, .ifnull 18, 3), (24, .aload 4, 2), (26, .getfield 67, 3), (29, .iload_n 1, 1), (30, .if_icmp .ne 9, 3), (33, .iload_n 2, 1), (34, .iconst 1, 1), (35, .iload_n 3, 1), (36, .ishl, 1), (37, .ior, 1), (38, .istore_n 2, 1), (39, .iinc 3 1, 3), (42, .goto (-38), 3), (45, .iload_n 2, 1), (46, .ireturn, 1)]
theorem dX0_answersTo : iX0_answersTo.all (fun q => decide (decode cX0_answersTo q.1 = .ok q.2)) = true := by decide +kernel
abbrev wsX0_answersTo : List Cond := .code yX0_answersTo cX0_answersTo 5 (some .int) :: wT
abbrev cX0_claims : ByteArray := prog_2_method_15_code
def yX0_claims : MethodName := ⟨"PointAnswers$Bundle", "claims", "()I"⟩
def iX0_claims : List (Nat × Instr × Nat) := [(0, .aload_n 0, 1), (1, .bipush (-6), 2), (3, .invokevirtual 89, 3), (6, .ireturn, 1)]
theorem dX0_claims : iX0_claims.all (fun q => decide (decode cX0_claims q.1 = .ok q.2)) = true := by decide +kernel
abbrev wsX0_claims : List Cond := .code yX0_claims cX0_claims 1 (some .int) :: wT
abbrev cX0_withoutAnswers : ByteArray := prog_2_method_17_code
def yX0_withoutAnswers : MethodName := ⟨"PointAnswers$Bundle", "withoutAnswers", "()I"⟩
def iX0_withoutAnswers : List (Nat × Instr × Nat) := [(0, .aload_n 0, 1), (1, .invokevirtual 92, 3), (4, .istore_n 1, 1), (5, .iconst 0, 1), (6, .istore_n 2, 1), (7, .iload_n 2, 1), (8, .aload_n 0, 1), (9, .getfield 25, 3), (12, .if_icmp .ge 19, 3), (15, .iload_n 1, 1), (16, .aload_n 0, 1), (17, .iload_n 2, 1), (18, .invokevirtual 95, 3), (21, .iconst (-1), 1), (22, .ixor, 1), (23, .iand, 1), (24, .istore_n 1, 1), (25, .iinc 2 1, 3), (28, .goto (-21), 3), (31, .iload_n 1, 1), (32, .ireturn, 1)]
theorem dX0_withoutAnswers : iX0_withoutAnswers.all (fun q => decide (decode cX0_withoutAnswers q.1 = .ok q.2)) = true := by decide +kernel
abbrev wsX0_withoutAnswers : List Cond := .code yX0_withoutAnswers cX0_withoutAnswers 3 (some .int) :: wT
abbrev cX0_ofSide : ByteArray := prog_2_method_19_code
def yX0_ofSide : MethodName := ⟨"PointAnswers$Bundle", "ofSide", "(I)I"⟩
def iX0_ofSide : List (Nat × Instr × Nat) := [(0, .iconst 0, 1), (1, .istore_n 2, 1), (2, .iconst 0, 1), (3, .istore_n 3, 1), (4, .iload_n 3, 1), (5, .aload_n 0, 1), (6, .getfield 25, 3), (9, .if_icmp .ge 36, 3), (12, .aload_n 0, 1), (13, .iload_n 3, 1), (14, .invokevirtual 34, 3), (17, .astore 4, 2), (19, .aload 4, 2), (21, .ifnull 18, 3), (24, .aload 4, 2), (26, .getfield 58, 3), (29, .iload_n 1, 1), (30, .if_icmp .ne 9, 3), (33, .iload_n 2, 1), (34, .iconst 1, 1), (35, .iload_n 3, 1), (36, .ishl, 1), (37, .ior, 1), (38, .istore_n 2, 1), (39, .iinc 3 1, 3), (42, .goto (-38), 3), (45, .iload_n 2, 1), (46, .ireturn, 1)]
theorem dX0_ofSide : iX0_ofSide.all (fun q => decide (decode cX0_ofSide q.1 = .ok q.2)) = true := by decide +kernel
abbrev wsX0_ofSide : List Cond := .code yX0_ofSide cX0_ofSide 5 (some .int) :: wT
abbrev cX0_answered : ByteArray := prog_2_method_26_code
def yX0_answered : MethodName := ⟨"PointAnswers$Bundle", "answered", "()I"⟩
def iX0_answered : List (Nat × Instr × Nat) := [(0, .aload_n 0, 1), (1, .invokevirtual 92, 3), (4, .aload_n 0, 1), (5, .invokevirtual 109, 3), (8, .iconst (-1), 1), (9, .ixor, 1), (10, .iand, 1), (11, .aload_n 0, 1), (12, .invokevirtual 76, 3), (15, .iconst (-1), 1), (16, .ixor, 1), (17, .iand, 1), (18, .ireturn, 1)]
theorem dX0_answered : iX0_answered.all (fun q => decide (decode cX0_answered q.1 = .ok q.2)) = true := by decide +kernel
abbrev wsX0_answered : List Cond := .code yX0_answered cX0_answered 1 (some .int) :: wT
abbrev cX0_reasonAgainst : ByteArray := prog_2_method_28_code
def yX0_reasonAgainst : MethodName := ⟨"PointAnswers$Bundle", "reasonAgainst", "(I)I"⟩
def iX0_reasonAgainst : List (Nat × Instr × Nat) := [(0, .aload_n 0, 1), (1, .invokevirtual 98, 3), (4, .iload_n 1, 1), (5, .invokestatic 86, 3), (8, .ifCond .eq 5, 3), (11, .iconst 1, 1), (12, .ireturn, 1), (13, .aload_n 0, 1), (14, .invokevirtual 100, 3), (17, .iload_n 1, 1), (18, .invokestatic 86, 3), (21, .ifCond .eq 5, 3), (24, .iconst 2, 1), (25, .ireturn, 1), (26, .aload_n 0, 1), (27, .aload_n 0, 1), (28, .getfield 28, 3), (31, .invokevirtual 103, 3), (34, .iload_n 1, 1), (35, .invokestatic 86, 3), (38, .ifCond .eq 5, 3), (41, .iconst 3, 1), (42, .ireturn, 1), (43, .aload_n 0, 1), (44, .invokevirtual 106, 3), (47, .iload_n 1, 1), (48, .invokestatic 86, 3), (51, .ifCond .eq 5, 3), (54, .iconst 4, 1), (55, .ireturn, 1), (56, .aload_n 0, 1), (57, .invokevirtual 76, 3), (60, .iload_n 1, 1), (61, .invokestatic 86, 3), (64, .ifCond .eq 7, 3), (67, .iconst 0, 1), (68, .goto 4, 3), (71, .iconst 5, 1), (72, .ireturn, 1)]
theorem dX0_reasonAgainst : iX0_reasonAgainst.all (fun q => decide (decode cX0_reasonAgainst q.1 = .ok q.2)) = true := by decide +kernel
abbrev wsX0_reasonAgainst : List Cond := .code yX0_reasonAgainst cX0_reasonAgainst 2 (some .int) :: wT
abbrev cX0_depthOf : ByteArray := prog_2_method_29_code
def yX0_depthOf : MethodName := ⟨"PointAnswers$Bundle", "depthOf", "(I)I"⟩
def iX0_depthOf : List (Nat × Instr × Nat) := [(0, .iconst 0, 1), (1, .istore_n 2, 1), (2, .aload_n 0, 1), (3, .iload_n 1, 1), (4, .invokevirtual 34, 3), (7, .astore_n 3, 1), (8, .iload_n 2, 1), (9, .bipush 24, 2), (11, .if_icmp .ge 31, 3), (14, .aload_n 3, 1), (15, .ifnull 27, 3), (18, .aload_n 3, 1), (19, .getfield 67, 3), (22, .bipush (-6), 2), (24, .if_icmp .eq 18, 3), (27, .iinc 2 1, 3), (30, .aload_n 0, 1), (31, .aload_n 3, 1), (32, .getfield 67, 3), (35, .invokevirtual 34, 3), (38, .astore_n 3, 1), (39, .goto (-31), 3), (42, .iload_n 2, 1), (43, .ireturn, 1)]
theorem dX0_depthOf : iX0_depthOf.all (fun q => decide (decode cX0_depthOf q.1 = .ok q.2)) = true := by decide +kernel
abbrev wsX0_depthOf : List Cond := .code yX0_depthOf cX0_depthOf 4 (some .int) :: wT
abbrev cX0_daysLeft : ByteArray := prog_2_method_30_code
def yX0_daysLeft : MethodName := ⟨"PointAnswers$Bundle", "daysLeft", "(LPointAnswers$Point;)I"⟩
def iX0_daysLeft : List (Nat × Instr × Nat) := [(0, .aload_n 1, 1), (1, .getfield 73, 3), (4, .aload_n 0, 1), (5, .getfield 17, 3), (8, .iadd, 1), (9, .aload_n 0, 1), (10, .getfield 28, 3), (13, .isub, 1), (14, .istore_n 2, 1), (15, .aload_n 1, 1), (16, .getfield 67, 3), (19, .bipush (-6), 2), (21, .if_icmp .eq 7, 3), (24, .iload_n 2, 1), (25, .ifCond .ge 8, 3), (28, .bipush (-6), 2), (30, .goto 4, 3), (33, .iload_n 2, 1), (34, .ireturn, 1)]
theorem dX0_daysLeft : iX0_daysLeft.all (fun q => decide (decode cX0_daysLeft q.1 = .ok q.2)) = true := by decide +kernel
abbrev wsX0_daysLeft : List Cond := .code yX0_daysLeft cX0_daysLeft 3 (some .int) :: wT
abbrev cX0_pagesOf : ByteArray := prog_2_method_31_code
def yX0_pagesOf : MethodName := ⟨"PointAnswers$Bundle", "pagesOf", "(II)I"⟩
def iX0_pagesOf : List (Nat × Instr × Nat) := [(0, .iconst 0, 1), (1, .istore_n 3, 1), (2, .iconst 0, 1), (3, .istore 4, 2), (5, .iload 4, 2), (7, .aload_n 0, 1), (8, .getfield 25, 3), (11, .if_icmp .ge 48, 3), (14, .aload_n 0, 1), (15, .iload 4, 2), (17, .invokevirtual 34, 3), (20, .astore 5, 2), (22, .aload 5, 2), (24, .ifnull 29, 3), (27, .aload 5, 2), (29, .getfield 58, 3), (32, .iload_n 1, 1), (33, .if_icmp .ne 20, 3), (36, .iload_n 2, 1), (37, .iload 4, 2), (39, .invokestatic 86, 3), (42, .ifCond .ne 11, 3), (45, .iload_n 3, 1), (46, .aload 5, 2), (48, .getfield 61, 3), (51, .iadd, 1), (52, .istore_n 3, 1), (53, .iinc 4 1, 3), (56, .goto (-51), 3), (59, .iload_n 3, 1), (60, .ireturn, 1)]
theorem dX0_pagesOf : iX0_pagesOf.all (fun q => decide (decode cX0_pagesOf q.1 = .ok q.2)) = true := by decide +kernel
abbrev wsX0_pagesOf : List Cond := .code yX0_pagesOf cX0_pagesOf 6 (some .int) :: wT
abbrev cX1_init : ByteArray := prog_3_method_1_code
def yX1_init : MethodName := ⟨"PointAnswers$Costs", "<init>", "()V"⟩
def iX1_init : List (Nat × Instr × Nat) := [(0, .aload_n 0, 1), (1, .invokespecial 3, 3), (4, .aload_n 0, 1), (5, .bipush 24, 2), (7, .newarray .int, 2), (9, .putfield 9, 3), (12, .aload_n 0, 1), (13, .bipush 24, 2), (15, .newarray .int, 2), (17, .putfield 15, 3), (20, .return_, 1)]
theorem dX1_init : iX1_init.all (fun q => decide (decode cX1_init q.1 = .ok q.2)) = true := by decide +kernel
abbrev wsX1_init : List Cond := .code yX1_init cX1_init 1 none :: wT
abbrev cX1_addToTarget : ByteArray := prog_3_method_3_code
def yX1_addToTarget : MethodName := ⟨"PointAnswers$Costs", "addToTarget", "(III)V"⟩
def iX1_addToTarget : List (Nat × Instr × Nat) := [(0, .iload_n 1, 1), (1, .ifCond .lt 45, 3), (4, .iload_n 1, 1), (5, .bipush 24, 2), (7, .if_icmp .ge 39, 3), (10, .aload_n 0, 1), (11, .getfield 9, 3), (14, .iload_n 1, 1), (15, .aload_n 0, 1), (16, .getfield 9, 3), (19, .iload_n 1, 1), (20, .iaload, 1), (21, .iload_n 3, 1), (22, .invokestatic 45, 3), (25, .iastore, 1), (26, .aload_n 0, 1), (27, .getfield 15, 3), (30, .iload_n 1, 1), (31, .sipush 1000, 3), (34, .aload_n 0, 1), (35, .getfield 15, 3), (38, .iload_n 1, 1), (39, .iaload, 1), (40, .iload_n 2, 1), (41, .iadd, 1), (42, .invokestatic 45, 3), (45, .iastore, 1), (46, .return_, 1)]
theorem dX1_addToTarget : iX1_addToTarget.all (fun q => decide (decode cX1_addToTarget q.1 = .ok q.2)) = true := by decide +kernel
abbrev wsX1_addToTarget : List Cond := .code yX1_addToTarget cX1_addToTarget 4 none :: wT
abbrev cX1_weigh : ByteArray := prog_3_method_2_code
def yX1_weigh : MethodName := ⟨"PointAnswers$Costs", "weigh", "(LPointAnswers$Bundle;)V"⟩
def iX1_weigh : List (Nat × Instr × Nat) := [(0, .aload_n 1, 1), (1, .invokevirtual 18, 3), (4, .istore_n 2, 1), (5, .aload_n 1, 1), (6, .invokevirtual 24, 3), (9, .istore_n 3, 1), (10, .iconst 0, 1), (11, .istore 4, 2), (13, .iload 4, 2), (15, .bipush 24, 2), (17, .if_icmp .ge 27, 3), (20, .aload_n 0, 1), (21, .getfield 9, 3), (24, .iload 4, 2), (26, .sipush 1000, 3), (29, .iastore, 1), (30, .aload_n 0, 1), (31, .getfield 15, 3), (34, .iload 4, 2), (36, .iconst 0, 1), (37, .iastore, 1), (38, .iinc 4 1, 3), (41, .goto (-28), 3), (44, .bipush 23, 2), (46, .istore 4, 2), (48, .iload 4, 2), (50, .ifCond .lt 95, 3), (53, .aload_n 1, 1), (54, .iload 4, 2), (56, .invokevirtual 27, 3), (59, .astore 5, 2), (61, .aload 5, 2), (63, .ifnonnull 6, 3), (66, .goto 73, 3), (69, .iload_n 2, 1), (70, .iload 4, 2), (72, .invokestatic 31, 3), (75, .ifCond .eq 24, 3), (78, .aload_n 0, 1), (79, .getfield 9, 3), (82, .iload 4, 2), (84, .iconst 0, 1), (85, .iastore, 1), (86, .aload_n 0, 1), (87, .getfield 15, 3), (90, .iload 4, 2), (92, .sipush 1000, 3), (95, .iastore, 1), (96, .goto 20, 3), (99, .iload_n 3, 1), (100, .iload 4, 2), (102, .invokestatic 31, 3), (105, .ifCond .eq 11, 3), (108, .aload_n 0, 1), (109, .getfield 9, 3), (112, .iload 4, 2), (114, .iconst 1, 1), (115, .iastore, 1), (116, .aload_n 0, 1), (117, .aload 5, 2), (119, .getfield 35, 3), (122, .aload_n 0, 1), (123, .getfield 9, 3), (126, .iload 4, 2), (128, .iaload, 1), (129, .aload_n 0, 1), (130, .getfield 15, 3), (133, .iload 4, 2), (135, .iaload, 1), (136, .invokevirtual 41, 3), (139, .iinc 4 (-1), 3), (142, .goto (-94), 3), (145, .return_, 1)]
theorem dX1_weigh : iX1_weigh.all (fun q => decide (decode cX1_weigh q.1 = .ok q.2)) = true := by decide +kernel
abbrev wsX1_weigh : List Cond := .code yX1_weigh cX1_weigh 6 none :: wT
abbrev cX1_reachable : ByteArray := prog_3_method_6_code
def yX1_reachable : MethodName := ⟨"PointAnswers$Costs", "reachable", "(I)I"⟩
def iX1_reachable : List (Nat × Instr × Nat) := [(0, .iload_n 0, 1), (1, .sipush 1000, 3), (4, .if_icmp .lt 8, 3), (7, .bipush (-6), 2), (9, .goto 4, 3), (12, .iload_n 0, 1), (13, .ireturn, 1)]
theorem dX1_reachable : iX1_reachable.all (fun q => decide (decode cX1_reachable q.1 = .ok q.2)) = true := by decide +kernel
abbrev wsX1_reachable : List Cond := .code yX1_reachable cX1_reachable 1 (some .int) :: wT
abbrev cX1_answersToFall : ByteArray := prog_3_method_4_code
def yX1_answersToFall : MethodName := ⟨"PointAnswers$Costs", "answersToFall", "(I)I"⟩
def iX1_answersToFall : List (Nat × Instr × Nat) := [(0, .iload_n 1, 1), (1, .ifCond .lt 18, 3), (4, .iload_n 1, 1), (5, .bipush 24, 2), (7, .if_icmp .ge 12, 3), (10, .aload_n 0, 1), (11, .getfield 9, 3), (14, .iload_n 1, 1), (15, .iaload, 1), (16, .goto 6, 3), (19, .sipush 1000, 3), (22, .invokestatic 51, 3), (25, .ireturn, 1)]
theorem dX1_answersToFall : iX1_answersToFall.all (fun q => decide (decode cX1_answersToFall q.1 = .ok q.2)) = true := by decide +kernel
abbrev wsX1_answersToFall : List Cond := .code yX1_answersToFall cX1_answersToFall 2 (some .int) :: wT
abbrev cX1_answersToStand : ByteArray := prog_3_method_5_code
def yX1_answersToStand : MethodName := ⟨"PointAnswers$Costs", "answersToStand", "(I)I"⟩
def iX1_answersToStand : List (Nat × Instr × Nat) := [(0, .iload_n 1, 1), (1, .ifCond .lt 18, 3), (4, .iload_n 1, 1), (5, .bipush 24, 2), (7, .if_icmp .ge 12, 3), (10, .aload_n 0, 1), (11, .getfield 15, 3), (14, .iload_n 1, 1), (15, .iaload, 1), (16, .goto 6, 3), (19, .sipush 1000, 3), (22, .invokestatic 51, 3), (25, .ireturn, 1)]
theorem dX1_answersToStand : iX1_answersToStand.all (fun q => decide (decode cX1_answersToStand q.1 = .ok q.2)) = true := by decide +kernel
abbrev wsX1_answersToStand : List Cond := .code yX1_answersToStand cX1_answersToStand 2 (some .int) :: wT
abbrev cX2_init : ByteArray := prog_4_method_1_code
def yX2_init : MethodName := ⟨"PointAnswers$History", "<init>", "()V"⟩
def iX2_init : List (Nat × Instr × Nat) := [(0, .aload_n 0, 1), (1, .invokespecial 3, 3), (4, .aload_n 0, 1), (5, .bipush 7, 2), (7, .anewarray 9, 3), (10, .putfield 11, 3), (13, .iconst 0, 1), (14, .istore_n 1, 1), (15, .iload_n 1, 1), (16, .aload_n 0, 1), (17, .getfield 11, 3), (20, .arraylength, 1), (21, .if_icmp .ge 22, 3), (24, .aload_n 0, 1), (25, .getfield 11, 3), (28, .iload_n 1, 1), (29, .new 9, 3), (32, .dup, 1), (33, .invokespecial 17, 3), (36, .aastore, 1), (37, .iinc 1 1, 3), (40, .goto (-25), 3), (43, .return_, 1)]
theorem dX2_init : iX2_init.all (fun q => decide (decode cX2_init q.1 = .ok q.2)) = true := by decide +kernel
abbrev wsX2_init : List Cond := .code yX2_init cX2_init 2 none :: wT
abbrev cX2_rowAt : ByteArray := prog_4_method_2_code
def yX2_rowAt : MethodName := ⟨"PointAnswers$History", "rowAt", "(I)LPointAnswers$Bundle;"⟩
def iX2_rowAt : List (Nat × Instr × Nat) := [(0, .iload_n 1, 1), (1, .ifCond .lt 21, 3), (4, .iload_n 1, 1), (5, .aload_n 0, 1), (6, .getfield 11, 3), (9, .arraylength, 1), (10, .if_icmp .ge 12, 3), (13, .aload_n 0, 1), (14, .getfield 11, 3), (17, .iload_n 1, 1), (18, .aaload, 1), (19, .goto 4, 3), (22, .aconst_null, 1), (23, .areturn, 1)]
theorem dX2_rowAt : iX2_rowAt.all (fun q => decide (decode cX2_rowAt q.1 = .ok q.2)) = true := by decide +kernel
abbrev wsX2_rowAt : List Cond := .code yX2_rowAt cX2_rowAt 2 (some (.object "PointAnswers$Bundle")) :: wT
abbrev cX2_prepare : ByteArray := prog_4_method_3_code
def yX2_prepare : MethodName := ⟨"PointAnswers$History", "prepare", "(LPointAnswers$Bundle;)V"⟩
def iX2_prepare : List (Nat × Instr × Nat) := [(0, .aload_n 0, 1), (1, .aload_n 0, 1), (2, .getfield 18, 3), (5, .invokevirtual 22, 3), (8, .astore_n 2, 1), (9, .aload_n 2, 1), (10, .ifnull 8, 3), (13, .aload_n 2, 1), (14, .aload_n 1, 1), (15, .invokevirtual 26, 3), (18, .return_, 1)]
theorem dX2_prepare : iX2_prepare.all (fun q => decide (decode cX2_prepare q.1 = .ok q.2)) = true := by decide +kernel
abbrev wsX2_prepare : List Cond := .code yX2_prepare cX2_prepare 3 none :: wT
abbrev cX2_dropOldest : ByteArray := prog_4_method_5_code
def yX2_dropOldest : MethodName := ⟨"PointAnswers$History", "dropOldest", "()V"⟩
def iX2_dropOldest : List (Nat × Instr × Nat) := [(0, .aload_n 0, 1), (1, .iconst 0, 1), (2, .invokevirtual 22, 3), (5, .astore_n 1, 1), (6, .iconst 0, 1), (7, .istore_n 2, 1), (8, .iload_n 2, 1), (9, .bipush 6, 2), (11, .if_icmp .ge 23, 3), (14, .aload_n 0, 1), (15, .getfield 11, 3), (18, .iload_n 2, 1), (19, .aload_n 0, 1), (20, .getfield 11, 3), (23, .iload_n 2, 1), (24, .iconst 1, 1), (25, .iadd, 1), (26, .aaload, 1), (27, .aastore, 1), (28, .iinc 2 1, 3), (31, .goto (-23), 3), (34, .aload_n 0, 1), (35, .getfield 11, 3), (38, .bipush 6, 2), (40, .aload_n 1, 1), (41, .aastore, 1), (42, .return_, 1)]
theorem dX2_dropOldest : iX2_dropOldest.all (fun q => decide (decode cX2_dropOldest q.1 = .ok q.2)) = true := by decide +kernel
abbrev wsX2_dropOldest : List Cond := .code yX2_dropOldest cX2_dropOldest 3 none :: wT
abbrev cX2_settle : ByteArray := prog_4_method_4_code
def yX2_settle : MethodName := ⟨"PointAnswers$History", "settle", "(I)I"⟩
def iX2_settle : List (Nat × Instr × Nat) := [(0, .iload_n 1, 1), (1, .ifCond .lt 29, 3), (4, .aload_n 0, 1), (5, .getfield 18, 3), (8, .bipush 6, 2), (10, .if_icmp .ge 16, 3), (13, .aload_n 0, 1), (14, .dup, 1), (15, .getfield 18, 3), (18, .iconst 1, 1), (19, .iadd, 1), (20, .putfield 18, 3), (23, .goto 7, 3), (26, .aload_n 0, 1), (27, .invokevirtual 30, 3), (30, .iload_n 1, 1), (31, .ireturn, 1)]
theorem dX2_settle : iX2_settle.all (fun q => decide (decode cX2_settle q.1 = .ok q.2)) = true := by decide +kernel
abbrev wsX2_settle : List Cond := .code yX2_settle cX2_settle 2 (some .int) :: wT
abbrev cX2_bringBack : ByteArray := prog_4_method_6_code
def yX2_bringBack : MethodName := ⟨"PointAnswers$History", "bringBack", "(LPointAnswers$Bundle;)I"⟩
def iX2_bringBack : List (Nat × Instr × Nat) := [(0, .aload_n 0, 1), (1, .aload_n 0, 1), (2, .getfield 18, 3), (5, .iconst 1, 1), (6, .isub, 1), (7, .invokevirtual 22, 3), (10, .astore_n 2, 1), (11, .aload_n 2, 1), (12, .ifnonnull 6, 3), (15, .bipush (-5), 2), (17, .ireturn, 1), (18, .aload_n 1, 1), (19, .aload_n 2, 1), (20, .invokevirtual 26, 3), (23, .aload_n 0, 1), (24, .dup, 1), (25, .getfield 18, 3), (28, .iconst 1, 1), (29, .isub, 1), (30, .putfield 18, 3), (33, .aload_n 0, 1), (34, .getfield 18, 3), (37, .ireturn, 1)]
theorem dX2_bringBack : iX2_bringBack.all (fun q => decide (decode cX2_bringBack q.1 = .ok q.2)) = true := by decide +kernel
abbrev wsX2_bringBack : List Cond := .code yX2_bringBack cX2_bringBack 3 (some .int) :: wT
abbrev cX3_init : ByteArray := prog_5_method_1_code
def yX3_init : MethodName := ⟨"PointAnswers$Pad", "<init>", "()V"⟩
def iX3_init : List (Nat × Instr × Nat) := [(0, .aload_n 0, 1), (1, .invokespecial 3, 3), (4, .aload_n 0, 1), (5, .bipush 80, 2), (7, .newarray .char, 2), (9, .putfield 9, 3), (12, .return_, 1)]
theorem dX3_init : iX3_init.all (fun q => decide (decode cX3_init q.1 = .ok q.2)) = true := by decide +kernel
abbrev wsX3_init : List Cond := .code yX3_init cX3_init 1 none :: wT
abbrev cX3_empty : ByteArray := prog_5_method_2_code
def yX3_empty : MethodName := ⟨"PointAnswers$Pad", "empty", "()I"⟩
def iX3_empty : List (Nat × Instr × Nat) := [(0, .aload_n 0, 1), (1, .getfield 15, 3), (4, .istore_n 1, 1), (5, .aload_n 0, 1), (6, .iconst 0, 1), (7, .putfield 15, 3), (10, .iload_n 1, 1), (11, .ireturn, 1)]
theorem dX3_empty : iX3_empty.all (fun q => decide (decode cX3_empty q.1 = .ok q.2)) = true := by decide +kernel
abbrev wsX3_empty : List Cond := .code yX3_empty cX3_empty 2 (some .int) :: wT
abbrev cX3_signOf : ByteArray := prog_5_method_4_code
def yX3_signOf : MethodName := ⟨"PointAnswers$Pad", "signOf", "(JI)C"⟩
def iX3_signOf : List (Nat × Instr × Nat) := [(0, .lload_n 0, 1), (1, .bipush 8, 2), (3, .iload_n 2, 1), (4, .imul, 1), (5, .lushr, 1), (6, .ldc2_w 23, 3), (9, .land, 1), (10, .l2i, 1), (11, .i2c, 1), (12, .ireturn, 1)]
theorem dX3_signOf : iX3_signOf.all (fun q => decide (decode cX3_signOf q.1 = .ok q.2)) = true := by decide +kernel
abbrev wsX3_signOf : List Cond := .code yX3_signOf cX3_signOf 3 (some .char) :: wT
abbrev cX3_signsIn : ByteArray := prog_5_method_3_code
def yX3_signsIn : MethodName := ⟨"PointAnswers$Pad", "signsIn", "(J)I"⟩
def iX3_signsIn : List (Nat × Instr × Nat) := [(0, .iconst 0, 1), (1, .istore_n 2, 1), (2, .iload_n 2, 1), (3, .bipush 8, 2), (5, .if_icmp .ge 37, 3), (8, .lload_n 0, 1), (9, .iload_n 2, 1), (10, .invokestatic 19, 3), (13, .ifCond .eq 29, 3), (16, .lload_n 0, 1), (17, .iload_n 2, 1), (18, .invokestatic 19, 3), (21, .istore_n 3, 1), (22, .iload_n 3, 1), (23, .bipush 33, 2), (25, .if_icmp .lt 9, 3), (28, .iload_n 3, 1), (29, .bipush 126, 2), (31, .if_icmp .le 5, 3), (34, .iconst 0, 1), (35, .ireturn, 1), (36, .iinc 2 1, 3), (39, .goto (-37), 3), (42, .iload_n 2, 1), (43, .bipush 8, 2), (45, .if_icmp .ge 18, 3), (48, .lload_n 0, 1), (49, .bipush 8, 2), (51, .iload_n 2, 1), (52, .imul, 1), (53, .lushr, 1), (54, .lconst 0, 1), (55, .lcmp, 1), (56, .ifCond .eq 7, 3), (59, .iconst 1, 1), (60, .goto 4, 3), (63, .iconst 0, 1), (64, .istore_n 3, 1), (65, .iload_n 3, 1), (66, .ifCond .eq 7, 3), (69, .iconst 0, 1), (70, .goto 4, 3), (73, .iload_n 2, 1), (74, .ireturn, 1)]
theorem dX3_signsIn : iX3_signsIn.all (fun q => decide (decode cX3_signsIn q.1 = .ok q.2)) = true := by decide +kernel
abbrev wsX3_signsIn : List Cond := .code yX3_signsIn cX3_signsIn 4 (some .int) :: wT
abbrev cX3_append : ByteArray := prog_5_method_5_code
def yX3_append : MethodName := ⟨"PointAnswers$Pad", "append", "(C)V"⟩
def iX3_append : List (Nat × Instr × Nat) := [(0, .aload_n 0, 1), (1, .getfield 15, 3), (4, .ifCond .lt 32, 3), (7, .aload_n 0, 1), (8, .getfield 15, 3), (11, .bipush 80, 2), (13, .if_icmp .ge 23, 3), (16, .aload_n 0, 1), (17, .getfield 9, 3), (20, .aload_n 0, 1), (21, .getfield 15, 3), (24, .iload_n 1, 1), (25, .castore, 1), (26, .aload_n 0, 1), (27, .dup, 1), (28, .getfield 15, 3), (31, .iconst 1, 1), (32, .iadd, 1), (33, .putfield 15, 3), (36, .return_, 1)]
theorem dX3_append : iX3_append.all (fun q => decide (decode cX3_append q.1 = .ok q.2)) = true := by decide +kernel
abbrev wsX3_append : List Cond := .code yX3_append cX3_append 2 none :: wT
abbrev cX3_signAt : ByteArray := prog_5_method_6_code
def yX3_signAt : MethodName := ⟨"PointAnswers$Pad", "signAt", "(I)C"⟩
def iX3_signAt : List (Nat × Instr × Nat) := [(0, .iload_n 1, 1), (1, .ifCond .lt 26, 3), (4, .iload_n 1, 1), (5, .aload_n 0, 1), (6, .getfield 15, 3), (9, .if_icmp .ge 18, 3), (12, .iload_n 1, 1), (13, .bipush 80, 2), (15, .if_icmp .ge 12, 3), (18, .aload_n 0, 1), (19, .getfield 9, 3), (22, .iload_n 1, 1), (23, .caload, 1), (24, .goto 4, 3), (27, .iconst 0, 1), (28, .ireturn, 1)]
theorem dX3_signAt : iX3_signAt.all (fun q => decide (decode cX3_signAt q.1 = .ok q.2)) = true := by decide +kernel
abbrev wsX3_signAt : List Cond := .code yX3_signAt cX3_signAt 2 (some .char) :: wT
abbrev cX5_init : ByteArray := prog_7_method_1_code
def yX5_init : MethodName := ⟨"PointAnswers$Reader", "<init>", "()V"⟩
def iX5_init : List (Nat × Instr × Nat) := [(0, .aload_n 0, 1), (1, .invokespecial 3, 3), (4, .return_, 1)]
theorem dX5_init : iX5_init.all (fun q => decide (decode cX5_init q.1 = .ok q.2)) = true := by decide +kernel
abbrev wsX5_init : List Cond := .code yX5_init cX5_init 1 none :: wT
abbrev cX5_rewind : ByteArray := prog_7_method_2_code
def yX5_rewind : MethodName := ⟨"PointAnswers$Reader", "rewind", "()V"⟩
def iX5_rewind : List (Nat × Instr × Nat) := [(0, .aload_n 0, 1), (1, .iconst 0, 1), (2, .putfield 9, 3), (5, .return_, 1)]
theorem dX5_rewind : iX5_rewind.all (fun q => decide (decode cX5_rewind q.1 = .ok q.2)) = true := by decide +kernel
abbrev wsX5_rewind : List Cond := .code yX5_rewind cX5_rewind 1 none :: wT
abbrev cX5_takeDigit : ByteArray := prog_7_method_6_code
def yX5_takeDigit : MethodName := ⟨"PointAnswers$Reader", "takeDigit", "(LPointAnswers$Pad;CC)Z"⟩
def iX5_takeDigit : List (Nat × Instr × Nat) := [(0, .aload_n 1, 1), (1, .aload_n 0, 1), (2, .getfield 9, 3), (5, .invokevirtual 31, 3), (8, .istore 4, 2), (10, .iload 4, 2), (12, .iload_n 2, 1), (13, .if_icmp .lt 9, 3), (16, .iload 4, 2), (18, .iload_n 3, 1), (19, .if_icmp .le 5, 3), (22, .iconst 0, 1), (23, .ireturn, 1), (24, .aload_n 0, 1), (25, .iload 4, 2), (27, .bipush 48, 2), (29, .isub, 1), (30, .putfield 49, 3), (33, .aload_n 0, 1), (34, .dup, 1), (35, .getfield 9, 3), (38, .iconst 1, 1), (39, .iadd, 1), (40, .putfield 9, 3), (43, .iconst 1, 1), (44, .ireturn, 1)]
theorem dX5_takeDigit : iX5_takeDigit.all (fun q => decide (decode cX5_takeDigit q.1 = .ok q.2)) = true := by decide +kernel
abbrev wsX5_takeDigit : List Cond := .code yX5_takeDigit cX5_takeDigit 5 (some .boolean) :: wT
abbrev cX5_readDigit : ByteArray := prog_7_method_7_code
def yX5_readDigit : MethodName := ⟨"PointAnswers$Reader", "readDigit", "(LPointAnswers$Pad;CC)Z"⟩
def iX5_readDigit : List (Nat × Instr × Nat) := [(0, .aload_n 0, 1), (1, .aload_n 1, 1), (2, .iload_n 2, 1), (3, .iload_n 3, 1), (4, .invokevirtual 52, 3), (7, .ifCond .ne 5, 3), (10, .iconst 0, 1), (11, .ireturn, 1), (12, .aload_n 0, 1), (13, .aload_n 0, 1), (14, .getfield 49, 3), (17, .putfield 55, 3), (20, .iconst 1, 1), (21, .ireturn, 1)]
theorem dX5_readDigit : iX5_readDigit.all (fun q => decide (decode cX5_readDigit q.1 = .ok q.2)) = true := by decide +kernel
abbrev wsX5_readDigit : List Cond := .code yX5_readDigit cX5_readDigit 4 (some .boolean) :: wT
abbrev cX5_take : ByteArray := prog_7_method_5_code
def yX5_take : MethodName := ⟨"PointAnswers$Reader", "take", "(LPointAnswers$Pad;C)Z"⟩
def iX5_take : List (Nat × Instr × Nat) := [(0, .aload_n 1, 1), (1, .aload_n 0, 1), (2, .getfield 9, 3), (5, .invokevirtual 31, 3), (8, .iload_n 2, 1), (9, .if_icmp .eq 5, 3), (12, .iconst 0, 1), (13, .ireturn, 1), (14, .aload_n 0, 1), (15, .dup, 1), (16, .getfield 9, 3), (19, .iconst 1, 1), (20, .iadd, 1), (21, .putfield 9, 3), (24, .iconst 1, 1), (25, .ireturn, 1)]
theorem dX5_take : iX5_take.all (fun q => decide (decode cX5_take q.1 = .ok q.2)) = true := by decide +kernel
abbrev wsX5_take : List Cond := .code yX5_take cX5_take 3 (some .boolean) :: wT
abbrev cX5_readCites : ByteArray := prog_7_method_10_code
def yX5_readCites : MethodName := ⟨"PointAnswers$Reader", "readCites", "(LPointAnswers$Pad;)Z"⟩
def iX5_readCites : List (Nat × Instr × Nat) := [(0, .aload_n 0, 1), (1, .iconst 0, 1), (2, .putfield 64, 3), (5, .aload_n 0, 1), (6, .aload_n 1, 1), (7, .bipush 43, 2), (9, .invokevirtual 27, 3), (12, .ifCond .ne 5, 3), (15, .iconst 1, 1), (16, .ireturn, 1), (17, .iconst 0, 1), (18, .istore_n 2, 1), (19, .iload_n 2, 1), (20, .bipush 80, 2), (22, .if_icmp .ge 36, 3), (25, .aload_n 0, 1), (26, .aload_n 1, 1), (27, .bipush 48, 2), (29, .bipush 57, 2), (31, .invokevirtual 52, 3), (34, .ifCond .eq 24, 3), (37, .aload_n 0, 1), (38, .dup, 1), (39, .getfield 64, 3), (42, .iconst 1, 1), (43, .aload_n 0, 1), (44, .getfield 49, 3), (47, .ishl, 1), (48, .ior, 1), (49, .putfield 64, 3), (52, .iinc 2 1, 3), (55, .goto (-36), 3), (58, .aload_n 0, 1), (59, .getfield 64, 3), (62, .ifCond .eq 7, 3), (65, .iconst 1, 1), (66, .goto 4, 3), (69, .iconst 0, 1), (70, .ireturn, 1)]
theorem dX5_readCites : iX5_readCites.all (fun q => decide (decode cX5_readCites q.1 = .ok q.2)) = true := by decide +kernel
abbrev wsX5_readCites : List Cond := .code yX5_readCites cX5_readCites 3 (some .boolean) :: wT
abbrev cX5_readPaper : ByteArray := prog_7_method_9_code
def yX5_readPaper : MethodName := ⟨"PointAnswers$Reader", "readPaper", "(LPointAnswers$Pad;)Z"⟩
def iX5_readPaper : List (Nat × Instr × Nat) := [(0, .aload_n 0, 1), (1, .aload_n 1, 1), (2, .bipush 47, 2), (4, .invokevirtual 27, 3), (7, .ifCond .eq 15, 3), (10, .aload_n 0, 1), (11, .aload_n 1, 1), (12, .bipush 49, 2), (14, .bipush 57, 2), (16, .invokevirtual 52, 3), (19, .ifCond .ne 5, 3), (22, .iconst 0, 1), (23, .ireturn, 1), (24, .aload_n 0, 1), (25, .aload_n 0, 1), (26, .getfield 49, 3), (29, .putfield 58, 3), (32, .aload_n 0, 1), (33, .aload_n 1, 1), (34, .invokevirtual 61, 3), (37, .ireturn, 1)]
theorem dX5_readPaper : iX5_readPaper.all (fun q => decide (decode cX5_readPaper q.1 = .ok q.2)) = true := by decide +kernel
abbrev wsX5_readPaper : List Cond := .code yX5_readPaper cX5_readPaper 2 (some .boolean) :: wT
abbrev cX5_readNumber : ByteArray := prog_7_method_8_code
def yX5_readNumber : MethodName := ⟨"PointAnswers$Reader", "readNumber", "(LPointAnswers$Pad;)Z"⟩
def iX5_readNumber : List (Nat × Instr × Nat) := [(0, .aload_n 0, 1), (1, .aload_n 1, 1), (2, .bipush 48, 2), (4, .bipush 57, 2), (6, .invokevirtual 39, 3), (9, .ifCond .ne 5, 3), (12, .iconst 0, 1), (13, .ireturn, 1), (14, .aload_n 0, 1), (15, .getfield 55, 3), (18, .ifCond .le 31, 3), (21, .aload_n 0, 1), (22, .aload_n 1, 1), (23, .bipush 48, 2), (25, .bipush 57, 2), (27, .invokevirtual 52, 3), (30, .ifCond .eq 19, 3), (33, .aload_n 0, 1), (34, .bipush 10, 2), (36, .aload_n 0, 1), (37, .getfield 55, 3), (40, .imul, 1), (41, .aload_n 0, 1), (42, .getfield 49, 3), (45, .iadd, 1), (46, .putfield 55, 3), (49, .iconst 1, 1), (50, .ireturn, 1)]
theorem dX5_readNumber : iX5_readNumber.all (fun q => decide (decode cX5_readNumber q.1 = .ok q.2)) = true := by decide +kernel
abbrev wsX5_readNumber : List Cond := .code yX5_readNumber cX5_readNumber 2 (some .boolean) :: wT
abbrev cX5_readOrder : ByteArray := prog_7_method_4_code
def yX5_readOrder : MethodName := ⟨"PointAnswers$Reader", "readOrder", "(LPointAnswers$Pad;)Z"⟩
def iX5_readOrder : List (Nat × Instr × Nat) := [(0, .aload_n 0, 1), (1, .aload_n 1, 1), (2, .aload_n 0, 1), (3, .getfield 9, 3), (6, .invokevirtual 31, 3), (9, .putfield 35, 3), (12, .aload_n 0, 1), (13, .getfield 35, 3), (16, .lookupswitch 164 #[(97, 96), (99, 60), (111, 144), (114, 128), (116, 128), (119, 128)], 60), (76, .aload_n 0, 1), (77, .dup, 1), (78, .getfield 9, 3), (81, .iconst 1, 1), (82, .iadd, 1), (83, .putfield 9, 3), (86, .aload_n 0, 1), (87, .aload_n 1, 1), (88, .bipush 48, 2), (90, .bipush 49, 2), (92, .invokevirtual 39, 3), (95, .ifCond .eq 15, 3), (98, .aload_n 0, 1), (99, .aload_n 1, 1), (100, .invokevirtual 43, 3), (103, .ifCond .eq 7, 3), (106, .iconst 1, 1), (107, .goto 4, 3), (110, .iconst 0, 1), (111, .ireturn, 1), (112, .aload_n 0, 1), (113, .dup, 1), (114, .getfield 9, 3), (117, .iconst 1, 1), (118, .iadd, 1), (119, .putfield 9, 3), (122, .aload_n 0, 1), (123, .aload_n 1, 1), (124, .invokevirtual 46, 3), (127, .ifCond .eq 15, 3), (130, .aload_n 0, 1), (131, .aload_n 1, 1), (132, .invokevirtual 43, 3), (135, .ifCond .eq 7, 3), (138, .iconst 1, 1), (139, .goto 4, 3), (142, .iconst 0, 1), (143, .ireturn, 1), (144, .aload_n 0, 1), (145, .dup, 1), (146, .getfield 9, 3), (149, .iconst 1, 1), (150, .iadd, 1), (151, .putfield 9, 3), (154, .aload_n 0, 1), (155, .aload_n 1, 1), (156, .invokevirtual 46, 3), (159, .ireturn, 1), (160, .aload_n 0, 1), (161, .dup, 1), (162, .getfield 9, 3), (165, .iconst 1, 1), (166, .iadd, 1), (167, .putfield 9, 3), (170, .aload_n 0, 1), (171, .aload_n 1, 1), (172, .bipush 48, 2), (174, .bipush 57, 2), (176, .invokevirtual 39, 3), (179, .ireturn, 1), (180, .iconst 0, 1), (181, .ireturn, 1)]
theorem dX5_readOrder : iX5_readOrder.all (fun q => decide (decode cX5_readOrder q.1 = .ok q.2)) = true := by decide +kernel
abbrev wsX5_readOrder : List Cond := .code yX5_readOrder cX5_readOrder 2 (some .boolean) :: wT
abbrev cX5_firstFault : ByteArray := prog_7_method_3_code
def yX5_firstFault : MethodName := ⟨"PointAnswers$Reader", "firstFault", "(LPointAnswers$Pad;)I"⟩
def iX5_firstFault : List (Nat × Instr × Nat) := [(0, .aload_n 0, 1), (1, .invokevirtual 15, 3), (4, .iconst 0, 1), (5, .istore_n 2, 1), (6, .iload_n 2, 1), (7, .bipush 80, 2), (9, .if_icmp .ge 51, 3), (12, .aload_n 0, 1), (13, .aload_n 1, 1), (14, .invokevirtual 18, 3), (17, .ifCond .ne 8, 3), (20, .aload_n 0, 1), (21, .getfield 9, 3), (24, .ireturn, 1), (25, .aload_n 0, 1), (26, .getfield 9, 3), (29, .aload_n 1, 1), (30, .getfield 22, 3), (33, .if_icmp .lt 6, 3), (36, .bipush (-6), 2), (38, .ireturn, 1), (39, .aload_n 0, 1), (40, .aload_n 1, 1), (41, .bipush 59, 2), (43, .invokevirtual 27, 3), (46, .ifCond .ne 8, 3), (49, .aload_n 0, 1), (50, .getfield 9, 3), (53, .ireturn, 1), (54, .iinc 2 1, 3), (57, .goto (-51), 3), (60, .aload_n 0, 1), (61, .getfield 9, 3), (64, .ireturn, 1)]
theorem dX5_firstFault : iX5_firstFault.all (fun q => decide (decode cX5_firstFault q.1 = .ok q.2)) = true := by decide +kernel
abbrev wsX5_firstFault : List Cond := .code yX5_firstFault cX5_firstFault 3 (some .int) :: wT
abbrev cX6_init : ByteArray := prog_1_method_1_code
def yX6_init : MethodName := ⟨"PointAnswers", "<init>", "()V"⟩
def iX6_init : List (Nat × Instr × Nat) := [(0, .aload_n 0, 1), (1, .invokespecial 3, 3), (4, .aload_n 0, 1), (5, .new 9, 3), (8, .dup, 1), (9, .invokespecial 11, 3), (12, .putfield 12, 3), (15, .aload_n 0, 1), (16, .new 16, 3), (19, .dup, 1), (20, .invokespecial 18, 3), (23, .putfield 19, 3), (26, .aload_n 0, 1), (27, .new 23, 3), (30, .dup, 1), (31, .invokespecial 25, 3), (34, .putfield 26, 3), (37, .aload_n 0, 1), (38, .new 30, 3), (41, .dup, 1), (42, .invokespecial 32, 3), (45, .putfield 33, 3), (48, .aload_n 0, 1), (49, .new 37, 3), (52, .dup, 1), (53, .invokespecial 39, 3), (56, .putfield 40, 3), (59, .aload_n 0, 1), (60, .iconst 2, 1), (61, .anewarray 9, 3), (64, .putfield 44, 3), (67, .iconst 0, 1), (68, .istore_n 1, 1), (69, .iload_n 1, 1), (70, .aload_n 0, 1), (71, .getfield 44, 3), (74, .arraylength, 1), (75, .if_icmp .ge 22, 3), (78, .aload_n 0, 1), (79, .getfield 44, 3), (82, .iload_n 1, 1), (83, .new 9, 3), (86, .dup, 1), (87, .invokespecial 11, 3), (90, .aastore, 1), (91, .iinc 1 1, 3), (94, .goto (-25), 3), (97, .return_, 1)]
theorem dX6_init : iX6_init.all (fun q => decide (decode cX6_init q.1 = .ok q.2)) = true := by decide +kernel
abbrev wsX6_init : List Cond := .code yX6_init cX6_init 2 none :: wT
abbrev cX6_set : ByteArray := prog_1_method_2_code
def yX6_set : MethodName := ⟨"PointAnswers", "set", "(II)I"⟩
def iX6_set : List (Nat × Instr × Nat) := [(0, .aload_n 0, 1), (1, .getfield 40, 3), (4, .aload_n 0, 1), (5, .getfield 12, 3), (8, .invokevirtual 48, 3), (11, .aload_n 0, 1), (12, .getfield 40, 3), (15, .aload_n 0, 1), (16, .getfield 12, 3), (19, .iload_n 1, 1), (20, .iload_n 2, 1), (21, .invokevirtual 52, 3), (24, .invokevirtual 56, 3), (27, .ireturn, 1)]
theorem dX6_set : iX6_set.all (fun q => decide (decode cX6_set q.1 = .ok q.2)) = true := by decide +kernel
abbrev wsX6_set : List Cond := .code yX6_set cX6_set 3 (some .int) :: wT
abbrev cX6_claim : ByteArray := prog_1_method_3_code
def yX6_claim : MethodName := ⟨"PointAnswers", "claim", "(III)I"⟩
def iX6_claim : List (Nat × Instr × Nat) := [(0, .aload_n 0, 1), (1, .getfield 40, 3), (4, .aload_n 0, 1), (5, .getfield 12, 3), (8, .invokevirtual 48, 3), (11, .aload_n 0, 1), (12, .getfield 40, 3), (15, .aload_n 0, 1), (16, .getfield 12, 3), (19, .iload_n 1, 1), (20, .iload_n 2, 1), (21, .iload_n 3, 1), (22, .invokevirtual 60, 3), (25, .invokevirtual 56, 3), (28, .ireturn, 1)]
theorem dX6_claim : iX6_claim.all (fun q => decide (decode cX6_claim q.1 = .ok q.2)) = true := by decide +kernel
abbrev wsX6_claim : List Cond := .code yX6_claim cX6_claim 4 (some .int) :: wT
abbrev cX6_answer : ByteArray := prog_1_method_4_code
def yX6_answer : MethodName := ⟨"PointAnswers", "answer", "(III)I"⟩
def iX6_answer : List (Nat × Instr × Nat) := [(0, .aload_n 0, 1), (1, .getfield 40, 3), (4, .aload_n 0, 1), (5, .getfield 12, 3), (8, .invokevirtual 48, 3), (11, .aload_n 0, 1), (12, .getfield 40, 3), (15, .aload_n 0, 1), (16, .getfield 12, 3), (19, .iload_n 1, 1), (20, .iload_n 2, 1), (21, .iload_n 3, 1), (22, .invokevirtual 64, 3), (25, .invokevirtual 56, 3), (28, .ireturn, 1)]
theorem dX6_answer : iX6_answer.all (fun q => decide (decode cX6_answer q.1 = .ok q.2)) = true := by decide +kernel
abbrev wsX6_answer : List Cond := .code yX6_answer cX6_answer 4 (some .int) :: wT
abbrev cX6_withdraw : ByteArray := prog_1_method_5_code
def yX6_withdraw : MethodName := ⟨"PointAnswers", "withdraw", "(I)I"⟩
def iX6_withdraw : List (Nat × Instr × Nat) := [(0, .aload_n 0, 1), (1, .getfield 40, 3), (4, .aload_n 0, 1), (5, .getfield 12, 3), (8, .invokevirtual 48, 3), (11, .aload_n 0, 1), (12, .getfield 40, 3), (15, .aload_n 0, 1), (16, .getfield 12, 3), (19, .iload_n 1, 1), (20, .invokevirtual 67, 3), (23, .invokevirtual 56, 3), (26, .ireturn, 1)]
theorem dX6_withdraw : iX6_withdraw.all (fun q => decide (decode cX6_withdraw q.1 = .ok q.2)) = true := by decide +kernel
abbrev wsX6_withdraw : List Cond := .code yX6_withdraw cX6_withdraw 2 (some .int) :: wT
abbrev cX6_renew : ByteArray := prog_1_method_6_code
def yX6_renew : MethodName := ⟨"PointAnswers", "renew", "(I)I"⟩
def iX6_renew : List (Nat × Instr × Nat) := [(0, .aload_n 0, 1), (1, .getfield 40, 3), (4, .aload_n 0, 1), (5, .getfield 12, 3), (8, .invokevirtual 48, 3), (11, .aload_n 0, 1), (12, .getfield 40, 3), (15, .aload_n 0, 1), (16, .getfield 12, 3), (19, .iload_n 1, 1), (20, .invokevirtual 70, 3), (23, .invokevirtual 56, 3), (26, .ireturn, 1)]
theorem dX6_renew : iX6_renew.all (fun q => decide (decode cX6_renew q.1 = .ok q.2)) = true := by decide +kernel
abbrev wsX6_renew : List Cond := .code yX6_renew cX6_renew 2 (some .int) :: wT
abbrev cX6_overrule : ByteArray := prog_1_method_7_code
def yX6_overrule : MethodName := ⟨"PointAnswers", "overrule", "(I)I"⟩
def iX6_overrule : List (Nat × Instr × Nat) := [(0, .aload_n 0, 1), (1, .getfield 40, 3), (4, .aload_n 0, 1), (5, .getfield 12, 3), (8, .invokevirtual 48, 3), (11, .aload_n 0, 1), (12, .getfield 40, 3), (15, .aload_n 0, 1), (16, .getfield 12, 3), (19, .iload_n 1, 1), (20, .invokevirtual 73, 3), (23, .invokevirtual 56, 3), (26, .ireturn, 1)]
theorem dX6_overrule : iX6_overrule.all (fun q => decide (decode cX6_overrule q.1 = .ok q.2)) = true := by decide +kernel
abbrev wsX6_overrule : List Cond := .code yX6_overrule cX6_overrule 2 (some .int) :: wT
abbrev cX6_pass : ByteArray := prog_1_method_8_code
def yX6_pass : MethodName := ⟨"PointAnswers", "pass", "(I)I"⟩
def iX6_pass : List (Nat × Instr × Nat) := [(0, .aload_n 0, 1), (1, .getfield 40, 3), (4, .aload_n 0, 1), (5, .getfield 12, 3), (8, .invokevirtual 48, 3), (11, .aload_n 0, 1), (12, .getfield 40, 3), (15, .aload_n 0, 1), (16, .getfield 12, 3), (19, .iload_n 1, 1), (20, .invokevirtual 76, 3), (23, .invokevirtual 56, 3), (26, .ireturn, 1)]
theorem dX6_pass : iX6_pass.all (fun q => decide (decode cX6_pass q.1 = .ok q.2)) = true := by decide +kernel
abbrev wsX6_pass : List Cond := .code yX6_pass cX6_pass 2 (some .int) :: wT
abbrev cX6_lowestOf : ByteArray := prog_1_method_28_code
def yX6_lowestOf : MethodName := ⟨"PointAnswers", "lowestOf", "(I)I"⟩
def iX6_lowestOf : List (Nat × Instr × Nat) := [(0, .iconst 0, 1), (1, .istore_n 1, 1), (2, .iload_n 1, 1), (3, .bipush 24, 2), (5, .if_icmp .ge 19, 3), (8, .iload_n 0, 1), (9, .iload_n 1, 1), (10, .invokestatic 105, 3), (13, .ifCond .eq 5, 3), (16, .iload_n 1, 1), (17, .ireturn, 1), (18, .iinc 1 1, 3), (21, .goto (-19), 3), (24, .bipush (-6), 2), (26, .ireturn, 1)]
theorem dX6_lowestOf : iX6_lowestOf.all (fun q => decide (decode cX6_lowestOf q.1 = .ok q.2)) = true := by decide +kernel
abbrev wsX6_lowestOf : List Cond := .code yX6_lowestOf cX6_lowestOf 2 (some .int) :: wT
abbrev cX6_of : ByteArray := prog_1_method_9_code
def yX6_of : MethodName := ⟨"PointAnswers", "of", "(II)I"⟩
def iX6_of : List (Nat × Instr × Nat) := [(0, .aload_n 0, 1), (1, .getfield 12, 3), (4, .iload_n 1, 1), (5, .invokevirtual 79, 3), (8, .astore_n 3, 1), (9, .aload_n 3, 1), (10, .ifnonnull 5, 3), (13, .iconst (-1), 1), (14, .ireturn, 1), (15, .iload_n 2, 1), (16, .tableswitch 161 0 10 #[60, 65, 70, 75, 80, 85, 105, 114, 134, 143, 152], 60), (76, .aload_n 3, 1), (77, .getfield 83, 3), (80, .ireturn, 1), (81, .aload_n 3, 1), (82, .getfield 89, 3), (85, .ireturn, 1), (86, .aload_n 3, 1), (87, .getfield 92, 3), (90, .ireturn, 1), (91, .aload_n 3, 1), (92, .getfield 95, 3), (95, .ireturn, 1), (96, .aload_n 3, 1), (97, .getfield 98, 3), (100, .ireturn, 1), (101, .aload_n 0, 1), (102, .getfield 12, 3), (105, .invokevirtual 101, 3), (108, .iload_n 1, 1), (109, .invokestatic 105, 3), (112, .ifCond .eq 7, 3), (115, .iconst 1, 1), (116, .goto 4, 3), (119, .iconst 0, 1), (120, .ireturn, 1), (121, .aload_n 0, 1), (122, .getfield 12, 3), (125, .iload_n 1, 1), (126, .invokevirtual 109, 3), (129, .ireturn, 1), (130, .aload_n 0, 1), (131, .getfield 12, 3), (134, .iload_n 1, 1), (135, .invokevirtual 112, 3), (138, .aload_n 0, 1), (139, .getfield 12, 3), (142, .invokevirtual 101, 3), (145, .iand, 1), (146, .invokestatic 115, 3), (149, .ireturn, 1), (150, .aload_n 0, 1), (151, .getfield 12, 3), (154, .iload_n 1, 1), (155, .invokevirtual 112, 3), (158, .ireturn, 1), (159, .aload_n 0, 1), (160, .getfield 12, 3), (163, .iload_n 1, 1), (164, .invokevirtual 118, 3), (167, .ireturn, 1), (168, .aload_n 0, 1), (169, .getfield 12, 3), (172, .aload_n 3, 1), (173, .invokevirtual 121, 3), (176, .ireturn, 1), (177, .bipush (-2), 2), (179, .ireturn, 1)]
theorem dX6_of : iX6_of.all (fun q => decide (decode cX6_of q.1 = .ok q.2)) = true := by decide +kernel
abbrev wsX6_of : List Cond := .code yX6_of cX6_of 4 (some .int) :: wT
abbrev cX6_count : ByteArray := prog_1_method_10_code
def yX6_count : MethodName := ⟨"PointAnswers", "count", "(I)I"⟩
def iX6_count : List (Nat × Instr × Nat) := [(0, .iload_n 1, 1), (1, .tableswitch 238 0 13 #[71, 79, 87, 98, 109, 128, 139, 150, 174, 198, 206, 214, 222, 230], 71), (72, .aload_n 0, 1), (73, .getfield 12, 3), (76, .getfield 125, 3), (79, .ireturn, 1), (80, .aload_n 0, 1), (81, .getfield 12, 3), (84, .getfield 128, 3), (87, .ireturn, 1), (88, .aload_n 0, 1), (89, .getfield 12, 3), (92, .invokevirtual 131, 3), (95, .invokestatic 134, 3), (98, .ireturn, 1), (99, .aload_n 0, 1), (100, .getfield 12, 3), (103, .invokevirtual 101, 3), (106, .invokestatic 134, 3), (109, .ireturn, 1), (110, .aload_n 0, 1), (111, .getfield 12, 3), (114, .invokevirtual 131, 3), (117, .aload_n 0, 1), (118, .getfield 12, 3), (121, .invokevirtual 101, 3), (124, .iand, 1), (125, .invokestatic 134, 3), (128, .ireturn, 1), (129, .aload_n 0, 1), (130, .getfield 12, 3), (133, .invokevirtual 139, 3), (136, .invokestatic 134, 3), (139, .ireturn, 1), (140, .aload_n 0, 1), (141, .getfield 12, 3), (144, .invokevirtual 142, 3), (147, .invokestatic 134, 3), (150, .ireturn, 1), (151, .aload_n 0, 1), (152, .getfield 12, 3), (155, .iconst 0, 1), (156, .aload_n 0, 1), (157, .getfield 12, 3), (160, .invokevirtual 145, 3), (163, .aload_n 0, 1), (164, .getfield 12, 3), (167, .invokevirtual 148, 3), (170, .ior, 1), (171, .invokevirtual 151, 3), (174, .ireturn, 1), (175, .aload_n 0, 1), (176, .getfield 12, 3), (179, .iconst 1, 1), (180, .aload_n 0, 1), (181, .getfield 12, 3), (184, .invokevirtual 145, 3), (187, .aload_n 0, 1), (188, .getfield 12, 3), (191, .invokevirtual 148, 3), (194, .ior, 1), (195, .invokevirtual 151, 3), (198, .ireturn, 1), (199, .aload_n 0, 1), (200, .getfield 12, 3), (203, .getfield 154, 3), (206, .ireturn, 1), (207, .aload_n 0, 1), (208, .getfield 12, 3), (211, .getfield 157, 3), (214, .ireturn, 1), (215, .aload_n 0, 1), (216, .getfield 12, 3), (219, .getfield 160, 3), (222, .ireturn, 1), (223, .aload_n 0, 1), (224, .getfield 26, 3), (227, .getfield 163, 3), (230, .ireturn, 1), (231, .aload_n 0, 1), (232, .getfield 40, 3), (235, .getfield 166, 3), (238, .ireturn, 1), (239, .bipush (-2), 2), (241, .ireturn, 1)]
theorem dX6_count : iX6_count.all (fun q => decide (decode cX6_count q.1 = .ok q.2)) = true := by decide +kernel
abbrev wsX6_count : List Cond := .code yX6_count cX6_count 2 (some .int) :: wT
abbrev cX6_points : ByteArray := prog_1_method_11_code
def yX6_points : MethodName := ⟨"PointAnswers", "points", "(I)I"⟩
def iX6_points : List (Nat × Instr × Nat) := [(0, .iload_n 1, 1), (1, .tableswitch 97 0 5 #[39, 47, 63, 71, 79, 88], 39), (40, .aload_n 0, 1), (41, .getfield 12, 3), (44, .invokevirtual 101, 3), (47, .ireturn, 1), (48, .aload_n 0, 1), (49, .getfield 12, 3), (52, .invokevirtual 131, 3), (55, .aload_n 0, 1), (56, .getfield 12, 3), (59, .invokevirtual 101, 3), (62, .iand, 1), (63, .ireturn, 1), (64, .aload_n 0, 1), (65, .getfield 12, 3), (68, .invokevirtual 139, 3), (71, .ireturn, 1), (72, .aload_n 0, 1), (73, .getfield 12, 3), (76, .invokevirtual 142, 3), (79, .ireturn, 1), (80, .aload_n 0, 1), (81, .getfield 12, 3), (84, .iconst 0, 1), (85, .invokevirtual 169, 3), (88, .ireturn, 1), (89, .aload_n 0, 1), (90, .getfield 12, 3), (93, .iconst 1, 1), (94, .invokevirtual 169, 3), (97, .ireturn, 1), (98, .bipush (-2), 2), (100, .ireturn, 1)]
theorem dX6_points : iX6_points.all (fun q => decide (decode cX6_points q.1 = .ok q.2)) = true := by decide +kernel
abbrev wsX6_points : List Cond := .code yX6_points cX6_points 2 (some .int) :: wT
abbrev cX6_floatBits : ByteArray := prog_1_method_29_code
def yX6_floatBits : MethodName := ⟨"PointAnswers", "floatBits", "(II)I"⟩
def iX6_floatBits : List (Nat × Instr × Nat) := [(0, .iload_n 0, 1), (1, .ifCond .le 7, 3), (4, .iload_n 1, 1), (5, .ifCond .gt 5, 3), (8, .iconst 0, 1), (9, .ireturn, 1), (10, .iload_n 0, 1), (11, .i2l, 1), (12, .lstore_n 2, 1), (13, .bipush 127, 2), (15, .istore 4, 2), (17, .lload_n 2, 1), (18, .iload_n 1, 1), (19, .i2l, 1), (20, .lcmp, 1), (21, .ifCond .ge 20, 3), (24, .iload 4, 2), (26, .ifCond .le 15, 3), (29, .lload_n 2, 1), (30, .ldc2_w 257, 3), (33, .lmul, 1), (34, .lstore_n 2, 1), (35, .iinc 4 (-1), 3), (38, .goto (-21), 3), (41, .lload_n 2, 1), (42, .bipush 23, 2), (44, .lshl, 1), (45, .lstore 5, 2), (47, .lload 5, 2), (49, .iload_n 1, 1), (50, .i2l, 1), (51, .ldiv, 1), (52, .lstore 7, 2), (54, .ldc2_w 257, 3), (57, .lload 5, 2), (59, .iload_n 1, 1), (60, .i2l, 1), (61, .lrem, 1), (62, .lmul, 1), (63, .iload_n 1, 1), (64, .i2l, 1), (65, .lcmp, 1), (66, .ifCond .le 9, 3), (69, .lload 7, 2), (71, .lconst 1, 1), (72, .ladd, 1), (73, .lstore 7, 2), (75, .iload 4, 2), (77, .bipush 23, 2), (79, .ishl, 1), (80, .lload 7, 2), (82, .ldc2_w 259, 3), (85, .lsub, 1), (86, .l2i, 1), (87, .iadd, 1), (88, .ireturn, 1)]
theorem dX6_floatBits : iX6_floatBits.all (fun q => decide (decode cX6_floatBits q.1 = .ok q.2)) = true := by decide +kernel
abbrev wsX6_floatBits : List Cond := .code yX6_floatBits cX6_floatBits 9 (some .int) :: wT
abbrev cX6_share : ByteArray := prog_1_method_12_code
def yX6_share : MethodName := ⟨"PointAnswers", "share", "(I)I"⟩
def iX6_share : List (Nat × Instr × Nat) := [(0, .iload_n 1, 1), (1, .ifCond .eq 10, 3), (4, .iload_n 1, 1), (5, .iconst 1, 1), (6, .if_icmp .eq 5, 3), (9, .iconst (-1), 1), (10, .ireturn, 1), (11, .aload_n 0, 1), (12, .getfield 12, 3), (15, .invokevirtual 131, 3), (18, .aload_n 0, 1), (19, .getfield 12, 3), (22, .iload_n 1, 1), (23, .invokevirtual 169, 3), (26, .iand, 1), (27, .istore_n 2, 1), (28, .iload_n 2, 1), (29, .ifCond .ne 6, 3), (32, .bipush (-6), 2), (34, .ireturn, 1), (35, .iload_n 2, 1), (36, .aload_n 0, 1), (37, .getfield 12, 3), (40, .invokevirtual 101, 3), (43, .iand, 1), (44, .invokestatic 134, 3), (47, .iload_n 2, 1), (48, .invokestatic 134, 3), (51, .invokestatic 172, 3), (54, .ireturn, 1)]
theorem dX6_share : iX6_share.all (fun q => decide (decode cX6_share q.1 = .ok q.2)) = true := by decide +kernel
abbrev wsX6_share : List Cond := .code yX6_share cX6_share 3 (some .int) :: wT
abbrev cX6_toFall : ByteArray := prog_1_method_13_code
def yX6_toFall : MethodName := ⟨"PointAnswers", "toFall", "(I)I"⟩
def iX6_toFall : List (Nat × Instr × Nat) := [(0, .aload_n 0, 1), (1, .getfield 12, 3), (4, .iload_n 1, 1), (5, .invokevirtual 79, 3), (8, .ifnonnull 5, 3), (11, .iconst (-1), 1), (12, .ireturn, 1), (13, .aload_n 0, 1), (14, .getfield 19, 3), (17, .aload_n 0, 1), (18, .getfield 12, 3), (21, .invokevirtual 175, 3), (24, .aload_n 0, 1), (25, .getfield 19, 3), (28, .iload_n 1, 1), (29, .invokevirtual 178, 3), (32, .ireturn, 1)]
theorem dX6_toFall : iX6_toFall.all (fun q => decide (decode cX6_toFall q.1 = .ok q.2)) = true := by decide +kernel
abbrev wsX6_toFall : List Cond := .code yX6_toFall cX6_toFall 2 (some .int) :: wT
abbrev cX6_toStand : ByteArray := prog_1_method_14_code
def yX6_toStand : MethodName := ⟨"PointAnswers", "toStand", "(I)I"⟩
def iX6_toStand : List (Nat × Instr × Nat) := [(0, .aload_n 0, 1), (1, .getfield 12, 3), (4, .iload_n 1, 1), (5, .invokevirtual 79, 3), (8, .ifnonnull 5, 3), (11, .iconst (-1), 1), (12, .ireturn, 1), (13, .aload_n 0, 1), (14, .getfield 12, 3), (17, .invokevirtual 139, 3), (20, .iload_n 1, 1), (21, .invokestatic 105, 3), (24, .ifCond .eq 6, 3), (27, .bipush (-5), 2), (29, .ireturn, 1), (30, .aload_n 0, 1), (31, .getfield 19, 3), (34, .aload_n 0, 1), (35, .getfield 12, 3), (38, .invokevirtual 175, 3), (41, .aload_n 0, 1), (42, .getfield 19, 3), (45, .iload_n 1, 1), (46, .invokevirtual 181, 3), (49, .ireturn, 1)]
theorem dX6_toStand : iX6_toStand.all (fun q => decide (decode cX6_toStand q.1 = .ok q.2)) = true := by decide +kernel
abbrev wsX6_toStand : List Cond := .code yX6_toStand cX6_toStand 2 (some .int) :: wT
abbrev cX6_bestAnswer : ByteArray := prog_1_method_15_code
def yX6_bestAnswer : MethodName := ⟨"PointAnswers", "bestAnswer", "(I)I"⟩
def iX6_bestAnswer : List (Nat × Instr × Nat) := [(0, .iload_n 1, 1), (1, .ifCond .eq 11, 3), (4, .iload_n 1, 1), (5, .iconst 1, 1), (6, .if_icmp .eq 6, 3), (9, .bipush (-2), 2), (11, .ireturn, 1), (12, .bipush (-6), 2), (14, .istore_n 2, 1), (15, .bipush (-6), 2), (17, .istore_n 3, 1), (18, .aload_n 0, 1), (19, .getfield 12, 3), (22, .invokevirtual 139, 3), (25, .istore 4, 2), (27, .aload_n 0, 1), (28, .getfield 12, 3), (31, .iload 4, 2), (33, .iconst 0, 1), (34, .invokevirtual 184, 3), (37, .istore 5, 2), (39, .aload_n 0, 1), (40, .getfield 12, 3), (43, .invokevirtual 187, 3), (46, .iload 4, 2), (48, .iconst (-1), 1), (49, .ixor, 1), (50, .iand, 1), (51, .istore 6, 2), (53, .iconst 0, 1), (54, .istore 7, 2), (56, .iload 7, 2), (58, .bipush 24, 2), (60, .if_icmp .ge 60, 3), (63, .iload 6, 2), (65, .iload 7, 2), (67, .invokestatic 105, 3), (70, .ifCond .eq 44, 3), (73, .aload_n 0, 1), (74, .getfield 12, 3), (77, .iload 4, 2), (79, .iconst 1, 1), (80, .iload 7, 2), (82, .ishl, 1), (83, .invokevirtual 184, 3), (86, .iload 5, 2), (88, .ixor, 1), (89, .aload_n 0, 1), (90, .getfield 12, 3), (93, .invokevirtual 131, 3), (96, .iand, 1), (97, .invokestatic 134, 3), (100, .istore 8, 2), (102, .iload 8, 2), (104, .iload_n 3, 1), (105, .if_icmp .le 9, 3), (108, .iload 7, 2), (110, .istore_n 2, 1), (111, .iload 8, 2), (113, .istore_n 3, 1), (114, .iinc 7 1, 3), (117, .goto (-61), 3), (120, .iload_n 1, 1), (121, .ifCond .ne 7, 3), (124, .iload_n 2, 1), (125, .goto 4, 3), (128, .iload_n 3, 1), (129, .ireturn, 1)]
theorem dX6_bestAnswer : iX6_bestAnswer.all (fun q => decide (decode cX6_bestAnswer q.1 = .ok q.2)) = true := by decide +kernel
abbrev wsX6_bestAnswer : List Cond := .code yX6_bestAnswer cX6_bestAnswer 9 (some .int) :: wT
abbrev cX6_changesIn : ByteArray := prog_1_method_16_code
def yX6_changesIn : MethodName := ⟨"PointAnswers", "changesIn", "()I"⟩
def iX6_changesIn : List (Nat × Instr × Nat) := [(0, .aload_n 0, 1), (1, .getfield 12, 3), (4, .invokevirtual 145, 3), (7, .aload_n 0, 1), (8, .getfield 12, 3), (11, .invokevirtual 148, 3), (14, .ior, 1), (15, .aload_n 0, 1), (16, .getfield 12, 3), (19, .invokevirtual 190, 3), (22, .ior, 1), (23, .istore_n 1, 1), (24, .aload_n 0, 1), (25, .getfield 12, 3), (28, .invokevirtual 101, 3), (31, .istore_n 2, 1), (32, .iconst 1, 1), (33, .istore_n 3, 1), (34, .iload_n 3, 1), (35, .bipush 61, 2), (37, .if_icmp .gt 41, 3), (40, .aload_n 0, 1), (41, .getfield 12, 3), (44, .iload_n 1, 1), (45, .aload_n 0, 1), (46, .getfield 12, 3), (49, .aload_n 0, 1), (50, .getfield 12, 3), (53, .getfield 125, 3), (56, .iload_n 3, 1), (57, .iadd, 1), (58, .invokevirtual 193, 3), (61, .ior, 1), (62, .iconst 0, 1), (63, .invokevirtual 184, 3), (66, .iload_n 2, 1), (67, .if_icmp .eq 5, 3), (70, .iload_n 3, 1), (71, .ireturn, 1), (72, .iinc 3 1, 3), (75, .goto (-41), 3), (78, .bipush (-6), 2), (80, .ireturn, 1)]
theorem dX6_changesIn : iX6_changesIn.all (fun q => decide (decode cX6_changesIn q.1 = .ok q.2)) = true := by decide +kernel
abbrev wsX6_changesIn : List Cond := .code yX6_changesIn cX6_changesIn 4 (some .int) :: wT
abbrev cX6_leastPages : ByteArray := prog_1_method_17_code
def yX6_leastPages : MethodName := ⟨"PointAnswers", "leastPages", "()I"⟩
def iX6_leastPages : List (Nat × Instr × Nat) := [(0, .aload_n 0, 1), (1, .getfield 12, 3), (4, .invokevirtual 145, 3), (7, .istore_n 1, 1), (8, .iconst 1, 1), (9, .aload_n 0, 1), (10, .getfield 12, 3), (13, .iconst 0, 1), (14, .iload_n 1, 1), (15, .invokevirtual 151, 3), (18, .aload_n 0, 1), (19, .getfield 12, 3), (22, .iconst 1, 1), (23, .iload_n 1, 1), (24, .invokevirtual 151, 3), (27, .invokestatic 196, 3), (30, .invokestatic 196, 3), (33, .istore_n 2, 1), (34, .iload_n 2, 1), (35, .bipush 99, 2), (37, .if_icmp .le 8, 3), (40, .bipush (-6), 2), (42, .goto 4, 3), (45, .iload_n 2, 1), (46, .ireturn, 1)]
theorem dX6_leastPages : iX6_leastPages.all (fun q => decide (decode cX6_leastPages q.1 = .ok q.2)) = true := by decide +kernel
abbrev wsX6_leastPages : List Cond := .code yX6_leastPages cX6_leastPages 3 (some .int) :: wT
abbrev cX6_put : ByteArray := prog_1_method_18_code
def yX6_put : MethodName := ⟨"PointAnswers", "put", "(J)I"⟩
def iX6_put : List (Nat × Instr × Nat) := [(0, .lload_n 1, 1), (1, .invokestatic 201, 3), (4, .istore_n 3, 1), (5, .iload_n 3, 1), (6, .ifCond .ne 6, 3), (9, .bipush (-2), 2), (11, .ireturn, 1), (12, .aload_n 0, 1), (13, .getfield 26, 3), (16, .getfield 163, 3), (19, .iload_n 3, 1), (20, .iadd, 1), (21, .bipush 80, 2), (23, .if_icmp .le 6, 3), (26, .bipush (-4), 2), (28, .ireturn, 1), (29, .iload_n 3, 1), (30, .iconst 1, 1), (31, .isub, 1), (32, .istore 4, 2), (34, .iload 4, 2), (36, .ifCond .lt 22, 3), (39, .aload_n 0, 1), (40, .getfield 26, 3), (43, .lload_n 1, 1), (44, .iload 4, 2), (46, .invokestatic 205, 3), (49, .invokevirtual 209, 3), (52, .iinc 4 (-1), 3), (55, .goto (-21), 3), (58, .aload_n 0, 1), (59, .getfield 26, 3), (62, .getfield 163, 3), (65, .ireturn, 1)]
theorem dX6_put : iX6_put.all (fun q => decide (decode cX6_put q.1 = .ok q.2)) = true := by decide +kernel
abbrev wsX6_put : List Cond := .code yX6_put cX6_put 5 (some .int) :: wT
abbrev cX6_wipe : ByteArray := prog_1_method_19_code
def yX6_wipe : MethodName := ⟨"PointAnswers", "wipe", "()I"⟩
def iX6_wipe : List (Nat × Instr × Nat) := [(0, .aload_n 0, 1), (1, .getfield 26, 3), (4, .invokevirtual 213, 3), (7, .ireturn, 1)]
theorem dX6_wipe : iX6_wipe.all (fun q => decide (decode cX6_wipe q.1 = .ok q.2)) = true := by decide +kernel
abbrev wsX6_wipe : List Cond := .code yX6_wipe cX6_wipe 1 (some .int) :: wT
abbrev cX6_fault : ByteArray := prog_1_method_20_code
def yX6_fault : MethodName := ⟨"PointAnswers", "fault", "()I"⟩
def iX6_fault : List (Nat × Instr × Nat) := [(0, .aload_n 0, 1), (1, .getfield 33, 3), (4, .aload_n 0, 1), (5, .getfield 26, 3), (8, .invokevirtual 216, 3), (11, .ireturn, 1)]
theorem dX6_fault : iX6_fault.all (fun q => decide (decode cX6_fault q.1 = .ok q.2)) = true := by decide +kernel
abbrev wsX6_fault : List Cond := .code yX6_fault cX6_fault 1 (some .int) :: wT
abbrev cX6_follow : ByteArray := prog_1_method_26_code
def yX6_follow : MethodName := ⟨"PointAnswers", "follow", "()I"⟩
def iX6_follow : List (Nat × Instr × Nat) := [(0, .aload_n 0, 1), (1, .getfield 33, 3), (4, .getfield 248, 3), (7, .lookupswitch 175 #[(97, 86), (99, 57), (111, 145), (114, 130), (116, 160), (119, 115)], 57), (64, .aload_n 0, 1), (65, .getfield 12, 3), (68, .aload_n 0, 1), (69, .getfield 33, 3), (72, .getfield 252, 3), (75, .aload_n 0, 1), (76, .getfield 33, 3), (79, .getfield 255, 3), (82, .aload_n 0, 1), (83, .getfield 33, 3), (86, .getfield 256, 3), (89, .invokevirtual 60, 3), (92, .ireturn, 1), (93, .aload_n 0, 1), (94, .getfield 12, 3), (97, .aload_n 0, 1), (98, .getfield 33, 3), (101, .getfield 252, 3), (104, .aload_n 0, 1), (105, .getfield 33, 3), (108, .getfield 255, 3), (111, .aload_n 0, 1), (112, .getfield 33, 3), (115, .getfield 256, 3), (118, .invokevirtual 64, 3), (121, .ireturn, 1), (122, .aload_n 0, 1), (123, .getfield 12, 3), (126, .aload_n 0, 1), (127, .getfield 33, 3), (130, .getfield 252, 3), (133, .invokevirtual 67, 3), (136, .ireturn, 1), (137, .aload_n 0, 1), (138, .getfield 12, 3), (141, .aload_n 0, 1), (142, .getfield 33, 3), (145, .getfield 252, 3), (148, .invokevirtual 70, 3), (151, .ireturn, 1), (152, .aload_n 0, 1), (153, .getfield 12, 3), (156, .aload_n 0, 1), (157, .getfield 33, 3), (160, .getfield 252, 3), (163, .invokevirtual 73, 3), (166, .ireturn, 1), (167, .aload_n 0, 1), (168, .getfield 12, 3), (171, .aload_n 0, 1), (172, .getfield 33, 3), (175, .getfield 252, 3), (178, .invokevirtual 76, 3), (181, .ireturn, 1), (182, .bipush (-3), 2), (184, .ireturn, 1)]
theorem dX6_follow : iX6_follow.all (fun q => decide (decode cX6_follow q.1 = .ok q.2)) = true := by decide +kernel
abbrev wsX6_follow : List Cond := .code yX6_follow cX6_follow 1 (some .int) :: wT
abbrev cX6_carryOut : ByteArray := prog_1_method_21_code
def yX6_carryOut : MethodName := ⟨"PointAnswers", "carryOut", "()I"⟩
def iX6_carryOut : List (Nat × Instr × Nat) := [(0, .aload_n 0, 1), (1, .getfield 33, 3), (4, .aload_n 0, 1), (5, .getfield 26, 3), (8, .invokevirtual 216, 3), (11, .bipush (-6), 2), (13, .if_icmp .eq 6, 3), (16, .bipush (-3), 2), (18, .ireturn, 1), (19, .aload_n 0, 1), (20, .getfield 40, 3), (23, .aload_n 0, 1), (24, .getfield 12, 3), (27, .invokevirtual 48, 3), (30, .aload_n 0, 1), (31, .getfield 33, 3), (34, .invokevirtual 220, 3), (37, .iconst 0, 1), (38, .istore_n 1, 1), (39, .iload_n 1, 1), (40, .bipush 80, 2), (42, .if_icmp .ge 44, 3), (45, .aload_n 0, 1), (46, .getfield 33, 3), (49, .aload_n 0, 1), (50, .getfield 26, 3), (53, .invokevirtual 223, 3), (56, .ifCond .eq 30, 3), (59, .aload_n 0, 1), (60, .invokevirtual 227, 3), (63, .ifCond .lt 23, 3), (66, .iinc 1 1, 3), (69, .aload_n 0, 1), (70, .getfield 33, 3), (73, .aload_n 0, 1), (74, .getfield 26, 3), (77, .bipush 59, 2), (79, .invokevirtual 230, 3), (82, .pop, 1), (83, .goto (-44), 3), (86, .aload_n 0, 1), (87, .getfield 26, 3), (90, .invokevirtual 213, 3), (93, .pop, 1), (94, .aload_n 0, 1), (95, .getfield 40, 3), (98, .iload_n 1, 1), (99, .invokevirtual 56, 3), (102, .ireturn, 1)]
theorem dX6_carryOut : iX6_carryOut.all (fun q => decide (decode cX6_carryOut q.1 = .ok q.2)) = true := by decide +kernel
abbrev wsX6_carryOut : List Cond := .code yX6_carryOut cX6_carryOut 2 (some .int) :: wT
abbrev cX6_undo : ByteArray := prog_1_method_22_code
def yX6_undo : MethodName := ⟨"PointAnswers", "undo", "()I"⟩
def iX6_undo : List (Nat × Instr × Nat) := [(0, .aload_n 0, 1), (1, .getfield 40, 3), (4, .aload_n 0, 1), (5, .getfield 12, 3), (8, .invokevirtual 234, 3), (11, .ireturn, 1)]
theorem dX6_undo : iX6_undo.all (fun q => decide (decode cX6_undo q.1 = .ok q.2)) = true := by decide +kernel
abbrev wsX6_undo : List Cond := .code yX6_undo cX6_undo 1 (some .int) :: wT
abbrev cX6_slotRow : ByteArray := prog_1_method_25_code
def yX6_slotRow : MethodName := ⟨"PointAnswers", "slotRow", "(I)LPointAnswers$Bundle;"⟩
def iX6_slotRow : List (Nat × Instr × Nat) := [(0, .iload_n 1, 1), (1, .ifCond .lt 21, 3), (4, .iload_n 1, 1), (5, .aload_n 0, 1), (6, .getfield 44, 3), (9, .arraylength, 1), (10, .if_icmp .ge 12, 3), (13, .aload_n 0, 1), (14, .getfield 44, 3), (17, .iload_n 1, 1), (18, .aaload, 1), (19, .goto 4, 3), (22, .aconst_null, 1), (23, .areturn, 1)]
theorem dX6_slotRow : iX6_slotRow.all (fun q => decide (decode cX6_slotRow q.1 = .ok q.2)) = true := by decide +kernel
abbrev wsX6_slotRow : List Cond := .code yX6_slotRow cX6_slotRow 2 (some (.object "PointAnswers$Bundle")) :: wT
abbrev cX6_save : ByteArray := prog_1_method_23_code
def yX6_save : MethodName := ⟨"PointAnswers", "save", "(I)I"⟩
def iX6_save : List (Nat × Instr × Nat) := [(0, .aload_n 0, 1), (1, .iload_n 1, 1), (2, .invokevirtual 238, 3), (5, .astore_n 2, 1), (6, .aload_n 2, 1), (7, .ifnonnull 6, 3), (10, .bipush (-2), 2), (12, .ireturn, 1), (13, .aload_n 2, 1), (14, .aload_n 0, 1), (15, .getfield 12, 3), (18, .invokevirtual 242, 3), (21, .aload_n 0, 1), (22, .dup, 1), (23, .getfield 245, 3), (26, .iconst 1, 1), (27, .iload_n 1, 1), (28, .ishl, 1), (29, .ior, 1), (30, .putfield 245, 3), (33, .aload_n 0, 1), (34, .getfield 12, 3), (37, .getfield 128, 3), (40, .ireturn, 1)]
theorem dX6_save : iX6_save.all (fun q => decide (decode cX6_save q.1 = .ok q.2)) = true := by decide +kernel
abbrev wsX6_save : List Cond := .code yX6_save cX6_save 3 (some .int) :: wT
abbrev cX6_restore : ByteArray := prog_1_method_24_code
def yX6_restore : MethodName := ⟨"PointAnswers", "restore", "(I)I"⟩
def iX6_restore : List (Nat × Instr × Nat) := [(0, .aload_n 0, 1), (1, .iload_n 1, 1), (2, .invokevirtual 238, 3), (5, .astore_n 2, 1), (6, .aload_n 2, 1), (7, .ifnonnull 6, 3), (10, .bipush (-2), 2), (12, .ireturn, 1), (13, .aload_n 0, 1), (14, .getfield 245, 3), (17, .iload_n 1, 1), (18, .invokestatic 105, 3), (21, .ifCond .ne 6, 3), (24, .bipush (-5), 2), (26, .ireturn, 1), (27, .aload_n 0, 1), (28, .getfield 40, 3), (31, .aload_n 0, 1), (32, .getfield 12, 3), (35, .invokevirtual 48, 3), (38, .aload_n 0, 1), (39, .getfield 12, 3), (42, .aload_n 2, 1), (43, .invokevirtual 242, 3), (46, .aload_n 0, 1), (47, .getfield 40, 3), (50, .aload_n 0, 1), (51, .getfield 12, 3), (54, .getfield 128, 3), (57, .invokevirtual 56, 3), (60, .ireturn, 1)]
theorem dX6_restore : iX6_restore.all (fun q => decide (decode cX6_restore q.1 = .ok q.2)) = true := by decide +kernel
abbrev wsX6_restore : List Cond := .code yX6_restore cX6_restore 3 (some .int) :: wT
abbrev cX7_init : ByteArray := prog_9_method_1_code
def yX7_init : MethodName := ⟨"PointAnswersModel", "<init>", "()V"⟩
def iX7_init : List (Nat × Instr × Nat) := [(0, .aload_n 0, 1), (1, .invokespecial 1, 3), (4, .aload_n 0, 1), (5, .sipush 173, 3), (8, .newarray .int, 2), (10, .putfield 7, 3), (13, .aload_n 0, 1), (14, .sipush 1038, 3), (17, .newarray .int, 2), (19, .putfield 13, 3), (22, .aload_n 0, 1), (23, .sipush 346, 3), (26, .newarray .int, 2), (28, .putfield 16, 3), (31, .aload_n 0, 1), (32, .iconst 2, 1), (33, .newarray .boolean, 2), (35, .putfield 19, 3), (38, .aload_n 0, 1), (39, .bipush 80, 2), (41, .newarray .char, 2), (43, .putfield 23, 3), (46, .aload_n 0, 1), (47, .bipush 24, 2), (49, .newarray .int, 2), (51, .putfield 27, 3), (54, .aload_n 0, 1), (55, .iconst 2, 1), (56, .newarray .int, 2), (58, .putfield 30, 3), (61, .aload_n 0, 1), (62, .bipush 24, 2), (64, .newarray .int, 2), (66, .putfield 33, 3), (69, .aload_n 0, 1), (70, .bipush 24, 2), (72, .newarray .int, 2), (74, .putfield 36, 3), (77, .aload_n 0, 1), (78, .bipush 112, 2), (80, .newarray .int, 2), (82, .putfield 39, 3), (85, .aload_n 0, 1), (86, .getfield 7, 3), (89, .iconst 0, 1), (90, .bipush 14, 2), (92, .iastore, 1), (93, .aload_n 0, 1), (94, .getfield 7, 3), (97, .iconst 1, 1), (98, .bipush 30, 2), (100, .iastore, 1), (101, .return_, 1)]
theorem dX7_init : iX7_init.all (fun q => decide (decode cX7_init q.1 = .ok q.2)) = true := by decide +kernel
abbrev wsX7_init : List Cond := .code yX7_init cX7_init 1 none :: wT
abbrev cX7_in : ByteArray := prog_9_method_2_code
def yX7_in : MethodName := ⟨"PointAnswersModel", "in", "(III)Z"⟩
def iX7_in : List (Nat × Instr × Nat) := [(0, .iload_n 0, 1), (1, .iload_n 1, 1), (2, .if_icmp .lt 12, 3), (5, .iload_n 0, 1), (6, .iload_n 2, 1), (7, .if_icmp .gt 7, 3), (10, .iconst 1, 1), (11, .goto 4, 3), (14, .iconst 0, 1), (15, .ireturn, 1)]
theorem dX7_in : iX7_in.all (fun q => decide (decode cX7_in q.1 = .ok q.2)) = true := by decide +kernel
abbrev wsX7_in : List Cond := .code yX7_in cX7_in 3 (some .boolean) :: wT
abbrev cX7_isPoint : ByteArray := prog_9_method_3_code
def yX7_isPoint : MethodName := ⟨"PointAnswersModel", "isPoint", "(I)Z"⟩
def iX7_isPoint : List (Nat × Instr × Nat) := [(0, .iload_n 1, 1), (1, .ifCond .lt 17, 3), (4, .iload_n 1, 1), (5, .aload_n 0, 1), (6, .getfield 7, 3), (9, .iconst 3, 1), (10, .iaload, 1), (11, .if_icmp .ge 7, 3), (14, .iconst 1, 1), (15, .goto 4, 3), (18, .iconst 0, 1), (19, .ireturn, 1)]
theorem dX7_isPoint : iX7_isPoint.all (fun q => decide (decode cX7_isPoint q.1 = .ok q.2)) = true := by decide +kernel
abbrev wsX7_isPoint : List Cond := .code yX7_isPoint cX7_isPoint 2 (some .boolean) :: wT
abbrev cX7_its : ByteArray := prog_9_method_4_code
def yX7_its : MethodName := ⟨"PointAnswersModel", "its", "(II)I"⟩
def iX7_its : List (Nat × Instr × Nat) := [(0, .aload_n 0, 1), (1, .getfield 7, 3), (4, .iconst 5, 1), (5, .bipush 7, 2), (7, .iload_n 1, 1), (8, .imul, 1), (9, .iadd, 1), (10, .iload_n 2, 1), (11, .iadd, 1), (12, .iaload, 1), (13, .ireturn, 1)]
theorem dX7_its : iX7_its.all (fun q => decide (decode cX7_its q.1 = .ok q.2)) = true := by decide +kernel
abbrev wsX7_its : List Cond := .code yX7_its cX7_its 3 (some .int) :: wT
abbrev cX7_lay : ByteArray := prog_9_method_5_code
def yX7_lay : MethodName := ⟨"PointAnswersModel", "lay", "(III)V"⟩
def iX7_lay : List (Nat × Instr × Nat) := [(0, .aload_n 0, 1), (1, .getfield 7, 3), (4, .iconst 5, 1), (5, .bipush 7, 2), (7, .iload_n 1, 1), (8, .imul, 1), (9, .iadd, 1), (10, .iload_n 2, 1), (11, .iadd, 1), (12, .iload_n 3, 1), (13, .iastore, 1), (14, .return_, 1)]
theorem dX7_lay : iX7_lay.all (fun q => decide (decode cX7_lay q.1 = .ok q.2)) = true := by decide +kernel
abbrev wsX7_lay : List Cond := .code yX7_lay cX7_lay 4 none :: wT
abbrev cX7_isClaim : ByteArray := prog_9_method_6_code
def yX7_isClaim : MethodName := ⟨"PointAnswersModel", "isClaim", "(I)Z"⟩
def iX7_isClaim : List (Nat × Instr × Nat) := [(0, .aload_n 0, 1), (1, .iload_n 1, 1), (2, .iconst 4, 1), (3, .invokevirtual 42, 3), (6, .bipush (-6), 2), (8, .if_icmp .ne 7, 3), (11, .iconst 1, 1), (12, .goto 4, 3), (15, .iconst 0, 1), (16, .ireturn, 1)]
theorem dX7_isClaim : iX7_isClaim.all (fun q => decide (decode cX7_isClaim q.1 = .ok q.2)) = true := by decide +kernel
abbrev wsX7_isClaim : List Cond := .code yX7_isClaim cX7_isClaim 2 (some .boolean) :: wT
abbrev cX7_isWithdrawn : ByteArray := prog_9_method_7_code
def yX7_isWithdrawn : MethodName := ⟨"PointAnswersModel", "isWithdrawn", "(I)Z"⟩
def iX7_isWithdrawn : List (Nat × Instr × Nat) := [(0, .aload_n 0, 1), (1, .iload_n 1, 1), (2, .bipush 6, 2), (4, .invokevirtual 42, 3), (7, .iconst 1, 1), (8, .if_icmp .ne 7, 3), (11, .iconst 1, 1), (12, .goto 4, 3), (15, .iconst 0, 1), (16, .ireturn, 1)]
theorem dX7_isWithdrawn : iX7_isWithdrawn.all (fun q => decide (decode cX7_isWithdrawn q.1 = .ok q.2)) = true := by decide +kernel
abbrev wsX7_isWithdrawn : List Cond := .code yX7_isWithdrawn cX7_isWithdrawn 2 (some .boolean) :: wT
abbrev cX7_bits : ByteArray := prog_9_method_8_code
def yX7_bits : MethodName := ⟨"PointAnswersModel", "bits", "(I)I"⟩
def iX7_bits : List (Nat × Instr × Nat) := [(0, .iconst 0, 1), (1, .istore_n 1, 1), (2, .iload_n 0, 1), (3, .istore_n 2, 1), (4, .iload_n 2, 1), (5, .ifCond .eq 15, 3), (8, .iinc 1 1, 3), (11, .iload_n 2, 1), (12, .iload_n 2, 1), (13, .iconst 1, 1), (14, .isub, 1), (15, .iand, 1), (16, .istore_n 2, 1), (17, .goto (-13), 3), (20, .iload_n 1, 1), (21, .ireturn, 1)]
theorem dX7_bits : iX7_bits.all (fun q => decide (decode cX7_bits q.1 = .ok q.2)) = true := by decide +kernel
abbrev wsX7_bits : List Cond := .code yX7_bits cX7_bits 3 (some .int) :: wT
abbrev cX7_record : ByteArray := prog_9_method_9_code
def yX7_record : MethodName := ⟨"PointAnswersModel", "record", "()V"⟩
def iX7_record : List (Nat × Instr × Nat) := [(0, .aload_n 0, 1), (1, .getfield 46, 3), (4, .bipush 6, 2), (6, .if_icmp .ne 44, 3), (9, .iconst 0, 1), (10, .istore_n 1, 1), (11, .iload_n 1, 1), (12, .sipush 865, 3), (15, .if_icmp .ge 25, 3), (18, .aload_n 0, 1), (19, .getfield 13, 3), (22, .iload_n 1, 1), (23, .aload_n 0, 1), (24, .getfield 13, 3), (27, .iload_n 1, 1), (28, .sipush 173, 3), (31, .iadd, 1), (32, .iaload, 1), (33, .iastore, 1), (34, .iinc 1 1, 3), (37, .goto (-26), 3), (40, .aload_n 0, 1), (41, .dup, 1), (42, .getfield 46, 3), (45, .iconst 1, 1), (46, .isub, 1), (47, .putfield 46, 3), (50, .iconst 0, 1), (51, .istore_n 1, 1), (52, .iload_n 1, 1), (53, .sipush 173, 3), (56, .if_icmp .ge 30, 3), (59, .aload_n 0, 1), (60, .getfield 13, 3), (63, .aload_n 0, 1), (64, .getfield 46, 3), (67, .sipush 173, 3), (70, .imul, 1), (71, .iload_n 1, 1), (72, .iadd, 1), (73, .aload_n 0, 1), (74, .getfield 7, 3), (77, .iload_n 1, 1), (78, .iaload, 1), (79, .iastore, 1), (80, .iinc 1 1, 3), (83, .goto (-31), 3), (86, .aload_n 0, 1), (87, .dup, 1), (88, .getfield 46, 3), (91, .iconst 1, 1), (92, .iadd, 1), (93, .putfield 46, 3), (96, .return_, 1)]
theorem dX7_record : iX7_record.all (fun q => decide (decode cX7_record q.1 = .ok q.2)) = true := by decide +kernel
abbrev wsX7_record : List Cond := .code yX7_record cX7_record 2 none :: wT
abbrev cX7_undo : ByteArray := prog_9_method_10_code
def yX7_undo : MethodName := ⟨"PointAnswersModel", "undo", "()I"⟩
def iX7_undo : List (Nat × Instr × Nat) := [(0, .aload_n 0, 1), (1, .getfield 46, 3), (4, .ifCond .ne 6, 3), (7, .bipush (-5), 2), (9, .ireturn, 1), (10, .aload_n 0, 1), (11, .dup, 1), (12, .getfield 46, 3), (15, .iconst 1, 1), (16, .isub, 1), (17, .putfield 46, 3), (20, .iconst 0, 1), (21, .istore_n 1, 1), (22, .iload_n 1, 1), (23, .sipush 173, 3), (26, .if_icmp .ge 30, 3), (29, .aload_n 0, 1), (30, .getfield 7, 3), (33, .iload_n 1, 1), (34, .aload_n 0, 1), (35, .getfield 13, 3), (38, .aload_n 0, 1), (39, .getfield 46, 3), (42, .sipush 173, 3), (45, .imul, 1), (46, .iload_n 1, 1), (47, .iadd, 1), (48, .iaload, 1), (49, .iastore, 1), (50, .iinc 1 1, 3), (53, .goto (-31), 3), (56, .aload_n 0, 1), (57, .getfield 46, 3), (60, .ireturn, 1)]
theorem dX7_undo : iX7_undo.all (fun q => decide (decode cX7_undo q.1 = .ok q.2)) = true := by decide +kernel
abbrev wsX7_undo : List Cond := .code yX7_undo cX7_undo 2 (some .int) :: wT
abbrev cX7_save : ByteArray := prog_9_method_11_code
def yX7_save : MethodName := ⟨"PointAnswersModel", "save", "(I)I"⟩
def iX7_save : List (Nat × Instr × Nat) := [(0, .iload_n 1, 1), (1, .iconst 0, 1), (2, .iconst 1, 1), (3, .invokestatic 50, 3), (6, .ifCond .ne 6, 3), (9, .bipush (-2), 2), (11, .ireturn, 1), (12, .aload_n 0, 1), (13, .getfield 19, 3), (16, .iload_n 1, 1), (17, .iconst 1, 1), (18, .bastore, 1), (19, .iconst 0, 1), (20, .istore_n 2, 1), (21, .iload_n 2, 1), (22, .sipush 173, 3), (25, .if_icmp .ge 27, 3), (28, .aload_n 0, 1), (29, .getfield 16, 3), (32, .iload_n 1, 1), (33, .sipush 173, 3), (36, .imul, 1), (37, .iload_n 2, 1), (38, .iadd, 1), (39, .aload_n 0, 1), (40, .getfield 7, 3), (43, .iload_n 2, 1), (44, .iaload, 1), (45, .iastore, 1), (46, .iinc 2 1, 3), (49, .goto (-28), 3), (52, .aload_n 0, 1), (53, .getfield 7, 3), (56, .iconst 3, 1), (57, .iaload, 1), (58, .ireturn, 1)]
theorem dX7_save : iX7_save.all (fun q => decide (decode cX7_save q.1 = .ok q.2)) = true := by decide +kernel
abbrev wsX7_save : List Cond := .code yX7_save cX7_save 3 (some .int) :: wT
abbrev cX7_restore : ByteArray := prog_9_method_12_code
def yX7_restore : MethodName := ⟨"PointAnswersModel", "restore", "(I)I"⟩
def iX7_restore : List (Nat × Instr × Nat) := [(0, .iload_n 1, 1), (1, .iconst 0, 1), (2, .iconst 1, 1), (3, .invokestatic 50, 3), (6, .ifCond .ne 6, 3), (9, .bipush (-2), 2), (11, .ireturn, 1), (12, .aload_n 0, 1), (13, .getfield 19, 3), (16, .iload_n 1, 1), (17, .baload, 1), (18, .ifCond .ne 6, 3), (21, .bipush (-5), 2), (23, .ireturn, 1), (24, .aload_n 0, 1), (25, .invokevirtual 54, 3), (28, .iconst 0, 1), (29, .istore_n 2, 1), (30, .iload_n 2, 1), (31, .sipush 173, 3), (34, .if_icmp .ge 27, 3), (37, .aload_n 0, 1), (38, .getfield 7, 3), (41, .iload_n 2, 1), (42, .aload_n 0, 1), (43, .getfield 16, 3), (46, .iload_n 1, 1), (47, .sipush 173, 3), (50, .imul, 1), (51, .iload_n 2, 1), (52, .iadd, 1), (53, .iaload, 1), (54, .iastore, 1), (55, .iinc 2 1, 3), (58, .goto (-28), 3), (61, .aload_n 0, 1), (62, .getfield 7, 3), (65, .iconst 3, 1), (66, .iaload, 1), (67, .ireturn, 1)]
theorem dX7_restore : iX7_restore.all (fun q => decide (decode cX7_restore q.1 = .ok q.2)) = true := by decide +kernel
abbrev wsX7_restore : List Cond := .code yX7_restore cX7_restore 3 (some .int) :: wT
abbrev cX7_lapsed : ByteArray := prog_9_method_13_code
def yX7_lapsed : MethodName := ⟨"PointAnswersModel", "lapsed", "(I)Z"⟩
def iX7_lapsed : List (Nat × Instr × Nat) := [(0, .aload_n 0, 1), (1, .iload_n 1, 1), (2, .invokevirtual 57, 3), (5, .ifCond .ne 29, 3), (8, .aload_n 0, 1), (9, .getfield 7, 3), (12, .iconst 2, 1), (13, .iaload, 1), (14, .aload_n 0, 1), (15, .iload_n 1, 1), (16, .iconst 3, 1), (17, .invokevirtual 42, 3), (20, .isub, 1), (21, .aload_n 0, 1), (22, .getfield 7, 3), (25, .iconst 0, 1), (26, .iaload, 1), (27, .if_icmp .le 7, 3), (30, .iconst 1, 1), (31, .goto 4, 3), (34, .iconst 0, 1), (35, .ireturn, 1)]
theorem dX7_lapsed : iX7_lapsed.all (fun q => decide (decode cX7_lapsed q.1 = .ok q.2)) = true := by decide +kernel
abbrev wsX7_lapsed : List Cond := .code yX7_lapsed cX7_lapsed 2 (some .boolean) :: wT
abbrev cX7_hasNoCase : ByteArray := prog_9_method_14_code
def yX7_hasNoCase : MethodName := ⟨"PointAnswersModel", "hasNoCase", "(I)Z"⟩
def iX7_hasNoCase : List (Nat × Instr × Nat) := [(0, .aload_n 0, 1), (1, .iload_n 1, 1), (2, .iconst 5, 1), (3, .invokevirtual 42, 3), (6, .ifCond .eq 25, 3), (9, .aload_n 0, 1), (10, .iload_n 1, 1), (11, .iconst 5, 1), (12, .invokevirtual 42, 3), (15, .aload_n 0, 1), (16, .getfield 7, 3), (19, .iconst 4, 1), (20, .iaload, 1), (21, .iconst (-1), 1), (22, .ixor, 1), (23, .iand, 1), (24, .ifCond .ne 7, 3), (27, .iconst 1, 1), (28, .goto 4, 3), (31, .iconst 0, 1), (32, .ireturn, 1)]
theorem dX7_hasNoCase : iX7_hasNoCase.all (fun q => decide (decode cX7_hasNoCase q.1 = .ok q.2)) = true := by decide +kernel
abbrev wsX7_hasNoCase : List Cond := .code yX7_hasNoCase cX7_hasNoCase 2 (some .boolean) :: wT
abbrev cX7_layOut : ByteArray := prog_9_method_15_code
def yX7_layOut : MethodName := ⟨"PointAnswersModel", "layOut", "()V"⟩
def iX7_layOut : List (Nat × Instr × Nat) := [(0, .aload_n 0, 1), (1, .getfield 30, 3), (4, .iconst 0, 1), (5, .iconst 0, 1), (6, .iastore, 1), (7, .aload_n 0, 1), (8, .getfield 30, 3), (11, .iconst 1, 1), (12, .iconst 0, 1), (13, .iastore, 1), (14, .iconst 0, 1), (15, .istore_n 1, 1), (16, .iload_n 1, 1), (17, .aload_n 0, 1), (18, .getfield 7, 3), (21, .iconst 3, 1), (22, .iaload, 1), (23, .if_icmp .ge 126, 3), (26, .aload_n 0, 1), (27, .iload_n 1, 1), (28, .iconst 0, 1), (29, .invokevirtual 42, 3), (32, .istore_n 2, 1), (33, .aload_n 0, 1), (34, .getfield 30, 3), (37, .iload_n 2, 1), (38, .iaload, 1), (39, .aload_n 0, 1), (40, .iload_n 1, 1), (41, .iconst 1, 1), (42, .invokevirtual 42, 3), (45, .iadd, 1), (46, .aload_n 0, 1), (47, .getfield 7, 3), (50, .iconst 1, 1), (51, .iaload, 1), (52, .if_icmp .le 7, 3), (55, .iconst 1, 1), (56, .goto 4, 3), (59, .iconst 0, 1), (60, .istore_n 3, 1), (61, .aload_n 0, 1), (62, .getfield 27, 3), (65, .iload_n 1, 1), (66, .aload_n 0, 1), (67, .iload_n 1, 1), (68, .invokevirtual 61, 3), (71, .ifCond .eq 7, 3), (74, .iconst 1, 1), (75, .goto 36, 3), (78, .iload_n 3, 1), (79, .ifCond .eq 7, 3), (82, .iconst 2, 1), (83, .goto 28, 3), (86, .aload_n 0, 1), (87, .iload_n 1, 1), (88, .invokevirtual 64, 3), (91, .ifCond .eq 7, 3), (94, .iconst 3, 1), (95, .goto 16, 3), (98, .aload_n 0, 1), (99, .iload_n 1, 1), (100, .invokevirtual 67, 3), (103, .ifCond .eq 7, 3), (106, .iconst 4, 1), (107, .goto 4, 3), (110, .iconst 0, 1), (111, .iastore, 1), (112, .aload_n 0, 1), (113, .getfield 30, 3), (116, .iload_n 2, 1), (117, .dup2, 1), (118, .iaload, 1), (119, .aload_n 0, 1), (120, .iload_n 1, 1), (121, .invokevirtual 61, 3), (124, .ifCond .ne 7, 3), (127, .iload_n 3, 1), (128, .ifCond .eq 7, 3), (131, .iconst 0, 1), (132, .goto 9, 3), (135, .aload_n 0, 1), (136, .iload_n 1, 1), (137, .iconst 1, 1), (138, .invokevirtual 42, 3), (141, .iadd, 1), (142, .iastore, 1), (143, .iinc 1 1, 3), (146, .goto (-130), 3), (149, .return_, 1)]
theorem dX7_layOut : iX7_layOut.all (fun q => decide (decode cX7_layOut q.1 = .ok q.2)) = true := by decide +kernel
abbrev wsX7_layOut : List Cond := .code yX7_layOut cX7_layOut 4 none :: wT
abbrev cX7_layAnswered : ByteArray := prog_9_method_16_code
def yX7_layAnswered : MethodName := ⟨"PointAnswersModel", "layAnswered", "(I)V"⟩
def iX7_layAnswered : List (Nat × Instr × Nat) := [(0, .aload_n 0, 1), (1, .getfield 7, 3), (4, .iconst 3, 1), (5, .iaload, 1), (6, .iconst 1, 1), (7, .isub, 1), (8, .istore_n 2, 1), (9, .iload_n 2, 1), (10, .ifCond .lt 102, 3), (13, .iload_n 2, 1), (14, .iload_n 1, 1), (15, .if_icmp .ne 7, 3), (18, .iconst 1, 1), (19, .goto 4, 3), (22, .iconst 0, 1), (23, .istore_n 3, 1), (24, .iload_n 2, 1), (25, .iconst 1, 1), (26, .iadd, 1), (27, .istore 4, 2), (29, .iload 4, 2), (31, .aload_n 0, 1), (32, .getfield 7, 3), (35, .iconst 3, 1), (36, .iaload, 1), (37, .if_icmp .ge 40, 3), (40, .iload_n 3, 1), (41, .ifCond .ne 24, 3), (44, .aload_n 0, 1), (45, .iload 4, 2), (47, .iconst 4, 1), (48, .invokevirtual 42, 3), (51, .iload_n 2, 1), (52, .if_icmp .ne 17, 3), (55, .aload_n 0, 1), (56, .getfield 27, 3), (59, .iload 4, 2), (61, .iaload, 1), (62, .ifCond .ne 7, 3), (65, .iconst 1, 1), (66, .goto 4, 3), (69, .iconst 0, 1), (70, .istore_n 3, 1), (71, .iinc 4 1, 3), (74, .goto (-45), 3), (77, .aload_n 0, 1), (78, .getfield 27, 3), (81, .iload_n 2, 1), (82, .aload_n 0, 1), (83, .getfield 27, 3), (86, .iload_n 2, 1), (87, .iaload, 1), (88, .ifCond .ne 11, 3), (91, .iload_n 3, 1), (92, .ifCond .eq 7, 3), (95, .iconst 5, 1), (96, .goto 9, 3), (99, .aload_n 0, 1), (100, .getfield 27, 3), (103, .iload_n 2, 1), (104, .iaload, 1), (105, .iastore, 1), (106, .iinc 2 (-1), 3), (109, .goto (-100), 3), (112, .return_, 1)]
theorem dX7_layAnswered : iX7_layAnswered.all (fun q => decide (decode cX7_layAnswered q.1 = .ok q.2)) = true := by decide +kernel
abbrev wsX7_layAnswered : List Cond := .code yX7_layAnswered cX7_layAnswered 5 none :: wT
abbrev cX7_look : ByteArray := prog_9_method_17_code
def yX7_look : MethodName := ⟨"PointAnswersModel", "look", "()V"⟩
def iX7_look : List (Nat × Instr × Nat) := [(0, .aload_n 0, 1), (1, .invokevirtual 70, 3), (4, .aload_n 0, 1), (5, .bipush (-6), 2), (7, .invokevirtual 73, 3), (10, .return_, 1)]
theorem dX7_look : iX7_look.all (fun q => decide (decode cX7_look q.1 = .ok q.2)) = true := by decide +kernel
abbrev wsX7_look : List Cond := .code yX7_look cX7_look 1 none :: wT
abbrev cX7_standing : ByteArray := prog_9_method_18_code
def yX7_standing : MethodName := ⟨"PointAnswersModel", "standing", "()I"⟩
def iX7_standing : List (Nat × Instr × Nat) := [(0, .iconst 0, 1), (1, .istore_n 1, 1), (2, .iconst 0, 1), (3, .istore_n 2, 1), (4, .iload_n 2, 1), (5, .aload_n 0, 1), (6, .getfield 7, 3), (9, .iconst 3, 1), (10, .iaload, 1), (11, .if_icmp .ge 28, 3), (14, .iload_n 1, 1), (15, .aload_n 0, 1), (16, .getfield 27, 3), (19, .iload_n 2, 1), (20, .iaload, 1), (21, .ifCond .ne 9, 3), (24, .iconst 1, 1), (25, .iload_n 2, 1), (26, .ishl, 1), (27, .goto 4, 3), (30, .iconst 0, 1), (31, .ior, 1), (32, .istore_n 1, 1), (33, .iinc 2 1, 3), (36, .goto (-32), 3), (39, .iload_n 1, 1), (40, .ireturn, 1)]
theorem dX7_standing : iX7_standing.all (fun q => decide (decode cX7_standing q.1 = .ok q.2)) = true := by decide +kernel
abbrev wsX7_standing : List Cond := .code yX7_standing cX7_standing 3 (some .int) :: wT
abbrev cX7_claims : ByteArray := prog_9_method_19_code
def yX7_claims : MethodName := ⟨"PointAnswersModel", "claims", "()I"⟩
def iX7_claims : List (Nat × Instr × Nat) := [(0, .iconst 0, 1), (1, .istore_n 1, 1), (2, .iconst 0, 1), (3, .istore_n 2, 1), (4, .iload_n 2, 1), (5, .aload_n 0, 1), (6, .getfield 7, 3), (9, .iconst 3, 1), (10, .iaload, 1), (11, .if_icmp .ge 27, 3), (14, .iload_n 1, 1), (15, .aload_n 0, 1), (16, .iload_n 2, 1), (17, .invokevirtual 57, 3), (20, .ifCond .eq 9, 3), (23, .iconst 1, 1), (24, .iload_n 2, 1), (25, .ishl, 1), (26, .goto 4, 3), (29, .iconst 0, 1), (30, .ior, 1), (31, .istore_n 1, 1), (32, .iinc 2 1, 3), (35, .goto (-31), 3), (38, .iload_n 1, 1), (39, .ireturn, 1)]
theorem dX7_claims : iX7_claims.all (fun q => decide (decode cX7_claims q.1 = .ok q.2)) = true := by decide +kernel
abbrev wsX7_claims : List Cond := .code yX7_claims cX7_claims 3 (some .int) :: wT
abbrev cX7_answersTo : ByteArray := prog_9_method_20_code
def yX7_answersTo : MethodName := ⟨"PointAnswersModel", "answersTo", "(I)I"⟩
def iX7_answersTo : List (Nat × Instr × Nat) := [(0, .iconst 0, 1), (1, .istore_n 2, 1), (2, .iconst 0, 1), (3, .istore_n 3, 1), (4, .iload_n 3, 1), (5, .aload_n 0, 1), (6, .getfield 7, 3), (9, .iconst 3, 1), (10, .iaload, 1), (11, .if_icmp .ge 29, 3), (14, .iload_n 2, 1), (15, .aload_n 0, 1), (16, .iload_n 3, 1), (17, .iconst 4, 1), (18, .invokevirtual 42, 3), (21, .iload_n 1, 1), (22, .if_icmp .ne 9, 3), (25, .iconst 1, 1), (26, .iload_n 3, 1), (27, .ishl, 1), (28, .goto 4, 3), (31, .iconst 0, 1), (32, .ior, 1), (33, .istore_n 2, 1), (34, .iinc 3 1, 3), (37, .goto (-33), 3), (40, .iload_n 2, 1), (41, .ireturn, 1)]
theorem dX7_answersTo : iX7_answersTo.all (fun q => decide (decode cX7_answersTo q.1 = .ok q.2)) = true := by decide +kernel
abbrev wsX7_answersTo : List Cond := .code yX7_answersTo cX7_answersTo 4 (some .int) :: wT
abbrev cX7_isValue : ByteArray := prog_9_method_21_code
def yX7_isValue : MethodName := ⟨"PointAnswersModel", "isValue", "(II)Z"⟩
def iX7_isValue : List (Nat × Instr × Nat) := [(0, .iload_n 0, 1), (1, .ifCond .ne 13, 3), (4, .iload_n 1, 1), (5, .iconst 1, 1), (6, .bipush 60, 2), (8, .invokestatic 50, 3), (11, .goto 10, 3), (14, .iload_n 1, 1), (15, .iconst 1, 1), (16, .bipush 99, 2), (18, .invokestatic 50, 3), (21, .ireturn, 1)]
theorem dX7_isValue : iX7_isValue.all (fun q => decide (decode cX7_isValue q.1 = .ok q.2)) = true := by decide +kernel
abbrev wsX7_isValue : List Cond := .code yX7_isValue cX7_isValue 2 (some .boolean) :: wT
abbrev cX7_set : ByteArray := prog_9_method_22_code
def yX7_set : MethodName := ⟨"PointAnswersModel", "set", "(II)I"⟩
def iX7_set : List (Nat × Instr × Nat) := [(0, .iload_n 1, 1), (1, .iconst 0, 1), (2, .iconst 1, 1), (3, .invokestatic 50, 3), (6, .ifCond .eq 11, 3), (9, .iload_n 1, 1), (10, .iload_n 2, 1), (11, .invokestatic 77, 3), (14, .ifCond .ne 6, 3), (17, .bipush (-2), 2), (19, .ireturn, 1), (20, .aload_n 0, 1), (21, .invokevirtual 54, 3), (24, .aload_n 0, 1), (25, .getfield 7, 3), (28, .iload_n 1, 1), (29, .iaload, 1), (30, .istore_n 3, 1), (31, .aload_n 0, 1), (32, .getfield 7, 3), (35, .iload_n 1, 1), (36, .iload_n 2, 1), (37, .iastore, 1), (38, .iload_n 3, 1), (39, .ireturn, 1)]
theorem dX7_set : iX7_set.all (fun q => decide (decode cX7_set q.1 = .ok q.2)) = true := by decide +kernel
abbrev wsX7_set : List Cond := .code yX7_set cX7_set 4 (some .int) :: wT
abbrev cX7_file : ByteArray := prog_9_method_23_code
def yX7_file : MethodName := ⟨"PointAnswersModel", "file", "(IIII)I"⟩
def iX7_file : List (Nat × Instr × Nat) := [(0, .aload_n 0, 1), (1, .getfield 7, 3), (4, .iconst 3, 1), (5, .iaload, 1), (6, .istore 5, 2), (8, .aload_n 0, 1), (9, .iload 5, 2), (11, .iconst 0, 1), (12, .iload_n 1, 1), (13, .invokevirtual 81, 3), (16, .aload_n 0, 1), (17, .iload 5, 2), (19, .iconst 1, 1), (20, .iload_n 3, 1), (21, .invokevirtual 81, 3), (24, .aload_n 0, 1), (25, .iload 5, 2), (27, .iconst 2, 1), (28, .aload_n 0, 1), (29, .getfield 7, 3), (32, .iconst 2, 1), (33, .iaload, 1), (34, .invokevirtual 81, 3), (37, .aload_n 0, 1), (38, .iload 5, 2), (40, .iconst 3, 1), (41, .aload_n 0, 1), (42, .getfield 7, 3), (45, .iconst 2, 1), (46, .iaload, 1), (47, .invokevirtual 81, 3), (50, .aload_n 0, 1), (51, .iload 5, 2), (53, .iconst 4, 1), (54, .iload_n 2, 1), (55, .invokevirtual 81, 3), (58, .aload_n 0, 1), (59, .iload 5, 2), (61, .iconst 5, 1), (62, .iload 4, 2), (64, .invokevirtual 81, 3), (67, .aload_n 0, 1), (68, .iload 5, 2), (70, .bipush 6, 2), (72, .iconst 0, 1), (73, .invokevirtual 81, 3), (76, .aload_n 0, 1), (77, .getfield 7, 3), (80, .iconst 3, 1), (81, .dup2, 1), (82, .iaload, 1), (83, .iconst 1, 1), (84, .iadd, 1), (85, .iastore, 1), (86, .iload 5, 2), (88, .ireturn, 1)]
theorem dX7_file : iX7_file.all (fun q => decide (decode cX7_file q.1 = .ok q.2)) = true := by decide +kernel
abbrev wsX7_file : List Cond := .code yX7_file cX7_file 6 (some .int) :: wT
abbrev cX7_isFile : ByteArray := prog_9_method_24_code
def yX7_isFile : MethodName := ⟨"PointAnswersModel", "isFile", "(II)Z"⟩
def iX7_isFile : List (Nat × Instr × Nat) := [(0, .iload_n 0, 1), (1, .iconst 1, 1), (2, .bipush 9, 2), (4, .invokestatic 50, 3), (7, .ifCond .eq 18, 3), (10, .iload_n 1, 1), (11, .iconst 0, 1), (12, .sipush 1023, 3), (15, .invokestatic 50, 3), (18, .ifCond .eq 7, 3), (21, .iconst 1, 1), (22, .goto 4, 3), (25, .iconst 0, 1), (26, .ireturn, 1)]
theorem dX7_isFile : iX7_isFile.all (fun q => decide (decode cX7_isFile q.1 = .ok q.2)) = true := by decide +kernel
abbrev wsX7_isFile : List Cond := .code yX7_isFile cX7_isFile 2 (some .boolean) :: wT
abbrev cX7_whyNotClaim : ByteArray := prog_9_method_25_code
def yX7_whyNotClaim : MethodName := ⟨"PointAnswersModel", "whyNotClaim", "(III)I"⟩
def iX7_whyNotClaim : List (Nat × Instr × Nat) := [(0, .iload_n 1, 1), (1, .iconst 0, 1), (2, .iconst 1, 1), (3, .invokestatic 50, 3), (6, .ifCond .eq 11, 3), (9, .iload_n 2, 1), (10, .iload_n 3, 1), (11, .invokestatic 85, 3), (14, .ifCond .ne 8, 3), (17, .bipush (-2), 2), (19, .goto 20, 3), (22, .aload_n 0, 1), (23, .getfield 7, 3), (26, .iconst 3, 1), (27, .iaload, 1), (28, .bipush 24, 2), (30, .if_icmp .ne 8, 3), (33, .bipush (-4), 2), (35, .goto 4, 3), (38, .iconst 0, 1), (39, .ireturn, 1)]
theorem dX7_whyNotClaim : iX7_whyNotClaim.all (fun q => decide (decode cX7_whyNotClaim q.1 = .ok q.2)) = true := by decide +kernel
abbrev wsX7_whyNotClaim : List Cond := .code yX7_whyNotClaim cX7_whyNotClaim 4 (some .int) :: wT
abbrev cX7_claim : ByteArray := prog_9_method_26_code
def yX7_claim : MethodName := ⟨"PointAnswersModel", "claim", "(III)I"⟩
def iX7_claim : List (Nat × Instr × Nat) := [(0, .aload_n 0, 1), (1, .iload_n 1, 1), (2, .iload_n 2, 1), (3, .iload_n 3, 1), (4, .invokevirtual 88, 3), (7, .istore 4, 2), (9, .iload 4, 2), (11, .ifCond .ge 6, 3), (14, .iload 4, 2), (16, .ireturn, 1), (17, .aload_n 0, 1), (18, .invokevirtual 54, 3), (21, .aload_n 0, 1), (22, .iload_n 1, 1), (23, .bipush (-6), 2), (25, .iload_n 2, 1), (26, .iload_n 3, 1), (27, .invokevirtual 92, 3), (30, .ireturn, 1)]
theorem dX7_claim : iX7_claim.all (fun q => decide (decode cX7_claim q.1 = .ok q.2)) = true := by decide +kernel
abbrev wsX7_claim : List Cond := .code yX7_claim cX7_claim 5 (some .int) :: wT
abbrev cX7_whyNotAnswer : ByteArray := prog_9_method_27_code
def yX7_whyNotAnswer : MethodName := ⟨"PointAnswersModel", "whyNotAnswer", "(III)I"⟩
def iX7_whyNotAnswer : List (Nat × Instr × Nat) := [(0, .aload_n 0, 1), (1, .iload_n 1, 1), (2, .invokevirtual 96, 3), (5, .ifCond .ne 5, 3), (8, .iconst (-1), 1), (9, .ireturn, 1), (10, .iload_n 2, 1), (11, .iload_n 3, 1), (12, .invokestatic 85, 3), (15, .ifCond .ne 8, 3), (18, .bipush (-2), 2), (20, .goto 33, 3), (23, .aload_n 0, 1), (24, .getfield 7, 3), (27, .iconst 3, 1), (28, .iaload, 1), (29, .bipush 24, 2), (31, .if_icmp .ne 8, 3), (34, .bipush (-4), 2), (36, .goto 17, 3), (39, .aload_n 0, 1), (40, .iload_n 1, 1), (41, .invokevirtual 61, 3), (44, .ifCond .eq 8, 3), (47, .bipush (-5), 2), (49, .goto 4, 3), (52, .iconst 0, 1), (53, .ireturn, 1)]
theorem dX7_whyNotAnswer : iX7_whyNotAnswer.all (fun q => decide (decode cX7_whyNotAnswer q.1 = .ok q.2)) = true := by decide +kernel
abbrev wsX7_whyNotAnswer : List Cond := .code yX7_whyNotAnswer cX7_whyNotAnswer 4 (some .int) :: wT
abbrev cX7_answer : ByteArray := prog_9_method_28_code
def yX7_answer : MethodName := ⟨"PointAnswersModel", "answer", "(III)I"⟩
def iX7_answer : List (Nat × Instr × Nat) := [(0, .aload_n 0, 1), (1, .iload_n 1, 1), (2, .iload_n 2, 1), (3, .iload_n 3, 1), (4, .invokevirtual 99, 3), (7, .istore 4, 2), (9, .iload 4, 2), (11, .ifCond .ge 6, 3), (14, .iload 4, 2), (16, .ireturn, 1), (17, .aload_n 0, 1), (18, .invokevirtual 54, 3), (21, .aload_n 0, 1), (22, .iconst 1, 1), (23, .aload_n 0, 1), (24, .iload_n 1, 1), (25, .iconst 0, 1), (26, .invokevirtual 42, 3), (29, .isub, 1), (30, .iload_n 1, 1), (31, .iload_n 2, 1), (32, .iload_n 3, 1), (33, .invokevirtual 92, 3), (36, .ireturn, 1)]
theorem dX7_answer : iX7_answer.all (fun q => decide (decode cX7_answer q.1 = .ok q.2)) = true := by decide +kernel
abbrev wsX7_answer : List Cond := .code yX7_answer cX7_answer 5 (some .int) :: wT
abbrev cX7_whyNotWithdraw : ByteArray := prog_9_method_29_code
def yX7_whyNotWithdraw : MethodName := ⟨"PointAnswersModel", "whyNotWithdraw", "(I)I"⟩
def iX7_whyNotWithdraw : List (Nat × Instr × Nat) := [(0, .aload_n 0, 1), (1, .iload_n 1, 1), (2, .invokevirtual 96, 3), (5, .ifCond .ne 7, 3), (8, .iconst (-1), 1), (9, .goto 17, 3), (12, .aload_n 0, 1), (13, .iload_n 1, 1), (14, .invokevirtual 61, 3), (17, .ifCond .eq 8, 3), (20, .bipush (-5), 2), (22, .goto 4, 3), (25, .iconst 0, 1), (26, .ireturn, 1)]
theorem dX7_whyNotWithdraw : iX7_whyNotWithdraw.all (fun q => decide (decode cX7_whyNotWithdraw q.1 = .ok q.2)) = true := by decide +kernel
abbrev wsX7_whyNotWithdraw : List Cond := .code yX7_whyNotWithdraw cX7_whyNotWithdraw 2 (some .int) :: wT
abbrev cX7_withdraw : ByteArray := prog_9_method_30_code
def yX7_withdraw : MethodName := ⟨"PointAnswersModel", "withdraw", "(I)I"⟩
def iX7_withdraw : List (Nat × Instr × Nat) := [(0, .aload_n 0, 1), (1, .iload_n 1, 1), (2, .invokevirtual 102, 3), (5, .istore_n 2, 1), (6, .iload_n 2, 1), (7, .ifCond .ge 5, 3), (10, .iload_n 2, 1), (11, .ireturn, 1), (12, .aload_n 0, 1), (13, .invokevirtual 54, 3), (16, .aload_n 0, 1), (17, .iload_n 1, 1), (18, .bipush 6, 2), (20, .iconst 1, 1), (21, .invokevirtual 81, 3), (24, .aload_n 0, 1), (25, .invokevirtual 106, 3), (28, .aload_n 0, 1), (29, .invokevirtual 109, 3), (32, .invokestatic 113, 3), (35, .ireturn, 1)]
theorem dX7_withdraw : iX7_withdraw.all (fun q => decide (decode cX7_withdraw q.1 = .ok q.2)) = true := by decide +kernel
abbrev wsX7_withdraw : List Cond := .code yX7_withdraw cX7_withdraw 3 (some .int) :: wT
abbrev cX7_whyNotRenew : ByteArray := prog_9_method_31_code
def yX7_whyNotRenew : MethodName := ⟨"PointAnswersModel", "whyNotRenew", "(I)I"⟩
def iX7_whyNotRenew : List (Nat × Instr × Nat) := [(0, .aload_n 0, 1), (1, .iload_n 1, 1), (2, .invokevirtual 96, 3), (5, .ifCond .ne 7, 3), (8, .iconst (-1), 1), (9, .goto 25, 3), (12, .aload_n 0, 1), (13, .iload_n 1, 1), (14, .invokevirtual 57, 3), (17, .ifCond .ne 11, 3), (20, .aload_n 0, 1), (21, .iload_n 1, 1), (22, .invokevirtual 61, 3), (25, .ifCond .eq 8, 3), (28, .bipush (-5), 2), (30, .goto 4, 3), (33, .iconst 0, 1), (34, .ireturn, 1)]
theorem dX7_whyNotRenew : iX7_whyNotRenew.all (fun q => decide (decode cX7_whyNotRenew q.1 = .ok q.2)) = true := by decide +kernel
abbrev wsX7_whyNotRenew : List Cond := .code yX7_whyNotRenew cX7_whyNotRenew 2 (some .int) :: wT
abbrev cX7_renew : ByteArray := prog_9_method_32_code
def yX7_renew : MethodName := ⟨"PointAnswersModel", "renew", "(I)I"⟩
def iX7_renew : List (Nat × Instr × Nat) := [(0, .aload_n 0, 1), (1, .iload_n 1, 1), (2, .invokevirtual 116, 3), (5, .istore_n 2, 1), (6, .iload_n 2, 1), (7, .ifCond .ge 5, 3), (10, .iload_n 2, 1), (11, .ireturn, 1), (12, .aload_n 0, 1), (13, .invokevirtual 54, 3), (16, .aload_n 0, 1), (17, .getfield 7, 3), (20, .iconst 2, 1), (21, .iaload, 1), (22, .aload_n 0, 1), (23, .iload_n 1, 1), (24, .iconst 3, 1), (25, .invokevirtual 42, 3), (28, .isub, 1), (29, .istore_n 3, 1), (30, .aload_n 0, 1), (31, .iload_n 1, 1), (32, .iconst 3, 1), (33, .aload_n 0, 1), (34, .getfield 7, 3), (37, .iconst 2, 1), (38, .iaload, 1), (39, .invokevirtual 81, 3), (42, .iload_n 3, 1), (43, .ireturn, 1)]
theorem dX7_renew : iX7_renew.all (fun q => decide (decode cX7_renew q.1 = .ok q.2)) = true := by decide +kernel
abbrev wsX7_renew : List Cond := .code yX7_renew cX7_renew 4 (some .int) :: wT
abbrev cX7_overruleIt : ByteArray := prog_9_method_33_code
def yX7_overruleIt : MethodName := ⟨"PointAnswersModel", "overruleIt", "(I)I"⟩
def iX7_overruleIt : List (Nat × Instr × Nat) := [(0, .aload_n 0, 1), (1, .getfield 7, 3), (4, .iconst 4, 1), (5, .dup2, 1), (6, .iaload, 1), (7, .iconst 1, 1), (8, .iload_n 1, 1), (9, .ishl, 1), (10, .ixor, 1), (11, .iastore, 1), (12, .aload_n 0, 1), (13, .getfield 7, 3), (16, .iconst 4, 1), (17, .iaload, 1), (18, .iload_n 1, 1), (19, .ishr, 1), (20, .iconst 1, 1), (21, .iand, 1), (22, .ireturn, 1)]
theorem dX7_overruleIt : iX7_overruleIt.all (fun q => decide (decode cX7_overruleIt q.1 = .ok q.2)) = true := by decide +kernel
abbrev wsX7_overruleIt : List Cond := .code yX7_overruleIt cX7_overruleIt 2 (some .int) :: wT
abbrev cX7_overrule : ByteArray := prog_9_method_34_code
def yX7_overrule : MethodName := ⟨"PointAnswersModel", "overrule", "(I)I"⟩
def iX7_overrule : List (Nat × Instr × Nat) := [(0, .iload_n 1, 1), (1, .iconst 0, 1), (2, .bipush 9, 2), (4, .invokestatic 50, 3), (7, .ifCond .ne 5, 3), (10, .iconst (-1), 1), (11, .ireturn, 1), (12, .aload_n 0, 1), (13, .invokevirtual 54, 3), (16, .aload_n 0, 1), (17, .iload_n 1, 1), (18, .invokevirtual 119, 3), (21, .ireturn, 1)]
theorem dX7_overrule : iX7_overrule.all (fun q => decide (decode cX7_overrule q.1 = .ok q.2)) = true := by decide +kernel
abbrev wsX7_overrule : List Cond := .code yX7_overrule cX7_overrule 2 (some .int) :: wT
abbrev cX7_whyNotPass : ByteArray := prog_9_method_35_code
def yX7_whyNotPass : MethodName := ⟨"PointAnswersModel", "whyNotPass", "(I)I"⟩
def iX7_whyNotPass : List (Nat × Instr × Nat) := [(0, .iload_n 1, 1), (1, .iconst 1, 1), (2, .bipush 99, 2), (4, .invokestatic 50, 3), (7, .ifCond .ne 8, 3), (10, .bipush (-2), 2), (12, .goto 23, 3), (15, .aload_n 0, 1), (16, .getfield 7, 3), (19, .iconst 2, 1), (20, .iaload, 1), (21, .iload_n 1, 1), (22, .iadd, 1), (23, .sipush 999, 3), (26, .if_icmp .le 8, 3), (29, .bipush (-5), 2), (31, .goto 4, 3), (34, .iconst 0, 1), (35, .ireturn, 1)]
theorem dX7_whyNotPass : iX7_whyNotPass.all (fun q => decide (decode cX7_whyNotPass q.1 = .ok q.2)) = true := by decide +kernel
abbrev wsX7_whyNotPass : List Cond := .code yX7_whyNotPass cX7_whyNotPass 2 (some .int) :: wT
abbrev cX7_pass : ByteArray := prog_9_method_36_code
def yX7_pass : MethodName := ⟨"PointAnswersModel", "pass", "(I)I"⟩
def iX7_pass : List (Nat × Instr × Nat) := [(0, .aload_n 0, 1), (1, .iload_n 1, 1), (2, .invokevirtual 122, 3), (5, .istore_n 2, 1), (6, .iload_n 2, 1), (7, .ifCond .ge 5, 3), (10, .iload_n 2, 1), (11, .ireturn, 1), (12, .aload_n 0, 1), (13, .invokevirtual 54, 3), (16, .aload_n 0, 1), (17, .getfield 7, 3), (20, .iconst 2, 1), (21, .dup2, 1), (22, .iaload, 1), (23, .iload_n 1, 1), (24, .iadd, 1), (25, .iastore, 1), (26, .aload_n 0, 1), (27, .invokevirtual 106, 3), (30, .aload_n 0, 1), (31, .invokevirtual 109, 3), (34, .invokestatic 113, 3), (37, .ireturn, 1)]
theorem dX7_pass : iX7_pass.all (fun q => decide (decode cX7_pass q.1 = .ok q.2)) = true := by decide +kernel
abbrev wsX7_pass : List Cond := .code yX7_pass cX7_pass 3 (some .int) :: wT
abbrev cX7_lowestThatStands : ByteArray := prog_9_method_37_code
def yX7_lowestThatStands : MethodName := ⟨"PointAnswersModel", "lowestThatStands", "(I)I"⟩
def iX7_lowestThatStands : List (Nat × Instr × Nat) := [(0, .iload_n 1, 1), (1, .iconst 1, 1), (2, .iadd, 1), (3, .istore_n 2, 1), (4, .iload_n 2, 1), (5, .aload_n 0, 1), (6, .getfield 7, 3), (9, .iconst 3, 1), (10, .iaload, 1), (11, .if_icmp .ge 30, 3), (14, .aload_n 0, 1), (15, .iload_n 2, 1), (16, .iconst 4, 1), (17, .invokevirtual 42, 3), (20, .iload_n 1, 1), (21, .if_icmp .ne 14, 3), (24, .aload_n 0, 1), (25, .getfield 27, 3), (28, .iload_n 2, 1), (29, .iaload, 1), (30, .ifCond .ne 5, 3), (33, .iload_n 2, 1), (34, .ireturn, 1), (35, .iinc 2 1, 3), (38, .goto (-34), 3), (41, .bipush (-6), 2), (43, .ireturn, 1)]
theorem dX7_lowestThatStands : iX7_lowestThatStands.all (fun q => decide (decode cX7_lowestThatStands q.1 = .ok q.2)) = true := by decide +kernel
abbrev wsX7_lowestThatStands : List Cond := .code yX7_lowestThatStands cX7_lowestThatStands 3 (some .int) :: wT
abbrev cX7_depth : ByteArray := prog_9_method_38_code
def yX7_depth : MethodName := ⟨"PointAnswersModel", "depth", "(I)I"⟩
def iX7_depth : List (Nat × Instr × Nat) := [(0, .iconst 0, 1), (1, .istore_n 2, 1), (2, .iload_n 1, 1), (3, .istore_n 3, 1), (4, .aload_n 0, 1), (5, .iload_n 3, 1), (6, .invokevirtual 57, 3), (9, .ifCond .ne 16, 3), (12, .aload_n 0, 1), (13, .iload_n 3, 1), (14, .iconst 4, 1), (15, .invokevirtual 42, 3), (18, .istore_n 3, 1), (19, .iinc 2 1, 3), (22, .goto (-18), 3), (25, .iload_n 2, 1), (26, .ireturn, 1)]
theorem dX7_depth : iX7_depth.all (fun q => decide (decode cX7_depth q.1 = .ok q.2)) = true := by decide +kernel
abbrev wsX7_depth : List Cond := .code yX7_depth cX7_depth 4 (some .int) :: wT
abbrev cX7_daysYet : ByteArray := prog_9_method_39_code
def yX7_daysYet : MethodName := ⟨"PointAnswersModel", "daysYet", "(I)I"⟩
def iX7_daysYet : List (Nat × Instr × Nat) := [(0, .aload_n 0, 1), (1, .iload_n 1, 1), (2, .invokevirtual 57, 3), (5, .ifCond .ne 11, 3), (8, .aload_n 0, 1), (9, .iload_n 1, 1), (10, .invokevirtual 64, 3), (13, .ifCond .eq 8, 3), (16, .bipush (-6), 2), (18, .goto 23, 3), (21, .aload_n 0, 1), (22, .getfield 7, 3), (25, .iconst 0, 1), (26, .iaload, 1), (27, .aload_n 0, 1), (28, .getfield 7, 3), (31, .iconst 2, 1), (32, .iaload, 1), (33, .aload_n 0, 1), (34, .iload_n 1, 1), (35, .iconst 3, 1), (36, .invokevirtual 42, 3), (39, .isub, 1), (40, .isub, 1), (41, .ireturn, 1)]
theorem dX7_daysYet : iX7_daysYet.all (fun q => decide (decode cX7_daysYet q.1 = .ok q.2)) = true := by decide +kernel
abbrev wsX7_daysYet : List Cond := .code yX7_daysYet cX7_daysYet 2 (some .int) :: wT
abbrev cX7_of : ByteArray := prog_9_method_40_code
def yX7_of : MethodName := ⟨"PointAnswersModel", "of", "(II)I"⟩
def iX7_of : List (Nat × Instr × Nat) := [(0, .aload_n 0, 1), (1, .iload_n 1, 1), (2, .invokevirtual 96, 3), (5, .ifCond .ne 5, 3), (8, .iconst (-1), 1), (9, .ireturn, 1), (10, .aload_n 0, 1), (11, .invokevirtual 106, 3), (14, .iload_n 2, 1), (15, .tableswitch 119 0 10 #[57, 57, 57, 64, 64, 73, 88, 95, 101, 107, 113], 57), (72, .aload_n 0, 1), (73, .iload_n 1, 1), (74, .iload_n 2, 1), (75, .invokevirtual 42, 3), (78, .ireturn, 1), (79, .aload_n 0, 1), (80, .iload_n 1, 1), (81, .iload_n 2, 1), (82, .iconst 1, 1), (83, .iadd, 1), (84, .invokevirtual 42, 3), (87, .ireturn, 1), (88, .aload_n 0, 1), (89, .getfield 27, 3), (92, .iload_n 1, 1), (93, .iaload, 1), (94, .ifCond .ne 7, 3), (97, .iconst 1, 1), (98, .goto 4, 3), (101, .iconst 0, 1), (102, .ireturn, 1), (103, .aload_n 0, 1), (104, .getfield 27, 3), (107, .iload_n 1, 1), (108, .iaload, 1), (109, .ireturn, 1), (110, .aload_n 0, 1), (111, .iload_n 1, 1), (112, .invokevirtual 125, 3), (115, .ireturn, 1), (116, .aload_n 0, 1), (117, .iload_n 1, 1), (118, .invokevirtual 128, 3), (121, .ireturn, 1), (122, .aload_n 0, 1), (123, .iload_n 1, 1), (124, .invokevirtual 131, 3), (127, .ireturn, 1), (128, .aload_n 0, 1), (129, .iload_n 1, 1), (130, .invokevirtual 134, 3), (133, .ireturn, 1), (134, .bipush (-2), 2), (136, .ireturn, 1)]
theorem dX7_of : iX7_of.all (fun q => decide (decode cX7_of q.1 = .ok q.2)) = true := by decide +kernel
abbrev wsX7_of : List Cond := .code yX7_of cX7_of 3 (some .int) :: wT
abbrev cX7_outOnes : ByteArray := prog_9_method_41_code
def yX7_outOnes : MethodName := ⟨"PointAnswersModel", "outOnes", "()I"⟩
def iX7_outOnes : List (Nat × Instr × Nat) := [(0, .iconst 0, 1), (1, .istore_n 1, 1), (2, .iconst 0, 1), (3, .istore_n 2, 1), (4, .iload_n 2, 1), (5, .aload_n 0, 1), (6, .getfield 7, 3), (9, .iconst 3, 1), (10, .iaload, 1), (11, .if_icmp .ge 33, 3), (14, .iload_n 1, 1), (15, .aload_n 0, 1), (16, .getfield 27, 3), (19, .iload_n 2, 1), (20, .iaload, 1), (21, .iconst 1, 1), (22, .iconst 4, 1), (23, .invokestatic 50, 3), (26, .ifCond .eq 9, 3), (29, .iconst 1, 1), (30, .iload_n 2, 1), (31, .ishl, 1), (32, .goto 4, 3), (35, .iconst 0, 1), (36, .ior, 1), (37, .istore_n 1, 1), (38, .iinc 2 1, 3), (41, .goto (-37), 3), (44, .iload_n 1, 1), (45, .ireturn, 1)]
theorem dX7_outOnes : iX7_outOnes.all (fun q => decide (decode cX7_outOnes q.1 = .ok q.2)) = true := by decide +kernel
abbrev wsX7_outOnes : List Cond := .code yX7_outOnes cX7_outOnes 3 (some .int) :: wT
abbrev cX7_answeredOnes : ByteArray := prog_9_method_42_code
def yX7_answeredOnes : MethodName := ⟨"PointAnswersModel", "answeredOnes", "()I"⟩
def iX7_answeredOnes : List (Nat × Instr × Nat) := [(0, .iconst 0, 1), (1, .istore_n 1, 1), (2, .iconst 0, 1), (3, .istore_n 2, 1), (4, .iload_n 2, 1), (5, .aload_n 0, 1), (6, .getfield 7, 3), (9, .iconst 3, 1), (10, .iaload, 1), (11, .if_icmp .ge 29, 3), (14, .iload_n 1, 1), (15, .aload_n 0, 1), (16, .getfield 27, 3), (19, .iload_n 2, 1), (20, .iaload, 1), (21, .iconst 5, 1), (22, .if_icmp .ne 9, 3), (25, .iconst 1, 1), (26, .iload_n 2, 1), (27, .ishl, 1), (28, .goto 4, 3), (31, .iconst 0, 1), (32, .ior, 1), (33, .istore_n 1, 1), (34, .iinc 2 1, 3), (37, .goto (-33), 3), (40, .iload_n 1, 1), (41, .ireturn, 1)]
theorem dX7_answeredOnes : iX7_answeredOnes.all (fun q => decide (decode cX7_answeredOnes q.1 = .ok q.2)) = true := by decide +kernel
abbrev wsX7_answeredOnes : List Cond := .code yX7_answeredOnes cX7_answeredOnes 3 (some .int) :: wT
abbrev cX7_ofSide : ByteArray := prog_9_method_43_code
def yX7_ofSide : MethodName := ⟨"PointAnswersModel", "ofSide", "(I)I"⟩
def iX7_ofSide : List (Nat × Instr × Nat) := [(0, .iconst 0, 1), (1, .istore_n 2, 1), (2, .iconst 0, 1), (3, .istore_n 3, 1), (4, .iload_n 3, 1), (5, .aload_n 0, 1), (6, .getfield 7, 3), (9, .iconst 3, 1), (10, .iaload, 1), (11, .if_icmp .ge 29, 3), (14, .iload_n 2, 1), (15, .aload_n 0, 1), (16, .iload_n 3, 1), (17, .iconst 0, 1), (18, .invokevirtual 42, 3), (21, .iload_n 1, 1), (22, .if_icmp .ne 9, 3), (25, .iconst 1, 1), (26, .iload_n 3, 1), (27, .ishl, 1), (28, .goto 4, 3), (31, .iconst 0, 1), (32, .ior, 1), (33, .istore_n 2, 1), (34, .iinc 3 1, 3), (37, .goto (-33), 3), (40, .iload_n 2, 1), (41, .ireturn, 1)]
theorem dX7_ofSide : iX7_ofSide.all (fun q => decide (decode cX7_ofSide q.1 = .ok q.2)) = true := by decide +kernel
abbrev wsX7_ofSide : List Cond := .code yX7_ofSide cX7_ofSide 4 (some .int) :: wT
abbrev cX7_count : ByteArray := prog_9_method_44_code
def yX7_count : MethodName := ⟨"PointAnswersModel", "count", "(I)I"⟩
def iX7_count : List (Nat × Instr × Nat) := [(0, .aload_n 0, 1), (1, .invokevirtual 106, 3), (4, .iload_n 1, 1), (5, .tableswitch 167 0 13 #[71, 78, 85, 93, 101, 114, 122, 130, 130, 140, 147, 147, 157, 162], 71), (76, .aload_n 0, 1), (77, .getfield 7, 3), (80, .iconst 2, 1), (81, .iaload, 1), (82, .ireturn, 1), (83, .aload_n 0, 1), (84, .getfield 7, 3), (87, .iconst 3, 1), (88, .iaload, 1), (89, .ireturn, 1), (90, .aload_n 0, 1), (91, .invokevirtual 137, 3), (94, .invokestatic 113, 3), (97, .ireturn, 1), (98, .aload_n 0, 1), (99, .invokevirtual 109, 3), (102, .invokestatic 113, 3), (105, .ireturn, 1), (106, .aload_n 0, 1), (107, .invokevirtual 109, 3), (110, .aload_n 0, 1), (111, .invokevirtual 137, 3), (114, .iand, 1), (115, .invokestatic 113, 3), (118, .ireturn, 1), (119, .aload_n 0, 1), (120, .invokevirtual 140, 3), (123, .invokestatic 113, 3), (126, .ireturn, 1), (127, .aload_n 0, 1), (128, .invokevirtual 143, 3), (131, .invokestatic 113, 3), (134, .ireturn, 1), (135, .aload_n 0, 1), (136, .getfield 30, 3), (139, .iload_n 1, 1), (140, .bipush 7, 2), (142, .isub, 1), (143, .iaload, 1), (144, .ireturn, 1), (145, .aload_n 0, 1), (146, .getfield 7, 3), (149, .iconst 4, 1), (150, .iaload, 1), (151, .ireturn, 1), (152, .aload_n 0, 1), (153, .getfield 7, 3), (156, .iload_n 1, 1), (157, .bipush 10, 2), (159, .isub, 1), (160, .iaload, 1), (161, .ireturn, 1), (162, .aload_n 0, 1), (163, .getfield 146, 3), (166, .ireturn, 1), (167, .aload_n 0, 1), (168, .getfield 46, 3), (171, .ireturn, 1), (172, .bipush (-2), 2), (174, .ireturn, 1)]
theorem dX7_count : iX7_count.all (fun q => decide (decode cX7_count q.1 = .ok q.2)) = true := by decide +kernel
abbrev wsX7_count : List Cond := .code yX7_count cX7_count 2 (some .int) :: wT
abbrev cX7_points : ByteArray := prog_9_method_45_code
def yX7_points : MethodName := ⟨"PointAnswersModel", "points", "(I)I"⟩
def iX7_points : List (Nat × Instr × Nat) := [(0, .aload_n 0, 1), (1, .invokevirtual 106, 3), (4, .iload_n 1, 1), (5, .tableswitch 72 0 5 #[39, 44, 54, 59, 64, 64], 39), (44, .aload_n 0, 1), (45, .invokevirtual 109, 3), (48, .ireturn, 1), (49, .aload_n 0, 1), (50, .invokevirtual 109, 3), (53, .aload_n 0, 1), (54, .invokevirtual 137, 3), (57, .iand, 1), (58, .ireturn, 1), (59, .aload_n 0, 1), (60, .invokevirtual 140, 3), (63, .ireturn, 1), (64, .aload_n 0, 1), (65, .invokevirtual 143, 3), (68, .ireturn, 1), (69, .aload_n 0, 1), (70, .iload_n 1, 1), (71, .iconst 4, 1), (72, .isub, 1), (73, .invokevirtual 149, 3), (76, .ireturn, 1), (77, .bipush (-2), 2), (79, .ireturn, 1)]
theorem dX7_points : iX7_points.all (fun q => decide (decode cX7_points q.1 = .ok q.2)) = true := by decide +kernel
abbrev wsX7_points : List Cond := .code yX7_points cX7_points 2 (some .int) :: wT
abbrev cX7_bitsOf : ByteArray := prog_9_method_46_code
def yX7_bitsOf : MethodName := ⟨"PointAnswersModel", "bitsOf", "(F)I"⟩
def iX7_bitsOf : List (Nat × Instr × Nat) := [(0, .fload_n 0, 1), (1, .fconst 0, 1), (2, .fcmp .l, 1), (3, .ifCond .ne 5, 3), (6, .iconst 0, 1), (7, .ireturn, 1), (8, .fload_n 0, 1), (9, .fstore_n 1, 1), (10, .bipush 127, 2), (12, .istore_n 2, 1), (13, .fload_n 1, 1), (14, .fconst 1, 1), (15, .fcmp .g, 1), (16, .ifCond .ge 13, 3), (19, .fload_n 1, 1), (20, .fconst 2, 1), (21, .fmul, 1), (22, .fstore_n 1, 1), (23, .iinc 2 (-1), 3), (26, .goto (-13), 3), (29, .iload_n 2, 1), (30, .bipush 23, 2), (32, .ishl, 1), (33, .fload_n 1, 1), (34, .ldc 152, 2), (36, .fmul, 1), (37, .f2i, 1), (38, .iadd, 1), (39, .ldc 153, 2), (41, .isub, 1), (42, .ireturn, 1)]
theorem dX7_bitsOf : iX7_bitsOf.all (fun q => decide (decode cX7_bitsOf q.1 = .ok q.2)) = true := by decide +kernel
abbrev wsX7_bitsOf : List Cond := .code yX7_bitsOf cX7_bitsOf 3 (some .int) :: wT
abbrev cX7_share : ByteArray := prog_9_method_47_code
def yX7_share : MethodName := ⟨"PointAnswersModel", "share", "(I)I"⟩
def iX7_share : List (Nat × Instr × Nat) := [(0, .iload_n 1, 1), (1, .iconst 0, 1), (2, .iconst 1, 1), (3, .invokestatic 50, 3), (6, .ifCond .ne 5, 3), (9, .iconst (-1), 1), (10, .ireturn, 1), (11, .aload_n 0, 1), (12, .invokevirtual 106, 3), (15, .aload_n 0, 1), (16, .invokevirtual 137, 3), (19, .aload_n 0, 1), (20, .iload_n 1, 1), (21, .invokevirtual 149, 3), (24, .iand, 1), (25, .invokestatic 113, 3), (28, .istore_n 2, 1), (29, .iload_n 2, 1), (30, .ifCond .ne 8, 3), (33, .bipush (-6), 2), (35, .goto 28, 3), (38, .aload_n 0, 1), (39, .invokevirtual 137, 3), (42, .aload_n 0, 1), (43, .iload_n 1, 1), (44, .invokevirtual 149, 3), (47, .iand, 1), (48, .aload_n 0, 1), (49, .invokevirtual 109, 3), (52, .iand, 1), (53, .invokestatic 113, 3), (56, .i2f, 1), (57, .iload_n 2, 1), (58, .i2f, 1), (59, .fdiv, 1), (60, .invokestatic 154, 3), (63, .ireturn, 1)]
theorem dX7_share : iX7_share.all (fun q => decide (decode cX7_share q.1 = .ok q.2)) = true := by decide +kernel
abbrev wsX7_share : List Cond := .code yX7_share cX7_share 3 (some .int) :: wT
abbrev cX7_layCosts : ByteArray := prog_9_method_48_code
def yX7_layCosts : MethodName := ⟨"PointAnswersModel", "layCosts", "()V"⟩
def iX7_layCosts : List (Nat × Instr × Nat) := [(0, .aload_n 0, 1), (1, .invokevirtual 106, 3), (4, .aload_n 0, 1), (5, .getfield 7, 3), (8, .iconst 3, 1), (9, .iaload, 1), (10, .iconst 1, 1), (11, .isub, 1), (12, .istore_n 1, 1), (13, .iload_n 1, 1), (14, .ifCond .lt 164, 3), (17, .aload_n 0, 1), (18, .getfield 27, 3), (21, .iload_n 1, 1), (22, .iaload, 1), (23, .iconst 1, 1), (24, .iconst 4, 1), (25, .invokestatic 50, 3), (28, .istore_n 2, 1), (29, .aload_n 0, 1), (30, .iload_n 1, 1), (31, .invokevirtual 128, 3), (34, .ifCond .ne 7, 3), (37, .iconst 1, 1), (38, .goto 4, 3), (41, .iconst 0, 1), (42, .istore_n 3, 1), (43, .iconst 0, 1), (44, .istore 4, 2), (46, .iload_n 3, 1), (47, .ifCond .eq 7, 3), (50, .iconst 1, 1), (51, .goto 6, 3), (54, .sipush 1000, 3), (57, .istore 5, 2), (59, .iload_n 1, 1), (60, .iconst 1, 1), (61, .iadd, 1), (62, .istore 6, 2), (64, .iload 6, 2), (66, .aload_n 0, 1), (67, .getfield 7, 3), (70, .iconst 3, 1), (71, .iaload, 1), (72, .if_icmp .ge 58, 3), (75, .aload_n 0, 1), (76, .iload 6, 2), (78, .iconst 4, 1), (79, .invokevirtual 42, 3), (82, .iload_n 1, 1), (83, .if_icmp .ne 41, 3), (86, .iload 4, 2), (88, .aload_n 0, 1), (89, .getfield 36, 3), (92, .iload 6, 2), (94, .iaload, 1), (95, .iadd, 1), (96, .istore 4, 2), (98, .aload_n 0, 1), (99, .getfield 33, 3), (102, .iload 6, 2), (104, .iaload, 1), (105, .iload 5, 2), (107, .if_icmp .ge 13, 3), (110, .aload_n 0, 1), (111, .getfield 33, 3), (114, .iload 6, 2), (116, .iaload, 1), (117, .goto 5, 3), (120, .iload 5, 2), (122, .istore 5, 2), (124, .iinc 6 1, 3), (127, .goto (-63), 3), (130, .aload_n 0, 1), (131, .getfield 33, 3), (134, .iload_n 1, 1), (135, .iload_n 2, 1), (136, .ifCond .ne 11, 3), (139, .iload 4, 2), (141, .sipush 1000, 3), (144, .if_icmp .lt 9, 3), (147, .sipush 1000, 3), (150, .goto 5, 3), (153, .iload 4, 2), (155, .iastore, 1), (156, .aload_n 0, 1), (157, .getfield 36, 3), (160, .iload_n 1, 1), (161, .iload_n 2, 1), (162, .ifCond .eq 7, 3), (165, .iconst 0, 1), (166, .goto 5, 3), (169, .iload 5, 2), (171, .iastore, 1), (172, .iinc 1 (-1), 3), (175, .goto (-162), 3), (178, .return_, 1)]
theorem dX7_layCosts : iX7_layCosts.all (fun q => decide (decode cX7_layCosts q.1 = .ok q.2)) = true := by decide +kernel
abbrev wsX7_layCosts : List Cond := .code yX7_layCosts cX7_layCosts 7 none :: wT
abbrev cX7_toFall : ByteArray := prog_9_method_49_code
def yX7_toFall : MethodName := ⟨"PointAnswersModel", "toFall", "(I)I"⟩
def iX7_toFall : List (Nat × Instr × Nat) := [(0, .aload_n 0, 1), (1, .iload_n 1, 1), (2, .invokevirtual 96, 3), (5, .ifCond .ne 5, 3), (8, .iconst (-1), 1), (9, .ireturn, 1), (10, .aload_n 0, 1), (11, .invokevirtual 158, 3), (14, .aload_n 0, 1), (15, .getfield 36, 3), (18, .iload_n 1, 1), (19, .iaload, 1), (20, .sipush 1000, 3), (23, .if_icmp .ne 8, 3), (26, .bipush (-6), 2), (28, .goto 9, 3), (31, .aload_n 0, 1), (32, .getfield 36, 3), (35, .iload_n 1, 1), (36, .iaload, 1), (37, .ireturn, 1)]
theorem dX7_toFall : iX7_toFall.all (fun q => decide (decode cX7_toFall q.1 = .ok q.2)) = true := by decide +kernel
abbrev wsX7_toFall : List Cond := .code yX7_toFall cX7_toFall 2 (some .int) :: wT
abbrev cX7_toStand : ByteArray := prog_9_method_50_code
def yX7_toStand : MethodName := ⟨"PointAnswersModel", "toStand", "(I)I"⟩
def iX7_toStand : List (Nat × Instr × Nat) := [(0, .aload_n 0, 1), (1, .iload_n 1, 1), (2, .invokevirtual 96, 3), (5, .ifCond .ne 5, 3), (8, .iconst (-1), 1), (9, .ireturn, 1), (10, .aload_n 0, 1), (11, .invokevirtual 158, 3), (14, .aload_n 0, 1), (15, .getfield 27, 3), (18, .iload_n 1, 1), (19, .iaload, 1), (20, .iconst 1, 1), (21, .iconst 4, 1), (22, .invokestatic 50, 3), (25, .ifCond .eq 6, 3), (28, .bipush (-5), 2), (30, .ireturn, 1), (31, .aload_n 0, 1), (32, .getfield 33, 3), (35, .iload_n 1, 1), (36, .iaload, 1), (37, .sipush 1000, 3), (40, .if_icmp .ne 8, 3), (43, .bipush (-6), 2), (45, .goto 9, 3), (48, .aload_n 0, 1), (49, .getfield 33, 3), (52, .iload_n 1, 1), (53, .iaload, 1), (54, .ireturn, 1)]
theorem dX7_toStand : iX7_toStand.all (fun q => decide (decode cX7_toStand q.1 = .ok q.2)) = true := by decide +kernel
abbrev wsX7_toStand : List Cond := .code yX7_toStand cX7_toStand 2 (some .int) :: wT
abbrev cX7_changesBy : ByteArray := prog_9_method_51_code
def yX7_changesBy : MethodName := ⟨"PointAnswersModel", "changesBy", "(I)I"⟩
def iX7_changesBy : List (Nat × Instr × Nat) := [(0, .aload_n 0, 1), (1, .invokevirtual 106, 3), (4, .aload_n 0, 1), (5, .invokevirtual 109, 3), (8, .aload_n 0, 1), (9, .invokevirtual 137, 3), (12, .iand, 1), (13, .istore_n 2, 1), (14, .aload_n 0, 1), (15, .invokevirtual 70, 3), (18, .aload_n 0, 1), (19, .iload_n 1, 1), (20, .invokevirtual 73, 3), (23, .iload_n 2, 1), (24, .aload_n 0, 1), (25, .invokevirtual 109, 3), (28, .aload_n 0, 1), (29, .invokevirtual 137, 3), (32, .iand, 1), (33, .ixor, 1), (34, .invokestatic 113, 3), (37, .ireturn, 1)]
theorem dX7_changesBy : iX7_changesBy.all (fun q => decide (decode cX7_changesBy q.1 = .ok q.2)) = true := by decide +kernel
abbrev wsX7_changesBy : List Cond := .code yX7_changesBy cX7_changesBy 3 (some .int) :: wT
abbrev cX7_bestAnswer : ByteArray := prog_9_method_52_code
def yX7_bestAnswer : MethodName := ⟨"PointAnswersModel", "bestAnswer", "(I)I"⟩
def iX7_bestAnswer : List (Nat × Instr × Nat) := [(0, .iload_n 1, 1), (1, .iconst 0, 1), (2, .iconst 1, 1), (3, .invokestatic 50, 3), (6, .ifCond .ne 6, 3), (9, .bipush (-2), 2), (11, .ireturn, 1), (12, .bipush (-6), 2), (14, .istore_n 2, 1), (15, .bipush (-6), 2), (17, .istore_n 3, 1), (18, .iconst 0, 1), (19, .istore 4, 2), (21, .iload 4, 2), (23, .aload_n 0, 1), (24, .getfield 7, 3), (27, .iconst 3, 1), (28, .iaload, 1), (29, .if_icmp .ge 71, 3), (32, .aload_n 0, 1), (33, .invokevirtual 106, 3), (36, .aload_n 0, 1), (37, .getfield 27, 3), (40, .iload 4, 2), (42, .iaload, 1), (43, .iconst 1, 1), (44, .iconst 4, 1), (45, .invokestatic 50, 3), (48, .ifCond .ne 46, 3), (51, .aload_n 0, 1), (52, .iload 4, 2), (54, .invokevirtual 128, 3), (57, .ifCond .ne 37, 3), (60, .aload_n 0, 1), (61, .iload 4, 2), (63, .invokevirtual 161, 3), (66, .istore 5, 2), (68, .iload 5, 2), (70, .iload_n 3, 1), (71, .if_icmp .le 8, 3), (74, .iload 4, 2), (76, .goto 4, 3), (79, .iload_n 2, 1), (80, .istore_n 2, 1), (81, .iload 5, 2), (83, .iload_n 3, 1), (84, .if_icmp .le 8, 3), (87, .iload 5, 2), (89, .goto 4, 3), (92, .iload_n 3, 1), (93, .istore_n 3, 1), (94, .iinc 4 1, 3), (97, .goto (-76), 3), (100, .iload_n 1, 1), (101, .ifCond .ne 7, 3), (104, .iload_n 2, 1), (105, .goto 4, 3), (108, .iload_n 3, 1), (109, .ireturn, 1)]
theorem dX7_bestAnswer : iX7_bestAnswer.all (fun q => decide (decode cX7_bestAnswer q.1 = .ok q.2)) = true := by decide +kernel
abbrev wsX7_bestAnswer : List Cond := .code yX7_bestAnswer cX7_bestAnswer 6 (some .int) :: wT
abbrev cX7_changesIn : ByteArray := prog_9_method_53_code
def yX7_changesIn : MethodName := ⟨"PointAnswersModel", "changesIn", "()I"⟩
def iX7_changesIn : List (Nat × Instr × Nat) := [(0, .aload_n 0, 1), (1, .invokevirtual 106, 3), (4, .aload_n 0, 1), (5, .invokevirtual 109, 3), (8, .istore_n 1, 1), (9, .aload_n 0, 1), (10, .getfield 7, 3), (13, .iconst 2, 1), (14, .iaload, 1), (15, .istore_n 2, 1), (16, .bipush (-6), 2), (18, .istore_n 3, 1), (19, .iconst 1, 1), (20, .istore 4, 2), (22, .iload 4, 2), (24, .bipush 100, 2), (26, .if_icmp .gt 45, 3), (29, .iload_n 3, 1), (30, .bipush (-6), 2), (32, .if_icmp .ne 39, 3), (35, .aload_n 0, 1), (36, .getfield 7, 3), (39, .iconst 2, 1), (40, .dup2, 1), (41, .iaload, 1), (42, .iconst 1, 1), (43, .iadd, 1), (44, .iastore, 1), (45, .aload_n 0, 1), (46, .invokevirtual 106, 3), (49, .aload_n 0, 1), (50, .invokevirtual 109, 3), (53, .iload_n 1, 1), (54, .if_icmp .ne 8, 3), (57, .bipush (-6), 2), (59, .goto 5, 3), (62, .iload 4, 2), (64, .istore_n 3, 1), (65, .iinc 4 1, 3), (68, .goto (-46), 3), (71, .aload_n 0, 1), (72, .getfield 7, 3), (75, .iconst 2, 1), (76, .iload_n 2, 1), (77, .iastore, 1), (78, .iload_n 3, 1), (79, .ireturn, 1)]
theorem dX7_changesIn : iX7_changesIn.all (fun q => decide (decode cX7_changesIn q.1 = .ok q.2)) = true := by decide +kernel
abbrev wsX7_changesIn : List Cond := .code yX7_changesIn cX7_changesIn 5 (some .int) :: wT
abbrev cX7_leastPages : ByteArray := prog_9_method_54_code
def yX7_leastPages : MethodName := ⟨"PointAnswersModel", "leastPages", "()I"⟩
def iX7_leastPages : List (Nat × Instr × Nat) := [(0, .iconst 1, 1), (1, .istore_n 1, 1), (2, .iconst 0, 1), (3, .istore_n 2, 1), (4, .iload_n 2, 1), (5, .iconst 2, 1), (6, .if_icmp .ge 76, 3), (9, .iconst 0, 1), (10, .istore_n 3, 1), (11, .iconst 0, 1), (12, .istore 4, 2), (14, .iload 4, 2), (16, .aload_n 0, 1), (17, .getfield 7, 3), (20, .iconst 3, 1), (21, .iaload, 1), (22, .if_icmp .ge 43, 3), (25, .iload_n 3, 1), (26, .aload_n 0, 1), (27, .iload 4, 2), (29, .iconst 0, 1), (30, .invokevirtual 42, 3), (33, .iload_n 2, 1), (34, .if_icmp .ne 22, 3), (37, .aload_n 0, 1), (38, .iload 4, 2), (40, .invokevirtual 61, 3), (43, .ifCond .ne 13, 3), (46, .aload_n 0, 1), (47, .iload 4, 2), (49, .iconst 1, 1), (50, .invokevirtual 42, 3), (53, .goto 4, 3), (56, .iconst 0, 1), (57, .iadd, 1), (58, .istore_n 3, 1), (59, .iinc 4 1, 3), (62, .goto (-48), 3), (65, .iload_n 3, 1), (66, .iload_n 1, 1), (67, .if_icmp .le 7, 3), (70, .iload_n 3, 1), (71, .goto 4, 3), (74, .iload_n 1, 1), (75, .istore_n 1, 1), (76, .iinc 2 1, 3), (79, .goto (-75), 3), (82, .iload_n 1, 1), (83, .bipush 99, 2), (85, .if_icmp .gt 7, 3), (88, .iload_n 1, 1), (89, .goto 5, 3), (92, .bipush (-6), 2), (94, .ireturn, 1)]
theorem dX7_leastPages : iX7_leastPages.all (fun q => decide (decode cX7_leastPages q.1 = .ok q.2)) = true := by decide +kernel
abbrev wsX7_leastPages : List Cond := .code yX7_leastPages cX7_leastPages 5 (some .int) :: wT
abbrev cX7_put : ByteArray := prog_9_method_55_code
def yX7_put : MethodName := ⟨"PointAnswersModel", "put", "(J)I"⟩
def iX7_put : List (Nat × Instr × Nat) := [(0, .iconst 0, 1), (1, .istore_n 3, 1), (2, .lload_n 1, 1), (3, .lstore 4, 2), (5, .iconst 1, 1), (6, .istore 6, 2), (8, .lload 4, 2), (10, .lconst 0, 1), (11, .lcmp, 1), (12, .ifCond .eq 37, 3), (15, .iload 6, 2), (17, .ifCond .eq 32, 3), (20, .lload 4, 2), (22, .ldc2_w 164, 3), (25, .land, 1), (26, .l2i, 1), (27, .bipush 33, 2), (29, .bipush 126, 2), (31, .invokestatic 50, 3), (34, .istore 6, 2), (36, .lload 4, 2), (38, .bipush 8, 2), (40, .lushr, 1), (41, .lstore 4, 2), (43, .iinc 3 1, 3), (46, .goto (-38), 3), (49, .iload_n 3, 1), (50, .ifCond .eq 8, 3), (53, .iload 6, 2), (55, .ifCond .ne 6, 3), (58, .bipush (-2), 2), (60, .ireturn, 1), (61, .aload_n 0, 1), (62, .getfield 146, 3), (65, .iload_n 3, 1), (66, .iadd, 1), (67, .bipush 80, 2), (69, .if_icmp .le 6, 3), (72, .bipush (-4), 2), (74, .ireturn, 1), (75, .iload_n 3, 1), (76, .iconst 1, 1), (77, .isub, 1), (78, .istore 7, 2), (80, .iload 7, 2), (82, .ifCond .lt 41, 3), (85, .aload_n 0, 1), (86, .getfield 23, 3), (89, .aload_n 0, 1), (90, .getfield 146, 3), (93, .lload_n 1, 1), (94, .bipush 8, 2), (96, .iload 7, 2), (98, .imul, 1), (99, .lushr, 1), (100, .ldc2_w 164, 3), (103, .land, 1), (104, .l2i, 1), (105, .i2c, 1), (106, .castore, 1), (107, .aload_n 0, 1), (108, .dup, 1), (109, .getfield 146, 3), (112, .iconst 1, 1), (113, .iadd, 1), (114, .putfield 146, 3), (117, .iinc 7 (-1), 3), (120, .goto (-40), 3), (123, .aload_n 0, 1), (124, .getfield 146, 3), (127, .ireturn, 1)]
theorem dX7_put : iX7_put.all (fun q => decide (decode cX7_put q.1 = .ok q.2)) = true := by decide +kernel
abbrev wsX7_put : List Cond := .code yX7_put cX7_put 8 (some .int) :: wT
abbrev cX7_wipe : ByteArray := prog_9_method_56_code
def yX7_wipe : MethodName := ⟨"PointAnswersModel", "wipe", "()I"⟩
def iX7_wipe : List (Nat × Instr × Nat) := [(0, .aload_n 0, 1), (1, .getfield 146, 3), (4, .istore_n 1, 1), (5, .aload_n 0, 1), (6, .iconst 0, 1), (7, .putfield 146, 3), (10, .iload_n 1, 1), (11, .ireturn, 1)]
theorem dX7_wipe : iX7_wipe.all (fun q => decide (decode cX7_wipe q.1 = .ok q.2)) = true := by decide +kernel
abbrev wsX7_wipe : List Cond := .code yX7_wipe cX7_wipe 2 (some .int) :: wT
abbrev cX7_letter : ByteArray := prog_9_method_57_code
def yX7_letter : MethodName := ⟨"PointAnswersModel", "letter", "()I"⟩
def iX7_letter : List (Nat × Instr × Nat) := [(0, .aload_n 0, 1), (1, .getfield 166, 3), (4, .aload_n 0, 1), (5, .getfield 146, 3), (8, .if_icmp .ge 15, 3), (11, .aload_n 0, 1), (12, .getfield 23, 3), (15, .aload_n 0, 1), (16, .getfield 166, 3), (19, .caload, 1), (20, .goto 5, 3), (23, .bipush (-6), 2), (25, .ireturn, 1)]
theorem dX7_letter : iX7_letter.all (fun q => decide (decode cX7_letter q.1 = .ok q.2)) = true := by decide +kernel
abbrev wsX7_letter : List Cond := .code yX7_letter cX7_letter 1 (some .int) :: wT
abbrev cX7_wants : ByteArray := prog_9_method_58_code
def yX7_wants : MethodName := ⟨"PointAnswersModel", "wants", "(Z)V"⟩
def iX7_wants : List (Nat × Instr × Nat) := [(0, .aload_n 0, 1), (1, .getfield 169, 3), (4, .bipush (-6), 2), (6, .if_icmp .ne 30, 3), (9, .aload_n 0, 1), (10, .iload_n 1, 1), (11, .ifCond .eq 8, 3), (14, .bipush (-6), 2), (16, .goto 7, 3), (19, .aload_n 0, 1), (20, .getfield 166, 3), (23, .putfield 169, 3), (26, .aload_n 0, 1), (27, .dup, 1), (28, .getfield 166, 3), (31, .iconst 1, 1), (32, .iadd, 1), (33, .putfield 166, 3), (36, .return_, 1)]
theorem dX7_wants : iX7_wants.all (fun q => decide (decode cX7_wants q.1 = .ok q.2)) = true := by decide +kernel
abbrev wsX7_wants : List Cond := .code yX7_wants cX7_wants 2 none :: wT
abbrev cX7_digit : ByteArray := prog_9_method_59_code
def yX7_digit : MethodName := ⟨"PointAnswersModel", "digit", "(II)I"⟩
def iX7_digit : List (Nat × Instr × Nat) := [(0, .aload_n 0, 1), (1, .invokevirtual 172, 3), (4, .bipush 48, 2), (6, .isub, 1), (7, .istore_n 3, 1), (8, .aload_n 0, 1), (9, .iload_n 3, 1), (10, .iload_n 1, 1), (11, .iload_n 2, 1), (12, .invokestatic 50, 3), (15, .invokevirtual 175, 3), (18, .iload_n 3, 1), (19, .ireturn, 1)]
theorem dX7_digit : iX7_digit.all (fun q => decide (decode cX7_digit q.1 = .ok q.2)) = true := by decide +kernel
abbrev wsX7_digit : List Cond := .code yX7_digit cX7_digit 4 (some .int) :: wT
abbrev cX7_number : ByteArray := prog_9_method_60_code
def yX7_number : MethodName := ⟨"PointAnswersModel", "number", "()I"⟩
def iX7_number : List (Nat × Instr × Nat) := [(0, .aload_n 0, 1), (1, .iconst 0, 1), (2, .bipush 9, 2), (4, .invokevirtual 179, 3), (7, .istore_n 1, 1), (8, .aload_n 0, 1), (9, .invokevirtual 172, 3), (12, .bipush 48, 2), (14, .isub, 1), (15, .istore_n 2, 1), (16, .aload_n 0, 1), (17, .getfield 169, 3), (20, .bipush (-6), 2), (22, .if_icmp .ne 34, 3), (25, .iload_n 1, 1), (26, .ifCond .le 30, 3), (29, .iload_n 2, 1), (30, .iconst 0, 1), (31, .bipush 9, 2), (33, .invokestatic 50, 3), (36, .ifCond .eq 20, 3), (39, .bipush 10, 2), (41, .iload_n 1, 1), (42, .imul, 1), (43, .iload_n 2, 1), (44, .iadd, 1), (45, .istore_n 1, 1), (46, .aload_n 0, 1), (47, .dup, 1), (48, .getfield 166, 3), (51, .iconst 1, 1), (52, .iadd, 1), (53, .putfield 166, 3), (56, .iload_n 1, 1), (57, .ireturn, 1)]
theorem dX7_number : iX7_number.all (fun q => decide (decode cX7_number q.1 = .ok q.2)) = true := by decide +kernel
abbrev wsX7_number : List Cond := .code yX7_number cX7_number 3 (some .int) :: wT
abbrev cX7_cites : ByteArray := prog_9_method_61_code
def yX7_cites : MethodName := ⟨"PointAnswersModel", "cites", "()I"⟩
def iX7_cites : List (Nat × Instr × Nat) := [(0, .iconst 0, 1), (1, .istore_n 1, 1), (2, .aload_n 0, 1), (3, .getfield 169, 3), (6, .bipush (-6), 2), (8, .if_icmp .ne 97, 3), (11, .aload_n 0, 1), (12, .invokevirtual 172, 3), (15, .bipush 43, 2), (17, .if_icmp .ne 88, 3), (20, .aload_n 0, 1), (21, .dup, 1), (22, .getfield 166, 3), (25, .iconst 1, 1), (26, .iadd, 1), (27, .putfield 166, 3), (30, .aload_n 0, 1), (31, .iconst 0, 1), (32, .bipush 9, 2), (34, .invokevirtual 179, 3), (37, .istore_n 2, 1), (38, .aload_n 0, 1), (39, .getfield 169, 3), (42, .bipush (-6), 2), (44, .if_icmp .ne 9, 3), (47, .iconst 1, 1), (48, .iload_n 2, 1), (49, .ishl, 1), (50, .goto 4, 3), (53, .iconst 0, 1), (54, .istore_n 1, 1), (55, .aload_n 0, 1), (56, .getfield 169, 3), (59, .bipush (-6), 2), (61, .if_icmp .ne 44, 3), (64, .aload_n 0, 1), (65, .invokevirtual 172, 3), (68, .bipush 48, 2), (70, .isub, 1), (71, .iconst 0, 1), (72, .bipush 9, 2), (74, .invokestatic 50, 3), (77, .ifCond .eq 28, 3), (80, .iload_n 1, 1), (81, .iconst 1, 1), (82, .aload_n 0, 1), (83, .invokevirtual 172, 3), (86, .bipush 48, 2), (88, .isub, 1), (89, .ishl, 1), (90, .ior, 1), (91, .istore_n 1, 1), (92, .aload_n 0, 1), (93, .dup, 1), (94, .getfield 166, 3), (97, .iconst 1, 1), (98, .iadd, 1), (99, .putfield 166, 3), (102, .goto (-47), 3), (105, .iload_n 1, 1), (106, .ireturn, 1)]
theorem dX7_cites : iX7_cites.all (fun q => decide (decode cX7_cites q.1 = .ok q.2)) = true := by decide +kernel
abbrev wsX7_cites : List Cond := .code yX7_cites cX7_cites 3 (some .int) :: wT
abbrev cX7_readOrder : ByteArray := prog_9_method_62_code
def yX7_readOrder : MethodName := ⟨"PointAnswersModel", "readOrder", "()V"⟩
def iX7_readOrder : List (Nat × Instr × Nat) := [(0, .iconst 4, 1), (1, .aload_n 0, 1), (2, .getfield 182, 3), (5, .imul, 1), (6, .istore_n 1, 1), (7, .aload_n 0, 1), (8, .invokevirtual 172, 3), (11, .istore_n 2, 1), (12, .aload_n 0, 1), (13, .getfield 39, 3), (16, .iload_n 1, 1), (17, .iload_n 2, 1), (18, .iastore, 1), (19, .aload_n 0, 1), (20, .iload_n 2, 1), (21, .bipush 99, 2), (23, .if_icmp .eq 33, 3), (26, .iload_n 2, 1), (27, .bipush 97, 2), (29, .if_icmp .eq 27, 3), (32, .iload_n 2, 1), (33, .bipush 119, 2), (35, .if_icmp .eq 21, 3), (38, .iload_n 2, 1), (39, .bipush 114, 2), (41, .if_icmp .eq 15, 3), (44, .iload_n 2, 1), (45, .bipush 111, 2), (47, .if_icmp .eq 9, 3), (50, .iload_n 2, 1), (51, .bipush 116, 2), (53, .if_icmp .ne 7, 3), (56, .iconst 1, 1), (57, .goto 4, 3), (60, .iconst 0, 1), (61, .invokevirtual 175, 3), (64, .aload_n 0, 1), (65, .getfield 39, 3), (68, .iload_n 1, 1), (69, .iconst 1, 1), (70, .iadd, 1), (71, .iload_n 2, 1), (72, .bipush 99, 2), (74, .if_icmp .ne 12, 3), (77, .aload_n 0, 1), (78, .iconst 0, 1), (79, .iconst 1, 1), (80, .invokevirtual 179, 3), (83, .goto 23, 3), (86, .iload_n 2, 1), (87, .bipush 111, 2), (89, .if_icmp .ne 13, 3), (92, .aload_n 0, 1), (93, .iconst 0, 1), (94, .bipush 9, 2), (96, .invokevirtual 179, 3), (99, .goto 7, 3), (102, .aload_n 0, 1), (103, .invokevirtual 185, 3), (106, .iastore, 1), (107, .iload_n 2, 1), (108, .bipush 99, 2), (110, .if_icmp .eq 9, 3), (113, .iload_n 2, 1), (114, .bipush 97, 2), (116, .if_icmp .ne 48, 3), (119, .aload_n 0, 1), (120, .aload_n 0, 1), (121, .invokevirtual 172, 3), (124, .bipush 47, 2), (126, .if_icmp .ne 7, 3), (129, .iconst 1, 1), (130, .goto 4, 3), (133, .iconst 0, 1), (134, .invokevirtual 175, 3), (137, .aload_n 0, 1), (138, .getfield 39, 3), (141, .iload_n 1, 1), (142, .iconst 2, 1), (143, .iadd, 1), (144, .aload_n 0, 1), (145, .iconst 1, 1), (146, .bipush 9, 2), (148, .invokevirtual 179, 3), (151, .iastore, 1), (152, .aload_n 0, 1), (153, .getfield 39, 3), (156, .iload_n 1, 1), (157, .iconst 3, 1), (158, .iadd, 1), (159, .aload_n 0, 1), (160, .invokevirtual 188, 3), (163, .iastore, 1), (164, .aload_n 0, 1), (165, .dup, 1), (166, .getfield 182, 3), (169, .iconst 1, 1), (170, .iadd, 1), (171, .putfield 182, 3), (174, .return_, 1)]
theorem dX7_readOrder : iX7_readOrder.all (fun q => decide (decode cX7_readOrder q.1 = .ok q.2)) = true := by decide +kernel
abbrev wsX7_readOrder : List Cond := .code yX7_readOrder cX7_readOrder 3 none :: wT
abbrev cX7_readPad : ByteArray := prog_9_method_63_code
def yX7_readPad : MethodName := ⟨"PointAnswersModel", "readPad", "()I"⟩
def iX7_readPad : List (Nat × Instr × Nat) := [(0, .aload_n 0, 1), (1, .iconst 0, 1), (2, .putfield 182, 3), (5, .aload_n 0, 1), (6, .iconst 0, 1), (7, .putfield 166, 3), (10, .aload_n 0, 1), (11, .bipush (-6), 2), (13, .putfield 169, 3), (16, .iconst 1, 1), (17, .istore_n 1, 1), (18, .iload_n 1, 1), (19, .ifCond .eq 73, 3), (22, .aload_n 0, 1), (23, .invokevirtual 191, 3), (26, .aload_n 0, 1), (27, .getfield 169, 3), (30, .bipush (-6), 2), (32, .if_icmp .ne 18, 3), (35, .aload_n 0, 1), (36, .getfield 166, 3), (39, .aload_n 0, 1), (40, .getfield 146, 3), (43, .if_icmp .ge 7, 3), (46, .iconst 1, 1), (47, .goto 4, 3), (50, .iconst 0, 1), (51, .istore_n 1, 1), (52, .iload_n 1, 1), (53, .ifCond .eq (-35), 3), (56, .aload_n 0, 1), (57, .aload_n 0, 1), (58, .invokevirtual 172, 3), (61, .bipush 59, 2), (63, .if_icmp .ne 7, 3), (66, .iconst 1, 1), (67, .goto 4, 3), (70, .iconst 0, 1), (71, .invokevirtual 175, 3), (74, .aload_n 0, 1), (75, .getfield 169, 3), (78, .bipush (-6), 2), (80, .if_icmp .ne 7, 3), (83, .iconst 1, 1), (84, .goto 4, 3), (87, .iconst 0, 1), (88, .istore_n 1, 1), (89, .goto (-71), 3), (92, .aload_n 0, 1), (93, .getfield 169, 3), (96, .ireturn, 1)]
theorem dX7_readPad : iX7_readPad.all (fun q => decide (decode cX7_readPad q.1 = .ok q.2)) = true := by decide +kernel
abbrev wsX7_readPad : List Cond := .code yX7_readPad cX7_readPad 2 (some .int) :: wT
abbrev cX7_fault : ByteArray := prog_9_method_64_code
def yX7_fault : MethodName := ⟨"PointAnswersModel", "fault", "()I"⟩
def iX7_fault : List (Nat × Instr × Nat) := [(0, .aload_n 0, 1), (1, .invokevirtual 194, 3), (4, .ireturn, 1)]
theorem dX7_fault : iX7_fault.all (fun q => decide (decode cX7_fault q.1 = .ok q.2)) = true := by decide +kernel
abbrev wsX7_fault : List Cond := .code yX7_fault cX7_fault 1 (some .int) :: wT
abbrev cX7_whyNot : ByteArray := prog_9_method_65_code
def yX7_whyNot : MethodName := ⟨"PointAnswersModel", "whyNot", "(IIII)I"⟩
def iX7_whyNot : List (Nat × Instr × Nat) := [(0, .iload_n 1, 1), (1, .lookupswitch 87 #[(97, 60), (99, 51), (114, 75), (116, 81), (119, 69)], 51), (52, .aload_n 0, 1), (53, .iload_n 2, 1), (54, .iload_n 3, 1), (55, .iload 4, 2), (57, .invokevirtual 88, 3), (60, .ireturn, 1), (61, .aload_n 0, 1), (62, .iload_n 2, 1), (63, .iload_n 3, 1), (64, .iload 4, 2), (66, .invokevirtual 99, 3), (69, .ireturn, 1), (70, .aload_n 0, 1), (71, .iload_n 2, 1), (72, .invokevirtual 102, 3), (75, .ireturn, 1), (76, .aload_n 0, 1), (77, .iload_n 2, 1), (78, .invokevirtual 116, 3), (81, .ireturn, 1), (82, .aload_n 0, 1), (83, .iload_n 2, 1), (84, .invokevirtual 122, 3), (87, .ireturn, 1), (88, .iconst 0, 1), (89, .ireturn, 1)]
theorem dX7_whyNot : iX7_whyNot.all (fun q => decide (decode cX7_whyNot q.1 = .ok q.2)) = true := by decide +kernel
abbrev wsX7_whyNot : List Cond := .code yX7_whyNot cX7_whyNot 5 (some .int) :: wT
abbrev cX7_does : ByteArray := prog_9_method_66_code
def yX7_does : MethodName := ⟨"PointAnswersModel", "does", "(I)Z"⟩
def iX7_does : List (Nat × Instr × Nat) := [(0, .aload_n 0, 1), (1, .getfield 39, 3), (4, .iconst 4, 1), (5, .iload_n 1, 1), (6, .imul, 1), (7, .iconst 1, 1), (8, .iadd, 1), (9, .iaload, 1), (10, .istore_n 2, 1), (11, .aload_n 0, 1), (12, .getfield 39, 3), (15, .iconst 4, 1), (16, .iload_n 1, 1), (17, .imul, 1), (18, .iconst 2, 1), (19, .iadd, 1), (20, .iaload, 1), (21, .istore_n 3, 1), (22, .aload_n 0, 1), (23, .getfield 39, 3), (26, .iconst 4, 1), (27, .iload_n 1, 1), (28, .imul, 1), (29, .iconst 3, 1), (30, .iadd, 1), (31, .iaload, 1), (32, .istore 4, 2), (34, .aload_n 0, 1), (35, .aload_n 0, 1), (36, .getfield 39, 3), (39, .iconst 4, 1), (40, .iload_n 1, 1), (41, .imul, 1), (42, .iaload, 1), (43, .iload_n 2, 1), (44, .iload_n 3, 1), (45, .iload 4, 2), (47, .invokevirtual 197, 3), (50, .ifCond .ge 5, 3), (53, .iconst 0, 1), (54, .ireturn, 1), (55, .aload_n 0, 1), (56, .getfield 39, 3), (59, .iconst 4, 1), (60, .iload_n 1, 1), (61, .imul, 1), (62, .iaload, 1), (63, .lookupswitch 122 #[(97, 63), (99, 49), (114, 94), (116, 109), (119, 83)], 49), (112, .aload_n 0, 1), (113, .iload_n 2, 1), (114, .bipush (-6), 2), (116, .iload_n 3, 1), (117, .iload 4, 2), (119, .invokevirtual 92, 3), (122, .pop, 1), (123, .goto 68, 3), (126, .aload_n 0, 1), (127, .iconst 1, 1), (128, .aload_n 0, 1), (129, .iload_n 2, 1), (130, .iconst 0, 1), (131, .invokevirtual 42, 3), (134, .isub, 1), (135, .iload_n 2, 1), (136, .iload_n 3, 1), (137, .iload 4, 2), (139, .invokevirtual 92, 3), (142, .pop, 1), (143, .goto 48, 3), (146, .aload_n 0, 1), (147, .iload_n 2, 1), (148, .bipush 6, 2), (150, .iconst 1, 1), (151, .invokevirtual 81, 3), (154, .goto 37, 3), (157, .aload_n 0, 1), (158, .iload_n 2, 1), (159, .iconst 3, 1), (160, .aload_n 0, 1), (161, .getfield 7, 3), (164, .iconst 2, 1), (165, .iaload, 1), (166, .invokevirtual 81, 3), (169, .goto 22, 3), (172, .aload_n 0, 1), (173, .getfield 7, 3), (176, .iconst 2, 1), (177, .dup2, 1), (178, .iaload, 1), (179, .iload_n 2, 1), (180, .iadd, 1), (181, .iastore, 1), (182, .goto 9, 3), (185, .aload_n 0, 1), (186, .iload_n 2, 1), (187, .invokevirtual 119, 3), (190, .pop, 1), (191, .iconst 1, 1), (192, .ireturn, 1)]
theorem dX7_does : iX7_does.all (fun q => decide (decode cX7_does q.1 = .ok q.2)) = true := by decide +kernel
abbrev wsX7_does : List Cond := .code yX7_does cX7_does 5 (some .boolean) :: wT
abbrev cX7_carryOut : ByteArray := prog_9_method_67_code
def yX7_carryOut : MethodName := ⟨"PointAnswersModel", "carryOut", "()I"⟩
def iX7_carryOut : List (Nat × Instr × Nat) := [(0, .aload_n 0, 1), (1, .invokevirtual 194, 3), (4, .bipush (-6), 2), (6, .if_icmp .eq 6, 3), (9, .bipush (-3), 2), (11, .ireturn, 1), (12, .aload_n 0, 1), (13, .invokevirtual 54, 3), (16, .iconst 0, 1), (17, .istore_n 1, 1), (18, .iload_n 1, 1), (19, .aload_n 0, 1), (20, .getfield 182, 3), (23, .if_icmp .ge 17, 3), (26, .aload_n 0, 1), (27, .iload_n 1, 1), (28, .invokevirtual 200, 3), (31, .ifCond .eq 9, 3), (34, .iinc 1 1, 3), (37, .goto (-19), 3), (40, .aload_n 0, 1), (41, .iconst 0, 1), (42, .putfield 146, 3), (45, .iload_n 1, 1), (46, .ireturn, 1)]
theorem dX7_carryOut : iX7_carryOut.all (fun q => decide (decode cX7_carryOut q.1 = .ok q.2)) = true := by decide +kernel
abbrev wsX7_carryOut : List Cond := .code yX7_carryOut cX7_carryOut 2 (some .int) :: wT
abbrev cJ9_max_7cf53 : ByteArray := prog_11_method_65_code
def yJ9_max_7cf53 : MethodName := ⟨"java/lang/Math", "max", "(II)I"⟩
def iJ9_max_7cf53 : List (Nat × Instr × Nat) := [(0, .iload_n 0, 1), (1, .iload_n 1, 1), (2, .if_icmp .lt 7, 3), (5, .iload_n 0, 1), (6, .goto 4, 3), (9, .iload_n 1, 1), (10, .ireturn, 1)]
theorem dJ9_max_7cf53 : iJ9_max_7cf53.all (fun q => decide (decode cJ9_max_7cf53 q.1 = .ok q.2)) = true := by decide +kernel
abbrev wsJ9_max_7cf53 : List Cond := .code yJ9_max_7cf53 cJ9_max_7cf53 2 (some .int) :: wT
abbrev cJ9_min_7cf53 : ByteArray := prog_11_method_69_code
def yJ9_min_7cf53 : MethodName := ⟨"java/lang/Math", "min", "(II)I"⟩
def iJ9_min_7cf53 : List (Nat × Instr × Nat) := [(0, .iload_n 0, 1), (1, .iload_n 1, 1), (2, .if_icmp .gt 7, 3), (5, .iload_n 0, 1), (6, .goto 4, 3), (9, .iload_n 1, 1), (10, .ireturn, 1)]
theorem dJ9_min_7cf53 : iJ9_min_7cf53.all (fun q => decide (decode cJ9_min_7cf53 q.1 = .ok q.2)) = true := by decide +kernel
abbrev wsJ9_min_7cf53 : List Cond := .code yJ9_min_7cf53 cJ9_min_7cf53 2 (some .int) :: wT
def iL_law : List (Nat × Instr × Nat) := [(0, .new 7, 3), (3, .dup, 1), (4, .invokespecial 9, 3), (7, .astore_n 1, 1), (8, .new 10, 3), (11, .dup, 1), (12, .invokespecial 12, 3), (15, .astore_n 2, 1), (16, .iconst 0, 1), (17, .istore_n 3, 1), (18, .iload_n 3, 1), (19, .aload_n 0, 1), (20, .arraylength, 1), (21, .iconst 4, 1), (22, .isub, 1), (23, .if_icmp .gt 682, 3), (26, .aload_n 0, 1), (27, .iload_n 3, 1), (28, .iaload, 1), (29, .bipush 31, 2), (31, .iand, 1), (32, .tableswitch 667 0 22 #[108, 141, 184, 227, 250, 273, 296, 319, 352, 375, 398, 421, 444, 467, 490, 503, 516, 569, 582, 595, 608, 621, 644], 108), (140, .aload_n 1, 1), (141, .aload_n 0, 1), (142, .iload_n 3, 1), (143, .iconst 1, 1), (144, .iadd, 1), (145, .iaload, 1), (146, .aload_n 0, 1), (147, .iload_n 3, 1), (148, .iconst 2, 1), (149, .iadd, 1), (150, .iaload, 1), (151, .invokevirtual 13, 3), (154, .aload_n 2, 1), (155, .aload_n 0, 1), (156, .iload_n 3, 1), (157, .iconst 1, 1), (158, .iadd, 1), (159, .iaload, 1), (160, .aload_n 0, 1), (161, .iload_n 3, 1), (162, .iconst 2, 1), (163, .iadd, 1), (164, .iaload, 1), (165, .invokevirtual 17, 3), (168, .if_icmp .eq 531, 3), (171, .iconst 0, 1), (172, .ireturn, 1), (173, .aload_n 1, 1), (174, .aload_n 0, 1), (175, .iload_n 3, 1), (176, .iconst 1, 1), (177, .iadd, 1), (178, .iaload, 1), (179, .aload_n 0, 1), (180, .iload_n 3, 1), (181, .iconst 2, 1), (182, .iadd, 1), (183, .iaload, 1), (184, .aload_n 0, 1), (185, .iload_n 3, 1), (186, .iconst 3, 1), (187, .iadd, 1), (188, .iaload, 1), (189, .invokevirtual 18, 3), (192, .aload_n 2, 1), (193, .aload_n 0, 1), (194, .iload_n 3, 1), (195, .iconst 1, 1), (196, .iadd, 1), (197, .iaload, 1), (198, .aload_n 0, 1), (199, .iload_n 3, 1), (200, .iconst 2, 1), (201, .iadd, 1), (202, .iaload, 1), (203, .aload_n 0, 1), (204, .iload_n 3, 1), (205, .iconst 3, 1), (206, .iadd, 1), (207, .iaload, 1), (208, .invokevirtual 22, 3), (211, .if_icmp .eq 488, 3), (214, .iconst 0, 1), (215, .ireturn, 1), (216, .aload_n 1, 1), (217, .aload_n 0, 1), (218, .iload_n 3, 1), (219, .iconst 1, 1), (220, .iadd, 1), (221, .iaload, 1), (222, .aload_n 0, 1), (223, .iload_n 3, 1), (224, .iconst 2, 1), (225, .iadd, 1), (226, .iaload, 1), (227, .aload_n 0, 1), (228, .iload_n 3, 1), (229, .iconst 3, 1), (230, .iadd, 1), (231, .iaload, 1), (232, .invokevirtual 23, 3), (235, .aload_n 2, 1), (236, .aload_n 0, 1), (237, .iload_n 3, 1), (238, .iconst 1, 1), (239, .iadd, 1), (240, .iaload, 1), (241, .aload_n 0, 1), (242, .iload_n 3, 1), (243, .iconst 2, 1), (244, .iadd, 1), (245, .iaload, 1), (246, .aload_n 0, 1), (247, .iload_n 3, 1), (248, .iconst 3, 1), (249, .iadd, 1), (250, .iaload, 1), (251, .invokevirtual 26, 3), (254, .if_icmp .eq 445, 3), (257, .iconst 0, 1), (258, .ireturn, 1), (259, .aload_n 1, 1), (260, .aload_n 0, 1), (261, .iload_n 3, 1), (262, .iconst 1, 1), (263, .iadd, 1), (264, .iaload, 1), (265, .invokevirtual 27, 3), (268, .aload_n 2, 1), (269, .aload_n 0, 1), (270, .iload_n 3, 1), (271, .iconst 1, 1), (272, .iadd, 1), (273, .iaload, 1), (274, .invokevirtual 31, 3), (277, .if_icmp .eq 422, 3), (280, .iconst 0, 1), (281, .ireturn, 1), (282, .aload_n 1, 1), (283, .aload_n 0, 1), (284, .iload_n 3, 1), (285, .iconst 1, 1), (286, .iadd, 1), (287, .iaload, 1), (288, .invokevirtual 32, 3), (291, .aload_n 2, 1), (292, .aload_n 0, 1), (293, .iload_n 3, 1), (294, .iconst 1, 1), (295, .iadd, 1), (296, .iaload, 1), (297, .invokevirtual 35, 3), (300, .if_icmp .eq 399, 3), (303, .iconst 0, 1), (304, .ireturn, 1), (305, .aload_n 1, 1), (306, .aload_n 0, 1), (307, .iload_n 3, 1), (308, .iconst 1, 1), (309, .iadd, 1), (310, .iaload, 1), (311, .invokevirtual 36, 3), (314, .aload_n 2, 1), (315, .aload_n 0, 1), (316, .iload_n 3, 1), (317, .iconst 1, 1), (318, .iadd, 1), (319, .iaload, 1), (320, .invokevirtual 39, 3), (323, .if_icmp .eq 376, 3), (326, .iconst 0, 1), (327, .ireturn, 1), (328, .aload_n 1, 1), (329, .aload_n 0, 1), (330, .iload_n 3, 1), (331, .iconst 1, 1), (332, .iadd, 1), (333, .iaload, 1), (334, .invokevirtual 40, 3), (337, .aload_n 2, 1), (338, .aload_n 0, 1), (339, .iload_n 3, 1), (340, .iconst 1, 1), (341, .iadd, 1), (342, .iaload, 1), (343, .invokevirtual 43, 3), (346, .if_icmp .eq 353, 3), (349, .iconst 0, 1), (350, .ireturn, 1), (351, .aload_n 1, 1), (352, .aload_n 0, 1), (353, .iload_n 3, 1), (354, .iconst 1, 1), (355, .iadd, 1), (356, .iaload, 1), (357, .aload_n 0, 1), (358, .iload_n 3, 1), (359, .iconst 2, 1), (360, .iadd, 1), (361, .iaload, 1), (362, .invokevirtual 44, 3), (365, .aload_n 2, 1), (366, .aload_n 0, 1), (367, .iload_n 3, 1), (368, .iconst 1, 1), (369, .iadd, 1), (370, .iaload, 1), (371, .aload_n 0, 1), (372, .iload_n 3, 1), (373, .iconst 2, 1), (374, .iadd, 1), (375, .iaload, 1), (376, .invokevirtual 47, 3), (379, .if_icmp .eq 320, 3), (382, .iconst 0, 1), (383, .ireturn, 1), (384, .aload_n 1, 1), (385, .aload_n 0, 1), (386, .iload_n 3, 1), (387, .iconst 1, 1), (388, .iadd, 1), (389, .iaload, 1), (390, .invokevirtual 48, 3), (393, .aload_n 2, 1), (394, .aload_n 0, 1), (395, .iload_n 3, 1), (396, .iconst 1, 1), (397, .iadd, 1), (398, .iaload, 1), (399, .invokevirtual 51, 3), (402, .if_icmp .eq 297, 3), (405, .iconst 0, 1), (406, .ireturn, 1), (407, .aload_n 1, 1), (408, .aload_n 0, 1), (409, .iload_n 3, 1), (410, .iconst 1, 1), (411, .iadd, 1), (412, .iaload, 1), (413, .invokevirtual 52, 3), (416, .aload_n 2, 1), (417, .aload_n 0, 1), (418, .iload_n 3, 1), (419, .iconst 1, 1), (420, .iadd, 1), (421, .iaload, 1), (422, .invokevirtual 55, 3), (425, .if_icmp .eq 274, 3), (428, .iconst 0, 1), (429, .ireturn, 1), (430, .aload_n 1, 1), (431, .aload_n 0, 1), (432, .iload_n 3, 1), (433, .iconst 1, 1), (434, .iadd, 1), (435, .iaload, 1), (436, .invokevirtual 56, 3), (439, .aload_n 2, 1), (440, .aload_n 0, 1), (441, .iload_n 3, 1), (442, .iconst 1, 1), (443, .iadd, 1), (444, .iaload, 1), (445, .invokevirtual 59, 3), (448, .if_icmp .eq 251, 3), (451, .iconst 0, 1), (452, .ireturn, 1), (453, .aload_n 1, 1), (454, .aload_n 0, 1), (455, .iload_n 3, 1), (456, .iconst 1, 1), (457, .iadd, 1), (458, .iaload, 1), (459, .invokevirtual 60, 3), (462, .aload_n 2, 1), (463, .aload_n 0, 1), (464, .iload_n 3, 1), (465, .iconst 1, 1), (466, .iadd, 1), (467, .iaload, 1), (468, .invokevirtual 63, 3), (471, .if_icmp .eq 228, 3), (474, .iconst 0, 1), (475, .ireturn, 1), (476, .aload_n 1, 1), (477, .aload_n 0, 1), (478, .iload_n 3, 1), (479, .iconst 1, 1), (480, .iadd, 1), (481, .iaload, 1), (482, .invokevirtual 64, 3), (485, .aload_n 2, 1), (486, .aload_n 0, 1), (487, .iload_n 3, 1), (488, .iconst 1, 1), (489, .iadd, 1), (490, .iaload, 1), (491, .invokevirtual 67, 3), (494, .if_icmp .eq 205, 3), (497, .iconst 0, 1), (498, .ireturn, 1), (499, .aload_n 1, 1), (500, .aload_n 0, 1), (501, .iload_n 3, 1), (502, .iconst 1, 1), (503, .iadd, 1), (504, .iaload, 1), (505, .invokevirtual 68, 3), (508, .aload_n 2, 1), (509, .aload_n 0, 1), (510, .iload_n 3, 1), (511, .iconst 1, 1), (512, .iadd, 1), (513, .iaload, 1), (514, .invokevirtual 71, 3), (517, .if_icmp .eq 182, 3), (520, .iconst 0, 1), (521, .ireturn, 1), (522, .aload_n 1, 1), (523, .invokevirtual 72, 3), (526, .aload_n 2, 1), (527, .invokevirtual 76, 3), (530, .if_icmp .eq 169, 3), (533, .iconst 0, 1), (534, .ireturn, 1), (535, .aload_n 1, 1), (536, .invokevirtual 77, 3), (539, .aload_n 2, 1), (540, .invokevirtual 80, 3), (543, .if_icmp .eq 156, 3), (546, .iconst 0, 1), (547, .ireturn, 1), (548, .aload_n 1, 1), (549, .aload_n 0, 1), (550, .iload_n 3, 1), (551, .iconst 1, 1), (552, .iadd, 1), (553, .iaload, 1), (554, .i2l, 1), (555, .bipush 32, 2), (557, .lshl, 1), (558, .aload_n 0, 1), (559, .iload_n 3, 1), (560, .iconst 2, 1), (561, .iadd, 1), (562, .iaload, 1), (563, .i2l, 1), (564, .ldc2_w 81, 3), (567, .land, 1), (568, .lor, 1), (569, .invokevirtual 83, 3), (572, .aload_n 2, 1), (573, .aload_n 0, 1), (574, .iload_n 3, 1), (575, .iconst 1, 1), (576, .iadd, 1), (577, .iaload, 1), (578, .i2l, 1), (579, .bipush 32, 2), (581, .lshl, 1), (582, .aload_n 0, 1), (583, .iload_n 3, 1), (584, .iconst 2, 1), (585, .iadd, 1), (586, .iaload, 1), (587, .i2l, 1), (588, .ldc2_w 81, 3), (591, .land, 1), (592, .lor, 1), (593, .invokevirtual 87, 3), (596, .if_icmp .eq 103, 3), (599, .iconst 0, 1), (600, .ireturn, 1), (601, .aload_n 1, 1), (602, .invokevirtual 88, 3), (605, .aload_n 2, 1), (606, .invokevirtual 91, 3), (609, .if_icmp .eq 90, 3), (612, .iconst 0, 1), (613, .ireturn, 1), (614, .aload_n 1, 1), (615, .invokevirtual 92, 3), (618, .aload_n 2, 1), (619, .invokevirtual 95, 3), (622, .if_icmp .eq 77, 3), (625, .iconst 0, 1), (626, .ireturn, 1), (627, .aload_n 1, 1), (628, .invokevirtual 96, 3), (631, .aload_n 2, 1), (632, .invokevirtual 99, 3), (635, .if_icmp .eq 64, 3), (638, .iconst 0, 1), (639, .ireturn, 1), (640, .aload_n 1, 1), (641, .invokevirtual 100, 3), (644, .aload_n 2, 1), (645, .invokevirtual 103, 3), (648, .if_icmp .eq 51, 3), (651, .iconst 0, 1), (652, .ireturn, 1), (653, .aload_n 1, 1), (654, .aload_n 0, 1), (655, .iload_n 3, 1), (656, .iconst 1, 1), (657, .iadd, 1), (658, .iaload, 1), (659, .invokevirtual 104, 3), (662, .aload_n 2, 1), (663, .aload_n 0, 1), (664, .iload_n 3, 1), (665, .iconst 1, 1), (666, .iadd, 1), (667, .iaload, 1), (668, .invokevirtual 107, 3), (671, .if_icmp .eq 28, 3), (674, .iconst 0, 1), (675, .ireturn, 1), (676, .aload_n 1, 1), (677, .aload_n 0, 1), (678, .iload_n 3, 1), (679, .iconst 1, 1), (680, .iadd, 1), (681, .iaload, 1), (682, .invokevirtual 108, 3), (685, .aload_n 2, 1), (686, .aload_n 0, 1), (687, .iload_n 3, 1), (688, .iconst 1, 1), (689, .iadd, 1), (690, .iaload, 1), (691, .invokevirtual 111, 3), (694, .if_icmp .eq 5, 3), (697, .iconst 0, 1), (698, .ireturn, 1), (699, .iinc 3 4, 3), (702, .goto (-684), 3), (705, .iconst 1, 1), (706, .ireturn, 1)]
theorem dL_law : iL_law.all (fun q => decide (decode code q.1 = .ok q.2)) = true := by decide +kernel
theorem tw_0 : Cond.selects "PointAnswers$History" ⟨"PointAnswers$History", "prepare", "(LPointAnswers$Bundle;)V"⟩ ⟨"PointAnswers$History", "prepare", "(LPointAnswers$Bundle;)V"⟩ ∈ wT := tw 0 (by decide +kernel) rfl
theorem tw_1 : Cond.selects "PointAnswers$History" ⟨"PointAnswers$History", "rowAt", "(I)LPointAnswers$Bundle;"⟩ ⟨"PointAnswers$History", "rowAt", "(I)LPointAnswers$Bundle;"⟩ ∈ wT := tw 1 (by decide +kernel) rfl
theorem tw_2 : Cond.selects "PointAnswers$Bundle" ⟨"PointAnswers$Bundle", "become", "(LPointAnswers$Bundle;)V"⟩ ⟨"PointAnswers$Bundle", "become", "(LPointAnswers$Bundle;)V"⟩ ∈ wT := tw 2 (by decide +kernel) rfl
theorem tw_3 : Cond.selects "PointAnswers$Bundle" ⟨"PointAnswers$Bundle", "find", "(I)LPointAnswers$Point;"⟩ ⟨"PointAnswers$Bundle", "find", "(I)LPointAnswers$Point;"⟩ ∈ wT := tw 3 (by decide +kernel) rfl
theorem tw_4 : Cond.selects "PointAnswers$Point" ⟨"PointAnswers$Point", "become", "(LPointAnswers$Point;)V"⟩ ⟨"PointAnswers$Point", "become", "(LPointAnswers$Point;)V"⟩ ∈ wT := tw 4 (by decide +kernel) rfl
theorem tw_5 : Cond.selects "PointAnswers$Bundle" ⟨"PointAnswers$Bundle", "adjust", "(II)I"⟩ ⟨"PointAnswers$Bundle", "adjust", "(II)I"⟩ ∈ wT := tw 5 (by decide +kernel) rfl
theorem tw_6 : Cond.selects "PointAnswers$History" ⟨"PointAnswers$History", "settle", "(I)I"⟩ ⟨"PointAnswers$History", "settle", "(I)I"⟩ ∈ wT := tw 6 (by decide +kernel) rfl
theorem tw_7 : Cond.selects "PointAnswers$History" ⟨"PointAnswers$History", "dropOldest", "()V"⟩ ⟨"PointAnswers$History", "dropOldest", "()V"⟩ ∈ wT := tw 7 (by decide +kernel) rfl
theorem tw_8 : Cond.selects "PointAnswers$Bundle" ⟨"PointAnswers$Bundle", "fileClaim", "(III)I"⟩ ⟨"PointAnswers$Bundle", "fileClaim", "(III)I"⟩ ∈ wT := tw 8 (by decide +kernel) rfl
theorem tw_9 : Cond.selects "PointAnswers$Bundle" ⟨"PointAnswers$Bundle", "file", "(IIII)I"⟩ ⟨"PointAnswers$Bundle", "file", "(IIII)I"⟩ ∈ wT := tw 9 (by decide +kernel) rfl
theorem tw_10 : Cond.selects "PointAnswers$Bundle" ⟨"PointAnswers$Bundle", "freeRow", "()LPointAnswers$Point;"⟩ ⟨"PointAnswers$Bundle", "freeRow", "()LPointAnswers$Point;"⟩ ∈ wT := tw 10 (by decide +kernel) rfl
theorem tw_11 : Cond.selects "PointAnswers$Bundle" ⟨"PointAnswers$Bundle", "fileAnswer", "(III)I"⟩ ⟨"PointAnswers$Bundle", "fileAnswer", "(III)I"⟩ ∈ wT := tw 11 (by decide +kernel) rfl
theorem tw_12 : Cond.selects "PointAnswers$Bundle" ⟨"PointAnswers$Bundle", "takeBack", "(I)I"⟩ ⟨"PointAnswers$Bundle", "takeBack", "(I)I"⟩ ∈ wT := tw 12 (by decide +kernel) rfl
theorem tw_13 : Cond.selects "PointAnswers$Bundle" ⟨"PointAnswers$Bundle", "standing", "()I"⟩ ⟨"PointAnswers$Bundle", "standing", "()I"⟩ ∈ wT := tw 13 (by decide +kernel) rfl
theorem tw_14 : Cond.selects "PointAnswers$Bundle" ⟨"PointAnswers$Bundle", "out", "()I"⟩ ⟨"PointAnswers$Bundle", "out", "()I"⟩ ∈ wT := tw 14 (by decide +kernel) rfl
theorem tw_15 : Cond.selects "PointAnswers$Bundle" ⟨"PointAnswers$Bundle", "withdrawn", "()I"⟩ ⟨"PointAnswers$Bundle", "withdrawn", "()I"⟩ ∈ wT := tw 15 (by decide +kernel) rfl
theorem tw_16 : Cond.selects "PointAnswers$Bundle" ⟨"PointAnswers$Bundle", "struck", "()I"⟩ ⟨"PointAnswers$Bundle", "struck", "()I"⟩ ∈ wT := tw 16 (by decide +kernel) rfl
theorem tw_17 : Cond.selects "PointAnswers$Bundle" ⟨"PointAnswers$Bundle", "lapsedOn", "(I)I"⟩ ⟨"PointAnswers$Bundle", "lapsedOn", "(I)I"⟩ ∈ wT := tw 17 (by decide +kernel) rfl
theorem tw_18 : Cond.selects "PointAnswers$Bundle" ⟨"PointAnswers$Bundle", "baseless", "()I"⟩ ⟨"PointAnswers$Bundle", "baseless", "()I"⟩ ∈ wT := tw 18 (by decide +kernel) rfl
theorem tw_19 : Cond.selects "PointAnswers$Bundle" ⟨"PointAnswers$Bundle", "standingIf", "(II)I"⟩ ⟨"PointAnswers$Bundle", "standingIf", "(II)I"⟩ ∈ wT := tw 19 (by decide +kernel) rfl
theorem tw_20 : Cond.selects "PointAnswers$Bundle" ⟨"PointAnswers$Bundle", "targetOf", "(I)I"⟩ ⟨"PointAnswers$Bundle", "targetOf", "(I)I"⟩ ∈ wT := tw 20 (by decide +kernel) rfl
theorem tw_21 : Cond.selects "PointAnswers$Bundle" ⟨"PointAnswers$Bundle", "prolong", "(I)I"⟩ ⟨"PointAnswers$Bundle", "prolong", "(I)I"⟩ ∈ wT := tw 21 (by decide +kernel) rfl
theorem tw_22 : Cond.selects "PointAnswers$Bundle" ⟨"PointAnswers$Bundle", "turnCase", "(I)I"⟩ ⟨"PointAnswers$Bundle", "turnCase", "(I)I"⟩ ∈ wT := tw 22 (by decide +kernel) rfl
theorem tw_23 : Cond.selects "PointAnswers$Bundle" ⟨"PointAnswers$Bundle", "moveOn", "(I)I"⟩ ⟨"PointAnswers$Bundle", "moveOn", "(I)I"⟩ ∈ wT := tw 23 (by decide +kernel) rfl
theorem tw_24 : Cond.selects "PointAnswers$Bundle" ⟨"PointAnswers$Bundle", "reasonAgainst", "(I)I"⟩ ⟨"PointAnswers$Bundle", "reasonAgainst", "(I)I"⟩ ∈ wT := tw 24 (by decide +kernel) rfl
theorem tw_25 : Cond.selects "PointAnswers$Bundle" ⟨"PointAnswers$Bundle", "answersTo", "(I)I"⟩ ⟨"PointAnswers$Bundle", "answersTo", "(I)I"⟩ ∈ wT := tw 25 (by decide +kernel) rfl
theorem tw_26 : Cond.selects "PointAnswers$Bundle" ⟨"PointAnswers$Bundle", "depthOf", "(I)I"⟩ ⟨"PointAnswers$Bundle", "depthOf", "(I)I"⟩ ∈ wT := tw 26 (by decide +kernel) rfl
theorem tw_27 : Cond.selects "PointAnswers$Bundle" ⟨"PointAnswers$Bundle", "daysLeft", "(LPointAnswers$Point;)I"⟩ ⟨"PointAnswers$Bundle", "daysLeft", "(LPointAnswers$Point;)I"⟩ ∈ wT := tw 27 (by decide +kernel) rfl
theorem tw_28 : Cond.selects "PointAnswers$Bundle" ⟨"PointAnswers$Bundle", "claims", "()I"⟩ ⟨"PointAnswers$Bundle", "claims", "()I"⟩ ∈ wT := tw 28 (by decide +kernel) rfl
theorem tw_29 : Cond.selects "PointAnswers$Bundle" ⟨"PointAnswers$Bundle", "answered", "()I"⟩ ⟨"PointAnswers$Bundle", "answered", "()I"⟩ ∈ wT := tw 29 (by decide +kernel) rfl
theorem tw_30 : Cond.selects "PointAnswers$Bundle" ⟨"PointAnswers$Bundle", "all", "()I"⟩ ⟨"PointAnswers$Bundle", "all", "()I"⟩ ∈ wT := tw 30 (by decide +kernel) rfl
theorem tw_31 : Cond.selects "PointAnswers$Bundle" ⟨"PointAnswers$Bundle", "pagesOf", "(II)I"⟩ ⟨"PointAnswers$Bundle", "pagesOf", "(II)I"⟩ ∈ wT := tw 31 (by decide +kernel) rfl
theorem tw_32 : Cond.selects "PointAnswers$Bundle" ⟨"PointAnswers$Bundle", "ofSide", "(I)I"⟩ ⟨"PointAnswers$Bundle", "ofSide", "(I)I"⟩ ∈ wT := tw 32 (by decide +kernel) rfl
theorem tw_33 : Cond.selects "PointAnswers$Costs" ⟨"PointAnswers$Costs", "weigh", "(LPointAnswers$Bundle;)V"⟩ ⟨"PointAnswers$Costs", "weigh", "(LPointAnswers$Bundle;)V"⟩ ∈ wT := tw 33 (by decide +kernel) rfl
theorem tw_34 : Cond.selects "PointAnswers$Bundle" ⟨"PointAnswers$Bundle", "withoutAnswers", "()I"⟩ ⟨"PointAnswers$Bundle", "withoutAnswers", "()I"⟩ ∈ wT := tw 34 (by decide +kernel) rfl
theorem tw_35 : Cond.selects "PointAnswers$Costs" ⟨"PointAnswers$Costs", "addToTarget", "(III)V"⟩ ⟨"PointAnswers$Costs", "addToTarget", "(III)V"⟩ ∈ wT := tw 35 (by decide +kernel) rfl
theorem tw_36 : Cond.selects "PointAnswers$Costs" ⟨"PointAnswers$Costs", "answersToFall", "(I)I"⟩ ⟨"PointAnswers$Costs", "answersToFall", "(I)I"⟩ ∈ wT := tw 36 (by decide +kernel) rfl
theorem tw_37 : Cond.selects "PointAnswers$Costs" ⟨"PointAnswers$Costs", "answersToStand", "(I)I"⟩ ⟨"PointAnswers$Costs", "answersToStand", "(I)I"⟩ ∈ wT := tw 37 (by decide +kernel) rfl
theorem tw_38 : Cond.selects "PointAnswers$Pad" ⟨"PointAnswers$Pad", "append", "(C)V"⟩ ⟨"PointAnswers$Pad", "append", "(C)V"⟩ ∈ wT := tw 38 (by decide +kernel) rfl
theorem tw_39 : Cond.selects "PointAnswers$Pad" ⟨"PointAnswers$Pad", "empty", "()I"⟩ ⟨"PointAnswers$Pad", "empty", "()I"⟩ ∈ wT := tw 39 (by decide +kernel) rfl
theorem tw_40 : Cond.selects "PointAnswers$Reader" ⟨"PointAnswers$Reader", "firstFault", "(LPointAnswers$Pad;)I"⟩ ⟨"PointAnswers$Reader", "firstFault", "(LPointAnswers$Pad;)I"⟩ ∈ wT := tw 40 (by decide +kernel) rfl
theorem tw_41 : Cond.selects "PointAnswers$Reader" ⟨"PointAnswers$Reader", "rewind", "()V"⟩ ⟨"PointAnswers$Reader", "rewind", "()V"⟩ ∈ wT := tw 41 (by decide +kernel) rfl
theorem tw_42 : Cond.selects "PointAnswers$Reader" ⟨"PointAnswers$Reader", "readOrder", "(LPointAnswers$Pad;)Z"⟩ ⟨"PointAnswers$Reader", "readOrder", "(LPointAnswers$Pad;)Z"⟩ ∈ wT := tw 42 (by decide +kernel) rfl
theorem tw_43 : Cond.selects "PointAnswers$Pad" ⟨"PointAnswers$Pad", "signAt", "(I)C"⟩ ⟨"PointAnswers$Pad", "signAt", "(I)C"⟩ ∈ wT := tw 43 (by decide +kernel) rfl
theorem tw_44 : Cond.selects "PointAnswers$Reader" ⟨"PointAnswers$Reader", "readDigit", "(LPointAnswers$Pad;CC)Z"⟩ ⟨"PointAnswers$Reader", "readDigit", "(LPointAnswers$Pad;CC)Z"⟩ ∈ wT := tw 44 (by decide +kernel) rfl
theorem tw_45 : Cond.selects "PointAnswers$Reader" ⟨"PointAnswers$Reader", "takeDigit", "(LPointAnswers$Pad;CC)Z"⟩ ⟨"PointAnswers$Reader", "takeDigit", "(LPointAnswers$Pad;CC)Z"⟩ ∈ wT := tw 45 (by decide +kernel) rfl
theorem tw_46 : Cond.selects "PointAnswers$Reader" ⟨"PointAnswers$Reader", "readPaper", "(LPointAnswers$Pad;)Z"⟩ ⟨"PointAnswers$Reader", "readPaper", "(LPointAnswers$Pad;)Z"⟩ ∈ wT := tw 46 (by decide +kernel) rfl
theorem tw_47 : Cond.selects "PointAnswers$Reader" ⟨"PointAnswers$Reader", "take", "(LPointAnswers$Pad;C)Z"⟩ ⟨"PointAnswers$Reader", "take", "(LPointAnswers$Pad;C)Z"⟩ ∈ wT := tw 47 (by decide +kernel) rfl
theorem tw_48 : Cond.selects "PointAnswers$Reader" ⟨"PointAnswers$Reader", "readCites", "(LPointAnswers$Pad;)Z"⟩ ⟨"PointAnswers$Reader", "readCites", "(LPointAnswers$Pad;)Z"⟩ ∈ wT := tw 48 (by decide +kernel) rfl
theorem tw_49 : Cond.selects "PointAnswers$Reader" ⟨"PointAnswers$Reader", "readNumber", "(LPointAnswers$Pad;)Z"⟩ ⟨"PointAnswers$Reader", "readNumber", "(LPointAnswers$Pad;)Z"⟩ ∈ wT := tw 49 (by decide +kernel) rfl
theorem tw_50 : Cond.selects "PointAnswers" ⟨"PointAnswers", "follow", "()I"⟩ ⟨"PointAnswers", "follow", "()I"⟩ ∈ wT := tw 50 (by decide +kernel) rfl
theorem tw_51 : Cond.selects "PointAnswers$History" ⟨"PointAnswers$History", "bringBack", "(LPointAnswers$Bundle;)I"⟩ ⟨"PointAnswers$History", "bringBack", "(LPointAnswers$Bundle;)I"⟩ ∈ wT := tw 51 (by decide +kernel) rfl
theorem tw_52 : Cond.selects "PointAnswers" ⟨"PointAnswers", "slotRow", "(I)LPointAnswers$Bundle;"⟩ ⟨"PointAnswers", "slotRow", "(I)LPointAnswers$Bundle;"⟩ ∈ wT := tw 52 (by decide +kernel) rfl
theorem tw_53 : Cond.selects "PointAnswersModel" ⟨"PointAnswersModel", "record", "()V"⟩ ⟨"PointAnswersModel", "record", "()V"⟩ ∈ wT := tw 53 (by decide +kernel) rfl
theorem tw_54 : Cond.selects "PointAnswersModel" ⟨"PointAnswersModel", "whyNotClaim", "(III)I"⟩ ⟨"PointAnswersModel", "whyNotClaim", "(III)I"⟩ ∈ wT := tw 54 (by decide +kernel) rfl
theorem tw_55 : Cond.selects "PointAnswersModel" ⟨"PointAnswersModel", "file", "(IIII)I"⟩ ⟨"PointAnswersModel", "file", "(IIII)I"⟩ ∈ wT := tw 55 (by decide +kernel) rfl
theorem tw_56 : Cond.selects "PointAnswersModel" ⟨"PointAnswersModel", "lay", "(III)V"⟩ ⟨"PointAnswersModel", "lay", "(III)V"⟩ ∈ wT := tw 56 (by decide +kernel) rfl
theorem tw_57 : Cond.selects "PointAnswersModel" ⟨"PointAnswersModel", "whyNotAnswer", "(III)I"⟩ ⟨"PointAnswersModel", "whyNotAnswer", "(III)I"⟩ ∈ wT := tw 57 (by decide +kernel) rfl
theorem tw_58 : Cond.selects "PointAnswersModel" ⟨"PointAnswersModel", "isPoint", "(I)Z"⟩ ⟨"PointAnswersModel", "isPoint", "(I)Z"⟩ ∈ wT := tw 58 (by decide +kernel) rfl
theorem tw_59 : Cond.selects "PointAnswersModel" ⟨"PointAnswersModel", "isWithdrawn", "(I)Z"⟩ ⟨"PointAnswersModel", "isWithdrawn", "(I)Z"⟩ ∈ wT := tw 59 (by decide +kernel) rfl
theorem tw_60 : Cond.selects "PointAnswersModel" ⟨"PointAnswersModel", "its", "(II)I"⟩ ⟨"PointAnswersModel", "its", "(II)I"⟩ ∈ wT := tw 60 (by decide +kernel) rfl
theorem tw_61 : Cond.selects "PointAnswersModel" ⟨"PointAnswersModel", "whyNotWithdraw", "(I)I"⟩ ⟨"PointAnswersModel", "whyNotWithdraw", "(I)I"⟩ ∈ wT := tw 61 (by decide +kernel) rfl
theorem tw_62 : Cond.selects "PointAnswersModel" ⟨"PointAnswersModel", "look", "()V"⟩ ⟨"PointAnswersModel", "look", "()V"⟩ ∈ wT := tw 62 (by decide +kernel) rfl
theorem tw_63 : Cond.selects "PointAnswersModel" ⟨"PointAnswersModel", "layOut", "()V"⟩ ⟨"PointAnswersModel", "layOut", "()V"⟩ ∈ wT := tw 63 (by decide +kernel) rfl
theorem tw_64 : Cond.selects "PointAnswersModel" ⟨"PointAnswersModel", "lapsed", "(I)Z"⟩ ⟨"PointAnswersModel", "lapsed", "(I)Z"⟩ ∈ wT := tw 64 (by decide +kernel) rfl
theorem tw_65 : Cond.selects "PointAnswersModel" ⟨"PointAnswersModel", "isClaim", "(I)Z"⟩ ⟨"PointAnswersModel", "isClaim", "(I)Z"⟩ ∈ wT := tw 65 (by decide +kernel) rfl
theorem tw_66 : Cond.selects "PointAnswersModel" ⟨"PointAnswersModel", "hasNoCase", "(I)Z"⟩ ⟨"PointAnswersModel", "hasNoCase", "(I)Z"⟩ ∈ wT := tw 66 (by decide +kernel) rfl
theorem tw_67 : Cond.selects "PointAnswersModel" ⟨"PointAnswersModel", "layAnswered", "(I)V"⟩ ⟨"PointAnswersModel", "layAnswered", "(I)V"⟩ ∈ wT := tw 67 (by decide +kernel) rfl
theorem tw_68 : Cond.selects "PointAnswersModel" ⟨"PointAnswersModel", "standing", "()I"⟩ ⟨"PointAnswersModel", "standing", "()I"⟩ ∈ wT := tw 68 (by decide +kernel) rfl
theorem tw_69 : Cond.selects "PointAnswersModel" ⟨"PointAnswersModel", "whyNotRenew", "(I)I"⟩ ⟨"PointAnswersModel", "whyNotRenew", "(I)I"⟩ ∈ wT := tw 69 (by decide +kernel) rfl
theorem tw_70 : Cond.selects "PointAnswersModel" ⟨"PointAnswersModel", "overruleIt", "(I)I"⟩ ⟨"PointAnswersModel", "overruleIt", "(I)I"⟩ ∈ wT := tw 70 (by decide +kernel) rfl
theorem tw_71 : Cond.selects "PointAnswersModel" ⟨"PointAnswersModel", "whyNotPass", "(I)I"⟩ ⟨"PointAnswersModel", "whyNotPass", "(I)I"⟩ ∈ wT := tw 71 (by decide +kernel) rfl
theorem tw_72 : Cond.selects "PointAnswersModel" ⟨"PointAnswersModel", "lowestThatStands", "(I)I"⟩ ⟨"PointAnswersModel", "lowestThatStands", "(I)I"⟩ ∈ wT := tw 72 (by decide +kernel) rfl
theorem tw_73 : Cond.selects "PointAnswersModel" ⟨"PointAnswersModel", "answersTo", "(I)I"⟩ ⟨"PointAnswersModel", "answersTo", "(I)I"⟩ ∈ wT := tw 73 (by decide +kernel) rfl
theorem tw_74 : Cond.selects "PointAnswersModel" ⟨"PointAnswersModel", "depth", "(I)I"⟩ ⟨"PointAnswersModel", "depth", "(I)I"⟩ ∈ wT := tw 74 (by decide +kernel) rfl
theorem tw_75 : Cond.selects "PointAnswersModel" ⟨"PointAnswersModel", "daysYet", "(I)I"⟩ ⟨"PointAnswersModel", "daysYet", "(I)I"⟩ ∈ wT := tw 75 (by decide +kernel) rfl
theorem tw_76 : Cond.selects "PointAnswersModel" ⟨"PointAnswersModel", "claims", "()I"⟩ ⟨"PointAnswersModel", "claims", "()I"⟩ ∈ wT := tw 76 (by decide +kernel) rfl
theorem tw_77 : Cond.selects "PointAnswersModel" ⟨"PointAnswersModel", "outOnes", "()I"⟩ ⟨"PointAnswersModel", "outOnes", "()I"⟩ ∈ wT := tw 77 (by decide +kernel) rfl
theorem tw_78 : Cond.selects "PointAnswersModel" ⟨"PointAnswersModel", "answeredOnes", "()I"⟩ ⟨"PointAnswersModel", "answeredOnes", "()I"⟩ ∈ wT := tw 78 (by decide +kernel) rfl
theorem tw_79 : Cond.selects "PointAnswersModel" ⟨"PointAnswersModel", "ofSide", "(I)I"⟩ ⟨"PointAnswersModel", "ofSide", "(I)I"⟩ ∈ wT := tw 79 (by decide +kernel) rfl
theorem tw_80 : Cond.selects "PointAnswersModel" ⟨"PointAnswersModel", "layCosts", "()V"⟩ ⟨"PointAnswersModel", "layCosts", "()V"⟩ ∈ wT := tw 80 (by decide +kernel) rfl
theorem tw_81 : Cond.selects "PointAnswersModel" ⟨"PointAnswersModel", "changesBy", "(I)I"⟩ ⟨"PointAnswersModel", "changesBy", "(I)I"⟩ ∈ wT := tw 81 (by decide +kernel) rfl
theorem tw_82 : Cond.selects "PointAnswersModel" ⟨"PointAnswersModel", "readPad", "()I"⟩ ⟨"PointAnswersModel", "readPad", "()I"⟩ ∈ wT := tw 82 (by decide +kernel) rfl
theorem tw_83 : Cond.selects "PointAnswersModel" ⟨"PointAnswersModel", "readOrder", "()V"⟩ ⟨"PointAnswersModel", "readOrder", "()V"⟩ ∈ wT := tw 83 (by decide +kernel) rfl
theorem tw_84 : Cond.selects "PointAnswersModel" ⟨"PointAnswersModel", "letter", "()I"⟩ ⟨"PointAnswersModel", "letter", "()I"⟩ ∈ wT := tw 84 (by decide +kernel) rfl
theorem tw_85 : Cond.selects "PointAnswersModel" ⟨"PointAnswersModel", "wants", "(Z)V"⟩ ⟨"PointAnswersModel", "wants", "(Z)V"⟩ ∈ wT := tw 85 (by decide +kernel) rfl
theorem tw_86 : Cond.selects "PointAnswersModel" ⟨"PointAnswersModel", "digit", "(II)I"⟩ ⟨"PointAnswersModel", "digit", "(II)I"⟩ ∈ wT := tw 86 (by decide +kernel) rfl
theorem tw_87 : Cond.selects "PointAnswersModel" ⟨"PointAnswersModel", "number", "()I"⟩ ⟨"PointAnswersModel", "number", "()I"⟩ ∈ wT := tw 87 (by decide +kernel) rfl
theorem tw_88 : Cond.selects "PointAnswersModel" ⟨"PointAnswersModel", "cites", "()I"⟩ ⟨"PointAnswersModel", "cites", "()I"⟩ ∈ wT := tw 88 (by decide +kernel) rfl
theorem tw_89 : Cond.selects "PointAnswersModel" ⟨"PointAnswersModel", "does", "(I)Z"⟩ ⟨"PointAnswersModel", "does", "(I)Z"⟩ ∈ wT := tw 89 (by decide +kernel) rfl
theorem tw_90 : Cond.selects "PointAnswersModel" ⟨"PointAnswersModel", "whyNot", "(IIII)I"⟩ ⟨"PointAnswersModel", "whyNot", "(IIII)I"⟩ ∈ wT := tw 90 (by decide +kernel) rfl
theorem tw_91 : Cond.initialized "PointAnswersLaw" ∈ wT := tw 91 (by decide +kernel) rfl
theorem tw_92 : Cond.initialized "PointAnswers" ∈ wT := tw 92 (by decide +kernel) rfl
theorem tw_93 : Cond.initialized "PointAnswers$Bundle" ∈ wT := tw 93 (by decide +kernel) rfl
theorem tw_94 : Cond.initialized "PointAnswers$Point" ∈ wT := tw 94 (by decide +kernel) rfl
theorem tw_95 : Cond.initialized "PointAnswers$Costs" ∈ wT := tw 95 (by decide +kernel) rfl
theorem tw_96 : Cond.initialized "PointAnswers$Pad" ∈ wT := tw 96 (by decide +kernel) rfl
theorem tw_97 : Cond.initialized "PointAnswers$Reader" ∈ wT := tw 97 (by decide +kernel) rfl
theorem tw_98 : Cond.initialized "PointAnswers$History" ∈ wT := tw 98 (by decide +kernel) rfl
theorem tw_99 : Cond.initialized "PointAnswersModel" ∈ wT := tw 99 (by decide +kernel) rfl
theorem tw_100 : Cond.initialized "java/lang/Integer" ∈ wT := tw 100 (by decide +kernel) rfl
theorem tw_101 : Cond.initialized "java/lang/Math" ∈ wT := tw 101 (by decide +kernel) rfl
theorem tw_102 : Cond.classLink "PointAnswersLaw" 7 "PointAnswers" ∈ wT := tw 102 (by decide +kernel) rfl
theorem tw_103 : Cond.instantiable "PointAnswers" 7 ∈ wT := tw 103 (by decide +kernel) rfl
theorem tw_104 : Cond.methodLink "PointAnswersLaw" 9 ⟨"PointAnswers", "<init>", "()V"⟩ ∈ wT := tw 104 (by decide +kernel) rfl
theorem tw_105 : Cond.instanceMethod ⟨"PointAnswers", "<init>", "()V"⟩ ∈ wT := tw 105 (by decide +kernel) rfl
theorem tw_106 : Cond.code ⟨"PointAnswers", "<init>", "()V"⟩ prog_1_method_1_code 2 none ∈ wT := tw 106 (by decide +kernel) rfl
theorem tw_107 : Cond.methodLink "PointAnswers" 3 ⟨"java/lang/Object", "<init>", "()V"⟩ ∈ wT := tw 107 (by decide +kernel) rfl
theorem tw_108 : Cond.instanceMethod ⟨"java/lang/Object", "<init>", "()V"⟩ ∈ wT := tw 108 (by decide +kernel) rfl
theorem tw_109 : Cond.code ⟨"java/lang/Object", "<init>", "()V"⟩ object_method_1_code 1 none ∈ wT := tw 109 (by decide +kernel) rfl
theorem tw_110 : Cond.classLink "PointAnswers" 9 "PointAnswers$Bundle" ∈ wT := tw 110 (by decide +kernel) rfl
theorem tw_111 : Cond.instantiable "PointAnswers$Bundle" 6 ∈ wT := tw 111 (by decide +kernel) rfl
theorem tw_113 : Cond.instanceMethod ⟨"PointAnswers$Bundle", "<init>", "()V"⟩ ∈ wT := tw 113 (by decide +kernel) rfl
theorem tw_114 : Cond.code ⟨"PointAnswers$Bundle", "<init>", "()V"⟩ prog_2_method_1_code 2 none ∈ wT := tw 114 (by decide +kernel) rfl
theorem tw_115 : Cond.methodLink "PointAnswers$Bundle" 3 ⟨"java/lang/Object", "<init>", "()V"⟩ ∈ wT := tw 115 (by decide +kernel) rfl
theorem tw_116 : Cond.classLink "PointAnswers$Bundle" 9 "PointAnswers$Point" ∈ wT := tw 116 (by decide +kernel) rfl
theorem tw_118 : Cond.instantiable "PointAnswers$Point" 7 ∈ wT := tw 118 (by decide +kernel) rfl
theorem tw_120 : Cond.instanceMethod ⟨"PointAnswers$Point", "<init>", "()V"⟩ ∈ wT := tw 120 (by decide +kernel) rfl
theorem tw_121 : Cond.code ⟨"PointAnswers$Point", "<init>", "()V"⟩ prog_6_method_1_code 1 none ∈ wT := tw 121 (by decide +kernel) rfl
theorem tw_122 : Cond.methodLink "PointAnswers$Point" 1 ⟨"java/lang/Object", "<init>", "()V"⟩ ∈ wT := tw 122 (by decide +kernel) rfl
theorem tw_123 : Cond.fieldLink "PointAnswers$Point" 7 "PointAnswers$Point" "side" "I" ∈ wT := tw 123 (by decide +kernel) rfl
theorem tw_126 : Cond.fieldLink "PointAnswers$Point" 13 "PointAnswers$Point" "pages" "I" ∈ wT := tw 126 (by decide +kernel) rfl
theorem tw_129 : Cond.fieldLink "PointAnswers$Point" 16 "PointAnswers$Point" "cases" "I" ∈ wT := tw 129 (by decide +kernel) rfl
theorem tw_132 : Cond.fieldLink "PointAnswers$Point" 19 "PointAnswers$Point" "target" "I" ∈ wT := tw 132 (by decide +kernel) rfl
theorem tw_136 : Cond.fieldLink "PointAnswers$Point" 22 "PointAnswers$Point" "filed" "I" ∈ wT := tw 136 (by decide +kernel) rfl
theorem tw_139 : Cond.fieldLink "PointAnswers$Point" 25 "PointAnswers$Point" "lastsFrom" "I" ∈ wT := tw 139 (by decide +kernel) rfl
theorem tw_141 : Cond.fieldLink "PointAnswers$Point" 28 "PointAnswers$Point" "withdrawn" "Z" ∈ wT := tw 141 (by decide +kernel) rfl
theorem tw_158 : Cond.fieldLink "PointAnswers$Bundle" 11 "PointAnswers$Bundle" "rows" "[LPointAnswers$Point;" ∈ wT := tw 158 (by decide +kernel) rfl
theorem tw_159 : Cond.fieldLink "PointAnswers$Bundle" 25 "PointAnswers$Bundle" "size" "I" ∈ wT := tw 159 (by decide +kernel) rfl
theorem tw_161 : Cond.fieldLink "PointAnswers$Bundle" 28 "PointAnswers$Bundle" "day" "I" ∈ wT := tw 161 (by decide +kernel) rfl
theorem tw_163 : Cond.fieldLink "PointAnswers$Bundle" 31 "PointAnswers$Bundle" "overruled" "I" ∈ wT := tw 163 (by decide +kernel) rfl
theorem tw_165 : Cond.fieldLink "PointAnswers$Bundle" 17 "PointAnswers$Bundle" "lapse" "I" ∈ wT := tw 165 (by decide +kernel) rfl
theorem tw_167 : Cond.fieldLink "PointAnswers$Bundle" 21 "PointAnswers$Bundle" "allowedPages" "I" ∈ wT := tw 167 (by decide +kernel) rfl
theorem tw_182 : Cond.classLink "PointAnswers" 16 "PointAnswers$Costs" ∈ wT := tw 182 (by decide +kernel) rfl
theorem tw_183 : Cond.instantiable "PointAnswers$Costs" 2 ∈ wT := tw 183 (by decide +kernel) rfl
theorem tw_185 : Cond.instanceMethod ⟨"PointAnswers$Costs", "<init>", "()V"⟩ ∈ wT := tw 185 (by decide +kernel) rfl
theorem tw_186 : Cond.code ⟨"PointAnswers$Costs", "<init>", "()V"⟩ prog_3_method_1_code 1 none ∈ wT := tw 186 (by decide +kernel) rfl
theorem tw_187 : Cond.methodLink "PointAnswers$Costs" 3 ⟨"java/lang/Object", "<init>", "()V"⟩ ∈ wT := tw 187 (by decide +kernel) rfl
theorem tw_188 : Cond.fieldLink "PointAnswers$Costs" 9 "PointAnswers$Costs" "fall" "[I" ∈ wT := tw 188 (by decide +kernel) rfl
theorem tw_189 : Cond.fieldLink "PointAnswers$Costs" 15 "PointAnswers$Costs" "stand" "[I" ∈ wT := tw 189 (by decide +kernel) rfl
theorem tw_195 : Cond.arrayClass .int ∈ wT := tw 195 (by decide +kernel) rfl
theorem tw_196 : Cond.classLink "PointAnswers" 23 "PointAnswers$Pad" ∈ wT := tw 196 (by decide +kernel) rfl
theorem tw_197 : Cond.instantiable "PointAnswers$Pad" 2 ∈ wT := tw 197 (by decide +kernel) rfl
theorem tw_199 : Cond.instanceMethod ⟨"PointAnswers$Pad", "<init>", "()V"⟩ ∈ wT := tw 199 (by decide +kernel) rfl
theorem tw_200 : Cond.code ⟨"PointAnswers$Pad", "<init>", "()V"⟩ prog_5_method_1_code 1 none ∈ wT := tw 200 (by decide +kernel) rfl
theorem tw_201 : Cond.methodLink "PointAnswers$Pad" 3 ⟨"java/lang/Object", "<init>", "()V"⟩ ∈ wT := tw 201 (by decide +kernel) rfl
theorem tw_202 : Cond.fieldLink "PointAnswers$Pad" 9 "PointAnswers$Pad" "signs" "[C" ∈ wT := tw 202 (by decide +kernel) rfl
theorem tw_203 : Cond.fieldLink "PointAnswers$Pad" 15 "PointAnswers$Pad" "length" "I" ∈ wT := tw 203 (by decide +kernel) rfl
theorem tw_211 : Cond.arrayClass .char ∈ wT := tw 211 (by decide +kernel) rfl
theorem tw_212 : Cond.classLink "PointAnswers" 30 "PointAnswers$Reader" ∈ wT := tw 212 (by decide +kernel) rfl
theorem tw_213 : Cond.instantiable "PointAnswers$Reader" 6 ∈ wT := tw 213 (by decide +kernel) rfl
theorem tw_215 : Cond.instanceMethod ⟨"PointAnswers$Reader", "<init>", "()V"⟩ ∈ wT := tw 215 (by decide +kernel) rfl
theorem tw_216 : Cond.code ⟨"PointAnswers$Reader", "<init>", "()V"⟩ prog_7_method_1_code 1 none ∈ wT := tw 216 (by decide +kernel) rfl
theorem tw_217 : Cond.methodLink "PointAnswers$Reader" 3 ⟨"java/lang/Object", "<init>", "()V"⟩ ∈ wT := tw 217 (by decide +kernel) rfl
theorem tw_218 : Cond.fieldLink "PointAnswers$Reader" 9 "PointAnswers$Reader" "at" "I" ∈ wT := tw 218 (by decide +kernel) rfl
theorem tw_219 : Cond.fieldLink "PointAnswers$Reader" 49 "PointAnswers$Reader" "digit" "I" ∈ wT := tw 219 (by decide +kernel) rfl
theorem tw_220 : Cond.fieldLink "PointAnswers$Reader" 35 "PointAnswers$Reader" "kind" "C" ∈ wT := tw 220 (by decide +kernel) rfl
theorem tw_222 : Cond.fieldLink "PointAnswers$Reader" 55 "PointAnswers$Reader" "number" "I" ∈ wT := tw 222 (by decide +kernel) rfl
theorem tw_224 : Cond.fieldLink "PointAnswers$Reader" 58 "PointAnswers$Reader" "pages" "I" ∈ wT := tw 224 (by decide +kernel) rfl
theorem tw_226 : Cond.fieldLink "PointAnswers$Reader" 64 "PointAnswers$Reader" "cases" "I" ∈ wT := tw 226 (by decide +kernel) rfl
theorem tw_241 : Cond.classLink "PointAnswers" 37 "PointAnswers$History" ∈ wT := tw 241 (by decide +kernel) rfl
theorem tw_242 : Cond.instantiable "PointAnswers$History" 2 ∈ wT := tw 242 (by decide +kernel) rfl
theorem tw_244 : Cond.instanceMethod ⟨"PointAnswers$History", "<init>", "()V"⟩ ∈ wT := tw 244 (by decide +kernel) rfl
theorem tw_245 : Cond.code ⟨"PointAnswers$History", "<init>", "()V"⟩ prog_4_method_1_code 2 none ∈ wT := tw 245 (by decide +kernel) rfl
theorem tw_246 : Cond.methodLink "PointAnswers$History" 3 ⟨"java/lang/Object", "<init>", "()V"⟩ ∈ wT := tw 246 (by decide +kernel) rfl
theorem tw_247 : Cond.classLink "PointAnswers$History" 9 "PointAnswers$Bundle" ∈ wT := tw 247 (by decide +kernel) rfl
theorem tw_250 : Cond.fieldLink "PointAnswers$History" 11 "PointAnswers$History" "rows" "[LPointAnswers$Bundle;" ∈ wT := tw 250 (by decide +kernel) rfl
theorem tw_251 : Cond.fieldLink "PointAnswers$History" 18 "PointAnswers$History" "kept" "I" ∈ wT := tw 251 (by decide +kernel) rfl
theorem tw_258 : Cond.fieldLink "PointAnswers" 12 "PointAnswers" "now" "LPointAnswers$Bundle;" ∈ wT := tw 258 (by decide +kernel) rfl
theorem tw_259 : Cond.fieldLink "PointAnswers" 19 "PointAnswers" "costs" "LPointAnswers$Costs;" ∈ wT := tw 259 (by decide +kernel) rfl
theorem tw_260 : Cond.fieldLink "PointAnswers" 26 "PointAnswers" "pad" "LPointAnswers$Pad;" ∈ wT := tw 260 (by decide +kernel) rfl
theorem tw_261 : Cond.fieldLink "PointAnswers" 33 "PointAnswers" "reader" "LPointAnswers$Reader;" ∈ wT := tw 261 (by decide +kernel) rfl
theorem tw_262 : Cond.fieldLink "PointAnswers" 40 "PointAnswers" "history" "LPointAnswers$History;" ∈ wT := tw 262 (by decide +kernel) rfl
theorem tw_263 : Cond.fieldLink "PointAnswers" 44 "PointAnswers" "slots" "[LPointAnswers$Bundle;" ∈ wT := tw 263 (by decide +kernel) rfl
theorem tw_264 : Cond.fieldLink "PointAnswers" 245 "PointAnswers" "savedSlots" "I" ∈ wT := tw 264 (by decide +kernel) rfl
theorem tw_280 : Cond.methodLink "PointAnswersLaw" 13 ⟨"PointAnswers", "set", "(II)I"⟩ ∈ wT := tw 280 (by decide +kernel) rfl
theorem tw_281 : Cond.instanceMethod ⟨"PointAnswers", "set", "(II)I"⟩ ∈ wT := tw 281 (by decide +kernel) rfl
theorem tw_282 : Cond.selects "PointAnswers" ⟨"PointAnswers", "set", "(II)I"⟩ ⟨"PointAnswers", "set", "(II)I"⟩ ∈ wT := tw 282 (by decide +kernel) rfl
theorem tw_283 : Cond.code ⟨"PointAnswers", "set", "(II)I"⟩ prog_1_method_2_code 3 (some .int) ∈ wT := tw 283 (by decide +kernel) rfl
theorem tw_286 : Cond.instanceMethod ⟨"PointAnswers$History", "prepare", "(LPointAnswers$Bundle;)V"⟩ ∈ wT := tw 286 (by decide +kernel) rfl
theorem tw_287 : Cond.code ⟨"PointAnswers$History", "prepare", "(LPointAnswers$Bundle;)V"⟩ prog_4_method_3_code 3 none ∈ wT := tw 287 (by decide +kernel) rfl
theorem tw_288 : Cond.methodLink "PointAnswers$History" 22 ⟨"PointAnswers$History", "rowAt", "(I)LPointAnswers$Bundle;"⟩ ∈ wT := tw 288 (by decide +kernel) rfl
theorem tw_290 : Cond.instanceMethod ⟨"PointAnswers$History", "rowAt", "(I)LPointAnswers$Bundle;"⟩ ∈ wT := tw 290 (by decide +kernel) rfl
theorem tw_291 : Cond.code ⟨"PointAnswers$History", "rowAt", "(I)LPointAnswers$Bundle;"⟩ prog_4_method_2_code 2 (some (.object "PointAnswers$Bundle")) ∈ wT := tw 291 (by decide +kernel) rfl
theorem tw_294 : Cond.instanceMethod ⟨"PointAnswers$Bundle", "become", "(LPointAnswers$Bundle;)V"⟩ ∈ wT := tw 294 (by decide +kernel) rfl
theorem tw_295 : Cond.code ⟨"PointAnswers$Bundle", "become", "(LPointAnswers$Bundle;)V"⟩ prog_2_method_2_code 5 none ∈ wT := tw 295 (by decide +kernel) rfl
theorem tw_296 : Cond.methodLink "PointAnswers$Bundle" 34 ⟨"PointAnswers$Bundle", "find", "(I)LPointAnswers$Point;"⟩ ∈ wT := tw 296 (by decide +kernel) rfl
theorem tw_298 : Cond.instanceMethod ⟨"PointAnswers$Bundle", "find", "(I)LPointAnswers$Point;"⟩ ∈ wT := tw 298 (by decide +kernel) rfl
theorem tw_299 : Cond.code ⟨"PointAnswers$Bundle", "find", "(I)LPointAnswers$Point;"⟩ prog_2_method_3_code 2 (some (.object "PointAnswers$Point")) ∈ wT := tw 299 (by decide +kernel) rfl
theorem tw_302 : Cond.instanceMethod ⟨"PointAnswers$Point", "become", "(LPointAnswers$Point;)V"⟩ ∈ wT := tw 302 (by decide +kernel) rfl
theorem tw_303 : Cond.code ⟨"PointAnswers$Point", "become", "(LPointAnswers$Point;)V"⟩ prog_6_method_2_code 2 none ∈ wT := tw 303 (by decide +kernel) rfl
theorem tw_306 : Cond.instanceMethod ⟨"PointAnswers$Bundle", "adjust", "(II)I"⟩ ∈ wT := tw 306 (by decide +kernel) rfl
theorem tw_307 : Cond.code ⟨"PointAnswers$Bundle", "adjust", "(II)I"⟩ prog_2_method_5_code 4 (some .int) ∈ wT := tw 307 (by decide +kernel) rfl
theorem tw_310 : Cond.instanceMethod ⟨"PointAnswers$History", "settle", "(I)I"⟩ ∈ wT := tw 310 (by decide +kernel) rfl
theorem tw_311 : Cond.code ⟨"PointAnswers$History", "settle", "(I)I"⟩ prog_4_method_4_code 2 (some .int) ∈ wT := tw 311 (by decide +kernel) rfl
theorem tw_312 : Cond.methodLink "PointAnswers$History" 30 ⟨"PointAnswers$History", "dropOldest", "()V"⟩ ∈ wT := tw 312 (by decide +kernel) rfl
theorem tw_314 : Cond.instanceMethod ⟨"PointAnswers$History", "dropOldest", "()V"⟩ ∈ wT := tw 314 (by decide +kernel) rfl
theorem tw_315 : Cond.code ⟨"PointAnswers$History", "dropOldest", "()V"⟩ prog_4_method_5_code 3 none ∈ wT := tw 315 (by decide +kernel) rfl
theorem tw_316 : Cond.methodLink "PointAnswersLaw" 18 ⟨"PointAnswers", "claim", "(III)I"⟩ ∈ wT := tw 316 (by decide +kernel) rfl
theorem tw_317 : Cond.instanceMethod ⟨"PointAnswers", "claim", "(III)I"⟩ ∈ wT := tw 317 (by decide +kernel) rfl
theorem tw_318 : Cond.selects "PointAnswers" ⟨"PointAnswers", "claim", "(III)I"⟩ ⟨"PointAnswers", "claim", "(III)I"⟩ ∈ wT := tw 318 (by decide +kernel) rfl
theorem tw_319 : Cond.code ⟨"PointAnswers", "claim", "(III)I"⟩ prog_1_method_3_code 4 (some .int) ∈ wT := tw 319 (by decide +kernel) rfl
theorem tw_322 : Cond.instanceMethod ⟨"PointAnswers$Bundle", "fileClaim", "(III)I"⟩ ∈ wT := tw 322 (by decide +kernel) rfl
theorem tw_323 : Cond.code ⟨"PointAnswers$Bundle", "fileClaim", "(III)I"⟩ prog_2_method_6_code 4 (some .int) ∈ wT := tw 323 (by decide +kernel) rfl
theorem tw_324 : Cond.methodLink "PointAnswers$Bundle" 42 ⟨"PointAnswers$Bundle", "canBeFiled", "(II)Z"⟩ ∈ wT := tw 324 (by decide +kernel) rfl
theorem tw_325 : Cond.static ⟨"PointAnswers$Bundle", "canBeFiled", "(II)Z"⟩ ∈ wT := tw 325 (by decide +kernel) rfl
theorem tw_326 : Cond.code ⟨"PointAnswers$Bundle", "canBeFiled", "(II)Z"⟩ prog_2_method_8_code 2 (some .boolean) ∈ wT := tw 326 (by decide +kernel) rfl
theorem tw_327 : Cond.methodLink "PointAnswers$Bundle" 46 ⟨"PointAnswers$Bundle", "file", "(IIII)I"⟩ ∈ wT := tw 327 (by decide +kernel) rfl
theorem tw_329 : Cond.instanceMethod ⟨"PointAnswers$Bundle", "file", "(IIII)I"⟩ ∈ wT := tw 329 (by decide +kernel) rfl
theorem tw_330 : Cond.code ⟨"PointAnswers$Bundle", "file", "(IIII)I"⟩ prog_2_method_9_code 6 (some .int) ∈ wT := tw 330 (by decide +kernel) rfl
theorem tw_331 : Cond.methodLink "PointAnswers$Bundle" 50 ⟨"PointAnswers$Bundle", "freeRow", "()LPointAnswers$Point;"⟩ ∈ wT := tw 331 (by decide +kernel) rfl
theorem tw_333 : Cond.instanceMethod ⟨"PointAnswers$Bundle", "freeRow", "()LPointAnswers$Point;"⟩ ∈ wT := tw 333 (by decide +kernel) rfl
theorem tw_334 : Cond.code ⟨"PointAnswers$Bundle", "freeRow", "()LPointAnswers$Point;"⟩ prog_2_method_4_code 1 (some (.object "PointAnswers$Point")) ∈ wT := tw 334 (by decide +kernel) rfl
theorem tw_335 : Cond.methodLink "PointAnswersLaw" 23 ⟨"PointAnswers", "answer", "(III)I"⟩ ∈ wT := tw 335 (by decide +kernel) rfl
theorem tw_336 : Cond.instanceMethod ⟨"PointAnswers", "answer", "(III)I"⟩ ∈ wT := tw 336 (by decide +kernel) rfl
theorem tw_337 : Cond.selects "PointAnswers" ⟨"PointAnswers", "answer", "(III)I"⟩ ⟨"PointAnswers", "answer", "(III)I"⟩ ∈ wT := tw 337 (by decide +kernel) rfl
theorem tw_338 : Cond.code ⟨"PointAnswers", "answer", "(III)I"⟩ prog_1_method_4_code 4 (some .int) ∈ wT := tw 338 (by decide +kernel) rfl
theorem tw_341 : Cond.instanceMethod ⟨"PointAnswers$Bundle", "fileAnswer", "(III)I"⟩ ∈ wT := tw 341 (by decide +kernel) rfl
theorem tw_342 : Cond.code ⟨"PointAnswers$Bundle", "fileAnswer", "(III)I"⟩ prog_2_method_7_code 5 (some .int) ∈ wT := tw 342 (by decide +kernel) rfl
theorem tw_343 : Cond.methodLink "PointAnswersLaw" 27 ⟨"PointAnswers", "withdraw", "(I)I"⟩ ∈ wT := tw 343 (by decide +kernel) rfl
theorem tw_344 : Cond.instanceMethod ⟨"PointAnswers", "withdraw", "(I)I"⟩ ∈ wT := tw 344 (by decide +kernel) rfl
theorem tw_345 : Cond.selects "PointAnswers" ⟨"PointAnswers", "withdraw", "(I)I"⟩ ⟨"PointAnswers", "withdraw", "(I)I"⟩ ∈ wT := tw 345 (by decide +kernel) rfl
theorem tw_346 : Cond.code ⟨"PointAnswers", "withdraw", "(I)I"⟩ prog_1_method_5_code 2 (some .int) ∈ wT := tw 346 (by decide +kernel) rfl
theorem tw_349 : Cond.instanceMethod ⟨"PointAnswers$Bundle", "takeBack", "(I)I"⟩ ∈ wT := tw 349 (by decide +kernel) rfl
theorem tw_350 : Cond.code ⟨"PointAnswers$Bundle", "takeBack", "(I)I"⟩ prog_2_method_10_code 3 (some .int) ∈ wT := tw 350 (by decide +kernel) rfl
theorem tw_351 : Cond.methodLink "PointAnswers$Bundle" 76 ⟨"PointAnswers$Bundle", "standing", "()I"⟩ ∈ wT := tw 351 (by decide +kernel) rfl
theorem tw_353 : Cond.instanceMethod ⟨"PointAnswers$Bundle", "standing", "()I"⟩ ∈ wT := tw 353 (by decide +kernel) rfl
theorem tw_354 : Cond.code ⟨"PointAnswers$Bundle", "standing", "()I"⟩ prog_2_method_25_code 1 (some .int) ∈ wT := tw 354 (by decide +kernel) rfl
theorem tw_355 : Cond.methodLink "PointAnswers$Bundle" 109 ⟨"PointAnswers$Bundle", "out", "()I"⟩ ∈ wT := tw 355 (by decide +kernel) rfl
theorem tw_357 : Cond.instanceMethod ⟨"PointAnswers$Bundle", "out", "()I"⟩ ∈ wT := tw 357 (by decide +kernel) rfl
theorem tw_358 : Cond.code ⟨"PointAnswers$Bundle", "out", "()I"⟩ prog_2_method_24_code 1 (some .int) ∈ wT := tw 358 (by decide +kernel) rfl
theorem tw_359 : Cond.methodLink "PointAnswers$Bundle" 98 ⟨"PointAnswers$Bundle", "withdrawn", "()I"⟩ ∈ wT := tw 359 (by decide +kernel) rfl
theorem tw_361 : Cond.instanceMethod ⟨"PointAnswers$Bundle", "withdrawn", "()I"⟩ ∈ wT := tw 361 (by decide +kernel) rfl
theorem tw_362 : Cond.code ⟨"PointAnswers$Bundle", "withdrawn", "()I"⟩ prog_2_method_20_code 4 (some .int) ∈ wT := tw 362 (by decide +kernel) rfl
theorem tw_363 : Cond.methodLink "PointAnswers$Bundle" 100 ⟨"PointAnswers$Bundle", "struck", "()I"⟩ ∈ wT := tw 363 (by decide +kernel) rfl
theorem tw_365 : Cond.instanceMethod ⟨"PointAnswers$Bundle", "struck", "()I"⟩ ∈ wT := tw 365 (by decide +kernel) rfl
theorem tw_366 : Cond.code ⟨"PointAnswers$Bundle", "struck", "()I"⟩ prog_2_method_21_code 6 (some .int) ∈ wT := tw 366 (by decide +kernel) rfl
theorem tw_367 : Cond.methodLink "PointAnswers$Bundle" 103 ⟨"PointAnswers$Bundle", "lapsedOn", "(I)I"⟩ ∈ wT := tw 367 (by decide +kernel) rfl
theorem tw_369 : Cond.instanceMethod ⟨"PointAnswers$Bundle", "lapsedOn", "(I)I"⟩ ∈ wT := tw 369 (by decide +kernel) rfl
theorem tw_370 : Cond.code ⟨"PointAnswers$Bundle", "lapsedOn", "(I)I"⟩ prog_2_method_22_code 5 (some .int) ∈ wT := tw 370 (by decide +kernel) rfl
theorem tw_371 : Cond.methodLink "PointAnswers$Bundle" 106 ⟨"PointAnswers$Bundle", "baseless", "()I"⟩ ∈ wT := tw 371 (by decide +kernel) rfl
theorem tw_373 : Cond.instanceMethod ⟨"PointAnswers$Bundle", "baseless", "()I"⟩ ∈ wT := tw 373 (by decide +kernel) rfl
theorem tw_374 : Cond.code ⟨"PointAnswers$Bundle", "baseless", "()I"⟩ prog_2_method_23_code 4 (some .int) ∈ wT := tw 374 (by decide +kernel) rfl
theorem tw_375 : Cond.methodLink "PointAnswers$Bundle" 112 ⟨"PointAnswers$Bundle", "standingIf", "(II)I"⟩ ∈ wT := tw 375 (by decide +kernel) rfl
theorem tw_377 : Cond.instanceMethod ⟨"PointAnswers$Bundle", "standingIf", "(II)I"⟩ ∈ wT := tw 377 (by decide +kernel) rfl
theorem tw_378 : Cond.code ⟨"PointAnswers$Bundle", "standingIf", "(II)I"⟩ prog_2_method_27_code 6 (some .int) ∈ wT := tw 378 (by decide +kernel) rfl
theorem tw_380 : Cond.static ⟨"PointAnswers", "has", "(II)Z"⟩ ∈ wT := tw 380 (by decide +kernel) rfl
theorem tw_381 : Cond.code ⟨"PointAnswers", "has", "(II)Z"⟩ prog_1_method_27_code 2 (some .boolean) ∈ wT := tw 381 (by decide +kernel) rfl
theorem tw_382 : Cond.methodLink "PointAnswers$Bundle" 95 ⟨"PointAnswers$Bundle", "targetOf", "(I)I"⟩ ∈ wT := tw 382 (by decide +kernel) rfl
theorem tw_384 : Cond.instanceMethod ⟨"PointAnswers$Bundle", "targetOf", "(I)I"⟩ ∈ wT := tw 384 (by decide +kernel) rfl
theorem tw_385 : Cond.code ⟨"PointAnswers$Bundle", "targetOf", "(I)I"⟩ prog_2_method_18_code 3 (some .int) ∈ wT := tw 385 (by decide +kernel) rfl
theorem tw_386 : Cond.methodLink "PointAnswers$Bundle" 80 ⟨"java/lang/Integer", "bitCount", "(I)I"⟩ ∈ wT := tw 386 (by decide +kernel) rfl
theorem tw_387 : Cond.static ⟨"java/lang/Integer", "bitCount", "(I)I"⟩ ∈ wT := tw 387 (by decide +kernel) rfl
theorem tw_388 : Cond.code ⟨"java/lang/Integer", "bitCount", "(I)I"⟩ prog_10_method_49_code 1 (some .int) ∈ wT := tw 388 (by decide +kernel) rfl
theorem tw_389 : Cond.constant "java/lang/Integer" 265 (1431655765) ∈ wT := tw 389 (by decide +kernel) rfl
theorem tw_390 : Cond.constant "java/lang/Integer" 266 (858993459) ∈ wT := tw 390 (by decide +kernel) rfl
theorem tw_391 : Cond.constant "java/lang/Integer" 267 (252645135) ∈ wT := tw 391 (by decide +kernel) rfl
theorem tw_392 : Cond.methodLink "PointAnswersLaw" 32 ⟨"PointAnswers", "renew", "(I)I"⟩ ∈ wT := tw 392 (by decide +kernel) rfl
theorem tw_393 : Cond.instanceMethod ⟨"PointAnswers", "renew", "(I)I"⟩ ∈ wT := tw 393 (by decide +kernel) rfl
theorem tw_394 : Cond.selects "PointAnswers" ⟨"PointAnswers", "renew", "(I)I"⟩ ⟨"PointAnswers", "renew", "(I)I"⟩ ∈ wT := tw 394 (by decide +kernel) rfl
theorem tw_395 : Cond.code ⟨"PointAnswers", "renew", "(I)I"⟩ prog_1_method_6_code 2 (some .int) ∈ wT := tw 395 (by decide +kernel) rfl
theorem tw_398 : Cond.instanceMethod ⟨"PointAnswers$Bundle", "prolong", "(I)I"⟩ ∈ wT := tw 398 (by decide +kernel) rfl
theorem tw_399 : Cond.code ⟨"PointAnswers$Bundle", "prolong", "(I)I"⟩ prog_2_method_11_code 4 (some .int) ∈ wT := tw 399 (by decide +kernel) rfl
theorem tw_400 : Cond.methodLink "PointAnswersLaw" 36 ⟨"PointAnswers", "overrule", "(I)I"⟩ ∈ wT := tw 400 (by decide +kernel) rfl
theorem tw_401 : Cond.instanceMethod ⟨"PointAnswers", "overrule", "(I)I"⟩ ∈ wT := tw 401 (by decide +kernel) rfl
theorem tw_402 : Cond.selects "PointAnswers" ⟨"PointAnswers", "overrule", "(I)I"⟩ ⟨"PointAnswers", "overrule", "(I)I"⟩ ∈ wT := tw 402 (by decide +kernel) rfl
theorem tw_403 : Cond.code ⟨"PointAnswers", "overrule", "(I)I"⟩ prog_1_method_7_code 2 (some .int) ∈ wT := tw 403 (by decide +kernel) rfl
theorem tw_406 : Cond.instanceMethod ⟨"PointAnswers$Bundle", "turnCase", "(I)I"⟩ ∈ wT := tw 406 (by decide +kernel) rfl
theorem tw_407 : Cond.code ⟨"PointAnswers$Bundle", "turnCase", "(I)I"⟩ prog_2_method_12_code 2 (some .int) ∈ wT := tw 407 (by decide +kernel) rfl
theorem tw_408 : Cond.methodLink "PointAnswersLaw" 40 ⟨"PointAnswers", "pass", "(I)I"⟩ ∈ wT := tw 408 (by decide +kernel) rfl
theorem tw_409 : Cond.instanceMethod ⟨"PointAnswers", "pass", "(I)I"⟩ ∈ wT := tw 409 (by decide +kernel) rfl
theorem tw_410 : Cond.selects "PointAnswers" ⟨"PointAnswers", "pass", "(I)I"⟩ ⟨"PointAnswers", "pass", "(I)I"⟩ ∈ wT := tw 410 (by decide +kernel) rfl
theorem tw_411 : Cond.code ⟨"PointAnswers", "pass", "(I)I"⟩ prog_1_method_8_code 2 (some .int) ∈ wT := tw 411 (by decide +kernel) rfl
theorem tw_414 : Cond.instanceMethod ⟨"PointAnswers$Bundle", "moveOn", "(I)I"⟩ ∈ wT := tw 414 (by decide +kernel) rfl
theorem tw_415 : Cond.code ⟨"PointAnswers$Bundle", "moveOn", "(I)I"⟩ prog_2_method_13_code 2 (some .int) ∈ wT := tw 415 (by decide +kernel) rfl
theorem tw_416 : Cond.methodLink "PointAnswersLaw" 44 ⟨"PointAnswers", "of", "(II)I"⟩ ∈ wT := tw 416 (by decide +kernel) rfl
theorem tw_417 : Cond.instanceMethod ⟨"PointAnswers", "of", "(II)I"⟩ ∈ wT := tw 417 (by decide +kernel) rfl
theorem tw_418 : Cond.selects "PointAnswers" ⟨"PointAnswers", "of", "(II)I"⟩ ⟨"PointAnswers", "of", "(II)I"⟩ ∈ wT := tw 418 (by decide +kernel) rfl
theorem tw_419 : Cond.code ⟨"PointAnswers", "of", "(II)I"⟩ prog_1_method_9_code 4 (some .int) ∈ wT := tw 419 (by decide +kernel) rfl
theorem tw_422 : Cond.methodLink "PointAnswers" 105 ⟨"PointAnswers", "has", "(II)Z"⟩ ∈ wT := tw 422 (by decide +kernel) rfl
theorem tw_425 : Cond.instanceMethod ⟨"PointAnswers$Bundle", "reasonAgainst", "(I)I"⟩ ∈ wT := tw 425 (by decide +kernel) rfl
theorem tw_426 : Cond.code ⟨"PointAnswers$Bundle", "reasonAgainst", "(I)I"⟩ prog_2_method_28_code 2 (some .int) ∈ wT := tw 426 (by decide +kernel) rfl
theorem tw_429 : Cond.instanceMethod ⟨"PointAnswers$Bundle", "answersTo", "(I)I"⟩ ∈ wT := tw 429 (by decide +kernel) rfl
theorem tw_430 : Cond.code ⟨"PointAnswers$Bundle", "answersTo", "(I)I"⟩ prog_2_method_16_code 5 (some .int) ∈ wT := tw 430 (by decide +kernel) rfl
theorem tw_431 : Cond.methodLink "PointAnswers" 115 ⟨"PointAnswers", "lowestOf", "(I)I"⟩ ∈ wT := tw 431 (by decide +kernel) rfl
theorem tw_432 : Cond.static ⟨"PointAnswers", "lowestOf", "(I)I"⟩ ∈ wT := tw 432 (by decide +kernel) rfl
theorem tw_433 : Cond.code ⟨"PointAnswers", "lowestOf", "(I)I"⟩ prog_1_method_28_code 2 (some .int) ∈ wT := tw 433 (by decide +kernel) rfl
theorem tw_436 : Cond.instanceMethod ⟨"PointAnswers$Bundle", "depthOf", "(I)I"⟩ ∈ wT := tw 436 (by decide +kernel) rfl
theorem tw_437 : Cond.code ⟨"PointAnswers$Bundle", "depthOf", "(I)I"⟩ prog_2_method_29_code 4 (some .int) ∈ wT := tw 437 (by decide +kernel) rfl
theorem tw_440 : Cond.instanceMethod ⟨"PointAnswers$Bundle", "daysLeft", "(LPointAnswers$Point;)I"⟩ ∈ wT := tw 440 (by decide +kernel) rfl
theorem tw_441 : Cond.code ⟨"PointAnswers$Bundle", "daysLeft", "(LPointAnswers$Point;)I"⟩ prog_2_method_30_code 3 (some .int) ∈ wT := tw 441 (by decide +kernel) rfl
theorem tw_442 : Cond.methodLink "PointAnswersLaw" 48 ⟨"PointAnswers", "count", "(I)I"⟩ ∈ wT := tw 442 (by decide +kernel) rfl
theorem tw_443 : Cond.instanceMethod ⟨"PointAnswers", "count", "(I)I"⟩ ∈ wT := tw 443 (by decide +kernel) rfl
theorem tw_444 : Cond.selects "PointAnswers" ⟨"PointAnswers", "count", "(I)I"⟩ ⟨"PointAnswers", "count", "(I)I"⟩ ∈ wT := tw 444 (by decide +kernel) rfl
theorem tw_445 : Cond.code ⟨"PointAnswers", "count", "(I)I"⟩ prog_1_method_10_code 2 (some .int) ∈ wT := tw 445 (by decide +kernel) rfl
theorem tw_448 : Cond.instanceMethod ⟨"PointAnswers$Bundle", "claims", "()I"⟩ ∈ wT := tw 448 (by decide +kernel) rfl
theorem tw_449 : Cond.code ⟨"PointAnswers$Bundle", "claims", "()I"⟩ prog_2_method_15_code 1 (some .int) ∈ wT := tw 449 (by decide +kernel) rfl
theorem tw_450 : Cond.methodLink "PointAnswers$Bundle" 89 ⟨"PointAnswers$Bundle", "answersTo", "(I)I"⟩ ∈ wT := tw 450 (by decide +kernel) rfl
theorem tw_451 : Cond.methodLink "PointAnswers" 134 ⟨"java/lang/Integer", "bitCount", "(I)I"⟩ ∈ wT := tw 451 (by decide +kernel) rfl
theorem tw_455 : Cond.instanceMethod ⟨"PointAnswers$Bundle", "answered", "()I"⟩ ∈ wT := tw 455 (by decide +kernel) rfl
theorem tw_456 : Cond.code ⟨"PointAnswers$Bundle", "answered", "()I"⟩ prog_2_method_26_code 1 (some .int) ∈ wT := tw 456 (by decide +kernel) rfl
theorem tw_457 : Cond.methodLink "PointAnswers$Bundle" 92 ⟨"PointAnswers$Bundle", "all", "()I"⟩ ∈ wT := tw 457 (by decide +kernel) rfl
theorem tw_459 : Cond.instanceMethod ⟨"PointAnswers$Bundle", "all", "()I"⟩ ∈ wT := tw 459 (by decide +kernel) rfl
theorem tw_460 : Cond.code ⟨"PointAnswers$Bundle", "all", "()I"⟩ prog_2_method_14_code 1 (some .int) ∈ wT := tw 460 (by decide +kernel) rfl
theorem tw_465 : Cond.instanceMethod ⟨"PointAnswers$Bundle", "pagesOf", "(II)I"⟩ ∈ wT := tw 465 (by decide +kernel) rfl
theorem tw_466 : Cond.code ⟨"PointAnswers$Bundle", "pagesOf", "(II)I"⟩ prog_2_method_31_code 6 (some .int) ∈ wT := tw 466 (by decide +kernel) rfl
theorem tw_467 : Cond.methodLink "PointAnswersLaw" 52 ⟨"PointAnswers", "points", "(I)I"⟩ ∈ wT := tw 467 (by decide +kernel) rfl
theorem tw_468 : Cond.instanceMethod ⟨"PointAnswers", "points", "(I)I"⟩ ∈ wT := tw 468 (by decide +kernel) rfl
theorem tw_469 : Cond.selects "PointAnswers" ⟨"PointAnswers", "points", "(I)I"⟩ ⟨"PointAnswers", "points", "(I)I"⟩ ∈ wT := tw 469 (by decide +kernel) rfl
theorem tw_470 : Cond.code ⟨"PointAnswers", "points", "(I)I"⟩ prog_1_method_11_code 2 (some .int) ∈ wT := tw 470 (by decide +kernel) rfl
theorem tw_473 : Cond.instanceMethod ⟨"PointAnswers$Bundle", "ofSide", "(I)I"⟩ ∈ wT := tw 473 (by decide +kernel) rfl
theorem tw_474 : Cond.code ⟨"PointAnswers$Bundle", "ofSide", "(I)I"⟩ prog_2_method_19_code 5 (some .int) ∈ wT := tw 474 (by decide +kernel) rfl
theorem tw_475 : Cond.methodLink "PointAnswersLaw" 56 ⟨"PointAnswers", "share", "(I)I"⟩ ∈ wT := tw 475 (by decide +kernel) rfl
theorem tw_476 : Cond.instanceMethod ⟨"PointAnswers", "share", "(I)I"⟩ ∈ wT := tw 476 (by decide +kernel) rfl
theorem tw_477 : Cond.selects "PointAnswers" ⟨"PointAnswers", "share", "(I)I"⟩ ⟨"PointAnswers", "share", "(I)I"⟩ ∈ wT := tw 477 (by decide +kernel) rfl
theorem tw_478 : Cond.code ⟨"PointAnswers", "share", "(I)I"⟩ prog_1_method_12_code 3 (some .int) ∈ wT := tw 478 (by decide +kernel) rfl
theorem tw_479 : Cond.methodLink "PointAnswers" 172 ⟨"PointAnswers", "floatBits", "(II)I"⟩ ∈ wT := tw 479 (by decide +kernel) rfl
theorem tw_480 : Cond.static ⟨"PointAnswers", "floatBits", "(II)I"⟩ ∈ wT := tw 480 (by decide +kernel) rfl
theorem tw_481 : Cond.code ⟨"PointAnswers", "floatBits", "(II)I"⟩ prog_1_method_29_code 9 (some .int) ∈ wT := tw 481 (by decide +kernel) rfl
theorem tw_482 : Cond.constantLong "PointAnswers" 257 (2) ∈ wT := tw 482 (by decide +kernel) rfl
theorem tw_483 : Cond.constantLong "PointAnswers" 259 (8388608) ∈ wT := tw 483 (by decide +kernel) rfl
theorem tw_484 : Cond.methodLink "PointAnswersLaw" 60 ⟨"PointAnswers", "toFall", "(I)I"⟩ ∈ wT := tw 484 (by decide +kernel) rfl
theorem tw_485 : Cond.instanceMethod ⟨"PointAnswers", "toFall", "(I)I"⟩ ∈ wT := tw 485 (by decide +kernel) rfl
theorem tw_486 : Cond.selects "PointAnswers" ⟨"PointAnswers", "toFall", "(I)I"⟩ ⟨"PointAnswers", "toFall", "(I)I"⟩ ∈ wT := tw 486 (by decide +kernel) rfl
theorem tw_487 : Cond.code ⟨"PointAnswers", "toFall", "(I)I"⟩ prog_1_method_13_code 2 (some .int) ∈ wT := tw 487 (by decide +kernel) rfl
theorem tw_490 : Cond.instanceMethod ⟨"PointAnswers$Costs", "weigh", "(LPointAnswers$Bundle;)V"⟩ ∈ wT := tw 490 (by decide +kernel) rfl
theorem tw_491 : Cond.code ⟨"PointAnswers$Costs", "weigh", "(LPointAnswers$Bundle;)V"⟩ prog_3_method_2_code 6 none ∈ wT := tw 491 (by decide +kernel) rfl
theorem tw_495 : Cond.instanceMethod ⟨"PointAnswers$Bundle", "withoutAnswers", "()I"⟩ ∈ wT := tw 495 (by decide +kernel) rfl
theorem tw_496 : Cond.code ⟨"PointAnswers$Bundle", "withoutAnswers", "()I"⟩ prog_2_method_17_code 3 (some .int) ∈ wT := tw 496 (by decide +kernel) rfl
theorem tw_499 : Cond.methodLink "PointAnswers$Costs" 41 ⟨"PointAnswers$Costs", "addToTarget", "(III)V"⟩ ∈ wT := tw 499 (by decide +kernel) rfl
theorem tw_501 : Cond.instanceMethod ⟨"PointAnswers$Costs", "addToTarget", "(III)V"⟩ ∈ wT := tw 501 (by decide +kernel) rfl
theorem tw_502 : Cond.code ⟨"PointAnswers$Costs", "addToTarget", "(III)V"⟩ prog_3_method_3_code 4 none ∈ wT := tw 502 (by decide +kernel) rfl
theorem tw_503 : Cond.methodLink "PointAnswers$Costs" 45 ⟨"java/lang/Math", "min", "(II)I"⟩ ∈ wT := tw 503 (by decide +kernel) rfl
theorem tw_504 : Cond.static ⟨"java/lang/Math", "min", "(II)I"⟩ ∈ wT := tw 504 (by decide +kernel) rfl
theorem tw_505 : Cond.code ⟨"java/lang/Math", "min", "(II)I"⟩ prog_11_method_69_code 2 (some .int) ∈ wT := tw 505 (by decide +kernel) rfl
theorem tw_508 : Cond.instanceMethod ⟨"PointAnswers$Costs", "answersToFall", "(I)I"⟩ ∈ wT := tw 508 (by decide +kernel) rfl
theorem tw_509 : Cond.code ⟨"PointAnswers$Costs", "answersToFall", "(I)I"⟩ prog_3_method_4_code 2 (some .int) ∈ wT := tw 509 (by decide +kernel) rfl
theorem tw_510 : Cond.methodLink "PointAnswers$Costs" 51 ⟨"PointAnswers$Costs", "reachable", "(I)I"⟩ ∈ wT := tw 510 (by decide +kernel) rfl
theorem tw_511 : Cond.static ⟨"PointAnswers$Costs", "reachable", "(I)I"⟩ ∈ wT := tw 511 (by decide +kernel) rfl
theorem tw_512 : Cond.code ⟨"PointAnswers$Costs", "reachable", "(I)I"⟩ prog_3_method_6_code 1 (some .int) ∈ wT := tw 512 (by decide +kernel) rfl
theorem tw_513 : Cond.methodLink "PointAnswersLaw" 64 ⟨"PointAnswers", "toStand", "(I)I"⟩ ∈ wT := tw 513 (by decide +kernel) rfl
theorem tw_514 : Cond.instanceMethod ⟨"PointAnswers", "toStand", "(I)I"⟩ ∈ wT := tw 514 (by decide +kernel) rfl
theorem tw_515 : Cond.selects "PointAnswers" ⟨"PointAnswers", "toStand", "(I)I"⟩ ⟨"PointAnswers", "toStand", "(I)I"⟩ ∈ wT := tw 515 (by decide +kernel) rfl
theorem tw_516 : Cond.code ⟨"PointAnswers", "toStand", "(I)I"⟩ prog_1_method_14_code 2 (some .int) ∈ wT := tw 516 (by decide +kernel) rfl
theorem tw_519 : Cond.instanceMethod ⟨"PointAnswers$Costs", "answersToStand", "(I)I"⟩ ∈ wT := tw 519 (by decide +kernel) rfl
theorem tw_520 : Cond.code ⟨"PointAnswers$Costs", "answersToStand", "(I)I"⟩ prog_3_method_5_code 2 (some .int) ∈ wT := tw 520 (by decide +kernel) rfl
theorem tw_521 : Cond.methodLink "PointAnswersLaw" 68 ⟨"PointAnswers", "bestAnswer", "(I)I"⟩ ∈ wT := tw 521 (by decide +kernel) rfl
theorem tw_522 : Cond.instanceMethod ⟨"PointAnswers", "bestAnswer", "(I)I"⟩ ∈ wT := tw 522 (by decide +kernel) rfl
theorem tw_523 : Cond.selects "PointAnswers" ⟨"PointAnswers", "bestAnswer", "(I)I"⟩ ⟨"PointAnswers", "bestAnswer", "(I)I"⟩ ∈ wT := tw 523 (by decide +kernel) rfl
theorem tw_524 : Cond.code ⟨"PointAnswers", "bestAnswer", "(I)I"⟩ prog_1_method_15_code 9 (some .int) ∈ wT := tw 524 (by decide +kernel) rfl
theorem tw_527 : Cond.methodLink "PointAnswersLaw" 72 ⟨"PointAnswers", "changesIn", "()I"⟩ ∈ wT := tw 527 (by decide +kernel) rfl
theorem tw_528 : Cond.instanceMethod ⟨"PointAnswers", "changesIn", "()I"⟩ ∈ wT := tw 528 (by decide +kernel) rfl
theorem tw_529 : Cond.selects "PointAnswers" ⟨"PointAnswers", "changesIn", "()I"⟩ ⟨"PointAnswers", "changesIn", "()I"⟩ ∈ wT := tw 529 (by decide +kernel) rfl
theorem tw_530 : Cond.code ⟨"PointAnswers", "changesIn", "()I"⟩ prog_1_method_16_code 4 (some .int) ∈ wT := tw 530 (by decide +kernel) rfl
theorem tw_533 : Cond.methodLink "PointAnswersLaw" 77 ⟨"PointAnswers", "leastPages", "()I"⟩ ∈ wT := tw 533 (by decide +kernel) rfl
theorem tw_534 : Cond.instanceMethod ⟨"PointAnswers", "leastPages", "()I"⟩ ∈ wT := tw 534 (by decide +kernel) rfl
theorem tw_535 : Cond.selects "PointAnswers" ⟨"PointAnswers", "leastPages", "()I"⟩ ⟨"PointAnswers", "leastPages", "()I"⟩ ∈ wT := tw 535 (by decide +kernel) rfl
theorem tw_536 : Cond.code ⟨"PointAnswers", "leastPages", "()I"⟩ prog_1_method_17_code 3 (some .int) ∈ wT := tw 536 (by decide +kernel) rfl
theorem tw_537 : Cond.methodLink "PointAnswers" 196 ⟨"java/lang/Math", "max", "(II)I"⟩ ∈ wT := tw 537 (by decide +kernel) rfl
theorem tw_538 : Cond.static ⟨"java/lang/Math", "max", "(II)I"⟩ ∈ wT := tw 538 (by decide +kernel) rfl
theorem tw_539 : Cond.code ⟨"java/lang/Math", "max", "(II)I"⟩ prog_11_method_65_code 2 (some .int) ∈ wT := tw 539 (by decide +kernel) rfl
theorem tw_540 : Cond.methodLink "PointAnswersLaw" 83 ⟨"PointAnswers", "put", "(J)I"⟩ ∈ wT := tw 540 (by decide +kernel) rfl
theorem tw_541 : Cond.instanceMethod ⟨"PointAnswers", "put", "(J)I"⟩ ∈ wT := tw 541 (by decide +kernel) rfl
theorem tw_542 : Cond.selects "PointAnswers" ⟨"PointAnswers", "put", "(J)I"⟩ ⟨"PointAnswers", "put", "(J)I"⟩ ∈ wT := tw 542 (by decide +kernel) rfl
theorem tw_543 : Cond.code ⟨"PointAnswers", "put", "(J)I"⟩ prog_1_method_18_code 5 (some .int) ∈ wT := tw 543 (by decide +kernel) rfl
theorem tw_545 : Cond.static ⟨"PointAnswers$Pad", "signsIn", "(J)I"⟩ ∈ wT := tw 545 (by decide +kernel) rfl
theorem tw_546 : Cond.code ⟨"PointAnswers$Pad", "signsIn", "(J)I"⟩ prog_5_method_3_code 4 (some .int) ∈ wT := tw 546 (by decide +kernel) rfl
theorem tw_547 : Cond.methodLink "PointAnswers$Pad" 19 ⟨"PointAnswers$Pad", "signOf", "(JI)C"⟩ ∈ wT := tw 547 (by decide +kernel) rfl
theorem tw_548 : Cond.static ⟨"PointAnswers$Pad", "signOf", "(JI)C"⟩ ∈ wT := tw 548 (by decide +kernel) rfl
theorem tw_549 : Cond.code ⟨"PointAnswers$Pad", "signOf", "(JI)C"⟩ prog_5_method_4_code 3 (some .char) ∈ wT := tw 549 (by decide +kernel) rfl
theorem tw_550 : Cond.constantLong "PointAnswers$Pad" 23 (255) ∈ wT := tw 550 (by decide +kernel) rfl
theorem tw_554 : Cond.instanceMethod ⟨"PointAnswers$Pad", "append", "(C)V"⟩ ∈ wT := tw 554 (by decide +kernel) rfl
theorem tw_555 : Cond.code ⟨"PointAnswers$Pad", "append", "(C)V"⟩ prog_5_method_5_code 2 none ∈ wT := tw 555 (by decide +kernel) rfl
theorem tw_556 : Cond.methodLink "PointAnswersLaw" 88 ⟨"PointAnswers", "wipe", "()I"⟩ ∈ wT := tw 556 (by decide +kernel) rfl
theorem tw_557 : Cond.instanceMethod ⟨"PointAnswers", "wipe", "()I"⟩ ∈ wT := tw 557 (by decide +kernel) rfl
theorem tw_558 : Cond.selects "PointAnswers" ⟨"PointAnswers", "wipe", "()I"⟩ ⟨"PointAnswers", "wipe", "()I"⟩ ∈ wT := tw 558 (by decide +kernel) rfl
theorem tw_559 : Cond.code ⟨"PointAnswers", "wipe", "()I"⟩ prog_1_method_19_code 1 (some .int) ∈ wT := tw 559 (by decide +kernel) rfl
theorem tw_562 : Cond.instanceMethod ⟨"PointAnswers$Pad", "empty", "()I"⟩ ∈ wT := tw 562 (by decide +kernel) rfl
theorem tw_563 : Cond.code ⟨"PointAnswers$Pad", "empty", "()I"⟩ prog_5_method_2_code 2 (some .int) ∈ wT := tw 563 (by decide +kernel) rfl
theorem tw_564 : Cond.methodLink "PointAnswersLaw" 92 ⟨"PointAnswers", "fault", "()I"⟩ ∈ wT := tw 564 (by decide +kernel) rfl
theorem tw_565 : Cond.instanceMethod ⟨"PointAnswers", "fault", "()I"⟩ ∈ wT := tw 565 (by decide +kernel) rfl
theorem tw_566 : Cond.selects "PointAnswers" ⟨"PointAnswers", "fault", "()I"⟩ ⟨"PointAnswers", "fault", "()I"⟩ ∈ wT := tw 566 (by decide +kernel) rfl
theorem tw_567 : Cond.code ⟨"PointAnswers", "fault", "()I"⟩ prog_1_method_20_code 1 (some .int) ∈ wT := tw 567 (by decide +kernel) rfl
theorem tw_570 : Cond.instanceMethod ⟨"PointAnswers$Reader", "firstFault", "(LPointAnswers$Pad;)I"⟩ ∈ wT := tw 570 (by decide +kernel) rfl
theorem tw_571 : Cond.code ⟨"PointAnswers$Reader", "firstFault", "(LPointAnswers$Pad;)I"⟩ prog_7_method_3_code 3 (some .int) ∈ wT := tw 571 (by decide +kernel) rfl
theorem tw_572 : Cond.methodLink "PointAnswers$Reader" 15 ⟨"PointAnswers$Reader", "rewind", "()V"⟩ ∈ wT := tw 572 (by decide +kernel) rfl
theorem tw_574 : Cond.instanceMethod ⟨"PointAnswers$Reader", "rewind", "()V"⟩ ∈ wT := tw 574 (by decide +kernel) rfl
theorem tw_575 : Cond.code ⟨"PointAnswers$Reader", "rewind", "()V"⟩ prog_7_method_2_code 1 none ∈ wT := tw 575 (by decide +kernel) rfl
theorem tw_576 : Cond.methodLink "PointAnswers$Reader" 18 ⟨"PointAnswers$Reader", "readOrder", "(LPointAnswers$Pad;)Z"⟩ ∈ wT := tw 576 (by decide +kernel) rfl
theorem tw_578 : Cond.instanceMethod ⟨"PointAnswers$Reader", "readOrder", "(LPointAnswers$Pad;)Z"⟩ ∈ wT := tw 578 (by decide +kernel) rfl
theorem tw_579 : Cond.code ⟨"PointAnswers$Reader", "readOrder", "(LPointAnswers$Pad;)Z"⟩ prog_7_method_4_code 2 (some .boolean) ∈ wT := tw 579 (by decide +kernel) rfl
theorem tw_582 : Cond.instanceMethod ⟨"PointAnswers$Pad", "signAt", "(I)C"⟩ ∈ wT := tw 582 (by decide +kernel) rfl
theorem tw_583 : Cond.code ⟨"PointAnswers$Pad", "signAt", "(I)C"⟩ prog_5_method_6_code 2 (some .char) ∈ wT := tw 583 (by decide +kernel) rfl
theorem tw_584 : Cond.methodLink "PointAnswers$Reader" 39 ⟨"PointAnswers$Reader", "readDigit", "(LPointAnswers$Pad;CC)Z"⟩ ∈ wT := tw 584 (by decide +kernel) rfl
theorem tw_586 : Cond.instanceMethod ⟨"PointAnswers$Reader", "readDigit", "(LPointAnswers$Pad;CC)Z"⟩ ∈ wT := tw 586 (by decide +kernel) rfl
theorem tw_587 : Cond.code ⟨"PointAnswers$Reader", "readDigit", "(LPointAnswers$Pad;CC)Z"⟩ prog_7_method_7_code 4 (some .boolean) ∈ wT := tw 587 (by decide +kernel) rfl
theorem tw_588 : Cond.methodLink "PointAnswers$Reader" 52 ⟨"PointAnswers$Reader", "takeDigit", "(LPointAnswers$Pad;CC)Z"⟩ ∈ wT := tw 588 (by decide +kernel) rfl
theorem tw_590 : Cond.instanceMethod ⟨"PointAnswers$Reader", "takeDigit", "(LPointAnswers$Pad;CC)Z"⟩ ∈ wT := tw 590 (by decide +kernel) rfl
theorem tw_591 : Cond.code ⟨"PointAnswers$Reader", "takeDigit", "(LPointAnswers$Pad;CC)Z"⟩ prog_7_method_6_code 5 (some .boolean) ∈ wT := tw 591 (by decide +kernel) rfl
theorem tw_592 : Cond.methodLink "PointAnswers$Reader" 43 ⟨"PointAnswers$Reader", "readPaper", "(LPointAnswers$Pad;)Z"⟩ ∈ wT := tw 592 (by decide +kernel) rfl
theorem tw_594 : Cond.instanceMethod ⟨"PointAnswers$Reader", "readPaper", "(LPointAnswers$Pad;)Z"⟩ ∈ wT := tw 594 (by decide +kernel) rfl
theorem tw_595 : Cond.code ⟨"PointAnswers$Reader", "readPaper", "(LPointAnswers$Pad;)Z"⟩ prog_7_method_9_code 2 (some .boolean) ∈ wT := tw 595 (by decide +kernel) rfl
theorem tw_596 : Cond.methodLink "PointAnswers$Reader" 27 ⟨"PointAnswers$Reader", "take", "(LPointAnswers$Pad;C)Z"⟩ ∈ wT := tw 596 (by decide +kernel) rfl
theorem tw_598 : Cond.instanceMethod ⟨"PointAnswers$Reader", "take", "(LPointAnswers$Pad;C)Z"⟩ ∈ wT := tw 598 (by decide +kernel) rfl
theorem tw_599 : Cond.code ⟨"PointAnswers$Reader", "take", "(LPointAnswers$Pad;C)Z"⟩ prog_7_method_5_code 3 (some .boolean) ∈ wT := tw 599 (by decide +kernel) rfl
theorem tw_600 : Cond.methodLink "PointAnswers$Reader" 61 ⟨"PointAnswers$Reader", "readCites", "(LPointAnswers$Pad;)Z"⟩ ∈ wT := tw 600 (by decide +kernel) rfl
theorem tw_602 : Cond.instanceMethod ⟨"PointAnswers$Reader", "readCites", "(LPointAnswers$Pad;)Z"⟩ ∈ wT := tw 602 (by decide +kernel) rfl
theorem tw_603 : Cond.code ⟨"PointAnswers$Reader", "readCites", "(LPointAnswers$Pad;)Z"⟩ prog_7_method_10_code 3 (some .boolean) ∈ wT := tw 603 (by decide +kernel) rfl
theorem tw_604 : Cond.methodLink "PointAnswers$Reader" 46 ⟨"PointAnswers$Reader", "readNumber", "(LPointAnswers$Pad;)Z"⟩ ∈ wT := tw 604 (by decide +kernel) rfl
theorem tw_606 : Cond.instanceMethod ⟨"PointAnswers$Reader", "readNumber", "(LPointAnswers$Pad;)Z"⟩ ∈ wT := tw 606 (by decide +kernel) rfl
theorem tw_607 : Cond.code ⟨"PointAnswers$Reader", "readNumber", "(LPointAnswers$Pad;)Z"⟩ prog_7_method_8_code 2 (some .boolean) ∈ wT := tw 607 (by decide +kernel) rfl
theorem tw_608 : Cond.methodLink "PointAnswersLaw" 96 ⟨"PointAnswers", "carryOut", "()I"⟩ ∈ wT := tw 608 (by decide +kernel) rfl
theorem tw_609 : Cond.instanceMethod ⟨"PointAnswers", "carryOut", "()I"⟩ ∈ wT := tw 609 (by decide +kernel) rfl
theorem tw_610 : Cond.selects "PointAnswers" ⟨"PointAnswers", "carryOut", "()I"⟩ ⟨"PointAnswers", "carryOut", "()I"⟩ ∈ wT := tw 610 (by decide +kernel) rfl
theorem tw_611 : Cond.code ⟨"PointAnswers", "carryOut", "()I"⟩ prog_1_method_21_code 2 (some .int) ∈ wT := tw 611 (by decide +kernel) rfl
theorem tw_614 : Cond.methodLink "PointAnswers" 227 ⟨"PointAnswers", "follow", "()I"⟩ ∈ wT := tw 614 (by decide +kernel) rfl
theorem tw_616 : Cond.instanceMethod ⟨"PointAnswers", "follow", "()I"⟩ ∈ wT := tw 616 (by decide +kernel) rfl
theorem tw_617 : Cond.code ⟨"PointAnswers", "follow", "()I"⟩ prog_1_method_26_code 1 (some .int) ∈ wT := tw 617 (by decide +kernel) rfl
theorem tw_619 : Cond.methodLink "PointAnswersLaw" 100 ⟨"PointAnswers", "undo", "()I"⟩ ∈ wT := tw 619 (by decide +kernel) rfl
theorem tw_620 : Cond.instanceMethod ⟨"PointAnswers", "undo", "()I"⟩ ∈ wT := tw 620 (by decide +kernel) rfl
theorem tw_621 : Cond.selects "PointAnswers" ⟨"PointAnswers", "undo", "()I"⟩ ⟨"PointAnswers", "undo", "()I"⟩ ∈ wT := tw 621 (by decide +kernel) rfl
theorem tw_622 : Cond.code ⟨"PointAnswers", "undo", "()I"⟩ prog_1_method_22_code 1 (some .int) ∈ wT := tw 622 (by decide +kernel) rfl
theorem tw_625 : Cond.instanceMethod ⟨"PointAnswers$History", "bringBack", "(LPointAnswers$Bundle;)I"⟩ ∈ wT := tw 625 (by decide +kernel) rfl
theorem tw_626 : Cond.code ⟨"PointAnswers$History", "bringBack", "(LPointAnswers$Bundle;)I"⟩ prog_4_method_6_code 3 (some .int) ∈ wT := tw 626 (by decide +kernel) rfl
theorem tw_627 : Cond.methodLink "PointAnswersLaw" 104 ⟨"PointAnswers", "save", "(I)I"⟩ ∈ wT := tw 627 (by decide +kernel) rfl
theorem tw_628 : Cond.instanceMethod ⟨"PointAnswers", "save", "(I)I"⟩ ∈ wT := tw 628 (by decide +kernel) rfl
theorem tw_629 : Cond.selects "PointAnswers" ⟨"PointAnswers", "save", "(I)I"⟩ ⟨"PointAnswers", "save", "(I)I"⟩ ∈ wT := tw 629 (by decide +kernel) rfl
theorem tw_630 : Cond.code ⟨"PointAnswers", "save", "(I)I"⟩ prog_1_method_23_code 3 (some .int) ∈ wT := tw 630 (by decide +kernel) rfl
theorem tw_631 : Cond.methodLink "PointAnswers" 238 ⟨"PointAnswers", "slotRow", "(I)LPointAnswers$Bundle;"⟩ ∈ wT := tw 631 (by decide +kernel) rfl
theorem tw_633 : Cond.instanceMethod ⟨"PointAnswers", "slotRow", "(I)LPointAnswers$Bundle;"⟩ ∈ wT := tw 633 (by decide +kernel) rfl
theorem tw_634 : Cond.code ⟨"PointAnswers", "slotRow", "(I)LPointAnswers$Bundle;"⟩ prog_1_method_25_code 2 (some (.object "PointAnswers$Bundle")) ∈ wT := tw 634 (by decide +kernel) rfl
theorem tw_636 : Cond.methodLink "PointAnswersLaw" 108 ⟨"PointAnswers", "restore", "(I)I"⟩ ∈ wT := tw 636 (by decide +kernel) rfl
theorem tw_637 : Cond.instanceMethod ⟨"PointAnswers", "restore", "(I)I"⟩ ∈ wT := tw 637 (by decide +kernel) rfl
theorem tw_638 : Cond.selects "PointAnswers" ⟨"PointAnswers", "restore", "(I)I"⟩ ⟨"PointAnswers", "restore", "(I)I"⟩ ∈ wT := tw 638 (by decide +kernel) rfl
theorem tw_639 : Cond.code ⟨"PointAnswers", "restore", "(I)I"⟩ prog_1_method_24_code 3 (some .int) ∈ wT := tw 639 (by decide +kernel) rfl
theorem tw_640 : Cond.classLink "PointAnswersLaw" 10 "PointAnswersModel" ∈ wT := tw 640 (by decide +kernel) rfl
theorem tw_641 : Cond.instantiable "PointAnswersModel" 15 ∈ wT := tw 641 (by decide +kernel) rfl
theorem tw_642 : Cond.methodLink "PointAnswersLaw" 12 ⟨"PointAnswersModel", "<init>", "()V"⟩ ∈ wT := tw 642 (by decide +kernel) rfl
theorem tw_643 : Cond.instanceMethod ⟨"PointAnswersModel", "<init>", "()V"⟩ ∈ wT := tw 643 (by decide +kernel) rfl
theorem tw_644 : Cond.code ⟨"PointAnswersModel", "<init>", "()V"⟩ prog_9_method_1_code 1 none ∈ wT := tw 644 (by decide +kernel) rfl
theorem tw_645 : Cond.methodLink "PointAnswersModel" 1 ⟨"java/lang/Object", "<init>", "()V"⟩ ∈ wT := tw 645 (by decide +kernel) rfl
theorem tw_646 : Cond.fieldLink "PointAnswersModel" 7 "PointAnswersModel" "z" "[I" ∈ wT := tw 646 (by decide +kernel) rfl
theorem tw_647 : Cond.fieldLink "PointAnswersModel" 13 "PointAnswersModel" "past" "[I" ∈ wT := tw 647 (by decide +kernel) rfl
theorem tw_648 : Cond.fieldLink "PointAnswersModel" 16 "PointAnswersModel" "slots" "[I" ∈ wT := tw 648 (by decide +kernel) rfl
theorem tw_649 : Cond.fieldLink "PointAnswersModel" 19 "PointAnswersModel" "isSaved" "[Z" ∈ wT := tw 649 (by decide +kernel) rfl
theorem tw_650 : Cond.fieldLink "PointAnswersModel" 46 "PointAnswersModel" "pastMany" "I" ∈ wT := tw 650 (by decide +kernel) rfl
theorem tw_651 : Cond.fieldLink "PointAnswersModel" 23 "PointAnswersModel" "pad" "[C" ∈ wT := tw 651 (by decide +kernel) rfl
theorem tw_652 : Cond.fieldLink "PointAnswersModel" 146 "PointAnswersModel" "typed" "I" ∈ wT := tw 652 (by decide +kernel) rfl
theorem tw_653 : Cond.fieldLink "PointAnswersModel" 27 "PointAnswersModel" "why" "[I" ∈ wT := tw 653 (by decide +kernel) rfl
theorem tw_654 : Cond.fieldLink "PointAnswersModel" 30 "PointAnswersModel" "taken" "[I" ∈ wT := tw 654 (by decide +kernel) rfl
theorem tw_655 : Cond.fieldLink "PointAnswersModel" 33 "PointAnswersModel" "stands" "[I" ∈ wT := tw 655 (by decide +kernel) rfl
theorem tw_656 : Cond.fieldLink "PointAnswersModel" 36 "PointAnswersModel" "falls" "[I" ∈ wT := tw 656 (by decide +kernel) rfl
theorem tw_657 : Cond.fieldLink "PointAnswersModel" 39 "PointAnswersModel" "orders" "[I" ∈ wT := tw 657 (by decide +kernel) rfl
theorem tw_658 : Cond.fieldLink "PointAnswersModel" 182 "PointAnswersModel" "orderMany" "I" ∈ wT := tw 658 (by decide +kernel) rfl
theorem tw_659 : Cond.fieldLink "PointAnswersModel" 166 "PointAnswersModel" "spot" "I" ∈ wT := tw 659 (by decide +kernel) rfl
theorem tw_660 : Cond.fieldLink "PointAnswersModel" 169 "PointAnswersModel" "wrong" "I" ∈ wT := tw 660 (by decide +kernel) rfl
theorem tw_692 : Cond.arrayClass .boolean ∈ wT := tw 692 (by decide +kernel) rfl
theorem tw_693 : Cond.methodLink "PointAnswersLaw" 103 ⟨"PointAnswersModel", "undo", "()I"⟩ ∈ wT := tw 693 (by decide +kernel) rfl
theorem tw_694 : Cond.instanceMethod ⟨"PointAnswersModel", "undo", "()I"⟩ ∈ wT := tw 694 (by decide +kernel) rfl
theorem tw_695 : Cond.selects "PointAnswersModel" ⟨"PointAnswersModel", "undo", "()I"⟩ ⟨"PointAnswersModel", "undo", "()I"⟩ ∈ wT := tw 695 (by decide +kernel) rfl
theorem tw_696 : Cond.code ⟨"PointAnswersModel", "undo", "()I"⟩ prog_9_method_10_code 2 (some .int) ∈ wT := tw 696 (by decide +kernel) rfl
theorem tw_697 : Cond.methodLink "PointAnswersLaw" 107 ⟨"PointAnswersModel", "save", "(I)I"⟩ ∈ wT := tw 697 (by decide +kernel) rfl
theorem tw_698 : Cond.instanceMethod ⟨"PointAnswersModel", "save", "(I)I"⟩ ∈ wT := tw 698 (by decide +kernel) rfl
theorem tw_699 : Cond.selects "PointAnswersModel" ⟨"PointAnswersModel", "save", "(I)I"⟩ ⟨"PointAnswersModel", "save", "(I)I"⟩ ∈ wT := tw 699 (by decide +kernel) rfl
theorem tw_700 : Cond.code ⟨"PointAnswersModel", "save", "(I)I"⟩ prog_9_method_11_code 3 (some .int) ∈ wT := tw 700 (by decide +kernel) rfl
theorem tw_701 : Cond.methodLink "PointAnswersModel" 50 ⟨"PointAnswersModel", "in", "(III)Z"⟩ ∈ wT := tw 701 (by decide +kernel) rfl
theorem tw_702 : Cond.static ⟨"PointAnswersModel", "in", "(III)Z"⟩ ∈ wT := tw 702 (by decide +kernel) rfl
theorem tw_703 : Cond.code ⟨"PointAnswersModel", "in", "(III)Z"⟩ prog_9_method_2_code 3 (some .boolean) ∈ wT := tw 703 (by decide +kernel) rfl
theorem tw_704 : Cond.methodLink "PointAnswersLaw" 111 ⟨"PointAnswersModel", "restore", "(I)I"⟩ ∈ wT := tw 704 (by decide +kernel) rfl
theorem tw_705 : Cond.instanceMethod ⟨"PointAnswersModel", "restore", "(I)I"⟩ ∈ wT := tw 705 (by decide +kernel) rfl
theorem tw_706 : Cond.selects "PointAnswersModel" ⟨"PointAnswersModel", "restore", "(I)I"⟩ ⟨"PointAnswersModel", "restore", "(I)I"⟩ ∈ wT := tw 706 (by decide +kernel) rfl
theorem tw_707 : Cond.code ⟨"PointAnswersModel", "restore", "(I)I"⟩ prog_9_method_12_code 3 (some .int) ∈ wT := tw 707 (by decide +kernel) rfl
theorem tw_708 : Cond.methodLink "PointAnswersModel" 54 ⟨"PointAnswersModel", "record", "()V"⟩ ∈ wT := tw 708 (by decide +kernel) rfl
theorem tw_710 : Cond.instanceMethod ⟨"PointAnswersModel", "record", "()V"⟩ ∈ wT := tw 710 (by decide +kernel) rfl
theorem tw_711 : Cond.code ⟨"PointAnswersModel", "record", "()V"⟩ prog_9_method_9_code 2 none ∈ wT := tw 711 (by decide +kernel) rfl
theorem tw_712 : Cond.methodLink "PointAnswersLaw" 17 ⟨"PointAnswersModel", "set", "(II)I"⟩ ∈ wT := tw 712 (by decide +kernel) rfl
theorem tw_713 : Cond.instanceMethod ⟨"PointAnswersModel", "set", "(II)I"⟩ ∈ wT := tw 713 (by decide +kernel) rfl
theorem tw_714 : Cond.selects "PointAnswersModel" ⟨"PointAnswersModel", "set", "(II)I"⟩ ⟨"PointAnswersModel", "set", "(II)I"⟩ ∈ wT := tw 714 (by decide +kernel) rfl
theorem tw_715 : Cond.code ⟨"PointAnswersModel", "set", "(II)I"⟩ prog_9_method_22_code 4 (some .int) ∈ wT := tw 715 (by decide +kernel) rfl
theorem tw_716 : Cond.methodLink "PointAnswersModel" 77 ⟨"PointAnswersModel", "isValue", "(II)Z"⟩ ∈ wT := tw 716 (by decide +kernel) rfl
theorem tw_717 : Cond.static ⟨"PointAnswersModel", "isValue", "(II)Z"⟩ ∈ wT := tw 717 (by decide +kernel) rfl
theorem tw_718 : Cond.code ⟨"PointAnswersModel", "isValue", "(II)Z"⟩ prog_9_method_21_code 2 (some .boolean) ∈ wT := tw 718 (by decide +kernel) rfl
theorem tw_719 : Cond.methodLink "PointAnswersLaw" 22 ⟨"PointAnswersModel", "claim", "(III)I"⟩ ∈ wT := tw 719 (by decide +kernel) rfl
theorem tw_720 : Cond.instanceMethod ⟨"PointAnswersModel", "claim", "(III)I"⟩ ∈ wT := tw 720 (by decide +kernel) rfl
theorem tw_721 : Cond.selects "PointAnswersModel" ⟨"PointAnswersModel", "claim", "(III)I"⟩ ⟨"PointAnswersModel", "claim", "(III)I"⟩ ∈ wT := tw 721 (by decide +kernel) rfl
theorem tw_722 : Cond.code ⟨"PointAnswersModel", "claim", "(III)I"⟩ prog_9_method_26_code 5 (some .int) ∈ wT := tw 722 (by decide +kernel) rfl
theorem tw_723 : Cond.methodLink "PointAnswersModel" 88 ⟨"PointAnswersModel", "whyNotClaim", "(III)I"⟩ ∈ wT := tw 723 (by decide +kernel) rfl
theorem tw_725 : Cond.instanceMethod ⟨"PointAnswersModel", "whyNotClaim", "(III)I"⟩ ∈ wT := tw 725 (by decide +kernel) rfl
theorem tw_726 : Cond.code ⟨"PointAnswersModel", "whyNotClaim", "(III)I"⟩ prog_9_method_25_code 4 (some .int) ∈ wT := tw 726 (by decide +kernel) rfl
theorem tw_727 : Cond.methodLink "PointAnswersModel" 85 ⟨"PointAnswersModel", "isFile", "(II)Z"⟩ ∈ wT := tw 727 (by decide +kernel) rfl
theorem tw_728 : Cond.static ⟨"PointAnswersModel", "isFile", "(II)Z"⟩ ∈ wT := tw 728 (by decide +kernel) rfl
theorem tw_729 : Cond.code ⟨"PointAnswersModel", "isFile", "(II)Z"⟩ prog_9_method_24_code 2 (some .boolean) ∈ wT := tw 729 (by decide +kernel) rfl
theorem tw_730 : Cond.methodLink "PointAnswersModel" 92 ⟨"PointAnswersModel", "file", "(IIII)I"⟩ ∈ wT := tw 730 (by decide +kernel) rfl
theorem tw_732 : Cond.instanceMethod ⟨"PointAnswersModel", "file", "(IIII)I"⟩ ∈ wT := tw 732 (by decide +kernel) rfl
theorem tw_733 : Cond.code ⟨"PointAnswersModel", "file", "(IIII)I"⟩ prog_9_method_23_code 6 (some .int) ∈ wT := tw 733 (by decide +kernel) rfl
theorem tw_734 : Cond.methodLink "PointAnswersModel" 81 ⟨"PointAnswersModel", "lay", "(III)V"⟩ ∈ wT := tw 734 (by decide +kernel) rfl
theorem tw_736 : Cond.instanceMethod ⟨"PointAnswersModel", "lay", "(III)V"⟩ ∈ wT := tw 736 (by decide +kernel) rfl
theorem tw_737 : Cond.code ⟨"PointAnswersModel", "lay", "(III)V"⟩ prog_9_method_5_code 4 none ∈ wT := tw 737 (by decide +kernel) rfl
theorem tw_738 : Cond.methodLink "PointAnswersLaw" 26 ⟨"PointAnswersModel", "answer", "(III)I"⟩ ∈ wT := tw 738 (by decide +kernel) rfl
theorem tw_739 : Cond.instanceMethod ⟨"PointAnswersModel", "answer", "(III)I"⟩ ∈ wT := tw 739 (by decide +kernel) rfl
theorem tw_740 : Cond.selects "PointAnswersModel" ⟨"PointAnswersModel", "answer", "(III)I"⟩ ⟨"PointAnswersModel", "answer", "(III)I"⟩ ∈ wT := tw 740 (by decide +kernel) rfl
theorem tw_741 : Cond.code ⟨"PointAnswersModel", "answer", "(III)I"⟩ prog_9_method_28_code 5 (some .int) ∈ wT := tw 741 (by decide +kernel) rfl
theorem tw_742 : Cond.methodLink "PointAnswersModel" 99 ⟨"PointAnswersModel", "whyNotAnswer", "(III)I"⟩ ∈ wT := tw 742 (by decide +kernel) rfl
theorem tw_744 : Cond.instanceMethod ⟨"PointAnswersModel", "whyNotAnswer", "(III)I"⟩ ∈ wT := tw 744 (by decide +kernel) rfl
theorem tw_745 : Cond.code ⟨"PointAnswersModel", "whyNotAnswer", "(III)I"⟩ prog_9_method_27_code 4 (some .int) ∈ wT := tw 745 (by decide +kernel) rfl
theorem tw_746 : Cond.methodLink "PointAnswersModel" 96 ⟨"PointAnswersModel", "isPoint", "(I)Z"⟩ ∈ wT := tw 746 (by decide +kernel) rfl
theorem tw_748 : Cond.instanceMethod ⟨"PointAnswersModel", "isPoint", "(I)Z"⟩ ∈ wT := tw 748 (by decide +kernel) rfl
theorem tw_749 : Cond.code ⟨"PointAnswersModel", "isPoint", "(I)Z"⟩ prog_9_method_3_code 2 (some .boolean) ∈ wT := tw 749 (by decide +kernel) rfl
theorem tw_750 : Cond.methodLink "PointAnswersModel" 61 ⟨"PointAnswersModel", "isWithdrawn", "(I)Z"⟩ ∈ wT := tw 750 (by decide +kernel) rfl
theorem tw_752 : Cond.instanceMethod ⟨"PointAnswersModel", "isWithdrawn", "(I)Z"⟩ ∈ wT := tw 752 (by decide +kernel) rfl
theorem tw_753 : Cond.code ⟨"PointAnswersModel", "isWithdrawn", "(I)Z"⟩ prog_9_method_7_code 2 (some .boolean) ∈ wT := tw 753 (by decide +kernel) rfl
theorem tw_754 : Cond.methodLink "PointAnswersModel" 42 ⟨"PointAnswersModel", "its", "(II)I"⟩ ∈ wT := tw 754 (by decide +kernel) rfl
theorem tw_756 : Cond.instanceMethod ⟨"PointAnswersModel", "its", "(II)I"⟩ ∈ wT := tw 756 (by decide +kernel) rfl
theorem tw_757 : Cond.code ⟨"PointAnswersModel", "its", "(II)I"⟩ prog_9_method_4_code 3 (some .int) ∈ wT := tw 757 (by decide +kernel) rfl
theorem tw_758 : Cond.methodLink "PointAnswersLaw" 31 ⟨"PointAnswersModel", "withdraw", "(I)I"⟩ ∈ wT := tw 758 (by decide +kernel) rfl
theorem tw_759 : Cond.instanceMethod ⟨"PointAnswersModel", "withdraw", "(I)I"⟩ ∈ wT := tw 759 (by decide +kernel) rfl
theorem tw_760 : Cond.selects "PointAnswersModel" ⟨"PointAnswersModel", "withdraw", "(I)I"⟩ ⟨"PointAnswersModel", "withdraw", "(I)I"⟩ ∈ wT := tw 760 (by decide +kernel) rfl
theorem tw_761 : Cond.code ⟨"PointAnswersModel", "withdraw", "(I)I"⟩ prog_9_method_30_code 3 (some .int) ∈ wT := tw 761 (by decide +kernel) rfl
theorem tw_762 : Cond.methodLink "PointAnswersModel" 102 ⟨"PointAnswersModel", "whyNotWithdraw", "(I)I"⟩ ∈ wT := tw 762 (by decide +kernel) rfl
theorem tw_764 : Cond.instanceMethod ⟨"PointAnswersModel", "whyNotWithdraw", "(I)I"⟩ ∈ wT := tw 764 (by decide +kernel) rfl
theorem tw_765 : Cond.code ⟨"PointAnswersModel", "whyNotWithdraw", "(I)I"⟩ prog_9_method_29_code 2 (some .int) ∈ wT := tw 765 (by decide +kernel) rfl
theorem tw_766 : Cond.methodLink "PointAnswersModel" 106 ⟨"PointAnswersModel", "look", "()V"⟩ ∈ wT := tw 766 (by decide +kernel) rfl
theorem tw_768 : Cond.instanceMethod ⟨"PointAnswersModel", "look", "()V"⟩ ∈ wT := tw 768 (by decide +kernel) rfl
theorem tw_769 : Cond.code ⟨"PointAnswersModel", "look", "()V"⟩ prog_9_method_17_code 1 none ∈ wT := tw 769 (by decide +kernel) rfl
theorem tw_770 : Cond.methodLink "PointAnswersModel" 70 ⟨"PointAnswersModel", "layOut", "()V"⟩ ∈ wT := tw 770 (by decide +kernel) rfl
theorem tw_772 : Cond.instanceMethod ⟨"PointAnswersModel", "layOut", "()V"⟩ ∈ wT := tw 772 (by decide +kernel) rfl
theorem tw_773 : Cond.code ⟨"PointAnswersModel", "layOut", "()V"⟩ prog_9_method_15_code 4 none ∈ wT := tw 773 (by decide +kernel) rfl
theorem tw_774 : Cond.methodLink "PointAnswersModel" 64 ⟨"PointAnswersModel", "lapsed", "(I)Z"⟩ ∈ wT := tw 774 (by decide +kernel) rfl
theorem tw_776 : Cond.instanceMethod ⟨"PointAnswersModel", "lapsed", "(I)Z"⟩ ∈ wT := tw 776 (by decide +kernel) rfl
theorem tw_777 : Cond.code ⟨"PointAnswersModel", "lapsed", "(I)Z"⟩ prog_9_method_13_code 2 (some .boolean) ∈ wT := tw 777 (by decide +kernel) rfl
theorem tw_778 : Cond.methodLink "PointAnswersModel" 57 ⟨"PointAnswersModel", "isClaim", "(I)Z"⟩ ∈ wT := tw 778 (by decide +kernel) rfl
theorem tw_780 : Cond.instanceMethod ⟨"PointAnswersModel", "isClaim", "(I)Z"⟩ ∈ wT := tw 780 (by decide +kernel) rfl
theorem tw_781 : Cond.code ⟨"PointAnswersModel", "isClaim", "(I)Z"⟩ prog_9_method_6_code 2 (some .boolean) ∈ wT := tw 781 (by decide +kernel) rfl
theorem tw_782 : Cond.methodLink "PointAnswersModel" 67 ⟨"PointAnswersModel", "hasNoCase", "(I)Z"⟩ ∈ wT := tw 782 (by decide +kernel) rfl
theorem tw_784 : Cond.instanceMethod ⟨"PointAnswersModel", "hasNoCase", "(I)Z"⟩ ∈ wT := tw 784 (by decide +kernel) rfl
theorem tw_785 : Cond.code ⟨"PointAnswersModel", "hasNoCase", "(I)Z"⟩ prog_9_method_14_code 2 (some .boolean) ∈ wT := tw 785 (by decide +kernel) rfl
theorem tw_786 : Cond.methodLink "PointAnswersModel" 73 ⟨"PointAnswersModel", "layAnswered", "(I)V"⟩ ∈ wT := tw 786 (by decide +kernel) rfl
theorem tw_788 : Cond.instanceMethod ⟨"PointAnswersModel", "layAnswered", "(I)V"⟩ ∈ wT := tw 788 (by decide +kernel) rfl
theorem tw_789 : Cond.code ⟨"PointAnswersModel", "layAnswered", "(I)V"⟩ prog_9_method_16_code 5 none ∈ wT := tw 789 (by decide +kernel) rfl
theorem tw_790 : Cond.methodLink "PointAnswersModel" 109 ⟨"PointAnswersModel", "standing", "()I"⟩ ∈ wT := tw 790 (by decide +kernel) rfl
theorem tw_792 : Cond.instanceMethod ⟨"PointAnswersModel", "standing", "()I"⟩ ∈ wT := tw 792 (by decide +kernel) rfl
theorem tw_793 : Cond.code ⟨"PointAnswersModel", "standing", "()I"⟩ prog_9_method_18_code 3 (some .int) ∈ wT := tw 793 (by decide +kernel) rfl
theorem tw_794 : Cond.methodLink "PointAnswersModel" 113 ⟨"PointAnswersModel", "bits", "(I)I"⟩ ∈ wT := tw 794 (by decide +kernel) rfl
theorem tw_795 : Cond.static ⟨"PointAnswersModel", "bits", "(I)I"⟩ ∈ wT := tw 795 (by decide +kernel) rfl
theorem tw_796 : Cond.code ⟨"PointAnswersModel", "bits", "(I)I"⟩ prog_9_method_8_code 3 (some .int) ∈ wT := tw 796 (by decide +kernel) rfl
theorem tw_797 : Cond.methodLink "PointAnswersLaw" 35 ⟨"PointAnswersModel", "renew", "(I)I"⟩ ∈ wT := tw 797 (by decide +kernel) rfl
theorem tw_798 : Cond.instanceMethod ⟨"PointAnswersModel", "renew", "(I)I"⟩ ∈ wT := tw 798 (by decide +kernel) rfl
theorem tw_799 : Cond.selects "PointAnswersModel" ⟨"PointAnswersModel", "renew", "(I)I"⟩ ⟨"PointAnswersModel", "renew", "(I)I"⟩ ∈ wT := tw 799 (by decide +kernel) rfl
theorem tw_800 : Cond.code ⟨"PointAnswersModel", "renew", "(I)I"⟩ prog_9_method_32_code 4 (some .int) ∈ wT := tw 800 (by decide +kernel) rfl
theorem tw_801 : Cond.methodLink "PointAnswersModel" 116 ⟨"PointAnswersModel", "whyNotRenew", "(I)I"⟩ ∈ wT := tw 801 (by decide +kernel) rfl
theorem tw_803 : Cond.instanceMethod ⟨"PointAnswersModel", "whyNotRenew", "(I)I"⟩ ∈ wT := tw 803 (by decide +kernel) rfl
theorem tw_804 : Cond.code ⟨"PointAnswersModel", "whyNotRenew", "(I)I"⟩ prog_9_method_31_code 2 (some .int) ∈ wT := tw 804 (by decide +kernel) rfl
theorem tw_805 : Cond.methodLink "PointAnswersLaw" 39 ⟨"PointAnswersModel", "overrule", "(I)I"⟩ ∈ wT := tw 805 (by decide +kernel) rfl
theorem tw_806 : Cond.instanceMethod ⟨"PointAnswersModel", "overrule", "(I)I"⟩ ∈ wT := tw 806 (by decide +kernel) rfl
theorem tw_807 : Cond.selects "PointAnswersModel" ⟨"PointAnswersModel", "overrule", "(I)I"⟩ ⟨"PointAnswersModel", "overrule", "(I)I"⟩ ∈ wT := tw 807 (by decide +kernel) rfl
theorem tw_808 : Cond.code ⟨"PointAnswersModel", "overrule", "(I)I"⟩ prog_9_method_34_code 2 (some .int) ∈ wT := tw 808 (by decide +kernel) rfl
theorem tw_809 : Cond.methodLink "PointAnswersModel" 119 ⟨"PointAnswersModel", "overruleIt", "(I)I"⟩ ∈ wT := tw 809 (by decide +kernel) rfl
theorem tw_811 : Cond.instanceMethod ⟨"PointAnswersModel", "overruleIt", "(I)I"⟩ ∈ wT := tw 811 (by decide +kernel) rfl
theorem tw_812 : Cond.code ⟨"PointAnswersModel", "overruleIt", "(I)I"⟩ prog_9_method_33_code 2 (some .int) ∈ wT := tw 812 (by decide +kernel) rfl
theorem tw_813 : Cond.methodLink "PointAnswersLaw" 43 ⟨"PointAnswersModel", "pass", "(I)I"⟩ ∈ wT := tw 813 (by decide +kernel) rfl
theorem tw_814 : Cond.instanceMethod ⟨"PointAnswersModel", "pass", "(I)I"⟩ ∈ wT := tw 814 (by decide +kernel) rfl
theorem tw_815 : Cond.selects "PointAnswersModel" ⟨"PointAnswersModel", "pass", "(I)I"⟩ ⟨"PointAnswersModel", "pass", "(I)I"⟩ ∈ wT := tw 815 (by decide +kernel) rfl
theorem tw_816 : Cond.code ⟨"PointAnswersModel", "pass", "(I)I"⟩ prog_9_method_36_code 3 (some .int) ∈ wT := tw 816 (by decide +kernel) rfl
theorem tw_817 : Cond.methodLink "PointAnswersModel" 122 ⟨"PointAnswersModel", "whyNotPass", "(I)I"⟩ ∈ wT := tw 817 (by decide +kernel) rfl
theorem tw_819 : Cond.instanceMethod ⟨"PointAnswersModel", "whyNotPass", "(I)I"⟩ ∈ wT := tw 819 (by decide +kernel) rfl
theorem tw_820 : Cond.code ⟨"PointAnswersModel", "whyNotPass", "(I)I"⟩ prog_9_method_35_code 2 (some .int) ∈ wT := tw 820 (by decide +kernel) rfl
theorem tw_821 : Cond.methodLink "PointAnswersLaw" 47 ⟨"PointAnswersModel", "of", "(II)I"⟩ ∈ wT := tw 821 (by decide +kernel) rfl
theorem tw_822 : Cond.instanceMethod ⟨"PointAnswersModel", "of", "(II)I"⟩ ∈ wT := tw 822 (by decide +kernel) rfl
theorem tw_823 : Cond.selects "PointAnswersModel" ⟨"PointAnswersModel", "of", "(II)I"⟩ ⟨"PointAnswersModel", "of", "(II)I"⟩ ∈ wT := tw 823 (by decide +kernel) rfl
theorem tw_824 : Cond.code ⟨"PointAnswersModel", "of", "(II)I"⟩ prog_9_method_40_code 3 (some .int) ∈ wT := tw 824 (by decide +kernel) rfl
theorem tw_825 : Cond.methodLink "PointAnswersModel" 125 ⟨"PointAnswersModel", "lowestThatStands", "(I)I"⟩ ∈ wT := tw 825 (by decide +kernel) rfl
theorem tw_827 : Cond.instanceMethod ⟨"PointAnswersModel", "lowestThatStands", "(I)I"⟩ ∈ wT := tw 827 (by decide +kernel) rfl
theorem tw_828 : Cond.code ⟨"PointAnswersModel", "lowestThatStands", "(I)I"⟩ prog_9_method_37_code 3 (some .int) ∈ wT := tw 828 (by decide +kernel) rfl
theorem tw_829 : Cond.methodLink "PointAnswersModel" 128 ⟨"PointAnswersModel", "answersTo", "(I)I"⟩ ∈ wT := tw 829 (by decide +kernel) rfl
theorem tw_831 : Cond.instanceMethod ⟨"PointAnswersModel", "answersTo", "(I)I"⟩ ∈ wT := tw 831 (by decide +kernel) rfl
theorem tw_832 : Cond.code ⟨"PointAnswersModel", "answersTo", "(I)I"⟩ prog_9_method_20_code 4 (some .int) ∈ wT := tw 832 (by decide +kernel) rfl
theorem tw_833 : Cond.methodLink "PointAnswersModel" 131 ⟨"PointAnswersModel", "depth", "(I)I"⟩ ∈ wT := tw 833 (by decide +kernel) rfl
theorem tw_835 : Cond.instanceMethod ⟨"PointAnswersModel", "depth", "(I)I"⟩ ∈ wT := tw 835 (by decide +kernel) rfl
theorem tw_836 : Cond.code ⟨"PointAnswersModel", "depth", "(I)I"⟩ prog_9_method_38_code 4 (some .int) ∈ wT := tw 836 (by decide +kernel) rfl
theorem tw_837 : Cond.methodLink "PointAnswersModel" 134 ⟨"PointAnswersModel", "daysYet", "(I)I"⟩ ∈ wT := tw 837 (by decide +kernel) rfl
theorem tw_839 : Cond.instanceMethod ⟨"PointAnswersModel", "daysYet", "(I)I"⟩ ∈ wT := tw 839 (by decide +kernel) rfl
theorem tw_840 : Cond.code ⟨"PointAnswersModel", "daysYet", "(I)I"⟩ prog_9_method_39_code 2 (some .int) ∈ wT := tw 840 (by decide +kernel) rfl
theorem tw_841 : Cond.methodLink "PointAnswersLaw" 51 ⟨"PointAnswersModel", "count", "(I)I"⟩ ∈ wT := tw 841 (by decide +kernel) rfl
theorem tw_842 : Cond.instanceMethod ⟨"PointAnswersModel", "count", "(I)I"⟩ ∈ wT := tw 842 (by decide +kernel) rfl
theorem tw_843 : Cond.selects "PointAnswersModel" ⟨"PointAnswersModel", "count", "(I)I"⟩ ⟨"PointAnswersModel", "count", "(I)I"⟩ ∈ wT := tw 843 (by decide +kernel) rfl
theorem tw_844 : Cond.code ⟨"PointAnswersModel", "count", "(I)I"⟩ prog_9_method_44_code 2 (some .int) ∈ wT := tw 844 (by decide +kernel) rfl
theorem tw_845 : Cond.methodLink "PointAnswersModel" 137 ⟨"PointAnswersModel", "claims", "()I"⟩ ∈ wT := tw 845 (by decide +kernel) rfl
theorem tw_847 : Cond.instanceMethod ⟨"PointAnswersModel", "claims", "()I"⟩ ∈ wT := tw 847 (by decide +kernel) rfl
theorem tw_848 : Cond.code ⟨"PointAnswersModel", "claims", "()I"⟩ prog_9_method_19_code 3 (some .int) ∈ wT := tw 848 (by decide +kernel) rfl
theorem tw_849 : Cond.methodLink "PointAnswersModel" 140 ⟨"PointAnswersModel", "outOnes", "()I"⟩ ∈ wT := tw 849 (by decide +kernel) rfl
theorem tw_851 : Cond.instanceMethod ⟨"PointAnswersModel", "outOnes", "()I"⟩ ∈ wT := tw 851 (by decide +kernel) rfl
theorem tw_852 : Cond.code ⟨"PointAnswersModel", "outOnes", "()I"⟩ prog_9_method_41_code 3 (some .int) ∈ wT := tw 852 (by decide +kernel) rfl
theorem tw_853 : Cond.methodLink "PointAnswersModel" 143 ⟨"PointAnswersModel", "answeredOnes", "()I"⟩ ∈ wT := tw 853 (by decide +kernel) rfl
theorem tw_855 : Cond.instanceMethod ⟨"PointAnswersModel", "answeredOnes", "()I"⟩ ∈ wT := tw 855 (by decide +kernel) rfl
theorem tw_856 : Cond.code ⟨"PointAnswersModel", "answeredOnes", "()I"⟩ prog_9_method_42_code 3 (some .int) ∈ wT := tw 856 (by decide +kernel) rfl
theorem tw_857 : Cond.methodLink "PointAnswersLaw" 55 ⟨"PointAnswersModel", "points", "(I)I"⟩ ∈ wT := tw 857 (by decide +kernel) rfl
theorem tw_858 : Cond.instanceMethod ⟨"PointAnswersModel", "points", "(I)I"⟩ ∈ wT := tw 858 (by decide +kernel) rfl
theorem tw_859 : Cond.selects "PointAnswersModel" ⟨"PointAnswersModel", "points", "(I)I"⟩ ⟨"PointAnswersModel", "points", "(I)I"⟩ ∈ wT := tw 859 (by decide +kernel) rfl
theorem tw_860 : Cond.code ⟨"PointAnswersModel", "points", "(I)I"⟩ prog_9_method_45_code 2 (some .int) ∈ wT := tw 860 (by decide +kernel) rfl
theorem tw_861 : Cond.methodLink "PointAnswersModel" 149 ⟨"PointAnswersModel", "ofSide", "(I)I"⟩ ∈ wT := tw 861 (by decide +kernel) rfl
theorem tw_863 : Cond.instanceMethod ⟨"PointAnswersModel", "ofSide", "(I)I"⟩ ∈ wT := tw 863 (by decide +kernel) rfl
theorem tw_864 : Cond.code ⟨"PointAnswersModel", "ofSide", "(I)I"⟩ prog_9_method_43_code 4 (some .int) ∈ wT := tw 864 (by decide +kernel) rfl
theorem tw_865 : Cond.methodLink "PointAnswersLaw" 59 ⟨"PointAnswersModel", "share", "(I)I"⟩ ∈ wT := tw 865 (by decide +kernel) rfl
theorem tw_866 : Cond.instanceMethod ⟨"PointAnswersModel", "share", "(I)I"⟩ ∈ wT := tw 866 (by decide +kernel) rfl
theorem tw_867 : Cond.selects "PointAnswersModel" ⟨"PointAnswersModel", "share", "(I)I"⟩ ⟨"PointAnswersModel", "share", "(I)I"⟩ ∈ wT := tw 867 (by decide +kernel) rfl
theorem tw_868 : Cond.code ⟨"PointAnswersModel", "share", "(I)I"⟩ prog_9_method_47_code 3 (some .int) ∈ wT := tw 868 (by decide +kernel) rfl
theorem tw_869 : Cond.methodLink "PointAnswersModel" 154 ⟨"PointAnswersModel", "bitsOf", "(F)I"⟩ ∈ wT := tw 869 (by decide +kernel) rfl
theorem tw_870 : Cond.static ⟨"PointAnswersModel", "bitsOf", "(F)I"⟩ ∈ wT := tw 870 (by decide +kernel) rfl
theorem tw_871 : Cond.code ⟨"PointAnswersModel", "bitsOf", "(F)I"⟩ prog_9_method_46_code 3 (some .int) ∈ wT := tw 871 (by decide +kernel) rfl
theorem tw_872 : Cond.constantFloat "PointAnswersModel" 152 (1258291200 : UInt32) ∈ wT := tw 872 (by decide +kernel) rfl
theorem tw_873 : Cond.constant "PointAnswersModel" 153 (8388608) ∈ wT := tw 873 (by decide +kernel) rfl
theorem tw_874 : Cond.methodLink "PointAnswersLaw" 63 ⟨"PointAnswersModel", "toFall", "(I)I"⟩ ∈ wT := tw 874 (by decide +kernel) rfl
theorem tw_875 : Cond.instanceMethod ⟨"PointAnswersModel", "toFall", "(I)I"⟩ ∈ wT := tw 875 (by decide +kernel) rfl
theorem tw_876 : Cond.selects "PointAnswersModel" ⟨"PointAnswersModel", "toFall", "(I)I"⟩ ⟨"PointAnswersModel", "toFall", "(I)I"⟩ ∈ wT := tw 876 (by decide +kernel) rfl
theorem tw_877 : Cond.code ⟨"PointAnswersModel", "toFall", "(I)I"⟩ prog_9_method_49_code 2 (some .int) ∈ wT := tw 877 (by decide +kernel) rfl
theorem tw_878 : Cond.methodLink "PointAnswersModel" 158 ⟨"PointAnswersModel", "layCosts", "()V"⟩ ∈ wT := tw 878 (by decide +kernel) rfl
theorem tw_880 : Cond.instanceMethod ⟨"PointAnswersModel", "layCosts", "()V"⟩ ∈ wT := tw 880 (by decide +kernel) rfl
theorem tw_881 : Cond.code ⟨"PointAnswersModel", "layCosts", "()V"⟩ prog_9_method_48_code 7 none ∈ wT := tw 881 (by decide +kernel) rfl
theorem tw_882 : Cond.methodLink "PointAnswersLaw" 67 ⟨"PointAnswersModel", "toStand", "(I)I"⟩ ∈ wT := tw 882 (by decide +kernel) rfl
theorem tw_883 : Cond.instanceMethod ⟨"PointAnswersModel", "toStand", "(I)I"⟩ ∈ wT := tw 883 (by decide +kernel) rfl
theorem tw_884 : Cond.selects "PointAnswersModel" ⟨"PointAnswersModel", "toStand", "(I)I"⟩ ⟨"PointAnswersModel", "toStand", "(I)I"⟩ ∈ wT := tw 884 (by decide +kernel) rfl
theorem tw_885 : Cond.code ⟨"PointAnswersModel", "toStand", "(I)I"⟩ prog_9_method_50_code 2 (some .int) ∈ wT := tw 885 (by decide +kernel) rfl
theorem tw_886 : Cond.methodLink "PointAnswersLaw" 71 ⟨"PointAnswersModel", "bestAnswer", "(I)I"⟩ ∈ wT := tw 886 (by decide +kernel) rfl
theorem tw_887 : Cond.instanceMethod ⟨"PointAnswersModel", "bestAnswer", "(I)I"⟩ ∈ wT := tw 887 (by decide +kernel) rfl
theorem tw_888 : Cond.selects "PointAnswersModel" ⟨"PointAnswersModel", "bestAnswer", "(I)I"⟩ ⟨"PointAnswersModel", "bestAnswer", "(I)I"⟩ ∈ wT := tw 888 (by decide +kernel) rfl
theorem tw_889 : Cond.code ⟨"PointAnswersModel", "bestAnswer", "(I)I"⟩ prog_9_method_52_code 6 (some .int) ∈ wT := tw 889 (by decide +kernel) rfl
theorem tw_890 : Cond.methodLink "PointAnswersModel" 161 ⟨"PointAnswersModel", "changesBy", "(I)I"⟩ ∈ wT := tw 890 (by decide +kernel) rfl
theorem tw_892 : Cond.instanceMethod ⟨"PointAnswersModel", "changesBy", "(I)I"⟩ ∈ wT := tw 892 (by decide +kernel) rfl
theorem tw_893 : Cond.code ⟨"PointAnswersModel", "changesBy", "(I)I"⟩ prog_9_method_51_code 3 (some .int) ∈ wT := tw 893 (by decide +kernel) rfl
theorem tw_894 : Cond.methodLink "PointAnswersLaw" 76 ⟨"PointAnswersModel", "changesIn", "()I"⟩ ∈ wT := tw 894 (by decide +kernel) rfl
theorem tw_895 : Cond.instanceMethod ⟨"PointAnswersModel", "changesIn", "()I"⟩ ∈ wT := tw 895 (by decide +kernel) rfl
theorem tw_896 : Cond.selects "PointAnswersModel" ⟨"PointAnswersModel", "changesIn", "()I"⟩ ⟨"PointAnswersModel", "changesIn", "()I"⟩ ∈ wT := tw 896 (by decide +kernel) rfl
theorem tw_897 : Cond.code ⟨"PointAnswersModel", "changesIn", "()I"⟩ prog_9_method_53_code 5 (some .int) ∈ wT := tw 897 (by decide +kernel) rfl
theorem tw_898 : Cond.methodLink "PointAnswersLaw" 80 ⟨"PointAnswersModel", "leastPages", "()I"⟩ ∈ wT := tw 898 (by decide +kernel) rfl
theorem tw_899 : Cond.instanceMethod ⟨"PointAnswersModel", "leastPages", "()I"⟩ ∈ wT := tw 899 (by decide +kernel) rfl
theorem tw_900 : Cond.selects "PointAnswersModel" ⟨"PointAnswersModel", "leastPages", "()I"⟩ ⟨"PointAnswersModel", "leastPages", "()I"⟩ ∈ wT := tw 900 (by decide +kernel) rfl
theorem tw_901 : Cond.code ⟨"PointAnswersModel", "leastPages", "()I"⟩ prog_9_method_54_code 5 (some .int) ∈ wT := tw 901 (by decide +kernel) rfl
theorem tw_902 : Cond.methodLink "PointAnswersLaw" 87 ⟨"PointAnswersModel", "put", "(J)I"⟩ ∈ wT := tw 902 (by decide +kernel) rfl
theorem tw_903 : Cond.instanceMethod ⟨"PointAnswersModel", "put", "(J)I"⟩ ∈ wT := tw 903 (by decide +kernel) rfl
theorem tw_904 : Cond.selects "PointAnswersModel" ⟨"PointAnswersModel", "put", "(J)I"⟩ ⟨"PointAnswersModel", "put", "(J)I"⟩ ∈ wT := tw 904 (by decide +kernel) rfl
theorem tw_905 : Cond.code ⟨"PointAnswersModel", "put", "(J)I"⟩ prog_9_method_55_code 8 (some .int) ∈ wT := tw 905 (by decide +kernel) rfl
theorem tw_906 : Cond.constantLong "PointAnswersModel" 164 (255) ∈ wT := tw 906 (by decide +kernel) rfl
theorem tw_907 : Cond.methodLink "PointAnswersLaw" 91 ⟨"PointAnswersModel", "wipe", "()I"⟩ ∈ wT := tw 907 (by decide +kernel) rfl
theorem tw_908 : Cond.instanceMethod ⟨"PointAnswersModel", "wipe", "()I"⟩ ∈ wT := tw 908 (by decide +kernel) rfl
theorem tw_909 : Cond.selects "PointAnswersModel" ⟨"PointAnswersModel", "wipe", "()I"⟩ ⟨"PointAnswersModel", "wipe", "()I"⟩ ∈ wT := tw 909 (by decide +kernel) rfl
theorem tw_910 : Cond.code ⟨"PointAnswersModel", "wipe", "()I"⟩ prog_9_method_56_code 2 (some .int) ∈ wT := tw 910 (by decide +kernel) rfl
theorem tw_911 : Cond.methodLink "PointAnswersLaw" 95 ⟨"PointAnswersModel", "fault", "()I"⟩ ∈ wT := tw 911 (by decide +kernel) rfl
theorem tw_912 : Cond.instanceMethod ⟨"PointAnswersModel", "fault", "()I"⟩ ∈ wT := tw 912 (by decide +kernel) rfl
theorem tw_913 : Cond.selects "PointAnswersModel" ⟨"PointAnswersModel", "fault", "()I"⟩ ⟨"PointAnswersModel", "fault", "()I"⟩ ∈ wT := tw 913 (by decide +kernel) rfl
theorem tw_914 : Cond.code ⟨"PointAnswersModel", "fault", "()I"⟩ prog_9_method_64_code 1 (some .int) ∈ wT := tw 914 (by decide +kernel) rfl
theorem tw_915 : Cond.methodLink "PointAnswersModel" 194 ⟨"PointAnswersModel", "readPad", "()I"⟩ ∈ wT := tw 915 (by decide +kernel) rfl
theorem tw_917 : Cond.instanceMethod ⟨"PointAnswersModel", "readPad", "()I"⟩ ∈ wT := tw 917 (by decide +kernel) rfl
theorem tw_918 : Cond.code ⟨"PointAnswersModel", "readPad", "()I"⟩ prog_9_method_63_code 2 (some .int) ∈ wT := tw 918 (by decide +kernel) rfl
theorem tw_919 : Cond.methodLink "PointAnswersModel" 191 ⟨"PointAnswersModel", "readOrder", "()V"⟩ ∈ wT := tw 919 (by decide +kernel) rfl
theorem tw_921 : Cond.instanceMethod ⟨"PointAnswersModel", "readOrder", "()V"⟩ ∈ wT := tw 921 (by decide +kernel) rfl
theorem tw_922 : Cond.code ⟨"PointAnswersModel", "readOrder", "()V"⟩ prog_9_method_62_code 3 none ∈ wT := tw 922 (by decide +kernel) rfl
theorem tw_923 : Cond.methodLink "PointAnswersModel" 172 ⟨"PointAnswersModel", "letter", "()I"⟩ ∈ wT := tw 923 (by decide +kernel) rfl
theorem tw_925 : Cond.instanceMethod ⟨"PointAnswersModel", "letter", "()I"⟩ ∈ wT := tw 925 (by decide +kernel) rfl
theorem tw_926 : Cond.code ⟨"PointAnswersModel", "letter", "()I"⟩ prog_9_method_57_code 1 (some .int) ∈ wT := tw 926 (by decide +kernel) rfl
theorem tw_927 : Cond.methodLink "PointAnswersModel" 175 ⟨"PointAnswersModel", "wants", "(Z)V"⟩ ∈ wT := tw 927 (by decide +kernel) rfl
theorem tw_929 : Cond.instanceMethod ⟨"PointAnswersModel", "wants", "(Z)V"⟩ ∈ wT := tw 929 (by decide +kernel) rfl
theorem tw_930 : Cond.code ⟨"PointAnswersModel", "wants", "(Z)V"⟩ prog_9_method_58_code 2 none ∈ wT := tw 930 (by decide +kernel) rfl
theorem tw_931 : Cond.methodLink "PointAnswersModel" 179 ⟨"PointAnswersModel", "digit", "(II)I"⟩ ∈ wT := tw 931 (by decide +kernel) rfl
theorem tw_933 : Cond.instanceMethod ⟨"PointAnswersModel", "digit", "(II)I"⟩ ∈ wT := tw 933 (by decide +kernel) rfl
theorem tw_934 : Cond.code ⟨"PointAnswersModel", "digit", "(II)I"⟩ prog_9_method_59_code 4 (some .int) ∈ wT := tw 934 (by decide +kernel) rfl
theorem tw_935 : Cond.methodLink "PointAnswersModel" 185 ⟨"PointAnswersModel", "number", "()I"⟩ ∈ wT := tw 935 (by decide +kernel) rfl
theorem tw_937 : Cond.instanceMethod ⟨"PointAnswersModel", "number", "()I"⟩ ∈ wT := tw 937 (by decide +kernel) rfl
theorem tw_938 : Cond.code ⟨"PointAnswersModel", "number", "()I"⟩ prog_9_method_60_code 3 (some .int) ∈ wT := tw 938 (by decide +kernel) rfl
theorem tw_939 : Cond.methodLink "PointAnswersModel" 188 ⟨"PointAnswersModel", "cites", "()I"⟩ ∈ wT := tw 939 (by decide +kernel) rfl
theorem tw_941 : Cond.instanceMethod ⟨"PointAnswersModel", "cites", "()I"⟩ ∈ wT := tw 941 (by decide +kernel) rfl
theorem tw_942 : Cond.code ⟨"PointAnswersModel", "cites", "()I"⟩ prog_9_method_61_code 3 (some .int) ∈ wT := tw 942 (by decide +kernel) rfl
theorem tw_943 : Cond.methodLink "PointAnswersLaw" 99 ⟨"PointAnswersModel", "carryOut", "()I"⟩ ∈ wT := tw 943 (by decide +kernel) rfl
theorem tw_944 : Cond.instanceMethod ⟨"PointAnswersModel", "carryOut", "()I"⟩ ∈ wT := tw 944 (by decide +kernel) rfl
theorem tw_945 : Cond.selects "PointAnswersModel" ⟨"PointAnswersModel", "carryOut", "()I"⟩ ⟨"PointAnswersModel", "carryOut", "()I"⟩ ∈ wT := tw 945 (by decide +kernel) rfl
theorem tw_946 : Cond.code ⟨"PointAnswersModel", "carryOut", "()I"⟩ prog_9_method_67_code 2 (some .int) ∈ wT := tw 946 (by decide +kernel) rfl
theorem tw_947 : Cond.methodLink "PointAnswersModel" 200 ⟨"PointAnswersModel", "does", "(I)Z"⟩ ∈ wT := tw 947 (by decide +kernel) rfl
theorem tw_949 : Cond.instanceMethod ⟨"PointAnswersModel", "does", "(I)Z"⟩ ∈ wT := tw 949 (by decide +kernel) rfl
theorem tw_950 : Cond.code ⟨"PointAnswersModel", "does", "(I)Z"⟩ prog_9_method_66_code 5 (some .boolean) ∈ wT := tw 950 (by decide +kernel) rfl
theorem tw_951 : Cond.methodLink "PointAnswersModel" 197 ⟨"PointAnswersModel", "whyNot", "(IIII)I"⟩ ∈ wT := tw 951 (by decide +kernel) rfl
theorem tw_953 : Cond.instanceMethod ⟨"PointAnswersModel", "whyNot", "(IIII)I"⟩ ∈ wT := tw 953 (by decide +kernel) rfl
theorem tw_954 : Cond.code ⟨"PointAnswersModel", "whyNot", "(IIII)I"⟩ prog_9_method_65_code 5 (some .int) ∈ wT := tw 954 (by decide +kernel) rfl
theorem tw_955 : Cond.constantLong "PointAnswersLaw" 81 (4294967295) ∈ wT := tw 955 (by decide +kernel) rfl
end
section
abbrev Mm : Type := (Nat → Nat → Int32) × (Nat → Nat)
def mset (M : Mm) (k j : Nat) (v : Int32) : Mm := (fun k' => if k' = k then upd (M.1 k) j v else M.1 k', M.2)
def mhis (M : Mm) (h : Nat → Nat) : Mm := (M.1, h)
abbrev Yt : Type := Launch × va_G × (Nat → ClassId) × (Nat → Nat)
def Yad (Y : Yt) : Nat → Nat := Y.2.2.2
def isB (b : Nat) : Prop := b = 1 ∨ (∃ i, i < 7 ∧ b = 35 + 26 * i) ∨ b = 218 ∨ b = 244
def cGb (cy : Nat → ClassId) (ad : Nat → Nat) (r : Nat → Int32) (b k : Nat) : va_E :=
  if k = b then .inr (0, [.ref (ad (b + 1)), .int (r 1), .int (r 2), .int (r 3), .int (r 4), .int (r 5)])
  else if k = b + 1 then .inl (cy 4, 24, .inr (.inr (.inr (.inr (fun i => some (ad (b + 2 + i)))))))
  else .inr (4, [.int (r 0), .int (r 1), .int (r 2), .int (r 3), .int (r 4), .int (r 5), .int (r 6)])
def cG1 (cy : Nat → ClassId) (ad : Nat → Nat) (h : Nat → Nat) (r : Nat → Int32) (k : Nat) : va_E :=
  if k = 27 then .inr (1, [.ref (ad 28), .ref (ad 29)])
  else if k = 30 then .inr (3, [.ref (ad 31), .int (r 1)])
  else if k = 31 then .inl (cy 0, 80, .inl r)
  else if k = 32 then .inr (5, [.int (r 0), .int (r 1), .int (r 2), .int (r 3), .int (r 4), .int (r 5)])
  else if k = 33 then .inr (2, [.ref (ad 34), .int (r 1)])
  else if k = 34 then .inl (cy 3, 7, .inr (.inr (.inr (.inr (fun i => some (ad (h i)))))))
  else .inl (cy 1, 24, .inl r)
def cG2 (cy : Nat → ClassId) (ad : Nat → Nat) (r : Nat → Int32) (k : Nat) : va_E :=
  if k = 270 then .inr (7, [.ref (ad 271), .ref (ad 272), .ref (ad 273), .ref (ad 274), .int (r 4), .ref (ad 275), .int (r 6), .ref (ad 276), .ref (ad 277), .ref (ad 278), .ref (ad 279), .ref (ad 280), .int (r 12), .int (r 13), .int (r 14)])
  else if k = 271 then .inl (cy 1, 173, .inl r)
  else if k = 272 then .inl (cy 1, 1038, .inl r)
  else if k = 273 then .inl (cy 1, 346, .inl r)
  else if k = 274 then .inl (cy 2, 2, .inl r)
  else if k = 275 then .inl (cy 0, 80, .inl r)
  else if k = 277 then .inl (cy 1, 2, .inl r)
  else if k = 280 then .inl (cy 1, 112, .inl r)
  else .inl (cy 1, 24, .inl r)
def cG (cy : Nat → ClassId) (ad : Nat → Nat) (h : Nat → Nat) (r : Nat → Int32) (k : Nat) : va_E :=
  if k < 27 then (if k = 0 then .inr (6, [.ref (ad 1), .ref (ad 27), .ref (ad 30), .ref (ad 32), .ref (ad 33), .ref (ad 217), .int (r 6)]) else cGb cy ad r 1 k)
  else if k < 35 then cG1 cy ad h r k
  else if k < 217 then cGb cy ad r (35 + 26 * ((k - 35) / 26)) k
  else if k = 217 then .inl (cy 3, 2, .inr (.inr (.inr (.inr (fun i => some (ad (218 + 26 * i)))))))
  else if k < 270 then cGb cy ad r (218 + 26 * ((k - 218) / 26)) k
  else cG2 cy ad r k
theorem isB_cases {b : Nat} (h : isB b) : b = 1 ∨ b = 35 ∨ b = 61 ∨ b = 87 ∨ b = 113 ∨ b = 139 ∨ b = 165 ∨ b = 191 ∨ b = 218 ∨ b = 244 := by
  rcases h with h | ⟨i, hi, h⟩ | h | h <;> omega
theorem isB_lt {b : Nat} (h : isB b) : b + 26 ≤ 270 := by
  rcases isB_cases h with h | h | h | h | h | h | h | h | h | h <;> omega
theorem isB_1 : isB 1 := Or.inl rfl
theorem isB_218 : isB 218 := Or.inr (Or.inr (Or.inl rfl))
theorem isB_244 : isB 244 := Or.inr (Or.inr (Or.inr rfl))
theorem isB_h {i : Nat} (h : i < 7) : isB (35 + 26 * i) := Or.inr (Or.inl ⟨i, h, rfl⟩)
theorem cG_gb {cy : Nat → ClassId} {ad : Nat → Nat} {h : Nat → Nat} {r : Nat → Int32} {b : Nat} (hb : isB b) (j : Nat) (hj : j < 26) : cG cy ad h r (b + j) = cGb cy ad r b (b + j) := by
  unfold cG
  rcases hb with rfl | ⟨i, hi, rfl⟩ | rfl | rfl
  · rw [if_pos (by omega), if_neg (by omega)]
  · rw [if_neg (by omega), if_neg (by omega), if_pos (by omega)]
    have e : (35 + 26 * i + j - 35) / 26 = i := by omega
    rw [e]
  · rw [if_neg (by omega), if_neg (by omega), if_neg (by omega), if_neg (by omega), if_pos (by omega)]
    have e : (218 + j - 218) / 26 = 0 := by omega
    rw [e]
  · rw [if_neg (by omega), if_neg (by omega), if_neg (by omega), if_neg (by omega), if_pos (by omega)]
    have e : (244 + j - 218) / 26 = 1 := by omega
    rw [e]
theorem cG_B {cy : Nat → ClassId} {ad : Nat → Nat} {h : Nat → Nat} {r : Nat → Int32} {b : Nat} (hb : isB b) : cG cy ad h r b = .inr (0, [.ref (ad (b + 1)), .int (r 1), .int (r 2), .int (r 3), .int (r 4), .int (r 5)]) := by
  have e := cG_gb (cy := cy) (ad := ad) (h := h) (r := r) hb 0 (by omega)
  rw [Nat.add_zero] at e
  rw [e, cGb, if_pos rfl]
theorem cG_R {cy : Nat → ClassId} {ad : Nat → Nat} {h : Nat → Nat} {r : Nat → Int32} {b : Nat} (hb : isB b) : cG cy ad h r (b + 1) = .inl (cy 4, 24, .inr (.inr (.inr (.inr (fun i => some (ad (b + 2 + i))))))) := by
  rw [cG_gb hb 1 (by omega), cGb, if_neg (by omega), if_pos rfl]
theorem cG_P {cy : Nat → ClassId} {ad : Nat → Nat} {h : Nat → Nat} {r : Nat → Int32} {b i : Nat} (hb : isB b) (hi : i < 24) : cG cy ad h r (b + 2 + i) = .inr (4, [.int (r 0), .int (r 1), .int (r 2), .int (r 3), .int (r 4), .int (r 5), .int (r 6)]) := by
  rw [show b + 2 + i = b + (2 + i) by omega, cG_gb hb (2 + i) (by omega), cGb, if_neg (by omega), if_neg (by omega)]
def wl (cy : Nat → ClassId) (ad : Nat → Nat) (M : Mm) : va_W := (List.range 281).map (fun k => (ad k, cG cy ad M.2 (M.1 k) k))
theorem wl_get {cy : Nat → ClassId} {ad : Nat → Nat} {M : Mm} {k : Nat} {e : va_E} (hk : k < 281) (he : cG cy ad M.2 (M.1 k) k = e) : (wl cy ad M)[k]? = some (ad k, e) := by
  unfold wl
  rw [List.getElem?_map, List.getElem?_range hk, Option.map_some, he]
theorem wl_set {cy : Nat → ClassId} {ad : Nat → Nat} {M M' : Mm} {k : Nat} {e : va_E} (he : cG cy ad M'.2 (M'.1 k) k = e) (ho : ∀ k', k' ≠ k → cG cy ad M'.2 (M'.1 k') k' = cG cy ad M.2 (M.1 k') k') : (wl cy ad M).set k (ad k, e) = wl cy ad M' := by
  unfold wl
  apply List.ext_getElem?
  intro i
  rw [List.getElem?_set, List.length_map, List.length_range]
  by_cases hik : k = i
  · subst hik
    rw [if_pos rfl]
    by_cases hk : k < 281
    · rw [if_pos hk, List.getElem?_map, List.getElem?_range hk, Option.map_some, he]
    · rw [if_neg hk, List.getElem?_map, List.getElem?_eq_none (by simp; omega)]
      rfl
  · rw [if_neg hik, List.getElem?_map, List.getElem?_map]
    by_cases hi : i < 281
    · rw [List.getElem?_range hi, Option.map_some, Option.map_some, ho i (fun h => hik h.symm)]
    · rw [List.getElem?_eq_none (by simp; omega)]
      rfl
theorem mset_s {M : Mm} {k j : Nat} {v : Int32} : (mset M k j v).1 k = upd (M.1 k) j v := by unfold mset; exact if_pos rfl
theorem mset_n {M : Mm} {k j k' : Nat} {v : Int32} (h : k' ≠ k) : (mset M k j v).1 k' = M.1 k' := by unfold mset; exact if_neg h
theorem wl_mset {cy : Nat → ClassId} {ad : Nat → Nat} {M : Mm} {k j : Nat} {v : Int32} {e : va_E} (he : cG cy ad M.2 (upd (M.1 k) j v) k = e) : (wl cy ad M).set k (ad k, e) = wl cy ad (mset M k j v) :=
  wl_set (by rw [mset_s]; exact he) (fun k' h => by rw [mset_n h]; rfl)
def lg : List (Option Value) → Nat → Option Value
  | [], _ => none
  | a :: _, 0 => a
  | _ :: t, n + 1 => lg t n
def lset : List (Option Value) → Nat → Option Value → List (Option Value)
  | [], _, _ => []
  | _ :: t, 0, v => v :: t
  | a :: t, n + 1, v => a :: lset t n v
def la : Nat → List (Option Value) → List (Nat × Value)
  | _, [] => []
  | k, none :: t => la (k + 1) t
  | k, some v :: t => (k, v) :: la (k + 1) t
theorem la_mem {L : List (Option Value)} {k : Nat} {q : Nat × Value} : q ∈ la k L ↔ k ≤ q.1 ∧ lg L (q.1 - k) = some q.2 := by
  induction L generalizing k with
  | nil => simp [la, lg]
  | cons a t ih =>
    obtain ⟨i, v⟩ := q
    have h2 : (i, v) ∈ la (k + 1) t ↔ k + 1 ≤ i ∧ lg t (i - (k + 1)) = some v := ih
    rcases Nat.lt_trichotomy i k with h | h | h
    · cases a with
      | none => simp only [la]; rw [h2]; constructor <;> (intro g; omega)
      | some w => simp only [la, List.mem_cons, Prod.mk.injEq]; rw [h2]; constructor <;> (intro g; omega)
    · subst h
      rw [Nat.sub_self]
      cases a with
      | none => simp only [la, lg]; rw [h2]; constructor <;> intro g; omega; cases g.2
      | some w =>
        simp only [la, List.mem_cons, Prod.mk.injEq, lg]; rw [h2]
        constructor
        · intro g
          rcases g with g | g
          · exact ⟨Nat.le_refl _, by rw [g.2]⟩
          · omega
        · intro g
          exact Or.inl ⟨trivial, (Option.some.inj g.2).symm⟩
    · obtain ⟨d, rfl⟩ : ∃ d, i = k + 1 + d := ⟨i - (k + 1), by omega⟩
      have e1 : k + 1 + d - k = d + 1 := by omega
      have e2 : k + 1 + d - (k + 1) = d := by omega
      rw [e1]
      rw [e2] at h2
      cases a with
      | none => simp only [la, lg]; rw [h2]; constructor <;> (intro g; exact ⟨by omega, g.2⟩)
      | some w =>
        simp only [la, lg, List.mem_cons, Prod.mk.injEq]; rw [h2]
        constructor
        · intro g
          rcases g with g | g
          · omega
          · exact ⟨by omega, g.2⟩
        · intro g
          exact Or.inr ⟨by omega, g.2⟩
theorem lset_len {L : List (Option Value)} {i : Nat} {v : Option Value} : (lset L i v).length = L.length := by
  induction L generalizing i with
  | nil => rfl
  | cons a t ih =>
    cases i with
    | zero => rfl
    | succ n => show (lset t n v).length + 1 = t.length + 1; rw [ih]
theorem lg_lset_n {L : List (Option Value)} {i j : Nat} {v : Option Value} (h : j ≠ i) : lg (lset L i v) j = lg L j := by
  induction L generalizing i j with
  | nil => rfl
  | cons a t ih =>
    cases i with
    | zero => cases j with
      | zero => exact absurd rfl h
      | succ n => rfl
    | succ i => cases j with
      | zero => rfl
      | succ n => exact ih (fun e => h (by rw [e]))
theorem lg_lset_s {L : List (Option Value)} {i : Nat} {v w : Value} (h : lg (lset L i (some v)) i = some w) : w = v := by
  induction L generalizing i with
  | nil => cases h
  | cons a t ih =>
    cases i with
    | zero => exact (Option.some.inj h).symm
    | succ i => exact ih h
theorem lg_lset_o {L : List (Option Value)} {i : Nat} {w : Value} (h : lg (lset L i none) i = some w) : False := by
  induction L generalizing i with
  | nil => cases h
  | cons a t ih =>
    cases i with
    | zero => cases h
    | succ i => exact ih h
def lc (L : List (Option Value)) : Nat → Bool
  | 0 => true
  | j + 1 => match lg L j with
    | some (.long _) => false
    | some (.double _) => false
    | _ => true
theorem lc_spec {L : List (Option Value)} {i j : Nat} {v : Value} (h : lc L i = true) (hj : j + 1 = i) (hv : lg L j = some v) : v.category ≠ 2 := by
  subst hj
  intro hc
  simp only [lc, hv] at h
  cases v <;> simp_all [Value.category]
def lw (ls : Array Slot) (L : List (Option Value)) : Prop := lv_has ls L.length (la 0 L)
theorem lw_at {ls : Array Slot} {L : List (Option Value)} {i : Nat} {v : Value} (h : lw ls L) (hg : lg L i = some v) : ls[i]? = some (.val v) := h.2.2 (i, v) (la_mem.mpr ⟨Nat.zero_le _, hg⟩)
theorem lw_set1 {ls : Array Slot} {L : List (Option Value)} {i : Nat} {v : Value} (hc : lc L i = true) (h : lv_has ls L.length ((i, v) :: (la 0 L).filter (fun q => !(q.1 == i) && !(q.1 + 1 == i && q.2.category == 2)))) : lw ls (lset L i (some v)) := by
  refine ⟨by rw [lset_len]; exact h.1, h.2.1, fun q hq => h.2.2 q ?_⟩
  obtain ⟨j, w⟩ := q
  have hg : lg (lset L i (some v)) j = some w := (la_mem.mp hq).2
  by_cases hj : j = i
  · subst hj
    rw [lg_lset_s hg]
    exact List.mem_cons_self
  · rw [lg_lset_n hj] at hg
    refine List.mem_cons_of_mem _ (List.mem_filter.mpr ⟨la_mem.mpr ⟨Nat.zero_le _, hg⟩, ?_⟩)
    have h2 : j + 1 = i → w.category ≠ 2 := fun e => lc_spec hc e hg
    by_cases h3 : j + 1 = i
    · simp [hj, h2 h3]
    · simp [hj, h3]
theorem lw_set2 {ls : Array Slot} {L : List (Option Value)} {i : Nat} {v : Value} (hc : lc L i = true) (h : lv_has ls L.length ((i, v) :: (la 0 L).filter (fun q => !(q.1 == i) && (!(q.1 == i + 1) && !(q.1 + 1 == i && q.2.category == 2))))) : lw ls (lset (lset L i (some v)) (i + 1) none) := by
  refine ⟨by rw [lset_len, lset_len]; exact h.1, h.2.1, fun q hq => h.2.2 q ?_⟩
  obtain ⟨j, w⟩ := q
  have hg : lg (lset (lset L i (some v)) (i + 1) none) j = some w := (la_mem.mp hq).2
  by_cases h1 : j = i + 1
  · subst h1
    exact absurd hg (fun g => lg_lset_o g)
  · rw [lg_lset_n h1] at hg
    by_cases hj : j = i
    · subst hj
      rw [lg_lset_s hg]
      exact List.mem_cons_self
    · rw [lg_lset_n hj] at hg
      refine List.mem_cons_of_mem _ (List.mem_filter.mpr ⟨la_mem.mpr ⟨Nat.zero_le _, hg⟩, ?_⟩)
      have h2 : j + 1 = i → w.category ≠ 2 := fun e => lc_spec hc e hg
      by_cases h3 : j + 1 = i
      · simp [hj, h1, h2 h3]
      · simp [hj, h1, h3]
def lsub (L : List (Option Value)) : Nat → List (Option Value) → Prop
  | _, [] => True
  | k, none :: t => lsub L (k + 1) t
  | k, some v :: t => lg L k = some v ∧ lsub L (k + 1) t
theorem lsub_mem {L : List (Option Value)} {k : Nat} {L' : List (Option Value)} (h : lsub L k L') : ∀ q ∈ la k L', lg L q.1 = some q.2 := by
  induction L' generalizing k with
  | nil => intro q hq; cases hq
  | cons a t ih =>
    cases a with
    | none => exact ih h
    | some v =>
      intro q hq
      rcases List.mem_cons.mp hq with rfl | hq
      · exact h.1
      · exact ih h.2 q hq
theorem lw_sub {ls : Array Slot} {L L' : List (Option Value)} (hlen : L'.length = L.length) (h : lsub L 0 L') (hl : lw ls L) : lw ls L' :=
  ⟨by rw [hlen]; exact hl.1, hl.2.1, fun q hq => lw_at hl (lsub_mem h q hq)⟩
abbrev XT : Type := Program × Env × Room × State × MethodId × Array Value × List Frame × Method × Code × Nat × Nat × (State → Prop) × (Nat → Prop)
def V (Y : Yt) (X : XT) (M : Mm) (pc : Nat) (L : List (Option Value)) (st : List Value) : Prop :=
  match Y, X with
  | (l, D, cy, ad), (p, e, R, s, m, args, below, meth, c, cells, slots, Q, A) =>
    ∀ (H : Heap) (locs : List Loc) (ls : Array Slot), va_P D vwCl (wl cy ad M) H → va_S A s.heap H locs → lw ls L → W p l e R s m args below meth c H locs cells slots Q (F0 m pc ls st)
def tq (cy : Nat → ClassId) : List (ClassId × FieldType) := [(cy 0, .char), (cy 1, .int), (cy 2, .boolean), (cy 3, .object "PointAnswers$Bundle"), (cy 4, .object "PointAnswers$Point")]
def nM : List (String × Nat × MethodName × String) := [("PointAnswers", 11, ⟨"PointAnswers$Bundle", "<init>", "()V"⟩, "PointAnswers"), ("PointAnswers$Bundle", 24, ⟨"PointAnswers$Point", "<init>", "()V"⟩, "PointAnswers"), ("PointAnswers", 18, ⟨"PointAnswers$Costs", "<init>", "()V"⟩, "PointAnswers"), ("PointAnswers", 25, ⟨"PointAnswers$Pad", "<init>", "()V"⟩, "PointAnswers"), ("PointAnswers", 32, ⟨"PointAnswers$Reader", "<init>", "()V"⟩, "PointAnswers"), ("PointAnswers", 39, ⟨"PointAnswers$History", "<init>", "()V"⟩, "PointAnswers"), ("PointAnswers$History", 17, ⟨"PointAnswers$Bundle", "<init>", "()V"⟩, "PointAnswers"), ("PointAnswers", 48, ⟨"PointAnswers$History", "prepare", "(LPointAnswers$Bundle;)V"⟩, "PointAnswers"), ("PointAnswers$History", 26, ⟨"PointAnswers$Bundle", "become", "(LPointAnswers$Bundle;)V"⟩, "PointAnswers"), ("PointAnswers$Bundle", 38, ⟨"PointAnswers$Point", "become", "(LPointAnswers$Point;)V"⟩, "PointAnswers"), ("PointAnswers", 52, ⟨"PointAnswers$Bundle", "adjust", "(II)I"⟩, "PointAnswers"), ("PointAnswers", 56, ⟨"PointAnswers$History", "settle", "(I)I"⟩, "PointAnswers"), ("PointAnswers", 60, ⟨"PointAnswers$Bundle", "fileClaim", "(III)I"⟩, "PointAnswers"), ("PointAnswers", 64, ⟨"PointAnswers$Bundle", "fileAnswer", "(III)I"⟩, "PointAnswers"), ("PointAnswers", 67, ⟨"PointAnswers$Bundle", "takeBack", "(I)I"⟩, "PointAnswers"), ("PointAnswers$Bundle", 86, ⟨"PointAnswers", "has", "(II)Z"⟩, "PointAnswers"), ("PointAnswers", 70, ⟨"PointAnswers$Bundle", "prolong", "(I)I"⟩, "PointAnswers"), ("PointAnswers", 73, ⟨"PointAnswers$Bundle", "turnCase", "(I)I"⟩, "PointAnswers"), ("PointAnswers", 76, ⟨"PointAnswers$Bundle", "moveOn", "(I)I"⟩, "PointAnswers"), ("PointAnswers", 79, ⟨"PointAnswers$Bundle", "find", "(I)LPointAnswers$Point;"⟩, "PointAnswers"), ("PointAnswers", 101, ⟨"PointAnswers$Bundle", "standing", "()I"⟩, "PointAnswers"), ("PointAnswers", 109, ⟨"PointAnswers$Bundle", "reasonAgainst", "(I)I"⟩, "PointAnswers"), ("PointAnswers", 112, ⟨"PointAnswers$Bundle", "answersTo", "(I)I"⟩, "PointAnswers"), ("PointAnswers", 118, ⟨"PointAnswers$Bundle", "depthOf", "(I)I"⟩, "PointAnswers"), ("PointAnswers", 121, ⟨"PointAnswers$Bundle", "daysLeft", "(LPointAnswers$Point;)I"⟩, "PointAnswers"), ("PointAnswers", 131, ⟨"PointAnswers$Bundle", "claims", "()I"⟩, "PointAnswers"), ("PointAnswers", 139, ⟨"PointAnswers$Bundle", "out", "()I"⟩, "PointAnswers"), ("PointAnswers", 142, ⟨"PointAnswers$Bundle", "answered", "()I"⟩, "PointAnswers"), ("PointAnswers", 145, ⟨"PointAnswers$Bundle", "withdrawn", "()I"⟩, "PointAnswers"), ("PointAnswers", 148, ⟨"PointAnswers$Bundle", "struck", "()I"⟩, "PointAnswers"), ("PointAnswers", 151, ⟨"PointAnswers$Bundle", "pagesOf", "(II)I"⟩, "PointAnswers"), ("PointAnswers", 169, ⟨"PointAnswers$Bundle", "ofSide", "(I)I"⟩, "PointAnswers"), ("PointAnswers", 175, ⟨"PointAnswers$Costs", "weigh", "(LPointAnswers$Bundle;)V"⟩, "PointAnswers"), ("PointAnswers$Costs", 18, ⟨"PointAnswers$Bundle", "out", "()I"⟩, "PointAnswers"), ("PointAnswers$Costs", 24, ⟨"PointAnswers$Bundle", "withoutAnswers", "()I"⟩, "PointAnswers"), ("PointAnswers$Costs", 27, ⟨"PointAnswers$Bundle", "find", "(I)LPointAnswers$Point;"⟩, "PointAnswers"), ("PointAnswers$Costs", 31, ⟨"PointAnswers", "has", "(II)Z"⟩, "PointAnswers"), ("PointAnswers", 178, ⟨"PointAnswers$Costs", "answersToFall", "(I)I"⟩, "PointAnswers"), ("PointAnswers", 181, ⟨"PointAnswers$Costs", "answersToStand", "(I)I"⟩, "PointAnswers"), ("PointAnswers", 184, ⟨"PointAnswers$Bundle", "standingIf", "(II)I"⟩, "PointAnswers"), ("PointAnswers", 187, ⟨"PointAnswers$Bundle", "withoutAnswers", "()I"⟩, "PointAnswers"), ("PointAnswers", 190, ⟨"PointAnswers$Bundle", "baseless", "()I"⟩, "PointAnswers"), ("PointAnswers", 193, ⟨"PointAnswers$Bundle", "lapsedOn", "(I)I"⟩, "PointAnswers"), ("PointAnswers", 201, ⟨"PointAnswers$Pad", "signsIn", "(J)I"⟩, "PointAnswers"), ("PointAnswers", 205, ⟨"PointAnswers$Pad", "signOf", "(JI)C"⟩, "PointAnswers"), ("PointAnswers", 209, ⟨"PointAnswers$Pad", "append", "(C)V"⟩, "PointAnswers"), ("PointAnswers", 213, ⟨"PointAnswers$Pad", "empty", "()I"⟩, "PointAnswers"), ("PointAnswers", 216, ⟨"PointAnswers$Reader", "firstFault", "(LPointAnswers$Pad;)I"⟩, "PointAnswers"), ("PointAnswers$Reader", 31, ⟨"PointAnswers$Pad", "signAt", "(I)C"⟩, "PointAnswers"), ("PointAnswers", 220, ⟨"PointAnswers$Reader", "rewind", "()V"⟩, "PointAnswers"), ("PointAnswers", 223, ⟨"PointAnswers$Reader", "readOrder", "(LPointAnswers$Pad;)Z"⟩, "PointAnswers"), ("PointAnswers", 230, ⟨"PointAnswers$Reader", "take", "(LPointAnswers$Pad;C)Z"⟩, "PointAnswers"), ("PointAnswers", 234, ⟨"PointAnswers$History", "bringBack", "(LPointAnswers$Bundle;)I"⟩, "PointAnswers"), ("PointAnswers", 242, ⟨"PointAnswers$Bundle", "become", "(LPointAnswers$Bundle;)V"⟩, "PointAnswers")]
def nF : List (String × Nat × String × String × String × String) := [("PointAnswers$Bundle", 58, "PointAnswers$Point", "side", "I", "PointAnswers"), ("PointAnswers", 83, "PointAnswers$Point", "side", "I", "PointAnswers"), ("PointAnswers$Bundle", 61, "PointAnswers$Point", "pages", "I", "PointAnswers"), ("PointAnswers", 89, "PointAnswers$Point", "pages", "I", "PointAnswers"), ("PointAnswers$Bundle", 64, "PointAnswers$Point", "cases", "I", "PointAnswers"), ("PointAnswers", 98, "PointAnswers$Point", "cases", "I", "PointAnswers"), ("PointAnswers$Costs", 35, "PointAnswers$Point", "target", "I", "PointAnswers"), ("PointAnswers$Bundle", 67, "PointAnswers$Point", "target", "I", "PointAnswers"), ("PointAnswers", 95, "PointAnswers$Point", "target", "I", "PointAnswers"), ("PointAnswers$Bundle", 70, "PointAnswers$Point", "filed", "I", "PointAnswers"), ("PointAnswers", 92, "PointAnswers$Point", "filed", "I", "PointAnswers"), ("PointAnswers$Bundle", 73, "PointAnswers$Point", "lastsFrom", "I", "PointAnswers"), ("PointAnswers$Bundle", 54, "PointAnswers$Point", "withdrawn", "Z", "PointAnswers"), ("PointAnswers", 128, "PointAnswers$Bundle", "size", "I", "PointAnswers"), ("PointAnswers", 125, "PointAnswers$Bundle", "day", "I", "PointAnswers"), ("PointAnswers", 154, "PointAnswers$Bundle", "overruled", "I", "PointAnswers"), ("PointAnswers", 157, "PointAnswers$Bundle", "lapse", "I", "PointAnswers"), ("PointAnswers", 160, "PointAnswers$Bundle", "allowedPages", "I", "PointAnswers"), ("PointAnswers$Reader", 22, "PointAnswers$Pad", "length", "I", "PointAnswers"), ("PointAnswers", 163, "PointAnswers$Pad", "length", "I", "PointAnswers"), ("PointAnswers", 248, "PointAnswers$Reader", "kind", "C", "PointAnswers"), ("PointAnswers", 252, "PointAnswers$Reader", "number", "I", "PointAnswers"), ("PointAnswers", 255, "PointAnswers$Reader", "pages", "I", "PointAnswers"), ("PointAnswers", 256, "PointAnswers$Reader", "cases", "I", "PointAnswers"), ("PointAnswers", 166, "PointAnswers$History", "kept", "I", "PointAnswers")]
def Nn (U : State) : Prop := (∀ q ∈ nM, va_Nw (.methodLinkNest q.1 q.2.1 q.2.2.1 q.2.2.2) U) ∧ (∀ q ∈ nF, va_Nw (.fieldLinkNest q.1 q.2.1 q.2.2.1 q.2.2.2.1 q.2.2.2.2.1 q.2.2.2.2.2) U)
theorem Nn.warm {s U : State} (hW : s.WarmedH U.vm) (h : Nn s) : Nn U := ⟨fun q hq => va_Nw.warmM hW (h.1 q hq), fun q hq => va_Nw.warmF hW (h.2 q hq)⟩
theorem Nn.same {s U : State} (hv : s.vm = U.vm) (h : Nn s) : Nn U := ⟨fun q hq => va_Nw.same rfl hv (h.1 q hq), fun q hq => va_Nw.same rfl hv (h.2 q hq)⟩
def Dd (ad : Nat → Nat) : Prop := ∀ i j, i < 281 → j < 281 → ad i = ad j → i = j
def fA (ad : Nat → Nat) : Nat → Prop := fun q => ∃ k, k < 281 ∧ q = ad k
theorem wl_at {cy : Nat → ClassId} {ad : Nat → Nat} {M : Mm} {i : Nat} {q : Nat × va_E} (h : (wl cy ad M)[i]? = some q) : i < 281 ∧ q.1 = ad i := by
  unfold wl at h
  rw [List.getElem?_map] at h
  by_cases hi : i < 281
  · rw [List.getElem?_range hi, Option.map_some] at h
    exact ⟨hi, by rw [← Option.some.inj h]⟩
  · rw [List.getElem?_eq_none (by simp; omega)] at h
    cases h
theorem wl_D {cy : Nat → ClassId} {ad : Nat → Nat} {A : Nat → Prop} (hd : Dd ad) (hA : ∀ k, k < 281 → A (ad k)) (M : Mm) : va_D A (wl cy ad M) := by
  refine ⟨fun i j p q hp hq e => ?_, fun k q hq => ?_⟩
  · obtain ⟨h1, h2⟩ := wl_at hp
    obtain ⟨h3, h4⟩ := wl_at hq
    exact hd i j h1 h3 (by rw [← h2, ← h4, e])
  · obtain ⟨h1, h2⟩ := wl_at hq
    rw [h2]
    exact hA k h1
def vOK (Y : Yt) (X : XT) (ins : List (Nat × Instr × Nat)) (nL : Nat) (own : String) (rm : Room) (ret : Option FieldType) : Prop :=
  match Y, X with
  | (l, D, cy, ad), (p, e, R, s, m, args, below, meth, c, cells, slots, Q, A) =>
    p.tables.exec = Jvm.exec ∧ (∀ i q, gi ins i = some q → decode c.code q.1 = .ok q.2) ∧ c.maxLocals = nL ∧ (∀ w ∈ wT, w.before args s = true) ∧ s.vm.findClass own = some m.cls ∧ va_K D vwCl (tq cy) s ∧ (Dd ad ∧ ∀ k, k < 281 → A (ad k)) ∧ Nn s ∧ R = rm ∧ meth.sig.returnType = ret ∧ meth.locks = false ∧ cells ≤ R.cells ∧ slots ≤ R.slots
def vQ (Y : Yt) (X : XT) (rv : Option Value) (M' : Mm) : Prop :=
  match Y, X with
  | (l, D, cy, ad), (p, e, R, s, m, args, below, meth, c, cells, slots, Q, A) =>
    Q = MQ below (fun _ st oc t => oc = .returned rv ∧ va_P D vwCl (wl cy ad M') t.heap ∧ va_F (fA ad) st t) args s cells slots (fA ad) ∧ A = fA ad
def wd (Y : Yt) (M : Mm) (U : State) : Prop :=
  match Y with
  | (l, D, cy, ad) => va_P D vwCl (wl cy ad M) U.heap ∧ va_K D vwCl (tq cy) U ∧ Dd ad ∧ Nn U
def Fn (Y : Yt) (y : MethodName) (ws : List Cond) (rm : Room) (As : List Value) (M : Mm) (rv : Option Value) (M' : Mm) : Prop :=
  match Y with
  | (l, D, cy, ad) => Met l y ws rm (va_Pc As (wd (l, D, cy, ad) M)) (fun _ st oc t => oc = .returned rv ∧ va_P D vwCl (wl cy ad M') t.heap ∧ va_F (fA ad) st t) 0 0 (fA ad)
theorem Fn.of {Y : Yt} {y : MethodName} {rm : Room} {As : List Value} {M M' : Mm} {rv : Option Value} {cc : ByteArray} {ins : List (Nat × Instr × Nat)} {maxL : Nat} {ret : Option FieldType} (hy : plainName y.cls = true) (hdc : ins.all (fun q => decide (decode cc q.1 = .ok q.2)) = true) (L0 : List (Option Value)) (hen : (lg_sl As).length ≤ maxL) (hL0 : L0.length = maxL) (hsub : la 0 L0 = lv_args 0 As)
    (body : ∀ X : XT, vOK Y X ins maxL y.cls rm ret → vQ Y X rv M' → V Y X M 0 L0 []) : Fn Y y (Cond.code y cc maxL ret :: wT) rm As M rv M' := by
  obtain ⟨l, D, cy, ad⟩ := Y
  refine Met.ofW (cc := cc) (maxL := maxL) (ret := ret) hy rfl ?_
  intro p e s m args below meth c s₁ B hml hv
  obtain ⟨rfl, hP, hK, hD, hN⟩ := hv
  have hl := lv_entry As hen
  rw [← hsub] at hl
  rw [lg_entry_eq]
  exact body (p, e, rm, s, m, As.toArray, below, meth, c, 0, 0, MQ below (fun _ st oc t => oc = .returned rv ∧ va_P D vwCl (wl cy ad M') t.heap ∧ va_F (fA ad) st t) As.toArray s 0 0 (fA ad), fA ad)
    ⟨B.exec, by rw [B.bytes]; exact dcd hdc, hml, fun w hw => atoms_spec (ws := Cond.code y cc maxL ret :: wT) B.pre w (List.mem_cons_of_mem _ hw), findClass_of_methodNamed B.named, hK, ⟨hD, fun k hk => ⟨k, hk, rfl⟩⟩, hN, rfl, B.returns, B.notSynchronized, Nat.zero_le _, Nat.zero_le _⟩ ⟨rfl, rfl⟩ s.heap [] _ hP va_S.rf (by subst hL0; exact hl)
section VV
variable {Y : Yt} {X : XT} {M M' : Mm} {pc : Nat} {L : List (Option Value)} {st : List Value} {ins : List (Nat × Instr × Nat)} {nL : Nat} {own : String} {rm : Room} {ret : Option FieldType}
theorem v_iconst (hX : vOK Y X ins nL own rm ret) {n : Int} {v : Int32} (ix : Nat) (hd : gi ins ix = some (pc, .iconst n, 1)) (hv : Int32.ofInt n = v) (kk : V Y X M (pc + 1) L (.int v :: st)) : V Y X M pc L st := by
  obtain ⟨l, D, cy, ad⟩ := Y
  obtain ⟨p, e, R, s, m, args, below, meth, c, cells, slots, Q, A⟩ := X
  obtain ⟨hx, hcd, hml, hts, hown, hK, ⟨hdd, hda⟩, hN, rfl, hret, hlk, hcl, hsl⟩ := hX
  intro H locs ls hP hS hl
  have hd := hcd ix _ hd
  exact lv_iconst hx rfl hd hv (kk H locs ls hP hS hl)
theorem v_bipush (hX : vOK Y X ins nL own rm ret) {n : Int} {v : Int32} (ix : Nat) (hd : gi ins ix = some (pc, .bipush n, 2)) (hv : (Int8.ofInt n).toInt32 = v) (kk : V Y X M (pc + 2) L (.int v :: st)) : V Y X M pc L st := by
  obtain ⟨l, D, cy, ad⟩ := Y
  obtain ⟨p, e, R, s, m, args, below, meth, c, cells, slots, Q, A⟩ := X
  obtain ⟨hx, hcd, hml, hts, hown, hK, ⟨hdd, hda⟩, hN, rfl, hret, hlk, hcl, hsl⟩ := hX
  intro H locs ls hP hS hl
  have hd := hcd ix _ hd
  exact lv_bipush hx rfl hd hv (kk H locs ls hP hS hl)
theorem v_sipush (hX : vOK Y X ins nL own rm ret) {n : Int} {v : Int32} (ix : Nat) (hd : gi ins ix = some (pc, .sipush n, 3)) (hv : (Int16.ofInt n).toInt32 = v) (kk : V Y X M (pc + 3) L (.int v :: st)) : V Y X M pc L st := by
  obtain ⟨l, D, cy, ad⟩ := Y
  obtain ⟨p, e, R, s, m, args, below, meth, c, cells, slots, Q, A⟩ := X
  obtain ⟨hx, hcd, hml, hts, hown, hK, ⟨hdd, hda⟩, hN, rfl, hret, hlk, hcl, hsl⟩ := hX
  intro H locs ls hP hS hl
  have hd := hcd ix _ hd
  exact lv_sipush hx rfl hd hv (kk H locs ls hP hS hl)
theorem v_lconst (hX : vOK Y X ins nL own rm ret) {n : Fin 2} {v : Int64} (ix : Nat) (hd : gi ins ix = some (pc, .lconst n, 1)) (hv : Int64.ofNat (n : Nat) = v) (kk : V Y X M (pc + 1) L (.long v :: st)) : V Y X M pc L st := by
  obtain ⟨l, D, cy, ad⟩ := Y
  obtain ⟨p, e, R, s, m, args, below, meth, c, cells, slots, Q, A⟩ := X
  obtain ⟨hx, hcd, hml, hts, hown, hK, ⟨hdd, hda⟩, hN, rfl, hret, hlk, hcl, hsl⟩ := hX
  intro H locs ls hP hS hl
  have hd := hcd ix _ hd
  exact lv_lconst hx rfl hd hv (kk H locs ls hP hS hl)
theorem v_null (hX : vOK Y X ins nL own rm ret) (ix : Nat) (hd : gi ins ix = some (pc, .aconst_null, 1)) (kk : V Y X M (pc + 1) L (.null :: st)) : V Y X M pc L st := by
  obtain ⟨l, D, cy, ad⟩ := Y
  obtain ⟨p, e, R, s, m, args, below, meth, c, cells, slots, Q, A⟩ := X
  obtain ⟨hx, hcd, hml, hts, hown, hK, ⟨hdd, hda⟩, hN, rfl, hret, hlk, hcl, hsl⟩ := hX
  intro H locs ls hP hS hl
  have hd := hcd ix _ hd
  exact lv_null hx rfl hd (kk H locs ls hP hS hl)
theorem v_iload_n (hX : vOK Y X ins nL own rm ret) {k : Fin 4} (i : Nat) {x : Int32} (ix : Nat) (hd : gi ins ix = some (pc, .iload_n k, 1)) (hi : (k : Nat) = i) (hg : lg L i = some (.int x)) (kk : V Y X M (pc + 1) L (.int x :: st)) : V Y X M pc L st := by
  obtain ⟨l, D, cy, ad⟩ := Y
  obtain ⟨p, e, R, s, m, args, below, meth, c, cells, slots, Q, A⟩ := X
  obtain ⟨hx, hcd, hml, hts, hown, hK, ⟨hdd, hda⟩, hN, rfl, hret, hlk, hcl, hsl⟩ := hX
  intro H locs ls hP hS hl
  have hd := hcd ix _ hd
  exact lv_iload_n hx rfl hd hi (lw_at hl hg) (kk H locs ls hP hS hl)
theorem v_iload (hX : vOK Y X ins nL own rm ret) {i : Nat} {x : Int32} (ix : Nat) (hd : gi ins ix = some (pc, .iload i, 2)) (hg : lg L i = some (.int x)) (kk : V Y X M (pc + 2) L (.int x :: st)) : V Y X M pc L st := by
  obtain ⟨l, D, cy, ad⟩ := Y
  obtain ⟨p, e, R, s, m, args, below, meth, c, cells, slots, Q, A⟩ := X
  obtain ⟨hx, hcd, hml, hts, hown, hK, ⟨hdd, hda⟩, hN, rfl, hret, hlk, hcl, hsl⟩ := hX
  intro H locs ls hP hS hl
  have hd := hcd ix _ hd
  exact lv_iload hx rfl hd (lw_at hl hg) (kk H locs ls hP hS hl)
theorem v_lload_n (hX : vOK Y X ins nL own rm ret) {k : Fin 4} (i : Nat) {x : Int64} (ix : Nat) (hd : gi ins ix = some (pc, .lload_n k, 1)) (hi : (k : Nat) = i) (hg : lg L i = some (.long x)) (kk : V Y X M (pc + 1) L (.long x :: st)) : V Y X M pc L st := by
  obtain ⟨l, D, cy, ad⟩ := Y
  obtain ⟨p, e, R, s, m, args, below, meth, c, cells, slots, Q, A⟩ := X
  obtain ⟨hx, hcd, hml, hts, hown, hK, ⟨hdd, hda⟩, hN, rfl, hret, hlk, hcl, hsl⟩ := hX
  intro H locs ls hP hS hl
  have hd := hcd ix _ hd
  exact lv_lload_n hx rfl hd hi (lw_at hl hg) (kk H locs ls hP hS hl)
theorem v_lload (hX : vOK Y X ins nL own rm ret) {i : Nat} {x : Int64} (ix : Nat) (hd : gi ins ix = some (pc, .lload i, 2)) (hg : lg L i = some (.long x)) (kk : V Y X M (pc + 2) L (.long x :: st)) : V Y X M pc L st := by
  obtain ⟨l, D, cy, ad⟩ := Y
  obtain ⟨p, e, R, s, m, args, below, meth, c, cells, slots, Q, A⟩ := X
  obtain ⟨hx, hcd, hml, hts, hown, hK, ⟨hdd, hda⟩, hN, rfl, hret, hlk, hcl, hsl⟩ := hX
  intro H locs ls hP hS hl
  have hd := hcd ix _ hd
  exact lv_lload hx rfl hd (lw_at hl hg) (kk H locs ls hP hS hl)
theorem v_aload_n (hX : vOK Y X ins nL own rm ret) {k : Fin 4} (i : Nat) {x : Nat} (ix : Nat) (hd : gi ins ix = some (pc, .aload_n k, 1)) (hi : (k : Nat) = i) (hg : lg L i = some (.ref x)) (kk : V Y X M (pc + 1) L (.ref x :: st)) : V Y X M pc L st := by
  obtain ⟨l, D, cy, ad⟩ := Y
  obtain ⟨p, e, R, s, m, args, below, meth, c, cells, slots, Q, A⟩ := X
  obtain ⟨hx, hcd, hml, hts, hown, hK, ⟨hdd, hda⟩, hN, rfl, hret, hlk, hcl, hsl⟩ := hX
  intro H locs ls hP hS hl
  have hd := hcd ix _ hd
  exact lv_aload_n hx rfl hd hi (lw_at hl hg) (kk H locs ls hP hS hl)
theorem v_aload (hX : vOK Y X ins nL own rm ret) {i : Nat} {x : Nat} (ix : Nat) (hd : gi ins ix = some (pc, .aload i, 2)) (hg : lg L i = some (.ref x)) (kk : V Y X M (pc + 2) L (.ref x :: st)) : V Y X M pc L st := by
  obtain ⟨l, D, cy, ad⟩ := Y
  obtain ⟨p, e, R, s, m, args, below, meth, c, cells, slots, Q, A⟩ := X
  obtain ⟨hx, hcd, hml, hts, hown, hK, ⟨hdd, hda⟩, hN, rfl, hret, hlk, hcl, hsl⟩ := hX
  intro H locs ls hP hS hl
  have hd := hcd ix _ hd
  exact lv_aload hx rfl hd (lw_at hl hg) (kk H locs ls hP hS hl)
theorem v_aload_nN (hX : vOK Y X ins nL own rm ret) {k : Fin 4} (i : Nat) (ix : Nat) (hd : gi ins ix = some (pc, .aload_n k, 1)) (hi : (k : Nat) = i) (hg : lg L i = some .null) (kk : V Y X M (pc + 1) L (.null :: st)) : V Y X M pc L st := by
  obtain ⟨l, D, cy, ad⟩ := Y
  obtain ⟨p, e, R, s, m, args, below, meth, c, cells, slots, Q, A⟩ := X
  obtain ⟨hx, hcd, hml, hts, hown, hK, ⟨hdd, hda⟩, hN, rfl, hret, hlk, hcl, hsl⟩ := hX
  intro H locs ls hP hS hl
  have hd := hcd ix _ hd
  exact lv_aload_nN hx rfl hd hi (lw_at hl hg) (kk H locs ls hP hS hl)
theorem v_aloadN (hX : vOK Y X ins nL own rm ret) {i : Nat} (ix : Nat) (hd : gi ins ix = some (pc, .aload i, 2)) (hg : lg L i = some .null) (kk : V Y X M (pc + 2) L (.null :: st)) : V Y X M pc L st := by
  obtain ⟨l, D, cy, ad⟩ := Y
  obtain ⟨p, e, R, s, m, args, below, meth, c, cells, slots, Q, A⟩ := X
  obtain ⟨hx, hcd, hml, hts, hown, hK, ⟨hdd, hda⟩, hN, rfl, hret, hlk, hcl, hsl⟩ := hX
  intro H locs ls hP hS hl
  have hd := hcd ix _ hd
  exact lv_aloadN hx rfl hd (lw_at hl hg) (kk H locs ls hP hS hl)
theorem v_istore_n (hX : vOK Y X ins nL own rm ret) {k : Fin 4} (i : Nat) {x : Int32} (ix : Nat) (hd : gi ins ix = some (pc, .istore_n k, 1)) (hi : (k : Nat) = i) (hn : i < L.length) (hc : lc L i = true) (kk : V Y X M (pc + 1) (lset L i (some (.int x))) st) : V Y X M pc L (.int x :: st) := by
  obtain ⟨l, D, cy, ad⟩ := Y
  obtain ⟨p, e, R, s, m, args, below, meth, c, cells, slots, Q, A⟩ := X
  obtain ⟨hx, hcd, hml, hts, hown, hK, ⟨hdd, hda⟩, hN, rfl, hret, hlk, hcl, hsl⟩ := hX
  intro H locs ls hP hS hl
  have hd := hcd ix _ hd
  exact lv_istore_n hx rfl hd hi hl hn rfl (fun ls2 h2 => kk H locs ls2 hP hS (lw_set1 hc h2))
theorem v_istore (hX : vOK Y X ins nL own rm ret) {i : Nat} {x : Int32} (ix : Nat) (hd : gi ins ix = some (pc, .istore i, 2)) (hn : i < L.length) (hc : lc L i = true) (kk : V Y X M (pc + 2) (lset L i (some (.int x))) st) : V Y X M pc L (.int x :: st) := by
  obtain ⟨l, D, cy, ad⟩ := Y
  obtain ⟨p, e, R, s, m, args, below, meth, c, cells, slots, Q, A⟩ := X
  obtain ⟨hx, hcd, hml, hts, hown, hK, ⟨hdd, hda⟩, hN, rfl, hret, hlk, hcl, hsl⟩ := hX
  intro H locs ls hP hS hl
  have hd := hcd ix _ hd
  exact lv_istore hx rfl hd hl hn rfl (fun ls2 h2 => kk H locs ls2 hP hS (lw_set1 hc h2))
theorem v_astore_n (hX : vOK Y X ins nL own rm ret) {k : Fin 4} (i : Nat) {x : Nat} (ix : Nat) (hd : gi ins ix = some (pc, .astore_n k, 1)) (hi : (k : Nat) = i) (hn : i < L.length) (hc : lc L i = true) (kk : V Y X M (pc + 1) (lset L i (some (.ref x))) st) : V Y X M pc L (.ref x :: st) := by
  obtain ⟨l, D, cy, ad⟩ := Y
  obtain ⟨p, e, R, s, m, args, below, meth, c, cells, slots, Q, A⟩ := X
  obtain ⟨hx, hcd, hml, hts, hown, hK, ⟨hdd, hda⟩, hN, rfl, hret, hlk, hcl, hsl⟩ := hX
  intro H locs ls hP hS hl
  have hd := hcd ix _ hd
  exact lv_astore_n hx rfl hd hi hl hn rfl (fun ls2 h2 => kk H locs ls2 hP hS (lw_set1 hc h2))
theorem v_astore (hX : vOK Y X ins nL own rm ret) {i : Nat} {x : Nat} (ix : Nat) (hd : gi ins ix = some (pc, .astore i, 2)) (hn : i < L.length) (hc : lc L i = true) (kk : V Y X M (pc + 2) (lset L i (some (.ref x))) st) : V Y X M pc L (.ref x :: st) := by
  obtain ⟨l, D, cy, ad⟩ := Y
  obtain ⟨p, e, R, s, m, args, below, meth, c, cells, slots, Q, A⟩ := X
  obtain ⟨hx, hcd, hml, hts, hown, hK, ⟨hdd, hda⟩, hN, rfl, hret, hlk, hcl, hsl⟩ := hX
  intro H locs ls hP hS hl
  have hd := hcd ix _ hd
  exact lv_astore hx rfl hd hl hn rfl (fun ls2 h2 => kk H locs ls2 hP hS (lw_set1 hc h2))
theorem v_astore_nN (hX : vOK Y X ins nL own rm ret) {k : Fin 4} (i : Nat) (ix : Nat) (hd : gi ins ix = some (pc, .astore_n k, 1)) (hi : (k : Nat) = i) (hn : i < L.length) (hc : lc L i = true) (kk : V Y X M (pc + 1) (lset L i (some .null)) st) : V Y X M pc L (.null :: st) := by
  obtain ⟨l, D, cy, ad⟩ := Y
  obtain ⟨p, e, R, s, m, args, below, meth, c, cells, slots, Q, A⟩ := X
  obtain ⟨hx, hcd, hml, hts, hown, hK, ⟨hdd, hda⟩, hN, rfl, hret, hlk, hcl, hsl⟩ := hX
  intro H locs ls hP hS hl
  have hd := hcd ix _ hd
  exact lv_astore_nN hx rfl hd hi hl hn rfl (fun ls2 h2 => kk H locs ls2 hP hS (lw_set1 hc h2))
theorem v_astoreN (hX : vOK Y X ins nL own rm ret) {i : Nat} (ix : Nat) (hd : gi ins ix = some (pc, .astore i, 2)) (hn : i < L.length) (hc : lc L i = true) (kk : V Y X M (pc + 2) (lset L i (some .null)) st) : V Y X M pc L (.null :: st) := by
  obtain ⟨l, D, cy, ad⟩ := Y
  obtain ⟨p, e, R, s, m, args, below, meth, c, cells, slots, Q, A⟩ := X
  obtain ⟨hx, hcd, hml, hts, hown, hK, ⟨hdd, hda⟩, hN, rfl, hret, hlk, hcl, hsl⟩ := hX
  intro H locs ls hP hS hl
  have hd := hcd ix _ hd
  exact lv_astoreN hx rfl hd hl hn rfl (fun ls2 h2 => kk H locs ls2 hP hS (lw_set1 hc h2))
theorem v_lstore_n (hX : vOK Y X ins nL own rm ret) {k : Fin 4} (i : Nat) {x : Int64} (ix : Nat) (hd : gi ins ix = some (pc, .lstore_n k, 1)) (hi : (k : Nat) = i) (hn : i + 1 < L.length) (hc : lc L i = true) (kk : V Y X M (pc + 1) (lset (lset L i (some (.long x))) (i + 1) none) st) : V Y X M pc L (.long x :: st) := by
  obtain ⟨l, D, cy, ad⟩ := Y
  obtain ⟨p, e, R, s, m, args, below, meth, c, cells, slots, Q, A⟩ := X
  obtain ⟨hx, hcd, hml, hts, hown, hK, ⟨hdd, hda⟩, hN, rfl, hret, hlk, hcl, hsl⟩ := hX
  intro H locs ls hP hS hl
  have hd := hcd ix _ hd
  exact lv_lstore_n hx rfl hd hi hl hn rfl (fun ls2 h2 => kk H locs ls2 hP hS (lw_set2 hc h2))
theorem v_lstore (hX : vOK Y X ins nL own rm ret) {i : Nat} {x : Int64} (ix : Nat) (hd : gi ins ix = some (pc, .lstore i, 2)) (hn : i + 1 < L.length) (hc : lc L i = true) (kk : V Y X M (pc + 2) (lset (lset L i (some (.long x))) (i + 1) none) st) : V Y X M pc L (.long x :: st) := by
  obtain ⟨l, D, cy, ad⟩ := Y
  obtain ⟨p, e, R, s, m, args, below, meth, c, cells, slots, Q, A⟩ := X
  obtain ⟨hx, hcd, hml, hts, hown, hK, ⟨hdd, hda⟩, hN, rfl, hret, hlk, hcl, hsl⟩ := hX
  intro H locs ls hP hS hl
  have hd := hcd ix _ hd
  exact lv_lstore hx rfl hd hl hn rfl (fun ls2 h2 => kk H locs ls2 hP hS (lw_set2 hc h2))
theorem v_iinc (hX : vOK Y X ins nL own rm ret) {i : Nat} {n : Int} {x v : Int32} (ix : Nat) (hd : gi ins ix = some (pc, .iinc i n, 3)) (hg : lg L i = some (.int x)) (hv : x + Int32.ofInt n = v) (hn : i < L.length) (hc : lc L i = true) (kk : V Y X M (pc + 3) (lset L i (some (.int v))) st) : V Y X M pc L st := by
  obtain ⟨l, D, cy, ad⟩ := Y
  obtain ⟨p, e, R, s, m, args, below, meth, c, cells, slots, Q, A⟩ := X
  obtain ⟨hx, hcd, hml, hts, hown, hK, ⟨hdd, hda⟩, hN, rfl, hret, hlk, hcl, hsl⟩ := hX
  intro H locs ls hP hS hl
  have hd := hcd ix _ hd
  obtain ⟨q, hq⟩ : ∃ q, (la 0 L)[q]? = some (i, Value.int x) := List.getElem?_of_mem (la_mem.mpr ⟨Nat.zero_le _, hg⟩)
  exact lv_iinc hx rfl hd hl hq hv hn rfl (fun ls2 h2 => kk H locs ls2 hP hS (lw_set1 hc h2))
theorem v_iadd (hX : vOK Y X ins nL own rm ret) {x y : Int32} (ix : Nat) (hd : gi ins ix = some (pc, .iadd, 1)) (kk : V Y X M (pc + 1) L (.int (x + y) :: st)) : V Y X M pc L (.int y :: .int x :: st) := by
  obtain ⟨l, D, cy, ad⟩ := Y
  obtain ⟨p, e, R, s, m, args, below, meth, c, cells, slots, Q, A⟩ := X
  obtain ⟨hx, hcd, hml, hts, hown, hK, ⟨hdd, hda⟩, hN, rfl, hret, hlk, hcl, hsl⟩ := hX
  intro H locs ls hP hS hl
  have hd := hcd ix _ hd
  exact lv_iadd hx rfl hd (kk H locs ls hP hS hl)
theorem v_isub (hX : vOK Y X ins nL own rm ret) {x y : Int32} (ix : Nat) (hd : gi ins ix = some (pc, .isub, 1)) (kk : V Y X M (pc + 1) L (.int (x - y) :: st)) : V Y X M pc L (.int y :: .int x :: st) := by
  obtain ⟨l, D, cy, ad⟩ := Y
  obtain ⟨p, e, R, s, m, args, below, meth, c, cells, slots, Q, A⟩ := X
  obtain ⟨hx, hcd, hml, hts, hown, hK, ⟨hdd, hda⟩, hN, rfl, hret, hlk, hcl, hsl⟩ := hX
  intro H locs ls hP hS hl
  have hd := hcd ix _ hd
  exact lv_isub hx rfl hd (kk H locs ls hP hS hl)
theorem v_imul (hX : vOK Y X ins nL own rm ret) {x y : Int32} (ix : Nat) (hd : gi ins ix = some (pc, .imul, 1)) (kk : V Y X M (pc + 1) L (.int (x * y) :: st)) : V Y X M pc L (.int y :: .int x :: st) := by
  obtain ⟨l, D, cy, ad⟩ := Y
  obtain ⟨p, e, R, s, m, args, below, meth, c, cells, slots, Q, A⟩ := X
  obtain ⟨hx, hcd, hml, hts, hown, hK, ⟨hdd, hda⟩, hN, rfl, hret, hlk, hcl, hsl⟩ := hX
  intro H locs ls hP hS hl
  have hd := hcd ix _ hd
  exact lv_imul hx rfl hd (kk H locs ls hP hS hl)
theorem v_iand (hX : vOK Y X ins nL own rm ret) {x y : Int32} (ix : Nat) (hd : gi ins ix = some (pc, .iand, 1)) (kk : V Y X M (pc + 1) L (.int (x &&& y) :: st)) : V Y X M pc L (.int y :: .int x :: st) := by
  obtain ⟨l, D, cy, ad⟩ := Y
  obtain ⟨p, e, R, s, m, args, below, meth, c, cells, slots, Q, A⟩ := X
  obtain ⟨hx, hcd, hml, hts, hown, hK, ⟨hdd, hda⟩, hN, rfl, hret, hlk, hcl, hsl⟩ := hX
  intro H locs ls hP hS hl
  have hd := hcd ix _ hd
  exact lv_iand hx rfl hd (kk H locs ls hP hS hl)
theorem v_ior (hX : vOK Y X ins nL own rm ret) {x y : Int32} (ix : Nat) (hd : gi ins ix = some (pc, .ior, 1)) (kk : V Y X M (pc + 1) L (.int (x ||| y) :: st)) : V Y X M pc L (.int y :: .int x :: st) := by
  obtain ⟨l, D, cy, ad⟩ := Y
  obtain ⟨p, e, R, s, m, args, below, meth, c, cells, slots, Q, A⟩ := X
  obtain ⟨hx, hcd, hml, hts, hown, hK, ⟨hdd, hda⟩, hN, rfl, hret, hlk, hcl, hsl⟩ := hX
  intro H locs ls hP hS hl
  have hd := hcd ix _ hd
  exact lv_ior hx rfl hd (kk H locs ls hP hS hl)
theorem v_ixor (hX : vOK Y X ins nL own rm ret) {x y : Int32} (ix : Nat) (hd : gi ins ix = some (pc, .ixor, 1)) (kk : V Y X M (pc + 1) L (.int (x ^^^ y) :: st)) : V Y X M pc L (.int y :: .int x :: st) := by
  obtain ⟨l, D, cy, ad⟩ := Y
  obtain ⟨p, e, R, s, m, args, below, meth, c, cells, slots, Q, A⟩ := X
  obtain ⟨hx, hcd, hml, hts, hown, hK, ⟨hdd, hda⟩, hN, rfl, hret, hlk, hcl, hsl⟩ := hX
  intro H locs ls hP hS hl
  have hd := hcd ix _ hd
  exact lv_ixor hx rfl hd (kk H locs ls hP hS hl)
theorem v_ishl (hX : vOK Y X ins nL own rm ret) {x y : Int32} (ix : Nat) (hd : gi ins ix = some (pc, .ishl, 1)) (kk : V Y X M (pc + 1) L (.int (x <<< (y &&& 31)) :: st)) : V Y X M pc L (.int y :: .int x :: st) := by
  obtain ⟨l, D, cy, ad⟩ := Y
  obtain ⟨p, e, R, s, m, args, below, meth, c, cells, slots, Q, A⟩ := X
  obtain ⟨hx, hcd, hml, hts, hown, hK, ⟨hdd, hda⟩, hN, rfl, hret, hlk, hcl, hsl⟩ := hX
  intro H locs ls hP hS hl
  have hd := hcd ix _ hd
  exact lv_ishl hx rfl hd (kk H locs ls hP hS hl)
theorem v_ishr (hX : vOK Y X ins nL own rm ret) {x y : Int32} (ix : Nat) (hd : gi ins ix = some (pc, .ishr, 1)) (kk : V Y X M (pc + 1) L (.int (x >>> (y &&& 31)) :: st)) : V Y X M pc L (.int y :: .int x :: st) := by
  obtain ⟨l, D, cy, ad⟩ := Y
  obtain ⟨p, e, R, s, m, args, below, meth, c, cells, slots, Q, A⟩ := X
  obtain ⟨hx, hcd, hml, hts, hown, hK, ⟨hdd, hda⟩, hN, rfl, hret, hlk, hcl, hsl⟩ := hX
  intro H locs ls hP hS hl
  have hd := hcd ix _ hd
  exact lv_ishr hx rfl hd (kk H locs ls hP hS hl)
theorem v_iushr (hX : vOK Y X ins nL own rm ret) {x y v : Int32} (ix : Nat) (hd : gi ins ix = some (pc, .iushr, 1)) (hv : (x.toUInt32 >>> (y.toUInt32 &&& Int32.toUInt32 31)).toInt32 = v) (kk : V Y X M (pc + 1) L (.int v :: st)) : V Y X M pc L (.int y :: .int x :: st) := by
  obtain ⟨l, D, cy, ad⟩ := Y
  obtain ⟨p, e, R, s, m, args, below, meth, c, cells, slots, Q, A⟩ := X
  obtain ⟨hx, hcd, hml, hts, hown, hK, ⟨hdd, hda⟩, hN, rfl, hret, hlk, hcl, hsl⟩ := hX
  intro H locs ls hP hS hl
  have hd := hcd ix _ hd
  exact lv_iushr hx rfl hd hv (kk H locs ls hP hS hl)
theorem v_ladd (hX : vOK Y X ins nL own rm ret) {x y : Int64} (ix : Nat) (hd : gi ins ix = some (pc, .ladd, 1)) (kk : V Y X M (pc + 1) L (.long (x + y) :: st)) : V Y X M pc L (.long y :: .long x :: st) := by
  obtain ⟨l, D, cy, ad⟩ := Y
  obtain ⟨p, e, R, s, m, args, below, meth, c, cells, slots, Q, A⟩ := X
  obtain ⟨hx, hcd, hml, hts, hown, hK, ⟨hdd, hda⟩, hN, rfl, hret, hlk, hcl, hsl⟩ := hX
  intro H locs ls hP hS hl
  have hd := hcd ix _ hd
  exact lv_ladd hx rfl hd (kk H locs ls hP hS hl)
theorem v_lsub (hX : vOK Y X ins nL own rm ret) {x y : Int64} (ix : Nat) (hd : gi ins ix = some (pc, .lsub, 1)) (kk : V Y X M (pc + 1) L (.long (x - y) :: st)) : V Y X M pc L (.long y :: .long x :: st) := by
  obtain ⟨l, D, cy, ad⟩ := Y
  obtain ⟨p, e, R, s, m, args, below, meth, c, cells, slots, Q, A⟩ := X
  obtain ⟨hx, hcd, hml, hts, hown, hK, ⟨hdd, hda⟩, hN, rfl, hret, hlk, hcl, hsl⟩ := hX
  intro H locs ls hP hS hl
  have hd := hcd ix _ hd
  exact lv_lsub hx rfl hd (kk H locs ls hP hS hl)
theorem v_lmul (hX : vOK Y X ins nL own rm ret) {x y : Int64} (ix : Nat) (hd : gi ins ix = some (pc, .lmul, 1)) (kk : V Y X M (pc + 1) L (.long (x * y) :: st)) : V Y X M pc L (.long y :: .long x :: st) := by
  obtain ⟨l, D, cy, ad⟩ := Y
  obtain ⟨p, e, R, s, m, args, below, meth, c, cells, slots, Q, A⟩ := X
  obtain ⟨hx, hcd, hml, hts, hown, hK, ⟨hdd, hda⟩, hN, rfl, hret, hlk, hcl, hsl⟩ := hX
  intro H locs ls hP hS hl
  have hd := hcd ix _ hd
  exact lv_lmul hx rfl hd (kk H locs ls hP hS hl)
theorem v_land (hX : vOK Y X ins nL own rm ret) {x y : Int64} (ix : Nat) (hd : gi ins ix = some (pc, .land, 1)) (kk : V Y X M (pc + 1) L (.long (x &&& y) :: st)) : V Y X M pc L (.long y :: .long x :: st) := by
  obtain ⟨l, D, cy, ad⟩ := Y
  obtain ⟨p, e, R, s, m, args, below, meth, c, cells, slots, Q, A⟩ := X
  obtain ⟨hx, hcd, hml, hts, hown, hK, ⟨hdd, hda⟩, hN, rfl, hret, hlk, hcl, hsl⟩ := hX
  intro H locs ls hP hS hl
  have hd := hcd ix _ hd
  exact lv_land hx rfl hd (kk H locs ls hP hS hl)
theorem v_lor (hX : vOK Y X ins nL own rm ret) {x y : Int64} (ix : Nat) (hd : gi ins ix = some (pc, .lor, 1)) (kk : V Y X M (pc + 1) L (.long (x ||| y) :: st)) : V Y X M pc L (.long y :: .long x :: st) := by
  obtain ⟨l, D, cy, ad⟩ := Y
  obtain ⟨p, e, R, s, m, args, below, meth, c, cells, slots, Q, A⟩ := X
  obtain ⟨hx, hcd, hml, hts, hown, hK, ⟨hdd, hda⟩, hN, rfl, hret, hlk, hcl, hsl⟩ := hX
  intro H locs ls hP hS hl
  have hd := hcd ix _ hd
  exact lv_lor hx rfl hd (kk H locs ls hP hS hl)
theorem v_ldiv (hX : vOK Y X ins nL own rm ret) {x y : Int64} (hne : ¬ y = 0) (ix : Nat) (hd : gi ins ix = some (pc, .ldiv, 1)) (kk : V Y X M (pc + 1) L (.long (x / y) :: st)) : V Y X M pc L (.long y :: .long x :: st) := by
  obtain ⟨l, D, cy, ad⟩ := Y
  obtain ⟨p, e, R, s, m, args, below, meth, c, cells, slots, Q, A⟩ := X
  obtain ⟨hx, hcd, hml, hts, hown, hK, ⟨hdd, hda⟩, hN, rfl, hret, hlk, hcl, hsl⟩ := hX
  intro H locs ls hP hS hl
  have hd := hcd ix _ hd
  exact lv_ldiv hx rfl hd hne (kk H locs ls hP hS hl)
theorem v_lrem (hX : vOK Y X ins nL own rm ret) {x y : Int64} (hne : ¬ y = 0) (ix : Nat) (hd : gi ins ix = some (pc, .lrem, 1)) (kk : V Y X M (pc + 1) L (.long (x - x / y * y) :: st)) : V Y X M pc L (.long y :: .long x :: st) := by
  obtain ⟨l, D, cy, ad⟩ := Y
  obtain ⟨p, e, R, s, m, args, below, meth, c, cells, slots, Q, A⟩ := X
  obtain ⟨hx, hcd, hml, hts, hown, hK, ⟨hdd, hda⟩, hN, rfl, hret, hlk, hcl, hsl⟩ := hX
  intro H locs ls hP hS hl
  have hd := hcd ix _ hd
  exact lv_lrem hx rfl hd hne (kk H locs ls hP hS hl)
theorem v_lushr (hX : vOK Y X ins nL own rm ret) {x : Int64} {y : Int32} {v : Int64} (ix : Nat) (hd : gi ins ix = some (pc, .lushr, 1)) (hv : (x.toUInt64 >>> (y.toInt64.toUInt64 &&& Int64.toUInt64 63)).toInt64 = v) (kk : V Y X M (pc + 1) L (.long v :: st)) : V Y X M pc L (.int y :: .long x :: st) := by
  obtain ⟨l, D, cy, ad⟩ := Y
  obtain ⟨p, e, R, s, m, args, below, meth, c, cells, slots, Q, A⟩ := X
  obtain ⟨hx, hcd, hml, hts, hown, hK, ⟨hdd, hda⟩, hN, rfl, hret, hlk, hcl, hsl⟩ := hX
  intro H locs ls hP hS hl
  have hd := hcd ix _ hd
  exact lv_lushr hx rfl hd hv (kk H locs ls hP hS hl)
theorem v_lshl (hX : vOK Y X ins nL own rm ret) {x : Int64} {y : Int32} {v : Int64} (ix : Nat) (hd : gi ins ix = some (pc, .lshl, 1)) (hv : x <<< (y.toInt64 &&& 63) = v) (kk : V Y X M (pc + 1) L (.long v :: st)) : V Y X M pc L (.int y :: .long x :: st) := by
  obtain ⟨l, D, cy, ad⟩ := Y
  obtain ⟨p, e, R, s, m, args, below, meth, c, cells, slots, Q, A⟩ := X
  obtain ⟨hx, hcd, hml, hts, hown, hK, ⟨hdd, hda⟩, hN, rfl, hret, hlk, hcl, hsl⟩ := hX
  intro H locs ls hP hS hl
  have hd := hcd ix _ hd
  exact lv_lshl hx rfl hd hv (kk H locs ls hP hS hl)
theorem v_i2l (hX : vOK Y X ins nL own rm ret) {x : Int32} {v : Int64} (ix : Nat) (hd : gi ins ix = some (pc, .i2l, 1)) (hv : x.toInt64 = v) (kk : V Y X M (pc + 1) L (.long v :: st)) : V Y X M pc L (.int x :: st) := by
  obtain ⟨l, D, cy, ad⟩ := Y
  obtain ⟨p, e, R, s, m, args, below, meth, c, cells, slots, Q, A⟩ := X
  obtain ⟨hx, hcd, hml, hts, hown, hK, ⟨hdd, hda⟩, hN, rfl, hret, hlk, hcl, hsl⟩ := hX
  intro H locs ls hP hS hl
  have hd := hcd ix _ hd
  exact lv_i2l hx rfl hd hv (kk H locs ls hP hS hl)
theorem v_l2i (hX : vOK Y X ins nL own rm ret) {x : Int64} {v : Int32} (ix : Nat) (hd : gi ins ix = some (pc, .l2i, 1)) (hv : x.toInt32 = v) (kk : V Y X M (pc + 1) L (.int v :: st)) : V Y X M pc L (.long x :: st) := by
  obtain ⟨l, D, cy, ad⟩ := Y
  obtain ⟨p, e, R, s, m, args, below, meth, c, cells, slots, Q, A⟩ := X
  obtain ⟨hx, hcd, hml, hts, hown, hK, ⟨hdd, hda⟩, hN, rfl, hret, hlk, hcl, hsl⟩ := hX
  intro H locs ls hP hS hl
  have hd := hcd ix _ hd
  exact lv_l2i hx rfl hd hv (kk H locs ls hP hS hl)
theorem v_i2c (hX : vOK Y X ins nL own rm ret) {x : Int32} {v : Int32} (ix : Nat) (hd : gi ins ix = some (pc, .i2c, 1)) (hv : (x.toUInt32 % 65536).toInt32 = v) (kk : V Y X M (pc + 1) L (.int v :: st)) : V Y X M pc L (.int x :: st) := by
  obtain ⟨l, D, cy, ad⟩ := Y
  obtain ⟨p, e, R, s, m, args, below, meth, c, cells, slots, Q, A⟩ := X
  obtain ⟨hx, hcd, hml, hts, hown, hK, ⟨hdd, hda⟩, hN, rfl, hret, hlk, hcl, hsl⟩ := hX
  intro H locs ls hP hS hl
  have hd := hcd ix _ hd
  exact lv_i2c hx rfl hd hv (kk H locs ls hP hS hl)
theorem v_lcmp (hX : vOK Y X ins nL own rm ret) {x y : Int64} (ix : Nat) (hd : gi ins ix = some (pc, .lcmp, 1)) (kk : V Y X M (pc + 1) L (.int (lg_cmp x y) :: st)) : V Y X M pc L (.long y :: .long x :: st) := by
  obtain ⟨l, D, cy, ad⟩ := Y
  obtain ⟨p, e, R, s, m, args, below, meth, c, cells, slots, Q, A⟩ := X
  obtain ⟨hx, hcd, hml, hts, hown, hK, ⟨hdd, hda⟩, hN, rfl, hret, hlk, hcl, hsl⟩ := hX
  intro H locs ls hP hS hl
  have hd := hcd ix _ hd
  exact W.lcmp hx rfl hd (kk H locs ls hP hS hl)
theorem v_dup (hX : vOK Y X ins nL own rm ret) {v : Value} (ix : Nat) (hd : gi ins ix = some (pc, .dup, 1)) (hc : v.category = 1) (kk : V Y X M (pc + 1) L (v :: v :: st)) : V Y X M pc L (v :: st) := by
  obtain ⟨l, D, cy, ad⟩ := Y
  obtain ⟨p, e, R, s, m, args, below, meth, c, cells, slots, Q, A⟩ := X
  obtain ⟨hx, hcd, hml, hts, hown, hK, ⟨hdd, hda⟩, hN, rfl, hret, hlk, hcl, hsl⟩ := hX
  intro H locs ls hP hS hl
  have hd := hcd ix _ hd
  exact lv_dup hx rfl hd hc (kk H locs ls hP hS hl)
theorem v_dup2 (hX : vOK Y X ins nL own rm ret) {a b : Value} (ix : Nat) (hd : gi ins ix = some (pc, .dup2, 1)) (h1 : a.category = 1) (h2 : b.category = 1) (kk : V Y X M (pc + 1) L (a :: b :: a :: b :: st)) : V Y X M pc L (a :: b :: st) := by
  obtain ⟨l, D, cy, ad⟩ := Y
  obtain ⟨p, e, R, s, m, args, below, meth, c, cells, slots, Q, A⟩ := X
  obtain ⟨hx, hcd, hml, hts, hown, hK, ⟨hdd, hda⟩, hN, rfl, hret, hlk, hcl, hsl⟩ := hX
  intro H locs ls hP hS hl
  have hd := hcd ix _ hd
  exact lv_dup2_11 hx rfl hd h1 h2 (kk H locs ls hP hS hl)
theorem v_pop (hX : vOK Y X ins nL own rm ret) {v : Value} (ix : Nat) (hd : gi ins ix = some (pc, .pop, 1)) (hc : v.category = 1) (kk : V Y X M (pc + 1) L st) : V Y X M pc L (v :: st) := by
  obtain ⟨l, D, cy, ad⟩ := Y
  obtain ⟨p, e, R, s, m, args, below, meth, c, cells, slots, Q, A⟩ := X
  obtain ⟨hx, hcd, hml, hts, hown, hK, ⟨hdd, hda⟩, hN, rfl, hret, hlk, hcl, hsl⟩ := hX
  intro H locs ls hP hS hl
  have hd := hcd ix _ hd
  exact lv_pop hx rfl hd hc (kk H locs ls hP hS hl)
theorem v_dup_x1 (hX : vOK Y X ins nL own rm ret) {a b : Value} (ix : Nat) (hd : gi ins ix = some (pc, .dup_x1, 1)) (h1 : a.category = 1) (h2 : b.category = 1) (kk : V Y X M (pc + 1) L (a :: b :: a :: st)) : V Y X M pc L (a :: b :: st) := by
  obtain ⟨l, D, cy, ad⟩ := Y
  obtain ⟨p, e, R, s, m, args, below, meth, c, cells, slots, Q, A⟩ := X
  obtain ⟨hx, hcd, hml, hts, hown, hK, ⟨hdd, hda⟩, hN, rfl, hret, hlk, hcl, hsl⟩ := hX
  intro H locs ls hP hS hl
  have hd := hcd ix _ hd
  exact lv_dup_x1 hx rfl hd h1 h2 (kk H locs ls hP hS hl)
theorem v_if_eq (hX : vOK Y X ins nL own rm ret) {x : Int32} {off : Int} {tgt : Nat} (ix : Nat) (hd : gi ins ix = some (pc, .ifCond .eq off, 3)) (ht : (pc : Int) + off = (tgt : Int)) (kt : x = 0 → V Y X M tgt L st) (kf : ¬ x = 0 → V Y X M (pc + 3) L st) : V Y X M pc L (.int x :: st) := by
  obtain ⟨l, D, cy, ad⟩ := Y
  obtain ⟨p, e, R, s, m, args, below, meth, c, cells, slots, Q, A⟩ := X
  obtain ⟨hx, hcd, hml, hts, hown, hK, ⟨hdd, hda⟩, hN, rfl, hret, hlk, hcl, hsl⟩ := hX
  intro H locs ls hP hS hl
  have hd := hcd ix _ hd
  exact lv_if_eq hx rfl hd ht (fun h => kt h H locs ls hP hS hl) (fun h => kf h H locs ls hP hS hl)
theorem v_icmp_eq (hX : vOK Y X ins nL own rm ret) {x y : Int32} {off : Int} {tgt : Nat} (ix : Nat) (hd : gi ins ix = some (pc, .if_icmp .eq off, 3)) (ht : (pc : Int) + off = (tgt : Int)) (kt : x = y → V Y X M tgt L st) (kf : ¬ x = y → V Y X M (pc + 3) L st) : V Y X M pc L (.int y :: .int x :: st) := by
  obtain ⟨l, D, cy, ad⟩ := Y
  obtain ⟨p, e, R, s, m, args, below, meth, c, cells, slots, Q, A⟩ := X
  obtain ⟨hx, hcd, hml, hts, hown, hK, ⟨hdd, hda⟩, hN, rfl, hret, hlk, hcl, hsl⟩ := hX
  intro H locs ls hP hS hl
  have hd := hcd ix _ hd
  exact lv_icmp_eq hx rfl hd ht (fun h => kt h H locs ls hP hS hl) (fun h => kf h H locs ls hP hS hl)
theorem v_if_ne (hX : vOK Y X ins nL own rm ret) {x : Int32} {off : Int} {tgt : Nat} (ix : Nat) (hd : gi ins ix = some (pc, .ifCond .ne off, 3)) (ht : (pc : Int) + off = (tgt : Int)) (kt : ¬ x = 0 → V Y X M tgt L st) (kf : x = 0 → V Y X M (pc + 3) L st) : V Y X M pc L (.int x :: st) := by
  obtain ⟨l, D, cy, ad⟩ := Y
  obtain ⟨p, e, R, s, m, args, below, meth, c, cells, slots, Q, A⟩ := X
  obtain ⟨hx, hcd, hml, hts, hown, hK, ⟨hdd, hda⟩, hN, rfl, hret, hlk, hcl, hsl⟩ := hX
  intro H locs ls hP hS hl
  have hd := hcd ix _ hd
  exact lv_if_ne hx rfl hd ht (fun h => kt h H locs ls hP hS hl) (fun h => kf h H locs ls hP hS hl)
theorem v_icmp_ne (hX : vOK Y X ins nL own rm ret) {x y : Int32} {off : Int} {tgt : Nat} (ix : Nat) (hd : gi ins ix = some (pc, .if_icmp .ne off, 3)) (ht : (pc : Int) + off = (tgt : Int)) (kt : ¬ x = y → V Y X M tgt L st) (kf : x = y → V Y X M (pc + 3) L st) : V Y X M pc L (.int y :: .int x :: st) := by
  obtain ⟨l, D, cy, ad⟩ := Y
  obtain ⟨p, e, R, s, m, args, below, meth, c, cells, slots, Q, A⟩ := X
  obtain ⟨hx, hcd, hml, hts, hown, hK, ⟨hdd, hda⟩, hN, rfl, hret, hlk, hcl, hsl⟩ := hX
  intro H locs ls hP hS hl
  have hd := hcd ix _ hd
  exact lv_icmp_ne hx rfl hd ht (fun h => kt h H locs ls hP hS hl) (fun h => kf h H locs ls hP hS hl)
theorem v_if_lt (hX : vOK Y X ins nL own rm ret) {x : Int32} {off : Int} {tgt : Nat} (ix : Nat) (hd : gi ins ix = some (pc, .ifCond .lt off, 3)) (ht : (pc : Int) + off = (tgt : Int)) (kt : x < 0 → V Y X M tgt L st) (kf : ¬ x < 0 → V Y X M (pc + 3) L st) : V Y X M pc L (.int x :: st) := by
  obtain ⟨l, D, cy, ad⟩ := Y
  obtain ⟨p, e, R, s, m, args, below, meth, c, cells, slots, Q, A⟩ := X
  obtain ⟨hx, hcd, hml, hts, hown, hK, ⟨hdd, hda⟩, hN, rfl, hret, hlk, hcl, hsl⟩ := hX
  intro H locs ls hP hS hl
  have hd := hcd ix _ hd
  exact lv_if_lt hx rfl hd ht (fun h => kt h H locs ls hP hS hl) (fun h => kf h H locs ls hP hS hl)
theorem v_icmp_lt (hX : vOK Y X ins nL own rm ret) {x y : Int32} {off : Int} {tgt : Nat} (ix : Nat) (hd : gi ins ix = some (pc, .if_icmp .lt off, 3)) (ht : (pc : Int) + off = (tgt : Int)) (kt : x < y → V Y X M tgt L st) (kf : ¬ x < y → V Y X M (pc + 3) L st) : V Y X M pc L (.int y :: .int x :: st) := by
  obtain ⟨l, D, cy, ad⟩ := Y
  obtain ⟨p, e, R, s, m, args, below, meth, c, cells, slots, Q, A⟩ := X
  obtain ⟨hx, hcd, hml, hts, hown, hK, ⟨hdd, hda⟩, hN, rfl, hret, hlk, hcl, hsl⟩ := hX
  intro H locs ls hP hS hl
  have hd := hcd ix _ hd
  exact lv_icmp_lt hx rfl hd ht (fun h => kt h H locs ls hP hS hl) (fun h => kf h H locs ls hP hS hl)
theorem v_if_ge (hX : vOK Y X ins nL own rm ret) {x : Int32} {off : Int} {tgt : Nat} (ix : Nat) (hd : gi ins ix = some (pc, .ifCond .ge off, 3)) (ht : (pc : Int) + off = (tgt : Int)) (kt : 0 ≤ x → V Y X M tgt L st) (kf : ¬ 0 ≤ x → V Y X M (pc + 3) L st) : V Y X M pc L (.int x :: st) := by
  obtain ⟨l, D, cy, ad⟩ := Y
  obtain ⟨p, e, R, s, m, args, below, meth, c, cells, slots, Q, A⟩ := X
  obtain ⟨hx, hcd, hml, hts, hown, hK, ⟨hdd, hda⟩, hN, rfl, hret, hlk, hcl, hsl⟩ := hX
  intro H locs ls hP hS hl
  have hd := hcd ix _ hd
  exact lv_if_ge hx rfl hd ht (fun h => kt h H locs ls hP hS hl) (fun h => kf h H locs ls hP hS hl)
theorem v_icmp_ge (hX : vOK Y X ins nL own rm ret) {x y : Int32} {off : Int} {tgt : Nat} (ix : Nat) (hd : gi ins ix = some (pc, .if_icmp .ge off, 3)) (ht : (pc : Int) + off = (tgt : Int)) (kt : y ≤ x → V Y X M tgt L st) (kf : ¬ y ≤ x → V Y X M (pc + 3) L st) : V Y X M pc L (.int y :: .int x :: st) := by
  obtain ⟨l, D, cy, ad⟩ := Y
  obtain ⟨p, e, R, s, m, args, below, meth, c, cells, slots, Q, A⟩ := X
  obtain ⟨hx, hcd, hml, hts, hown, hK, ⟨hdd, hda⟩, hN, rfl, hret, hlk, hcl, hsl⟩ := hX
  intro H locs ls hP hS hl
  have hd := hcd ix _ hd
  exact lv_icmp_ge hx rfl hd ht (fun h => kt h H locs ls hP hS hl) (fun h => kf h H locs ls hP hS hl)
theorem v_if_gt (hX : vOK Y X ins nL own rm ret) {x : Int32} {off : Int} {tgt : Nat} (ix : Nat) (hd : gi ins ix = some (pc, .ifCond .gt off, 3)) (ht : (pc : Int) + off = (tgt : Int)) (kt : 0 < x → V Y X M tgt L st) (kf : ¬ 0 < x → V Y X M (pc + 3) L st) : V Y X M pc L (.int x :: st) := by
  obtain ⟨l, D, cy, ad⟩ := Y
  obtain ⟨p, e, R, s, m, args, below, meth, c, cells, slots, Q, A⟩ := X
  obtain ⟨hx, hcd, hml, hts, hown, hK, ⟨hdd, hda⟩, hN, rfl, hret, hlk, hcl, hsl⟩ := hX
  intro H locs ls hP hS hl
  have hd := hcd ix _ hd
  exact lv_if_gt hx rfl hd ht (fun h => kt h H locs ls hP hS hl) (fun h => kf h H locs ls hP hS hl)
theorem v_icmp_gt (hX : vOK Y X ins nL own rm ret) {x y : Int32} {off : Int} {tgt : Nat} (ix : Nat) (hd : gi ins ix = some (pc, .if_icmp .gt off, 3)) (ht : (pc : Int) + off = (tgt : Int)) (kt : y < x → V Y X M tgt L st) (kf : ¬ y < x → V Y X M (pc + 3) L st) : V Y X M pc L (.int y :: .int x :: st) := by
  obtain ⟨l, D, cy, ad⟩ := Y
  obtain ⟨p, e, R, s, m, args, below, meth, c, cells, slots, Q, A⟩ := X
  obtain ⟨hx, hcd, hml, hts, hown, hK, ⟨hdd, hda⟩, hN, rfl, hret, hlk, hcl, hsl⟩ := hX
  intro H locs ls hP hS hl
  have hd := hcd ix _ hd
  exact lv_icmp_gt hx rfl hd ht (fun h => kt h H locs ls hP hS hl) (fun h => kf h H locs ls hP hS hl)
theorem v_if_le (hX : vOK Y X ins nL own rm ret) {x : Int32} {off : Int} {tgt : Nat} (ix : Nat) (hd : gi ins ix = some (pc, .ifCond .le off, 3)) (ht : (pc : Int) + off = (tgt : Int)) (kt : x ≤ 0 → V Y X M tgt L st) (kf : ¬ x ≤ 0 → V Y X M (pc + 3) L st) : V Y X M pc L (.int x :: st) := by
  obtain ⟨l, D, cy, ad⟩ := Y
  obtain ⟨p, e, R, s, m, args, below, meth, c, cells, slots, Q, A⟩ := X
  obtain ⟨hx, hcd, hml, hts, hown, hK, ⟨hdd, hda⟩, hN, rfl, hret, hlk, hcl, hsl⟩ := hX
  intro H locs ls hP hS hl
  have hd := hcd ix _ hd
  exact lv_if_le hx rfl hd ht (fun h => kt h H locs ls hP hS hl) (fun h => kf h H locs ls hP hS hl)
theorem v_icmp_le (hX : vOK Y X ins nL own rm ret) {x y : Int32} {off : Int} {tgt : Nat} (ix : Nat) (hd : gi ins ix = some (pc, .if_icmp .le off, 3)) (ht : (pc : Int) + off = (tgt : Int)) (kt : x ≤ y → V Y X M tgt L st) (kf : ¬ x ≤ y → V Y X M (pc + 3) L st) : V Y X M pc L (.int y :: .int x :: st) := by
  obtain ⟨l, D, cy, ad⟩ := Y
  obtain ⟨p, e, R, s, m, args, below, meth, c, cells, slots, Q, A⟩ := X
  obtain ⟨hx, hcd, hml, hts, hown, hK, ⟨hdd, hda⟩, hN, rfl, hret, hlk, hcl, hsl⟩ := hX
  intro H locs ls hP hS hl
  have hd := hcd ix _ hd
  exact lv_icmp_le hx rfl hd ht (fun h => kt h H locs ls hP hS hl) (fun h => kf h H locs ls hP hS hl)
theorem v_goto (hX : vOK Y X ins nL own rm ret) {off : Int} {tgt : Nat} (ix : Nat) (hd : gi ins ix = some (pc, .goto off, 3)) (ht : (pc : Int) + off = (tgt : Int)) (kk : V Y X M tgt L st) : V Y X M pc L st := by
  obtain ⟨l, D, cy, ad⟩ := Y
  obtain ⟨p, e, R, s, m, args, below, meth, c, cells, slots, Q, A⟩ := X
  obtain ⟨hx, hcd, hml, hts, hown, hK, ⟨hdd, hda⟩, hN, rfl, hret, hlk, hcl, hsl⟩ := hX
  intro H locs ls hP hS hl
  have hd := hcd ix _ hd
  exact lv_goto hx rfl hd ht (kk H locs ls hP hS hl)
theorem v_ifnull (hX : vOK Y X ins nL own rm ret) {x : Nat} {off : Int} (ix : Nat) (hd : gi ins ix = some (pc, .ifnull off, 3)) (kk : V Y X M (pc + 3) L st) : V Y X M pc L (.ref x :: st) := by
  obtain ⟨l, D, cy, ad⟩ := Y
  obtain ⟨p, e, R, s, m, args, below, meth, c, cells, slots, Q, A⟩ := X
  obtain ⟨hx, hcd, hml, hts, hown, hK, ⟨hdd, hda⟩, hN, rfl, hret, hlk, hcl, hsl⟩ := hX
  intro H locs ls hP hS hl
  have hd := hcd ix _ hd
  exact lv_ifnull hx rfl hd (kk H locs ls hP hS hl)
theorem v_ifnullN (hX : vOK Y X ins nL own rm ret) {off : Int} {tgt : Nat} (ix : Nat) (hd : gi ins ix = some (pc, .ifnull off, 3)) (ht : (pc : Int) + off = (tgt : Int)) (kk : V Y X M tgt L st) : V Y X M pc L (.null :: st) := by
  obtain ⟨l, D, cy, ad⟩ := Y
  obtain ⟨p, e, R, s, m, args, below, meth, c, cells, slots, Q, A⟩ := X
  obtain ⟨hx, hcd, hml, hts, hown, hK, ⟨hdd, hda⟩, hN, rfl, hret, hlk, hcl, hsl⟩ := hX
  intro H locs ls hP hS hl
  have hd := hcd ix _ hd
  exact lv_ifnullN hx rfl hd ht (kk H locs ls hP hS hl)
theorem v_ifnonnull (hX : vOK Y X ins nL own rm ret) {x : Nat} {off : Int} {tgt : Nat} (ix : Nat) (hd : gi ins ix = some (pc, .ifnonnull off, 3)) (ht : (pc : Int) + off = (tgt : Int)) (kk : V Y X M tgt L st) : V Y X M pc L (.ref x :: st) := by
  obtain ⟨l, D, cy, ad⟩ := Y
  obtain ⟨p, e, R, s, m, args, below, meth, c, cells, slots, Q, A⟩ := X
  obtain ⟨hx, hcd, hml, hts, hown, hK, ⟨hdd, hda⟩, hN, rfl, hret, hlk, hcl, hsl⟩ := hX
  intro H locs ls hP hS hl
  have hd := hcd ix _ hd
  exact lv_ifnonnull hx rfl hd ht (kk H locs ls hP hS hl)
theorem v_ifnonnullN (hX : vOK Y X ins nL own rm ret) {off : Int} (ix : Nat) (hd : gi ins ix = some (pc, .ifnonnull off, 3)) (kk : V Y X M (pc + 3) L st) : V Y X M pc L (.null :: st) := by
  obtain ⟨l, D, cy, ad⟩ := Y
  obtain ⟨p, e, R, s, m, args, below, meth, c, cells, slots, Q, A⟩ := X
  obtain ⟨hx, hcd, hml, hts, hown, hK, ⟨hdd, hda⟩, hN, rfl, hret, hlk, hcl, hsl⟩ := hX
  intro H locs ls hP hS hl
  have hd := hcd ix _ hd
  exact lv_ifnonnullN hx rfl hd (kk H locs ls hP hS hl)
theorem v_tableIn (hX : vOK Y X ins nL own rm ret) {dflt lo hi : Int} {offs : Array Int} {len : Nat} {x : Int32} {off : Int} {tgt : Nat} (ix : Nat) (hd : gi ins ix = some (pc, .tableswitch dflt lo hi offs, len)) (h1 : ¬ x.toInt < lo) (h2 : ¬ hi < x.toInt) (ho : offs[(x.toInt - lo).toNat]? = some off) (ht : (pc : Int) + off = (tgt : Int)) (kk : V Y X M tgt L st) : V Y X M pc L (.int x :: st) := by
  obtain ⟨l, D, cy, ad⟩ := Y
  obtain ⟨p, e, R, s, m, args, below, meth, c, cells, slots, Q, A⟩ := X
  obtain ⟨hx, hcd, hml, hts, hown, hK, ⟨hdd, hda⟩, hN, rfl, hret, hlk, hcl, hsl⟩ := hX
  intro H locs ls hP hS hl
  have hd := hcd ix _ hd
  exact lv_tableIn hx rfl hd h1 h2 ho ht (kk H locs ls hP hS hl)
theorem v_tableOut (hX : vOK Y X ins nL own rm ret) {dflt lo hi : Int} {offs : Array Int} {len : Nat} {x : Int32} {tgt : Nat} (ix : Nat) (hd : gi ins ix = some (pc, .tableswitch dflt lo hi offs, len)) (h : x.toInt < lo ∨ hi < x.toInt) (ht : (pc : Int) + dflt = (tgt : Int)) (kk : V Y X M tgt L st) : V Y X M pc L (.int x :: st) := by
  obtain ⟨l, D, cy, ad⟩ := Y
  obtain ⟨p, e, R, s, m, args, below, meth, c, cells, slots, Q, A⟩ := X
  obtain ⟨hx, hcd, hml, hts, hown, hK, ⟨hdd, hda⟩, hN, rfl, hret, hlk, hcl, hsl⟩ := hX
  intro H locs ls hP hS hl
  have hd := hcd ix _ hd
  exact lv_tableOut hx rfl hd h ht (kk H locs ls hP hS hl)
theorem v_lookup (hX : vOK Y X ins nL own rm ret) {dflt : Int} {ps : Array (Int × Int)} {len : Nat} {x : Int32} {off : Int} {tgt : Nat} (ix : Nat) (hd : gi ins ix = some (pc, .lookupswitch dflt ps, len)) (hp : (ps.toList.zip (ps.toList.drop 1)).all (fun (a, next) => a.1 < next.1) = true) (ho : Op.lookupswitch.offset ps.toList dflt x.toInt = off) (ht : (pc : Int) + off = (tgt : Int)) (kk : V Y X M tgt L st) : V Y X M pc L (.int x :: st) := by
  obtain ⟨l, D, cy, ad⟩ := Y
  obtain ⟨p, e, R, s, m, args, below, meth, c, cells, slots, Q, A⟩ := X
  obtain ⟨hx, hcd, hml, hts, hown, hK, ⟨hdd, hda⟩, hN, rfl, hret, hlk, hcl, hsl⟩ := hX
  intro H locs ls hP hS hl
  have hd := hcd ix _ hd
  exact lv_lookup hx rfl hd hp ho ht (kk H locs ls hP hS hl)
theorem v_ldcw (hX : vOK Y X ins nL own rm ret) {index : Nat} {v : Int32} (hm : Cond.constant own index v ∈ wT) (ix : Nat) (hd : gi ins ix = some (pc, .ldc_w index, 3)) (kk : V Y X M (pc + 3) L (.int v :: st)) : V Y X M pc L st := by
  obtain ⟨l, D, cy, ad⟩ := Y
  obtain ⟨p, e, R, s, m, args, below, meth, c, cells, slots, Q, A⟩ := X
  obtain ⟨hx, hcd, hml, hts, hown, hK, ⟨hdd, hda⟩, hN, rfl, hret, hlk, hcl, hsl⟩ := hX
  intro H locs ls hP hS hl
  have hd := hcd ix _ hd
  exact lv_ldcw hx rfl hown (hts _ hm) hd (kk H locs ls hP hS hl)
theorem v_ldc (hX : vOK Y X ins nL own rm ret) {index : Nat} {v : Int32} (hm : Cond.constant own index v ∈ wT) (ix : Nat) (hd : gi ins ix = some (pc, .ldc index, 2)) (kk : V Y X M (pc + 2) L (.int v :: st)) : V Y X M pc L st := by
  obtain ⟨l, D, cy, ad⟩ := Y
  obtain ⟨p, e, R, s, m, args, below, meth, c, cells, slots, Q, A⟩ := X
  obtain ⟨hx, hcd, hml, hts, hown, hK, ⟨hdd, hda⟩, hN, rfl, hret, hlk, hcl, hsl⟩ := hX
  intro H locs ls hP hS hl
  have hd := hcd ix _ hd
  exact lv_ldc hx rfl hown (hts _ hm) hd (kk H locs ls hP hS hl)
theorem v_ldc2 (hX : vOK Y X ins nL own rm ret) {index : Nat} {v : Int64} (hm : Cond.constantLong own index v ∈ wT) (ix : Nat) (hd : gi ins ix = some (pc, .ldc2_w index, 3)) (kk : V Y X M (pc + 3) L (.long v :: st)) : V Y X M pc L st := by
  obtain ⟨l, D, cy, ad⟩ := Y
  obtain ⟨p, e, R, s, m, args, below, meth, c, cells, slots, Q, A⟩ := X
  obtain ⟨hx, hcd, hml, hts, hown, hK, ⟨hdd, hda⟩, hN, rfl, hret, hlk, hcl, hsl⟩ := hX
  intro H locs ls hP hS hl
  have hd := hcd ix _ hd
  exact lv_ldc2 hx rfl hown (hts _ hm) hd (kk H locs ls hP hS hl)
theorem v_get (hX : vOK Y X ins nL own rm ret) {k ci N index : Nat} {C ref : String} {T : u_T} {fs : List Value} (hk : k < 281) (he : cG Y.2.2.1 Y.2.2.2 M.2 (M.1 k) k = .inr (ci, fs)) (hc : vwCl[ci]? = some (C, T, N)) (hin : ∀ w ∈ u_ws C T N, w ∈ wT) (j : Nat) (hj : j < N) (hlink : Cond.fieldLink own index ref (T j).2.1 (T j).2.2.1 ∈ wT) (hr : ref = (T j).1) {v : Value} (hv : fs[j]? = some v) (ix : Nat) (hd : gi ins ix = some (pc, .getfield index, 3)) (kk : V Y X M (pc + 3) L (v :: st)) : V Y X M pc L (.ref (Y.2.2.2 k) :: st) := by
  obtain ⟨l, D, cy, ad⟩ := Y
  obtain ⟨p, e, R, s, m, args, below, meth, c, cells, slots, Q, A⟩ := X
  obtain ⟨hx, hcd, hml, hts, hown, hK, ⟨hdd, hda⟩, hN, rfl, hret, hlk, hcl, hsl⟩ := hX
  intro H locs ls hP hS hl
  have hd := hcd ix _ hd
  exact va_get (D := D) (ws := wl cy ad M) (tys := tq cy) hx rfl hts hin hown hK hP k (wl_get hk he) hc j hj (hts _ hlink) (fun _ h => by rw [hr]; exact h) hv hd (kk H locs ls hP hS hl)
theorem v_getN (hX : vOK Y X ins nL own rm ret) {k ci N index : Nat} {C ref host : String} {T : u_T} {fs : List Value} (hk : k < 281) (he : cG Y.2.2.1 Y.2.2.2 M.2 (M.1 k) k = .inr (ci, fs)) (hc : vwCl[ci]? = some (C, T, N)) (hin : ∀ w ∈ u_ws C T N, w ∈ wT) (j : Nat) (hj : j < N) (hlink : (own, index, ref, (T j).2.1, (T j).2.2.1, host) ∈ nF) (hr : ref = (T j).1) {v : Value} (hv : fs[j]? = some v) (ix : Nat) (hd : gi ins ix = some (pc, .getfield index, 3)) (kk : V Y X M (pc + 3) L (v :: st)) : V Y X M pc L (.ref (Y.2.2.2 k) :: st) := by
  obtain ⟨l, D, cy, ad⟩ := Y
  obtain ⟨p, e, R, s, m, args, below, meth, c, cells, slots, Q, A⟩ := X
  obtain ⟨hx, hcd, hml, hts, hown, hK, ⟨hdd, hda⟩, hN, rfl, hret, hlk, hcl, hsl⟩ := hX
  intro H locs ls hP hS hl
  have hd := hcd ix _ hd
  exact va_getN (D := D) (ws := wl cy ad M) (tys := tq cy) hx rfl hts hin hown hK hP k (wl_get hk he) hc j hj (va_Nw.use rfl (hN.2 _ hlink)) (fun _ h => by rw [hr]; exact h) hv hd (kk H locs ls hP hS hl)
theorem v_put (hX : vOK Y X ins nL own rm ret) {k ci N index : Nat} {C ref : String} {T : u_T} {fs : List Value} (hk : k < 281) (he : cG Y.2.2.1 Y.2.2.2 M.2 (M.1 k) k = .inr (ci, fs)) (hc : vwCl[ci]? = some (C, T, N)) (hin : ∀ w ∈ u_ws C T N, w ∈ wT) (ty0 : Nat → FieldType) (hty : ∀ k, k < N → parseFieldDescriptor (T k).2.2.1 = some (ty0 k)) (hnm : ∀ a, a < N → ∀ b, b < N → a ≠ b → (T a).2.1 ≠ (T b).2.1) (j : Nat) (hj : j < N) (hlink : Cond.fieldLink own index ref (T j).2.1 (T j).2.2.1 ∈ wT) (hr : ref = (T j).1) (hfin : (T j).2.2.2 = false) {x : Int32} (hn : narrow (ty0 j) (.int x) = .int x) (hfit : fits (ty0 j) (.int x) = true) (hlen : j < fs.length) (he2 : cG Y.2.2.1 Y.2.2.2 M.2 (upd (M.1 k) j x) k = .inr (ci, fs.set j (.int x))) (ix : Nat) (hd : gi ins ix = some (pc, .putfield index, 3)) (kk : V Y X (mset M k j x) (pc + 3) L st) : V Y X M pc L (.int x :: .ref (Y.2.2.2 k) :: st) := by
  obtain ⟨l, D, cy, ad⟩ := Y
  obtain ⟨p, e, R, s, m, args, below, meth, c, cells, slots, Q, A⟩ := X
  obtain ⟨hx, hcd, hml, hts, hown, hK, ⟨hdd, hda⟩, hN, rfl, hret, hlk, hcl, hsl⟩ := hX
  intro H locs ls hP hS hl
  have hd := hcd ix _ hd
  refine va_put (D := D) (ws := wl cy ad M) (tys := tq cy) hx rfl hts hin ty0 hty hnm hown hK hP (wl_D hdd hda M) hS k (wl_get hk he) hc j hj (hts _ hlink) (fun _ h => by rw [hr]; exact h) hfin (hty j hj) hn hfit hlen hd (fun H1 locs1 hP1 _ hS1 => ?_)
  rw [wl_mset he2] at hP1
  exact kk H1 locs1 ls hP1 hS1 hl
theorem v_putN (hX : vOK Y X ins nL own rm ret) {k ci N index : Nat} {C ref host : String} {T : u_T} {fs : List Value} (hk : k < 281) (he : cG Y.2.2.1 Y.2.2.2 M.2 (M.1 k) k = .inr (ci, fs)) (hc : vwCl[ci]? = some (C, T, N)) (hin : ∀ w ∈ u_ws C T N, w ∈ wT) (ty0 : Nat → FieldType) (hty : ∀ k, k < N → parseFieldDescriptor (T k).2.2.1 = some (ty0 k)) (hnm : ∀ a, a < N → ∀ b, b < N → a ≠ b → (T a).2.1 ≠ (T b).2.1) (j : Nat) (hj : j < N) (hlink : (own, index, ref, (T j).2.1, (T j).2.2.1, host) ∈ nF) (hr : ref = (T j).1) (hfin : (T j).2.2.2 = false) {x : Int32} (hn : narrow (ty0 j) (.int x) = .int x) (hfit : fits (ty0 j) (.int x) = true) (hlen : j < fs.length) (he2 : cG Y.2.2.1 Y.2.2.2 M.2 (upd (M.1 k) j x) k = .inr (ci, fs.set j (.int x))) (ix : Nat) (hd : gi ins ix = some (pc, .putfield index, 3)) (kk : V Y X (mset M k j x) (pc + 3) L st) : V Y X M pc L (.int x :: .ref (Y.2.2.2 k) :: st) := by
  obtain ⟨l, D, cy, ad⟩ := Y
  obtain ⟨p, e, R, s, m, args, below, meth, c, cells, slots, Q, A⟩ := X
  obtain ⟨hx, hcd, hml, hts, hown, hK, ⟨hdd, hda⟩, hN, rfl, hret, hlk, hcl, hsl⟩ := hX
  intro H locs ls hP hS hl
  have hd := hcd ix _ hd
  refine va_putN (D := D) (ws := wl cy ad M) (tys := tq cy) hx rfl hts hin ty0 hty hnm hown hK hP (wl_D hdd hda M) hS k (wl_get hk he) hc j hj (va_Nw.use rfl (hN.2 _ hlink)) (fun _ h => by rw [hr]; exact h) hfin (hty j hj) hn hfit hlen hd (fun H1 locs1 hP1 _ hS1 => ?_)
  rw [wl_mset he2] at hP1
  exact kk H1 locs1 ls hP1 hS1 hl
theorem v_iald (hX : vOK Y X ins nL own rm ret) {k n : Nat} {f : Nat → Int32} (hk : k < 281) (he : cG Y.2.2.1 Y.2.2.2 M.2 (M.1 k) k = .inl (Y.2.2.1 1, n, .inl f)) {i : Int32} (hin : vp_in i n) (ix : Nat) (hd : gi ins ix = some (pc, .iaload, 1)) (kk : V Y X M (pc + 1) L (.int (f i.toNatClampNeg) :: st)) : V Y X M pc L (.int i :: .ref (Y.2.2.2 k) :: st) := by
  obtain ⟨l, D, cy, ad⟩ := Y
  obtain ⟨p, e, R, s, m, args, below, meth, c, cells, slots, Q, A⟩ := X
  obtain ⟨hx, hcd, hml, hts, hown, hK, ⟨hdd, hda⟩, hN, rfl, hret, hlk, hcl, hsl⟩ := hX
  intro H locs ls hP hS hl
  have hd := hcd ix _ hd
  exact va_iald (D := D) (ws := wl cy ad M) (tys := tq cy) hx rfl hK hP k 1 (wl_get hk he) rfl hin hd (kk H locs ls hP hS hl)
theorem v_cald (hX : vOK Y X ins nL own rm ret) {k n : Nat} {f : Nat → Int32} (hk : k < 281) (he : cG Y.2.2.1 Y.2.2.2 M.2 (M.1 k) k = .inl (Y.2.2.1 0, n, .inl f)) {i : Int32} (hin : vp_in i n) (ix : Nat) (hd : gi ins ix = some (pc, .caload, 1)) (kk : V Y X M (pc + 1) L (.int (f i.toNatClampNeg) :: st)) : V Y X M pc L (.int i :: .ref (Y.2.2.2 k) :: st) := by
  obtain ⟨l, D, cy, ad⟩ := Y
  obtain ⟨p, e, R, s, m, args, below, meth, c, cells, slots, Q, A⟩ := X
  obtain ⟨hx, hcd, hml, hts, hown, hK, ⟨hdd, hda⟩, hN, rfl, hret, hlk, hcl, hsl⟩ := hX
  intro H locs ls hP hS hl
  have hd := hcd ix _ hd
  exact va_cald (D := D) (ws := wl cy ad M) (tys := tq cy) hx rfl hK hP k 0 (wl_get hk he) rfl hin hd (kk H locs ls hP hS hl)
theorem v_zald (hX : vOK Y X ins nL own rm ret) {k n : Nat} {f : Nat → Int32} (hk : k < 281) (he : cG Y.2.2.1 Y.2.2.2 M.2 (M.1 k) k = .inl (Y.2.2.1 2, n, .inl f)) {i : Int32} (hin : vp_in i n) (ix : Nat) (hd : gi ins ix = some (pc, .baload, 1)) (kk : V Y X M (pc + 1) L (.int (f i.toNatClampNeg) :: st)) : V Y X M pc L (.int i :: .ref (Y.2.2.2 k) :: st) := by
  obtain ⟨l, D, cy, ad⟩ := Y
  obtain ⟨p, e, R, s, m, args, below, meth, c, cells, slots, Q, A⟩ := X
  obtain ⟨hx, hcd, hml, hts, hown, hK, ⟨hdd, hda⟩, hN, rfl, hret, hlk, hcl, hsl⟩ := hX
  intro H locs ls hP hS hl
  have hd := hcd ix _ hd
  exact va_zald (D := D) (ws := wl cy ad M) (tys := tq cy) hx rfl hK hP k 2 (wl_get hk he) rfl hin hd (kk H locs ls hP hS hl)
theorem v_iast (hX : vOK Y X ins nL own rm ret) {k n : Nat} {f : Nat → Int32} (hk : k < 281) (he : cG Y.2.2.1 Y.2.2.2 M.2 (M.1 k) k = .inl (Y.2.2.1 1, n, .inl f)) (hf : f = M.1 k) {i x : Int32} (hin : vp_in i n) (he2 : cG Y.2.2.1 Y.2.2.2 M.2 (upd (M.1 k) i.toNatClampNeg x) k = .inl (Y.2.2.1 1, n, .inl (upd (M.1 k) i.toNatClampNeg x))) (ix : Nat) (hd : gi ins ix = some (pc, .iastore, 1)) (kk : V Y X (mset M k i.toNatClampNeg x) (pc + 1) L st) : V Y X M pc L (.int x :: .int i :: .ref (Y.2.2.2 k) :: st) := by
  obtain ⟨l, D, cy, ad⟩ := Y
  obtain ⟨p, e, R, s, m, args, below, meth, c, cells, slots, Q, A⟩ := X
  obtain ⟨hx, hcd, hml, hts, hown, hK, ⟨hdd, hda⟩, hN, rfl, hret, hlk, hcl, hsl⟩ := hX
  intro H locs ls hP hS hl
  have hd := hcd ix _ hd
  subst hf
  refine va_iast (D := D) (ws := wl cy ad M) (tys := tq cy) hx rfl hK hP (wl_D hdd hda M) hS k 1 (wl_get hk he) rfl hin hd (fun H1 locs1 hP1 _ hS1 => ?_)
  rw [wl_mset he2] at hP1
  exact kk H1 locs1 ls hP1 hS1 hl
theorem v_cast (hX : vOK Y X ins nL own rm ret) {k n : Nat} {f : Nat → Int32} (hk : k < 281) (he : cG Y.2.2.1 Y.2.2.2 M.2 (M.1 k) k = .inl (Y.2.2.1 0, n, .inl f)) (hf : f = M.1 k) {i x : Int32} (hin : vp_in i n) (he2 : cG Y.2.2.1 Y.2.2.2 M.2 (upd (M.1 k) i.toNatClampNeg (vp_nar .char x)) k = .inl (Y.2.2.1 0, n, .inl (upd (M.1 k) i.toNatClampNeg (vp_nar .char x)))) (ix : Nat) (hd : gi ins ix = some (pc, .castore, 1)) (kk : V Y X (mset M k i.toNatClampNeg (vp_nar .char x)) (pc + 1) L st) : V Y X M pc L (.int x :: .int i :: .ref (Y.2.2.2 k) :: st) := by
  obtain ⟨l, D, cy, ad⟩ := Y
  obtain ⟨p, e, R, s, m, args, below, meth, c, cells, slots, Q, A⟩ := X
  obtain ⟨hx, hcd, hml, hts, hown, hK, ⟨hdd, hda⟩, hN, rfl, hret, hlk, hcl, hsl⟩ := hX
  intro H locs ls hP hS hl
  have hd := hcd ix _ hd
  subst hf
  refine va_cast (D := D) (ws := wl cy ad M) (tys := tq cy) hx rfl hK hP (wl_D hdd hda M) hS k 0 (wl_get hk he) rfl hin hd (fun H1 locs1 hP1 _ hS1 => ?_)
  rw [wl_mset he2] at hP1
  exact kk H1 locs1 ls hP1 hS1 hl
theorem v_zast (hX : vOK Y X ins nL own rm ret) {k n : Nat} {f : Nat → Int32} (hk : k < 281) (he : cG Y.2.2.1 Y.2.2.2 M.2 (M.1 k) k = .inl (Y.2.2.1 2, n, .inl f)) (hf : f = M.1 k) {i x : Int32} (hin : vp_in i n) (he2 : cG Y.2.2.1 Y.2.2.2 M.2 (upd (M.1 k) i.toNatClampNeg (vp_nar .boolean x)) k = .inl (Y.2.2.1 2, n, .inl (upd (M.1 k) i.toNatClampNeg (vp_nar .boolean x)))) (ix : Nat) (hd : gi ins ix = some (pc, .bastore, 1)) (kk : V Y X (mset M k i.toNatClampNeg (vp_nar .boolean x)) (pc + 1) L st) : V Y X M pc L (.int x :: .int i :: .ref (Y.2.2.2 k) :: st) := by
  obtain ⟨l, D, cy, ad⟩ := Y
  obtain ⟨p, e, R, s, m, args, below, meth, c, cells, slots, Q, A⟩ := X
  obtain ⟨hx, hcd, hml, hts, hown, hK, ⟨hdd, hda⟩, hN, rfl, hret, hlk, hcl, hsl⟩ := hX
  intro H locs ls hP hS hl
  have hd := hcd ix _ hd
  subst hf
  refine va_zast (D := D) (ws := wl cy ad M) (tys := tq cy) hx rfl hK hP (wl_D hdd hda M) hS k 2 (wl_get hk he) rfl hin hd (fun H1 locs1 hP1 _ hS1 => ?_)
  rw [wl_mset he2] at hP1
  exact kk H1 locs1 ls hP1 hS1 hl
theorem v_aald (hX : vOK Y X ins nL own rm ret) {k n t0 : Nat} {Cn : String} {f : Nat → Option Nat} {v : Nat} (hk : k < 281) (he : cG Y.2.2.1 Y.2.2.2 M.2 (M.1 k) k = .inl (Y.2.2.1 t0, n, .inr (.inr (.inr (.inr f))))) (ht : (tq Y.2.2.1)[t0]? = some (Y.2.2.1 t0, .object Cn)) {i : Int32} (hin : vp_in i n) (hv : f i.toNatClampNeg = some v) (ix : Nat) (hd : gi ins ix = some (pc, .aaload, 1)) (kk : V Y X M (pc + 1) L (.ref v :: st)) : V Y X M pc L (.int i :: .ref (Y.2.2.2 k) :: st) := by
  obtain ⟨l, D, cy, ad⟩ := Y
  obtain ⟨p, e, R, s, m, args, below, meth, c, cells, slots, Q, A⟩ := X
  obtain ⟨hx, hcd, hml, hts, hown, hK, ⟨hdd, hda⟩, hN, rfl, hret, hlk, hcl, hsl⟩ := hX
  intro H locs ls hP hS hl
  have hd := hcd ix _ hd
  refine va_aldq (D := D) (ws := wl cy ad M) (tys := tq cy) hx rfl hK hP k t0 (wl_get hk he) ht hin hd ?_
  rw [hv]
  exact kk H locs ls hP hS hl
theorem v_alen (hX : vOK Y X ins nL own rm ret) {k t0 : Nat} {a : vp_A} {ty : FieldType} {v : Int32} (hk : k < 281) (he : cG Y.2.2.1 Y.2.2.2 M.2 (M.1 k) k = .inl (Y.2.2.1 t0, a)) (ht : (tq Y.2.2.1)[t0]? = some (Y.2.2.1 t0, ty)) (hv : Int32.ofNat a.1 = v) (ix : Nat) (hd : gi ins ix = some (pc, .arraylength, 1)) (kk : V Y X M (pc + 1) L (.int v :: st)) : V Y X M pc L (.ref (Y.2.2.2 k) :: st) := by
  obtain ⟨l, D, cy, ad⟩ := Y
  obtain ⟨p, e, R, s, m, args, below, meth, c, cells, slots, Q, A⟩ := X
  obtain ⟨hx, hcd, hml, hts, hown, hK, ⟨hdd, hda⟩, hN, rfl, hret, hlk, hcl, hsl⟩ := hX
  intro H locs ls hP hS hl
  have hd := hcd ix _ hd
  exact va_alen (D := D) (ws := wl cy ad M) (tys := tq cy) hx rfl hK hP k t0 (wl_get hk he) ht hv hd (kk H locs ls hP hS hl)
theorem v_iret (hX : vOK Y X ins nL own rm ret) {ty : FieldType} {x : Int32} {rv : Option Value} (hQ : vQ Y X rv M') (hr : ret = some ty) (hn : narrow ty (.int x) = .int x) (hv : rv = some (.int x)) (hM : M' = M) (ix : Nat) (hd : gi ins ix = some (pc, .ireturn, 1)) : V Y X M pc L [.int x] := by
  obtain ⟨l, D, cy, ad⟩ := Y
  obtain ⟨p, e, R, s, m, args, below, meth, c, cells, slots, Q, A⟩ := X
  obtain ⟨hx, hcd, hml, hts, hown, hK, ⟨hdd, hda⟩, hN, rfl, hret, hlk, hcl, hsl⟩ := hX
  intro H locs ls hP hS hl
  have hd := hcd ix _ hd
  obtain ⟨rfl, rfl⟩ := hQ
  subst hv
  subst hM
  exact W.zret hx rfl (hret.trans hr) hn (fun t ht _ => ⟨rfl, by rw [ht]; exact hP, hS.F ht⟩) hS.2.2 hd hlk
theorem v_aret (hX : vOK Y X ins nL own rm ret) {ty : FieldType} {x : Value} {rv : Option Value} (hQ : vQ Y X rv M') (hr : ret = some ty) (hrt : (∃ n, ty = .object n) ∨ ∃ t, ty = .array t) (hx2 : x = .null ∨ ∃ a, x = .ref a) (hv : rv = some x) (hM : M' = M) (ix : Nat) (hd : gi ins ix = some (pc, .areturn, 1)) : V Y X M pc L [x] := by
  obtain ⟨l, D, cy, ad⟩ := Y
  obtain ⟨p, e, R, s, m, args, below, meth, c, cells, slots, Q, A⟩ := X
  obtain ⟨hx, hcd, hml, hts, hown, hK, ⟨hdd, hda⟩, hN, rfl, hret, hlk, hcl, hsl⟩ := hX
  intro H locs ls hP hS hl
  have hd := hcd ix _ hd
  obtain ⟨rfl, rfl⟩ := hQ
  subst hv
  subst hM
  exact W.aret hx rfl (hret.trans hr) hrt hx2 (fun t ht _ => ⟨rfl, by rw [ht]; exact hP, hS.F ht⟩) hS.2.2 hd hlk
theorem v_vret (hX : vOK Y X ins nL own rm ret) {rv : Option Value} (hQ : vQ Y X rv M') (hr : ret = none) (hv : rv = none) (hM : M' = M) (ix : Nat) (hd : gi ins ix = some (pc, .return_, 1)) : V Y X M pc L [] := by
  obtain ⟨l, D, cy, ad⟩ := Y
  obtain ⟨p, e, R, s, m, args, below, meth, c, cells, slots, Q, A⟩ := X
  obtain ⟨hx, hcd, hml, hts, hown, hK, ⟨hdd, hda⟩, hN, rfl, hret, hlk, hcl, hsl⟩ := hX
  intro H locs ls hP hS hl
  have hd := hcd ix _ hd
  obtain ⟨rfl, rfl⟩ := hQ
  subst hv
  subst hM
  exact W.vret hx rfl (hret.trans hr) (fun t ht _ => ⟨rfl, by rw [ht]; exact hP, hS.F ht⟩) hS.2.2 hd hlk
theorem V.sub {L' : List (Option Value)} (k : V Y X M pc L' st) (hlen : L'.length = L.length) (h : lsub L 0 L') : V Y X M pc L st := by
  obtain ⟨l, D, cy, ad⟩ := Y
  obtain ⟨p, e, R, s, m, args, below, meth, c, cells, slots, Q, A⟩ := X
  intro H locs ls hP hS hl
  exact k H locs ls hP hS (lw_sub hlen h hl)
theorem V.subM {L' : List (Option Value)} {M2 : Mm} (k : V Y X M2 pc L' st) (hM : M = M2) (hlen : L'.length = L.length) (h : lsub L 0 L') : V Y X M pc L st := by
  subst hM
  exact V.sub k hlen h
theorem V.mem {M2 : Mm} (hM : M = M2) (k : V Y X M2 pc L st) : V Y X M pc L st := by
  subst hM
  exact k
theorem v_run {p : Program} {l : Launch} {e : Env} {R : Room} {s : State} {m : MethodId} {args : Array Value} {below : List Frame} {meth : Method} {c : Code} {H : Heap} {locs : List Loc} {cells slots : Nat} {Q : State → Prop} {pc : Nat} {ls : Array Slot} {rest st0 : List Value} {A0 A1 : Nat → Prop} {H0 : Heap} {D : va_G} {w1 : va_W} {rv : Option Value}
    (hr : va_Run p l e R s m args below meth c H locs cells slots 0 0 (F0 m pc ls st0) rest (fun st oc t => oc = .returned rv ∧ va_P D vwCl w1 t.heap ∧ va_F A1 st t) A1) (hS : va_S A0 H0 H locs) (hA : ∀ q, A1 q → A0 q)
    (kk : ∀ (H1 : Heap) (locs1 : List Loc), va_P D vwCl w1 H1 → va_S A0 H0 H1 locs1 → W p l e R s m args below meth c H1 locs1 cells slots Q (F0 m (pc + 3) ls (rv.toList ++ rest))) : W p l e R s m args below meth c H locs cells slots Q (F0 m pc ls st0) := by
  intro T hT X
  obtain ⟨v, st₀, t, T', L, h0, X', hL, e1, e2, ⟨hv, hp, hz, hk⟩, st⟩ := hr T hT X
  cases hv
  rw [h0] at hz hk
  obtain ⟨t2, a1, b1⟩ := kk T'.heap (locs ++ L) (by rw [e1]; exact hp)
    ⟨Nat.le_trans hS.1 (by rw [e1]; exact hz), fun q h1 h2 => by rw [e1, hk q (Nat.lt_of_lt_of_le h1 hS.1) (fun z => h2 (hA q z))]; exact hS.2.1 q h1 h2, fun q hq => by
      rcases List.mem_append.mp hq with h | h
      · exact hS.2.2 q h
      · exact hA _ (hL q h)⟩ T' rfl X'
  exact ⟨t2, st t2 a1, b1⟩
theorem gW {w : Cond} (h : w ∈ wT) : w ∈ wT ∧ ((w.onTables && w.keeps) = true ∨ ∃ ty, w = .arrayClass ty) := ⟨h, good_of_word (List.mem_filter.mp h).2⟩
theorem gV {own C : String} {index n : Nat} {y : MethodName} {b1 : ByteArray} {r : Option FieldType} (hcw : Cond.code y b1 n r ∈ wT) (hlink : Cond.methodLink own index y ∈ wT) (hinst : Cond.instanceMethod y ∈ wT) (hsel : Cond.selects C y y ∈ wT) (hini : Cond.initialized C ∈ wT) : GoodIn wT (wsV own index C y (Cond.code y b1 n r :: wT)) := by
  intro w hw
  simp only [wsV, List.cons_append, List.nil_append, List.mem_cons] at hw
  rcases hw with rfl | rfl | rfl | rfl | rfl | hw
  · exact gW hlink
  · exact gW hinst
  · exact gW hsel
  · exact gW hini
  · exact gW hcw
  · exact gW hw
theorem gS {own : String} {index n : Nat} {y : MethodName} {b1 : ByteArray} {r : Option FieldType} (hcw : Cond.code y b1 n r ∈ wT) (hlink : Cond.methodLink own index y ∈ wT) (hstt : Cond.static y ∈ wT) (hini : Cond.initialized y.cls ∈ wT) : GoodIn wT (va_wsS own index y (Cond.code y b1 n r :: wT)) := by
  intro w hw
  simp only [va_wsS, List.cons_append, List.nil_append, List.mem_cons] at hw
  rcases hw with rfl | rfl | rfl | rfl | hw
  · exact gW hlink
  · exact gW hstt
  · exact gW hini
  · exact gW hcw
  · exact gW hw
theorem wd_blind {Y : Yt} {M : Mm} {As : List Value} : FrameBlind (va_Pc As (wd Y M)) := by
  obtain ⟨l, D, cy, ad⟩ := Y
  intro a U g mk h
  obtain ⟨h1, h2, h3, h4, h5⟩ := h
  exact ⟨h1, h2, va_K.moved (u := U) (U := U.calling g mk a) (Vm.Alike.refl U.vm) h3, h4, Nn.same (s := U) (U := U.calling g mk a) rfl h5⟩
theorem fA_sub {ad : Nat → Nat} {A : Nat → Prop} (h : ∀ k, k < 281 → A (ad k)) : ∀ q, fA ad q → A q := by
  rintro q ⟨k, hk, rfl⟩
  exact h k hk
theorem v_callV (hX : vOK Y X ins nL own rm ret) (nA : Nat) {y : MethodName}  {rmc : Room} {rv : Option Value} {bytes : ByteArray} {maxL index : Nat} {retc : Option FieldType} {st0 : List Value} {As : List Value} {C : String} {k ci : Nat} {T : u_T} {N : Nat} {fs : List Value} (hk : k < 281) (he : cG Y.2.2.1 Y.2.2.2 M.2 (M.1 k) k = .inr (ci, fs)) (hc : vwCl[ci]? = some (C, T, N)) (hF : Fn Y y (Cond.code y bytes maxL retc :: wT) rmc (.ref (Y.2.2.2 k) :: As) M rv M') (hcw : Cond.code y bytes maxL retc ∈ wT) (hlink : Cond.methodLink own index y ∈ wT) (hinst : Cond.instanceMethod y ∈ wT) (hsel : Cond.selects C y y ∈ wT) (hini : Cond.initialized C ∈ wT) (hdd2 : y.cls = C ∧ y.cls ≠ "java/lang/invoke/MethodHandle" ∧ y.cls ≠ "java/lang/invoke/VarHandle" ∧ (parseMethodDescriptor y.desc).map (fun d => d.parameters.length) = some nA) (hR : (rmc.cells = 0 ∧ rmc.slots = 0) ∧ rmc.frames + 1 ≤ rm.frames ∧ 8 + (maxL + 11) + rmc.locals ≤ rm.locals) (hL : L.length = nL) (hW : (st.map fun v => v.category).sum ≤ 8) (hnA : As.length = nA) (hst : st0 = As.reverse ++ .ref (Y.2.2.2 k) :: st) (ix : Nat) (hd : gi ins ix = some (pc, .invokevirtual index, 3)) (kk : V Y X M' (pc + 3) L (rv.toList ++ st)) : V Y X M pc L st0 := by
  obtain ⟨l, D, cy, ad⟩ := Y
  obtain ⟨p, e, R, s, m, args, below, meth, c, cells, slots, Q, A⟩ := X
  obtain ⟨hx, hcd, hml, hts, hown, hK, ⟨hdd, hda⟩, hN, rfl, hret, hlk, hcl, hsl⟩ := hX
  intro H locs ls hP hS hl
  have hd := hcd ix _ hd
  obtain ⟨cb, hcb1, hcb2, hcb3⟩ := va_recv (q0 := k) hK hP hc (wl_get hk he)
  refine v_run (w1 := wl cy ad M') (A1 := fA ad) (rest := st) (va_runV (As := As) (rest := st) ⟨hx, rfl, hml, hown, hts⟩ hF (cwV nA hts (gV hcw hlink hinst hsel hini) rfl hR.1.1 hR.1.2 hdd2 hR.2) ⟨wd_blind, ⟨cb, hcb1, hcb2, hcb3⟩, fun U hU hW => ⟨rfl, by rw [hU]; exact hP, va_K.moved hW.alike hK, hdd, Nn.warm hW hN⟩⟩ rfl hnA (hl.1.trans hL) hst (lv_room hW) hd ⟨hcl, hsl⟩) hS (fA_sub hda) (fun H1 locs1 hP1 hS1 => kk H1 locs1 ls hP1 hS1 hl)
theorem v_callVN (hX : vOK Y X ins nL own rm ret) (nA : Nat) {y : MethodName}  {rmc : Room} {rv : Option Value} {bytes : ByteArray} {maxL index : Nat} {retc : Option FieldType} {st0 : List Value} {As : List Value} {C host : String} {k ci : Nat} {T : u_T} {N : Nat} {fs : List Value} (hk : k < 281) (he : cG Y.2.2.1 Y.2.2.2 M.2 (M.1 k) k = .inr (ci, fs)) (hc : vwCl[ci]? = some (C, T, N)) (hF : Fn Y y (Cond.code y bytes maxL retc :: wT) rmc (.ref (Y.2.2.2 k) :: As) M rv M') (hcw : Cond.code y bytes maxL retc ∈ wT) (hlink : (own, index, y, host) ∈ nM) (hini : Cond.initialized y.cls ∈ wT) (hinst : Cond.instanceMethod y ∈ wT) (hsel : Cond.selects C y y ∈ wT) (hdd2 : y.cls ≠ "java/lang/invoke/MethodHandle" ∧ y.cls ≠ "java/lang/invoke/VarHandle" ∧ (parseMethodDescriptor y.desc).map (fun d => d.parameters.length) = some nA) (hR : (rmc.cells = 0 ∧ rmc.slots = 0) ∧ rmc.frames + 1 ≤ rm.frames ∧ 8 + (maxL + 11) + rmc.locals ≤ rm.locals) (hL : L.length = nL) (hW : (st.map fun v => v.category).sum ≤ 8) (hnA : As.length = nA) (hst : st0 = As.reverse ++ .ref (Y.2.2.2 k) :: st) (ix : Nat) (hd : gi ins ix = some (pc, .invokevirtual index, 3)) (kk : V Y X M' (pc + 3) L (rv.toList ++ st)) : V Y X M pc L st0 := by
  obtain ⟨l, D, cy, ad⟩ := Y
  obtain ⟨p, e, R, s, m, args, below, meth, c, cells, slots, Q, A⟩ := X
  obtain ⟨hx, hcd, hml, hts, hown, hK, ⟨hdd, hda⟩, hN, rfl, hret, hlk, hcl, hsl⟩ := hX
  intro H locs ls hP hS hl
  have hd := hcd ix _ hd
  obtain ⟨cb, hcb1, hcb2, hcb3⟩ := va_recv (q0 := k) hK hP hc (wl_get hk he)
  refine v_run (w1 := wl cy ad M') (A1 := fA ad) (rest := st) (va_runVN (As := As) (rest := st) ⟨hx, rfl, hml, hown, hts⟩ hF ⟨va_cnB nA hts (gI hcw) rfl hR.1.1 hR.1.2 (hN.1 _ hlink) (hts _ hini) hdd2 hR.2, hts _ hinst, hts _ hsel⟩ ⟨wd_blind, ⟨cb, hcb1, hcb2, hcb3⟩, fun U hU hW => ⟨rfl, by rw [hU]; exact hP, va_K.moved hW.alike hK, hdd, Nn.warm hW hN⟩⟩ rfl hnA (hl.1.trans hL) hst (lv_room hW) hd ⟨hcl, hsl⟩) hS (fA_sub hda) (fun H1 locs1 hP1 hS1 => kk H1 locs1 ls hP1 hS1 hl)
theorem v_callS (hX : vOK Y X ins nL own rm ret) (nA : Nat) {y : MethodName}  {rmc : Room} {rv : Option Value} {bytes : ByteArray} {maxL index : Nat} {retc : Option FieldType} {st0 : List Value} {As : List Value} (hF : Fn Y y (Cond.code y bytes maxL retc :: wT) rmc As M rv M') (hcw : Cond.code y bytes maxL retc ∈ wT) (hlink : Cond.methodLink own index y ∈ wT) (hstt : Cond.static y ∈ wT) (hini : Cond.initialized y.cls ∈ wT) (hdd2 : y.cls ≠ "java/lang/invoke/MethodHandle" ∧ y.cls ≠ "java/lang/invoke/VarHandle" ∧ (parseMethodDescriptor y.desc).map (fun d => d.parameters.length) = some nA) (hR : (rmc.cells = 0 ∧ rmc.slots = 0) ∧ rmc.frames + 1 ≤ rm.frames ∧ 8 + (maxL + 11) + rmc.locals ≤ rm.locals) (hL : L.length = nL) (hW : (st.map fun v => v.category).sum ≤ 8) (hnA : As.length = nA) (hst : st0 = As.reverse ++ st) (ix : Nat) (hd : gi ins ix = some (pc, .invokestatic index, 3)) (kk : V Y X M' (pc + 3) L (rv.toList ++ st)) : V Y X M pc L st0 := by
  obtain ⟨l, D, cy, ad⟩ := Y
  obtain ⟨p, e, R, s, m, args, below, meth, c, cells, slots, Q, A⟩ := X
  obtain ⟨hx, hcd, hml, hts, hown, hK, ⟨hdd, hda⟩, hN, rfl, hret, hlk, hcl, hsl⟩ := hX
  intro H locs ls hP hS hl
  have hd := hcd ix _ hd
  refine v_run (w1 := wl cy ad M') (A1 := fA ad) (rest := st) (va_runS (As := As) (rest := st) ⟨hx, rfl, hml, hown, hts⟩ hF (va_cwS nA hts (gS hcw hlink hstt hini) rfl hR.1.1 hR.1.2 hdd2 hR.2) ⟨wd_blind, fun U hU hW => ⟨rfl, by rw [hU]; exact hP, va_K.moved hW.alike hK, hdd, Nn.warm hW hN⟩⟩ rfl hnA (hl.1.trans hL) hst (lv_room hW) hd ⟨hcl, hsl⟩) hS (fA_sub hda) (fun H1 locs1 hP1 hS1 => kk H1 locs1 ls hP1 hS1 hl)
theorem v_callSN (hX : vOK Y X ins nL own rm ret) (nA : Nat) {y : MethodName}  {rmc : Room} {rv : Option Value} {bytes : ByteArray} {maxL index : Nat} {retc : Option FieldType} {st0 : List Value} {As : List Value} {host : String} (hF : Fn Y y (Cond.code y bytes maxL retc :: wT) rmc As M rv M') (hcw : Cond.code y bytes maxL retc ∈ wT) (hlink : (own, index, y, host) ∈ nM) (hini : Cond.initialized y.cls ∈ wT) (hstt : Cond.static y ∈ wT) (hdd2 : y.cls ≠ "java/lang/invoke/MethodHandle" ∧ y.cls ≠ "java/lang/invoke/VarHandle" ∧ (parseMethodDescriptor y.desc).map (fun d => d.parameters.length) = some nA) (hR : (rmc.cells = 0 ∧ rmc.slots = 0) ∧ rmc.frames + 1 ≤ rm.frames ∧ 8 + (maxL + 11) + rmc.locals ≤ rm.locals) (hL : L.length = nL) (hW : (st.map fun v => v.category).sum ≤ 8) (hnA : As.length = nA) (hst : st0 = As.reverse ++ st) (ix : Nat) (hd : gi ins ix = some (pc, .invokestatic index, 3)) (kk : V Y X M' (pc + 3) L (rv.toList ++ st)) : V Y X M pc L st0 := by
  obtain ⟨l, D, cy, ad⟩ := Y
  obtain ⟨p, e, R, s, m, args, below, meth, c, cells, slots, Q, A⟩ := X
  obtain ⟨hx, hcd, hml, hts, hown, hK, ⟨hdd, hda⟩, hN, rfl, hret, hlk, hcl, hsl⟩ := hX
  intro H locs ls hP hS hl
  have hd := hcd ix _ hd
  refine v_run (w1 := wl cy ad M') (A1 := fA ad) (rest := st) (va_runSN (As := As) (rest := st) ⟨hx, rfl, hml, hown, hts⟩ hF ⟨va_cnB nA hts (gI hcw) rfl hR.1.1 hR.1.2 (hN.1 _ hlink) (hts _ hini) hdd2 hR.2, hts _ hstt, trivial⟩ ⟨wd_blind, fun U hU hW => ⟨rfl, by rw [hU]; exact hP, va_K.moved hW.alike hK, hdd, Nn.warm hW hN⟩⟩ rfl hnA (hl.1.trans hL) hst (lv_room hW) hd ⟨hcl, hsl⟩) hS (fA_sub hda) (fun H1 locs1 hP1 hS1 => kk H1 locs1 ls hP1 hS1 hl)
theorem v_mmin (hX : vOK Y X ins nL own rm ret) {index : Nat} {x y : Int32} (hlink : Cond.methodLink own index Lib.Math.min.name ∈ wT) (hstat : Cond.static Lib.Math.min.name ∈ wT) (hini : Cond.initialized "java/lang/Math" ∈ wT) (hcode : Cond.code Lib.Math.min.name Lib.Math.min.code 2 (some .int) ∈ wT) (hfr : 1 ≤ rm.frames) (hlo : (st.map fun v => v.category).sum + 13 ≤ rm.locals) (hL : L.length = nL) (ix : Nat) (hd : gi ins ix = some (pc, .invokestatic index, 3)) (kk : V Y X M (pc + 3) L (.int (if y < x then y else x) :: st)) : V Y X M pc L (.int y :: .int x :: st) := by
  obtain ⟨l, D, cy, ad⟩ := Y
  obtain ⟨p, e, R, s, m, args, below, meth, c, cells, slots, Q, A⟩ := X
  obtain ⟨hx, hcd, hml, hts, hown, hK, ⟨hdd, hda⟩, hN, rfl, hret, hlk, hcl, hsl⟩ := hX
  intro H locs ls hP hS hl
  have hd := hcd ix _ hd
  exact va_mmin hx rfl (by rw [hl.1, hL]; exact hml) hown (hts _ hlink) (hts _ hstat) (hts _ hini) (hts _ hcode) hfr hlo hcl hsl hd (kk H locs ls hP hS hl)
theorem v_mmax (hX : vOK Y X ins nL own rm ret) {index : Nat} {x y : Int32} (hlink : Cond.methodLink own index Lib.Math.max.name ∈ wT) (hstat : Cond.static Lib.Math.max.name ∈ wT) (hini : Cond.initialized "java/lang/Math" ∈ wT) (hcode : Cond.code Lib.Math.max.name Lib.Math.max.code 2 (some .int) ∈ wT) (hfr : 1 ≤ rm.frames) (hlo : (st.map fun v => v.category).sum + 13 ≤ rm.locals) (hL : L.length = nL) (ix : Nat) (hd : gi ins ix = some (pc, .invokestatic index, 3)) (kk : V Y X M (pc + 3) L (.int (if x < y then y else x) :: st)) : V Y X M pc L (.int y :: .int x :: st) := by
  obtain ⟨l, D, cy, ad⟩ := Y
  obtain ⟨p, e, R, s, m, args, below, meth, c, cells, slots, Q, A⟩ := X
  obtain ⟨hx, hcd, hml, hts, hown, hK, ⟨hdd, hda⟩, hN, rfl, hret, hlk, hcl, hsl⟩ := hX
  intro H locs ls hP hS hl
  have hd := hcd ix _ hd
  exact va_mmax hx rfl (by rw [hl.1, hL]; exact hml) hown (hts _ hlink) (hts _ hstat) (hts _ hini) (hts _ hcode) hfr hlo hcl hsl hd (kk H locs ls hP hS hl)
end VV
end
section
section VF
variable {Y : Yt} {X : XT} {M : Mm} {pc : Nat} {L : List (Option Value)} {st : List Value} {ins : List (Nat × Instr × Nat)} {nL : Nat} {own : String} {rm : Room} {ret : Option FieldType}
theorem g_0_0 (hX : vOK Y X ins nL own rm ret) {index : Nat} (ix : Nat) {b : Nat} (hB : isB b) (hlink : Cond.fieldLink own index "PointAnswers$Bundle" "rows" "[LPointAnswers$Point;" ∈ wT) (hd : gi ins ix = some (pc, .getfield index, 3)) (kk : V Y X M (pc + 3) L (.ref (Y.2.2.2 (b + 1)) :: st)) : V Y X M pc L (.ref (Y.2.2.2 b) :: st) :=
  v_get hX (C := RX0) (T := TX0) (N := 6) (ci := 0) (fs := [.ref (Y.2.2.2 (b + 1)), .int ((M.1 b) 1), .int ((M.1 b) 2), .int ((M.1 b) 3), .int ((M.1 b) 4), .int ((M.1 b) 5)]) (by have := isB_lt hB; omega) (cG_B hB) rfl inX0 0 (by decide) hlink rfl rfl ix hd kk
theorem gN_0_0 (hX : vOK Y X ins nL own rm ret) {index : Nat} {host : String} (ix : Nat) {b : Nat} (hB : isB b) (hlink : (own, index, "PointAnswers$Bundle", "rows", "[LPointAnswers$Point;", host) ∈ nF) (hd : gi ins ix = some (pc, .getfield index, 3)) (kk : V Y X M (pc + 3) L (.ref (Y.2.2.2 (b + 1)) :: st)) : V Y X M pc L (.ref (Y.2.2.2 b) :: st) :=
  v_getN hX (C := RX0) (T := TX0) (N := 6) (ci := 0) (fs := [.ref (Y.2.2.2 (b + 1)), .int ((M.1 b) 1), .int ((M.1 b) 2), .int ((M.1 b) 3), .int ((M.1 b) 4), .int ((M.1 b) 5)]) (by have := isB_lt hB; omega) (cG_B hB) rfl inX0 0 (by decide) hlink rfl rfl ix hd kk
theorem g_0_1 (hX : vOK Y X ins nL own rm ret) {index : Nat} (ix : Nat) {b : Nat} (hB : isB b) (hlink : Cond.fieldLink own index "PointAnswers$Bundle" "size" "I" ∈ wT) (hd : gi ins ix = some (pc, .getfield index, 3)) (kk : V Y X M (pc + 3) L (.int (M.1 b 1) :: st)) : V Y X M pc L (.ref (Y.2.2.2 b) :: st) :=
  v_get hX (C := RX0) (T := TX0) (N := 6) (ci := 0) (fs := [.ref (Y.2.2.2 (b + 1)), .int ((M.1 b) 1), .int ((M.1 b) 2), .int ((M.1 b) 3), .int ((M.1 b) 4), .int ((M.1 b) 5)]) (by have := isB_lt hB; omega) (cG_B hB) rfl inX0 1 (by decide) hlink rfl rfl ix hd kk
theorem p_0_1 (hX : vOK Y X ins nL own rm ret) {index : Nat} {x : Int32} (ix : Nat) {b : Nat} (hB : isB b) (hlink : Cond.fieldLink own index "PointAnswers$Bundle" "size" "I" ∈ wT) (hd : gi ins ix = some (pc, .putfield index, 3)) (kk : V Y X (mset M b 1 x) (pc + 3) L st) : V Y X M pc L (.int x :: .ref (Y.2.2.2 b) :: st) :=
  v_put hX (C := RX0) (T := TX0) (N := 6) (ci := 0) (fs := [.ref (Y.2.2.2 (b + 1)), .int ((M.1 b) 1), .int ((M.1 b) 2), .int ((M.1 b) 3), .int ((M.1 b) 4), .int ((M.1 b) 5)]) (by have := isB_lt hB; omega) (cG_B hB) rfl inX0 tyX0 tyX0_ok nmX0 1 (by decide) hlink rfl rfl rfl rfl (Nat.le_of_ble_eq_true rfl) (by rw [cG_B hB]; rfl) ix hd kk
theorem gN_0_1 (hX : vOK Y X ins nL own rm ret) {index : Nat} {host : String} (ix : Nat) {b : Nat} (hB : isB b) (hlink : (own, index, "PointAnswers$Bundle", "size", "I", host) ∈ nF) (hd : gi ins ix = some (pc, .getfield index, 3)) (kk : V Y X M (pc + 3) L (.int (M.1 b 1) :: st)) : V Y X M pc L (.ref (Y.2.2.2 b) :: st) :=
  v_getN hX (C := RX0) (T := TX0) (N := 6) (ci := 0) (fs := [.ref (Y.2.2.2 (b + 1)), .int ((M.1 b) 1), .int ((M.1 b) 2), .int ((M.1 b) 3), .int ((M.1 b) 4), .int ((M.1 b) 5)]) (by have := isB_lt hB; omega) (cG_B hB) rfl inX0 1 (by decide) hlink rfl rfl ix hd kk
theorem pN_0_1 (hX : vOK Y X ins nL own rm ret) {index : Nat} {x : Int32} {host : String} (ix : Nat) {b : Nat} (hB : isB b) (hlink : (own, index, "PointAnswers$Bundle", "size", "I", host) ∈ nF) (hd : gi ins ix = some (pc, .putfield index, 3)) (kk : V Y X (mset M b 1 x) (pc + 3) L st) : V Y X M pc L (.int x :: .ref (Y.2.2.2 b) :: st) :=
  v_putN hX (C := RX0) (T := TX0) (N := 6) (ci := 0) (fs := [.ref (Y.2.2.2 (b + 1)), .int ((M.1 b) 1), .int ((M.1 b) 2), .int ((M.1 b) 3), .int ((M.1 b) 4), .int ((M.1 b) 5)]) (by have := isB_lt hB; omega) (cG_B hB) rfl inX0 tyX0 tyX0_ok nmX0 1 (by decide) hlink rfl rfl rfl rfl (Nat.le_of_ble_eq_true rfl) (by rw [cG_B hB]; rfl) ix hd kk
theorem g_0_2 (hX : vOK Y X ins nL own rm ret) {index : Nat} (ix : Nat) {b : Nat} (hB : isB b) (hlink : Cond.fieldLink own index "PointAnswers$Bundle" "day" "I" ∈ wT) (hd : gi ins ix = some (pc, .getfield index, 3)) (kk : V Y X M (pc + 3) L (.int (M.1 b 2) :: st)) : V Y X M pc L (.ref (Y.2.2.2 b) :: st) :=
  v_get hX (C := RX0) (T := TX0) (N := 6) (ci := 0) (fs := [.ref (Y.2.2.2 (b + 1)), .int ((M.1 b) 1), .int ((M.1 b) 2), .int ((M.1 b) 3), .int ((M.1 b) 4), .int ((M.1 b) 5)]) (by have := isB_lt hB; omega) (cG_B hB) rfl inX0 2 (by decide) hlink rfl rfl ix hd kk
theorem p_0_2 (hX : vOK Y X ins nL own rm ret) {index : Nat} {x : Int32} (ix : Nat) {b : Nat} (hB : isB b) (hlink : Cond.fieldLink own index "PointAnswers$Bundle" "day" "I" ∈ wT) (hd : gi ins ix = some (pc, .putfield index, 3)) (kk : V Y X (mset M b 2 x) (pc + 3) L st) : V Y X M pc L (.int x :: .ref (Y.2.2.2 b) :: st) :=
  v_put hX (C := RX0) (T := TX0) (N := 6) (ci := 0) (fs := [.ref (Y.2.2.2 (b + 1)), .int ((M.1 b) 1), .int ((M.1 b) 2), .int ((M.1 b) 3), .int ((M.1 b) 4), .int ((M.1 b) 5)]) (by have := isB_lt hB; omega) (cG_B hB) rfl inX0 tyX0 tyX0_ok nmX0 2 (by decide) hlink rfl rfl rfl rfl (Nat.le_of_ble_eq_true rfl) (by rw [cG_B hB]; rfl) ix hd kk
theorem gN_0_2 (hX : vOK Y X ins nL own rm ret) {index : Nat} {host : String} (ix : Nat) {b : Nat} (hB : isB b) (hlink : (own, index, "PointAnswers$Bundle", "day", "I", host) ∈ nF) (hd : gi ins ix = some (pc, .getfield index, 3)) (kk : V Y X M (pc + 3) L (.int (M.1 b 2) :: st)) : V Y X M pc L (.ref (Y.2.2.2 b) :: st) :=
  v_getN hX (C := RX0) (T := TX0) (N := 6) (ci := 0) (fs := [.ref (Y.2.2.2 (b + 1)), .int ((M.1 b) 1), .int ((M.1 b) 2), .int ((M.1 b) 3), .int ((M.1 b) 4), .int ((M.1 b) 5)]) (by have := isB_lt hB; omega) (cG_B hB) rfl inX0 2 (by decide) hlink rfl rfl ix hd kk
theorem pN_0_2 (hX : vOK Y X ins nL own rm ret) {index : Nat} {x : Int32} {host : String} (ix : Nat) {b : Nat} (hB : isB b) (hlink : (own, index, "PointAnswers$Bundle", "day", "I", host) ∈ nF) (hd : gi ins ix = some (pc, .putfield index, 3)) (kk : V Y X (mset M b 2 x) (pc + 3) L st) : V Y X M pc L (.int x :: .ref (Y.2.2.2 b) :: st) :=
  v_putN hX (C := RX0) (T := TX0) (N := 6) (ci := 0) (fs := [.ref (Y.2.2.2 (b + 1)), .int ((M.1 b) 1), .int ((M.1 b) 2), .int ((M.1 b) 3), .int ((M.1 b) 4), .int ((M.1 b) 5)]) (by have := isB_lt hB; omega) (cG_B hB) rfl inX0 tyX0 tyX0_ok nmX0 2 (by decide) hlink rfl rfl rfl rfl (Nat.le_of_ble_eq_true rfl) (by rw [cG_B hB]; rfl) ix hd kk
theorem g_0_3 (hX : vOK Y X ins nL own rm ret) {index : Nat} (ix : Nat) {b : Nat} (hB : isB b) (hlink : Cond.fieldLink own index "PointAnswers$Bundle" "overruled" "I" ∈ wT) (hd : gi ins ix = some (pc, .getfield index, 3)) (kk : V Y X M (pc + 3) L (.int (M.1 b 3) :: st)) : V Y X M pc L (.ref (Y.2.2.2 b) :: st) :=
  v_get hX (C := RX0) (T := TX0) (N := 6) (ci := 0) (fs := [.ref (Y.2.2.2 (b + 1)), .int ((M.1 b) 1), .int ((M.1 b) 2), .int ((M.1 b) 3), .int ((M.1 b) 4), .int ((M.1 b) 5)]) (by have := isB_lt hB; omega) (cG_B hB) rfl inX0 3 (by decide) hlink rfl rfl ix hd kk
theorem p_0_3 (hX : vOK Y X ins nL own rm ret) {index : Nat} {x : Int32} (ix : Nat) {b : Nat} (hB : isB b) (hlink : Cond.fieldLink own index "PointAnswers$Bundle" "overruled" "I" ∈ wT) (hd : gi ins ix = some (pc, .putfield index, 3)) (kk : V Y X (mset M b 3 x) (pc + 3) L st) : V Y X M pc L (.int x :: .ref (Y.2.2.2 b) :: st) :=
  v_put hX (C := RX0) (T := TX0) (N := 6) (ci := 0) (fs := [.ref (Y.2.2.2 (b + 1)), .int ((M.1 b) 1), .int ((M.1 b) 2), .int ((M.1 b) 3), .int ((M.1 b) 4), .int ((M.1 b) 5)]) (by have := isB_lt hB; omega) (cG_B hB) rfl inX0 tyX0 tyX0_ok nmX0 3 (by decide) hlink rfl rfl rfl rfl (Nat.le_of_ble_eq_true rfl) (by rw [cG_B hB]; rfl) ix hd kk
theorem gN_0_3 (hX : vOK Y X ins nL own rm ret) {index : Nat} {host : String} (ix : Nat) {b : Nat} (hB : isB b) (hlink : (own, index, "PointAnswers$Bundle", "overruled", "I", host) ∈ nF) (hd : gi ins ix = some (pc, .getfield index, 3)) (kk : V Y X M (pc + 3) L (.int (M.1 b 3) :: st)) : V Y X M pc L (.ref (Y.2.2.2 b) :: st) :=
  v_getN hX (C := RX0) (T := TX0) (N := 6) (ci := 0) (fs := [.ref (Y.2.2.2 (b + 1)), .int ((M.1 b) 1), .int ((M.1 b) 2), .int ((M.1 b) 3), .int ((M.1 b) 4), .int ((M.1 b) 5)]) (by have := isB_lt hB; omega) (cG_B hB) rfl inX0 3 (by decide) hlink rfl rfl ix hd kk
theorem pN_0_3 (hX : vOK Y X ins nL own rm ret) {index : Nat} {x : Int32} {host : String} (ix : Nat) {b : Nat} (hB : isB b) (hlink : (own, index, "PointAnswers$Bundle", "overruled", "I", host) ∈ nF) (hd : gi ins ix = some (pc, .putfield index, 3)) (kk : V Y X (mset M b 3 x) (pc + 3) L st) : V Y X M pc L (.int x :: .ref (Y.2.2.2 b) :: st) :=
  v_putN hX (C := RX0) (T := TX0) (N := 6) (ci := 0) (fs := [.ref (Y.2.2.2 (b + 1)), .int ((M.1 b) 1), .int ((M.1 b) 2), .int ((M.1 b) 3), .int ((M.1 b) 4), .int ((M.1 b) 5)]) (by have := isB_lt hB; omega) (cG_B hB) rfl inX0 tyX0 tyX0_ok nmX0 3 (by decide) hlink rfl rfl rfl rfl (Nat.le_of_ble_eq_true rfl) (by rw [cG_B hB]; rfl) ix hd kk
theorem g_0_4 (hX : vOK Y X ins nL own rm ret) {index : Nat} (ix : Nat) {b : Nat} (hB : isB b) (hlink : Cond.fieldLink own index "PointAnswers$Bundle" "lapse" "I" ∈ wT) (hd : gi ins ix = some (pc, .getfield index, 3)) (kk : V Y X M (pc + 3) L (.int (M.1 b 4) :: st)) : V Y X M pc L (.ref (Y.2.2.2 b) :: st) :=
  v_get hX (C := RX0) (T := TX0) (N := 6) (ci := 0) (fs := [.ref (Y.2.2.2 (b + 1)), .int ((M.1 b) 1), .int ((M.1 b) 2), .int ((M.1 b) 3), .int ((M.1 b) 4), .int ((M.1 b) 5)]) (by have := isB_lt hB; omega) (cG_B hB) rfl inX0 4 (by decide) hlink rfl rfl ix hd kk
theorem p_0_4 (hX : vOK Y X ins nL own rm ret) {index : Nat} {x : Int32} (ix : Nat) {b : Nat} (hB : isB b) (hlink : Cond.fieldLink own index "PointAnswers$Bundle" "lapse" "I" ∈ wT) (hd : gi ins ix = some (pc, .putfield index, 3)) (kk : V Y X (mset M b 4 x) (pc + 3) L st) : V Y X M pc L (.int x :: .ref (Y.2.2.2 b) :: st) :=
  v_put hX (C := RX0) (T := TX0) (N := 6) (ci := 0) (fs := [.ref (Y.2.2.2 (b + 1)), .int ((M.1 b) 1), .int ((M.1 b) 2), .int ((M.1 b) 3), .int ((M.1 b) 4), .int ((M.1 b) 5)]) (by have := isB_lt hB; omega) (cG_B hB) rfl inX0 tyX0 tyX0_ok nmX0 4 (by decide) hlink rfl rfl rfl rfl (Nat.le_of_ble_eq_true rfl) (by rw [cG_B hB]; rfl) ix hd kk
theorem gN_0_4 (hX : vOK Y X ins nL own rm ret) {index : Nat} {host : String} (ix : Nat) {b : Nat} (hB : isB b) (hlink : (own, index, "PointAnswers$Bundle", "lapse", "I", host) ∈ nF) (hd : gi ins ix = some (pc, .getfield index, 3)) (kk : V Y X M (pc + 3) L (.int (M.1 b 4) :: st)) : V Y X M pc L (.ref (Y.2.2.2 b) :: st) :=
  v_getN hX (C := RX0) (T := TX0) (N := 6) (ci := 0) (fs := [.ref (Y.2.2.2 (b + 1)), .int ((M.1 b) 1), .int ((M.1 b) 2), .int ((M.1 b) 3), .int ((M.1 b) 4), .int ((M.1 b) 5)]) (by have := isB_lt hB; omega) (cG_B hB) rfl inX0 4 (by decide) hlink rfl rfl ix hd kk
theorem pN_0_4 (hX : vOK Y X ins nL own rm ret) {index : Nat} {x : Int32} {host : String} (ix : Nat) {b : Nat} (hB : isB b) (hlink : (own, index, "PointAnswers$Bundle", "lapse", "I", host) ∈ nF) (hd : gi ins ix = some (pc, .putfield index, 3)) (kk : V Y X (mset M b 4 x) (pc + 3) L st) : V Y X M pc L (.int x :: .ref (Y.2.2.2 b) :: st) :=
  v_putN hX (C := RX0) (T := TX0) (N := 6) (ci := 0) (fs := [.ref (Y.2.2.2 (b + 1)), .int ((M.1 b) 1), .int ((M.1 b) 2), .int ((M.1 b) 3), .int ((M.1 b) 4), .int ((M.1 b) 5)]) (by have := isB_lt hB; omega) (cG_B hB) rfl inX0 tyX0 tyX0_ok nmX0 4 (by decide) hlink rfl rfl rfl rfl (Nat.le_of_ble_eq_true rfl) (by rw [cG_B hB]; rfl) ix hd kk
theorem g_0_5 (hX : vOK Y X ins nL own rm ret) {index : Nat} (ix : Nat) {b : Nat} (hB : isB b) (hlink : Cond.fieldLink own index "PointAnswers$Bundle" "allowedPages" "I" ∈ wT) (hd : gi ins ix = some (pc, .getfield index, 3)) (kk : V Y X M (pc + 3) L (.int (M.1 b 5) :: st)) : V Y X M pc L (.ref (Y.2.2.2 b) :: st) :=
  v_get hX (C := RX0) (T := TX0) (N := 6) (ci := 0) (fs := [.ref (Y.2.2.2 (b + 1)), .int ((M.1 b) 1), .int ((M.1 b) 2), .int ((M.1 b) 3), .int ((M.1 b) 4), .int ((M.1 b) 5)]) (by have := isB_lt hB; omega) (cG_B hB) rfl inX0 5 (by decide) hlink rfl rfl ix hd kk
theorem p_0_5 (hX : vOK Y X ins nL own rm ret) {index : Nat} {x : Int32} (ix : Nat) {b : Nat} (hB : isB b) (hlink : Cond.fieldLink own index "PointAnswers$Bundle" "allowedPages" "I" ∈ wT) (hd : gi ins ix = some (pc, .putfield index, 3)) (kk : V Y X (mset M b 5 x) (pc + 3) L st) : V Y X M pc L (.int x :: .ref (Y.2.2.2 b) :: st) :=
  v_put hX (C := RX0) (T := TX0) (N := 6) (ci := 0) (fs := [.ref (Y.2.2.2 (b + 1)), .int ((M.1 b) 1), .int ((M.1 b) 2), .int ((M.1 b) 3), .int ((M.1 b) 4), .int ((M.1 b) 5)]) (by have := isB_lt hB; omega) (cG_B hB) rfl inX0 tyX0 tyX0_ok nmX0 5 (by decide) hlink rfl rfl rfl rfl (Nat.le_of_ble_eq_true rfl) (by rw [cG_B hB]; rfl) ix hd kk
theorem gN_0_5 (hX : vOK Y X ins nL own rm ret) {index : Nat} {host : String} (ix : Nat) {b : Nat} (hB : isB b) (hlink : (own, index, "PointAnswers$Bundle", "allowedPages", "I", host) ∈ nF) (hd : gi ins ix = some (pc, .getfield index, 3)) (kk : V Y X M (pc + 3) L (.int (M.1 b 5) :: st)) : V Y X M pc L (.ref (Y.2.2.2 b) :: st) :=
  v_getN hX (C := RX0) (T := TX0) (N := 6) (ci := 0) (fs := [.ref (Y.2.2.2 (b + 1)), .int ((M.1 b) 1), .int ((M.1 b) 2), .int ((M.1 b) 3), .int ((M.1 b) 4), .int ((M.1 b) 5)]) (by have := isB_lt hB; omega) (cG_B hB) rfl inX0 5 (by decide) hlink rfl rfl ix hd kk
theorem pN_0_5 (hX : vOK Y X ins nL own rm ret) {index : Nat} {x : Int32} {host : String} (ix : Nat) {b : Nat} (hB : isB b) (hlink : (own, index, "PointAnswers$Bundle", "allowedPages", "I", host) ∈ nF) (hd : gi ins ix = some (pc, .putfield index, 3)) (kk : V Y X (mset M b 5 x) (pc + 3) L st) : V Y X M pc L (.int x :: .ref (Y.2.2.2 b) :: st) :=
  v_putN hX (C := RX0) (T := TX0) (N := 6) (ci := 0) (fs := [.ref (Y.2.2.2 (b + 1)), .int ((M.1 b) 1), .int ((M.1 b) 2), .int ((M.1 b) 3), .int ((M.1 b) 4), .int ((M.1 b) 5)]) (by have := isB_lt hB; omega) (cG_B hB) rfl inX0 tyX0 tyX0_ok nmX0 5 (by decide) hlink rfl rfl rfl rfl (Nat.le_of_ble_eq_true rfl) (by rw [cG_B hB]; rfl) ix hd kk
theorem g_1_0 (hX : vOK Y X ins nL own rm ret) {index : Nat} (ix : Nat) (hlink : Cond.fieldLink own index "PointAnswers$Costs" "fall" "[I" ∈ wT) (hd : gi ins ix = some (pc, .getfield index, 3)) (kk : V Y X M (pc + 3) L (.ref (Y.2.2.2 28) :: st)) : V Y X M pc L (.ref (Y.2.2.2 27) :: st) :=
  v_get hX (C := RX1) (T := TX1) (N := 2) (ci := 1) (fs := [.ref (Y.2.2.2 28), .ref (Y.2.2.2 29)]) (by decide) rfl rfl inX1 0 (by decide) hlink rfl rfl ix hd kk
theorem gN_1_0 (hX : vOK Y X ins nL own rm ret) {index : Nat} {host : String} (ix : Nat) (hlink : (own, index, "PointAnswers$Costs", "fall", "[I", host) ∈ nF) (hd : gi ins ix = some (pc, .getfield index, 3)) (kk : V Y X M (pc + 3) L (.ref (Y.2.2.2 28) :: st)) : V Y X M pc L (.ref (Y.2.2.2 27) :: st) :=
  v_getN hX (C := RX1) (T := TX1) (N := 2) (ci := 1) (fs := [.ref (Y.2.2.2 28), .ref (Y.2.2.2 29)]) (by decide) rfl rfl inX1 0 (by decide) hlink rfl rfl ix hd kk
theorem g_1_1 (hX : vOK Y X ins nL own rm ret) {index : Nat} (ix : Nat) (hlink : Cond.fieldLink own index "PointAnswers$Costs" "stand" "[I" ∈ wT) (hd : gi ins ix = some (pc, .getfield index, 3)) (kk : V Y X M (pc + 3) L (.ref (Y.2.2.2 29) :: st)) : V Y X M pc L (.ref (Y.2.2.2 27) :: st) :=
  v_get hX (C := RX1) (T := TX1) (N := 2) (ci := 1) (fs := [.ref (Y.2.2.2 28), .ref (Y.2.2.2 29)]) (by decide) rfl rfl inX1 1 (by decide) hlink rfl rfl ix hd kk
theorem gN_1_1 (hX : vOK Y X ins nL own rm ret) {index : Nat} {host : String} (ix : Nat) (hlink : (own, index, "PointAnswers$Costs", "stand", "[I", host) ∈ nF) (hd : gi ins ix = some (pc, .getfield index, 3)) (kk : V Y X M (pc + 3) L (.ref (Y.2.2.2 29) :: st)) : V Y X M pc L (.ref (Y.2.2.2 27) :: st) :=
  v_getN hX (C := RX1) (T := TX1) (N := 2) (ci := 1) (fs := [.ref (Y.2.2.2 28), .ref (Y.2.2.2 29)]) (by decide) rfl rfl inX1 1 (by decide) hlink rfl rfl ix hd kk
theorem g_2_0 (hX : vOK Y X ins nL own rm ret) {index : Nat} (ix : Nat) (hlink : Cond.fieldLink own index "PointAnswers$History" "rows" "[LPointAnswers$Bundle;" ∈ wT) (hd : gi ins ix = some (pc, .getfield index, 3)) (kk : V Y X M (pc + 3) L (.ref (Y.2.2.2 34) :: st)) : V Y X M pc L (.ref (Y.2.2.2 33) :: st) :=
  v_get hX (C := RX2) (T := TX2) (N := 2) (ci := 2) (fs := [.ref (Y.2.2.2 34), .int ((M.1 33) 1)]) (by decide) rfl rfl inX2 0 (by decide) hlink rfl rfl ix hd kk
theorem gN_2_0 (hX : vOK Y X ins nL own rm ret) {index : Nat} {host : String} (ix : Nat) (hlink : (own, index, "PointAnswers$History", "rows", "[LPointAnswers$Bundle;", host) ∈ nF) (hd : gi ins ix = some (pc, .getfield index, 3)) (kk : V Y X M (pc + 3) L (.ref (Y.2.2.2 34) :: st)) : V Y X M pc L (.ref (Y.2.2.2 33) :: st) :=
  v_getN hX (C := RX2) (T := TX2) (N := 2) (ci := 2) (fs := [.ref (Y.2.2.2 34), .int ((M.1 33) 1)]) (by decide) rfl rfl inX2 0 (by decide) hlink rfl rfl ix hd kk
theorem g_2_1 (hX : vOK Y X ins nL own rm ret) {index : Nat} (ix : Nat) (hlink : Cond.fieldLink own index "PointAnswers$History" "kept" "I" ∈ wT) (hd : gi ins ix = some (pc, .getfield index, 3)) (kk : V Y X M (pc + 3) L (.int (M.1 33 1) :: st)) : V Y X M pc L (.ref (Y.2.2.2 33) :: st) :=
  v_get hX (C := RX2) (T := TX2) (N := 2) (ci := 2) (fs := [.ref (Y.2.2.2 34), .int ((M.1 33) 1)]) (by decide) rfl rfl inX2 1 (by decide) hlink rfl rfl ix hd kk
theorem p_2_1 (hX : vOK Y X ins nL own rm ret) {index : Nat} {x : Int32} (ix : Nat) (hlink : Cond.fieldLink own index "PointAnswers$History" "kept" "I" ∈ wT) (hd : gi ins ix = some (pc, .putfield index, 3)) (kk : V Y X (mset M 33 1 x) (pc + 3) L st) : V Y X M pc L (.int x :: .ref (Y.2.2.2 33) :: st) :=
  v_put hX (C := RX2) (T := TX2) (N := 2) (ci := 2) (fs := [.ref (Y.2.2.2 34), .int ((M.1 33) 1)]) (by decide) rfl rfl inX2 tyX2 tyX2_ok nmX2 1 (by decide) hlink rfl rfl rfl rfl (Nat.le_of_ble_eq_true rfl) rfl ix hd kk
theorem gN_2_1 (hX : vOK Y X ins nL own rm ret) {index : Nat} {host : String} (ix : Nat) (hlink : (own, index, "PointAnswers$History", "kept", "I", host) ∈ nF) (hd : gi ins ix = some (pc, .getfield index, 3)) (kk : V Y X M (pc + 3) L (.int (M.1 33 1) :: st)) : V Y X M pc L (.ref (Y.2.2.2 33) :: st) :=
  v_getN hX (C := RX2) (T := TX2) (N := 2) (ci := 2) (fs := [.ref (Y.2.2.2 34), .int ((M.1 33) 1)]) (by decide) rfl rfl inX2 1 (by decide) hlink rfl rfl ix hd kk
theorem pN_2_1 (hX : vOK Y X ins nL own rm ret) {index : Nat} {x : Int32} {host : String} (ix : Nat) (hlink : (own, index, "PointAnswers$History", "kept", "I", host) ∈ nF) (hd : gi ins ix = some (pc, .putfield index, 3)) (kk : V Y X (mset M 33 1 x) (pc + 3) L st) : V Y X M pc L (.int x :: .ref (Y.2.2.2 33) :: st) :=
  v_putN hX (C := RX2) (T := TX2) (N := 2) (ci := 2) (fs := [.ref (Y.2.2.2 34), .int ((M.1 33) 1)]) (by decide) rfl rfl inX2 tyX2 tyX2_ok nmX2 1 (by decide) hlink rfl rfl rfl rfl (Nat.le_of_ble_eq_true rfl) rfl ix hd kk
theorem g_3_0 (hX : vOK Y X ins nL own rm ret) {index : Nat} (ix : Nat) (hlink : Cond.fieldLink own index "PointAnswers$Pad" "signs" "[C" ∈ wT) (hd : gi ins ix = some (pc, .getfield index, 3)) (kk : V Y X M (pc + 3) L (.ref (Y.2.2.2 31) :: st)) : V Y X M pc L (.ref (Y.2.2.2 30) :: st) :=
  v_get hX (C := RX3) (T := TX3) (N := 2) (ci := 3) (fs := [.ref (Y.2.2.2 31), .int ((M.1 30) 1)]) (by decide) rfl rfl inX3 0 (by decide) hlink rfl rfl ix hd kk
theorem gN_3_0 (hX : vOK Y X ins nL own rm ret) {index : Nat} {host : String} (ix : Nat) (hlink : (own, index, "PointAnswers$Pad", "signs", "[C", host) ∈ nF) (hd : gi ins ix = some (pc, .getfield index, 3)) (kk : V Y X M (pc + 3) L (.ref (Y.2.2.2 31) :: st)) : V Y X M pc L (.ref (Y.2.2.2 30) :: st) :=
  v_getN hX (C := RX3) (T := TX3) (N := 2) (ci := 3) (fs := [.ref (Y.2.2.2 31), .int ((M.1 30) 1)]) (by decide) rfl rfl inX3 0 (by decide) hlink rfl rfl ix hd kk
theorem g_3_1 (hX : vOK Y X ins nL own rm ret) {index : Nat} (ix : Nat) (hlink : Cond.fieldLink own index "PointAnswers$Pad" "length" "I" ∈ wT) (hd : gi ins ix = some (pc, .getfield index, 3)) (kk : V Y X M (pc + 3) L (.int (M.1 30 1) :: st)) : V Y X M pc L (.ref (Y.2.2.2 30) :: st) :=
  v_get hX (C := RX3) (T := TX3) (N := 2) (ci := 3) (fs := [.ref (Y.2.2.2 31), .int ((M.1 30) 1)]) (by decide) rfl rfl inX3 1 (by decide) hlink rfl rfl ix hd kk
theorem p_3_1 (hX : vOK Y X ins nL own rm ret) {index : Nat} {x : Int32} (ix : Nat) (hlink : Cond.fieldLink own index "PointAnswers$Pad" "length" "I" ∈ wT) (hd : gi ins ix = some (pc, .putfield index, 3)) (kk : V Y X (mset M 30 1 x) (pc + 3) L st) : V Y X M pc L (.int x :: .ref (Y.2.2.2 30) :: st) :=
  v_put hX (C := RX3) (T := TX3) (N := 2) (ci := 3) (fs := [.ref (Y.2.2.2 31), .int ((M.1 30) 1)]) (by decide) rfl rfl inX3 tyX3 tyX3_ok nmX3 1 (by decide) hlink rfl rfl rfl rfl (Nat.le_of_ble_eq_true rfl) rfl ix hd kk
theorem gN_3_1 (hX : vOK Y X ins nL own rm ret) {index : Nat} {host : String} (ix : Nat) (hlink : (own, index, "PointAnswers$Pad", "length", "I", host) ∈ nF) (hd : gi ins ix = some (pc, .getfield index, 3)) (kk : V Y X M (pc + 3) L (.int (M.1 30 1) :: st)) : V Y X M pc L (.ref (Y.2.2.2 30) :: st) :=
  v_getN hX (C := RX3) (T := TX3) (N := 2) (ci := 3) (fs := [.ref (Y.2.2.2 31), .int ((M.1 30) 1)]) (by decide) rfl rfl inX3 1 (by decide) hlink rfl rfl ix hd kk
theorem pN_3_1 (hX : vOK Y X ins nL own rm ret) {index : Nat} {x : Int32} {host : String} (ix : Nat) (hlink : (own, index, "PointAnswers$Pad", "length", "I", host) ∈ nF) (hd : gi ins ix = some (pc, .putfield index, 3)) (kk : V Y X (mset M 30 1 x) (pc + 3) L st) : V Y X M pc L (.int x :: .ref (Y.2.2.2 30) :: st) :=
  v_putN hX (C := RX3) (T := TX3) (N := 2) (ci := 3) (fs := [.ref (Y.2.2.2 31), .int ((M.1 30) 1)]) (by decide) rfl rfl inX3 tyX3 tyX3_ok nmX3 1 (by decide) hlink rfl rfl rfl rfl (Nat.le_of_ble_eq_true rfl) rfl ix hd kk
theorem g_4_0 (hX : vOK Y X ins nL own rm ret) {index : Nat} (ix : Nat) {b i : Nat} (hB : isB b) (hi : i < 24) (hlink : Cond.fieldLink own index "PointAnswers$Point" "side" "I" ∈ wT) (hd : gi ins ix = some (pc, .getfield index, 3)) (kk : V Y X M (pc + 3) L (.int (M.1 (b + 2 + i) 0) :: st)) : V Y X M pc L (.ref (Y.2.2.2 (b + 2 + i)) :: st) :=
  v_get hX (C := RX4) (T := TX4) (N := 7) (ci := 4) (fs := [.int ((M.1 (b + 2 + i)) 0), .int ((M.1 (b + 2 + i)) 1), .int ((M.1 (b + 2 + i)) 2), .int ((M.1 (b + 2 + i)) 3), .int ((M.1 (b + 2 + i)) 4), .int ((M.1 (b + 2 + i)) 5), .int ((M.1 (b + 2 + i)) 6)]) (by have := isB_lt hB; omega) (cG_P hB hi) rfl inX4 0 (by decide) hlink rfl rfl ix hd kk
theorem p_4_0 (hX : vOK Y X ins nL own rm ret) {index : Nat} {x : Int32} (ix : Nat) {b i : Nat} (hB : isB b) (hi : i < 24) (hlink : Cond.fieldLink own index "PointAnswers$Point" "side" "I" ∈ wT) (hd : gi ins ix = some (pc, .putfield index, 3)) (kk : V Y X (mset M (b + 2 + i) 0 x) (pc + 3) L st) : V Y X M pc L (.int x :: .ref (Y.2.2.2 (b + 2 + i)) :: st) :=
  v_put hX (C := RX4) (T := TX4) (N := 7) (ci := 4) (fs := [.int ((M.1 (b + 2 + i)) 0), .int ((M.1 (b + 2 + i)) 1), .int ((M.1 (b + 2 + i)) 2), .int ((M.1 (b + 2 + i)) 3), .int ((M.1 (b + 2 + i)) 4), .int ((M.1 (b + 2 + i)) 5), .int ((M.1 (b + 2 + i)) 6)]) (by have := isB_lt hB; omega) (cG_P hB hi) rfl inX4 tyX4 tyX4_ok nmX4 0 (by decide) hlink rfl rfl rfl rfl (Nat.le_of_ble_eq_true rfl) (by rw [cG_P hB hi]; rfl) ix hd kk
theorem gN_4_0 (hX : vOK Y X ins nL own rm ret) {index : Nat} {host : String} (ix : Nat) {b i : Nat} (hB : isB b) (hi : i < 24) (hlink : (own, index, "PointAnswers$Point", "side", "I", host) ∈ nF) (hd : gi ins ix = some (pc, .getfield index, 3)) (kk : V Y X M (pc + 3) L (.int (M.1 (b + 2 + i) 0) :: st)) : V Y X M pc L (.ref (Y.2.2.2 (b + 2 + i)) :: st) :=
  v_getN hX (C := RX4) (T := TX4) (N := 7) (ci := 4) (fs := [.int ((M.1 (b + 2 + i)) 0), .int ((M.1 (b + 2 + i)) 1), .int ((M.1 (b + 2 + i)) 2), .int ((M.1 (b + 2 + i)) 3), .int ((M.1 (b + 2 + i)) 4), .int ((M.1 (b + 2 + i)) 5), .int ((M.1 (b + 2 + i)) 6)]) (by have := isB_lt hB; omega) (cG_P hB hi) rfl inX4 0 (by decide) hlink rfl rfl ix hd kk
theorem pN_4_0 (hX : vOK Y X ins nL own rm ret) {index : Nat} {x : Int32} {host : String} (ix : Nat) {b i : Nat} (hB : isB b) (hi : i < 24) (hlink : (own, index, "PointAnswers$Point", "side", "I", host) ∈ nF) (hd : gi ins ix = some (pc, .putfield index, 3)) (kk : V Y X (mset M (b + 2 + i) 0 x) (pc + 3) L st) : V Y X M pc L (.int x :: .ref (Y.2.2.2 (b + 2 + i)) :: st) :=
  v_putN hX (C := RX4) (T := TX4) (N := 7) (ci := 4) (fs := [.int ((M.1 (b + 2 + i)) 0), .int ((M.1 (b + 2 + i)) 1), .int ((M.1 (b + 2 + i)) 2), .int ((M.1 (b + 2 + i)) 3), .int ((M.1 (b + 2 + i)) 4), .int ((M.1 (b + 2 + i)) 5), .int ((M.1 (b + 2 + i)) 6)]) (by have := isB_lt hB; omega) (cG_P hB hi) rfl inX4 tyX4 tyX4_ok nmX4 0 (by decide) hlink rfl rfl rfl rfl (Nat.le_of_ble_eq_true rfl) (by rw [cG_P hB hi]; rfl) ix hd kk
theorem g_4_1 (hX : vOK Y X ins nL own rm ret) {index : Nat} (ix : Nat) {b i : Nat} (hB : isB b) (hi : i < 24) (hlink : Cond.fieldLink own index "PointAnswers$Point" "pages" "I" ∈ wT) (hd : gi ins ix = some (pc, .getfield index, 3)) (kk : V Y X M (pc + 3) L (.int (M.1 (b + 2 + i) 1) :: st)) : V Y X M pc L (.ref (Y.2.2.2 (b + 2 + i)) :: st) :=
  v_get hX (C := RX4) (T := TX4) (N := 7) (ci := 4) (fs := [.int ((M.1 (b + 2 + i)) 0), .int ((M.1 (b + 2 + i)) 1), .int ((M.1 (b + 2 + i)) 2), .int ((M.1 (b + 2 + i)) 3), .int ((M.1 (b + 2 + i)) 4), .int ((M.1 (b + 2 + i)) 5), .int ((M.1 (b + 2 + i)) 6)]) (by have := isB_lt hB; omega) (cG_P hB hi) rfl inX4 1 (by decide) hlink rfl rfl ix hd kk
theorem p_4_1 (hX : vOK Y X ins nL own rm ret) {index : Nat} {x : Int32} (ix : Nat) {b i : Nat} (hB : isB b) (hi : i < 24) (hlink : Cond.fieldLink own index "PointAnswers$Point" "pages" "I" ∈ wT) (hd : gi ins ix = some (pc, .putfield index, 3)) (kk : V Y X (mset M (b + 2 + i) 1 x) (pc + 3) L st) : V Y X M pc L (.int x :: .ref (Y.2.2.2 (b + 2 + i)) :: st) :=
  v_put hX (C := RX4) (T := TX4) (N := 7) (ci := 4) (fs := [.int ((M.1 (b + 2 + i)) 0), .int ((M.1 (b + 2 + i)) 1), .int ((M.1 (b + 2 + i)) 2), .int ((M.1 (b + 2 + i)) 3), .int ((M.1 (b + 2 + i)) 4), .int ((M.1 (b + 2 + i)) 5), .int ((M.1 (b + 2 + i)) 6)]) (by have := isB_lt hB; omega) (cG_P hB hi) rfl inX4 tyX4 tyX4_ok nmX4 1 (by decide) hlink rfl rfl rfl rfl (Nat.le_of_ble_eq_true rfl) (by rw [cG_P hB hi]; rfl) ix hd kk
theorem gN_4_1 (hX : vOK Y X ins nL own rm ret) {index : Nat} {host : String} (ix : Nat) {b i : Nat} (hB : isB b) (hi : i < 24) (hlink : (own, index, "PointAnswers$Point", "pages", "I", host) ∈ nF) (hd : gi ins ix = some (pc, .getfield index, 3)) (kk : V Y X M (pc + 3) L (.int (M.1 (b + 2 + i) 1) :: st)) : V Y X M pc L (.ref (Y.2.2.2 (b + 2 + i)) :: st) :=
  v_getN hX (C := RX4) (T := TX4) (N := 7) (ci := 4) (fs := [.int ((M.1 (b + 2 + i)) 0), .int ((M.1 (b + 2 + i)) 1), .int ((M.1 (b + 2 + i)) 2), .int ((M.1 (b + 2 + i)) 3), .int ((M.1 (b + 2 + i)) 4), .int ((M.1 (b + 2 + i)) 5), .int ((M.1 (b + 2 + i)) 6)]) (by have := isB_lt hB; omega) (cG_P hB hi) rfl inX4 1 (by decide) hlink rfl rfl ix hd kk
theorem pN_4_1 (hX : vOK Y X ins nL own rm ret) {index : Nat} {x : Int32} {host : String} (ix : Nat) {b i : Nat} (hB : isB b) (hi : i < 24) (hlink : (own, index, "PointAnswers$Point", "pages", "I", host) ∈ nF) (hd : gi ins ix = some (pc, .putfield index, 3)) (kk : V Y X (mset M (b + 2 + i) 1 x) (pc + 3) L st) : V Y X M pc L (.int x :: .ref (Y.2.2.2 (b + 2 + i)) :: st) :=
  v_putN hX (C := RX4) (T := TX4) (N := 7) (ci := 4) (fs := [.int ((M.1 (b + 2 + i)) 0), .int ((M.1 (b + 2 + i)) 1), .int ((M.1 (b + 2 + i)) 2), .int ((M.1 (b + 2 + i)) 3), .int ((M.1 (b + 2 + i)) 4), .int ((M.1 (b + 2 + i)) 5), .int ((M.1 (b + 2 + i)) 6)]) (by have := isB_lt hB; omega) (cG_P hB hi) rfl inX4 tyX4 tyX4_ok nmX4 1 (by decide) hlink rfl rfl rfl rfl (Nat.le_of_ble_eq_true rfl) (by rw [cG_P hB hi]; rfl) ix hd kk
theorem g_4_2 (hX : vOK Y X ins nL own rm ret) {index : Nat} (ix : Nat) {b i : Nat} (hB : isB b) (hi : i < 24) (hlink : Cond.fieldLink own index "PointAnswers$Point" "cases" "I" ∈ wT) (hd : gi ins ix = some (pc, .getfield index, 3)) (kk : V Y X M (pc + 3) L (.int (M.1 (b + 2 + i) 2) :: st)) : V Y X M pc L (.ref (Y.2.2.2 (b + 2 + i)) :: st) :=
  v_get hX (C := RX4) (T := TX4) (N := 7) (ci := 4) (fs := [.int ((M.1 (b + 2 + i)) 0), .int ((M.1 (b + 2 + i)) 1), .int ((M.1 (b + 2 + i)) 2), .int ((M.1 (b + 2 + i)) 3), .int ((M.1 (b + 2 + i)) 4), .int ((M.1 (b + 2 + i)) 5), .int ((M.1 (b + 2 + i)) 6)]) (by have := isB_lt hB; omega) (cG_P hB hi) rfl inX4 2 (by decide) hlink rfl rfl ix hd kk
theorem p_4_2 (hX : vOK Y X ins nL own rm ret) {index : Nat} {x : Int32} (ix : Nat) {b i : Nat} (hB : isB b) (hi : i < 24) (hlink : Cond.fieldLink own index "PointAnswers$Point" "cases" "I" ∈ wT) (hd : gi ins ix = some (pc, .putfield index, 3)) (kk : V Y X (mset M (b + 2 + i) 2 x) (pc + 3) L st) : V Y X M pc L (.int x :: .ref (Y.2.2.2 (b + 2 + i)) :: st) :=
  v_put hX (C := RX4) (T := TX4) (N := 7) (ci := 4) (fs := [.int ((M.1 (b + 2 + i)) 0), .int ((M.1 (b + 2 + i)) 1), .int ((M.1 (b + 2 + i)) 2), .int ((M.1 (b + 2 + i)) 3), .int ((M.1 (b + 2 + i)) 4), .int ((M.1 (b + 2 + i)) 5), .int ((M.1 (b + 2 + i)) 6)]) (by have := isB_lt hB; omega) (cG_P hB hi) rfl inX4 tyX4 tyX4_ok nmX4 2 (by decide) hlink rfl rfl rfl rfl (Nat.le_of_ble_eq_true rfl) (by rw [cG_P hB hi]; rfl) ix hd kk
theorem gN_4_2 (hX : vOK Y X ins nL own rm ret) {index : Nat} {host : String} (ix : Nat) {b i : Nat} (hB : isB b) (hi : i < 24) (hlink : (own, index, "PointAnswers$Point", "cases", "I", host) ∈ nF) (hd : gi ins ix = some (pc, .getfield index, 3)) (kk : V Y X M (pc + 3) L (.int (M.1 (b + 2 + i) 2) :: st)) : V Y X M pc L (.ref (Y.2.2.2 (b + 2 + i)) :: st) :=
  v_getN hX (C := RX4) (T := TX4) (N := 7) (ci := 4) (fs := [.int ((M.1 (b + 2 + i)) 0), .int ((M.1 (b + 2 + i)) 1), .int ((M.1 (b + 2 + i)) 2), .int ((M.1 (b + 2 + i)) 3), .int ((M.1 (b + 2 + i)) 4), .int ((M.1 (b + 2 + i)) 5), .int ((M.1 (b + 2 + i)) 6)]) (by have := isB_lt hB; omega) (cG_P hB hi) rfl inX4 2 (by decide) hlink rfl rfl ix hd kk
theorem pN_4_2 (hX : vOK Y X ins nL own rm ret) {index : Nat} {x : Int32} {host : String} (ix : Nat) {b i : Nat} (hB : isB b) (hi : i < 24) (hlink : (own, index, "PointAnswers$Point", "cases", "I", host) ∈ nF) (hd : gi ins ix = some (pc, .putfield index, 3)) (kk : V Y X (mset M (b + 2 + i) 2 x) (pc + 3) L st) : V Y X M pc L (.int x :: .ref (Y.2.2.2 (b + 2 + i)) :: st) :=
  v_putN hX (C := RX4) (T := TX4) (N := 7) (ci := 4) (fs := [.int ((M.1 (b + 2 + i)) 0), .int ((M.1 (b + 2 + i)) 1), .int ((M.1 (b + 2 + i)) 2), .int ((M.1 (b + 2 + i)) 3), .int ((M.1 (b + 2 + i)) 4), .int ((M.1 (b + 2 + i)) 5), .int ((M.1 (b + 2 + i)) 6)]) (by have := isB_lt hB; omega) (cG_P hB hi) rfl inX4 tyX4 tyX4_ok nmX4 2 (by decide) hlink rfl rfl rfl rfl (Nat.le_of_ble_eq_true rfl) (by rw [cG_P hB hi]; rfl) ix hd kk
theorem g_4_3 (hX : vOK Y X ins nL own rm ret) {index : Nat} (ix : Nat) {b i : Nat} (hB : isB b) (hi : i < 24) (hlink : Cond.fieldLink own index "PointAnswers$Point" "target" "I" ∈ wT) (hd : gi ins ix = some (pc, .getfield index, 3)) (kk : V Y X M (pc + 3) L (.int (M.1 (b + 2 + i) 3) :: st)) : V Y X M pc L (.ref (Y.2.2.2 (b + 2 + i)) :: st) :=
  v_get hX (C := RX4) (T := TX4) (N := 7) (ci := 4) (fs := [.int ((M.1 (b + 2 + i)) 0), .int ((M.1 (b + 2 + i)) 1), .int ((M.1 (b + 2 + i)) 2), .int ((M.1 (b + 2 + i)) 3), .int ((M.1 (b + 2 + i)) 4), .int ((M.1 (b + 2 + i)) 5), .int ((M.1 (b + 2 + i)) 6)]) (by have := isB_lt hB; omega) (cG_P hB hi) rfl inX4 3 (by decide) hlink rfl rfl ix hd kk
theorem p_4_3 (hX : vOK Y X ins nL own rm ret) {index : Nat} {x : Int32} (ix : Nat) {b i : Nat} (hB : isB b) (hi : i < 24) (hlink : Cond.fieldLink own index "PointAnswers$Point" "target" "I" ∈ wT) (hd : gi ins ix = some (pc, .putfield index, 3)) (kk : V Y X (mset M (b + 2 + i) 3 x) (pc + 3) L st) : V Y X M pc L (.int x :: .ref (Y.2.2.2 (b + 2 + i)) :: st) :=
  v_put hX (C := RX4) (T := TX4) (N := 7) (ci := 4) (fs := [.int ((M.1 (b + 2 + i)) 0), .int ((M.1 (b + 2 + i)) 1), .int ((M.1 (b + 2 + i)) 2), .int ((M.1 (b + 2 + i)) 3), .int ((M.1 (b + 2 + i)) 4), .int ((M.1 (b + 2 + i)) 5), .int ((M.1 (b + 2 + i)) 6)]) (by have := isB_lt hB; omega) (cG_P hB hi) rfl inX4 tyX4 tyX4_ok nmX4 3 (by decide) hlink rfl rfl rfl rfl (Nat.le_of_ble_eq_true rfl) (by rw [cG_P hB hi]; rfl) ix hd kk
theorem gN_4_3 (hX : vOK Y X ins nL own rm ret) {index : Nat} {host : String} (ix : Nat) {b i : Nat} (hB : isB b) (hi : i < 24) (hlink : (own, index, "PointAnswers$Point", "target", "I", host) ∈ nF) (hd : gi ins ix = some (pc, .getfield index, 3)) (kk : V Y X M (pc + 3) L (.int (M.1 (b + 2 + i) 3) :: st)) : V Y X M pc L (.ref (Y.2.2.2 (b + 2 + i)) :: st) :=
  v_getN hX (C := RX4) (T := TX4) (N := 7) (ci := 4) (fs := [.int ((M.1 (b + 2 + i)) 0), .int ((M.1 (b + 2 + i)) 1), .int ((M.1 (b + 2 + i)) 2), .int ((M.1 (b + 2 + i)) 3), .int ((M.1 (b + 2 + i)) 4), .int ((M.1 (b + 2 + i)) 5), .int ((M.1 (b + 2 + i)) 6)]) (by have := isB_lt hB; omega) (cG_P hB hi) rfl inX4 3 (by decide) hlink rfl rfl ix hd kk
theorem pN_4_3 (hX : vOK Y X ins nL own rm ret) {index : Nat} {x : Int32} {host : String} (ix : Nat) {b i : Nat} (hB : isB b) (hi : i < 24) (hlink : (own, index, "PointAnswers$Point", "target", "I", host) ∈ nF) (hd : gi ins ix = some (pc, .putfield index, 3)) (kk : V Y X (mset M (b + 2 + i) 3 x) (pc + 3) L st) : V Y X M pc L (.int x :: .ref (Y.2.2.2 (b + 2 + i)) :: st) :=
  v_putN hX (C := RX4) (T := TX4) (N := 7) (ci := 4) (fs := [.int ((M.1 (b + 2 + i)) 0), .int ((M.1 (b + 2 + i)) 1), .int ((M.1 (b + 2 + i)) 2), .int ((M.1 (b + 2 + i)) 3), .int ((M.1 (b + 2 + i)) 4), .int ((M.1 (b + 2 + i)) 5), .int ((M.1 (b + 2 + i)) 6)]) (by have := isB_lt hB; omega) (cG_P hB hi) rfl inX4 tyX4 tyX4_ok nmX4 3 (by decide) hlink rfl rfl rfl rfl (Nat.le_of_ble_eq_true rfl) (by rw [cG_P hB hi]; rfl) ix hd kk
theorem g_4_4 (hX : vOK Y X ins nL own rm ret) {index : Nat} (ix : Nat) {b i : Nat} (hB : isB b) (hi : i < 24) (hlink : Cond.fieldLink own index "PointAnswers$Point" "filed" "I" ∈ wT) (hd : gi ins ix = some (pc, .getfield index, 3)) (kk : V Y X M (pc + 3) L (.int (M.1 (b + 2 + i) 4) :: st)) : V Y X M pc L (.ref (Y.2.2.2 (b + 2 + i)) :: st) :=
  v_get hX (C := RX4) (T := TX4) (N := 7) (ci := 4) (fs := [.int ((M.1 (b + 2 + i)) 0), .int ((M.1 (b + 2 + i)) 1), .int ((M.1 (b + 2 + i)) 2), .int ((M.1 (b + 2 + i)) 3), .int ((M.1 (b + 2 + i)) 4), .int ((M.1 (b + 2 + i)) 5), .int ((M.1 (b + 2 + i)) 6)]) (by have := isB_lt hB; omega) (cG_P hB hi) rfl inX4 4 (by decide) hlink rfl rfl ix hd kk
theorem p_4_4 (hX : vOK Y X ins nL own rm ret) {index : Nat} {x : Int32} (ix : Nat) {b i : Nat} (hB : isB b) (hi : i < 24) (hlink : Cond.fieldLink own index "PointAnswers$Point" "filed" "I" ∈ wT) (hd : gi ins ix = some (pc, .putfield index, 3)) (kk : V Y X (mset M (b + 2 + i) 4 x) (pc + 3) L st) : V Y X M pc L (.int x :: .ref (Y.2.2.2 (b + 2 + i)) :: st) :=
  v_put hX (C := RX4) (T := TX4) (N := 7) (ci := 4) (fs := [.int ((M.1 (b + 2 + i)) 0), .int ((M.1 (b + 2 + i)) 1), .int ((M.1 (b + 2 + i)) 2), .int ((M.1 (b + 2 + i)) 3), .int ((M.1 (b + 2 + i)) 4), .int ((M.1 (b + 2 + i)) 5), .int ((M.1 (b + 2 + i)) 6)]) (by have := isB_lt hB; omega) (cG_P hB hi) rfl inX4 tyX4 tyX4_ok nmX4 4 (by decide) hlink rfl rfl rfl rfl (Nat.le_of_ble_eq_true rfl) (by rw [cG_P hB hi]; rfl) ix hd kk
theorem gN_4_4 (hX : vOK Y X ins nL own rm ret) {index : Nat} {host : String} (ix : Nat) {b i : Nat} (hB : isB b) (hi : i < 24) (hlink : (own, index, "PointAnswers$Point", "filed", "I", host) ∈ nF) (hd : gi ins ix = some (pc, .getfield index, 3)) (kk : V Y X M (pc + 3) L (.int (M.1 (b + 2 + i) 4) :: st)) : V Y X M pc L (.ref (Y.2.2.2 (b + 2 + i)) :: st) :=
  v_getN hX (C := RX4) (T := TX4) (N := 7) (ci := 4) (fs := [.int ((M.1 (b + 2 + i)) 0), .int ((M.1 (b + 2 + i)) 1), .int ((M.1 (b + 2 + i)) 2), .int ((M.1 (b + 2 + i)) 3), .int ((M.1 (b + 2 + i)) 4), .int ((M.1 (b + 2 + i)) 5), .int ((M.1 (b + 2 + i)) 6)]) (by have := isB_lt hB; omega) (cG_P hB hi) rfl inX4 4 (by decide) hlink rfl rfl ix hd kk
theorem pN_4_4 (hX : vOK Y X ins nL own rm ret) {index : Nat} {x : Int32} {host : String} (ix : Nat) {b i : Nat} (hB : isB b) (hi : i < 24) (hlink : (own, index, "PointAnswers$Point", "filed", "I", host) ∈ nF) (hd : gi ins ix = some (pc, .putfield index, 3)) (kk : V Y X (mset M (b + 2 + i) 4 x) (pc + 3) L st) : V Y X M pc L (.int x :: .ref (Y.2.2.2 (b + 2 + i)) :: st) :=
  v_putN hX (C := RX4) (T := TX4) (N := 7) (ci := 4) (fs := [.int ((M.1 (b + 2 + i)) 0), .int ((M.1 (b + 2 + i)) 1), .int ((M.1 (b + 2 + i)) 2), .int ((M.1 (b + 2 + i)) 3), .int ((M.1 (b + 2 + i)) 4), .int ((M.1 (b + 2 + i)) 5), .int ((M.1 (b + 2 + i)) 6)]) (by have := isB_lt hB; omega) (cG_P hB hi) rfl inX4 tyX4 tyX4_ok nmX4 4 (by decide) hlink rfl rfl rfl rfl (Nat.le_of_ble_eq_true rfl) (by rw [cG_P hB hi]; rfl) ix hd kk
theorem g_4_5 (hX : vOK Y X ins nL own rm ret) {index : Nat} (ix : Nat) {b i : Nat} (hB : isB b) (hi : i < 24) (hlink : Cond.fieldLink own index "PointAnswers$Point" "lastsFrom" "I" ∈ wT) (hd : gi ins ix = some (pc, .getfield index, 3)) (kk : V Y X M (pc + 3) L (.int (M.1 (b + 2 + i) 5) :: st)) : V Y X M pc L (.ref (Y.2.2.2 (b + 2 + i)) :: st) :=
  v_get hX (C := RX4) (T := TX4) (N := 7) (ci := 4) (fs := [.int ((M.1 (b + 2 + i)) 0), .int ((M.1 (b + 2 + i)) 1), .int ((M.1 (b + 2 + i)) 2), .int ((M.1 (b + 2 + i)) 3), .int ((M.1 (b + 2 + i)) 4), .int ((M.1 (b + 2 + i)) 5), .int ((M.1 (b + 2 + i)) 6)]) (by have := isB_lt hB; omega) (cG_P hB hi) rfl inX4 5 (by decide) hlink rfl rfl ix hd kk
theorem p_4_5 (hX : vOK Y X ins nL own rm ret) {index : Nat} {x : Int32} (ix : Nat) {b i : Nat} (hB : isB b) (hi : i < 24) (hlink : Cond.fieldLink own index "PointAnswers$Point" "lastsFrom" "I" ∈ wT) (hd : gi ins ix = some (pc, .putfield index, 3)) (kk : V Y X (mset M (b + 2 + i) 5 x) (pc + 3) L st) : V Y X M pc L (.int x :: .ref (Y.2.2.2 (b + 2 + i)) :: st) :=
  v_put hX (C := RX4) (T := TX4) (N := 7) (ci := 4) (fs := [.int ((M.1 (b + 2 + i)) 0), .int ((M.1 (b + 2 + i)) 1), .int ((M.1 (b + 2 + i)) 2), .int ((M.1 (b + 2 + i)) 3), .int ((M.1 (b + 2 + i)) 4), .int ((M.1 (b + 2 + i)) 5), .int ((M.1 (b + 2 + i)) 6)]) (by have := isB_lt hB; omega) (cG_P hB hi) rfl inX4 tyX4 tyX4_ok nmX4 5 (by decide) hlink rfl rfl rfl rfl (Nat.le_of_ble_eq_true rfl) (by rw [cG_P hB hi]; rfl) ix hd kk
theorem gN_4_5 (hX : vOK Y X ins nL own rm ret) {index : Nat} {host : String} (ix : Nat) {b i : Nat} (hB : isB b) (hi : i < 24) (hlink : (own, index, "PointAnswers$Point", "lastsFrom", "I", host) ∈ nF) (hd : gi ins ix = some (pc, .getfield index, 3)) (kk : V Y X M (pc + 3) L (.int (M.1 (b + 2 + i) 5) :: st)) : V Y X M pc L (.ref (Y.2.2.2 (b + 2 + i)) :: st) :=
  v_getN hX (C := RX4) (T := TX4) (N := 7) (ci := 4) (fs := [.int ((M.1 (b + 2 + i)) 0), .int ((M.1 (b + 2 + i)) 1), .int ((M.1 (b + 2 + i)) 2), .int ((M.1 (b + 2 + i)) 3), .int ((M.1 (b + 2 + i)) 4), .int ((M.1 (b + 2 + i)) 5), .int ((M.1 (b + 2 + i)) 6)]) (by have := isB_lt hB; omega) (cG_P hB hi) rfl inX4 5 (by decide) hlink rfl rfl ix hd kk
theorem pN_4_5 (hX : vOK Y X ins nL own rm ret) {index : Nat} {x : Int32} {host : String} (ix : Nat) {b i : Nat} (hB : isB b) (hi : i < 24) (hlink : (own, index, "PointAnswers$Point", "lastsFrom", "I", host) ∈ nF) (hd : gi ins ix = some (pc, .putfield index, 3)) (kk : V Y X (mset M (b + 2 + i) 5 x) (pc + 3) L st) : V Y X M pc L (.int x :: .ref (Y.2.2.2 (b + 2 + i)) :: st) :=
  v_putN hX (C := RX4) (T := TX4) (N := 7) (ci := 4) (fs := [.int ((M.1 (b + 2 + i)) 0), .int ((M.1 (b + 2 + i)) 1), .int ((M.1 (b + 2 + i)) 2), .int ((M.1 (b + 2 + i)) 3), .int ((M.1 (b + 2 + i)) 4), .int ((M.1 (b + 2 + i)) 5), .int ((M.1 (b + 2 + i)) 6)]) (by have := isB_lt hB; omega) (cG_P hB hi) rfl inX4 tyX4 tyX4_ok nmX4 5 (by decide) hlink rfl rfl rfl rfl (Nat.le_of_ble_eq_true rfl) (by rw [cG_P hB hi]; rfl) ix hd kk
theorem g_4_6 (hX : vOK Y X ins nL own rm ret) {index : Nat} (ix : Nat) {b i : Nat} (hB : isB b) (hi : i < 24) (hlink : Cond.fieldLink own index "PointAnswers$Point" "withdrawn" "Z" ∈ wT) (hd : gi ins ix = some (pc, .getfield index, 3)) (kk : V Y X M (pc + 3) L (.int (M.1 (b + 2 + i) 6) :: st)) : V Y X M pc L (.ref (Y.2.2.2 (b + 2 + i)) :: st) :=
  v_get hX (C := RX4) (T := TX4) (N := 7) (ci := 4) (fs := [.int ((M.1 (b + 2 + i)) 0), .int ((M.1 (b + 2 + i)) 1), .int ((M.1 (b + 2 + i)) 2), .int ((M.1 (b + 2 + i)) 3), .int ((M.1 (b + 2 + i)) 4), .int ((M.1 (b + 2 + i)) 5), .int ((M.1 (b + 2 + i)) 6)]) (by have := isB_lt hB; omega) (cG_P hB hi) rfl inX4 6 (by decide) hlink rfl rfl ix hd kk
theorem p_4_6 (hX : vOK Y X ins nL own rm ret) {index : Nat} {x : Int32} (ix : Nat) {b i : Nat} (hB : isB b) (hi : i < 24) (hn : narrow .boolean (.int x) = .int x) (hf : fits .boolean (.int x) = true) (hlink : Cond.fieldLink own index "PointAnswers$Point" "withdrawn" "Z" ∈ wT) (hd : gi ins ix = some (pc, .putfield index, 3)) (kk : V Y X (mset M (b + 2 + i) 6 x) (pc + 3) L st) : V Y X M pc L (.int x :: .ref (Y.2.2.2 (b + 2 + i)) :: st) :=
  v_put hX (C := RX4) (T := TX4) (N := 7) (ci := 4) (fs := [.int ((M.1 (b + 2 + i)) 0), .int ((M.1 (b + 2 + i)) 1), .int ((M.1 (b + 2 + i)) 2), .int ((M.1 (b + 2 + i)) 3), .int ((M.1 (b + 2 + i)) 4), .int ((M.1 (b + 2 + i)) 5), .int ((M.1 (b + 2 + i)) 6)]) (by have := isB_lt hB; omega) (cG_P hB hi) rfl inX4 tyX4 tyX4_ok nmX4 6 (by decide) hlink rfl rfl hn hf (Nat.le_of_ble_eq_true rfl) (by rw [cG_P hB hi]; rfl) ix hd kk
theorem gN_4_6 (hX : vOK Y X ins nL own rm ret) {index : Nat} {host : String} (ix : Nat) {b i : Nat} (hB : isB b) (hi : i < 24) (hlink : (own, index, "PointAnswers$Point", "withdrawn", "Z", host) ∈ nF) (hd : gi ins ix = some (pc, .getfield index, 3)) (kk : V Y X M (pc + 3) L (.int (M.1 (b + 2 + i) 6) :: st)) : V Y X M pc L (.ref (Y.2.2.2 (b + 2 + i)) :: st) :=
  v_getN hX (C := RX4) (T := TX4) (N := 7) (ci := 4) (fs := [.int ((M.1 (b + 2 + i)) 0), .int ((M.1 (b + 2 + i)) 1), .int ((M.1 (b + 2 + i)) 2), .int ((M.1 (b + 2 + i)) 3), .int ((M.1 (b + 2 + i)) 4), .int ((M.1 (b + 2 + i)) 5), .int ((M.1 (b + 2 + i)) 6)]) (by have := isB_lt hB; omega) (cG_P hB hi) rfl inX4 6 (by decide) hlink rfl rfl ix hd kk
theorem pN_4_6 (hX : vOK Y X ins nL own rm ret) {index : Nat} {x : Int32} {host : String} (ix : Nat) {b i : Nat} (hB : isB b) (hi : i < 24) (hn : narrow .boolean (.int x) = .int x) (hf : fits .boolean (.int x) = true) (hlink : (own, index, "PointAnswers$Point", "withdrawn", "Z", host) ∈ nF) (hd : gi ins ix = some (pc, .putfield index, 3)) (kk : V Y X (mset M (b + 2 + i) 6 x) (pc + 3) L st) : V Y X M pc L (.int x :: .ref (Y.2.2.2 (b + 2 + i)) :: st) :=
  v_putN hX (C := RX4) (T := TX4) (N := 7) (ci := 4) (fs := [.int ((M.1 (b + 2 + i)) 0), .int ((M.1 (b + 2 + i)) 1), .int ((M.1 (b + 2 + i)) 2), .int ((M.1 (b + 2 + i)) 3), .int ((M.1 (b + 2 + i)) 4), .int ((M.1 (b + 2 + i)) 5), .int ((M.1 (b + 2 + i)) 6)]) (by have := isB_lt hB; omega) (cG_P hB hi) rfl inX4 tyX4 tyX4_ok nmX4 6 (by decide) hlink rfl rfl hn hf (Nat.le_of_ble_eq_true rfl) (by rw [cG_P hB hi]; rfl) ix hd kk
theorem g_5_0 (hX : vOK Y X ins nL own rm ret) {index : Nat} (ix : Nat) (hlink : Cond.fieldLink own index "PointAnswers$Reader" "at" "I" ∈ wT) (hd : gi ins ix = some (pc, .getfield index, 3)) (kk : V Y X M (pc + 3) L (.int (M.1 32 0) :: st)) : V Y X M pc L (.ref (Y.2.2.2 32) :: st) :=
  v_get hX (C := RX5) (T := TX5) (N := 6) (ci := 5) (fs := [.int ((M.1 32) 0), .int ((M.1 32) 1), .int ((M.1 32) 2), .int ((M.1 32) 3), .int ((M.1 32) 4), .int ((M.1 32) 5)]) (by decide) rfl rfl inX5 0 (by decide) hlink rfl rfl ix hd kk
theorem p_5_0 (hX : vOK Y X ins nL own rm ret) {index : Nat} {x : Int32} (ix : Nat) (hlink : Cond.fieldLink own index "PointAnswers$Reader" "at" "I" ∈ wT) (hd : gi ins ix = some (pc, .putfield index, 3)) (kk : V Y X (mset M 32 0 x) (pc + 3) L st) : V Y X M pc L (.int x :: .ref (Y.2.2.2 32) :: st) :=
  v_put hX (C := RX5) (T := TX5) (N := 6) (ci := 5) (fs := [.int ((M.1 32) 0), .int ((M.1 32) 1), .int ((M.1 32) 2), .int ((M.1 32) 3), .int ((M.1 32) 4), .int ((M.1 32) 5)]) (by decide) rfl rfl inX5 tyX5 tyX5_ok nmX5 0 (by decide) hlink rfl rfl rfl rfl (Nat.le_of_ble_eq_true rfl) rfl ix hd kk
theorem gN_5_0 (hX : vOK Y X ins nL own rm ret) {index : Nat} {host : String} (ix : Nat) (hlink : (own, index, "PointAnswers$Reader", "at", "I", host) ∈ nF) (hd : gi ins ix = some (pc, .getfield index, 3)) (kk : V Y X M (pc + 3) L (.int (M.1 32 0) :: st)) : V Y X M pc L (.ref (Y.2.2.2 32) :: st) :=
  v_getN hX (C := RX5) (T := TX5) (N := 6) (ci := 5) (fs := [.int ((M.1 32) 0), .int ((M.1 32) 1), .int ((M.1 32) 2), .int ((M.1 32) 3), .int ((M.1 32) 4), .int ((M.1 32) 5)]) (by decide) rfl rfl inX5 0 (by decide) hlink rfl rfl ix hd kk
theorem pN_5_0 (hX : vOK Y X ins nL own rm ret) {index : Nat} {x : Int32} {host : String} (ix : Nat) (hlink : (own, index, "PointAnswers$Reader", "at", "I", host) ∈ nF) (hd : gi ins ix = some (pc, .putfield index, 3)) (kk : V Y X (mset M 32 0 x) (pc + 3) L st) : V Y X M pc L (.int x :: .ref (Y.2.2.2 32) :: st) :=
  v_putN hX (C := RX5) (T := TX5) (N := 6) (ci := 5) (fs := [.int ((M.1 32) 0), .int ((M.1 32) 1), .int ((M.1 32) 2), .int ((M.1 32) 3), .int ((M.1 32) 4), .int ((M.1 32) 5)]) (by decide) rfl rfl inX5 tyX5 tyX5_ok nmX5 0 (by decide) hlink rfl rfl rfl rfl (Nat.le_of_ble_eq_true rfl) rfl ix hd kk
theorem g_5_1 (hX : vOK Y X ins nL own rm ret) {index : Nat} (ix : Nat) (hlink : Cond.fieldLink own index "PointAnswers$Reader" "digit" "I" ∈ wT) (hd : gi ins ix = some (pc, .getfield index, 3)) (kk : V Y X M (pc + 3) L (.int (M.1 32 1) :: st)) : V Y X M pc L (.ref (Y.2.2.2 32) :: st) :=
  v_get hX (C := RX5) (T := TX5) (N := 6) (ci := 5) (fs := [.int ((M.1 32) 0), .int ((M.1 32) 1), .int ((M.1 32) 2), .int ((M.1 32) 3), .int ((M.1 32) 4), .int ((M.1 32) 5)]) (by decide) rfl rfl inX5 1 (by decide) hlink rfl rfl ix hd kk
theorem p_5_1 (hX : vOK Y X ins nL own rm ret) {index : Nat} {x : Int32} (ix : Nat) (hlink : Cond.fieldLink own index "PointAnswers$Reader" "digit" "I" ∈ wT) (hd : gi ins ix = some (pc, .putfield index, 3)) (kk : V Y X (mset M 32 1 x) (pc + 3) L st) : V Y X M pc L (.int x :: .ref (Y.2.2.2 32) :: st) :=
  v_put hX (C := RX5) (T := TX5) (N := 6) (ci := 5) (fs := [.int ((M.1 32) 0), .int ((M.1 32) 1), .int ((M.1 32) 2), .int ((M.1 32) 3), .int ((M.1 32) 4), .int ((M.1 32) 5)]) (by decide) rfl rfl inX5 tyX5 tyX5_ok nmX5 1 (by decide) hlink rfl rfl rfl rfl (Nat.le_of_ble_eq_true rfl) rfl ix hd kk
theorem gN_5_1 (hX : vOK Y X ins nL own rm ret) {index : Nat} {host : String} (ix : Nat) (hlink : (own, index, "PointAnswers$Reader", "digit", "I", host) ∈ nF) (hd : gi ins ix = some (pc, .getfield index, 3)) (kk : V Y X M (pc + 3) L (.int (M.1 32 1) :: st)) : V Y X M pc L (.ref (Y.2.2.2 32) :: st) :=
  v_getN hX (C := RX5) (T := TX5) (N := 6) (ci := 5) (fs := [.int ((M.1 32) 0), .int ((M.1 32) 1), .int ((M.1 32) 2), .int ((M.1 32) 3), .int ((M.1 32) 4), .int ((M.1 32) 5)]) (by decide) rfl rfl inX5 1 (by decide) hlink rfl rfl ix hd kk
theorem pN_5_1 (hX : vOK Y X ins nL own rm ret) {index : Nat} {x : Int32} {host : String} (ix : Nat) (hlink : (own, index, "PointAnswers$Reader", "digit", "I", host) ∈ nF) (hd : gi ins ix = some (pc, .putfield index, 3)) (kk : V Y X (mset M 32 1 x) (pc + 3) L st) : V Y X M pc L (.int x :: .ref (Y.2.2.2 32) :: st) :=
  v_putN hX (C := RX5) (T := TX5) (N := 6) (ci := 5) (fs := [.int ((M.1 32) 0), .int ((M.1 32) 1), .int ((M.1 32) 2), .int ((M.1 32) 3), .int ((M.1 32) 4), .int ((M.1 32) 5)]) (by decide) rfl rfl inX5 tyX5 tyX5_ok nmX5 1 (by decide) hlink rfl rfl rfl rfl (Nat.le_of_ble_eq_true rfl) rfl ix hd kk
theorem g_5_2 (hX : vOK Y X ins nL own rm ret) {index : Nat} (ix : Nat) (hlink : Cond.fieldLink own index "PointAnswers$Reader" "kind" "C" ∈ wT) (hd : gi ins ix = some (pc, .getfield index, 3)) (kk : V Y X M (pc + 3) L (.int (M.1 32 2) :: st)) : V Y X M pc L (.ref (Y.2.2.2 32) :: st) :=
  v_get hX (C := RX5) (T := TX5) (N := 6) (ci := 5) (fs := [.int ((M.1 32) 0), .int ((M.1 32) 1), .int ((M.1 32) 2), .int ((M.1 32) 3), .int ((M.1 32) 4), .int ((M.1 32) 5)]) (by decide) rfl rfl inX5 2 (by decide) hlink rfl rfl ix hd kk
theorem p_5_2 (hX : vOK Y X ins nL own rm ret) {index : Nat} {x : Int32} (ix : Nat) (hn : narrow .char (.int x) = .int x) (hf : fits .char (.int x) = true) (hlink : Cond.fieldLink own index "PointAnswers$Reader" "kind" "C" ∈ wT) (hd : gi ins ix = some (pc, .putfield index, 3)) (kk : V Y X (mset M 32 2 x) (pc + 3) L st) : V Y X M pc L (.int x :: .ref (Y.2.2.2 32) :: st) :=
  v_put hX (C := RX5) (T := TX5) (N := 6) (ci := 5) (fs := [.int ((M.1 32) 0), .int ((M.1 32) 1), .int ((M.1 32) 2), .int ((M.1 32) 3), .int ((M.1 32) 4), .int ((M.1 32) 5)]) (by decide) rfl rfl inX5 tyX5 tyX5_ok nmX5 2 (by decide) hlink rfl rfl hn hf (Nat.le_of_ble_eq_true rfl) rfl ix hd kk
theorem gN_5_2 (hX : vOK Y X ins nL own rm ret) {index : Nat} {host : String} (ix : Nat) (hlink : (own, index, "PointAnswers$Reader", "kind", "C", host) ∈ nF) (hd : gi ins ix = some (pc, .getfield index, 3)) (kk : V Y X M (pc + 3) L (.int (M.1 32 2) :: st)) : V Y X M pc L (.ref (Y.2.2.2 32) :: st) :=
  v_getN hX (C := RX5) (T := TX5) (N := 6) (ci := 5) (fs := [.int ((M.1 32) 0), .int ((M.1 32) 1), .int ((M.1 32) 2), .int ((M.1 32) 3), .int ((M.1 32) 4), .int ((M.1 32) 5)]) (by decide) rfl rfl inX5 2 (by decide) hlink rfl rfl ix hd kk
theorem pN_5_2 (hX : vOK Y X ins nL own rm ret) {index : Nat} {x : Int32} {host : String} (ix : Nat) (hn : narrow .char (.int x) = .int x) (hf : fits .char (.int x) = true) (hlink : (own, index, "PointAnswers$Reader", "kind", "C", host) ∈ nF) (hd : gi ins ix = some (pc, .putfield index, 3)) (kk : V Y X (mset M 32 2 x) (pc + 3) L st) : V Y X M pc L (.int x :: .ref (Y.2.2.2 32) :: st) :=
  v_putN hX (C := RX5) (T := TX5) (N := 6) (ci := 5) (fs := [.int ((M.1 32) 0), .int ((M.1 32) 1), .int ((M.1 32) 2), .int ((M.1 32) 3), .int ((M.1 32) 4), .int ((M.1 32) 5)]) (by decide) rfl rfl inX5 tyX5 tyX5_ok nmX5 2 (by decide) hlink rfl rfl hn hf (Nat.le_of_ble_eq_true rfl) rfl ix hd kk
theorem g_5_3 (hX : vOK Y X ins nL own rm ret) {index : Nat} (ix : Nat) (hlink : Cond.fieldLink own index "PointAnswers$Reader" "number" "I" ∈ wT) (hd : gi ins ix = some (pc, .getfield index, 3)) (kk : V Y X M (pc + 3) L (.int (M.1 32 3) :: st)) : V Y X M pc L (.ref (Y.2.2.2 32) :: st) :=
  v_get hX (C := RX5) (T := TX5) (N := 6) (ci := 5) (fs := [.int ((M.1 32) 0), .int ((M.1 32) 1), .int ((M.1 32) 2), .int ((M.1 32) 3), .int ((M.1 32) 4), .int ((M.1 32) 5)]) (by decide) rfl rfl inX5 3 (by decide) hlink rfl rfl ix hd kk
theorem p_5_3 (hX : vOK Y X ins nL own rm ret) {index : Nat} {x : Int32} (ix : Nat) (hlink : Cond.fieldLink own index "PointAnswers$Reader" "number" "I" ∈ wT) (hd : gi ins ix = some (pc, .putfield index, 3)) (kk : V Y X (mset M 32 3 x) (pc + 3) L st) : V Y X M pc L (.int x :: .ref (Y.2.2.2 32) :: st) :=
  v_put hX (C := RX5) (T := TX5) (N := 6) (ci := 5) (fs := [.int ((M.1 32) 0), .int ((M.1 32) 1), .int ((M.1 32) 2), .int ((M.1 32) 3), .int ((M.1 32) 4), .int ((M.1 32) 5)]) (by decide) rfl rfl inX5 tyX5 tyX5_ok nmX5 3 (by decide) hlink rfl rfl rfl rfl (Nat.le_of_ble_eq_true rfl) rfl ix hd kk
theorem gN_5_3 (hX : vOK Y X ins nL own rm ret) {index : Nat} {host : String} (ix : Nat) (hlink : (own, index, "PointAnswers$Reader", "number", "I", host) ∈ nF) (hd : gi ins ix = some (pc, .getfield index, 3)) (kk : V Y X M (pc + 3) L (.int (M.1 32 3) :: st)) : V Y X M pc L (.ref (Y.2.2.2 32) :: st) :=
  v_getN hX (C := RX5) (T := TX5) (N := 6) (ci := 5) (fs := [.int ((M.1 32) 0), .int ((M.1 32) 1), .int ((M.1 32) 2), .int ((M.1 32) 3), .int ((M.1 32) 4), .int ((M.1 32) 5)]) (by decide) rfl rfl inX5 3 (by decide) hlink rfl rfl ix hd kk
theorem pN_5_3 (hX : vOK Y X ins nL own rm ret) {index : Nat} {x : Int32} {host : String} (ix : Nat) (hlink : (own, index, "PointAnswers$Reader", "number", "I", host) ∈ nF) (hd : gi ins ix = some (pc, .putfield index, 3)) (kk : V Y X (mset M 32 3 x) (pc + 3) L st) : V Y X M pc L (.int x :: .ref (Y.2.2.2 32) :: st) :=
  v_putN hX (C := RX5) (T := TX5) (N := 6) (ci := 5) (fs := [.int ((M.1 32) 0), .int ((M.1 32) 1), .int ((M.1 32) 2), .int ((M.1 32) 3), .int ((M.1 32) 4), .int ((M.1 32) 5)]) (by decide) rfl rfl inX5 tyX5 tyX5_ok nmX5 3 (by decide) hlink rfl rfl rfl rfl (Nat.le_of_ble_eq_true rfl) rfl ix hd kk
theorem g_5_4 (hX : vOK Y X ins nL own rm ret) {index : Nat} (ix : Nat) (hlink : Cond.fieldLink own index "PointAnswers$Reader" "pages" "I" ∈ wT) (hd : gi ins ix = some (pc, .getfield index, 3)) (kk : V Y X M (pc + 3) L (.int (M.1 32 4) :: st)) : V Y X M pc L (.ref (Y.2.2.2 32) :: st) :=
  v_get hX (C := RX5) (T := TX5) (N := 6) (ci := 5) (fs := [.int ((M.1 32) 0), .int ((M.1 32) 1), .int ((M.1 32) 2), .int ((M.1 32) 3), .int ((M.1 32) 4), .int ((M.1 32) 5)]) (by decide) rfl rfl inX5 4 (by decide) hlink rfl rfl ix hd kk
theorem p_5_4 (hX : vOK Y X ins nL own rm ret) {index : Nat} {x : Int32} (ix : Nat) (hlink : Cond.fieldLink own index "PointAnswers$Reader" "pages" "I" ∈ wT) (hd : gi ins ix = some (pc, .putfield index, 3)) (kk : V Y X (mset M 32 4 x) (pc + 3) L st) : V Y X M pc L (.int x :: .ref (Y.2.2.2 32) :: st) :=
  v_put hX (C := RX5) (T := TX5) (N := 6) (ci := 5) (fs := [.int ((M.1 32) 0), .int ((M.1 32) 1), .int ((M.1 32) 2), .int ((M.1 32) 3), .int ((M.1 32) 4), .int ((M.1 32) 5)]) (by decide) rfl rfl inX5 tyX5 tyX5_ok nmX5 4 (by decide) hlink rfl rfl rfl rfl (Nat.le_of_ble_eq_true rfl) rfl ix hd kk
theorem gN_5_4 (hX : vOK Y X ins nL own rm ret) {index : Nat} {host : String} (ix : Nat) (hlink : (own, index, "PointAnswers$Reader", "pages", "I", host) ∈ nF) (hd : gi ins ix = some (pc, .getfield index, 3)) (kk : V Y X M (pc + 3) L (.int (M.1 32 4) :: st)) : V Y X M pc L (.ref (Y.2.2.2 32) :: st) :=
  v_getN hX (C := RX5) (T := TX5) (N := 6) (ci := 5) (fs := [.int ((M.1 32) 0), .int ((M.1 32) 1), .int ((M.1 32) 2), .int ((M.1 32) 3), .int ((M.1 32) 4), .int ((M.1 32) 5)]) (by decide) rfl rfl inX5 4 (by decide) hlink rfl rfl ix hd kk
theorem pN_5_4 (hX : vOK Y X ins nL own rm ret) {index : Nat} {x : Int32} {host : String} (ix : Nat) (hlink : (own, index, "PointAnswers$Reader", "pages", "I", host) ∈ nF) (hd : gi ins ix = some (pc, .putfield index, 3)) (kk : V Y X (mset M 32 4 x) (pc + 3) L st) : V Y X M pc L (.int x :: .ref (Y.2.2.2 32) :: st) :=
  v_putN hX (C := RX5) (T := TX5) (N := 6) (ci := 5) (fs := [.int ((M.1 32) 0), .int ((M.1 32) 1), .int ((M.1 32) 2), .int ((M.1 32) 3), .int ((M.1 32) 4), .int ((M.1 32) 5)]) (by decide) rfl rfl inX5 tyX5 tyX5_ok nmX5 4 (by decide) hlink rfl rfl rfl rfl (Nat.le_of_ble_eq_true rfl) rfl ix hd kk
theorem g_5_5 (hX : vOK Y X ins nL own rm ret) {index : Nat} (ix : Nat) (hlink : Cond.fieldLink own index "PointAnswers$Reader" "cases" "I" ∈ wT) (hd : gi ins ix = some (pc, .getfield index, 3)) (kk : V Y X M (pc + 3) L (.int (M.1 32 5) :: st)) : V Y X M pc L (.ref (Y.2.2.2 32) :: st) :=
  v_get hX (C := RX5) (T := TX5) (N := 6) (ci := 5) (fs := [.int ((M.1 32) 0), .int ((M.1 32) 1), .int ((M.1 32) 2), .int ((M.1 32) 3), .int ((M.1 32) 4), .int ((M.1 32) 5)]) (by decide) rfl rfl inX5 5 (by decide) hlink rfl rfl ix hd kk
theorem p_5_5 (hX : vOK Y X ins nL own rm ret) {index : Nat} {x : Int32} (ix : Nat) (hlink : Cond.fieldLink own index "PointAnswers$Reader" "cases" "I" ∈ wT) (hd : gi ins ix = some (pc, .putfield index, 3)) (kk : V Y X (mset M 32 5 x) (pc + 3) L st) : V Y X M pc L (.int x :: .ref (Y.2.2.2 32) :: st) :=
  v_put hX (C := RX5) (T := TX5) (N := 6) (ci := 5) (fs := [.int ((M.1 32) 0), .int ((M.1 32) 1), .int ((M.1 32) 2), .int ((M.1 32) 3), .int ((M.1 32) 4), .int ((M.1 32) 5)]) (by decide) rfl rfl inX5 tyX5 tyX5_ok nmX5 5 (by decide) hlink rfl rfl rfl rfl (Nat.le_of_ble_eq_true rfl) rfl ix hd kk
theorem gN_5_5 (hX : vOK Y X ins nL own rm ret) {index : Nat} {host : String} (ix : Nat) (hlink : (own, index, "PointAnswers$Reader", "cases", "I", host) ∈ nF) (hd : gi ins ix = some (pc, .getfield index, 3)) (kk : V Y X M (pc + 3) L (.int (M.1 32 5) :: st)) : V Y X M pc L (.ref (Y.2.2.2 32) :: st) :=
  v_getN hX (C := RX5) (T := TX5) (N := 6) (ci := 5) (fs := [.int ((M.1 32) 0), .int ((M.1 32) 1), .int ((M.1 32) 2), .int ((M.1 32) 3), .int ((M.1 32) 4), .int ((M.1 32) 5)]) (by decide) rfl rfl inX5 5 (by decide) hlink rfl rfl ix hd kk
theorem pN_5_5 (hX : vOK Y X ins nL own rm ret) {index : Nat} {x : Int32} {host : String} (ix : Nat) (hlink : (own, index, "PointAnswers$Reader", "cases", "I", host) ∈ nF) (hd : gi ins ix = some (pc, .putfield index, 3)) (kk : V Y X (mset M 32 5 x) (pc + 3) L st) : V Y X M pc L (.int x :: .ref (Y.2.2.2 32) :: st) :=
  v_putN hX (C := RX5) (T := TX5) (N := 6) (ci := 5) (fs := [.int ((M.1 32) 0), .int ((M.1 32) 1), .int ((M.1 32) 2), .int ((M.1 32) 3), .int ((M.1 32) 4), .int ((M.1 32) 5)]) (by decide) rfl rfl inX5 tyX5 tyX5_ok nmX5 5 (by decide) hlink rfl rfl rfl rfl (Nat.le_of_ble_eq_true rfl) rfl ix hd kk
theorem g_6_0 (hX : vOK Y X ins nL own rm ret) {index : Nat} (ix : Nat) (hlink : Cond.fieldLink own index "PointAnswers" "now" "LPointAnswers$Bundle;" ∈ wT) (hd : gi ins ix = some (pc, .getfield index, 3)) (kk : V Y X M (pc + 3) L (.ref (Y.2.2.2 1) :: st)) : V Y X M pc L (.ref (Y.2.2.2 0) :: st) :=
  v_get hX (C := RX6) (T := TX6) (N := 7) (ci := 6) (fs := [.ref (Y.2.2.2 1), .ref (Y.2.2.2 27), .ref (Y.2.2.2 30), .ref (Y.2.2.2 32), .ref (Y.2.2.2 33), .ref (Y.2.2.2 217), .int ((M.1 0) 6)]) (by decide) rfl rfl inX6 0 (by decide) hlink rfl rfl ix hd kk
theorem gN_6_0 (hX : vOK Y X ins nL own rm ret) {index : Nat} {host : String} (ix : Nat) (hlink : (own, index, "PointAnswers", "now", "LPointAnswers$Bundle;", host) ∈ nF) (hd : gi ins ix = some (pc, .getfield index, 3)) (kk : V Y X M (pc + 3) L (.ref (Y.2.2.2 1) :: st)) : V Y X M pc L (.ref (Y.2.2.2 0) :: st) :=
  v_getN hX (C := RX6) (T := TX6) (N := 7) (ci := 6) (fs := [.ref (Y.2.2.2 1), .ref (Y.2.2.2 27), .ref (Y.2.2.2 30), .ref (Y.2.2.2 32), .ref (Y.2.2.2 33), .ref (Y.2.2.2 217), .int ((M.1 0) 6)]) (by decide) rfl rfl inX6 0 (by decide) hlink rfl rfl ix hd kk
theorem g_6_1 (hX : vOK Y X ins nL own rm ret) {index : Nat} (ix : Nat) (hlink : Cond.fieldLink own index "PointAnswers" "costs" "LPointAnswers$Costs;" ∈ wT) (hd : gi ins ix = some (pc, .getfield index, 3)) (kk : V Y X M (pc + 3) L (.ref (Y.2.2.2 27) :: st)) : V Y X M pc L (.ref (Y.2.2.2 0) :: st) :=
  v_get hX (C := RX6) (T := TX6) (N := 7) (ci := 6) (fs := [.ref (Y.2.2.2 1), .ref (Y.2.2.2 27), .ref (Y.2.2.2 30), .ref (Y.2.2.2 32), .ref (Y.2.2.2 33), .ref (Y.2.2.2 217), .int ((M.1 0) 6)]) (by decide) rfl rfl inX6 1 (by decide) hlink rfl rfl ix hd kk
theorem gN_6_1 (hX : vOK Y X ins nL own rm ret) {index : Nat} {host : String} (ix : Nat) (hlink : (own, index, "PointAnswers", "costs", "LPointAnswers$Costs;", host) ∈ nF) (hd : gi ins ix = some (pc, .getfield index, 3)) (kk : V Y X M (pc + 3) L (.ref (Y.2.2.2 27) :: st)) : V Y X M pc L (.ref (Y.2.2.2 0) :: st) :=
  v_getN hX (C := RX6) (T := TX6) (N := 7) (ci := 6) (fs := [.ref (Y.2.2.2 1), .ref (Y.2.2.2 27), .ref (Y.2.2.2 30), .ref (Y.2.2.2 32), .ref (Y.2.2.2 33), .ref (Y.2.2.2 217), .int ((M.1 0) 6)]) (by decide) rfl rfl inX6 1 (by decide) hlink rfl rfl ix hd kk
theorem g_6_2 (hX : vOK Y X ins nL own rm ret) {index : Nat} (ix : Nat) (hlink : Cond.fieldLink own index "PointAnswers" "pad" "LPointAnswers$Pad;" ∈ wT) (hd : gi ins ix = some (pc, .getfield index, 3)) (kk : V Y X M (pc + 3) L (.ref (Y.2.2.2 30) :: st)) : V Y X M pc L (.ref (Y.2.2.2 0) :: st) :=
  v_get hX (C := RX6) (T := TX6) (N := 7) (ci := 6) (fs := [.ref (Y.2.2.2 1), .ref (Y.2.2.2 27), .ref (Y.2.2.2 30), .ref (Y.2.2.2 32), .ref (Y.2.2.2 33), .ref (Y.2.2.2 217), .int ((M.1 0) 6)]) (by decide) rfl rfl inX6 2 (by decide) hlink rfl rfl ix hd kk
theorem gN_6_2 (hX : vOK Y X ins nL own rm ret) {index : Nat} {host : String} (ix : Nat) (hlink : (own, index, "PointAnswers", "pad", "LPointAnswers$Pad;", host) ∈ nF) (hd : gi ins ix = some (pc, .getfield index, 3)) (kk : V Y X M (pc + 3) L (.ref (Y.2.2.2 30) :: st)) : V Y X M pc L (.ref (Y.2.2.2 0) :: st) :=
  v_getN hX (C := RX6) (T := TX6) (N := 7) (ci := 6) (fs := [.ref (Y.2.2.2 1), .ref (Y.2.2.2 27), .ref (Y.2.2.2 30), .ref (Y.2.2.2 32), .ref (Y.2.2.2 33), .ref (Y.2.2.2 217), .int ((M.1 0) 6)]) (by decide) rfl rfl inX6 2 (by decide) hlink rfl rfl ix hd kk
theorem g_6_3 (hX : vOK Y X ins nL own rm ret) {index : Nat} (ix : Nat) (hlink : Cond.fieldLink own index "PointAnswers" "reader" "LPointAnswers$Reader;" ∈ wT) (hd : gi ins ix = some (pc, .getfield index, 3)) (kk : V Y X M (pc + 3) L (.ref (Y.2.2.2 32) :: st)) : V Y X M pc L (.ref (Y.2.2.2 0) :: st) :=
  v_get hX (C := RX6) (T := TX6) (N := 7) (ci := 6) (fs := [.ref (Y.2.2.2 1), .ref (Y.2.2.2 27), .ref (Y.2.2.2 30), .ref (Y.2.2.2 32), .ref (Y.2.2.2 33), .ref (Y.2.2.2 217), .int ((M.1 0) 6)]) (by decide) rfl rfl inX6 3 (by decide) hlink rfl rfl ix hd kk
theorem gN_6_3 (hX : vOK Y X ins nL own rm ret) {index : Nat} {host : String} (ix : Nat) (hlink : (own, index, "PointAnswers", "reader", "LPointAnswers$Reader;", host) ∈ nF) (hd : gi ins ix = some (pc, .getfield index, 3)) (kk : V Y X M (pc + 3) L (.ref (Y.2.2.2 32) :: st)) : V Y X M pc L (.ref (Y.2.2.2 0) :: st) :=
  v_getN hX (C := RX6) (T := TX6) (N := 7) (ci := 6) (fs := [.ref (Y.2.2.2 1), .ref (Y.2.2.2 27), .ref (Y.2.2.2 30), .ref (Y.2.2.2 32), .ref (Y.2.2.2 33), .ref (Y.2.2.2 217), .int ((M.1 0) 6)]) (by decide) rfl rfl inX6 3 (by decide) hlink rfl rfl ix hd kk
theorem g_6_4 (hX : vOK Y X ins nL own rm ret) {index : Nat} (ix : Nat) (hlink : Cond.fieldLink own index "PointAnswers" "history" "LPointAnswers$History;" ∈ wT) (hd : gi ins ix = some (pc, .getfield index, 3)) (kk : V Y X M (pc + 3) L (.ref (Y.2.2.2 33) :: st)) : V Y X M pc L (.ref (Y.2.2.2 0) :: st) :=
  v_get hX (C := RX6) (T := TX6) (N := 7) (ci := 6) (fs := [.ref (Y.2.2.2 1), .ref (Y.2.2.2 27), .ref (Y.2.2.2 30), .ref (Y.2.2.2 32), .ref (Y.2.2.2 33), .ref (Y.2.2.2 217), .int ((M.1 0) 6)]) (by decide) rfl rfl inX6 4 (by decide) hlink rfl rfl ix hd kk
theorem gN_6_4 (hX : vOK Y X ins nL own rm ret) {index : Nat} {host : String} (ix : Nat) (hlink : (own, index, "PointAnswers", "history", "LPointAnswers$History;", host) ∈ nF) (hd : gi ins ix = some (pc, .getfield index, 3)) (kk : V Y X M (pc + 3) L (.ref (Y.2.2.2 33) :: st)) : V Y X M pc L (.ref (Y.2.2.2 0) :: st) :=
  v_getN hX (C := RX6) (T := TX6) (N := 7) (ci := 6) (fs := [.ref (Y.2.2.2 1), .ref (Y.2.2.2 27), .ref (Y.2.2.2 30), .ref (Y.2.2.2 32), .ref (Y.2.2.2 33), .ref (Y.2.2.2 217), .int ((M.1 0) 6)]) (by decide) rfl rfl inX6 4 (by decide) hlink rfl rfl ix hd kk
theorem g_6_5 (hX : vOK Y X ins nL own rm ret) {index : Nat} (ix : Nat) (hlink : Cond.fieldLink own index "PointAnswers" "slots" "[LPointAnswers$Bundle;" ∈ wT) (hd : gi ins ix = some (pc, .getfield index, 3)) (kk : V Y X M (pc + 3) L (.ref (Y.2.2.2 217) :: st)) : V Y X M pc L (.ref (Y.2.2.2 0) :: st) :=
  v_get hX (C := RX6) (T := TX6) (N := 7) (ci := 6) (fs := [.ref (Y.2.2.2 1), .ref (Y.2.2.2 27), .ref (Y.2.2.2 30), .ref (Y.2.2.2 32), .ref (Y.2.2.2 33), .ref (Y.2.2.2 217), .int ((M.1 0) 6)]) (by decide) rfl rfl inX6 5 (by decide) hlink rfl rfl ix hd kk
theorem gN_6_5 (hX : vOK Y X ins nL own rm ret) {index : Nat} {host : String} (ix : Nat) (hlink : (own, index, "PointAnswers", "slots", "[LPointAnswers$Bundle;", host) ∈ nF) (hd : gi ins ix = some (pc, .getfield index, 3)) (kk : V Y X M (pc + 3) L (.ref (Y.2.2.2 217) :: st)) : V Y X M pc L (.ref (Y.2.2.2 0) :: st) :=
  v_getN hX (C := RX6) (T := TX6) (N := 7) (ci := 6) (fs := [.ref (Y.2.2.2 1), .ref (Y.2.2.2 27), .ref (Y.2.2.2 30), .ref (Y.2.2.2 32), .ref (Y.2.2.2 33), .ref (Y.2.2.2 217), .int ((M.1 0) 6)]) (by decide) rfl rfl inX6 5 (by decide) hlink rfl rfl ix hd kk
theorem g_6_6 (hX : vOK Y X ins nL own rm ret) {index : Nat} (ix : Nat) (hlink : Cond.fieldLink own index "PointAnswers" "savedSlots" "I" ∈ wT) (hd : gi ins ix = some (pc, .getfield index, 3)) (kk : V Y X M (pc + 3) L (.int (M.1 0 6) :: st)) : V Y X M pc L (.ref (Y.2.2.2 0) :: st) :=
  v_get hX (C := RX6) (T := TX6) (N := 7) (ci := 6) (fs := [.ref (Y.2.2.2 1), .ref (Y.2.2.2 27), .ref (Y.2.2.2 30), .ref (Y.2.2.2 32), .ref (Y.2.2.2 33), .ref (Y.2.2.2 217), .int ((M.1 0) 6)]) (by decide) rfl rfl inX6 6 (by decide) hlink rfl rfl ix hd kk
theorem p_6_6 (hX : vOK Y X ins nL own rm ret) {index : Nat} {x : Int32} (ix : Nat) (hlink : Cond.fieldLink own index "PointAnswers" "savedSlots" "I" ∈ wT) (hd : gi ins ix = some (pc, .putfield index, 3)) (kk : V Y X (mset M 0 6 x) (pc + 3) L st) : V Y X M pc L (.int x :: .ref (Y.2.2.2 0) :: st) :=
  v_put hX (C := RX6) (T := TX6) (N := 7) (ci := 6) (fs := [.ref (Y.2.2.2 1), .ref (Y.2.2.2 27), .ref (Y.2.2.2 30), .ref (Y.2.2.2 32), .ref (Y.2.2.2 33), .ref (Y.2.2.2 217), .int ((M.1 0) 6)]) (by decide) rfl rfl inX6 tyX6 tyX6_ok nmX6 6 (by decide) hlink rfl rfl rfl rfl (Nat.le_of_ble_eq_true rfl) rfl ix hd kk
theorem gN_6_6 (hX : vOK Y X ins nL own rm ret) {index : Nat} {host : String} (ix : Nat) (hlink : (own, index, "PointAnswers", "savedSlots", "I", host) ∈ nF) (hd : gi ins ix = some (pc, .getfield index, 3)) (kk : V Y X M (pc + 3) L (.int (M.1 0 6) :: st)) : V Y X M pc L (.ref (Y.2.2.2 0) :: st) :=
  v_getN hX (C := RX6) (T := TX6) (N := 7) (ci := 6) (fs := [.ref (Y.2.2.2 1), .ref (Y.2.2.2 27), .ref (Y.2.2.2 30), .ref (Y.2.2.2 32), .ref (Y.2.2.2 33), .ref (Y.2.2.2 217), .int ((M.1 0) 6)]) (by decide) rfl rfl inX6 6 (by decide) hlink rfl rfl ix hd kk
theorem pN_6_6 (hX : vOK Y X ins nL own rm ret) {index : Nat} {x : Int32} {host : String} (ix : Nat) (hlink : (own, index, "PointAnswers", "savedSlots", "I", host) ∈ nF) (hd : gi ins ix = some (pc, .putfield index, 3)) (kk : V Y X (mset M 0 6 x) (pc + 3) L st) : V Y X M pc L (.int x :: .ref (Y.2.2.2 0) :: st) :=
  v_putN hX (C := RX6) (T := TX6) (N := 7) (ci := 6) (fs := [.ref (Y.2.2.2 1), .ref (Y.2.2.2 27), .ref (Y.2.2.2 30), .ref (Y.2.2.2 32), .ref (Y.2.2.2 33), .ref (Y.2.2.2 217), .int ((M.1 0) 6)]) (by decide) rfl rfl inX6 tyX6 tyX6_ok nmX6 6 (by decide) hlink rfl rfl rfl rfl (Nat.le_of_ble_eq_true rfl) rfl ix hd kk
theorem g_7_0 (hX : vOK Y X ins nL own rm ret) {index : Nat} (ix : Nat) (hlink : Cond.fieldLink own index "PointAnswersModel" "z" "[I" ∈ wT) (hd : gi ins ix = some (pc, .getfield index, 3)) (kk : V Y X M (pc + 3) L (.ref (Y.2.2.2 271) :: st)) : V Y X M pc L (.ref (Y.2.2.2 270) :: st) :=
  v_get hX (C := RX7) (T := TX7) (N := 15) (ci := 7) (fs := [.ref (Y.2.2.2 271), .ref (Y.2.2.2 272), .ref (Y.2.2.2 273), .ref (Y.2.2.2 274), .int ((M.1 270) 4), .ref (Y.2.2.2 275), .int ((M.1 270) 6), .ref (Y.2.2.2 276), .ref (Y.2.2.2 277), .ref (Y.2.2.2 278), .ref (Y.2.2.2 279), .ref (Y.2.2.2 280), .int ((M.1 270) 12), .int ((M.1 270) 13), .int ((M.1 270) 14)]) (by decide) rfl rfl inX7 0 (by decide) hlink rfl rfl ix hd kk
theorem gN_7_0 (hX : vOK Y X ins nL own rm ret) {index : Nat} {host : String} (ix : Nat) (hlink : (own, index, "PointAnswersModel", "z", "[I", host) ∈ nF) (hd : gi ins ix = some (pc, .getfield index, 3)) (kk : V Y X M (pc + 3) L (.ref (Y.2.2.2 271) :: st)) : V Y X M pc L (.ref (Y.2.2.2 270) :: st) :=
  v_getN hX (C := RX7) (T := TX7) (N := 15) (ci := 7) (fs := [.ref (Y.2.2.2 271), .ref (Y.2.2.2 272), .ref (Y.2.2.2 273), .ref (Y.2.2.2 274), .int ((M.1 270) 4), .ref (Y.2.2.2 275), .int ((M.1 270) 6), .ref (Y.2.2.2 276), .ref (Y.2.2.2 277), .ref (Y.2.2.2 278), .ref (Y.2.2.2 279), .ref (Y.2.2.2 280), .int ((M.1 270) 12), .int ((M.1 270) 13), .int ((M.1 270) 14)]) (by decide) rfl rfl inX7 0 (by decide) hlink rfl rfl ix hd kk
theorem g_7_1 (hX : vOK Y X ins nL own rm ret) {index : Nat} (ix : Nat) (hlink : Cond.fieldLink own index "PointAnswersModel" "past" "[I" ∈ wT) (hd : gi ins ix = some (pc, .getfield index, 3)) (kk : V Y X M (pc + 3) L (.ref (Y.2.2.2 272) :: st)) : V Y X M pc L (.ref (Y.2.2.2 270) :: st) :=
  v_get hX (C := RX7) (T := TX7) (N := 15) (ci := 7) (fs := [.ref (Y.2.2.2 271), .ref (Y.2.2.2 272), .ref (Y.2.2.2 273), .ref (Y.2.2.2 274), .int ((M.1 270) 4), .ref (Y.2.2.2 275), .int ((M.1 270) 6), .ref (Y.2.2.2 276), .ref (Y.2.2.2 277), .ref (Y.2.2.2 278), .ref (Y.2.2.2 279), .ref (Y.2.2.2 280), .int ((M.1 270) 12), .int ((M.1 270) 13), .int ((M.1 270) 14)]) (by decide) rfl rfl inX7 1 (by decide) hlink rfl rfl ix hd kk
theorem gN_7_1 (hX : vOK Y X ins nL own rm ret) {index : Nat} {host : String} (ix : Nat) (hlink : (own, index, "PointAnswersModel", "past", "[I", host) ∈ nF) (hd : gi ins ix = some (pc, .getfield index, 3)) (kk : V Y X M (pc + 3) L (.ref (Y.2.2.2 272) :: st)) : V Y X M pc L (.ref (Y.2.2.2 270) :: st) :=
  v_getN hX (C := RX7) (T := TX7) (N := 15) (ci := 7) (fs := [.ref (Y.2.2.2 271), .ref (Y.2.2.2 272), .ref (Y.2.2.2 273), .ref (Y.2.2.2 274), .int ((M.1 270) 4), .ref (Y.2.2.2 275), .int ((M.1 270) 6), .ref (Y.2.2.2 276), .ref (Y.2.2.2 277), .ref (Y.2.2.2 278), .ref (Y.2.2.2 279), .ref (Y.2.2.2 280), .int ((M.1 270) 12), .int ((M.1 270) 13), .int ((M.1 270) 14)]) (by decide) rfl rfl inX7 1 (by decide) hlink rfl rfl ix hd kk
theorem g_7_2 (hX : vOK Y X ins nL own rm ret) {index : Nat} (ix : Nat) (hlink : Cond.fieldLink own index "PointAnswersModel" "slots" "[I" ∈ wT) (hd : gi ins ix = some (pc, .getfield index, 3)) (kk : V Y X M (pc + 3) L (.ref (Y.2.2.2 273) :: st)) : V Y X M pc L (.ref (Y.2.2.2 270) :: st) :=
  v_get hX (C := RX7) (T := TX7) (N := 15) (ci := 7) (fs := [.ref (Y.2.2.2 271), .ref (Y.2.2.2 272), .ref (Y.2.2.2 273), .ref (Y.2.2.2 274), .int ((M.1 270) 4), .ref (Y.2.2.2 275), .int ((M.1 270) 6), .ref (Y.2.2.2 276), .ref (Y.2.2.2 277), .ref (Y.2.2.2 278), .ref (Y.2.2.2 279), .ref (Y.2.2.2 280), .int ((M.1 270) 12), .int ((M.1 270) 13), .int ((M.1 270) 14)]) (by decide) rfl rfl inX7 2 (by decide) hlink rfl rfl ix hd kk
theorem gN_7_2 (hX : vOK Y X ins nL own rm ret) {index : Nat} {host : String} (ix : Nat) (hlink : (own, index, "PointAnswersModel", "slots", "[I", host) ∈ nF) (hd : gi ins ix = some (pc, .getfield index, 3)) (kk : V Y X M (pc + 3) L (.ref (Y.2.2.2 273) :: st)) : V Y X M pc L (.ref (Y.2.2.2 270) :: st) :=
  v_getN hX (C := RX7) (T := TX7) (N := 15) (ci := 7) (fs := [.ref (Y.2.2.2 271), .ref (Y.2.2.2 272), .ref (Y.2.2.2 273), .ref (Y.2.2.2 274), .int ((M.1 270) 4), .ref (Y.2.2.2 275), .int ((M.1 270) 6), .ref (Y.2.2.2 276), .ref (Y.2.2.2 277), .ref (Y.2.2.2 278), .ref (Y.2.2.2 279), .ref (Y.2.2.2 280), .int ((M.1 270) 12), .int ((M.1 270) 13), .int ((M.1 270) 14)]) (by decide) rfl rfl inX7 2 (by decide) hlink rfl rfl ix hd kk
theorem g_7_3 (hX : vOK Y X ins nL own rm ret) {index : Nat} (ix : Nat) (hlink : Cond.fieldLink own index "PointAnswersModel" "isSaved" "[Z" ∈ wT) (hd : gi ins ix = some (pc, .getfield index, 3)) (kk : V Y X M (pc + 3) L (.ref (Y.2.2.2 274) :: st)) : V Y X M pc L (.ref (Y.2.2.2 270) :: st) :=
  v_get hX (C := RX7) (T := TX7) (N := 15) (ci := 7) (fs := [.ref (Y.2.2.2 271), .ref (Y.2.2.2 272), .ref (Y.2.2.2 273), .ref (Y.2.2.2 274), .int ((M.1 270) 4), .ref (Y.2.2.2 275), .int ((M.1 270) 6), .ref (Y.2.2.2 276), .ref (Y.2.2.2 277), .ref (Y.2.2.2 278), .ref (Y.2.2.2 279), .ref (Y.2.2.2 280), .int ((M.1 270) 12), .int ((M.1 270) 13), .int ((M.1 270) 14)]) (by decide) rfl rfl inX7 3 (by decide) hlink rfl rfl ix hd kk
theorem gN_7_3 (hX : vOK Y X ins nL own rm ret) {index : Nat} {host : String} (ix : Nat) (hlink : (own, index, "PointAnswersModel", "isSaved", "[Z", host) ∈ nF) (hd : gi ins ix = some (pc, .getfield index, 3)) (kk : V Y X M (pc + 3) L (.ref (Y.2.2.2 274) :: st)) : V Y X M pc L (.ref (Y.2.2.2 270) :: st) :=
  v_getN hX (C := RX7) (T := TX7) (N := 15) (ci := 7) (fs := [.ref (Y.2.2.2 271), .ref (Y.2.2.2 272), .ref (Y.2.2.2 273), .ref (Y.2.2.2 274), .int ((M.1 270) 4), .ref (Y.2.2.2 275), .int ((M.1 270) 6), .ref (Y.2.2.2 276), .ref (Y.2.2.2 277), .ref (Y.2.2.2 278), .ref (Y.2.2.2 279), .ref (Y.2.2.2 280), .int ((M.1 270) 12), .int ((M.1 270) 13), .int ((M.1 270) 14)]) (by decide) rfl rfl inX7 3 (by decide) hlink rfl rfl ix hd kk
theorem g_7_4 (hX : vOK Y X ins nL own rm ret) {index : Nat} (ix : Nat) (hlink : Cond.fieldLink own index "PointAnswersModel" "pastMany" "I" ∈ wT) (hd : gi ins ix = some (pc, .getfield index, 3)) (kk : V Y X M (pc + 3) L (.int (M.1 270 4) :: st)) : V Y X M pc L (.ref (Y.2.2.2 270) :: st) :=
  v_get hX (C := RX7) (T := TX7) (N := 15) (ci := 7) (fs := [.ref (Y.2.2.2 271), .ref (Y.2.2.2 272), .ref (Y.2.2.2 273), .ref (Y.2.2.2 274), .int ((M.1 270) 4), .ref (Y.2.2.2 275), .int ((M.1 270) 6), .ref (Y.2.2.2 276), .ref (Y.2.2.2 277), .ref (Y.2.2.2 278), .ref (Y.2.2.2 279), .ref (Y.2.2.2 280), .int ((M.1 270) 12), .int ((M.1 270) 13), .int ((M.1 270) 14)]) (by decide) rfl rfl inX7 4 (by decide) hlink rfl rfl ix hd kk
theorem p_7_4 (hX : vOK Y X ins nL own rm ret) {index : Nat} {x : Int32} (ix : Nat) (hlink : Cond.fieldLink own index "PointAnswersModel" "pastMany" "I" ∈ wT) (hd : gi ins ix = some (pc, .putfield index, 3)) (kk : V Y X (mset M 270 4 x) (pc + 3) L st) : V Y X M pc L (.int x :: .ref (Y.2.2.2 270) :: st) :=
  v_put hX (C := RX7) (T := TX7) (N := 15) (ci := 7) (fs := [.ref (Y.2.2.2 271), .ref (Y.2.2.2 272), .ref (Y.2.2.2 273), .ref (Y.2.2.2 274), .int ((M.1 270) 4), .ref (Y.2.2.2 275), .int ((M.1 270) 6), .ref (Y.2.2.2 276), .ref (Y.2.2.2 277), .ref (Y.2.2.2 278), .ref (Y.2.2.2 279), .ref (Y.2.2.2 280), .int ((M.1 270) 12), .int ((M.1 270) 13), .int ((M.1 270) 14)]) (by decide) rfl rfl inX7 tyX7 tyX7_ok nmX7 4 (by decide) hlink rfl rfl rfl rfl (Nat.le_of_ble_eq_true rfl) rfl ix hd kk
theorem gN_7_4 (hX : vOK Y X ins nL own rm ret) {index : Nat} {host : String} (ix : Nat) (hlink : (own, index, "PointAnswersModel", "pastMany", "I", host) ∈ nF) (hd : gi ins ix = some (pc, .getfield index, 3)) (kk : V Y X M (pc + 3) L (.int (M.1 270 4) :: st)) : V Y X M pc L (.ref (Y.2.2.2 270) :: st) :=
  v_getN hX (C := RX7) (T := TX7) (N := 15) (ci := 7) (fs := [.ref (Y.2.2.2 271), .ref (Y.2.2.2 272), .ref (Y.2.2.2 273), .ref (Y.2.2.2 274), .int ((M.1 270) 4), .ref (Y.2.2.2 275), .int ((M.1 270) 6), .ref (Y.2.2.2 276), .ref (Y.2.2.2 277), .ref (Y.2.2.2 278), .ref (Y.2.2.2 279), .ref (Y.2.2.2 280), .int ((M.1 270) 12), .int ((M.1 270) 13), .int ((M.1 270) 14)]) (by decide) rfl rfl inX7 4 (by decide) hlink rfl rfl ix hd kk
theorem pN_7_4 (hX : vOK Y X ins nL own rm ret) {index : Nat} {x : Int32} {host : String} (ix : Nat) (hlink : (own, index, "PointAnswersModel", "pastMany", "I", host) ∈ nF) (hd : gi ins ix = some (pc, .putfield index, 3)) (kk : V Y X (mset M 270 4 x) (pc + 3) L st) : V Y X M pc L (.int x :: .ref (Y.2.2.2 270) :: st) :=
  v_putN hX (C := RX7) (T := TX7) (N := 15) (ci := 7) (fs := [.ref (Y.2.2.2 271), .ref (Y.2.2.2 272), .ref (Y.2.2.2 273), .ref (Y.2.2.2 274), .int ((M.1 270) 4), .ref (Y.2.2.2 275), .int ((M.1 270) 6), .ref (Y.2.2.2 276), .ref (Y.2.2.2 277), .ref (Y.2.2.2 278), .ref (Y.2.2.2 279), .ref (Y.2.2.2 280), .int ((M.1 270) 12), .int ((M.1 270) 13), .int ((M.1 270) 14)]) (by decide) rfl rfl inX7 tyX7 tyX7_ok nmX7 4 (by decide) hlink rfl rfl rfl rfl (Nat.le_of_ble_eq_true rfl) rfl ix hd kk
theorem g_7_5 (hX : vOK Y X ins nL own rm ret) {index : Nat} (ix : Nat) (hlink : Cond.fieldLink own index "PointAnswersModel" "pad" "[C" ∈ wT) (hd : gi ins ix = some (pc, .getfield index, 3)) (kk : V Y X M (pc + 3) L (.ref (Y.2.2.2 275) :: st)) : V Y X M pc L (.ref (Y.2.2.2 270) :: st) :=
  v_get hX (C := RX7) (T := TX7) (N := 15) (ci := 7) (fs := [.ref (Y.2.2.2 271), .ref (Y.2.2.2 272), .ref (Y.2.2.2 273), .ref (Y.2.2.2 274), .int ((M.1 270) 4), .ref (Y.2.2.2 275), .int ((M.1 270) 6), .ref (Y.2.2.2 276), .ref (Y.2.2.2 277), .ref (Y.2.2.2 278), .ref (Y.2.2.2 279), .ref (Y.2.2.2 280), .int ((M.1 270) 12), .int ((M.1 270) 13), .int ((M.1 270) 14)]) (by decide) rfl rfl inX7 5 (by decide) hlink rfl rfl ix hd kk
theorem gN_7_5 (hX : vOK Y X ins nL own rm ret) {index : Nat} {host : String} (ix : Nat) (hlink : (own, index, "PointAnswersModel", "pad", "[C", host) ∈ nF) (hd : gi ins ix = some (pc, .getfield index, 3)) (kk : V Y X M (pc + 3) L (.ref (Y.2.2.2 275) :: st)) : V Y X M pc L (.ref (Y.2.2.2 270) :: st) :=
  v_getN hX (C := RX7) (T := TX7) (N := 15) (ci := 7) (fs := [.ref (Y.2.2.2 271), .ref (Y.2.2.2 272), .ref (Y.2.2.2 273), .ref (Y.2.2.2 274), .int ((M.1 270) 4), .ref (Y.2.2.2 275), .int ((M.1 270) 6), .ref (Y.2.2.2 276), .ref (Y.2.2.2 277), .ref (Y.2.2.2 278), .ref (Y.2.2.2 279), .ref (Y.2.2.2 280), .int ((M.1 270) 12), .int ((M.1 270) 13), .int ((M.1 270) 14)]) (by decide) rfl rfl inX7 5 (by decide) hlink rfl rfl ix hd kk
theorem g_7_6 (hX : vOK Y X ins nL own rm ret) {index : Nat} (ix : Nat) (hlink : Cond.fieldLink own index "PointAnswersModel" "typed" "I" ∈ wT) (hd : gi ins ix = some (pc, .getfield index, 3)) (kk : V Y X M (pc + 3) L (.int (M.1 270 6) :: st)) : V Y X M pc L (.ref (Y.2.2.2 270) :: st) :=
  v_get hX (C := RX7) (T := TX7) (N := 15) (ci := 7) (fs := [.ref (Y.2.2.2 271), .ref (Y.2.2.2 272), .ref (Y.2.2.2 273), .ref (Y.2.2.2 274), .int ((M.1 270) 4), .ref (Y.2.2.2 275), .int ((M.1 270) 6), .ref (Y.2.2.2 276), .ref (Y.2.2.2 277), .ref (Y.2.2.2 278), .ref (Y.2.2.2 279), .ref (Y.2.2.2 280), .int ((M.1 270) 12), .int ((M.1 270) 13), .int ((M.1 270) 14)]) (by decide) rfl rfl inX7 6 (by decide) hlink rfl rfl ix hd kk
theorem p_7_6 (hX : vOK Y X ins nL own rm ret) {index : Nat} {x : Int32} (ix : Nat) (hlink : Cond.fieldLink own index "PointAnswersModel" "typed" "I" ∈ wT) (hd : gi ins ix = some (pc, .putfield index, 3)) (kk : V Y X (mset M 270 6 x) (pc + 3) L st) : V Y X M pc L (.int x :: .ref (Y.2.2.2 270) :: st) :=
  v_put hX (C := RX7) (T := TX7) (N := 15) (ci := 7) (fs := [.ref (Y.2.2.2 271), .ref (Y.2.2.2 272), .ref (Y.2.2.2 273), .ref (Y.2.2.2 274), .int ((M.1 270) 4), .ref (Y.2.2.2 275), .int ((M.1 270) 6), .ref (Y.2.2.2 276), .ref (Y.2.2.2 277), .ref (Y.2.2.2 278), .ref (Y.2.2.2 279), .ref (Y.2.2.2 280), .int ((M.1 270) 12), .int ((M.1 270) 13), .int ((M.1 270) 14)]) (by decide) rfl rfl inX7 tyX7 tyX7_ok nmX7 6 (by decide) hlink rfl rfl rfl rfl (Nat.le_of_ble_eq_true rfl) rfl ix hd kk
theorem gN_7_6 (hX : vOK Y X ins nL own rm ret) {index : Nat} {host : String} (ix : Nat) (hlink : (own, index, "PointAnswersModel", "typed", "I", host) ∈ nF) (hd : gi ins ix = some (pc, .getfield index, 3)) (kk : V Y X M (pc + 3) L (.int (M.1 270 6) :: st)) : V Y X M pc L (.ref (Y.2.2.2 270) :: st) :=
  v_getN hX (C := RX7) (T := TX7) (N := 15) (ci := 7) (fs := [.ref (Y.2.2.2 271), .ref (Y.2.2.2 272), .ref (Y.2.2.2 273), .ref (Y.2.2.2 274), .int ((M.1 270) 4), .ref (Y.2.2.2 275), .int ((M.1 270) 6), .ref (Y.2.2.2 276), .ref (Y.2.2.2 277), .ref (Y.2.2.2 278), .ref (Y.2.2.2 279), .ref (Y.2.2.2 280), .int ((M.1 270) 12), .int ((M.1 270) 13), .int ((M.1 270) 14)]) (by decide) rfl rfl inX7 6 (by decide) hlink rfl rfl ix hd kk
theorem pN_7_6 (hX : vOK Y X ins nL own rm ret) {index : Nat} {x : Int32} {host : String} (ix : Nat) (hlink : (own, index, "PointAnswersModel", "typed", "I", host) ∈ nF) (hd : gi ins ix = some (pc, .putfield index, 3)) (kk : V Y X (mset M 270 6 x) (pc + 3) L st) : V Y X M pc L (.int x :: .ref (Y.2.2.2 270) :: st) :=
  v_putN hX (C := RX7) (T := TX7) (N := 15) (ci := 7) (fs := [.ref (Y.2.2.2 271), .ref (Y.2.2.2 272), .ref (Y.2.2.2 273), .ref (Y.2.2.2 274), .int ((M.1 270) 4), .ref (Y.2.2.2 275), .int ((M.1 270) 6), .ref (Y.2.2.2 276), .ref (Y.2.2.2 277), .ref (Y.2.2.2 278), .ref (Y.2.2.2 279), .ref (Y.2.2.2 280), .int ((M.1 270) 12), .int ((M.1 270) 13), .int ((M.1 270) 14)]) (by decide) rfl rfl inX7 tyX7 tyX7_ok nmX7 6 (by decide) hlink rfl rfl rfl rfl (Nat.le_of_ble_eq_true rfl) rfl ix hd kk
theorem g_7_7 (hX : vOK Y X ins nL own rm ret) {index : Nat} (ix : Nat) (hlink : Cond.fieldLink own index "PointAnswersModel" "why" "[I" ∈ wT) (hd : gi ins ix = some (pc, .getfield index, 3)) (kk : V Y X M (pc + 3) L (.ref (Y.2.2.2 276) :: st)) : V Y X M pc L (.ref (Y.2.2.2 270) :: st) :=
  v_get hX (C := RX7) (T := TX7) (N := 15) (ci := 7) (fs := [.ref (Y.2.2.2 271), .ref (Y.2.2.2 272), .ref (Y.2.2.2 273), .ref (Y.2.2.2 274), .int ((M.1 270) 4), .ref (Y.2.2.2 275), .int ((M.1 270) 6), .ref (Y.2.2.2 276), .ref (Y.2.2.2 277), .ref (Y.2.2.2 278), .ref (Y.2.2.2 279), .ref (Y.2.2.2 280), .int ((M.1 270) 12), .int ((M.1 270) 13), .int ((M.1 270) 14)]) (by decide) rfl rfl inX7 7 (by decide) hlink rfl rfl ix hd kk
theorem gN_7_7 (hX : vOK Y X ins nL own rm ret) {index : Nat} {host : String} (ix : Nat) (hlink : (own, index, "PointAnswersModel", "why", "[I", host) ∈ nF) (hd : gi ins ix = some (pc, .getfield index, 3)) (kk : V Y X M (pc + 3) L (.ref (Y.2.2.2 276) :: st)) : V Y X M pc L (.ref (Y.2.2.2 270) :: st) :=
  v_getN hX (C := RX7) (T := TX7) (N := 15) (ci := 7) (fs := [.ref (Y.2.2.2 271), .ref (Y.2.2.2 272), .ref (Y.2.2.2 273), .ref (Y.2.2.2 274), .int ((M.1 270) 4), .ref (Y.2.2.2 275), .int ((M.1 270) 6), .ref (Y.2.2.2 276), .ref (Y.2.2.2 277), .ref (Y.2.2.2 278), .ref (Y.2.2.2 279), .ref (Y.2.2.2 280), .int ((M.1 270) 12), .int ((M.1 270) 13), .int ((M.1 270) 14)]) (by decide) rfl rfl inX7 7 (by decide) hlink rfl rfl ix hd kk
theorem g_7_8 (hX : vOK Y X ins nL own rm ret) {index : Nat} (ix : Nat) (hlink : Cond.fieldLink own index "PointAnswersModel" "taken" "[I" ∈ wT) (hd : gi ins ix = some (pc, .getfield index, 3)) (kk : V Y X M (pc + 3) L (.ref (Y.2.2.2 277) :: st)) : V Y X M pc L (.ref (Y.2.2.2 270) :: st) :=
  v_get hX (C := RX7) (T := TX7) (N := 15) (ci := 7) (fs := [.ref (Y.2.2.2 271), .ref (Y.2.2.2 272), .ref (Y.2.2.2 273), .ref (Y.2.2.2 274), .int ((M.1 270) 4), .ref (Y.2.2.2 275), .int ((M.1 270) 6), .ref (Y.2.2.2 276), .ref (Y.2.2.2 277), .ref (Y.2.2.2 278), .ref (Y.2.2.2 279), .ref (Y.2.2.2 280), .int ((M.1 270) 12), .int ((M.1 270) 13), .int ((M.1 270) 14)]) (by decide) rfl rfl inX7 8 (by decide) hlink rfl rfl ix hd kk
theorem gN_7_8 (hX : vOK Y X ins nL own rm ret) {index : Nat} {host : String} (ix : Nat) (hlink : (own, index, "PointAnswersModel", "taken", "[I", host) ∈ nF) (hd : gi ins ix = some (pc, .getfield index, 3)) (kk : V Y X M (pc + 3) L (.ref (Y.2.2.2 277) :: st)) : V Y X M pc L (.ref (Y.2.2.2 270) :: st) :=
  v_getN hX (C := RX7) (T := TX7) (N := 15) (ci := 7) (fs := [.ref (Y.2.2.2 271), .ref (Y.2.2.2 272), .ref (Y.2.2.2 273), .ref (Y.2.2.2 274), .int ((M.1 270) 4), .ref (Y.2.2.2 275), .int ((M.1 270) 6), .ref (Y.2.2.2 276), .ref (Y.2.2.2 277), .ref (Y.2.2.2 278), .ref (Y.2.2.2 279), .ref (Y.2.2.2 280), .int ((M.1 270) 12), .int ((M.1 270) 13), .int ((M.1 270) 14)]) (by decide) rfl rfl inX7 8 (by decide) hlink rfl rfl ix hd kk
theorem g_7_9 (hX : vOK Y X ins nL own rm ret) {index : Nat} (ix : Nat) (hlink : Cond.fieldLink own index "PointAnswersModel" "stands" "[I" ∈ wT) (hd : gi ins ix = some (pc, .getfield index, 3)) (kk : V Y X M (pc + 3) L (.ref (Y.2.2.2 278) :: st)) : V Y X M pc L (.ref (Y.2.2.2 270) :: st) :=
  v_get hX (C := RX7) (T := TX7) (N := 15) (ci := 7) (fs := [.ref (Y.2.2.2 271), .ref (Y.2.2.2 272), .ref (Y.2.2.2 273), .ref (Y.2.2.2 274), .int ((M.1 270) 4), .ref (Y.2.2.2 275), .int ((M.1 270) 6), .ref (Y.2.2.2 276), .ref (Y.2.2.2 277), .ref (Y.2.2.2 278), .ref (Y.2.2.2 279), .ref (Y.2.2.2 280), .int ((M.1 270) 12), .int ((M.1 270) 13), .int ((M.1 270) 14)]) (by decide) rfl rfl inX7 9 (by decide) hlink rfl rfl ix hd kk
theorem gN_7_9 (hX : vOK Y X ins nL own rm ret) {index : Nat} {host : String} (ix : Nat) (hlink : (own, index, "PointAnswersModel", "stands", "[I", host) ∈ nF) (hd : gi ins ix = some (pc, .getfield index, 3)) (kk : V Y X M (pc + 3) L (.ref (Y.2.2.2 278) :: st)) : V Y X M pc L (.ref (Y.2.2.2 270) :: st) :=
  v_getN hX (C := RX7) (T := TX7) (N := 15) (ci := 7) (fs := [.ref (Y.2.2.2 271), .ref (Y.2.2.2 272), .ref (Y.2.2.2 273), .ref (Y.2.2.2 274), .int ((M.1 270) 4), .ref (Y.2.2.2 275), .int ((M.1 270) 6), .ref (Y.2.2.2 276), .ref (Y.2.2.2 277), .ref (Y.2.2.2 278), .ref (Y.2.2.2 279), .ref (Y.2.2.2 280), .int ((M.1 270) 12), .int ((M.1 270) 13), .int ((M.1 270) 14)]) (by decide) rfl rfl inX7 9 (by decide) hlink rfl rfl ix hd kk
theorem g_7_10 (hX : vOK Y X ins nL own rm ret) {index : Nat} (ix : Nat) (hlink : Cond.fieldLink own index "PointAnswersModel" "falls" "[I" ∈ wT) (hd : gi ins ix = some (pc, .getfield index, 3)) (kk : V Y X M (pc + 3) L (.ref (Y.2.2.2 279) :: st)) : V Y X M pc L (.ref (Y.2.2.2 270) :: st) :=
  v_get hX (C := RX7) (T := TX7) (N := 15) (ci := 7) (fs := [.ref (Y.2.2.2 271), .ref (Y.2.2.2 272), .ref (Y.2.2.2 273), .ref (Y.2.2.2 274), .int ((M.1 270) 4), .ref (Y.2.2.2 275), .int ((M.1 270) 6), .ref (Y.2.2.2 276), .ref (Y.2.2.2 277), .ref (Y.2.2.2 278), .ref (Y.2.2.2 279), .ref (Y.2.2.2 280), .int ((M.1 270) 12), .int ((M.1 270) 13), .int ((M.1 270) 14)]) (by decide) rfl rfl inX7 10 (by decide) hlink rfl rfl ix hd kk
theorem gN_7_10 (hX : vOK Y X ins nL own rm ret) {index : Nat} {host : String} (ix : Nat) (hlink : (own, index, "PointAnswersModel", "falls", "[I", host) ∈ nF) (hd : gi ins ix = some (pc, .getfield index, 3)) (kk : V Y X M (pc + 3) L (.ref (Y.2.2.2 279) :: st)) : V Y X M pc L (.ref (Y.2.2.2 270) :: st) :=
  v_getN hX (C := RX7) (T := TX7) (N := 15) (ci := 7) (fs := [.ref (Y.2.2.2 271), .ref (Y.2.2.2 272), .ref (Y.2.2.2 273), .ref (Y.2.2.2 274), .int ((M.1 270) 4), .ref (Y.2.2.2 275), .int ((M.1 270) 6), .ref (Y.2.2.2 276), .ref (Y.2.2.2 277), .ref (Y.2.2.2 278), .ref (Y.2.2.2 279), .ref (Y.2.2.2 280), .int ((M.1 270) 12), .int ((M.1 270) 13), .int ((M.1 270) 14)]) (by decide) rfl rfl inX7 10 (by decide) hlink rfl rfl ix hd kk
theorem g_7_11 (hX : vOK Y X ins nL own rm ret) {index : Nat} (ix : Nat) (hlink : Cond.fieldLink own index "PointAnswersModel" "orders" "[I" ∈ wT) (hd : gi ins ix = some (pc, .getfield index, 3)) (kk : V Y X M (pc + 3) L (.ref (Y.2.2.2 280) :: st)) : V Y X M pc L (.ref (Y.2.2.2 270) :: st) :=
  v_get hX (C := RX7) (T := TX7) (N := 15) (ci := 7) (fs := [.ref (Y.2.2.2 271), .ref (Y.2.2.2 272), .ref (Y.2.2.2 273), .ref (Y.2.2.2 274), .int ((M.1 270) 4), .ref (Y.2.2.2 275), .int ((M.1 270) 6), .ref (Y.2.2.2 276), .ref (Y.2.2.2 277), .ref (Y.2.2.2 278), .ref (Y.2.2.2 279), .ref (Y.2.2.2 280), .int ((M.1 270) 12), .int ((M.1 270) 13), .int ((M.1 270) 14)]) (by decide) rfl rfl inX7 11 (by decide) hlink rfl rfl ix hd kk
theorem gN_7_11 (hX : vOK Y X ins nL own rm ret) {index : Nat} {host : String} (ix : Nat) (hlink : (own, index, "PointAnswersModel", "orders", "[I", host) ∈ nF) (hd : gi ins ix = some (pc, .getfield index, 3)) (kk : V Y X M (pc + 3) L (.ref (Y.2.2.2 280) :: st)) : V Y X M pc L (.ref (Y.2.2.2 270) :: st) :=
  v_getN hX (C := RX7) (T := TX7) (N := 15) (ci := 7) (fs := [.ref (Y.2.2.2 271), .ref (Y.2.2.2 272), .ref (Y.2.2.2 273), .ref (Y.2.2.2 274), .int ((M.1 270) 4), .ref (Y.2.2.2 275), .int ((M.1 270) 6), .ref (Y.2.2.2 276), .ref (Y.2.2.2 277), .ref (Y.2.2.2 278), .ref (Y.2.2.2 279), .ref (Y.2.2.2 280), .int ((M.1 270) 12), .int ((M.1 270) 13), .int ((M.1 270) 14)]) (by decide) rfl rfl inX7 11 (by decide) hlink rfl rfl ix hd kk
theorem g_7_12 (hX : vOK Y X ins nL own rm ret) {index : Nat} (ix : Nat) (hlink : Cond.fieldLink own index "PointAnswersModel" "orderMany" "I" ∈ wT) (hd : gi ins ix = some (pc, .getfield index, 3)) (kk : V Y X M (pc + 3) L (.int (M.1 270 12) :: st)) : V Y X M pc L (.ref (Y.2.2.2 270) :: st) :=
  v_get hX (C := RX7) (T := TX7) (N := 15) (ci := 7) (fs := [.ref (Y.2.2.2 271), .ref (Y.2.2.2 272), .ref (Y.2.2.2 273), .ref (Y.2.2.2 274), .int ((M.1 270) 4), .ref (Y.2.2.2 275), .int ((M.1 270) 6), .ref (Y.2.2.2 276), .ref (Y.2.2.2 277), .ref (Y.2.2.2 278), .ref (Y.2.2.2 279), .ref (Y.2.2.2 280), .int ((M.1 270) 12), .int ((M.1 270) 13), .int ((M.1 270) 14)]) (by decide) rfl rfl inX7 12 (by decide) hlink rfl rfl ix hd kk
theorem p_7_12 (hX : vOK Y X ins nL own rm ret) {index : Nat} {x : Int32} (ix : Nat) (hlink : Cond.fieldLink own index "PointAnswersModel" "orderMany" "I" ∈ wT) (hd : gi ins ix = some (pc, .putfield index, 3)) (kk : V Y X (mset M 270 12 x) (pc + 3) L st) : V Y X M pc L (.int x :: .ref (Y.2.2.2 270) :: st) :=
  v_put hX (C := RX7) (T := TX7) (N := 15) (ci := 7) (fs := [.ref (Y.2.2.2 271), .ref (Y.2.2.2 272), .ref (Y.2.2.2 273), .ref (Y.2.2.2 274), .int ((M.1 270) 4), .ref (Y.2.2.2 275), .int ((M.1 270) 6), .ref (Y.2.2.2 276), .ref (Y.2.2.2 277), .ref (Y.2.2.2 278), .ref (Y.2.2.2 279), .ref (Y.2.2.2 280), .int ((M.1 270) 12), .int ((M.1 270) 13), .int ((M.1 270) 14)]) (by decide) rfl rfl inX7 tyX7 tyX7_ok nmX7 12 (by decide) hlink rfl rfl rfl rfl (Nat.le_of_ble_eq_true rfl) rfl ix hd kk
theorem gN_7_12 (hX : vOK Y X ins nL own rm ret) {index : Nat} {host : String} (ix : Nat) (hlink : (own, index, "PointAnswersModel", "orderMany", "I", host) ∈ nF) (hd : gi ins ix = some (pc, .getfield index, 3)) (kk : V Y X M (pc + 3) L (.int (M.1 270 12) :: st)) : V Y X M pc L (.ref (Y.2.2.2 270) :: st) :=
  v_getN hX (C := RX7) (T := TX7) (N := 15) (ci := 7) (fs := [.ref (Y.2.2.2 271), .ref (Y.2.2.2 272), .ref (Y.2.2.2 273), .ref (Y.2.2.2 274), .int ((M.1 270) 4), .ref (Y.2.2.2 275), .int ((M.1 270) 6), .ref (Y.2.2.2 276), .ref (Y.2.2.2 277), .ref (Y.2.2.2 278), .ref (Y.2.2.2 279), .ref (Y.2.2.2 280), .int ((M.1 270) 12), .int ((M.1 270) 13), .int ((M.1 270) 14)]) (by decide) rfl rfl inX7 12 (by decide) hlink rfl rfl ix hd kk
theorem pN_7_12 (hX : vOK Y X ins nL own rm ret) {index : Nat} {x : Int32} {host : String} (ix : Nat) (hlink : (own, index, "PointAnswersModel", "orderMany", "I", host) ∈ nF) (hd : gi ins ix = some (pc, .putfield index, 3)) (kk : V Y X (mset M 270 12 x) (pc + 3) L st) : V Y X M pc L (.int x :: .ref (Y.2.2.2 270) :: st) :=
  v_putN hX (C := RX7) (T := TX7) (N := 15) (ci := 7) (fs := [.ref (Y.2.2.2 271), .ref (Y.2.2.2 272), .ref (Y.2.2.2 273), .ref (Y.2.2.2 274), .int ((M.1 270) 4), .ref (Y.2.2.2 275), .int ((M.1 270) 6), .ref (Y.2.2.2 276), .ref (Y.2.2.2 277), .ref (Y.2.2.2 278), .ref (Y.2.2.2 279), .ref (Y.2.2.2 280), .int ((M.1 270) 12), .int ((M.1 270) 13), .int ((M.1 270) 14)]) (by decide) rfl rfl inX7 tyX7 tyX7_ok nmX7 12 (by decide) hlink rfl rfl rfl rfl (Nat.le_of_ble_eq_true rfl) rfl ix hd kk
theorem g_7_13 (hX : vOK Y X ins nL own rm ret) {index : Nat} (ix : Nat) (hlink : Cond.fieldLink own index "PointAnswersModel" "spot" "I" ∈ wT) (hd : gi ins ix = some (pc, .getfield index, 3)) (kk : V Y X M (pc + 3) L (.int (M.1 270 13) :: st)) : V Y X M pc L (.ref (Y.2.2.2 270) :: st) :=
  v_get hX (C := RX7) (T := TX7) (N := 15) (ci := 7) (fs := [.ref (Y.2.2.2 271), .ref (Y.2.2.2 272), .ref (Y.2.2.2 273), .ref (Y.2.2.2 274), .int ((M.1 270) 4), .ref (Y.2.2.2 275), .int ((M.1 270) 6), .ref (Y.2.2.2 276), .ref (Y.2.2.2 277), .ref (Y.2.2.2 278), .ref (Y.2.2.2 279), .ref (Y.2.2.2 280), .int ((M.1 270) 12), .int ((M.1 270) 13), .int ((M.1 270) 14)]) (by decide) rfl rfl inX7 13 (by decide) hlink rfl rfl ix hd kk
theorem p_7_13 (hX : vOK Y X ins nL own rm ret) {index : Nat} {x : Int32} (ix : Nat) (hlink : Cond.fieldLink own index "PointAnswersModel" "spot" "I" ∈ wT) (hd : gi ins ix = some (pc, .putfield index, 3)) (kk : V Y X (mset M 270 13 x) (pc + 3) L st) : V Y X M pc L (.int x :: .ref (Y.2.2.2 270) :: st) :=
  v_put hX (C := RX7) (T := TX7) (N := 15) (ci := 7) (fs := [.ref (Y.2.2.2 271), .ref (Y.2.2.2 272), .ref (Y.2.2.2 273), .ref (Y.2.2.2 274), .int ((M.1 270) 4), .ref (Y.2.2.2 275), .int ((M.1 270) 6), .ref (Y.2.2.2 276), .ref (Y.2.2.2 277), .ref (Y.2.2.2 278), .ref (Y.2.2.2 279), .ref (Y.2.2.2 280), .int ((M.1 270) 12), .int ((M.1 270) 13), .int ((M.1 270) 14)]) (by decide) rfl rfl inX7 tyX7 tyX7_ok nmX7 13 (by decide) hlink rfl rfl rfl rfl (Nat.le_of_ble_eq_true rfl) rfl ix hd kk
theorem gN_7_13 (hX : vOK Y X ins nL own rm ret) {index : Nat} {host : String} (ix : Nat) (hlink : (own, index, "PointAnswersModel", "spot", "I", host) ∈ nF) (hd : gi ins ix = some (pc, .getfield index, 3)) (kk : V Y X M (pc + 3) L (.int (M.1 270 13) :: st)) : V Y X M pc L (.ref (Y.2.2.2 270) :: st) :=
  v_getN hX (C := RX7) (T := TX7) (N := 15) (ci := 7) (fs := [.ref (Y.2.2.2 271), .ref (Y.2.2.2 272), .ref (Y.2.2.2 273), .ref (Y.2.2.2 274), .int ((M.1 270) 4), .ref (Y.2.2.2 275), .int ((M.1 270) 6), .ref (Y.2.2.2 276), .ref (Y.2.2.2 277), .ref (Y.2.2.2 278), .ref (Y.2.2.2 279), .ref (Y.2.2.2 280), .int ((M.1 270) 12), .int ((M.1 270) 13), .int ((M.1 270) 14)]) (by decide) rfl rfl inX7 13 (by decide) hlink rfl rfl ix hd kk
theorem pN_7_13 (hX : vOK Y X ins nL own rm ret) {index : Nat} {x : Int32} {host : String} (ix : Nat) (hlink : (own, index, "PointAnswersModel", "spot", "I", host) ∈ nF) (hd : gi ins ix = some (pc, .putfield index, 3)) (kk : V Y X (mset M 270 13 x) (pc + 3) L st) : V Y X M pc L (.int x :: .ref (Y.2.2.2 270) :: st) :=
  v_putN hX (C := RX7) (T := TX7) (N := 15) (ci := 7) (fs := [.ref (Y.2.2.2 271), .ref (Y.2.2.2 272), .ref (Y.2.2.2 273), .ref (Y.2.2.2 274), .int ((M.1 270) 4), .ref (Y.2.2.2 275), .int ((M.1 270) 6), .ref (Y.2.2.2 276), .ref (Y.2.2.2 277), .ref (Y.2.2.2 278), .ref (Y.2.2.2 279), .ref (Y.2.2.2 280), .int ((M.1 270) 12), .int ((M.1 270) 13), .int ((M.1 270) 14)]) (by decide) rfl rfl inX7 tyX7 tyX7_ok nmX7 13 (by decide) hlink rfl rfl rfl rfl (Nat.le_of_ble_eq_true rfl) rfl ix hd kk
theorem g_7_14 (hX : vOK Y X ins nL own rm ret) {index : Nat} (ix : Nat) (hlink : Cond.fieldLink own index "PointAnswersModel" "wrong" "I" ∈ wT) (hd : gi ins ix = some (pc, .getfield index, 3)) (kk : V Y X M (pc + 3) L (.int (M.1 270 14) :: st)) : V Y X M pc L (.ref (Y.2.2.2 270) :: st) :=
  v_get hX (C := RX7) (T := TX7) (N := 15) (ci := 7) (fs := [.ref (Y.2.2.2 271), .ref (Y.2.2.2 272), .ref (Y.2.2.2 273), .ref (Y.2.2.2 274), .int ((M.1 270) 4), .ref (Y.2.2.2 275), .int ((M.1 270) 6), .ref (Y.2.2.2 276), .ref (Y.2.2.2 277), .ref (Y.2.2.2 278), .ref (Y.2.2.2 279), .ref (Y.2.2.2 280), .int ((M.1 270) 12), .int ((M.1 270) 13), .int ((M.1 270) 14)]) (by decide) rfl rfl inX7 14 (by decide) hlink rfl rfl ix hd kk
theorem p_7_14 (hX : vOK Y X ins nL own rm ret) {index : Nat} {x : Int32} (ix : Nat) (hlink : Cond.fieldLink own index "PointAnswersModel" "wrong" "I" ∈ wT) (hd : gi ins ix = some (pc, .putfield index, 3)) (kk : V Y X (mset M 270 14 x) (pc + 3) L st) : V Y X M pc L (.int x :: .ref (Y.2.2.2 270) :: st) :=
  v_put hX (C := RX7) (T := TX7) (N := 15) (ci := 7) (fs := [.ref (Y.2.2.2 271), .ref (Y.2.2.2 272), .ref (Y.2.2.2 273), .ref (Y.2.2.2 274), .int ((M.1 270) 4), .ref (Y.2.2.2 275), .int ((M.1 270) 6), .ref (Y.2.2.2 276), .ref (Y.2.2.2 277), .ref (Y.2.2.2 278), .ref (Y.2.2.2 279), .ref (Y.2.2.2 280), .int ((M.1 270) 12), .int ((M.1 270) 13), .int ((M.1 270) 14)]) (by decide) rfl rfl inX7 tyX7 tyX7_ok nmX7 14 (by decide) hlink rfl rfl rfl rfl (Nat.le_of_ble_eq_true rfl) rfl ix hd kk
theorem gN_7_14 (hX : vOK Y X ins nL own rm ret) {index : Nat} {host : String} (ix : Nat) (hlink : (own, index, "PointAnswersModel", "wrong", "I", host) ∈ nF) (hd : gi ins ix = some (pc, .getfield index, 3)) (kk : V Y X M (pc + 3) L (.int (M.1 270 14) :: st)) : V Y X M pc L (.ref (Y.2.2.2 270) :: st) :=
  v_getN hX (C := RX7) (T := TX7) (N := 15) (ci := 7) (fs := [.ref (Y.2.2.2 271), .ref (Y.2.2.2 272), .ref (Y.2.2.2 273), .ref (Y.2.2.2 274), .int ((M.1 270) 4), .ref (Y.2.2.2 275), .int ((M.1 270) 6), .ref (Y.2.2.2 276), .ref (Y.2.2.2 277), .ref (Y.2.2.2 278), .ref (Y.2.2.2 279), .ref (Y.2.2.2 280), .int ((M.1 270) 12), .int ((M.1 270) 13), .int ((M.1 270) 14)]) (by decide) rfl rfl inX7 14 (by decide) hlink rfl rfl ix hd kk
theorem pN_7_14 (hX : vOK Y X ins nL own rm ret) {index : Nat} {x : Int32} {host : String} (ix : Nat) (hlink : (own, index, "PointAnswersModel", "wrong", "I", host) ∈ nF) (hd : gi ins ix = some (pc, .putfield index, 3)) (kk : V Y X (mset M 270 14 x) (pc + 3) L st) : V Y X M pc L (.int x :: .ref (Y.2.2.2 270) :: st) :=
  v_putN hX (C := RX7) (T := TX7) (N := 15) (ci := 7) (fs := [.ref (Y.2.2.2 271), .ref (Y.2.2.2 272), .ref (Y.2.2.2 273), .ref (Y.2.2.2 274), .int ((M.1 270) 4), .ref (Y.2.2.2 275), .int ((M.1 270) 6), .ref (Y.2.2.2 276), .ref (Y.2.2.2 277), .ref (Y.2.2.2 278), .ref (Y.2.2.2 279), .ref (Y.2.2.2 280), .int ((M.1 270) 12), .int ((M.1 270) 13), .int ((M.1 270) 14)]) (by decide) rfl rfl inX7 tyX7 tyX7_ok nmX7 14 (by decide) hlink rfl rfl rfl rfl (Nat.le_of_ble_eq_true rfl) rfl ix hd kk
end VF
end
section
theorem cG_h {cy : Nat → ClassId} {ad : Nat → Nat} {h h' : Nat → Nat} {r : Nat → Int32} {k : Nat} (hk : k ≠ 34) : cG cy ad h r k = cG cy ad h' r k := by
  unfold cG cG1
  simp only [if_neg hk]
theorem wl_mhis {cy : Nat → ClassId} {ad : Nat → Nat} {M : Mm} {j b : Nat} : (wl cy ad M).set 34 (ad 34, .inl (cy 3, 7, .inr (.inr (.inr (.inr (va_up (fun j => some (ad (M.2 j))) j (some (ad b)))))))) = wl cy ad (mhis M (va_up M.2 j b)) := by
  have e : (va_up (fun j => some (ad (M.2 j))) j (some (ad b))) = fun i => some (ad (va_up M.2 j b i)) := by
    funext i
    unfold va_up
    by_cases h : i = j
    · rw [if_pos h, if_pos h]
    · rw [if_neg h, if_neg h]
  rw [e]
  exact wl_set (k := 34) (M' := mhis M (va_up M.2 j b)) rfl (fun k' h => cG_h (r := M.1 k') h)
section VA
variable {Y : Yt} {X : XT} {M : Mm} {pc : Nat} {L : List (Option Value)} {st : List Value} {ins : List (Nat × Instr × Nat)} {nL : Nat} {own : String} {rm : Room} {ret : Option FieldType}
theorem v_aast34 (hX : vOK Y X ins nL own rm ret) {i : Int32} {b : Nat} (hb : isB b) (hin : vp_in i 7) (ix : Nat) (hd : gi ins ix = some (pc, .aastore, 1)) (kk : V Y X (mhis M (va_up M.2 i.toNatClampNeg b)) (pc + 1) L st) : V Y X M pc L (.ref (Y.2.2.2 b) :: .int i :: .ref (Y.2.2.2 34) :: st) := by
  obtain ⟨l, D, cy, ad⟩ := Y
  obtain ⟨p, e, R, s, m, args, below, meth, c, cells, slots, Q, A⟩ := X
  obtain ⟨hx, hcd, hml, hts, hown, hK, ⟨hdd, hda⟩, hN, rfl, hret, hlk, hcl, hsl⟩ := hX
  intro H locs ls hP hS hl
  have hd2 := hcd ix _ hd
  have ha : (wl cy ad M)[34]? = some (ad 34, .inl (cy 3, 7, .inr (.inr (.inr (.inr (fun j => some (ad (M.2 j)))))))) := wl_get (by decide) rfl
  have hv : (wl cy ad M)[b]? = some (ad b, _) := wl_get (by have := isB_lt hb; omega) (cG_B hb)
  refine va_astq (D := D) (cl := vwCl) (ws := wl cy ad M) (tys := tq cy) (r := (RX0, TX0, 6)) hx rfl hK hP (wl_D hdd hda M) hS 34 3 b 0 ha rfl hv rfl hin hd2 (fun H1 locs1 hP1 _ hS1 => ?_)
  rw [wl_mhis] at hP1
  exact kk H1 locs1 ls hP1 hS1 hl
end VA
end
section
theorem upTo {P : Nat → Prop} (N : Nat) (step : ∀ n, n ≤ N → (n < N → P (n + 1)) → P n) : ∀ n, n ≤ N → P n := by
  have h : ∀ d n, n + d = N → P n := by
    intro d
    induction d with
    | zero => intro n hn; exact step n (by omega) (fun h => absurd h (by omega))
    | succ d ih => intro n hn; exact step n (by omega) (fun _ => ih (n + 1) (by omega))
  exact fun n hn => h (N - n) n (by omega)
theorem downTo {P : Nat → Prop} (step : ∀ n, (∀ m, m < n → P m) → P n) : ∀ n, P n := fun n => Nat.strongRecOn n step
theorem nI_inc (n : Nat) : nI n + Int32.ofInt 1 = nI (n + 1) := nI_1 n
theorem nI_dec (n : Nat) : nI (n + 1) + Int32.ofInt (-1) = nI n := by
  rw [nI_succ]
  have e : Int32.ofInt (-1) = -1 := by decide
  rw [e, Int32.add_assoc]
  have e2 : (1 : Int32) + -1 = 0 := by decide
  rw [e2, Int32.add_zero]
def mk (p : Nat → Bool) : Nat → Int32
  | 0 => 0
  | n + 1 => if p n = true then mk p n ||| ((1 : Int32) <<< (nI n &&& 31)) else mk p n
theorem mk_t {p : Nat → Bool} {n : Nat} (h : p n = true) : mk p n ||| ((1 : Int32) <<< (nI n &&& 31)) = mk p (n + 1) := by rw [mk, if_pos h]
theorem mk_f {p : Nat → Bool} {n : Nat} (h : p n = false) : mk p n = mk p (n + 1) := by rw [mk, if_neg (by rw [h]; decide)]
theorem of_le {a k : Nat} (h : nI a ≤ nI k) (ha : a < 2 ^ 31) (hk : k < 2 ^ 31) : a ≤ k := (nI_leI ha hk).mp h
theorem of_nle {a k : Nat} (h : ¬ nI a ≤ nI k) (ha : a < 2 ^ 31) (hk : k < 2 ^ 31) : k < a := Nat.lt_of_not_le (fun q => h ((nI_leI ha hk).mpr q))
theorem of_lt {a k : Nat} (h : nI a < nI k) (ha : a < 2 ^ 31) (hk : k < 2 ^ 31) : a < k := (nI_ltI ha hk).mp h
theorem of_nlt {a k : Nat} (h : ¬ nI a < nI k) (ha : a < 2 ^ 31) (hk : k < 2 ^ 31) : k ≤ a := Nat.le_of_not_lt (fun q => h ((nI_ltI ha hk).mpr q))
def bt (x : Int32) (i : Nat) : Bool := x.toBitVec.getLsbD i
theorem b_ext {x y : Int32} (h : ∀ i, i < 32 → bt x i = bt y i) : x = y := Int32.toBitVec_inj.mp (BitVec.eq_of_getLsbD_eq (fun i hi => h i hi))
theorem b_or (x y : Int32) (i : Nat) : bt (x ||| y) i = (bt x i || bt y i) := by unfold bt; rw [Int32.toBitVec_or, BitVec.getLsbD_or]
theorem b_and (x y : Int32) (i : Nat) : bt (x &&& y) i = (bt x i && bt y i) := by unfold bt; rw [Int32.toBitVec_and, BitVec.getLsbD_and]
theorem b_xor (x y : Int32) (i : Nat) : bt (x ^^^ y) i = (bt x i ^^ bt y i) := by unfold bt; rw [Int32.toBitVec_xor, BitVec.getLsbD_xor]
theorem b_big {x : Int32} {i : Nat} (h : 32 ≤ i) : bt x i = false := BitVec.getLsbD_of_ge _ _ h
theorem b_255 (i : Nat) : bt 255 i = decide (i < 8) := by
  rcases Nat.lt_or_ge i 32 with h | h
  · exact (by decide +kernel : ∀ i, i < 32 → bt 255 i = decide (i < 8)) i h
  · rw [b_big h, decide_eq_false (by omega)]
theorem b_65535 (i : Nat) : bt 65535 i = decide (i < 16) := by
  rcases Nat.lt_or_ge i 32 with h | h
  · exact (by decide +kernel : ∀ i, i < 32 → bt 65535 i = decide (i < 16)) i h
  · rw [b_big h, decide_eq_false (by omega)]
theorem b_m1 : ∀ i, i < 32 → bt (-1) i = true := by decide +kernel
theorem b_0 (i : Nat) : bt 0 i = false := BitVec.getLsbD_zero
theorem s_l : ∀ n, n < 32 → ((nI n &&& 31).toBitVec.smod 32).toNat = n := by decide +kernel
theorem s_u : ∀ n, n < 32 → (((nI n).toUInt32 &&& Int32.toUInt32 31).toBitVec % 32).toNat = n := by decide +kernel
theorem b_shl (n : Nat) (hn : n < 32) (x : Int32) {i : Nat} (hi : i < 32) : bt (x <<< (nI n &&& 31)) i = (decide (n ≤ i) && bt x (i - n)) := by
  unfold bt
  rw [Int32.toBitVec_shiftLeft]
  show (x.toBitVec <<< ((nI n &&& 31).toBitVec.smod 32).toNat).getLsbD i = _
  rw [s_l n hn, BitVec.getLsbD_shiftLeft]
  rcases Nat.lt_or_ge i n with h | h
  · simp [h, Nat.not_le.mpr h]
  · simp [hi, h, Nat.not_lt.mpr h]
theorem b_ushr (n : Nat) (hn : n < 32) (x : Int32) (i : Nat) : bt ((x.toUInt32 >>> ((nI n).toUInt32 &&& Int32.toUInt32 31)).toInt32) i = bt x (n + i) := by
  show (x.toUInt32 >>> ((nI n).toUInt32 &&& Int32.toUInt32 31)).toBitVec.getLsbD i = x.toUInt32.toBitVec.getLsbD (n + i)
  rw [UInt32.toBitVec_shiftRight]
  show (x.toUInt32.toBitVec >>> (((nI n).toUInt32 &&& Int32.toUInt32 31).toBitVec % 32).toNat).getLsbD i = _
  rw [s_u n hn, BitVec.getLsbD_ushiftRight]
theorem b_sshr (n : Nat) (hn : n < 32) (x : Int32) {i : Nat} (hi : i < 32) : bt (x >>> (nI n &&& 31)) i = if n + i < 32 then bt x (n + i) else bt x 31 := by
  unfold bt
  rw [Int32.toBitVec_shiftRight]
  show (x.toBitVec.sshiftRight ((nI n &&& 31).toBitVec.smod 32).toNat).getLsbD i = _
  rw [s_l n hn, BitVec.getLsbD_sshiftRight, BitVec.msb_eq_getLsbD_last]
  simp [hi]
theorem b_shl8 (x : Int32) {i : Nat} (hi : i < 32) : bt (x <<< ((8 : Int32) &&& 31)) i = (decide (8 ≤ i) && bt x (i - 8)) := b_shl 8 (by omega) x hi
theorem b_shl16 (x : Int32) {i : Nat} (hi : i < 32) : bt (x <<< ((16 : Int32) &&& 31)) i = (decide (16 ≤ i) && bt x (i - 16)) := b_shl 16 (by omega) x hi
theorem b_shl24 (x : Int32) {i : Nat} (hi : i < 32) : bt (x <<< ((24 : Int32) &&& 31)) i = (decide (24 ≤ i) && bt x (i - 24)) := b_shl 24 (by omega) x hi
theorem b_sshr8 (x : Int32) {i : Nat} (hi : i < 32) : bt (x >>> ((8 : Int32) &&& 31)) i = if 8 + i < 32 then bt x (8 + i) else bt x 31 := b_sshr 8 (by omega) x hi
def mkF (x : Int32) (p : Nat → Bool) : Nat → Int32
  | 0 => x
  | n + 1 => if p n = true then mkF x p n ||| ((1 : Int32) <<< (nI n &&& 31)) else mkF x p n
theorem mkF_t {x : Int32} {p : Nat → Bool} {n : Nat} (h : p n = true) : mkF x p n ||| ((1 : Int32) <<< (nI n &&& 31)) = mkF x p (n + 1) := by rw [mkF, if_pos h]
theorem mkF_f {x : Int32} {p : Nat → Bool} {n : Nat} (h : p n = false) : mkF x p n = mkF x p (n + 1) := by rw [mkF, if_neg (by rw [h]; decide)]
theorem mk_F (p : Nat → Bool) (n : Nat) : mkF 0 p n = mk p n := by
  induction n with
  | zero => rfl
  | succ n ih => rw [mkF, mk, ih]
def cp (M : Mm) (b : Nat) : Nat → Nat → Int32 := fun i j => M.1 (b + 2 + i) j
def pWd (P : Nat → Nat → Int32) (i : Nat) : Bool := P i 6 != 0
def pCl (P : Nat → Nat → Int32) (i : Nat) : Bool := P i 3 == -6
def pTo (P : Nat → Nat → Int32) (t : Int32) (i : Nat) : Bool := P i 3 == t
def pSd (P : Nat → Nat → Int32) (s : Int32) (i : Nat) : Bool := P i 0 == s
def pLp (P : Nat → Nat → Int32) (d la : Int32) (i : Nat) : Bool := P i 3 != -6 && !decide (d - P i 5 ≤ la)
def pBl (P : Nat → Nat → Int32) (ov : Int32) (i : Nat) : Bool := P i 2 != 0 && (P i 2 &&& (ov ^^^ (-1))) == 0
def tk (P : Nat → Nat → Int32) (pg s : Int32) : Nat → Int32
  | 0 => 0
  | k + 1 => if P k 0 = s ∧ P k 6 = 0 then (if tk P pg s k + P k 1 ≤ pg then tk P pg s k + P k 1 else tk P pg s k) else tk P pg s k
def stK (P : Nat → Nat → Int32) (pg s : Int32) (k : Nat) : Bool := P k 0 == s && P k 6 == 0 && !decide (tk P pg s k + P k 1 ≤ pg)
def pSk (P : Nat → Nat → Int32) (pg : Int32) (i : Nat) : Bool := stK P pg (P i 0) i
def pOut (P : Nat → Nat → Int32) (d la pg ov : Int32) (i : Nat) : Bool := pWd P i || pSk P pg i || pLp P d la i || pBl P ov i
def tgt (P : Nat → Nat → Int32) (i : Nat) : Int32 := if P i 3 = -6 then 0 else (1 : Int32) <<< (P i 3 &&& 31)
def sm (P : Nat → Nat → Int32) (s x : Int32) : Nat → Int32
  | 0 => 0
  | k + 1 => if P k 0 = s ∧ bt x k = false then sm P s x k + P k 1 else sm P s x k
def hasv (x y : Int32) : Int32 := if ((x.toUInt32 >>> (y.toUInt32 &&& Int32.toUInt32 31)).toInt32 &&& 1) = 1 then 1 else 0
theorem hasv_nI (x : Int32) {k : Nat} (hk : k < 32) : hasv x (nI k) = if bt x k = true then 1 else 0 := by
  have e : ((x.toUInt32 >>> ((nI k).toUInt32 &&& Int32.toUInt32 31)).toInt32 &&& 1) = if bt x k = true then 1 else 0 := by
    apply b_ext
    intro i hi
    rw [b_and, b_ushr k hk]
    rcases Nat.eq_zero_or_pos i with rfl | h0
    · rw [Nat.add_zero]
      have h10 : bt (1 : Int32) 0 = true := by decide
      rw [h10, Bool.and_true]
      cases bt x k
      · exact (b_0 0).symm
      · exact h10.symm
    · have h1 : bt (1 : Int32) i = false := by
        have : ∀ i, i < 32 → 0 < i → bt (1 : Int32) i = false := by decide +kernel
        exact this i hi h0
      have h2 : ∀ c : Prop, [Decidable c] → bt (if c then (1 : Int32) else 0) i = false := by
        intro c _
        split
        · exact h1
        · exact b_0 i
      rw [h1, Bool.and_false, h2]
  unfold hasv
  rw [e]
  by_cases h : bt x k = true
  · rw [if_pos h]; rfl
  · rw [if_neg h]; rfl
theorem hasv_0 {x : Int32} {k : Nat} (hk : k < 32) : hasv x (nI k) = 0 ↔ bt x k = false := by
  rw [hasv_nI x hk]
  cases bt x k <;> decide
theorem hasv_01 (x y : Int32) : hasv x y = 0 ∨ hasv x y = 1 := by
  unfold hasv
  split
  · exact Or.inr rfl
  · exact Or.inl rfl
theorem bt_one {k i : Nat} (hk : k < 32) (hi : i < 32) : bt ((1 : Int32) <<< (nI k &&& 31)) i = decide (i = k) := by
  rw [b_shl k hk 1 hi]
  have h1 : ∀ j, j < 32 → bt (1 : Int32) j = decide (j = 0) := by decide +kernel
  rw [h1 (i - k) (by omega)]
  by_cases h : k ≤ i
  · by_cases h2 : i = k
    · subst h2; simp
    · have : i - k ≠ 0 := by omega
      simp [h2, this]
  · have : i ≠ k := by omega
    simp [h, this]
theorem bt_mkF (x : Int32) (p : Nat → Bool) {n i : Nat} (hn : n ≤ 32) (hi : i < 32) : bt (mkF x p n) i = (bt x i || (decide (i < n) && p i)) := by
  induction n with
  | zero => simp [mkF]
  | succ n ih =>
    have ih := ih (by omega)
    rw [mkF]
    by_cases h : p n = true
    · rw [if_pos h, b_or, ih, bt_one (by omega) hi]
      by_cases h2 : i = n
      · subst h2; simp [h]
      · have e : decide (i < n + 1) = decide (i < n) := by by_cases g : i < n <;> simp [g] <;> omega
        simp [h2, e]
    · rw [if_neg h, ih]
      by_cases h2 : i = n
      · subst h2; simp [h]
      · have e : decide (i < n + 1) = decide (i < n) := by by_cases g : i < n <;> simp [g] <;> omega
        simp [e]
theorem bt_mk (p : Nat → Bool) {n i : Nat} (hn : n ≤ 32) (hi : i < 32) : bt (mk p n) i = (decide (i < n) && p i) := by
  rw [← mk_F, bt_mkF 0 p hn hi, b_0, Bool.false_or]
theorem mk_congr {p q : Nat → Bool} {n : Nat} (h : ∀ i, i < n → p i = q i) : mk p n = mk q n := by
  induction n with
  | zero => rfl
  | succ n ih => rw [mk, mk, ih (fun i hi => h i (by omega)), h n (by omega)]
theorem mk_or (p q : Nat → Bool) {n : Nat} (hn : n ≤ 32) : mk p n ||| mk q n = mk (fun i => p i || q i) n := by
  apply b_ext
  intro i hi
  rw [b_or, bt_mk p hn hi, bt_mk q hn hi, bt_mk _ hn hi]
  cases decide (i < n) <;> simp
theorem mk_and (p q : Nat → Bool) {n : Nat} (hn : n ≤ 32) : mk p n &&& mk q n = mk (fun i => p i && q i) n := by
  apply b_ext
  intro i hi
  rw [b_and, bt_mk p hn hi, bt_mk q hn hi, bt_mk _ hn hi]
  cases decide (i < n) <;> simp
theorem mk_not (p q : Nat → Bool) {n : Nat} (hn : n ≤ 32) : mk p n &&& (mk q n ^^^ (-1)) = mk (fun i => p i && !q i) n := by
  apply b_ext
  intro i hi
  rw [b_and, b_xor, bt_mk p hn hi, bt_mk q hn hi, bt_mk _ hn hi, b_m1 i hi]
  cases decide (i < n) <;> simp
theorem mk_xor (p q : Nat → Bool) {n : Nat} (hn : n ≤ 32) : mk p n ^^^ mk q n = mk (fun i => p i ^^ q i) n := by
  apply b_ext
  intro i hi
  rw [b_xor, bt_mk p hn hi, bt_mk q hn hi, bt_mk _ hn hi]
  cases decide (i < n) <;> simp
theorem mk_inj {p q : Nat → Bool} {n : Nat} (hn : n ≤ 32) (h : mk p n = mk q n) : ∀ i, i < n → p i = q i := by
  intro i hi
  have h1 := bt_mk p hn (show i < 32 by omega)
  have h2 := bt_mk q hn (show i < 32 by omega)
  rw [h, h2] at h1
  simpa [hi] using h1.symm
theorem mk_eq_iff {p q : Nat → Bool} {n : Nat} (hn : n ≤ 32) : mk p n = mk q n ↔ ∀ i, i < n → p i = q i := ⟨mk_inj hn, mk_congr⟩
def skA (P : Nat → Nat → Int32) (pg : Int32) (n : Nat) : Nat → Int32
  | 0 => 0
  | s + 1 => mkF (skA P pg n s) (stK P pg (nI s)) n
def WF (P : Nat → Nat → Int32) (n : Nat) : Prop := ∀ i, i < n → (P i 0 = 0 ∨ P i 0 = 1) ∧ (P i 3 = -6 ∨ ∃ t, t < i ∧ P i 3 = nI t) ∧ (P i 6 = 0 ∨ P i 6 = 1)
theorem skA_mk {P : Nat → Nat → Int32} {pg : Int32} {n : Nat} (hw : WF P n) (hn : n ≤ 24) : skA P pg n 2 = mk (pSk P pg) n := by
  apply b_ext
  intro i hi
  rw [skA, skA, skA, bt_mkF _ _ (by omega) hi, bt_mkF _ _ (by omega) hi, bt_mk _ (by omega) hi, b_0, Bool.false_or]
  by_cases h : i < n
  · have e0 : nI 0 = 0 := rfl
    have e1 : nI 1 = 1 := rfl
    rw [e0, e1]
    unfold pSk
    rcases (hw i h).1 with g | g
    · rw [g]
      have : stK P pg 1 i = false := by unfold stK; rw [g]; rfl
      rw [this]; simp
    · rw [g]
      have : stK P pg 0 i = false := by unfold stK; rw [g]; rfl
      rw [this]; simp
  · simp [h]
def bOut (M : Mm) (b : Nat) : Nat → Bool := pOut (cp M b) (M.1 b 2) (M.1 b 4) (M.1 b 5) (M.1 b 3)
theorem out_mk {M : Mm} {b n : Nat} (hw : WF (cp M b) n) (hn : n ≤ 24) : ((mkF 0 (pWd (cp M b)) n ||| skA (cp M b) (M.1 b 5) n 2) ||| mkF 0 (pLp (cp M b) (M.1 b 2) (M.1 b 4)) n) ||| mkF 0 (pBl (cp M b) (M.1 b 3)) n = mk (bOut M b) n := by
  rw [skA_mk hw hn, mk_F, mk_F, mk_F, mk_or _ _ (by omega), mk_or _ _ (by omega), mk_or _ _ (by omega)]
  rfl
def anS (S : Nat → Bool) (P : Nat → Nat → Int32) (n m i : Nat) : Bool := (List.range n).any (fun a => decide (m ≤ a) && (P a 3 == nI i && S a))
def sdF (o q : Nat → Bool) (P : Nat → Nat → Int32) (n : Nat) : Nat → Nat → Bool
  | 0, _ => false
  | f + 1, i => !o i && !q i && !(anS (sdF o q P n f) P n (i + 1) i)
def sd (o q : Nat → Bool) (P : Nat → Nat → Int32) (n i : Nat) : Bool := sdF o q P n (n - i) i
theorem anS_congr {S S' : Nat → Bool} {P : Nat → Nat → Int32} {n m i : Nat} (h : ∀ a, m ≤ a → a < n → S a = S' a) : anS S P n m i = anS S' P n m i := by
  unfold anS
  rw [Bool.eq_iff_iff, List.any_eq_true, List.any_eq_true]
  constructor
  · rintro ⟨a, ha, hb⟩
    refine ⟨a, ha, ?_⟩
    simp only [Bool.and_eq_true, decide_eq_true_eq] at hb ⊢
    exact ⟨hb.1, hb.2.1, by rw [← h a hb.1 (List.mem_range.mp ha)]; exact hb.2.2⟩
  · rintro ⟨a, ha, hb⟩
    refine ⟨a, ha, ?_⟩
    simp only [Bool.and_eq_true, decide_eq_true_eq] at hb ⊢
    exact ⟨hb.1, hb.2.1, by rw [h a hb.1 (List.mem_range.mp ha)]; exact hb.2.2⟩
theorem sdF_fuel {o q : Nat → Bool} {P : Nat → Nat → Int32} {n : Nat} : ∀ f g i, n - i ≤ f → n - i ≤ g → i < n → sdF o q P n f i = sdF o q P n g i := by
  intro f
  induction f with
  | zero => intro g i h1 h2 h3; omega
  | succ f ih =>
    intro g i h1 h2 h3
    cases g with
    | zero => omega
    | succ g =>
      rw [sdF, sdF, anS_congr (fun a ha hb => ih g a (by omega) (by omega) hb)]
theorem sd_eq {o q : Nat → Bool} {P : Nat → Nat → Int32} {n i : Nat} (hi : i < n) : sd o q P n i = (!o i && !q i && !(anS (sd o q P n) P n (i + 1) i)) := by
  have h : sd o q P n i = sdF o q P n (n - i - 1 + 1) i := by unfold sd; congr 1; omega
  rw [h, sdF, anS_congr (S' := sd o q P n) (fun a ha hb => sdF_fuel _ _ a (by omega) (by omega) hb)]
theorem sd_uniq {o q S : Nat → Bool} {P : Nat → Nat → Int32} {n : Nat} (h : ∀ i, i < n → S i = (!o i && !q i && !(anS S P n (i + 1) i))) : ∀ i, i < n → S i = sd o q P n i := by
  have key : ∀ d i, n - i ≤ d → i < n → S i = sd o q P n i := by
    intro d
    induction d with
    | zero => intro i h1 h2; omega
    | succ d ih =>
      intro i h1 h2
      rw [h i h2, sd_eq h2, anS_congr (fun a ha hb => ih a (by omega) hb)]
  exact fun i hi => key (n - i) i (Nat.le_refl _) hi
theorem anS_step {S : Nat → Bool} {P : Nat → Nat → Int32} {n m i : Nat} (hm : m < n) : anS S P n m i = ((P m 3 == nI i && S m) || anS S P n (m + 1) i) := by
  unfold anS
  rw [Bool.eq_iff_iff, Bool.or_eq_true, List.any_eq_true, List.any_eq_true]
  constructor
  · rintro ⟨a, ha, hb⟩
    simp only [Bool.and_eq_true, decide_eq_true_eq] at hb
    rcases Nat.lt_or_ge m a with g | g
    · exact Or.inr ⟨a, ha, by simp only [Bool.and_eq_true, decide_eq_true_eq]; exact ⟨g, hb.2⟩⟩
    · have : a = m := by omega
      subst this
      exact Or.inl (by simp only [Bool.and_eq_true]; exact hb.2)
  · rintro (h | ⟨a, ha, hb⟩)
    · exact ⟨m, List.mem_range.mpr hm, by simp only [Bool.and_eq_true, decide_eq_true_eq]; exact ⟨Nat.le_refl _, by simpa using h⟩⟩
    · simp only [Bool.and_eq_true, decide_eq_true_eq] at hb
      exact ⟨a, ha, by simp only [Bool.and_eq_true, decide_eq_true_eq]; exact ⟨by omega, hb.2⟩⟩
theorem anS_end {S : Nat → Bool} {P : Nat → Nat → Int32} {n i : Nat} : anS S P n n i = false := by
  unfold anS
  rw [Bool.eq_false_iff]
  intro h
  obtain ⟨a, ha, hb⟩ := List.any_eq_true.mp h
  simp only [Bool.and_eq_true, decide_eq_true_eq] at hb
  have := List.mem_range.mp ha
  omega
theorem bt_tgt {P : Nat → Nat → Int32} {n m i : Nat} (hw : WF P n) (hn : n ≤ 24) (hm : m < n) (hi : i < 32) : bt (tgt P m) i = (P m 3 == nI i) := by
  unfold tgt
  have hlit : (-6 : Int32) = nI 4294967290 := by decide
  rcases (hw m hm).2.1 with g | ⟨t, ht, g⟩
  · rw [if_pos g, b_0, g, hlit]
    have : ¬ nI 4294967290 = nI i := by
      have h : ∀ i, i < 32 → ¬ nI 4294967290 = nI i := by decide +kernel
      exact h i hi
    simp [this]
  · have hne : ¬ P m 3 = -6 := by
      rw [g, hlit]
      have h : ∀ t, t < 24 → ¬ nI t = nI 4294967290 := by decide +kernel
      exact h t (by omega)
    rw [if_neg hne, g, bt_one (by omega) hi]
    by_cases e : i = t
    · subst e; simp
    · have : ¬ nI t = nI i := fun h => e ((nI_eq (by omega) (by omega)).mp h).symm
      simp [e, this]
def bSd (M : Mm) (b n : Nat) : Nat → Bool := sd (bOut M b) (fun _ => false) (cp M b) n
def cnt (p : Nat → Bool) : Nat → Nat
  | 0 => 0
  | n + 1 => cnt p n + (if p n = true then 1 else 0)
def fileM (M : Mm) (b n : Nat) (s p c t : Int32) : Mm := mset (mset (mset (mset (mset (mset (mset (mset M (b + 2 + n) 0 s) (b + 2 + n) 1 p) (b + 2 + n) 2 c) (b + 2 + n) 3 t) (b + 2 + n) 4 (M.1 b 2)) (b + 2 + n) 5 (M.1 b 2)) (b + 2 + n) 6 0) b 1 (nI (n + 1))
def cbf (p c : Int32) : Int32 := if p < 1 ∨ 9 < p ∨ c < 0 ∨ 1023 < c then 0 else 1
def fcR (n : Nat) (s p c : Int32) : Int32 := if s < 0 ∨ 1 < s ∨ cbf p c = 0 then -2 else if n < 24 then nI n else -4
def fcM (M : Mm) (b n : Nat) (s p c : Int32) : Mm := if s < 0 ∨ 1 < s ∨ cbf p c = 0 then M else if n < 24 then fileM M b n s p c (-6) else M
def faR (M : Mm) (b n i : Nat) (p c : Int32) : Int32 := if cbf p c = 0 then -2 else if n < 24 then (if M.1 (b + 2 + i) 6 = 0 then nI n else -5) else -4
def faM (M : Mm) (b n i : Nat) (p c : Int32) : Mm := if cbf p c = 0 then M else if n < 24 then (if M.1 (b + 2 + i) 6 = 0 then fileM M b n (1 - M.1 (b + 2 + i) 0) p c (nI i) else M) else M
def adR (M : Mm) (b : Nat) (s v : Int32) : Int32 := if s = 0 ∧ ¬ v < 1 ∧ ¬ 60 < v then M.1 b 4 else if s = 1 ∧ ¬ v < 1 ∧ ¬ 99 < v then M.1 b 5 else -2
def adM (M : Mm) (b : Nat) (s v : Int32) : Mm := if s = 0 ∧ ¬ v < 1 ∧ ¬ 60 < v then mset M b 4 v else if s = 1 ∧ ¬ v < 1 ∧ ¬ 99 < v then mset M b 5 v else M
theorem upd_s {f : Nat → Int32} {k : Nat} {x : Int32} : upd f k x k = x := if_pos rfl
theorem upd_n {f : Nat → Int32} {k j : Nat} {x : Int32} (h : j ≠ k) : upd f k x j = f j := if_neg h
def bc1 (x : Int32) : Int32 := x - ((x.toUInt32 >>> ((1 : Int32).toUInt32 &&& Int32.toUInt32 31)).toInt32 &&& 1431655765)
def bc2 (x : Int32) : Int32 := (x &&& 858993459) + ((x.toUInt32 >>> ((2 : Int32).toUInt32 &&& Int32.toUInt32 31)).toInt32 &&& 858993459)
def bc3 (x : Int32) : Int32 := (x + (x.toUInt32 >>> ((4 : Int32).toUInt32 &&& Int32.toUInt32 31)).toInt32) &&& 252645135
def bc4 (x : Int32) : Int32 := x + (x.toUInt32 >>> ((8 : Int32).toUInt32 &&& Int32.toUInt32 31)).toInt32
def bc5 (x : Int32) : Int32 := x + (x.toUInt32 >>> ((16 : Int32).toUInt32 &&& Int32.toUInt32 31)).toInt32
def bc (x : Int32) : Int32 := bc5 (bc4 (bc3 (bc2 (bc1 x)))) &&& 63
def tbR (M : Mm) (b n i : Nat) : Int32 := if M.1 (b + 2 + i) 6 = 0 then bc (mk (bSd (mset M (b + 2 + i) 6 1) b n) n) else -5
def tbM (M : Mm) (b i : Nat) : Mm := if M.1 (b + 2 + i) 6 = 0 then mset M (b + 2 + i) 6 1 else M
def prR (M : Mm) (b i : Nat) : Int32 := if M.1 (b + 2 + i) 3 = -6 ∨ ¬ M.1 (b + 2 + i) 6 = 0 then -5 else M.1 b 2 - M.1 (b + 2 + i) 5
def prM (M : Mm) (b i : Nat) : Mm := if M.1 (b + 2 + i) 3 = -6 ∨ ¬ M.1 (b + 2 + i) 6 = 0 then M else mset M (b + 2 + i) 5 (M.1 b 2)
def tcR (M : Mm) (b : Nat) (w : Int32) : Int32 := if w < 0 ∨ ¬ w < 10 then -1 else hasv (M.1 b 3 ^^^ ((1 : Int32) <<< (w &&& 31))) w
def tcM (M : Mm) (b : Nat) (w : Int32) : Mm := if w < 0 ∨ ¬ w < 10 then M else mset M b 3 (M.1 b 3 ^^^ ((1 : Int32) <<< (w &&& 31)))
def moR (M : Mm) (b n : Nat) (d : Int32) : Int32 := if d < 1 ∨ ¬ d ≤ 99 then -2 else if M.1 b 2 + d ≤ 999 then bc (mk (bSd (mset M b 2 (M.1 b 2 + d)) b n) n) else -5
def moM (M : Mm) (b : Nat) (d : Int32) : Mm := if d < 1 ∨ ¬ d ≤ 99 then M else if M.1 b 2 + d ≤ 999 then mset M b 2 (M.1 b 2 + d) else M
def rsR (M : Mm) (b n i : Nat) : Int32 := if pWd (cp M b) i = true then 1 else if pSk (cp M b) (M.1 b 5) i = true then 2 else if pLp (cp M b) (M.1 b 2) (M.1 b 4) i = true then 3 else if pBl (cp M b) (M.1 b 3) i = true then 4 else if bSd M b n i = true then 0 else 5
def dpN (P : Nat → Nat → Int32) : Nat → Nat → Nat
  | 0, _ => 0
  | f + 1, i => if P i 3 = -6 then 0 else dpN P f (P i 3).toNatClampNeg + 1
def dlR (M : Mm) (b i : Nat) : Int32 := if M.1 (b + 2 + i) 3 = -6 ∨ ¬ 0 ≤ M.1 (b + 2 + i) 5 + M.1 b 4 - M.1 b 2 then -6 else M.1 (b + 2 + i) 5 + M.1 b 4 - M.1 b 2
def naP (P : Nat → Nat → Int32) (n i : Nat) : Bool := !((List.range n).any (fun a => P a 3 == nI i))
def waA (P : Nat → Nat → Int32) (n : Nat) : Nat → Int32
  | 0 => ((1 : Int32) <<< (nI n &&& 31)) - 1
  | k + 1 => waA P n k &&& (tgt P k ^^^ (-1))
theorem cp_mset_b {M : Mm} {b j : Nat} {v : Int32} : cp (mset M b j v) b = cp M b := by
  funext i j'
  unfold cp
  rw [mset_n (by omega)]
theorem cp_mset_p {M : Mm} {b i j : Nat} {v : Int32} : cp (mset M (b + 2 + i) j v) b = fun i' j' => if i' = i ∧ j' = j then v else cp M b i' j' := by
  funext i' j'
  unfold cp
  by_cases h : i' = i
  · subst h
    rw [mset_s]
    unfold upd
    by_cases g : j' = j
    · simp [g]
    · simp [g]
  · rw [mset_n (by omega)]
    simp [h]
theorem WF_wd {M : Mm} {b n i : Nat} {v : Int32} (hv : v = 0 ∨ v = 1) (h : WF (cp M b) n) : WF (cp (mset M (b + 2 + i) 6 v) b) n := by
  rw [cp_mset_p]
  intro k hk
  obtain ⟨h1, h2, h3⟩ := h k hk
  refine ⟨by simpa using h1, by simpa using h2, ?_⟩
  by_cases g : k = i
  · simp [g, hv]
  · simpa [g] using h3
theorem hasv_ne {x : Int32} {k : Nat} (hk : k < 32) (h : ¬ hasv x (nI k) = 0) : bt x k = true := by
  cases q : bt x k
  · exact absurd ((hasv_0 hk).mpr q) h
  · rfl
theorem hasv_eq {x : Int32} {k : Nat} (hk : k < 32) (h : hasv x (nI k) = 0) : bt x k = false := (hasv_0 hk).mp h
theorem nI_dm (m : Nat) : nI m + Int32.ofInt (-1) = nI m - 1 := by
  have e : Int32.ofInt (-1) = -1 := by decide
  rw [e, Int32.sub_eq_add_neg]
theorem stF {S : Nat → Bool} {n m i : Nat} (h : S m = false) : (decide (i < n) && (decide (m + 1 ≤ i) && S i)) = (decide (i < n) && (decide (m ≤ i) && S i)) := by
  by_cases e : i = m
  · subst e; simp [h]
  · have : decide (m + 1 ≤ i) = decide (m ≤ i) := by by_cases g : m ≤ i <;> simp [g] <;> omega
    rw [this]
theorem stT {S : Nat → Bool} {n m i : Nat} (hm : m < n) (h : S m = true) : ((decide (i < n) && (decide (m + 1 ≤ i) && S i)) || decide (i = m)) = (decide (i < n) && (decide (m ≤ i) && S i)) := by
  by_cases e : i = m
  · subst e; simp [h, hm]
  · have : decide (m + 1 ≤ i) = decide (m ≤ i) := by by_cases g : m ≤ i <;> simp [g] <;> omega
    rw [this]; simp [e]
theorem sd_congr {o o' q q' : Nat → Bool} {P : Nat → Nat → Int32} {n : Nat} (ho : ∀ i, i < n → o i = o' i) (hq : ∀ i, i < n → q i = q' i) : ∀ i, i < n → sd o q P n i = sd o' q' P n i :=
  sd_uniq (fun i hi => by rw [sd_eq hi, ho i hi, hq i hi])
theorem bSd_bt {M : Mm} {b n : Nat} (hn : n ≤ 24) : mk (sd (bt (mk (bOut M b) n)) (bt 0) (cp M b) n) n = mk (bSd M b n) n := by
  refine mk_congr (sd_congr (fun i hi => ?_) (fun i hi => ?_))
  · rw [bt_mk _ (by omega) (by omega)]; simp [hi]
  · exact b_0 i
theorem dpN_fuel {P : Nat → Nat → Int32} {n : Nat} (hw : WF P n) (hn : n ≤ 24) : ∀ f g i, i < f → i < g → i < n → dpN P f i = dpN P g i := by
  intro f
  induction f with
  | zero => intro g i h1; omega
  | succ f ih =>
    intro g i h1 h2 h3
    cases g with
    | zero => omega
    | succ g =>
      rw [dpN, dpN]
      by_cases hc : P i 3 = -6
      · rw [if_pos hc, if_pos hc]
      · rw [if_neg hc, if_neg hc]
        obtain ⟨t, ht, e⟩ := (hw i h3).2.1.resolve_left hc
        rw [e, nI_clamp (by omega), ih g t (by omega) (by omega) (by omega)]
def ptM (M : Mm) (k k2 : Nat) : Mm := (fun k' => if k' = k then (fun j => if j < 7 then M.1 k2 j else M.1 k j) else M.1 k', M.2)
def cpB (M : Mm) (b c n : Nat) : Mm := (fun k => if k = b then (fun j => if 1 ≤ j ∧ j ≤ 5 then M.1 c j else M.1 b j) else if b + 2 ≤ k ∧ k < b + 2 + n then (fun j => if j < 7 then M.1 (c + (k - b)) j else M.1 k j) else M.1 k, M.2)
theorem isB_apart {b c : Nat} (hb : isB b) (hc : isB c) (h : b ≠ c) : b + 26 ≤ c ∨ c + 26 ≤ b := by
  rcases isB_cases hb with g | g | g | g | g | g | g | g | g | g <;> rcases isB_cases hc with g' | g' | g' | g' | g' | g' | g' | g' | g' | g' <;> omega
theorem cpB_b {M : Mm} {b c n : Nat} : (cpB M b c n).1 b = fun j => if 1 ≤ j ∧ j ≤ 5 then M.1 c j else M.1 b j := by unfold cpB; exact if_pos rfl
theorem cpB_in {M : Mm} {b c n i : Nat} (h : i < n) : (cpB M b c n).1 (b + 2 + i) = fun j => if j < 7 then M.1 (c + 2 + i) j else M.1 (b + 2 + i) j := by
  unfold cpB
  show (if b + 2 + i = b then _ else _) = _
  rw [if_neg (by omega), if_pos ⟨by omega, by omega⟩]
  have e : c + (b + 2 + i - b) = c + 2 + i := by omega
  rw [e]
theorem cpB_out {M : Mm} {b c n k : Nat} (h1 : k ≠ b) (h2 : k < b + 2 ∨ b + 2 + n ≤ k) : (cpB M b c n).1 k = M.1 k := by
  unfold cpB
  show (if k = b then _ else _) = _
  rw [if_neg h1, if_neg (by omega)]
theorem cpB_step {M : Mm} {b c k : Nat} (hb : isB b) (hc : isB c) (h : b ≠ c) (hk : k < 24) : ptM (cpB M b c k) (b + 2 + k) (c + 2 + k) = cpB M b c (k + 1) := by
  have ha := isB_apart hb hc h
  refine Prod.ext (funext fun k' => ?_) rfl
  show (if k' = b + 2 + k then (fun j => if j < 7 then (cpB M b c k).1 (c + 2 + k) j else (cpB M b c k).1 (b + 2 + k) j) else (cpB M b c k).1 k') = (cpB M b c (k + 1)).1 k'
  by_cases e : k' = b + 2 + k
  · subst e
    rw [if_pos rfl, cpB_in (n := k + 1) (i := k) (by omega), cpB_out (k := c + 2 + k) (by omega) (by omega), cpB_out (k := b + 2 + k) (by omega) (by omega)]
  · rw [if_neg e]
    unfold cpB
    show (if k' = b then _ else if b + 2 ≤ k' ∧ k' < b + 2 + k then _ else _) = (if k' = b then _ else if b + 2 ≤ k' ∧ k' < b + 2 + (k + 1) then _ else _)
    have e2 : (b + 2 ≤ k' ∧ k' < b + 2 + k) ↔ (b + 2 ≤ k' ∧ k' < b + 2 + (k + 1)) := by constructor <;> (intro g; omega)
    by_cases g : b + 2 ≤ k' ∧ k' < b + 2 + k
    · rw [if_pos g, if_pos (e2.mp g)]
    · rw [if_neg g, if_neg (fun q => g (e2.mpr q))]
theorem cpB_0 {M : Mm} {b c : Nat} (h : b ≠ c) : mset (mset (mset (mset (mset M b 1 (M.1 c 1)) b 2 (M.1 c 2)) b 3 (M.1 c 3)) b 4 (M.1 c 4)) b 5 (M.1 c 5) = cpB M b c 0 := by
  refine Prod.ext (funext fun k' => ?_) rfl
  by_cases e : k' = b
  · subst e
    rw [cpB_b]
    simp only [mset_s]
    funext j
    unfold upd
    by_cases h1 : j = 1
    · subst h1; simp
    by_cases h2 : j = 2
    · subst h2; simp
    by_cases h3 : j = 3
    · subst h3; simp
    by_cases h4 : j = 4
    · subst h4; simp
    by_cases h5 : j = 5
    · subst h5; simp
    have : ¬ (1 ≤ j ∧ j ≤ 5) := by omega
    simp [h1, h2, h3, h4, h5, this]
  · rw [cpB_out e (by omega)]
    simp only [mset_n e]
theorem ptM_7 {M : Mm} {k k2 : Nat} (h : k ≠ k2) : mset (mset (mset (mset (mset (mset (mset M k 0 (M.1 k2 0)) k 1 (M.1 k2 1)) k 2 (M.1 k2 2)) k 3 (M.1 k2 3)) k 4 (M.1 k2 4)) k 5 (M.1 k2 5)) k 6 (M.1 k2 6) = ptM M k k2 := by
  refine Prod.ext (funext fun k' => ?_) rfl
  by_cases e : k' = k
  · subst e
    unfold ptM
    show _ = if k' = k' then _ else _
    rw [if_pos rfl]
    simp only [mset_s]
    funext j
    unfold upd
    by_cases h0 : j = 0
    · subst h0; simp
    by_cases h1 : j = 1
    · subst h1; simp
    by_cases h2 : j = 2
    · subst h2; simp
    by_cases h3 : j = 3
    · subst h3; simp
    by_cases h4 : j = 4
    · subst h4; simp
    by_cases h5 : j = 5
    · subst h5; simp
    by_cases h6 : j = 6
    · subst h6; simp
    have : ¬ j < 7 := by omega
    simp [h0, h1, h2, h3, h4, h5, h6, this]
  · unfold ptM
    show _ = if k' = k then _ else _
    rw [if_neg e]
    simp only [mset_n e]
theorem nar_b {x : Int32} (h : x = 0 ∨ x = 1) : narrow .boolean (.int x) = .int x := by rcases h with rfl | rfl <;> rfl
theorem fit_b {x : Int32} (h : x = 0 ∨ x = 1) : fits .boolean (.int x) = true := by rcases h with rfl | rfl <;> rfl
theorem isB_no {b j : Nat} (hb : isB b) (hj : j < 26) : b + j ≠ 0 ∧ (b + j < 27 ∨ 35 ≤ b + j) ∧ b + j ≠ 217 ∧ b + j < 270 := by
  rcases isB_cases hb with g | g | g | g | g | g | g | g | g | g <;> omega
def mrow (M : Mm) (k : Nat) (f : Nat → Int32) : Mm := (fun k' => if k' = k then f else M.1 k', M.2)
theorem mrow_s {M : Mm} {k : Nat} {f : Nat → Int32} : (mrow M k f).1 k = f := if_pos rfl
theorem mrow_n {M : Mm} {k k' : Nat} {f : Nat → Int32} (h : k' ≠ k) : (mrow M k f).1 k' = M.1 k' := if_neg h
theorem mrow_2 {M : Mm} {k : Nat} {f : Nat → Int32} : (mrow M k f).2 = M.2 := rfl
theorem mset_2 {M : Mm} {k j : Nat} {v : Int32} : (mset M k j v).2 = M.2 := rfl
theorem mset_row {M : Mm} {k j : Nat} {v : Int32} : mset M k j v = mrow M k (upd (M.1 k) j v) := rfl
theorem mrow_mrow {M : Mm} {k : Nat} {f g : Nat → Int32} : mrow (mrow M k f) k g = mrow M k g := by
  refine Prod.ext (funext fun k' => ?_) rfl
  by_cases h : k' = k
  · subst h; rw [mrow_s, mrow_s]
  · rw [mrow_n h, mrow_n h, mrow_n h]
theorem mrow_self {M : Mm} {k : Nat} : mrow M k (M.1 k) = M := by
  refine Prod.ext (funext fun k' => ?_) rfl
  by_cases h : k' = k
  · subst h; rw [mrow_s]
  · rw [mrow_n h]
theorem mset_mrow {M : Mm} {k j : Nat} {f : Nat → Int32} {v : Int32} : mset (mrow M k f) k j v = mrow M k (upd f j v) := by
  rw [mset_row, mrow_s, mrow_mrow]
theorem mrow_comm {M : Mm} {k k2 : Nat} {f g : Nat → Int32} (h : k ≠ k2) : mrow (mrow M k f) k2 g = mrow (mrow M k2 g) k f := by
  refine Prod.ext (funext fun k' => ?_) rfl
  by_cases e : k' = k
  · subst e; rw [mrow_n h, mrow_s, mrow_s]
  · rw [mrow_n e]
    by_cases e2 : k' = k2
    · subst e2; rw [mrow_s, mrow_s]
    · rw [mrow_n e2, mrow_n e2, mrow_n e]
def wM (M : Mm) (q : (Nat → Int32) × (Nat → Int32)) : Mm := mrow (mrow M 28 q.1) 29 q.2
theorem wM_28 {M : Mm} {q : (Nat → Int32) × (Nat → Int32)} {j : Nat} {v : Int32} : mset (wM M q) 28 j v = wM M (upd q.1 j v, q.2) := by
  unfold wM
  rw [mset_row, mrow_n (by decide), mrow_s, mrow_comm (k := 29) (k2 := 28) (by decide), mrow_mrow]
theorem wM_29 {M : Mm} {q : (Nat → Int32) × (Nat → Int32)} {j : Nat} {v : Int32} : mset (wM M q) 29 j v = wM M (q.1, upd q.2 j v) := by
  unfold wM
  rw [mset_mrow]
theorem wM_r28 {M : Mm} {q : (Nat → Int32) × (Nat → Int32)} : (wM M q).1 28 = q.1 := by unfold wM; rw [mrow_n (by decide), mrow_s]
theorem wM_r29 {M : Mm} {q : (Nat → Int32) × (Nat → Int32)} : (wM M q).1 29 = q.2 := by unfold wM; rw [mrow_s]
theorem wM_n {M : Mm} {q : (Nat → Int32) × (Nat → Int32)} {k : Nat} (h : k < 28 ∨ 30 ≤ k) : (wM M q).1 k = M.1 k := by unfold wM; rw [mrow_n (by omega), mrow_n (by omega)]
theorem wM_self {M : Mm} : wM M (M.1 28, M.1 29) = M := by unfold wM; rw [mrow_comm (by decide), mrow_self, mrow_self]
def imin (x y : Int32) : Int32 := if y < x then y else x
def att (t : Int32) (x y : Int32) (q : (Nat → Int32) × (Nat → Int32)) : (Nat → Int32) × (Nat → Int32) := if t = -6 then q else (upd q.1 t.toNatClampNeg (imin (q.1 t.toNatClampNeg) y), upd q.2 t.toNatClampNeg (imin 1000 (q.2 t.toNatClampNeg + x)))
def wS1 (o na : Nat → Bool) (i : Nat) (q : (Nat → Int32) × (Nat → Int32)) : (Nat → Int32) × (Nat → Int32) := (if o i = true then upd q.1 i 0 else if na i = true then upd q.1 i 1 else q.1, if o i = true then upd q.2 i 1000 else q.2)
def wStep (P : Nat → Nat → Int32) (o na : Nat → Bool) (i : Nat) (q : (Nat → Int32) × (Nat → Int32)) : (Nat → Int32) × (Nat → Int32) := att (P i 3) ((wS1 o na i q).1 i) ((wS1 o na i q).2 i) (wS1 o na i q)
def wAll (P : Nat → Nat → Int32) (o na : Nat → Bool) (n : Nat) (q0 : (Nat → Int32) × (Nat → Int32)) : Nat → (Nat → Int32) × (Nat → Int32)
  | 0 => q0
  | k + 1 => if 23 - k < n then wStep P o na (23 - k) (wAll P o na n q0 k) else wAll P o na n q0 k
def wI (M : Mm) (k : Nat) : (Nat → Int32) × (Nat → Int32) := (fun j => if j < k then 1000 else M.1 28 j, fun j => if j < k then 0 else M.1 29 j)
theorem wI_0 {M : Mm} : wM M (wI M 0) = M := by
  have e : wI M 0 = (M.1 28, M.1 29) := by unfold wI; simp
  rw [e, wM_self]
theorem fill_s {f : Nat → Int32} {v : Int32} {k : Nat} : upd (fun j => if j < k then v else f j) k v = fun j => if j < k + 1 then v else f j := by
  funext j
  unfold upd
  by_cases h : j = k
  · subst h; simp
  · have : (j < k + 1) ↔ (j < k) := by constructor <;> (intro g; omega)
    simp [h, this]
theorem wI_s {M : Mm} {k : Nat} : mset (mset (wM M (wI M k)) 28 k 1000) 29 k 0 = wM M (wI M (k + 1)) := by
  rw [wM_28, wM_29]
  unfold wI
  rw [fill_s, fill_s]
theorem bt_all {n i : Nat} (hn : n ≤ 24) (hi : i < 32) : bt (((1 : Int32) <<< (nI n &&& 31)) - 1) i = decide (i < n) := by
  have h : ∀ n, n < 25 → ∀ i, i < 32 → bt (((1 : Int32) <<< (nI n &&& 31)) - 1) i = decide (i < n) := by decide +kernel
  exact h n (by omega) i hi
theorem bt_waA {P : Nat → Nat → Int32} {n k i : Nat} (hw : WF P n) (hn : n ≤ 24) (hk : k ≤ n) (hi : i < 32) : bt (waA P n k) i = (decide (i < n) && !((List.range k).any (fun a => P a 3 == nI i))) := by
  induction k with
  | zero => rw [waA, bt_all hn hi]; simp
  | succ k ih =>
    rw [waA, b_and, ih (by omega), b_xor, bt_tgt hw hn (by omega) hi, b_m1 i hi, List.range_succ, List.any_append]
    simp only [List.any_cons, List.any_nil, Bool.or_false, Bool.xor_true]
    cases decide (i < n) <;> cases (List.range k).any (fun a => P a 3 == nI i) <;> cases (P k 3 == nI i) <;> rfl
theorem wa_mk {P : Nat → Nat → Int32} {n : Nat} (hw : WF P n) (hn : n ≤ 24) : waA P n n = mk (naP P n) n := by
  apply b_ext
  intro i hi
  rw [bt_waA hw hn (Nat.le_refl n) hi, bt_mk _ (by omega) hi]
  rfl
theorem all_mk {n : Nat} (hn : n ≤ 24) : (((1 : Int32) <<< (nI n &&& 31)) - 1) = mk (fun _ => true) n := by
  apply b_ext
  intro i hi
  rw [bt_all hn hi, bt_mk _ (by omega) hi, Bool.and_true]
def rot (h : Nat → Nat) : Nat → Nat := fun i => if i < 6 then h (i + 1) else if i = 6 then h 0 else h i
def roS (h : Nat → Nat) (k : Nat) : Nat → Nat := fun i => if i < k then h (i + 1) else h i
theorem roS_0 {h : Nat → Nat} : roS h 0 = h := by funext i; simp [roS]
theorem roS_s {h : Nat → Nat} {k : Nat} (hk : k < 6) : va_up (roS h k) k (roS h k (k + 1)) = roS h (k + 1) := by
  funext i
  unfold va_up roS
  by_cases e : i = k
  · subst e; have : ¬ i + 1 < i := by omega
    simp [this]
  · have : (i < k + 1) ↔ (i < k) := by constructor <;> (intro g; omega)
    simp [e, this]
theorem roS_e {h : Nat → Nat} : va_up (roS h 6) 6 (h 0) = rot h := by
  funext i
  unfold va_up roS rot
  by_cases e : i = 6
  · subst e; simp
  · simp [e]
theorem mhis_2 {M : Mm} {h : Nat → Nat} : (mhis M h).2 = h := rfl
theorem mhis_1 {M : Mm} {h : Nat → Nat} : (mhis M h).1 = M.1 := rfl
theorem mhis_mhis {M : Mm} {h g : Nat → Nat} : mhis (mhis M h) g = mhis M g := rfl
theorem mhis_self {M : Mm} : mhis M M.2 = M := rfl
def seM (M : Mm) (k : Nat) (x : Int32) : Mm := if x < 0 then M else if k < 6 then mset M 33 1 (nI (k + 1)) else mhis M (rot M.2)
def sgn (x : Int64) (p : Int32) : Int32 := (((x.toUInt64 >>> ((8 * p).toInt64.toUInt64 &&& Int64.toUInt64 63)).toInt64 &&& 255).toInt32.toUInt32 % 65536).toInt32
def snE (x : Int64) (k : Nat) : Int32 := if k < 8 ∧ ¬ lg_cmp ((x.toUInt64 >>> ((8 * nI k).toInt64.toUInt64 &&& Int64.toUInt64 63)).toInt64) 0 = 0 then 0 else nI k
def snL (x : Int64) : Nat → Nat → Int32
  | 0, k => snE x k
  | f + 1, k => if sgn x (nI k) = 0 then snE x k else if sgn x (nI k) < 33 ∨ ¬ sgn x (nI k) ≤ 126 then 0 else snL x f (k + 1)
def chA (s : Nat → Int32) (l a : Nat) : Int32 := if a < l then s a else 0
def isCh (M : Mm) (l : Nat) : Prop := ∀ j, j < l → narrow .char (.int (M.1 31 j)) = .int (M.1 31 j) ∧ fits .char (.int (M.1 31 j)) = true
end
section
set_option maxRecDepth 100000 in
set_option maxHeartbeats 4000000 in
theorem f_has {Y : Yt} {M : Mm} {x y : Int32} : Fn Y yX6_has wsX6_has { frames := 0, cells := 0, slots := 0, locals := 0 } [.int x, .int y] M (some (.int (hasv x y))) M := by
  refine Fn.of (cc := cX6_has) (ins := iX6_has) (maxL := 2) (ret := (some .boolean)) (by decide) dX6_has [some (.int x), some (.int y)] (Nat.le_of_ble_eq_true rfl) rfl rfl ?_
  intro X hX hQ
  refine v_iload_n hX 0 0 rfl rfl rfl ?_
  refine v_iload_n hX 1 1 rfl rfl rfl ?_
  refine v_iushr hX 2 rfl rfl ?_
  refine v_iconst hX (v := 1) 3 rfl (by decide) ?_
  refine v_iand hX 4 rfl ?_
  refine v_iconst hX (v := 1) 5 rfl (by decide) ?_
  refine v_icmp_ne hX (tgt := 13) 6 rfl (by decide) (fun c6 => ?_) (fun c6 => ?_)
  · skip
    refine v_iconst hX (v := 0) 9 rfl (by decide) ?_
    refine v_iret hX hQ rfl rfl ?_ ?_ 10 rfl
    · simp [hasv, c6]
    · rfl
  · skip
    refine v_iconst hX (v := 1) 7 rfl (by decide) ?_
    refine v_goto hX (tgt := 14) 8 rfl (by decide) ?_
    refine v_iret hX hQ rfl rfl ?_ ?_ 10 rfl
    · simp [hasv, c6]
    · rfl
set_option maxRecDepth 100000 in
set_option maxHeartbeats 4000000 in
theorem f_find_in {Y : Yt} {M : Mm} {b n i : Nat} (hb : isB b) (hz : M.1 b 1 = nI n) (hn : n ≤ 24) (hi : i < n) : Fn Y yX0_find wsX0_find { frames := 0, cells := 0, slots := 0, locals := 0 } [.ref (Y.2.2.2 b), .int (nI i)] M (some (.ref (Y.2.2.2 (b + 2 + i)))) M := by
  refine Fn.of (cc := cX0_find) (ins := iX0_find) (maxL := 2) (ret := (some (.object "PointAnswers$Point"))) (by decide) dX0_find [some (.ref (Y.2.2.2 b)), some (.int (nI i))] (Nat.le_of_ble_eq_true rfl) rfl rfl ?_
  intro X hX hQ
  refine v_iload_n hX 1 0 rfl rfl rfl ?_
  refine v_if_lt hX (tgt := 30) 1 rfl (by decide) (fun c1 => absurd c1 (nI_nlt (Nat.zero_le _) (by omega))) (fun c1 => ?_)
  refine v_iload_n hX 1 2 rfl rfl rfl ?_
  refine v_aload_n hX 0 3 rfl rfl rfl ?_
  refine g_0_1 hX 4 hb tw_159 rfl ?_
  refine v_icmp_ge hX (tgt := 30) 5 rfl (by decide) (fun c9 => absurd c9 (by rw [hz]; exact nI_ge hi (by omega))) (fun c9 => ?_)
  refine v_iload_n hX 1 6 rfl rfl rfl ?_
  refine v_aload_n hX 0 7 rfl rfl rfl ?_
  refine g_0_0 hX 8 hb tw_158 rfl ?_
  refine v_alen hX (v := nI 24) (k := b + 1) (by have := isB_lt hb; omega) (cG_R hb) rfl rfl 9 rfl ?_
  refine v_icmp_ge hX (tgt := 30) 10 rfl (by decide) (fun c18 => absurd c18 (nI_ge (show i < 24 by omega) (by omega))) (fun c18 => ?_)
  refine v_aload_n hX 0 11 rfl rfl rfl ?_
  refine g_0_0 hX 12 hb tw_158 rfl ?_
  refine v_iload_n hX 1 13 rfl rfl rfl ?_
  refine v_aald hX (k := b + 1) (v := Y.2.2.2 (b + 2 + i)) (by have := isB_lt hb; omega) (cG_R hb) rfl (vp_in_nI (by omega) (by decide)) (by rw [nI_clamp (by omega)]) 14 rfl ?_
  refine v_goto hX (tgt := 31) 15 rfl (by decide) ?_
  refine v_aret hX hQ rfl (Or.inl ⟨_, rfl⟩) (Or.inr ⟨_, rfl⟩) ?_ ?_ 17 rfl
  · rfl
  · rfl
set_option maxRecDepth 100000 in
set_option maxHeartbeats 4000000 in
theorem f_find_out {Y : Yt} {M : Mm} {b n : Nat} {x : Int32} (hb : isB b) (hz : M.1 b 1 = nI n) (hx : x < 0 ∨ nI n ≤ x) : Fn Y yX0_find wsX0_find { frames := 0, cells := 0, slots := 0, locals := 0 } [.ref (Y.2.2.2 b), .int x] M (some .null) M := by
  refine Fn.of (cc := cX0_find) (ins := iX0_find) (maxL := 2) (ret := (some (.object "PointAnswers$Point"))) (by decide) dX0_find [some (.ref (Y.2.2.2 b)), some (.int x)] (Nat.le_of_ble_eq_true rfl) rfl rfl ?_
  intro X hX hQ
  refine v_iload_n hX 1 0 rfl rfl rfl ?_
  refine v_if_lt hX (tgt := 30) 1 rfl (by decide) (fun c1 => ?_) (fun c1 => ?_)
  · skip
    refine v_null hX 16 rfl ?_
    refine v_aret hX hQ rfl (Or.inl ⟨_, rfl⟩) (Or.inl rfl) ?_ ?_ 17 rfl
    · rfl
    · rfl
  · skip
    refine v_iload_n hX 1 2 rfl rfl rfl ?_
    refine v_aload_n hX 0 3 rfl rfl rfl ?_
    refine g_0_1 hX 4 hb tw_159 rfl ?_
    refine v_icmp_ge hX (tgt := 30) 5 rfl (by decide) (fun c9 => ?_) (fun c9 => absurd (by rw [hz]; exact hx.resolve_left c1) c9)
    refine v_null hX 16 rfl ?_
    refine v_aret hX hQ rfl (Or.inl ⟨_, rfl⟩) (Or.inl rfl) ?_ ?_ 17 rfl
    · rfl
    · rfl
set_option maxRecDepth 100000 in
set_option maxHeartbeats 4000000 in
theorem f_withdrawn {Y : Yt} {M : Mm} {b n : Nat} (hb : isB b) (hz : M.1 b 1 = nI n) (hn : n ≤ 24) : Fn Y yX0_withdrawn wsX0_withdrawn { frames := 1, cells := 0, slots := 0, locals := 21 } [.ref (Y.2.2.2 b)] M (some (.int (mkF 0 (pWd (cp M b)) n))) M := by
  refine Fn.of (cc := cX0_withdrawn) (ins := iX0_withdrawn) (maxL := 4) (ret := (some .int)) (by decide) dX0_withdrawn [some (.ref (Y.2.2.2 b)), none, none, none] (Nat.le_of_ble_eq_true rfl) rfl rfl ?_
  intro X hX hQ
  refine v_iconst hX (v := 0) 0 rfl (by decide) ?_
  refine v_istore_n hX 1 1 rfl rfl (Nat.le_of_ble_eq_true rfl) rfl ?_
  refine v_iconst hX (v := 0) 2 rfl (by decide) ?_
  refine v_istore_n hX 2 3 rfl rfl (Nat.le_of_ble_eq_true rfl) rfl ?_
  have lp : ∀ (k : Nat), k ≤ n → V Y X M 4 [some (.ref (Y.2.2.2 b)), some (.int (mkF 0 (pWd (cp M b)) k)), some (.int (nI k)), none] [] := by
    refine upTo n (fun k hk ih => ?_)
    refine v_iload_n hX 2 4 rfl rfl rfl ?_
    refine v_aload_n hX 0 5 rfl rfl rfl ?_
    refine g_0_1 hX 6 hb tw_159 rfl ?_
    refine v_icmp_ge hX (tgt := 41) 7 rfl (by decide) (fun c9 => ?_) (fun c9 => ?_)
    · skip
      have hk2 : k = n := by rw [hz] at c9; have := of_le c9 (by omega) (by omega); omega
      refine v_iload_n hX 1 25 rfl rfl rfl ?_
      refine v_iret hX hQ rfl rfl ?_ ?_ 26 rfl
      · rw [hk2]
      · rfl
    · skip
      have hk2 : k < n := by rw [hz] at c9; exact of_nle c9 (by omega) (by omega)
      refine v_aload_n hX 0 8 rfl rfl rfl ?_
      refine v_iload_n hX 2 9 rfl rfl rfl ?_
      refine v_callV hX 1 (by have := isB_lt hb; omega) (cG_B hb) rfl (f_find_in hb hz hn hk2) tw_299 tw_296 tw_298 tw_3 tw_93 (by decide +kernel) ⟨⟨rfl, rfl⟩, Nat.le_of_ble_eq_true rfl, Nat.le_of_ble_eq_true rfl⟩ rfl (Nat.le_of_ble_eq_true rfl) rfl rfl 10 rfl ?_
      refine v_astore_n hX 3 11 rfl rfl (Nat.le_of_ble_eq_true rfl) rfl ?_
      refine v_aload_n hX 3 12 rfl rfl rfl ?_
      refine v_ifnull hX 13 rfl ?_
      refine v_aload_n hX 3 14 rfl rfl rfl ?_
      refine gN_4_6 hX 15 hb (by omega) (List.mem_of_getElem? (i := 12) rfl) rfl ?_
      refine v_if_eq hX (tgt := 35) 16 rfl (by decide) (fun c26 => ?_) (fun c26 => ?_)
      · skip
        refine v_iinc hX 23 rfl rfl (nI_inc k) (Nat.le_of_ble_eq_true rfl) rfl ?_
        refine v_goto hX (tgt := 4) 24 rfl (by decide) ?_
        exact V.sub (ih hk2) rfl ⟨rfl, (by first | rfl | (refine congrArg (fun z : Int32 => some (Value.int z)) ?_; simp [mkF, pWd, cp, c9, c26])), rfl, trivial⟩
      · skip
        refine v_iload_n hX 1 17 rfl rfl rfl ?_
        refine v_iconst hX (v := 1) 18 rfl (by decide) ?_
        refine v_iload_n hX 2 19 rfl rfl rfl ?_
        refine v_ishl hX 20 rfl ?_
        refine v_ior hX 21 rfl ?_
        refine v_istore_n hX 1 22 rfl rfl (Nat.le_of_ble_eq_true rfl) rfl ?_
        refine v_iinc hX 23 rfl rfl (nI_inc k) (Nat.le_of_ble_eq_true rfl) rfl ?_
        refine v_goto hX (tgt := 4) 24 rfl (by decide) ?_
        exact V.sub (ih hk2) rfl ⟨rfl, (by first | rfl | (refine congrArg (fun z : Int32 => some (Value.int z)) ?_; simp [mkF, pWd, cp, c9, c26])), rfl, trivial⟩
  exact V.sub (lp 0 (Nat.zero_le _)) rfl ⟨rfl, (by first | rfl | (refine congrArg (fun z : Int32 => some (Value.int z)) ?_; rfl)), rfl, trivial⟩
set_option maxRecDepth 100000 in
set_option maxHeartbeats 4000000 in
theorem f_lapsedOn {Y : Yt} {M : Mm} {d : Int32} {b n : Nat} (hb : isB b) (hz : M.1 b 1 = nI n) (hn : n ≤ 24) : Fn Y yX0_lapsedOn wsX0_lapsedOn { frames := 1, cells := 0, slots := 0, locals := 21 } [.ref (Y.2.2.2 b), .int d] M (some (.int (mkF 0 (pLp (cp M b) d (M.1 b 4)) n))) M := by
  refine Fn.of (cc := cX0_lapsedOn) (ins := iX0_lapsedOn) (maxL := 5) (ret := (some .int)) (by decide) dX0_lapsedOn [some (.ref (Y.2.2.2 b)), some (.int d), none, none, none] (Nat.le_of_ble_eq_true rfl) rfl rfl ?_
  intro X hX hQ
  refine v_iconst hX (v := 0) 0 rfl (by decide) ?_
  refine v_istore_n hX 2 1 rfl rfl (Nat.le_of_ble_eq_true rfl) rfl ?_
  refine v_iconst hX (v := 0) 2 rfl (by decide) ?_
  refine v_istore_n hX 3 3 rfl rfl (Nat.le_of_ble_eq_true rfl) rfl ?_
  have lp : ∀ (k : Nat), k ≤ n → V Y X M 4 [some (.ref (Y.2.2.2 b)), some (.int d), some (.int (mkF 0 (pLp (cp M b) d (M.1 b 4)) k)), some (.int (nI k)), none] [] := by
    refine upTo n (fun k hk ih => ?_)
    refine v_iload_n hX 3 4 rfl rfl rfl ?_
    refine v_aload_n hX 0 5 rfl rfl rfl ?_
    refine g_0_1 hX 6 hb tw_159 rfl ?_
    refine v_icmp_ge hX (tgt := 60) 7 rfl (by decide) (fun c9 => ?_) (fun c9 => ?_)
    · skip
      have hk2 : k = n := by rw [hz] at c9; have := of_le c9 (by omega) (by omega); omega
      refine v_iload_n hX 2 33 rfl rfl rfl ?_
      refine v_iret hX hQ rfl rfl ?_ ?_ 34 rfl
      · rw [hk2]
      · rfl
    · skip
      have hk2 : k < n := by rw [hz] at c9; exact of_nle c9 (by omega) (by omega)
      refine v_aload_n hX 0 8 rfl rfl rfl ?_
      refine v_iload_n hX 3 9 rfl rfl rfl ?_
      refine v_callV hX 1 (by have := isB_lt hb; omega) (cG_B hb) rfl (f_find_in hb hz hn hk2) tw_299 tw_296 tw_298 tw_3 tw_93 (by decide +kernel) ⟨⟨rfl, rfl⟩, Nat.le_of_ble_eq_true rfl, Nat.le_of_ble_eq_true rfl⟩ rfl (Nat.le_of_ble_eq_true rfl) rfl rfl 10 rfl ?_
      refine v_astore hX 11 rfl (Nat.le_of_ble_eq_true rfl) rfl ?_
      refine v_aload hX 12 rfl rfl ?_
      refine v_ifnull hX 13 rfl ?_
      refine v_aload hX 14 rfl rfl ?_
      refine gN_4_3 hX 15 hb (by omega) (List.mem_of_getElem? (i := 7) rfl) rfl ?_
      refine v_bipush hX (v := (-6)) 16 rfl (by decide) ?_
      refine v_icmp_eq hX (tgt := 54) 17 rfl (by decide) (fun c31 => ?_) (fun c31 => ?_)
      · skip
        refine v_iinc hX 31 rfl rfl (nI_inc k) (Nat.le_of_ble_eq_true rfl) rfl ?_
        refine v_goto hX (tgt := 4) 32 rfl (by decide) ?_
        exact V.sub (ih hk2) rfl ⟨rfl, rfl, (by first | rfl | (refine congrArg (fun z : Int32 => some (Value.int z)) ?_; simp [mkF, pLp, cp, c9, c31])), rfl, trivial⟩
      · skip
        refine v_iload_n hX 1 18 rfl rfl rfl ?_
        refine v_aload hX 19 rfl rfl ?_
        refine gN_4_5 hX 20 hb (by omega) (List.mem_of_getElem? (i := 11) rfl) rfl ?_
        refine v_isub hX 21 rfl ?_
        refine v_aload_n hX 0 22 rfl rfl rfl ?_
        refine g_0_4 hX 23 hb tw_165 rfl ?_
        refine v_icmp_le hX (tgt := 54) 24 rfl (by decide) (fun c45 => ?_) (fun c45 => ?_)
        · skip
          refine v_iinc hX 31 rfl rfl (nI_inc k) (Nat.le_of_ble_eq_true rfl) rfl ?_
          refine v_goto hX (tgt := 4) 32 rfl (by decide) ?_
          exact V.sub (ih hk2) rfl ⟨rfl, rfl, (by first | rfl | (refine congrArg (fun z : Int32 => some (Value.int z)) ?_; simp [mkF, pLp, cp, c9, c31, c45])), rfl, trivial⟩
        · skip
          refine v_iload_n hX 2 25 rfl rfl rfl ?_
          refine v_iconst hX (v := 1) 26 rfl (by decide) ?_
          refine v_iload_n hX 3 27 rfl rfl rfl ?_
          refine v_ishl hX 28 rfl ?_
          refine v_ior hX 29 rfl ?_
          refine v_istore_n hX 2 30 rfl rfl (Nat.le_of_ble_eq_true rfl) rfl ?_
          refine v_iinc hX 31 rfl rfl (nI_inc k) (Nat.le_of_ble_eq_true rfl) rfl ?_
          refine v_goto hX (tgt := 4) 32 rfl (by decide) ?_
          exact V.sub (ih hk2) rfl ⟨rfl, rfl, (by first | rfl | (refine congrArg (fun z : Int32 => some (Value.int z)) ?_; simp [mkF, pLp, cp, c9, c31, c45])), rfl, trivial⟩
  exact V.sub (lp 0 (Nat.zero_le _)) rfl ⟨rfl, rfl, (by first | rfl | (refine congrArg (fun z : Int32 => some (Value.int z)) ?_; rfl)), rfl, trivial⟩
set_option maxRecDepth 100000 in
set_option maxHeartbeats 4000000 in
theorem f_baseless {Y : Yt} {M : Mm} {b n : Nat} (hb : isB b) (hz : M.1 b 1 = nI n) (hn : n ≤ 24) : Fn Y yX0_baseless wsX0_baseless { frames := 1, cells := 0, slots := 0, locals := 21 } [.ref (Y.2.2.2 b)] M (some (.int (mkF 0 (pBl (cp M b) (M.1 b 3)) n))) M := by
  refine Fn.of (cc := cX0_baseless) (ins := iX0_baseless) (maxL := 4) (ret := (some .int)) (by decide) dX0_baseless [some (.ref (Y.2.2.2 b)), none, none, none] (Nat.le_of_ble_eq_true rfl) rfl rfl ?_
  intro X hX hQ
  refine v_iconst hX (v := 0) 0 rfl (by decide) ?_
  refine v_istore_n hX 1 1 rfl rfl (Nat.le_of_ble_eq_true rfl) rfl ?_
  refine v_iconst hX (v := 0) 2 rfl (by decide) ?_
  refine v_istore_n hX 2 3 rfl rfl (Nat.le_of_ble_eq_true rfl) rfl ?_
  have lp : ∀ (k : Nat), k ≤ n → V Y X M 4 [some (.ref (Y.2.2.2 b)), some (.int (mkF 0 (pBl (cp M b) (M.1 b 3)) k)), some (.int (nI k)), none] [] := by
    refine upTo n (fun k hk ih => ?_)
    refine v_iload_n hX 2 4 rfl rfl rfl ?_
    refine v_aload_n hX 0 5 rfl rfl rfl ?_
    refine g_0_1 hX 6 hb tw_159 rfl ?_
    refine v_icmp_ge hX (tgt := 55) 7 rfl (by decide) (fun c9 => ?_) (fun c9 => ?_)
    · skip
      have hk2 : k = n := by rw [hz] at c9; have := of_le c9 (by omega) (by omega); omega
      refine v_iload_n hX 1 33 rfl rfl rfl ?_
      refine v_iret hX hQ rfl rfl ?_ ?_ 34 rfl
      · rw [hk2]
      · rfl
    · skip
      have hk2 : k < n := by rw [hz] at c9; exact of_nle c9 (by omega) (by omega)
      refine v_aload_n hX 0 8 rfl rfl rfl ?_
      refine v_iload_n hX 2 9 rfl rfl rfl ?_
      refine v_callV hX 1 (by have := isB_lt hb; omega) (cG_B hb) rfl (f_find_in hb hz hn hk2) tw_299 tw_296 tw_298 tw_3 tw_93 (by decide +kernel) ⟨⟨rfl, rfl⟩, Nat.le_of_ble_eq_true rfl, Nat.le_of_ble_eq_true rfl⟩ rfl (Nat.le_of_ble_eq_true rfl) rfl rfl 10 rfl ?_
      refine v_astore_n hX 3 11 rfl rfl (Nat.le_of_ble_eq_true rfl) rfl ?_
      refine v_aload_n hX 3 12 rfl rfl rfl ?_
      refine v_ifnull hX 13 rfl ?_
      refine v_aload_n hX 3 14 rfl rfl rfl ?_
      refine gN_4_2 hX 15 hb (by omega) (List.mem_of_getElem? (i := 4) rfl) rfl ?_
      refine v_if_eq hX (tgt := 49) 16 rfl (by decide) (fun c26 => ?_) (fun c26 => ?_)
      · skip
        refine v_iinc hX 31 rfl rfl (nI_inc k) (Nat.le_of_ble_eq_true rfl) rfl ?_
        refine v_goto hX (tgt := 4) 32 rfl (by decide) ?_
        exact V.sub (ih hk2) rfl ⟨rfl, (by first | rfl | (refine congrArg (fun z : Int32 => some (Value.int z)) ?_; simp_all [mkF, pBl, cp, c9, c26])), rfl, trivial⟩
      · skip
        refine v_aload_n hX 3 17 rfl rfl rfl ?_
        refine gN_4_2 hX 18 hb (by omega) (List.mem_of_getElem? (i := 4) rfl) rfl ?_
        refine v_aload_n hX 0 19 rfl rfl rfl ?_
        refine g_0_3 hX 20 hb tw_163 rfl ?_
        refine v_iconst hX (v := (-1)) 21 rfl (by decide) ?_
        refine v_ixor hX 22 rfl ?_
        refine v_iand hX 23 rfl ?_
        refine v_if_ne hX (tgt := 49) 24 rfl (by decide) (fun c40 => ?_) (fun c40 => ?_)
        · skip
          refine v_iinc hX 31 rfl rfl (nI_inc k) (Nat.le_of_ble_eq_true rfl) rfl ?_
          refine v_goto hX (tgt := 4) 32 rfl (by decide) ?_
          exact V.sub (ih hk2) rfl ⟨rfl, (by first | rfl | (refine congrArg (fun z : Int32 => some (Value.int z)) ?_; simp_all [mkF, pBl, cp, c9, c26, c40])), rfl, trivial⟩
        · skip
          refine v_iload_n hX 1 25 rfl rfl rfl ?_
          refine v_iconst hX (v := 1) 26 rfl (by decide) ?_
          refine v_iload_n hX 2 27 rfl rfl rfl ?_
          refine v_ishl hX 28 rfl ?_
          refine v_ior hX 29 rfl ?_
          refine v_istore_n hX 1 30 rfl rfl (Nat.le_of_ble_eq_true rfl) rfl ?_
          refine v_iinc hX 31 rfl rfl (nI_inc k) (Nat.le_of_ble_eq_true rfl) rfl ?_
          refine v_goto hX (tgt := 4) 32 rfl (by decide) ?_
          exact V.sub (ih hk2) rfl ⟨rfl, (by first | rfl | (refine congrArg (fun z : Int32 => some (Value.int z)) ?_; simp_all [mkF, pBl, cp, c9, c26, c40])), rfl, trivial⟩
  exact V.sub (lp 0 (Nat.zero_le _)) rfl ⟨rfl, (by first | rfl | (refine congrArg (fun z : Int32 => some (Value.int z)) ?_; rfl)), rfl, trivial⟩
set_option maxRecDepth 100000 in
set_option maxHeartbeats 4000000 in
theorem f_answersTo {Y : Yt} {M : Mm} {t : Int32} {b n : Nat} (hb : isB b) (hz : M.1 b 1 = nI n) (hn : n ≤ 24) : Fn Y yX0_answersTo wsX0_answersTo { frames := 1, cells := 0, slots := 0, locals := 21 } [.ref (Y.2.2.2 b), .int t] M (some (.int (mkF 0 (pTo (cp M b) t) n))) M := by
  refine Fn.of (cc := cX0_answersTo) (ins := iX0_answersTo) (maxL := 5) (ret := (some .int)) (by decide) dX0_answersTo [some (.ref (Y.2.2.2 b)), some (.int t), none, none, none] (Nat.le_of_ble_eq_true rfl) rfl rfl ?_
  intro X hX hQ
  refine v_iconst hX (v := 0) 0 rfl (by decide) ?_
  refine v_istore_n hX 2 1 rfl rfl (Nat.le_of_ble_eq_true rfl) rfl ?_
  refine v_iconst hX (v := 0) 2 rfl (by decide) ?_
  refine v_istore_n hX 3 3 rfl rfl (Nat.le_of_ble_eq_true rfl) rfl ?_
  have lp : ∀ (k : Nat), k ≤ n → V Y X M 4 [some (.ref (Y.2.2.2 b)), some (.int t), some (.int (mkF 0 (pTo (cp M b) t) k)), some (.int (nI k)), none] [] := by
    refine upTo n (fun k hk ih => ?_)
    refine v_iload_n hX 3 4 rfl rfl rfl ?_
    refine v_aload_n hX 0 5 rfl rfl rfl ?_
    refine g_0_1 hX 6 hb tw_159 rfl ?_
    refine v_icmp_ge hX (tgt := 45) 7 rfl (by decide) (fun c9 => ?_) (fun c9 => ?_)
    · skip
      have hk2 : k = n := by rw [hz] at c9; have := of_le c9 (by omega) (by omega); omega
      refine v_iload_n hX 2 26 rfl rfl rfl ?_
      refine v_iret hX hQ rfl rfl ?_ ?_ 27 rfl
      · rw [hk2]
      · rfl
    · skip
      have hk2 : k < n := by rw [hz] at c9; exact of_nle c9 (by omega) (by omega)
      refine v_aload_n hX 0 8 rfl rfl rfl ?_
      refine v_iload_n hX 3 9 rfl rfl rfl ?_
      refine v_callV hX 1 (by have := isB_lt hb; omega) (cG_B hb) rfl (f_find_in hb hz hn hk2) tw_299 tw_296 tw_298 tw_3 tw_93 (by decide +kernel) ⟨⟨rfl, rfl⟩, Nat.le_of_ble_eq_true rfl, Nat.le_of_ble_eq_true rfl⟩ rfl (Nat.le_of_ble_eq_true rfl) rfl rfl 10 rfl ?_
      refine v_astore hX 11 rfl (Nat.le_of_ble_eq_true rfl) rfl ?_
      refine v_aload hX 12 rfl rfl ?_
      refine v_ifnull hX 13 rfl ?_
      refine v_aload hX 14 rfl rfl ?_
      refine gN_4_3 hX 15 hb (by omega) (List.mem_of_getElem? (i := 7) rfl) rfl ?_
      refine v_iload_n hX 1 16 rfl rfl rfl ?_
      refine v_icmp_ne hX (tgt := 39) 17 rfl (by decide) (fun c30 => ?_) (fun c30 => ?_)
      · skip
        refine v_iinc hX 24 rfl rfl (nI_inc k) (Nat.le_of_ble_eq_true rfl) rfl ?_
        refine v_goto hX (tgt := 4) 25 rfl (by decide) ?_
        exact V.sub (ih hk2) rfl ⟨rfl, rfl, (by first | rfl | (refine congrArg (fun z : Int32 => some (Value.int z)) ?_; simp [mkF, pTo, cp, c9, c30])), rfl, trivial⟩
      · skip
        refine v_iload_n hX 2 18 rfl rfl rfl ?_
        refine v_iconst hX (v := 1) 19 rfl (by decide) ?_
        refine v_iload_n hX 3 20 rfl rfl rfl ?_
        refine v_ishl hX 21 rfl ?_
        refine v_ior hX 22 rfl ?_
        refine v_istore_n hX 2 23 rfl rfl (Nat.le_of_ble_eq_true rfl) rfl ?_
        refine v_iinc hX 24 rfl rfl (nI_inc k) (Nat.le_of_ble_eq_true rfl) rfl ?_
        refine v_goto hX (tgt := 4) 25 rfl (by decide) ?_
        exact V.sub (ih hk2) rfl ⟨rfl, rfl, (by first | rfl | (refine congrArg (fun z : Int32 => some (Value.int z)) ?_; simp [mkF, pTo, cp, c9, c30])), rfl, trivial⟩
  exact V.sub (lp 0 (Nat.zero_le _)) rfl ⟨rfl, rfl, (by first | rfl | (refine congrArg (fun z : Int32 => some (Value.int z)) ?_; rfl)), rfl, trivial⟩
set_option maxRecDepth 100000 in
set_option maxHeartbeats 4000000 in
theorem f_ofSide {Y : Yt} {M : Mm} {t : Int32} {b n : Nat} (hb : isB b) (hz : M.1 b 1 = nI n) (hn : n ≤ 24) : Fn Y yX0_ofSide wsX0_ofSide { frames := 1, cells := 0, slots := 0, locals := 21 } [.ref (Y.2.2.2 b), .int t] M (some (.int (mkF 0 (pSd (cp M b) t) n))) M := by
  refine Fn.of (cc := cX0_ofSide) (ins := iX0_ofSide) (maxL := 5) (ret := (some .int)) (by decide) dX0_ofSide [some (.ref (Y.2.2.2 b)), some (.int t), none, none, none] (Nat.le_of_ble_eq_true rfl) rfl rfl ?_
  intro X hX hQ
  refine v_iconst hX (v := 0) 0 rfl (by decide) ?_
  refine v_istore_n hX 2 1 rfl rfl (Nat.le_of_ble_eq_true rfl) rfl ?_
  refine v_iconst hX (v := 0) 2 rfl (by decide) ?_
  refine v_istore_n hX 3 3 rfl rfl (Nat.le_of_ble_eq_true rfl) rfl ?_
  have lp : ∀ (k : Nat), k ≤ n → V Y X M 4 [some (.ref (Y.2.2.2 b)), some (.int t), some (.int (mkF 0 (pSd (cp M b) t) k)), some (.int (nI k)), none] [] := by
    refine upTo n (fun k hk ih => ?_)
    refine v_iload_n hX 3 4 rfl rfl rfl ?_
    refine v_aload_n hX 0 5 rfl rfl rfl ?_
    refine g_0_1 hX 6 hb tw_159 rfl ?_
    refine v_icmp_ge hX (tgt := 45) 7 rfl (by decide) (fun c9 => ?_) (fun c9 => ?_)
    · skip
      have hk2 : k = n := by rw [hz] at c9; have := of_le c9 (by omega) (by omega); omega
      refine v_iload_n hX 2 26 rfl rfl rfl ?_
      refine v_iret hX hQ rfl rfl ?_ ?_ 27 rfl
      · rw [hk2]
      · rfl
    · skip
      have hk2 : k < n := by rw [hz] at c9; exact of_nle c9 (by omega) (by omega)
      refine v_aload_n hX 0 8 rfl rfl rfl ?_
      refine v_iload_n hX 3 9 rfl rfl rfl ?_
      refine v_callV hX 1 (by have := isB_lt hb; omega) (cG_B hb) rfl (f_find_in hb hz hn hk2) tw_299 tw_296 tw_298 tw_3 tw_93 (by decide +kernel) ⟨⟨rfl, rfl⟩, Nat.le_of_ble_eq_true rfl, Nat.le_of_ble_eq_true rfl⟩ rfl (Nat.le_of_ble_eq_true rfl) rfl rfl 10 rfl ?_
      refine v_astore hX 11 rfl (Nat.le_of_ble_eq_true rfl) rfl ?_
      refine v_aload hX 12 rfl rfl ?_
      refine v_ifnull hX 13 rfl ?_
      refine v_aload hX 14 rfl rfl ?_
      refine gN_4_0 hX 15 hb (by omega) (List.mem_of_getElem? (i := 0) rfl) rfl ?_
      refine v_iload_n hX 1 16 rfl rfl rfl ?_
      refine v_icmp_ne hX (tgt := 39) 17 rfl (by decide) (fun c30 => ?_) (fun c30 => ?_)
      · skip
        refine v_iinc hX 24 rfl rfl (nI_inc k) (Nat.le_of_ble_eq_true rfl) rfl ?_
        refine v_goto hX (tgt := 4) 25 rfl (by decide) ?_
        exact V.sub (ih hk2) rfl ⟨rfl, rfl, (by first | rfl | (refine congrArg (fun z : Int32 => some (Value.int z)) ?_; simp [mkF, pSd, cp, c9, c30])), rfl, trivial⟩
      · skip
        refine v_iload_n hX 2 18 rfl rfl rfl ?_
        refine v_iconst hX (v := 1) 19 rfl (by decide) ?_
        refine v_iload_n hX 3 20 rfl rfl rfl ?_
        refine v_ishl hX 21 rfl ?_
        refine v_ior hX 22 rfl ?_
        refine v_istore_n hX 2 23 rfl rfl (Nat.le_of_ble_eq_true rfl) rfl ?_
        refine v_iinc hX 24 rfl rfl (nI_inc k) (Nat.le_of_ble_eq_true rfl) rfl ?_
        refine v_goto hX (tgt := 4) 25 rfl (by decide) ?_
        exact V.sub (ih hk2) rfl ⟨rfl, rfl, (by first | rfl | (refine congrArg (fun z : Int32 => some (Value.int z)) ?_; simp [mkF, pSd, cp, c9, c30])), rfl, trivial⟩
  exact V.sub (lp 0 (Nat.zero_le _)) rfl ⟨rfl, rfl, (by first | rfl | (refine congrArg (fun z : Int32 => some (Value.int z)) ?_; rfl)), rfl, trivial⟩
set_option maxRecDepth 100000 in
set_option maxHeartbeats 4000000 in
theorem f_claims {Y : Yt} {M : Mm} {b n : Nat} (hb : isB b) (hz : M.1 b 1 = nI n) (hn : n ≤ 24) : Fn Y yX0_claims wsX0_claims { frames := 2, cells := 0, slots := 0, locals := 45 } [.ref (Y.2.2.2 b)] M (some (.int (mkF 0 (pTo (cp M b) (-6)) n))) M := by
  refine Fn.of (cc := cX0_claims) (ins := iX0_claims) (maxL := 1) (ret := (some .int)) (by decide) dX0_claims [some (.ref (Y.2.2.2 b))] (Nat.le_of_ble_eq_true rfl) rfl rfl ?_
  intro X hX hQ
  refine v_aload_n hX 0 0 rfl rfl rfl ?_
  refine v_bipush hX (v := (-6)) 1 rfl (by decide) ?_
  refine v_callV hX 1 (by have := isB_lt hb; omega) (cG_B hb) rfl (f_answersTo hb hz hn) tw_430 tw_450 tw_429 tw_25 tw_93 (by decide +kernel) ⟨⟨rfl, rfl⟩, Nat.le_of_ble_eq_true rfl, Nat.le_of_ble_eq_true rfl⟩ rfl (Nat.le_of_ble_eq_true rfl) rfl rfl 2 rfl ?_
  refine v_iret hX hQ rfl rfl ?_ ?_ 3 rfl
  · rfl
  · rfl
set_option maxRecDepth 100000 in
set_option maxHeartbeats 4000000 in
theorem f_struck {Y : Yt} {M : Mm} {b n : Nat} (hb : isB b) (hz : M.1 b 1 = nI n) (hn : n ≤ 24) : Fn Y yX0_struck wsX0_struck { frames := 1, cells := 0, slots := 0, locals := 21 } [.ref (Y.2.2.2 b)] M (some (.int (skA (cp M b) (M.1 b 5) n 2))) M := by
  refine Fn.of (cc := cX0_struck) (ins := iX0_struck) (maxL := 6) (ret := (some .int)) (by decide) dX0_struck [some (.ref (Y.2.2.2 b)), none, none, none, none, none] (Nat.le_of_ble_eq_true rfl) rfl rfl ?_
  intro X hX hQ
  refine v_iconst hX (v := 0) 0 rfl (by decide) ?_
  refine v_istore_n hX 1 1 rfl rfl (Nat.le_of_ble_eq_true rfl) rfl ?_
  refine v_iconst hX (v := 0) 2 rfl (by decide) ?_
  refine v_istore_n hX 2 3 rfl rfl (Nat.le_of_ble_eq_true rfl) rfl ?_
  have lp : ∀ (s : Nat), s ≤ 2 → V Y X M 4 [some (.ref (Y.2.2.2 b)), some (.int (skA (cp M b) (M.1 b 5) n s)), some (.int (nI s)), none, none, none] [] := by
    refine upTo 2 (fun s hs ih => ?_)
    refine v_iload_n hX 2 4 rfl rfl rfl ?_
    refine v_iconst hX (v := 1) 5 rfl (by decide) ?_
    refine v_icmp_gt hX (tgt := 100) 6 rfl (by decide) (fun c6 => ?_) (fun c6 => ?_)
    · skip
      have hs2 : s = 2 := by have := of_lt (a := 1) c6 (by omega) (by omega); omega
      refine v_iload_n hX 1 52 rfl rfl rfl ?_
      refine v_iret hX hQ rfl rfl ?_ ?_ 53 rfl
      · rw [hs2]
      · rfl
    · skip
      have hs2 : s < 2 := by have := of_nlt (a := 1) c6 (by omega) (by omega); omega
      refine v_iconst hX (v := 0) 7 rfl (by decide) ?_
      refine v_istore_n hX 3 8 rfl rfl (Nat.le_of_ble_eq_true rfl) rfl ?_
      refine v_iconst hX (v := 0) 9 rfl (by decide) ?_
      refine v_istore hX 10 rfl (Nat.le_of_ble_eq_true rfl) rfl ?_
      have lq : ∀ (k : Nat), k ≤ n → V Y X M 14 [some (.ref (Y.2.2.2 b)), some (.int (mkF (skA (cp M b) (M.1 b 5) n s) (stK (cp M b) (M.1 b 5) (nI s)) k)), some (.int (nI s)), some (.int (tk (cp M b) (M.1 b 5) (nI s) k)), some (.int (nI k)), none] [] := by
        refine upTo n (fun k hk ihi => ?_)
        refine v_iload hX 11 rfl rfl ?_
        refine v_aload_n hX 0 12 rfl rfl rfl ?_
        refine g_0_1 hX 13 hb tw_159 rfl ?_
        refine v_icmp_ge hX (tgt := 94) 14 rfl (by decide) (fun c20 => ?_) (fun c20 => ?_)
        · skip
          have hk2 : k = n := by rw [hz] at c20; have := of_le c20 (by omega) (by omega); omega
          refine v_iinc hX 50 rfl rfl (nI_inc s) (Nat.le_of_ble_eq_true rfl) rfl ?_
          refine v_goto hX (tgt := 4) 51 rfl (by decide) ?_
          exact V.sub (ih hs2) rfl ⟨rfl, (by first | rfl | (refine congrArg (fun z : Int32 => some (Value.int z)) ?_; rw [hk2]; rfl)), rfl, trivial⟩
        · skip
          have hk2 : k < n := by rw [hz] at c20; exact of_nle c20 (by omega) (by omega)
          refine v_aload_n hX 0 15 rfl rfl rfl ?_
          refine v_iload hX 16 rfl rfl ?_
          refine v_callV hX 1 (by have := isB_lt hb; omega) (cG_B hb) rfl (f_find_in hb hz hn hk2) tw_299 tw_296 tw_298 tw_3 tw_93 (by decide +kernel) ⟨⟨rfl, rfl⟩, Nat.le_of_ble_eq_true rfl, Nat.le_of_ble_eq_true rfl⟩ rfl (Nat.le_of_ble_eq_true rfl) rfl rfl 17 rfl ?_
          refine v_astore hX 18 rfl (Nat.le_of_ble_eq_true rfl) rfl ?_
          refine v_aload hX 19 rfl rfl ?_
          refine v_ifnull hX 20 rfl ?_
          refine v_aload hX 21 rfl rfl ?_
          refine gN_4_0 hX 22 hb (by omega) (List.mem_of_getElem? (i := 0) rfl) rfl ?_
          refine v_iload_n hX 2 23 rfl rfl rfl ?_
          refine v_icmp_ne hX (tgt := 88) 24 rfl (by decide) (fun c42 => ?_) (fun c42 => ?_)
          · skip
            refine v_iinc hX 48 rfl rfl (nI_inc k) (Nat.le_of_ble_eq_true rfl) rfl ?_
            refine v_goto hX (tgt := 14) 49 rfl (by decide) ?_
            exact V.sub (ihi hk2) rfl ⟨rfl, (by first | rfl | (refine congrArg (fun z : Int32 => some (Value.int z)) ?_; simp [mkF, stK, tk, cp, c6, c20, c42])), rfl, (by first | rfl | (refine congrArg (fun z : Int32 => some (Value.int z)) ?_; simp [mkF, stK, tk, cp, c6, c20, c42])), rfl, trivial⟩
          · skip
            refine v_aload hX 25 rfl rfl ?_
            refine gN_4_6 hX 26 hb (by omega) (List.mem_of_getElem? (i := 12) rfl) rfl ?_
            refine v_if_eq hX (tgt := 56) 27 rfl (by decide) (fun c50 => ?_) (fun c50 => ?_)
            · skip
              refine v_iload_n hX 3 29 rfl rfl rfl ?_
              refine v_aload hX 30 rfl rfl ?_
              refine gN_4_1 hX 31 hb (by omega) (List.mem_of_getElem? (i := 2) rfl) rfl ?_
              refine v_iadd hX 32 rfl ?_
              refine v_aload_n hX 0 33 rfl rfl rfl ?_
              refine g_0_5 hX 34 hb tw_167 rfl ?_
              refine v_icmp_le hX (tgt := 80) 35 rfl (by decide) (fun c67 => ?_) (fun c67 => ?_)
              · skip
                refine v_iload_n hX 3 43 rfl rfl rfl ?_
                refine v_aload hX 44 rfl rfl ?_
                refine gN_4_1 hX 45 hb (by omega) (List.mem_of_getElem? (i := 2) rfl) rfl ?_
                refine v_iadd hX 46 rfl ?_
                refine v_istore_n hX 3 47 rfl rfl (Nat.le_of_ble_eq_true rfl) rfl ?_
                refine v_iinc hX 48 rfl rfl (nI_inc k) (Nat.le_of_ble_eq_true rfl) rfl ?_
                refine v_goto hX (tgt := 14) 49 rfl (by decide) ?_
                exact V.sub (ihi hk2) rfl ⟨rfl, (by first | rfl | (refine congrArg (fun z : Int32 => some (Value.int z)) ?_; simp [mkF, stK, tk, cp, c6, c20, c42, c50, c67])), rfl, (by first | rfl | (refine congrArg (fun z : Int32 => some (Value.int z)) ?_; simp [mkF, stK, tk, cp, c6, c20, c42, c50, c67])), rfl, trivial⟩
              · skip
                refine v_iload_n hX 1 36 rfl rfl rfl ?_
                refine v_iconst hX (v := 1) 37 rfl (by decide) ?_
                refine v_iload hX 38 rfl rfl ?_
                refine v_ishl hX 39 rfl ?_
                refine v_ior hX 40 rfl ?_
                refine v_istore_n hX 1 41 rfl rfl (Nat.le_of_ble_eq_true rfl) rfl ?_
                refine v_goto hX (tgt := 88) 42 rfl (by decide) ?_
                refine v_iinc hX 48 rfl rfl (nI_inc k) (Nat.le_of_ble_eq_true rfl) rfl ?_
                refine v_goto hX (tgt := 14) 49 rfl (by decide) ?_
                exact V.sub (ihi hk2) rfl ⟨rfl, (by first | rfl | (refine congrArg (fun z : Int32 => some (Value.int z)) ?_; simp [mkF, stK, tk, cp, c6, c20, c42, c50, c67])), rfl, (by first | rfl | (refine congrArg (fun z : Int32 => some (Value.int z)) ?_; simp [mkF, stK, tk, cp, c6, c20, c42, c50, c67])), rfl, trivial⟩
            · skip
              refine v_goto hX (tgt := 88) 28 rfl (by decide) ?_
              refine v_iinc hX 48 rfl rfl (nI_inc k) (Nat.le_of_ble_eq_true rfl) rfl ?_
              refine v_goto hX (tgt := 14) 49 rfl (by decide) ?_
              exact V.sub (ihi hk2) rfl ⟨rfl, (by first | rfl | (refine congrArg (fun z : Int32 => some (Value.int z)) ?_; simp [mkF, stK, tk, cp, c6, c20, c42, c50])), rfl, (by first | rfl | (refine congrArg (fun z : Int32 => some (Value.int z)) ?_; simp [mkF, stK, tk, cp, c6, c20, c42, c50])), rfl, trivial⟩
      exact V.sub (lq 0 (Nat.zero_le _)) rfl ⟨rfl, (by first | rfl | (refine congrArg (fun z : Int32 => some (Value.int z)) ?_; simp [mkF, stK, tk, cp, c6])), rfl, (by first | rfl | (refine congrArg (fun z : Int32 => some (Value.int z)) ?_; simp [mkF, stK, tk, cp, c6])), rfl, trivial⟩
  exact V.sub (lp 0 (Nat.zero_le _)) rfl ⟨rfl, (by first | rfl | (refine congrArg (fun z : Int32 => some (Value.int z)) ?_; rfl)), rfl, trivial⟩
set_option maxRecDepth 100000 in
set_option maxHeartbeats 4000000 in
theorem f_out {Y : Yt} {M : Mm} {b n : Nat} (hb : isB b) (hz : M.1 b 1 = nI n) (hn : n ≤ 24) (hw : WF (cp M b) n) : Fn Y yX0_out wsX0_out { frames := 2, cells := 0, slots := 0, locals := 46 } [.ref (Y.2.2.2 b)] M (some (.int (mk (bOut M b) n))) M := by
  refine Fn.of (cc := cX0_out) (ins := iX0_out) (maxL := 1) (ret := (some .int)) (by decide) dX0_out [some (.ref (Y.2.2.2 b))] (Nat.le_of_ble_eq_true rfl) rfl rfl ?_
  intro X hX hQ
  refine v_aload_n hX 0 0 rfl rfl rfl ?_
  refine v_callV hX 0 (by have := isB_lt hb; omega) (cG_B hb) rfl (f_withdrawn hb hz hn) tw_362 tw_359 tw_361 tw_15 tw_93 (by decide +kernel) ⟨⟨rfl, rfl⟩, Nat.le_of_ble_eq_true rfl, Nat.le_of_ble_eq_true rfl⟩ rfl (Nat.le_of_ble_eq_true rfl) rfl rfl 1 rfl ?_
  refine v_aload_n hX 0 2 rfl rfl rfl ?_
  refine v_callV hX 0 (by have := isB_lt hb; omega) (cG_B hb) rfl (f_struck hb hz hn) tw_366 tw_363 tw_365 tw_16 tw_93 (by decide +kernel) ⟨⟨rfl, rfl⟩, Nat.le_of_ble_eq_true rfl, Nat.le_of_ble_eq_true rfl⟩ rfl (Nat.le_of_ble_eq_true rfl) rfl rfl 3 rfl ?_
  refine v_ior hX 4 rfl ?_
  refine v_aload_n hX 0 5 rfl rfl rfl ?_
  refine v_aload_n hX 0 6 rfl rfl rfl ?_
  refine g_0_2 hX 7 hb tw_161 rfl ?_
  refine v_callV hX 1 (by have := isB_lt hb; omega) (cG_B hb) rfl (f_lapsedOn hb hz hn) tw_370 tw_367 tw_369 tw_17 tw_93 (by decide +kernel) ⟨⟨rfl, rfl⟩, Nat.le_of_ble_eq_true rfl, Nat.le_of_ble_eq_true rfl⟩ rfl (Nat.le_of_ble_eq_true rfl) rfl rfl 8 rfl ?_
  refine v_ior hX 9 rfl ?_
  refine v_aload_n hX 0 10 rfl rfl rfl ?_
  refine v_callV hX 0 (by have := isB_lt hb; omega) (cG_B hb) rfl (f_baseless hb hz hn) tw_374 tw_371 tw_373 tw_18 tw_93 (by decide +kernel) ⟨⟨rfl, rfl⟩, Nat.le_of_ble_eq_true rfl, Nat.le_of_ble_eq_true rfl⟩ rfl (Nat.le_of_ble_eq_true rfl) rfl rfl 11 rfl ?_
  refine v_ior hX 12 rfl ?_
  refine v_iret hX hQ rfl rfl ?_ ?_ 13 rfl
  · rw [out_mk hw hn]
  · rfl
set_option maxRecDepth 100000 in
set_option maxHeartbeats 4000000 in
theorem f_targetOf {Y : Yt} {M : Mm} {b n i : Nat} (hb : isB b) (hz : M.1 b 1 = nI n) (hn : n ≤ 24) (hi : i < n) : Fn Y yX0_targetOf wsX0_targetOf { frames := 1, cells := 0, slots := 0, locals := 21 } [.ref (Y.2.2.2 b), .int (nI i)] M (some (.int (tgt (cp M b) i))) M := by
  refine Fn.of (cc := cX0_targetOf) (ins := iX0_targetOf) (maxL := 3) (ret := (some .int)) (by decide) dX0_targetOf [some (.ref (Y.2.2.2 b)), some (.int (nI i)), none] (Nat.le_of_ble_eq_true rfl) rfl rfl ?_
  intro X hX hQ
  refine v_aload_n hX 0 0 rfl rfl rfl ?_
  refine v_iload_n hX 1 1 rfl rfl rfl ?_
  refine v_callV hX 1 (by have := isB_lt hb; omega) (cG_B hb) rfl (f_find_in hb hz hn hi) tw_299 tw_296 tw_298 tw_3 tw_93 (by decide +kernel) ⟨⟨rfl, rfl⟩, Nat.le_of_ble_eq_true rfl, Nat.le_of_ble_eq_true rfl⟩ rfl (Nat.le_of_ble_eq_true rfl) rfl rfl 2 rfl ?_
  refine v_astore_n hX 2 3 rfl rfl (Nat.le_of_ble_eq_true rfl) rfl ?_
  refine v_aload_n hX 2 4 rfl rfl rfl ?_
  refine v_ifnull hX 5 rfl ?_
  refine v_aload_n hX 2 6 rfl rfl rfl ?_
  refine gN_4_3 hX 7 hb (by omega) (List.mem_of_getElem? (i := 7) rfl) rfl ?_
  refine v_bipush hX (v := (-6)) 8 rfl (by decide) ?_
  refine v_icmp_ne hX (tgt := 23) 9 rfl (by decide) (fun c16 => ?_) (fun c16 => ?_)
  · skip
    refine v_iconst hX (v := 1) 12 rfl (by decide) ?_
    refine v_aload_n hX 2 13 rfl rfl rfl ?_
    refine gN_4_3 hX 14 hb (by omega) (List.mem_of_getElem? (i := 7) rfl) rfl ?_
    refine v_ishl hX 15 rfl ?_
    refine v_iret hX hQ rfl rfl ?_ ?_ 16 rfl
    · simp [tgt, cp, c16]
    · rfl
  · skip
    refine v_iconst hX (v := 0) 10 rfl (by decide) ?_
    refine v_goto hX (tgt := 29) 11 rfl (by decide) ?_
    refine v_iret hX hQ rfl rfl ?_ ?_ 16 rfl
    · simp [tgt, cp, c16]
    · rfl
set_option maxRecDepth 100000 in
set_option maxHeartbeats 4000000 in
theorem f_freeRow_in {Y : Yt} {M : Mm} {b n : Nat} (hb : isB b) (hz : M.1 b 1 = nI n) (hn : n < 24) : Fn Y yX0_freeRow wsX0_freeRow { frames := 0, cells := 0, slots := 0, locals := 0 } [.ref (Y.2.2.2 b)] M (some (.ref (Y.2.2.2 (b + 2 + n)))) M := by
  refine Fn.of (cc := cX0_freeRow) (ins := iX0_freeRow) (maxL := 1) (ret := (some (.object "PointAnswers$Point"))) (by decide) dX0_freeRow [some (.ref (Y.2.2.2 b))] (Nat.le_of_ble_eq_true rfl) rfl rfl ?_
  intro X hX hQ
  refine v_aload_n hX 0 0 rfl rfl rfl ?_
  refine g_0_1 hX 1 hb tw_159 rfl ?_
  refine v_if_lt hX (tgt := 31) 2 rfl (by decide) (fun c4 => absurd c4 (by rw [hz]; exact nI_pos (by omega))) (fun c4 => ?_)
  refine v_aload_n hX 0 3 rfl rfl rfl ?_
  refine g_0_1 hX 4 hb tw_159 rfl ?_
  refine v_aload_n hX 0 5 rfl rfl rfl ?_
  refine g_0_0 hX 6 hb tw_158 rfl ?_
  refine v_alen hX (v := nI 24) (k := b + 1) (by have := isB_lt hb; omega) (cG_R hb) rfl rfl 7 rfl ?_
  refine v_icmp_ge hX (tgt := 31) 8 rfl (by decide) (fun c16 => absurd c16 (by rw [hz]; exact nI_ge hn (by omega))) (fun c16 => ?_)
  refine v_aload_n hX 0 9 rfl rfl rfl ?_
  refine g_0_0 hX 10 hb tw_158 rfl ?_
  refine v_aload_n hX 0 11 rfl rfl rfl ?_
  refine g_0_1 hX 12 hb tw_159 rfl ?_
  refine v_aald hX (k := b + 1) (v := Y.2.2.2 (b + 2 + n)) (by have := isB_lt hb; omega) (cG_R hb) rfl (by rw [hz]; exact vp_in_nI hn (by decide)) (by rw [hz, nI_clamp (by omega)]) 13 rfl ?_
  refine v_goto hX (tgt := 32) 14 rfl (by decide) ?_
  refine v_aret hX hQ rfl (Or.inl ⟨_, rfl⟩) (Or.inr ⟨_, rfl⟩) ?_ ?_ 16 rfl
  · rfl
  · rfl
set_option maxRecDepth 100000 in
set_option maxHeartbeats 4000000 in
theorem f_freeRow_out {Y : Yt} {M : Mm} {b n : Nat} (hb : isB b) (hz : M.1 b 1 = nI n) (hn : n = 24) : Fn Y yX0_freeRow wsX0_freeRow { frames := 0, cells := 0, slots := 0, locals := 0 } [.ref (Y.2.2.2 b)] M (some .null) M := by
  refine Fn.of (cc := cX0_freeRow) (ins := iX0_freeRow) (maxL := 1) (ret := (some (.object "PointAnswers$Point"))) (by decide) dX0_freeRow [some (.ref (Y.2.2.2 b))] (Nat.le_of_ble_eq_true rfl) rfl rfl ?_
  intro X hX hQ
  refine v_aload_n hX 0 0 rfl rfl rfl ?_
  refine g_0_1 hX 1 hb tw_159 rfl ?_
  refine v_if_lt hX (tgt := 31) 2 rfl (by decide) (fun c4 => absurd c4 (by rw [hz]; exact nI_pos (by omega))) (fun c4 => ?_)
  refine v_aload_n hX 0 3 rfl rfl rfl ?_
  refine g_0_1 hX 4 hb tw_159 rfl ?_
  refine v_aload_n hX 0 5 rfl rfl rfl ?_
  refine g_0_0 hX 6 hb tw_158 rfl ?_
  refine v_alen hX (v := nI 24) (k := b + 1) (by have := isB_lt hb; omega) (cG_R hb) rfl rfl 7 rfl ?_
  refine v_icmp_ge hX (tgt := 31) 8 rfl (by decide) (fun c16 => ?_) (fun c16 => absurd (by rw [hz]; exact nI_le (by omega) (by omega)) c16)
  refine v_null hX 15 rfl ?_
  refine v_aret hX hQ rfl (Or.inl ⟨_, rfl⟩) (Or.inl rfl) ?_ ?_ 16 rfl
  · rfl
  · rfl
set_option maxRecDepth 100000 in
set_option maxHeartbeats 4000000 in
theorem f_adjust {Y : Yt} {M : Mm} {s v : Int32} {b : Nat} (hb : isB b) : Fn Y yX0_adjust wsX0_adjust { frames := 0, cells := 0, slots := 0, locals := 0 } [.ref (Y.2.2.2 b), .int s, .int v] M (some (.int (adR M b s v))) ((adM M b s v)) := by
  refine Fn.of (cc := cX0_adjust) (ins := iX0_adjust) (maxL := 4) (ret := (some .int)) (by decide) dX0_adjust [some (.ref (Y.2.2.2 b)), some (.int s), some (.int v), none] (Nat.le_of_ble_eq_true rfl) rfl rfl ?_
  intro X hX hQ
  refine v_bipush hX (v := (-2)) 0 rfl (by decide) ?_
  refine v_istore_n hX 3 1 rfl rfl (Nat.le_of_ble_eq_true rfl) rfl ?_
  refine v_iload_n hX 1 2 rfl rfl rfl ?_
  refine v_if_ne hX (tgt := 28) 3 rfl (by decide) (fun c4 => ?_) (fun c4 => ?_)
  · skip
    refine v_iload_n hX 1 16 rfl rfl rfl ?_
    refine v_iconst hX (v := 1) 17 rfl (by decide) ?_
    refine v_icmp_ne hX (tgt := 54) 18 rfl (by decide) (fun c30 => ?_) (fun c30 => ?_)
    · skip
      refine v_iload_n hX 3 31 rfl rfl rfl ?_
      refine v_iret hX hQ rfl rfl ?_ ?_ 32 rfl
      · first | (simp (decide := true) only [adR, c4, c30, not_true_eq_false, not_false_eq_true, and_true, true_and, and_false, false_and, or_true, true_or, or_false, false_or, and_self, or_self, if_true, if_false, ite_true, ite_false, reduceIte, eq_self, ne_eq]; done) | exact absurd (c4.symm.trans c30) (by decide)
      · first | (simp (decide := true) only [adM, c4, c30, not_true_eq_false, not_false_eq_true, and_true, true_and, and_false, false_and, or_true, true_or, or_false, false_or, and_self, or_self, if_true, if_false, ite_true, ite_false, reduceIte, eq_self, ne_eq]; done) | exact absurd (c4.symm.trans c30) (by decide)
    · skip
      refine v_iload_n hX 2 19 rfl rfl rfl ?_
      refine v_iconst hX (v := 1) 20 rfl (by decide) ?_
      refine v_icmp_lt hX (tgt := 54) 21 rfl (by decide) (fun c35 => ?_) (fun c35 => ?_)
      · skip
        refine v_iload_n hX 3 31 rfl rfl rfl ?_
        refine v_iret hX hQ rfl rfl ?_ ?_ 32 rfl
        · first | (simp (decide := true) only [adR, c4, c30, c35, not_true_eq_false, not_false_eq_true, and_true, true_and, and_false, false_and, or_true, true_or, or_false, false_or, and_self, or_self, if_true, if_false, ite_true, ite_false, reduceIte, eq_self, ne_eq]; done) | exact absurd (c4.symm.trans c30) (by decide)
        · first | (simp (decide := true) only [adM, c4, c30, c35, not_true_eq_false, not_false_eq_true, and_true, true_and, and_false, false_and, or_true, true_or, or_false, false_or, and_self, or_self, if_true, if_false, ite_true, ite_false, reduceIte, eq_self, ne_eq]; done) | exact absurd (c4.symm.trans c30) (by decide)
      · skip
        refine v_iload_n hX 2 22 rfl rfl rfl ?_
        refine v_bipush hX (v := 99) 23 rfl (by decide) ?_
        refine v_icmp_gt hX (tgt := 54) 24 rfl (by decide) (fun c41 => ?_) (fun c41 => ?_)
        · skip
          refine v_iload_n hX 3 31 rfl rfl rfl ?_
          refine v_iret hX hQ rfl rfl ?_ ?_ 32 rfl
          · first | (simp (decide := true) only [adR, c4, c30, c35, c41, not_true_eq_false, not_false_eq_true, and_true, true_and, and_false, false_and, or_true, true_or, or_false, false_or, and_self, or_self, if_true, if_false, ite_true, ite_false, reduceIte, eq_self, ne_eq]; done) | exact absurd (c4.symm.trans c30) (by decide)
          · first | (simp (decide := true) only [adM, c4, c30, c35, c41, not_true_eq_false, not_false_eq_true, and_true, true_and, and_false, false_and, or_true, true_or, or_false, false_or, and_self, or_self, if_true, if_false, ite_true, ite_false, reduceIte, eq_self, ne_eq]; done) | exact absurd (c4.symm.trans c30) (by decide)
        · skip
          refine v_aload_n hX 0 25 rfl rfl rfl ?_
          refine g_0_5 hX 26 hb tw_167 rfl ?_
          refine v_istore_n hX 3 27 rfl rfl (Nat.le_of_ble_eq_true rfl) rfl ?_
          refine v_aload_n hX 0 28 rfl rfl rfl ?_
          refine v_iload_n hX 2 29 rfl rfl rfl ?_
          refine p_0_5 hX 30 hb  tw_167 rfl ?_
          refine v_iload_n hX 3 31 rfl rfl rfl ?_
          refine v_iret hX hQ rfl rfl ?_ ?_ 32 rfl
          · first | (simp (decide := true) only [adR, c4, c30, c35, c41, not_true_eq_false, not_false_eq_true, and_true, true_and, and_false, false_and, or_true, true_or, or_false, false_or, and_self, or_self, if_true, if_false, ite_true, ite_false, reduceIte, eq_self, ne_eq]; done) | exact absurd (c4.symm.trans c30) (by decide)
          · first | (simp (decide := true) only [adM, c4, c30, c35, c41, not_true_eq_false, not_false_eq_true, and_true, true_and, and_false, false_and, or_true, true_or, or_false, false_or, and_self, or_self, if_true, if_false, ite_true, ite_false, reduceIte, eq_self, ne_eq]; done) | exact absurd (c4.symm.trans c30) (by decide)
  · skip
    refine v_iload_n hX 2 4 rfl rfl rfl ?_
    refine v_iconst hX (v := 1) 5 rfl (by decide) ?_
    refine v_icmp_lt hX (tgt := 28) 6 rfl (by decide) (fun c9 => ?_) (fun c9 => ?_)
    · skip
      refine v_iload_n hX 1 16 rfl rfl rfl ?_
      refine v_iconst hX (v := 1) 17 rfl (by decide) ?_
      refine v_icmp_ne hX (tgt := 54) 18 rfl (by decide) (fun c30 => ?_) (fun c30 => ?_)
      · skip
        refine v_iload_n hX 3 31 rfl rfl rfl ?_
        refine v_iret hX hQ rfl rfl ?_ ?_ 32 rfl
        · first | (simp (decide := true) only [adR, c4, c9, c30, not_true_eq_false, not_false_eq_true, and_true, true_and, and_false, false_and, or_true, true_or, or_false, false_or, and_self, or_self, if_true, if_false, ite_true, ite_false, reduceIte, eq_self, ne_eq]; done) | exact absurd (c4.symm.trans c30) (by decide)
        · first | (simp (decide := true) only [adM, c4, c9, c30, not_true_eq_false, not_false_eq_true, and_true, true_and, and_false, false_and, or_true, true_or, or_false, false_or, and_self, or_self, if_true, if_false, ite_true, ite_false, reduceIte, eq_self, ne_eq]; done) | exact absurd (c4.symm.trans c30) (by decide)
      · skip
        refine v_iload_n hX 2 19 rfl rfl rfl ?_
        refine v_iconst hX (v := 1) 20 rfl (by decide) ?_
        refine v_icmp_lt hX (tgt := 54) 21 rfl (by decide) (fun c35 => ?_) (fun c35 => ?_)
        · skip
          refine v_iload_n hX 3 31 rfl rfl rfl ?_
          refine v_iret hX hQ rfl rfl ?_ ?_ 32 rfl
          · first | (simp (decide := true) only [adR, c4, c9, c30, c35, not_true_eq_false, not_false_eq_true, and_true, true_and, and_false, false_and, or_true, true_or, or_false, false_or, and_self, or_self, if_true, if_false, ite_true, ite_false, reduceIte, eq_self, ne_eq]; done) | exact absurd (c4.symm.trans c30) (by decide)
          · first | (simp (decide := true) only [adM, c4, c9, c30, c35, not_true_eq_false, not_false_eq_true, and_true, true_and, and_false, false_and, or_true, true_or, or_false, false_or, and_self, or_self, if_true, if_false, ite_true, ite_false, reduceIte, eq_self, ne_eq]; done) | exact absurd (c4.symm.trans c30) (by decide)
        · skip
          refine v_iload_n hX 2 22 rfl rfl rfl ?_
          refine v_bipush hX (v := 99) 23 rfl (by decide) ?_
          refine v_icmp_gt hX (tgt := 54) 24 rfl (by decide) (fun c41 => ?_) (fun c41 => ?_)
          · skip
            refine v_iload_n hX 3 31 rfl rfl rfl ?_
            refine v_iret hX hQ rfl rfl ?_ ?_ 32 rfl
            · first | (simp (decide := true) only [adR, c4, c9, c30, c35, c41, not_true_eq_false, not_false_eq_true, and_true, true_and, and_false, false_and, or_true, true_or, or_false, false_or, and_self, or_self, if_true, if_false, ite_true, ite_false, reduceIte, eq_self, ne_eq]; done) | exact absurd (c4.symm.trans c30) (by decide)
            · first | (simp (decide := true) only [adM, c4, c9, c30, c35, c41, not_true_eq_false, not_false_eq_true, and_true, true_and, and_false, false_and, or_true, true_or, or_false, false_or, and_self, or_self, if_true, if_false, ite_true, ite_false, reduceIte, eq_self, ne_eq]; done) | exact absurd (c4.symm.trans c30) (by decide)
          · skip
            refine v_aload_n hX 0 25 rfl rfl rfl ?_
            refine g_0_5 hX 26 hb tw_167 rfl ?_
            refine v_istore_n hX 3 27 rfl rfl (Nat.le_of_ble_eq_true rfl) rfl ?_
            refine v_aload_n hX 0 28 rfl rfl rfl ?_
            refine v_iload_n hX 2 29 rfl rfl rfl ?_
            refine p_0_5 hX 30 hb  tw_167 rfl ?_
            refine v_iload_n hX 3 31 rfl rfl rfl ?_
            refine v_iret hX hQ rfl rfl ?_ ?_ 32 rfl
            · first | (simp (decide := true) only [adR, c4, c9, c30, c35, c41, not_true_eq_false, not_false_eq_true, and_true, true_and, and_false, false_and, or_true, true_or, or_false, false_or, and_self, or_self, if_true, if_false, ite_true, ite_false, reduceIte, eq_self, ne_eq]; done) | exact absurd (c4.symm.trans c30) (by decide)
            · first | (simp (decide := true) only [adM, c4, c9, c30, c35, c41, not_true_eq_false, not_false_eq_true, and_true, true_and, and_false, false_and, or_true, true_or, or_false, false_or, and_self, or_self, if_true, if_false, ite_true, ite_false, reduceIte, eq_self, ne_eq]; done) | exact absurd (c4.symm.trans c30) (by decide)
    · skip
      refine v_iload_n hX 2 7 rfl rfl rfl ?_
      refine v_bipush hX (v := 60) 8 rfl (by decide) ?_
      refine v_icmp_gt hX (tgt := 28) 9 rfl (by decide) (fun c15 => ?_) (fun c15 => ?_)
      · skip
        refine v_iload_n hX 1 16 rfl rfl rfl ?_
        refine v_iconst hX (v := 1) 17 rfl (by decide) ?_
        refine v_icmp_ne hX (tgt := 54) 18 rfl (by decide) (fun c30 => ?_) (fun c30 => ?_)
        · skip
          refine v_iload_n hX 3 31 rfl rfl rfl ?_
          refine v_iret hX hQ rfl rfl ?_ ?_ 32 rfl
          · first | (simp (decide := true) only [adR, c4, c9, c15, c30, not_true_eq_false, not_false_eq_true, and_true, true_and, and_false, false_and, or_true, true_or, or_false, false_or, and_self, or_self, if_true, if_false, ite_true, ite_false, reduceIte, eq_self, ne_eq]; done) | exact absurd (c4.symm.trans c30) (by decide)
          · first | (simp (decide := true) only [adM, c4, c9, c15, c30, not_true_eq_false, not_false_eq_true, and_true, true_and, and_false, false_and, or_true, true_or, or_false, false_or, and_self, or_self, if_true, if_false, ite_true, ite_false, reduceIte, eq_self, ne_eq]; done) | exact absurd (c4.symm.trans c30) (by decide)
        · skip
          refine v_iload_n hX 2 19 rfl rfl rfl ?_
          refine v_iconst hX (v := 1) 20 rfl (by decide) ?_
          refine v_icmp_lt hX (tgt := 54) 21 rfl (by decide) (fun c35 => ?_) (fun c35 => ?_)
          · skip
            refine v_iload_n hX 3 31 rfl rfl rfl ?_
            refine v_iret hX hQ rfl rfl ?_ ?_ 32 rfl
            · first | (simp (decide := true) only [adR, c4, c9, c15, c30, c35, not_true_eq_false, not_false_eq_true, and_true, true_and, and_false, false_and, or_true, true_or, or_false, false_or, and_self, or_self, if_true, if_false, ite_true, ite_false, reduceIte, eq_self, ne_eq]; done) | exact absurd (c4.symm.trans c30) (by decide)
            · first | (simp (decide := true) only [adM, c4, c9, c15, c30, c35, not_true_eq_false, not_false_eq_true, and_true, true_and, and_false, false_and, or_true, true_or, or_false, false_or, and_self, or_self, if_true, if_false, ite_true, ite_false, reduceIte, eq_self, ne_eq]; done) | exact absurd (c4.symm.trans c30) (by decide)
          · skip
            refine v_iload_n hX 2 22 rfl rfl rfl ?_
            refine v_bipush hX (v := 99) 23 rfl (by decide) ?_
            refine v_icmp_gt hX (tgt := 54) 24 rfl (by decide) (fun c41 => ?_) (fun c41 => ?_)
            · skip
              refine v_iload_n hX 3 31 rfl rfl rfl ?_
              refine v_iret hX hQ rfl rfl ?_ ?_ 32 rfl
              · first | (simp (decide := true) only [adR, c4, c9, c15, c30, c35, c41, not_true_eq_false, not_false_eq_true, and_true, true_and, and_false, false_and, or_true, true_or, or_false, false_or, and_self, or_self, if_true, if_false, ite_true, ite_false, reduceIte, eq_self, ne_eq]; done) | exact absurd (c4.symm.trans c30) (by decide)
              · first | (simp (decide := true) only [adM, c4, c9, c15, c30, c35, c41, not_true_eq_false, not_false_eq_true, and_true, true_and, and_false, false_and, or_true, true_or, or_false, false_or, and_self, or_self, if_true, if_false, ite_true, ite_false, reduceIte, eq_self, ne_eq]; done) | exact absurd (c4.symm.trans c30) (by decide)
            · skip
              refine v_aload_n hX 0 25 rfl rfl rfl ?_
              refine g_0_5 hX 26 hb tw_167 rfl ?_
              refine v_istore_n hX 3 27 rfl rfl (Nat.le_of_ble_eq_true rfl) rfl ?_
              refine v_aload_n hX 0 28 rfl rfl rfl ?_
              refine v_iload_n hX 2 29 rfl rfl rfl ?_
              refine p_0_5 hX 30 hb  tw_167 rfl ?_
              refine v_iload_n hX 3 31 rfl rfl rfl ?_
              refine v_iret hX hQ rfl rfl ?_ ?_ 32 rfl
              · first | (simp (decide := true) only [adR, c4, c9, c15, c30, c35, c41, not_true_eq_false, not_false_eq_true, and_true, true_and, and_false, false_and, or_true, true_or, or_false, false_or, and_self, or_self, if_true, if_false, ite_true, ite_false, reduceIte, eq_self, ne_eq]; done) | exact absurd (c4.symm.trans c30) (by decide)
              · first | (simp (decide := true) only [adM, c4, c9, c15, c30, c35, c41, not_true_eq_false, not_false_eq_true, and_true, true_and, and_false, false_and, or_true, true_or, or_false, false_or, and_self, or_self, if_true, if_false, ite_true, ite_false, reduceIte, eq_self, ne_eq]; done) | exact absurd (c4.symm.trans c30) (by decide)
      · skip
        refine v_aload_n hX 0 10 rfl rfl rfl ?_
        refine g_0_4 hX 11 hb tw_165 rfl ?_
        refine v_istore_n hX 3 12 rfl rfl (Nat.le_of_ble_eq_true rfl) rfl ?_
        refine v_aload_n hX 0 13 rfl rfl rfl ?_
        refine v_iload_n hX 2 14 rfl rfl rfl ?_
        refine p_0_4 hX 15 hb  tw_165 rfl ?_
        refine v_iload_n hX 1 16 rfl rfl rfl ?_
        refine v_iconst hX (v := 1) 17 rfl (by decide) ?_
        refine v_icmp_ne hX (tgt := 54) 18 rfl (by decide) (fun c30 => ?_) (fun c30 => ?_)
        · skip
          refine v_iload_n hX 3 31 rfl rfl rfl ?_
          refine v_iret hX hQ rfl rfl ?_ ?_ 32 rfl
          · first | (simp (decide := true) only [adR, c4, c9, c15, c30, not_true_eq_false, not_false_eq_true, and_true, true_and, and_false, false_and, or_true, true_or, or_false, false_or, and_self, or_self, if_true, if_false, ite_true, ite_false, reduceIte, eq_self, ne_eq]; done) | exact absurd (c4.symm.trans c30) (by decide)
          · first | (simp (decide := true) only [adM, c4, c9, c15, c30, not_true_eq_false, not_false_eq_true, and_true, true_and, and_false, false_and, or_true, true_or, or_false, false_or, and_self, or_self, if_true, if_false, ite_true, ite_false, reduceIte, eq_self, ne_eq]; done) | exact absurd (c4.symm.trans c30) (by decide)
        · skip
          refine v_iload_n hX 2 19 rfl rfl rfl ?_
          refine v_iconst hX (v := 1) 20 rfl (by decide) ?_
          refine v_icmp_lt hX (tgt := 54) 21 rfl (by decide) (fun c35 => ?_) (fun c35 => ?_)
          · skip
            refine v_iload_n hX 3 31 rfl rfl rfl ?_
            refine v_iret hX hQ rfl rfl ?_ ?_ 32 rfl
            · first | (simp (decide := true) only [adR, c4, c9, c15, c30, c35, not_true_eq_false, not_false_eq_true, and_true, true_and, and_false, false_and, or_true, true_or, or_false, false_or, and_self, or_self, if_true, if_false, ite_true, ite_false, reduceIte, eq_self, ne_eq]; done) | exact absurd (c4.symm.trans c30) (by decide)
            · first | (simp (decide := true) only [adM, c4, c9, c15, c30, c35, not_true_eq_false, not_false_eq_true, and_true, true_and, and_false, false_and, or_true, true_or, or_false, false_or, and_self, or_self, if_true, if_false, ite_true, ite_false, reduceIte, eq_self, ne_eq]; done) | exact absurd (c4.symm.trans c30) (by decide)
          · skip
            refine v_iload_n hX 2 22 rfl rfl rfl ?_
            refine v_bipush hX (v := 99) 23 rfl (by decide) ?_
            refine v_icmp_gt hX (tgt := 54) 24 rfl (by decide) (fun c41 => ?_) (fun c41 => ?_)
            · skip
              refine v_iload_n hX 3 31 rfl rfl rfl ?_
              refine v_iret hX hQ rfl rfl ?_ ?_ 32 rfl
              · first | (simp (decide := true) only [adR, c4, c9, c15, c30, c35, c41, not_true_eq_false, not_false_eq_true, and_true, true_and, and_false, false_and, or_true, true_or, or_false, false_or, and_self, or_self, if_true, if_false, ite_true, ite_false, reduceIte, eq_self, ne_eq]; done) | exact absurd (c4.symm.trans c30) (by decide)
              · first | (simp (decide := true) only [adM, c4, c9, c15, c30, c35, c41, not_true_eq_false, not_false_eq_true, and_true, true_and, and_false, false_and, or_true, true_or, or_false, false_or, and_self, or_self, if_true, if_false, ite_true, ite_false, reduceIte, eq_self, ne_eq]; done) | exact absurd (c4.symm.trans c30) (by decide)
            · skip
              refine v_aload_n hX 0 25 rfl rfl rfl ?_
              refine g_0_5 hX 26 hb tw_167 rfl ?_
              refine v_istore_n hX 3 27 rfl rfl (Nat.le_of_ble_eq_true rfl) rfl ?_
              refine v_aload_n hX 0 28 rfl rfl rfl ?_
              refine v_iload_n hX 2 29 rfl rfl rfl ?_
              refine p_0_5 hX 30 hb  tw_167 rfl ?_
              refine v_iload_n hX 3 31 rfl rfl rfl ?_
              refine v_iret hX hQ rfl rfl ?_ ?_ 32 rfl
              · first | (simp (decide := true) only [adR, c4, c9, c15, c30, c35, c41, not_true_eq_false, not_false_eq_true, and_true, true_and, and_false, false_and, or_true, true_or, or_false, false_or, and_self, or_self, if_true, if_false, ite_true, ite_false, reduceIte, eq_self, ne_eq]; done) | exact absurd (c4.symm.trans c30) (by decide)
              · first | (simp (decide := true) only [adM, c4, c9, c15, c30, c35, c41, not_true_eq_false, not_false_eq_true, and_true, true_and, and_false, false_and, or_true, true_or, or_false, false_or, and_self, or_self, if_true, if_false, ite_true, ite_false, reduceIte, eq_self, ne_eq]; done) | exact absurd (c4.symm.trans c30) (by decide)
set_option maxRecDepth 100000 in
set_option maxHeartbeats 4000000 in
theorem f_canBeFiled {Y : Yt} {M : Mm} {p c : Int32} : Fn Y yX0_canBeFiled wsX0_canBeFiled { frames := 0, cells := 0, slots := 0, locals := 0 } [.int p, .int c] M (some (.int (cbf p c))) M := by
  refine Fn.of (cc := cX0_canBeFiled) (ins := iX0_canBeFiled) (maxL := 2) (ret := (some .boolean)) (by decide) dX0_canBeFiled [some (.int p), some (.int c)] (Nat.le_of_ble_eq_true rfl) rfl rfl ?_
  intro X hX hQ
  refine v_iload_n hX 0 0 rfl rfl rfl ?_
  refine v_iconst hX (v := 1) 1 rfl (by decide) ?_
  refine v_icmp_lt hX (tgt := 26) 2 rfl (by decide) (fun c2 => ?_) (fun c2 => ?_)
  · skip
    refine v_iconst hX (v := 0) 13 rfl (by decide) ?_
    refine v_iret hX hQ rfl rfl ?_ ?_ 14 rfl
    · simp [cbf, c2]
    · rfl
  · skip
    refine v_iload_n hX 0 3 rfl rfl rfl ?_
    refine v_bipush hX (v := 9) 4 rfl (by decide) ?_
    refine v_icmp_gt hX (tgt := 26) 5 rfl (by decide) (fun c8 => ?_) (fun c8 => ?_)
    · skip
      refine v_iconst hX (v := 0) 13 rfl (by decide) ?_
      refine v_iret hX hQ rfl rfl ?_ ?_ 14 rfl
      · simp [cbf, c2, c8]
      · rfl
    · skip
      refine v_iload_n hX 1 6 rfl rfl rfl ?_
      refine v_if_lt hX (tgt := 26) 7 rfl (by decide) (fun c12 => ?_) (fun c12 => ?_)
      · skip
        refine v_iconst hX (v := 0) 13 rfl (by decide) ?_
        refine v_iret hX hQ rfl rfl ?_ ?_ 14 rfl
        · simp [cbf, c2, c8, c12]
        · rfl
      · skip
        refine v_iload_n hX 1 8 rfl rfl rfl ?_
        refine v_sipush hX (v := 1023) 9 rfl (by decide) ?_
        refine v_icmp_gt hX (tgt := 26) 10 rfl (by decide) (fun c19 => ?_) (fun c19 => ?_)
        · skip
          refine v_iconst hX (v := 0) 13 rfl (by decide) ?_
          refine v_iret hX hQ rfl rfl ?_ ?_ 14 rfl
          · simp [cbf, c2, c8, c12, c19]
          · rfl
        · skip
          refine v_iconst hX (v := 1) 11 rfl (by decide) ?_
          refine v_goto hX (tgt := 27) 12 rfl (by decide) ?_
          refine v_iret hX hQ rfl rfl ?_ ?_ 14 rfl
          · simp [cbf, c2, c8, c12, c19]
          · rfl
set_option maxRecDepth 100000 in
set_option maxHeartbeats 4000000 in
theorem f_file {Y : Yt} {M : Mm} {b n : Nat} {s p c t : Int32} (hb : isB b) (hz : M.1 b 1 = nI n) (hn : n < 24) : Fn Y yX0_file wsX0_file { frames := 1, cells := 0, slots := 0, locals := 20 } [.ref (Y.2.2.2 b), .int s, .int p, .int c, .int t] M (some (.int (nI n))) ((fileM M b n s p c t)) := by
  refine Fn.of (cc := cX0_file) (ins := iX0_file) (maxL := 6) (ret := (some .int)) (by decide) dX0_file [some (.ref (Y.2.2.2 b)), some (.int s), some (.int p), some (.int c), some (.int t), none] (Nat.le_of_ble_eq_true rfl) rfl rfl ?_
  intro X hX hQ
  refine v_aload_n hX 0 0 rfl rfl rfl ?_
  refine v_callV hX 0 (by have := isB_lt hb; omega) (cG_B hb) rfl (f_freeRow_in hb hz hn) tw_334 tw_331 tw_333 tw_10 tw_93 (by decide +kernel) ⟨⟨rfl, rfl⟩, Nat.le_of_ble_eq_true rfl, Nat.le_of_ble_eq_true rfl⟩ rfl (Nat.le_of_ble_eq_true rfl) rfl rfl 1 rfl ?_
  refine v_astore hX 2 rfl (Nat.le_of_ble_eq_true rfl) rfl ?_
  refine v_aload hX 3 rfl rfl ?_
  refine v_ifnonnull hX (tgt := 14) 4 rfl (by decide) ?_
  refine v_aload hX 7 rfl rfl ?_
  refine v_iload_n hX 1 8 rfl rfl rfl ?_
  refine pN_4_0 hX 9 hb (by omega)  (List.mem_of_getElem? (i := 0) rfl) rfl ?_
  refine v_aload hX 10 rfl rfl ?_
  refine v_iload_n hX 2 11 rfl rfl rfl ?_
  refine pN_4_1 hX 12 hb (by omega)  (List.mem_of_getElem? (i := 2) rfl) rfl ?_
  refine v_aload hX 13 rfl rfl ?_
  refine v_iload_n hX 3 14 rfl rfl rfl ?_
  refine pN_4_2 hX 15 hb (by omega)  (List.mem_of_getElem? (i := 4) rfl) rfl ?_
  refine v_aload hX 16 rfl rfl ?_
  refine v_iload hX 17 rfl rfl ?_
  refine pN_4_3 hX 18 hb (by omega)  (List.mem_of_getElem? (i := 7) rfl) rfl ?_
  refine v_aload hX 19 rfl rfl ?_
  refine v_aload_n hX 0 20 rfl rfl rfl ?_
  refine g_0_2 hX 21 hb tw_161 rfl ?_
  refine pN_4_4 hX 22 hb (by omega)  (List.mem_of_getElem? (i := 9) rfl) rfl ?_
  refine v_aload hX 23 rfl rfl ?_
  refine v_aload_n hX 0 24 rfl rfl rfl ?_
  refine g_0_2 hX 25 hb tw_161 rfl ?_
  refine pN_4_5 hX 26 hb (by omega)  (List.mem_of_getElem? (i := 11) rfl) rfl ?_
  refine v_aload hX 27 rfl rfl ?_
  refine v_iconst hX (v := 0) 28 rfl (by decide) ?_
  refine pN_4_6 hX 29 hb (by omega) rfl rfl (List.mem_of_getElem? (i := 12) rfl) rfl ?_
  refine v_aload_n hX 0 30 rfl rfl rfl ?_
  refine v_dup hX 31 rfl rfl ?_
  refine g_0_1 hX 32 hb tw_159 rfl ?_
  refine v_iconst hX (v := 1) 33 rfl (by decide) ?_
  refine v_iadd hX 34 rfl ?_
  refine p_0_1 hX 35 hb  tw_159 rfl ?_
  refine v_aload_n hX 0 36 rfl rfl rfl ?_
  refine g_0_1 hX 37 hb tw_159 rfl ?_
  refine v_iconst hX (v := 1) 38 rfl (by decide) ?_
  refine v_isub hX 39 rfl ?_
  refine v_iret hX hQ rfl rfl ?_ ?_ 40 rfl
  · simp only [mset_n (show b ≠ b + 2 + n by omega), mset_s, upd_s, hz, nI_1, nI_pred]
  · simp only [fileM, mset_n (show b ≠ b + 2 + n by omega), hz, nI_1]
set_option maxRecDepth 100000 in
set_option maxHeartbeats 4000000 in
theorem f_file_full {Y : Yt} {M : Mm} {b n : Nat} {s p c t : Int32} (hb : isB b) (hz : M.1 b 1 = nI n) (hn : n = 24) : Fn Y yX0_file wsX0_file { frames := 1, cells := 0, slots := 0, locals := 20 } [.ref (Y.2.2.2 b), .int s, .int p, .int c, .int t] M (some (.int (-4))) M := by
  refine Fn.of (cc := cX0_file) (ins := iX0_file) (maxL := 6) (ret := (some .int)) (by decide) dX0_file [some (.ref (Y.2.2.2 b)), some (.int s), some (.int p), some (.int c), some (.int t), none] (Nat.le_of_ble_eq_true rfl) rfl rfl ?_
  intro X hX hQ
  refine v_aload_n hX 0 0 rfl rfl rfl ?_
  refine v_callV hX 0 (by have := isB_lt hb; omega) (cG_B hb) rfl (f_freeRow_out hb hz hn) tw_334 tw_331 tw_333 tw_10 tw_93 (by decide +kernel) ⟨⟨rfl, rfl⟩, Nat.le_of_ble_eq_true rfl, Nat.le_of_ble_eq_true rfl⟩ rfl (Nat.le_of_ble_eq_true rfl) rfl rfl 1 rfl ?_
  refine v_astoreN hX 2 rfl (Nat.le_of_ble_eq_true rfl) rfl ?_
  refine v_aloadN hX 3 rfl rfl ?_
  refine v_ifnonnullN hX 4 rfl ?_
  refine v_bipush hX (v := (-4)) 5 rfl (by decide) ?_
  refine v_iret hX hQ rfl rfl ?_ ?_ 6 rfl
  · rfl
  · rfl
set_option maxRecDepth 100000 in
set_option maxHeartbeats 4000000 in
theorem f_fileClaim {Y : Yt} {M : Mm} {b n : Nat} {s p c : Int32} (hb : isB b) (hz : M.1 b 1 = nI n) (hn : n ≤ 24) : Fn Y yX0_fileClaim wsX0_fileClaim { frames := 2, cells := 0, slots := 0, locals := 45 } [.ref (Y.2.2.2 b), .int s, .int p, .int c] M (some (.int (fcR n s p c))) ((fcM M b n s p c)) := by
  refine Fn.of (cc := cX0_fileClaim) (ins := iX0_fileClaim) (maxL := 4) (ret := (some .int)) (by decide) dX0_fileClaim [some (.ref (Y.2.2.2 b)), some (.int s), some (.int p), some (.int c)] (Nat.le_of_ble_eq_true rfl) rfl rfl ?_
  intro X hX hQ
  refine v_iload_n hX 1 0 rfl rfl rfl ?_
  refine v_if_lt hX (tgt := 17) 1 rfl (by decide) (fun c1 => ?_) (fun c1 => ?_)
  · skip
    refine v_bipush hX (v := (-2)) 9 rfl (by decide) ?_
    refine v_iret hX hQ rfl rfl ?_ ?_ 10 rfl
    · simp (decide := true) only [fcR, c1, not_true_eq_false, not_false_eq_true, and_true, true_and, and_false, false_and, or_true, true_or, or_false, false_or, and_self, or_self, if_true, if_false, ite_true, ite_false, reduceIte, eq_self, ne_eq]
    · simp (decide := true) only [fcM, c1, not_true_eq_false, not_false_eq_true, and_true, true_and, and_false, false_and, or_true, true_or, or_false, false_or, and_self, or_self, if_true, if_false, ite_true, ite_false, reduceIte, eq_self, ne_eq]
  · skip
    refine v_iload_n hX 1 2 rfl rfl rfl ?_
    refine v_iconst hX (v := 1) 3 rfl (by decide) ?_
    refine v_icmp_gt hX (tgt := 17) 4 rfl (by decide) (fun c6 => ?_) (fun c6 => ?_)
    · skip
      refine v_bipush hX (v := (-2)) 9 rfl (by decide) ?_
      refine v_iret hX hQ rfl rfl ?_ ?_ 10 rfl
      · simp (decide := true) only [fcR, c1, c6, not_true_eq_false, not_false_eq_true, and_true, true_and, and_false, false_and, or_true, true_or, or_false, false_or, and_self, or_self, if_true, if_false, ite_true, ite_false, reduceIte, eq_self, ne_eq]
      · simp (decide := true) only [fcM, c1, c6, not_true_eq_false, not_false_eq_true, and_true, true_and, and_false, false_and, or_true, true_or, or_false, false_or, and_self, or_self, if_true, if_false, ite_true, ite_false, reduceIte, eq_self, ne_eq]
    · skip
      refine v_iload_n hX 2 5 rfl rfl rfl ?_
      refine v_iload_n hX 3 6 rfl rfl rfl ?_
      refine v_callS hX 2 (f_canBeFiled) tw_326 tw_324 tw_325 tw_93 (by decide +kernel) ⟨⟨rfl, rfl⟩, Nat.le_of_ble_eq_true rfl, Nat.le_of_ble_eq_true rfl⟩ rfl (Nat.le_of_ble_eq_true rfl) rfl rfl 7 rfl ?_
      refine v_if_ne hX (tgt := 20) 8 rfl (by decide) (fun c14 => ?_) (fun c14 => ?_)
      · skip
        refine v_aload_n hX 0 11 rfl rfl rfl ?_
        refine v_iload_n hX 1 12 rfl rfl rfl ?_
        refine v_iload_n hX 2 13 rfl rfl rfl ?_
        refine v_iload_n hX 3 14 rfl rfl rfl ?_
        refine v_bipush hX (v := (-6)) 15 rfl (by decide) ?_
        rcases Nat.lt_or_ge n 24 with h24 | h24
        · skip
          refine v_callV hX 4 (by have := isB_lt hb; omega) (cG_B hb) rfl (f_file hb hz h24) tw_330 tw_327 tw_329 tw_9 tw_93 (by decide +kernel) ⟨⟨rfl, rfl⟩, Nat.le_of_ble_eq_true rfl, Nat.le_of_ble_eq_true rfl⟩ rfl (Nat.le_of_ble_eq_true rfl) rfl rfl 16 rfl ?_
          refine v_iret hX hQ rfl rfl ?_ ?_ 17 rfl
          · simp (decide := true) only [fcR, h24, c1, c6, c14, not_true_eq_false, not_false_eq_true, and_true, true_and, and_false, false_and, or_true, true_or, or_false, false_or, and_self, or_self, if_true, if_false, ite_true, ite_false, reduceIte, eq_self, ne_eq]
          · simp (decide := true) only [fcM, h24, c1, c6, c14, not_true_eq_false, not_false_eq_true, and_true, true_and, and_false, false_and, or_true, true_or, or_false, false_or, and_self, or_self, if_true, if_false, ite_true, ite_false, reduceIte, eq_self, ne_eq]
        · skip
          have h24 : n = 24 := by omega
          refine v_callV hX 4 (by have := isB_lt hb; omega) (cG_B hb) rfl (f_file_full hb hz h24) tw_330 tw_327 tw_329 tw_9 tw_93 (by decide +kernel) ⟨⟨rfl, rfl⟩, Nat.le_of_ble_eq_true rfl, Nat.le_of_ble_eq_true rfl⟩ rfl (Nat.le_of_ble_eq_true rfl) rfl rfl 16 rfl ?_
          refine v_iret hX hQ rfl rfl ?_ ?_ 17 rfl
          · simp (decide := true) only [fcR, h24, c1, c6, c14, not_true_eq_false, not_false_eq_true, and_true, true_and, and_false, false_and, or_true, true_or, or_false, false_or, and_self, or_self, if_true, if_false, ite_true, ite_false, reduceIte, eq_self, ne_eq]
          · simp (decide := true) only [fcM, h24, c1, c6, c14, not_true_eq_false, not_false_eq_true, and_true, true_and, and_false, false_and, or_true, true_or, or_false, false_or, and_self, or_self, if_true, if_false, ite_true, ite_false, reduceIte, eq_self, ne_eq]
      · skip
        refine v_bipush hX (v := (-2)) 9 rfl (by decide) ?_
        refine v_iret hX hQ rfl rfl ?_ ?_ 10 rfl
        · simp (decide := true) only [fcR, c1, c6, c14, not_true_eq_false, not_false_eq_true, and_true, true_and, and_false, false_and, or_true, true_or, or_false, false_or, and_self, or_self, if_true, if_false, ite_true, ite_false, reduceIte, eq_self, ne_eq]
        · simp (decide := true) only [fcM, c1, c6, c14, not_true_eq_false, not_false_eq_true, and_true, true_and, and_false, false_and, or_true, true_or, or_false, false_or, and_self, or_self, if_true, if_false, ite_true, ite_false, reduceIte, eq_self, ne_eq]
set_option maxRecDepth 100000 in
set_option maxHeartbeats 4000000 in
theorem f_fileAnswer_no {Y : Yt} {M : Mm} {b n : Nat} {x p c : Int32} (hb : isB b) (hz : M.1 b 1 = nI n) (hn : n ≤ 24) (hx : x < 0 ∨ nI n ≤ x) : Fn Y yX0_fileAnswer wsX0_fileAnswer { frames := 2, cells := 0, slots := 0, locals := 45 } [.ref (Y.2.2.2 b), .int x, .int p, .int c] M (some (.int (-1))) M := by
  refine Fn.of (cc := cX0_fileAnswer) (ins := iX0_fileAnswer) (maxL := 5) (ret := (some .int)) (by decide) dX0_fileAnswer [some (.ref (Y.2.2.2 b)), some (.int x), some (.int p), some (.int c), none] (Nat.le_of_ble_eq_true rfl) rfl rfl ?_
  intro X hX hQ
  refine v_aload_n hX 0 0 rfl rfl rfl ?_
  refine v_iload_n hX 1 1 rfl rfl rfl ?_
  refine v_callV hX 1 (by have := isB_lt hb; omega) (cG_B hb) rfl (f_find_out hb hz hx) tw_299 tw_296 tw_298 tw_3 tw_93 (by decide +kernel) ⟨⟨rfl, rfl⟩, Nat.le_of_ble_eq_true rfl, Nat.le_of_ble_eq_true rfl⟩ rfl (Nat.le_of_ble_eq_true rfl) rfl rfl 2 rfl ?_
  refine v_astoreN hX 3 rfl (Nat.le_of_ble_eq_true rfl) rfl ?_
  refine v_aloadN hX 4 rfl rfl ?_
  refine v_ifnonnullN hX 5 rfl ?_
  refine v_iconst hX (v := (-1)) 6 rfl (by decide) ?_
  refine v_iret hX hQ rfl rfl ?_ ?_ 7 rfl
  · rfl
  · rfl
set_option maxRecDepth 100000 in
set_option maxHeartbeats 4000000 in
theorem f_fileAnswer {Y : Yt} {M : Mm} {b n i : Nat} {p c : Int32} (hb : isB b) (hz : M.1 b 1 = nI n) (hn : n ≤ 24) (hi : i < n) : Fn Y yX0_fileAnswer wsX0_fileAnswer { frames := 2, cells := 0, slots := 0, locals := 45 } [.ref (Y.2.2.2 b), .int (nI i), .int p, .int c] M (some (.int (faR M b n i p c))) ((faM M b n i p c)) := by
  refine Fn.of (cc := cX0_fileAnswer) (ins := iX0_fileAnswer) (maxL := 5) (ret := (some .int)) (by decide) dX0_fileAnswer [some (.ref (Y.2.2.2 b)), some (.int (nI i)), some (.int p), some (.int c), none] (Nat.le_of_ble_eq_true rfl) rfl rfl ?_
  intro X hX hQ
  refine v_aload_n hX 0 0 rfl rfl rfl ?_
  refine v_iload_n hX 1 1 rfl rfl rfl ?_
  refine v_callV hX 1 (by have := isB_lt hb; omega) (cG_B hb) rfl (f_find_in hb hz hn hi) tw_299 tw_296 tw_298 tw_3 tw_93 (by decide +kernel) ⟨⟨rfl, rfl⟩, Nat.le_of_ble_eq_true rfl, Nat.le_of_ble_eq_true rfl⟩ rfl (Nat.le_of_ble_eq_true rfl) rfl rfl 2 rfl ?_
  refine v_astore hX 3 rfl (Nat.le_of_ble_eq_true rfl) rfl ?_
  refine v_aload hX 4 rfl rfl ?_
  refine v_ifnonnull hX (tgt := 14) 5 rfl (by decide) ?_
  refine v_iload_n hX 2 8 rfl rfl rfl ?_
  refine v_iload_n hX 3 9 rfl rfl rfl ?_
  refine v_callS hX 2 (f_canBeFiled) tw_326 tw_324 tw_325 tw_93 (by decide +kernel) ⟨⟨rfl, rfl⟩, Nat.le_of_ble_eq_true rfl, Nat.le_of_ble_eq_true rfl⟩ rfl (Nat.le_of_ble_eq_true rfl) rfl rfl 10 rfl ?_
  refine v_if_ne hX (tgt := 25) 11 rfl (by decide) (fun c19 => ?_) (fun c19 => ?_)
  · skip
    refine v_aload_n hX 0 14 rfl rfl rfl ?_
    rcases Nat.lt_or_ge n 24 with h24 | h24
    · skip
      refine v_callV hX 0 (by have := isB_lt hb; omega) (cG_B hb) rfl (f_freeRow_in hb hz h24) tw_334 tw_331 tw_333 tw_10 tw_93 (by decide +kernel) ⟨⟨rfl, rfl⟩, Nat.le_of_ble_eq_true rfl, Nat.le_of_ble_eq_true rfl⟩ rfl (Nat.le_of_ble_eq_true rfl) rfl rfl 15 rfl ?_
      refine v_ifnonnull hX (tgt := 35) 16 rfl (by decide) ?_
      refine v_aload hX 19 rfl rfl ?_
      refine gN_4_6 hX 20 hb (by omega) (List.mem_of_getElem? (i := 12) rfl) rfl ?_
      refine v_if_eq hX (tgt := 46) 21 rfl (by decide) (fun c40 => ?_) (fun c40 => ?_)
      · skip
        refine v_aload_n hX 0 24 rfl rfl rfl ?_
        refine v_iconst hX (v := 1) 25 rfl (by decide) ?_
        refine v_aload hX 26 rfl rfl ?_
        refine gN_4_0 hX 27 hb (by omega) (List.mem_of_getElem? (i := 0) rfl) rfl ?_
        refine v_isub hX 28 rfl ?_
        refine v_iload_n hX 2 29 rfl rfl rfl ?_
        refine v_iload_n hX 3 30 rfl rfl rfl ?_
        refine v_iload_n hX 1 31 rfl rfl rfl ?_
        refine v_callV hX 4 (by have := isB_lt hb; omega) (cG_B hb) rfl (f_file hb hz h24) tw_330 tw_327 tw_329 tw_9 tw_93 (by decide +kernel) ⟨⟨rfl, rfl⟩, Nat.le_of_ble_eq_true rfl, Nat.le_of_ble_eq_true rfl⟩ rfl (Nat.le_of_ble_eq_true rfl) rfl rfl 32 rfl ?_
        refine v_iret hX hQ rfl rfl ?_ ?_ 33 rfl
        · simp (decide := true) only [faR, h24, c19, c40, not_true_eq_false, not_false_eq_true, and_true, true_and, and_false, false_and, or_true, true_or, or_false, false_or, and_self, or_self, if_true, if_false, ite_true, ite_false, reduceIte, eq_self, ne_eq]
        · simp (decide := true) only [faM, h24, c19, c40, not_true_eq_false, not_false_eq_true, and_true, true_and, and_false, false_and, or_true, true_or, or_false, false_or, and_self, or_self, if_true, if_false, ite_true, ite_false, reduceIte, eq_self, ne_eq]
      · skip
        refine v_bipush hX (v := (-5)) 22 rfl (by decide) ?_
        refine v_iret hX hQ rfl rfl ?_ ?_ 23 rfl
        · simp (decide := true) only [faR, h24, c19, c40, not_true_eq_false, not_false_eq_true, and_true, true_and, and_false, false_and, or_true, true_or, or_false, false_or, and_self, or_self, if_true, if_false, ite_true, ite_false, reduceIte, eq_self, ne_eq]
        · simp (decide := true) only [faM, h24, c19, c40, not_true_eq_false, not_false_eq_true, and_true, true_and, and_false, false_and, or_true, true_or, or_false, false_or, and_self, or_self, if_true, if_false, ite_true, ite_false, reduceIte, eq_self, ne_eq]
    · skip
      have h24 : n = 24 := by omega
      refine v_callV hX 0 (by have := isB_lt hb; omega) (cG_B hb) rfl (f_freeRow_out hb hz h24) tw_334 tw_331 tw_333 tw_10 tw_93 (by decide +kernel) ⟨⟨rfl, rfl⟩, Nat.le_of_ble_eq_true rfl, Nat.le_of_ble_eq_true rfl⟩ rfl (Nat.le_of_ble_eq_true rfl) rfl rfl 15 rfl ?_
      refine v_ifnonnullN hX 16 rfl ?_
      refine v_bipush hX (v := (-4)) 17 rfl (by decide) ?_
      refine v_iret hX hQ rfl rfl ?_ ?_ 18 rfl
      · simp (decide := true) only [faR, h24, c19, not_true_eq_false, not_false_eq_true, and_true, true_and, and_false, false_and, or_true, true_or, or_false, false_or, and_self, or_self, if_true, if_false, ite_true, ite_false, reduceIte, eq_self, ne_eq]
      · simp (decide := true) only [faM, h24, c19, not_true_eq_false, not_false_eq_true, and_true, true_and, and_false, false_and, or_true, true_or, or_false, false_or, and_self, or_self, if_true, if_false, ite_true, ite_false, reduceIte, eq_self, ne_eq]
  · skip
    refine v_bipush hX (v := (-2)) 12 rfl (by decide) ?_
    refine v_iret hX hQ rfl rfl ?_ ?_ 13 rfl
    · simp (decide := true) only [faR, c19, not_true_eq_false, not_false_eq_true, and_true, true_and, and_false, false_and, or_true, true_or, or_false, false_or, and_self, or_self, if_true, if_false, ite_true, ite_false, reduceIte, eq_self, ne_eq]
    · simp (decide := true) only [faM, c19, not_true_eq_false, not_false_eq_true, and_true, true_and, and_false, false_and, or_true, true_or, or_false, false_or, and_self, or_self, if_true, if_false, ite_true, ite_false, reduceIte, eq_self, ne_eq]
set_option maxRecDepth 100000 in
set_option maxHeartbeats 4000000 in
theorem f_standingIf {Y : Yt} {M : Mm} {b n : Nat} {xo xa : Int32} (hb : isB b) (hz : M.1 b 1 = nI n) (hn : n ≤ 24) (hw : WF (cp M b) n) : Fn Y yX0_standingIf wsX0_standingIf { frames := 2, cells := 0, slots := 0, locals := 43 } [.ref (Y.2.2.2 b), .int xo, .int xa] M (some (.int (mk (sd (bt xo) (bt xa) (cp M b) n) n))) M := by
  refine Fn.of (cc := cX0_standingIf) (ins := iX0_standingIf) (maxL := 6) (ret := (some .int)) (by decide) dX0_standingIf [some (.ref (Y.2.2.2 b)), some (.int xo), some (.int xa), none, none, none] (Nat.le_of_ble_eq_true rfl) rfl rfl ?_
  intro X hX hQ
  refine v_iload_n hX 2 0 rfl rfl rfl ?_
  refine v_istore_n hX 3 1 rfl rfl (Nat.le_of_ble_eq_true rfl) rfl ?_
  refine v_iconst hX (v := 0) 2 rfl (by decide) ?_
  refine v_istore hX 3 rfl (Nat.le_of_ble_eq_true rfl) rfl ?_
  refine v_aload_n hX 0 4 rfl rfl rfl ?_
  refine g_0_1 hX 5 hb tw_159 rfl ?_
  refine v_iconst hX (v := 1) 6 rfl (by decide) ?_
  refine v_isub hX 7 rfl ?_
  refine v_istore hX 8 rfl (Nat.le_of_ble_eq_true rfl) rfl ?_
  have lp : ∀ (m : Nat), m ≤ n → ∀ (an s2 : Int32), (∀ i, i < 32 → bt an i = (bt xa i || anS (sd (bt xo) (bt xa) (cp M b) n) (cp M b) n m i)) → (∀ i, i < 32 → bt s2 i = (decide (i < n) && (decide (m ≤ i) && sd (bt xo) (bt xa) (cp M b) n i))) → V Y X M 13 [some (.ref (Y.2.2.2 b)), some (.int xo), some (.int xa), some (.int an), some (.int s2), some (.int (nI m - 1))] [] := by
    refine downTo (fun m ih => ?_)
    intro hm an s2 h1 h2
    rcases Nat.eq_zero_or_pos m with h0 | h0
    · skip
      subst h0
      refine v_iload hX 9 rfl rfl ?_
      refine v_if_lt hX (tgt := 53) 10 rfl (by decide) (fun c15 => ?_) (fun c15 => absurd (by decide) c15)
      refine v_iload hX 31 rfl rfl ?_
      refine v_iret hX hQ rfl rfl ?_ ?_ 32 rfl
      · refine congrArg (fun z : Int32 => some (Value.int z)) (b_ext (fun i hi => ?_)); rw [h2 i hi, bt_mk _ (by omega) hi]; simp
      · rfl
    · skip
      obtain ⟨m, rfl⟩ : ∃ m2, m = m2 + 1 := ⟨m - 1, by omega⟩
      rw [nI_pred]
      refine v_iload hX 9 rfl rfl ?_
      refine v_if_lt hX (tgt := 53) 10 rfl (by decide) (fun c15 => absurd c15 (nI_nlt (Nat.zero_le _) (by omega))) (fun c15 => ?_)
      refine v_iload_n hX 1 11 rfl rfl rfl ?_
      refine v_iload_n hX 3 12 rfl rfl rfl ?_
      refine v_ior hX 13 rfl ?_
      refine v_iload hX 14 rfl rfl ?_
      refine v_callSN hX 2 (f_has) tw_381 (List.mem_of_getElem? (i := 15) rfl) tw_92 tw_380 (by decide +kernel) ⟨⟨rfl, rfl⟩, Nat.le_of_ble_eq_true rfl, Nat.le_of_ble_eq_true rfl⟩ rfl (Nat.le_of_ble_eq_true rfl) rfl rfl 15 rfl ?_
      refine v_if_ne hX (tgt := 47) 16 rfl (by decide) (fun c26 => ?_) (fun c26 => ?_)
      · skip
        have hb1 := hasv_ne (by omega) c26
        rw [b_or, h1 m (by omega)] at hb1
        have hs0 : sd (bt xo) (bt xa) (cp M b) n m = false := by rw [sd_eq (show m < n by omega)]; cases q1 : bt xo m <;> cases q2 : bt xa m <;> simp_all
        refine v_iinc hX 29 rfl rfl (nI_dm m) (Nat.le_of_ble_eq_true rfl) rfl ?_
        refine v_goto hX (tgt := 13) 30 rfl (by decide) ?_
        refine V.sub (ih m (by omega) (by omega) _ _ ?_ ?_) rfl ⟨rfl, rfl, rfl, rfl, rfl, rfl, trivial⟩
        · intro i hi; rw [h1 i hi, anS_step (show m < n by omega), hs0]; simp
        · intro i hi; rw [h2 i hi]; exact stF hs0
      · skip
        have hb1 := hasv_eq (by omega) c26
        rw [b_or, h1 m (by omega)] at hb1
        have hs0 : sd (bt xo) (bt xa) (cp M b) n m = true := by rw [sd_eq (show m < n by omega)]; cases q1 : bt xo m <;> cases q2 : bt xa m <;> simp_all
        refine v_iload hX 17 rfl rfl ?_
        refine v_iconst hX (v := 1) 18 rfl (by decide) ?_
        refine v_iload hX 19 rfl rfl ?_
        refine v_ishl hX 20 rfl ?_
        refine v_ior hX 21 rfl ?_
        refine v_istore hX 22 rfl (Nat.le_of_ble_eq_true rfl) rfl ?_
        refine v_iload_n hX 3 23 rfl rfl rfl ?_
        refine v_aload_n hX 0 24 rfl rfl rfl ?_
        refine v_iload hX 25 rfl rfl ?_
        refine v_callV hX 1 (by have := isB_lt hb; omega) (cG_B hb) rfl (f_targetOf hb hz hn (show m < n by omega)) tw_385 tw_382 tw_384 tw_20 tw_93 (by decide +kernel) ⟨⟨rfl, rfl⟩, Nat.le_of_ble_eq_true rfl, Nat.le_of_ble_eq_true rfl⟩ rfl (Nat.le_of_ble_eq_true rfl) rfl rfl 26 rfl ?_
        refine v_ior hX 27 rfl ?_
        refine v_istore_n hX 3 28 rfl rfl (Nat.le_of_ble_eq_true rfl) rfl ?_
        refine v_iinc hX 29 rfl rfl (nI_dm m) (Nat.le_of_ble_eq_true rfl) rfl ?_
        refine v_goto hX (tgt := 13) 30 rfl (by decide) ?_
        refine V.sub (ih m (by omega) (by omega) _ _ ?_ ?_) rfl ⟨rfl, rfl, rfl, rfl, rfl, rfl, trivial⟩
        · intro i hi; rw [b_or, h1 i hi, bt_tgt hw hn (show m < n by omega) hi, anS_step (show m < n by omega), hs0]; cases bt xa i <;> cases anS (sd (bt xo) (bt xa) (cp M b) n) (cp M b) n (m + 1) i <;> simp
        · intro i hi; rw [b_or, h2 i hi, bt_one (by omega) hi]; exact stT (by omega) hs0
  rw [hz]
  exact V.sub (lp n (Nat.le_refl n) xa 0 (fun i hi => by rw [anS_end, Bool.or_false]) (fun i hi => by rw [b_0]; by_cases h : i < n; (have : ¬ n ≤ i := by omega); simp [this]; simp [h])) rfl ⟨rfl, rfl, rfl, rfl, rfl, rfl, trivial⟩
set_option maxRecDepth 100000 in
set_option maxHeartbeats 4000000 in
theorem f_standing {Y : Yt} {M : Mm} {b n : Nat} (hb : isB b) (hz : M.1 b 1 = nI n) (hn : n ≤ 24) (hw : WF (cp M b) n) : Fn Y yX0_standing wsX0_standing { frames := 3, cells := 0, slots := 0, locals := 68 } [.ref (Y.2.2.2 b)] M (some (.int (mk (bSd M b n) n))) M := by
  refine Fn.of (cc := cX0_standing) (ins := iX0_standing) (maxL := 1) (ret := (some .int)) (by decide) dX0_standing [some (.ref (Y.2.2.2 b))] (Nat.le_of_ble_eq_true rfl) rfl rfl ?_
  intro X hX hQ
  refine v_aload_n hX 0 0 rfl rfl rfl ?_
  refine v_aload_n hX 0 1 rfl rfl rfl ?_
  refine v_callV hX 0 (by have := isB_lt hb; omega) (cG_B hb) rfl (f_out hb hz hn hw) tw_358 tw_355 tw_357 tw_14 tw_93 (by decide +kernel) ⟨⟨rfl, rfl⟩, Nat.le_of_ble_eq_true rfl, Nat.le_of_ble_eq_true rfl⟩ rfl (Nat.le_of_ble_eq_true rfl) rfl rfl 2 rfl ?_
  refine v_iconst hX (v := 0) 3 rfl (by decide) ?_
  refine v_callV hX 2 (by have := isB_lt hb; omega) (cG_B hb) rfl (f_standingIf hb hz hn hw) tw_378 tw_375 tw_377 tw_19 tw_93 (by decide +kernel) ⟨⟨rfl, rfl⟩, Nat.le_of_ble_eq_true rfl, Nat.le_of_ble_eq_true rfl⟩ rfl (Nat.le_of_ble_eq_true rfl) rfl rfl 4 rfl ?_
  refine v_iret hX hQ rfl rfl ?_ ?_ 5 rfl
  · rw [bSd_bt hn]
  · rfl
end
section
set_option maxRecDepth 100000 in
set_option maxHeartbeats 4000000 in
theorem f_bitCount {Y : Yt} {M : Mm} {x : Int32} : Fn Y yJ6_bitCount_0f7a4 wsJ6_bitCount_0f7a4 { frames := 0, cells := 0, slots := 0, locals := 0 } [.int x] M (some (.int (bc x))) M := by
  refine Fn.of (cc := cJ6_bitCount_0f7a4) (ins := iJ6_bitCount_0f7a4) (maxL := 1) (ret := (some .int)) (by decide) dJ6_bitCount_0f7a4 [some (.int x)] (Nat.le_of_ble_eq_true rfl) rfl rfl ?_
  intro X hX hQ
  refine v_iload_n hX 0 0 rfl rfl rfl ?_
  refine v_iload_n hX 0 1 rfl rfl rfl ?_
  refine v_iconst hX (v := 1) 2 rfl (by decide) ?_
  refine v_iushr hX 3 rfl rfl ?_
  refine v_ldcw hX tw_389 4 rfl ?_
  refine v_iand hX 5 rfl ?_
  refine v_isub hX 6 rfl ?_
  refine v_istore_n hX 0 7 rfl rfl (Nat.le_of_ble_eq_true rfl) rfl ?_
  refine v_iload_n hX 0 8 rfl rfl rfl ?_
  refine v_ldcw hX tw_390 9 rfl ?_
  refine v_iand hX 10 rfl ?_
  refine v_iload_n hX 0 11 rfl rfl rfl ?_
  refine v_iconst hX (v := 2) 12 rfl (by decide) ?_
  refine v_iushr hX 13 rfl rfl ?_
  refine v_ldcw hX tw_390 14 rfl ?_
  refine v_iand hX 15 rfl ?_
  refine v_iadd hX 16 rfl ?_
  refine v_istore_n hX 0 17 rfl rfl (Nat.le_of_ble_eq_true rfl) rfl ?_
  refine v_iload_n hX 0 18 rfl rfl rfl ?_
  refine v_iload_n hX 0 19 rfl rfl rfl ?_
  refine v_iconst hX (v := 4) 20 rfl (by decide) ?_
  refine v_iushr hX 21 rfl rfl ?_
  refine v_iadd hX 22 rfl ?_
  refine v_ldcw hX tw_391 23 rfl ?_
  refine v_iand hX 24 rfl ?_
  refine v_istore_n hX 0 25 rfl rfl (Nat.le_of_ble_eq_true rfl) rfl ?_
  refine v_iload_n hX 0 26 rfl rfl rfl ?_
  refine v_iload_n hX 0 27 rfl rfl rfl ?_
  refine v_bipush hX (v := 8) 28 rfl (by decide) ?_
  refine v_iushr hX 29 rfl rfl ?_
  refine v_iadd hX 30 rfl ?_
  refine v_istore_n hX 0 31 rfl rfl (Nat.le_of_ble_eq_true rfl) rfl ?_
  refine v_iload_n hX 0 32 rfl rfl rfl ?_
  refine v_iload_n hX 0 33 rfl rfl rfl ?_
  refine v_bipush hX (v := 16) 34 rfl (by decide) ?_
  refine v_iushr hX 35 rfl rfl ?_
  refine v_iadd hX 36 rfl ?_
  refine v_istore_n hX 0 37 rfl rfl (Nat.le_of_ble_eq_true rfl) rfl ?_
  refine v_iload_n hX 0 38 rfl rfl rfl ?_
  refine v_bipush hX (v := 63) 39 rfl (by decide) ?_
  refine v_iand hX 40 rfl ?_
  refine v_iret hX hQ rfl rfl ?_ ?_ 41 rfl
  · rfl
  · rfl
set_option maxRecDepth 100000 in
set_option maxHeartbeats 4000000 in
theorem f_takeBack_no {Y : Yt} {M : Mm} {b n : Nat} {x : Int32} (hb : isB b) (hz : M.1 b 1 = nI n) (hn : n ≤ 24) (hx : x < 0 ∨ nI n ≤ x) : Fn Y yX0_takeBack wsX0_takeBack { frames := 4, cells := 0, slots := 0, locals := 88 } [.ref (Y.2.2.2 b), .int x] M (some (.int (-1))) M := by
  refine Fn.of (cc := cX0_takeBack) (ins := iX0_takeBack) (maxL := 3) (ret := (some .int)) (by decide) dX0_takeBack [some (.ref (Y.2.2.2 b)), some (.int x), none] (Nat.le_of_ble_eq_true rfl) rfl rfl ?_
  intro X hX hQ
  refine v_aload_n hX 0 0 rfl rfl rfl ?_
  refine v_iload_n hX 1 1 rfl rfl rfl ?_
  refine v_callV hX 1 (by have := isB_lt hb; omega) (cG_B hb) rfl (f_find_out hb hz hx) tw_299 tw_296 tw_298 tw_3 tw_93 (by decide +kernel) ⟨⟨rfl, rfl⟩, Nat.le_of_ble_eq_true rfl, Nat.le_of_ble_eq_true rfl⟩ rfl (Nat.le_of_ble_eq_true rfl) rfl rfl 2 rfl ?_
  refine v_astore_nN hX 2 3 rfl rfl (Nat.le_of_ble_eq_true rfl) rfl ?_
  refine v_aload_nN hX 2 4 rfl rfl rfl ?_
  refine v_ifnonnullN hX 5 rfl ?_
  refine v_iconst hX (v := (-1)) 6 rfl (by decide) ?_
  refine v_iret hX hQ rfl rfl ?_ ?_ 7 rfl
  · rfl
  · rfl
set_option maxRecDepth 100000 in
set_option maxHeartbeats 4000000 in
theorem f_takeBack {Y : Yt} {M : Mm} {b n i : Nat} (hb : isB b) (hz : M.1 b 1 = nI n) (hn : n ≤ 24) (hi : i < n) (hw : WF (cp M b) n) : Fn Y yX0_takeBack wsX0_takeBack { frames := 4, cells := 0, slots := 0, locals := 88 } [.ref (Y.2.2.2 b), .int (nI i)] M (some (.int (tbR M b n i))) ((tbM M b i)) := by
  refine Fn.of (cc := cX0_takeBack) (ins := iX0_takeBack) (maxL := 3) (ret := (some .int)) (by decide) dX0_takeBack [some (.ref (Y.2.2.2 b)), some (.int (nI i)), none] (Nat.le_of_ble_eq_true rfl) rfl rfl ?_
  intro X hX hQ
  refine v_aload_n hX 0 0 rfl rfl rfl ?_
  refine v_iload_n hX 1 1 rfl rfl rfl ?_
  refine v_callV hX 1 (by have := isB_lt hb; omega) (cG_B hb) rfl (f_find_in hb hz hn hi) tw_299 tw_296 tw_298 tw_3 tw_93 (by decide +kernel) ⟨⟨rfl, rfl⟩, Nat.le_of_ble_eq_true rfl, Nat.le_of_ble_eq_true rfl⟩ rfl (Nat.le_of_ble_eq_true rfl) rfl rfl 2 rfl ?_
  refine v_astore_n hX 2 3 rfl rfl (Nat.le_of_ble_eq_true rfl) rfl ?_
  refine v_aload_n hX 2 4 rfl rfl rfl ?_
  refine v_ifnonnull hX (tgt := 12) 5 rfl (by decide) ?_
  refine v_aload_n hX 2 8 rfl rfl rfl ?_
  refine gN_4_6 hX 9 hb (by omega) (List.mem_of_getElem? (i := 12) rfl) rfl ?_
  refine v_if_eq hX (tgt := 22) 10 rfl (by decide) (fun c16 => ?_) (fun c16 => ?_)
  · skip
    refine v_aload_n hX 2 13 rfl rfl rfl ?_
    refine v_iconst hX (v := 1) 14 rfl (by decide) ?_
    refine pN_4_6 hX 15 hb (by omega) rfl rfl (List.mem_of_getElem? (i := 12) rfl) rfl ?_
    refine v_aload_n hX 0 16 rfl rfl rfl ?_
    have hz2 : (mset M (b + 2 + i) 6 1).1 b 1 = nI n := by rw [mset_n (by omega)]; exact hz
    refine v_callV hX 0 (by have := isB_lt hb; omega) (cG_B hb) rfl (f_standing hb hz2 hn (WF_wd (Or.inr rfl) hw)) tw_354 tw_351 tw_353 tw_13 tw_93 (by decide +kernel) ⟨⟨rfl, rfl⟩, Nat.le_of_ble_eq_true rfl, Nat.le_of_ble_eq_true rfl⟩ rfl (Nat.le_of_ble_eq_true rfl) rfl rfl 17 rfl ?_
    refine v_callS hX 1 (f_bitCount) tw_388 tw_386 tw_387 tw_100 (by decide +kernel) ⟨⟨rfl, rfl⟩, Nat.le_of_ble_eq_true rfl, Nat.le_of_ble_eq_true rfl⟩ rfl (Nat.le_of_ble_eq_true rfl) rfl rfl 18 rfl ?_
    refine v_iret hX hQ rfl rfl ?_ ?_ 19 rfl
    · simp (decide := true) only [tbR, c16, not_true_eq_false, not_false_eq_true, and_true, true_and, and_false, false_and, or_true, true_or, or_false, false_or, and_self, or_self, if_true, if_false, ite_true, ite_false, reduceIte, eq_self, ne_eq]
    · simp (decide := true) only [tbM, c16, not_true_eq_false, not_false_eq_true, and_true, true_and, and_false, false_and, or_true, true_or, or_false, false_or, and_self, or_self, if_true, if_false, ite_true, ite_false, reduceIte, eq_self, ne_eq]
  · skip
    refine v_bipush hX (v := (-5)) 11 rfl (by decide) ?_
    refine v_iret hX hQ rfl rfl ?_ ?_ 12 rfl
    · simp (decide := true) only [tbR, c16, not_true_eq_false, not_false_eq_true, and_true, true_and, and_false, false_and, or_true, true_or, or_false, false_or, and_self, or_self, if_true, if_false, ite_true, ite_false, reduceIte, eq_self, ne_eq]
    · simp (decide := true) only [tbM, c16, not_true_eq_false, not_false_eq_true, and_true, true_and, and_false, false_and, or_true, true_or, or_false, false_or, and_self, or_self, if_true, if_false, ite_true, ite_false, reduceIte, eq_self, ne_eq]
set_option maxRecDepth 100000 in
set_option maxHeartbeats 4000000 in
theorem f_prolong_no {Y : Yt} {M : Mm} {b n : Nat} {x : Int32} (hb : isB b) (hz : M.1 b 1 = nI n) (hn : n ≤ 24) (hx : x < 0 ∨ nI n ≤ x) : Fn Y yX0_prolong wsX0_prolong { frames := 1, cells := 0, slots := 0, locals := 21 } [.ref (Y.2.2.2 b), .int x] M (some (.int (-1))) M := by
  refine Fn.of (cc := cX0_prolong) (ins := iX0_prolong) (maxL := 4) (ret := (some .int)) (by decide) dX0_prolong [some (.ref (Y.2.2.2 b)), some (.int x), none, none] (Nat.le_of_ble_eq_true rfl) rfl rfl ?_
  intro X hX hQ
  refine v_aload_n hX 0 0 rfl rfl rfl ?_
  refine v_iload_n hX 1 1 rfl rfl rfl ?_
  refine v_callV hX 1 (by have := isB_lt hb; omega) (cG_B hb) rfl (f_find_out hb hz hx) tw_299 tw_296 tw_298 tw_3 tw_93 (by decide +kernel) ⟨⟨rfl, rfl⟩, Nat.le_of_ble_eq_true rfl, Nat.le_of_ble_eq_true rfl⟩ rfl (Nat.le_of_ble_eq_true rfl) rfl rfl 2 rfl ?_
  refine v_astore_nN hX 2 3 rfl rfl (Nat.le_of_ble_eq_true rfl) rfl ?_
  refine v_aload_nN hX 2 4 rfl rfl rfl ?_
  refine v_ifnonnullN hX 5 rfl ?_
  refine v_iconst hX (v := (-1)) 6 rfl (by decide) ?_
  refine v_iret hX hQ rfl rfl ?_ ?_ 7 rfl
  · rfl
  · rfl
set_option maxRecDepth 100000 in
set_option maxHeartbeats 4000000 in
theorem f_prolong {Y : Yt} {M : Mm} {b n i : Nat} (hb : isB b) (hz : M.1 b 1 = nI n) (hn : n ≤ 24) (hi : i < n) : Fn Y yX0_prolong wsX0_prolong { frames := 1, cells := 0, slots := 0, locals := 21 } [.ref (Y.2.2.2 b), .int (nI i)] M (some (.int (prR M b i))) ((prM M b i)) := by
  refine Fn.of (cc := cX0_prolong) (ins := iX0_prolong) (maxL := 4) (ret := (some .int)) (by decide) dX0_prolong [some (.ref (Y.2.2.2 b)), some (.int (nI i)), none, none] (Nat.le_of_ble_eq_true rfl) rfl rfl ?_
  intro X hX hQ
  refine v_aload_n hX 0 0 rfl rfl rfl ?_
  refine v_iload_n hX 1 1 rfl rfl rfl ?_
  refine v_callV hX 1 (by have := isB_lt hb; omega) (cG_B hb) rfl (f_find_in hb hz hn hi) tw_299 tw_296 tw_298 tw_3 tw_93 (by decide +kernel) ⟨⟨rfl, rfl⟩, Nat.le_of_ble_eq_true rfl, Nat.le_of_ble_eq_true rfl⟩ rfl (Nat.le_of_ble_eq_true rfl) rfl rfl 2 rfl ?_
  refine v_astore_n hX 2 3 rfl rfl (Nat.le_of_ble_eq_true rfl) rfl ?_
  refine v_aload_n hX 2 4 rfl rfl rfl ?_
  refine v_ifnonnull hX (tgt := 12) 5 rfl (by decide) ?_
  refine v_aload_n hX 2 8 rfl rfl rfl ?_
  refine gN_4_3 hX 9 hb (by omega) (List.mem_of_getElem? (i := 7) rfl) rfl ?_
  refine v_bipush hX (v := (-6)) 10 rfl (by decide) ?_
  refine v_icmp_eq hX (tgt := 28) 11 rfl (by decide) (fun c18 => ?_) (fun c18 => ?_)
  · skip
    refine v_bipush hX (v := (-5)) 15 rfl (by decide) ?_
    refine v_iret hX hQ rfl rfl ?_ ?_ 16 rfl
    · simp (decide := true) only [prR, c18, not_true_eq_false, not_false_eq_true, and_true, true_and, and_false, false_and, or_true, true_or, or_false, false_or, and_self, or_self, if_true, if_false, ite_true, ite_false, reduceIte, eq_self, ne_eq]
    · simp (decide := true) only [prM, c18, not_true_eq_false, not_false_eq_true, and_true, true_and, and_false, false_and, or_true, true_or, or_false, false_or, and_self, or_self, if_true, if_false, ite_true, ite_false, reduceIte, eq_self, ne_eq]
  · skip
    refine v_aload_n hX 2 12 rfl rfl rfl ?_
    refine gN_4_6 hX 13 hb (by omega) (List.mem_of_getElem? (i := 12) rfl) rfl ?_
    refine v_if_eq hX (tgt := 31) 14 rfl (by decide) (fun c25 => ?_) (fun c25 => ?_)
    · skip
      refine v_aload_n hX 0 17 rfl rfl rfl ?_
      refine g_0_2 hX 18 hb tw_161 rfl ?_
      refine v_aload_n hX 2 19 rfl rfl rfl ?_
      refine gN_4_5 hX 20 hb (by omega) (List.mem_of_getElem? (i := 11) rfl) rfl ?_
      refine v_isub hX 21 rfl ?_
      refine v_istore_n hX 3 22 rfl rfl (Nat.le_of_ble_eq_true rfl) rfl ?_
      refine v_aload_n hX 2 23 rfl rfl rfl ?_
      refine v_aload_n hX 0 24 rfl rfl rfl ?_
      refine g_0_2 hX 25 hb tw_161 rfl ?_
      refine pN_4_5 hX 26 hb (by omega)  (List.mem_of_getElem? (i := 11) rfl) rfl ?_
      refine v_iload_n hX 3 27 rfl rfl rfl ?_
      refine v_iret hX hQ rfl rfl ?_ ?_ 28 rfl
      · simp (decide := true) only [prR, c18, c25, not_true_eq_false, not_false_eq_true, and_true, true_and, and_false, false_and, or_true, true_or, or_false, false_or, and_self, or_self, if_true, if_false, ite_true, ite_false, reduceIte, eq_self, ne_eq]
      · simp (decide := true) only [prM, c18, c25, not_true_eq_false, not_false_eq_true, and_true, true_and, and_false, false_and, or_true, true_or, or_false, false_or, and_self, or_self, if_true, if_false, ite_true, ite_false, reduceIte, eq_self, ne_eq]
    · skip
      refine v_bipush hX (v := (-5)) 15 rfl (by decide) ?_
      refine v_iret hX hQ rfl rfl ?_ ?_ 16 rfl
      · simp (decide := true) only [prR, c18, c25, not_true_eq_false, not_false_eq_true, and_true, true_and, and_false, false_and, or_true, true_or, or_false, false_or, and_self, or_self, if_true, if_false, ite_true, ite_false, reduceIte, eq_self, ne_eq]
      · simp (decide := true) only [prM, c18, c25, not_true_eq_false, not_false_eq_true, and_true, true_and, and_false, false_and, or_true, true_or, or_false, false_or, and_self, or_self, if_true, if_false, ite_true, ite_false, reduceIte, eq_self, ne_eq]
set_option maxRecDepth 100000 in
set_option maxHeartbeats 4000000 in
theorem f_turnCase {Y : Yt} {M : Mm} {b : Nat} {w : Int32} (hb : isB b) : Fn Y yX0_turnCase wsX0_turnCase { frames := 1, cells := 0, slots := 0, locals := 21 } [.ref (Y.2.2.2 b), .int w] M (some (.int (tcR M b w))) ((tcM M b w)) := by
  refine Fn.of (cc := cX0_turnCase) (ins := iX0_turnCase) (maxL := 2) (ret := (some .int)) (by decide) dX0_turnCase [some (.ref (Y.2.2.2 b)), some (.int w)] (Nat.le_of_ble_eq_true rfl) rfl rfl ?_
  intro X hX hQ
  refine v_iload_n hX 1 0 rfl rfl rfl ?_
  refine v_if_lt hX (tgt := 10) 1 rfl (by decide) (fun c1 => ?_) (fun c1 => ?_)
  · skip
    refine v_iconst hX (v := (-1)) 5 rfl (by decide) ?_
    refine v_iret hX hQ rfl rfl ?_ ?_ 6 rfl
    · first | (simp (decide := true) only [tcR, c1, not_true_eq_false, not_false_eq_true, and_true, true_and, and_false, false_and, or_true, true_or, or_false, false_or, and_self, or_self, if_true, if_false, ite_true, ite_false, reduceIte, eq_self, ne_eq]; done) | (rcases hasv_01 ((mset M b 3 (M.1 b 3 ^^^ ((1 : Int32) <<< (w &&& 31)))).1 b 3) w with q | q <;> simp_all [tcR, mset_s, upd_s])
    · simp (decide := true) only [tcM, c1, not_true_eq_false, not_false_eq_true, and_true, true_and, and_false, false_and, or_true, true_or, or_false, false_or, and_self, or_self, if_true, if_false, ite_true, ite_false, reduceIte, eq_self, ne_eq]
  · skip
    refine v_iload_n hX 1 2 rfl rfl rfl ?_
    refine v_bipush hX (v := 10) 3 rfl (by decide) ?_
    refine v_icmp_lt hX (tgt := 12) 4 rfl (by decide) (fun c7 => ?_) (fun c7 => ?_)
    · skip
      refine v_aload_n hX 0 7 rfl rfl rfl ?_
      refine v_dup hX 8 rfl rfl ?_
      refine g_0_3 hX 9 hb tw_163 rfl ?_
      refine v_iconst hX (v := 1) 10 rfl (by decide) ?_
      refine v_iload_n hX 1 11 rfl rfl rfl ?_
      refine v_ishl hX 12 rfl ?_
      refine v_ixor hX 13 rfl ?_
      refine p_0_3 hX 14 hb  tw_163 rfl ?_
      refine v_aload_n hX 0 15 rfl rfl rfl ?_
      refine g_0_3 hX 16 hb tw_163 rfl ?_
      refine v_iload_n hX 1 17 rfl rfl rfl ?_
      refine v_callSN hX 2 (f_has) tw_381 (List.mem_of_getElem? (i := 15) rfl) tw_92 tw_380 (by decide +kernel) ⟨⟨rfl, rfl⟩, Nat.le_of_ble_eq_true rfl, Nat.le_of_ble_eq_true rfl⟩ rfl (Nat.le_of_ble_eq_true rfl) rfl rfl 18 rfl ?_
      refine v_if_eq hX (tgt := 39) 19 rfl (by decide) (fun c32 => ?_) (fun c32 => ?_)
      · skip
        refine v_iconst hX (v := 0) 22 rfl (by decide) ?_
        refine v_iret hX hQ rfl rfl ?_ ?_ 23 rfl
        · first | (simp (decide := true) only [tcR, c1, c7, c32, not_true_eq_false, not_false_eq_true, and_true, true_and, and_false, false_and, or_true, true_or, or_false, false_or, and_self, or_self, if_true, if_false, ite_true, ite_false, reduceIte, eq_self, ne_eq]; done) | (rcases hasv_01 ((mset M b 3 (M.1 b 3 ^^^ ((1 : Int32) <<< (w &&& 31)))).1 b 3) w with q | q <;> simp_all [tcR, mset_s, upd_s])
        · simp (decide := true) only [tcM, c1, c7, c32, not_true_eq_false, not_false_eq_true, and_true, true_and, and_false, false_and, or_true, true_or, or_false, false_or, and_self, or_self, if_true, if_false, ite_true, ite_false, reduceIte, eq_self, ne_eq]
      · skip
        refine v_iconst hX (v := 1) 20 rfl (by decide) ?_
        refine v_goto hX (tgt := 40) 21 rfl (by decide) ?_
        refine v_iret hX hQ rfl rfl ?_ ?_ 23 rfl
        · first | (simp (decide := true) only [tcR, c1, c7, c32, not_true_eq_false, not_false_eq_true, and_true, true_and, and_false, false_and, or_true, true_or, or_false, false_or, and_self, or_self, if_true, if_false, ite_true, ite_false, reduceIte, eq_self, ne_eq]; done) | (rcases hasv_01 ((mset M b 3 (M.1 b 3 ^^^ ((1 : Int32) <<< (w &&& 31)))).1 b 3) w with q | q <;> simp_all [tcR, mset_s, upd_s])
        · simp (decide := true) only [tcM, c1, c7, c32, not_true_eq_false, not_false_eq_true, and_true, true_and, and_false, false_and, or_true, true_or, or_false, false_or, and_self, or_self, if_true, if_false, ite_true, ite_false, reduceIte, eq_self, ne_eq]
    · skip
      refine v_iconst hX (v := (-1)) 5 rfl (by decide) ?_
      refine v_iret hX hQ rfl rfl ?_ ?_ 6 rfl
      · first | (simp (decide := true) only [tcR, c1, c7, not_true_eq_false, not_false_eq_true, and_true, true_and, and_false, false_and, or_true, true_or, or_false, false_or, and_self, or_self, if_true, if_false, ite_true, ite_false, reduceIte, eq_self, ne_eq]; done) | (rcases hasv_01 ((mset M b 3 (M.1 b 3 ^^^ ((1 : Int32) <<< (w &&& 31)))).1 b 3) w with q | q <;> simp_all [tcR, mset_s, upd_s])
      · simp (decide := true) only [tcM, c1, c7, not_true_eq_false, not_false_eq_true, and_true, true_and, and_false, false_and, or_true, true_or, or_false, false_or, and_self, or_self, if_true, if_false, ite_true, ite_false, reduceIte, eq_self, ne_eq]
set_option maxRecDepth 100000 in
set_option maxHeartbeats 4000000 in
theorem f_moveOn {Y : Yt} {M : Mm} {b n : Nat} {d : Int32} (hb : isB b) (hz : M.1 b 1 = nI n) (hn : n ≤ 24) (hw : WF (cp M b) n) : Fn Y yX0_moveOn wsX0_moveOn { frames := 4, cells := 0, slots := 0, locals := 88 } [.ref (Y.2.2.2 b), .int d] M (some (.int (moR M b n d))) ((moM M b d)) := by
  refine Fn.of (cc := cX0_moveOn) (ins := iX0_moveOn) (maxL := 2) (ret := (some .int)) (by decide) dX0_moveOn [some (.ref (Y.2.2.2 b)), some (.int d)] (Nat.le_of_ble_eq_true rfl) rfl rfl ?_
  intro X hX hQ
  refine v_iload_n hX 1 0 rfl rfl rfl ?_
  refine v_iconst hX (v := 1) 1 rfl (by decide) ?_
  refine v_icmp_lt hX (tgt := 11) 2 rfl (by decide) (fun c2 => ?_) (fun c2 => ?_)
  · skip
    refine v_bipush hX (v := (-2)) 6 rfl (by decide) ?_
    refine v_iret hX hQ rfl rfl ?_ ?_ 7 rfl
    · simp (decide := true) only [moR, c2, not_true_eq_false, not_false_eq_true, and_true, true_and, and_false, false_and, or_true, true_or, or_false, false_or, and_self, or_self, if_true, if_false, ite_true, ite_false, reduceIte, eq_self, ne_eq]
    · simp (decide := true) only [moM, c2, not_true_eq_false, not_false_eq_true, and_true, true_and, and_false, false_and, or_true, true_or, or_false, false_or, and_self, or_self, if_true, if_false, ite_true, ite_false, reduceIte, eq_self, ne_eq]
  · skip
    refine v_iload_n hX 1 3 rfl rfl rfl ?_
    refine v_bipush hX (v := 99) 4 rfl (by decide) ?_
    refine v_icmp_le hX (tgt := 14) 5 rfl (by decide) (fun c8 => ?_) (fun c8 => ?_)
    · skip
      refine v_aload_n hX 0 8 rfl rfl rfl ?_
      refine g_0_2 hX 9 hb tw_161 rfl ?_
      refine v_iload_n hX 1 10 rfl rfl rfl ?_
      refine v_iadd hX 11 rfl ?_
      refine v_sipush hX (v := 999) 12 rfl (by decide) ?_
      refine v_icmp_le hX (tgt := 29) 13 rfl (by decide) (fun c23 => ?_) (fun c23 => ?_)
      · skip
        refine v_aload_n hX 0 16 rfl rfl rfl ?_
        refine v_dup hX 17 rfl rfl ?_
        refine g_0_2 hX 18 hb tw_161 rfl ?_
        refine v_iload_n hX 1 19 rfl rfl rfl ?_
        refine v_iadd hX 20 rfl ?_
        refine p_0_2 hX 21 hb  tw_161 rfl ?_
        refine v_aload_n hX 0 22 rfl rfl rfl ?_
        have hz2 : (mset M b 2 (M.1 b 2 + d)).1 b 1 = nI n := by rw [mset_s, upd_n (by decide)]; exact hz
        refine v_callV hX 0 (by have := isB_lt hb; omega) (cG_B hb) rfl (f_standing hb hz2 hn (by rw [cp_mset_b]; exact hw)) tw_354 tw_351 tw_353 tw_13 tw_93 (by decide +kernel) ⟨⟨rfl, rfl⟩, Nat.le_of_ble_eq_true rfl, Nat.le_of_ble_eq_true rfl⟩ rfl (Nat.le_of_ble_eq_true rfl) rfl rfl 23 rfl ?_
        refine v_callS hX 1 (f_bitCount) tw_388 tw_386 tw_387 tw_100 (by decide +kernel) ⟨⟨rfl, rfl⟩, Nat.le_of_ble_eq_true rfl, Nat.le_of_ble_eq_true rfl⟩ rfl (Nat.le_of_ble_eq_true rfl) rfl rfl 24 rfl ?_
        refine v_iret hX hQ rfl rfl ?_ ?_ 25 rfl
        · simp (decide := true) only [moR, c2, c8, c23, not_true_eq_false, not_false_eq_true, and_true, true_and, and_false, false_and, or_true, true_or, or_false, false_or, and_self, or_self, if_true, if_false, ite_true, ite_false, reduceIte, eq_self, ne_eq]
        · simp (decide := true) only [moM, c2, c8, c23, not_true_eq_false, not_false_eq_true, and_true, true_and, and_false, false_and, or_true, true_or, or_false, false_or, and_self, or_self, if_true, if_false, ite_true, ite_false, reduceIte, eq_self, ne_eq]
      · skip
        refine v_bipush hX (v := (-5)) 14 rfl (by decide) ?_
        refine v_iret hX hQ rfl rfl ?_ ?_ 15 rfl
        · simp (decide := true) only [moR, c2, c8, c23, not_true_eq_false, not_false_eq_true, and_true, true_and, and_false, false_and, or_true, true_or, or_false, false_or, and_self, or_self, if_true, if_false, ite_true, ite_false, reduceIte, eq_self, ne_eq]
        · simp (decide := true) only [moM, c2, c8, c23, not_true_eq_false, not_false_eq_true, and_true, true_and, and_false, false_and, or_true, true_or, or_false, false_or, and_self, or_self, if_true, if_false, ite_true, ite_false, reduceIte, eq_self, ne_eq]
    · skip
      refine v_bipush hX (v := (-2)) 6 rfl (by decide) ?_
      refine v_iret hX hQ rfl rfl ?_ ?_ 7 rfl
      · simp (decide := true) only [moR, c2, c8, not_true_eq_false, not_false_eq_true, and_true, true_and, and_false, false_and, or_true, true_or, or_false, false_or, and_self, or_self, if_true, if_false, ite_true, ite_false, reduceIte, eq_self, ne_eq]
      · simp (decide := true) only [moM, c2, c8, not_true_eq_false, not_false_eq_true, and_true, true_and, and_false, false_and, or_true, true_or, or_false, false_or, and_self, or_self, if_true, if_false, ite_true, ite_false, reduceIte, eq_self, ne_eq]
set_option maxRecDepth 100000 in
set_option maxHeartbeats 4000000 in
theorem f_all {Y : Yt} {M : Mm} {b n : Nat} (hb : isB b) (hz : M.1 b 1 = nI n) : Fn Y yX0_all wsX0_all { frames := 0, cells := 0, slots := 0, locals := 0 } [.ref (Y.2.2.2 b)] M (some (.int (((1 : Int32) <<< (nI n &&& 31)) - 1))) M := by
  refine Fn.of (cc := cX0_all) (ins := iX0_all) (maxL := 1) (ret := (some .int)) (by decide) dX0_all [some (.ref (Y.2.2.2 b))] (Nat.le_of_ble_eq_true rfl) rfl rfl ?_
  intro X hX hQ
  refine v_iconst hX (v := 1) 0 rfl (by decide) ?_
  refine v_aload_n hX 0 1 rfl rfl rfl ?_
  refine g_0_1 hX 2 hb tw_159 rfl ?_
  refine v_ishl hX 3 rfl ?_
  refine v_iconst hX (v := 1) 4 rfl (by decide) ?_
  refine v_isub hX 5 rfl ?_
  refine v_iret hX hQ rfl rfl ?_ ?_ 6 rfl
  · rw [hz]
  · rfl
set_option maxRecDepth 100000 in
set_option maxHeartbeats 4000000 in
theorem f_withoutAnswers {Y : Yt} {M : Mm} {b n : Nat} (hb : isB b) (hz : M.1 b 1 = nI n) (hn : n ≤ 24) : Fn Y yX0_withoutAnswers wsX0_withoutAnswers { frames := 2, cells := 0, slots := 0, locals := 43 } [.ref (Y.2.2.2 b)] M (some (.int (waA (cp M b) n n))) M := by
  refine Fn.of (cc := cX0_withoutAnswers) (ins := iX0_withoutAnswers) (maxL := 3) (ret := (some .int)) (by decide) dX0_withoutAnswers [some (.ref (Y.2.2.2 b)), none, none] (Nat.le_of_ble_eq_true rfl) rfl rfl ?_
  intro X hX hQ
  refine v_aload_n hX 0 0 rfl rfl rfl ?_
  refine v_callV hX 0 (by have := isB_lt hb; omega) (cG_B hb) rfl (f_all hb hz) tw_460 tw_457 tw_459 tw_30 tw_93 (by decide +kernel) ⟨⟨rfl, rfl⟩, Nat.le_of_ble_eq_true rfl, Nat.le_of_ble_eq_true rfl⟩ rfl (Nat.le_of_ble_eq_true rfl) rfl rfl 1 rfl ?_
  refine v_istore_n hX 1 2 rfl rfl (Nat.le_of_ble_eq_true rfl) rfl ?_
  refine v_iconst hX (v := 0) 3 rfl (by decide) ?_
  refine v_istore_n hX 2 4 rfl rfl (Nat.le_of_ble_eq_true rfl) rfl ?_
  have lp : ∀ (k : Nat), k ≤ n → V Y X M 7 [some (.ref (Y.2.2.2 b)), some (.int (waA (cp M b) n k)), some (.int (nI k))] [] := by
    refine upTo n (fun k hk ih => ?_)
    refine v_iload_n hX 2 5 rfl rfl rfl ?_
    refine v_aload_n hX 0 6 rfl rfl rfl ?_
    refine g_0_1 hX 7 hb tw_159 rfl ?_
    refine v_icmp_ge hX (tgt := 31) 8 rfl (by decide) (fun c12 => ?_) (fun c12 => ?_)
    · skip
      have hk2 : k = n := by rw [hz] at c12; have := of_le c12 (by omega) (by omega); omega
      refine v_iload_n hX 1 19 rfl rfl rfl ?_
      refine v_iret hX hQ rfl rfl ?_ ?_ 20 rfl
      · rw [hk2]
      · rfl
    · skip
      have hk2 : k < n := by rw [hz] at c12; exact of_nle c12 (by omega) (by omega)
      refine v_iload_n hX 1 9 rfl rfl rfl ?_
      refine v_aload_n hX 0 10 rfl rfl rfl ?_
      refine v_iload_n hX 2 11 rfl rfl rfl ?_
      refine v_callV hX 1 (by have := isB_lt hb; omega) (cG_B hb) rfl (f_targetOf hb hz hn hk2) tw_385 tw_382 tw_384 tw_20 tw_93 (by decide +kernel) ⟨⟨rfl, rfl⟩, Nat.le_of_ble_eq_true rfl, Nat.le_of_ble_eq_true rfl⟩ rfl (Nat.le_of_ble_eq_true rfl) rfl rfl 12 rfl ?_
      refine v_iconst hX (v := (-1)) 13 rfl (by decide) ?_
      refine v_ixor hX 14 rfl ?_
      refine v_iand hX 15 rfl ?_
      refine v_istore_n hX 1 16 rfl rfl (Nat.le_of_ble_eq_true rfl) rfl ?_
      refine v_iinc hX 17 rfl rfl (nI_inc k) (Nat.le_of_ble_eq_true rfl) rfl ?_
      refine v_goto hX (tgt := 7) 18 rfl (by decide) ?_
      exact V.sub (ih hk2) rfl ⟨rfl, (by first | rfl | (refine congrArg (fun z : Int32 => some (Value.int z)) ?_; rfl)), rfl, trivial⟩
  exact V.sub (lp 0 (Nat.zero_le _)) rfl ⟨rfl, (by first | rfl | (refine congrArg (fun z : Int32 => some (Value.int z)) ?_; rfl)), rfl, trivial⟩
set_option maxRecDepth 100000 in
set_option maxHeartbeats 4000000 in
theorem f_answered {Y : Yt} {M : Mm} {b n : Nat} (hb : isB b) (hz : M.1 b 1 = nI n) (hn : n ≤ 24) (hw : WF (cp M b) n) : Fn Y yX0_answered wsX0_answered { frames := 4, cells := 0, slots := 0, locals := 88 } [.ref (Y.2.2.2 b)] M (some (.int ((((((1 : Int32) <<< (nI n &&& 31)) - 1) &&& (mk (bOut M b) n ^^^ (-1))) &&& (mk (bSd M b n) n ^^^ (-1)))))) M := by
  refine Fn.of (cc := cX0_answered) (ins := iX0_answered) (maxL := 1) (ret := (some .int)) (by decide) dX0_answered [some (.ref (Y.2.2.2 b))] (Nat.le_of_ble_eq_true rfl) rfl rfl ?_
  intro X hX hQ
  refine v_aload_n hX 0 0 rfl rfl rfl ?_
  refine v_callV hX 0 (by have := isB_lt hb; omega) (cG_B hb) rfl (f_all hb hz) tw_460 tw_457 tw_459 tw_30 tw_93 (by decide +kernel) ⟨⟨rfl, rfl⟩, Nat.le_of_ble_eq_true rfl, Nat.le_of_ble_eq_true rfl⟩ rfl (Nat.le_of_ble_eq_true rfl) rfl rfl 1 rfl ?_
  refine v_aload_n hX 0 2 rfl rfl rfl ?_
  refine v_callV hX 0 (by have := isB_lt hb; omega) (cG_B hb) rfl (f_out hb hz hn hw) tw_358 tw_355 tw_357 tw_14 tw_93 (by decide +kernel) ⟨⟨rfl, rfl⟩, Nat.le_of_ble_eq_true rfl, Nat.le_of_ble_eq_true rfl⟩ rfl (Nat.le_of_ble_eq_true rfl) rfl rfl 3 rfl ?_
  refine v_iconst hX (v := (-1)) 4 rfl (by decide) ?_
  refine v_ixor hX 5 rfl ?_
  refine v_iand hX 6 rfl ?_
  refine v_aload_n hX 0 7 rfl rfl rfl ?_
  refine v_callV hX 0 (by have := isB_lt hb; omega) (cG_B hb) rfl (f_standing hb hz hn hw) tw_354 tw_351 tw_353 tw_13 tw_93 (by decide +kernel) ⟨⟨rfl, rfl⟩, Nat.le_of_ble_eq_true rfl, Nat.le_of_ble_eq_true rfl⟩ rfl (Nat.le_of_ble_eq_true rfl) rfl rfl 8 rfl ?_
  refine v_iconst hX (v := (-1)) 9 rfl (by decide) ?_
  refine v_ixor hX 10 rfl ?_
  refine v_iand hX 11 rfl ?_
  refine v_iret hX hQ rfl rfl ?_ ?_ 12 rfl
  · rfl
  · rfl
set_option maxRecDepth 100000 in
set_option maxHeartbeats 4000000 in
theorem f_reasonAgainst {Y : Yt} {M : Mm} {b n i : Nat} (hb : isB b) (hz : M.1 b 1 = nI n) (hn : n ≤ 24) (hi : i < n) (hw : WF (cp M b) n) : Fn Y yX0_reasonAgainst wsX0_reasonAgainst { frames := 4, cells := 0, slots := 0, locals := 88 } [.ref (Y.2.2.2 b), .int (nI i)] M (some (.int (rsR M b n i))) M := by
  refine Fn.of (cc := cX0_reasonAgainst) (ins := iX0_reasonAgainst) (maxL := 2) (ret := (some .int)) (by decide) dX0_reasonAgainst [some (.ref (Y.2.2.2 b)), some (.int (nI i))] (Nat.le_of_ble_eq_true rfl) rfl rfl ?_
  intro X hX hQ
  refine v_aload_n hX 0 0 rfl rfl rfl ?_
  refine v_callV hX 0 (by have := isB_lt hb; omega) (cG_B hb) rfl (f_withdrawn hb hz hn) tw_362 tw_359 tw_361 tw_15 tw_93 (by decide +kernel) ⟨⟨rfl, rfl⟩, Nat.le_of_ble_eq_true rfl, Nat.le_of_ble_eq_true rfl⟩ rfl (Nat.le_of_ble_eq_true rfl) rfl rfl 1 rfl ?_
  refine v_iload_n hX 1 2 rfl rfl rfl ?_
  refine v_callSN hX 2 (f_has) tw_381 (List.mem_of_getElem? (i := 15) rfl) tw_92 tw_380 (by decide +kernel) ⟨⟨rfl, rfl⟩, Nat.le_of_ble_eq_true rfl, Nat.le_of_ble_eq_true rfl⟩ rfl (Nat.le_of_ble_eq_true rfl) rfl rfl 3 rfl ?_
  refine v_if_eq hX (tgt := 13) 4 rfl (by decide) (fun c8 => ?_) (fun c8 => ?_)
  · skip
    have q1 := hasv_eq (by omega) c8
    rw [bt_mkF _ _ (by omega) (by omega), b_0, Bool.false_or, decide_eq_true hi, Bool.true_and] at q1
    refine v_aload_n hX 0 7 rfl rfl rfl ?_
    refine v_callV hX 0 (by have := isB_lt hb; omega) (cG_B hb) rfl (f_struck hb hz hn) tw_366 tw_363 tw_365 tw_16 tw_93 (by decide +kernel) ⟨⟨rfl, rfl⟩, Nat.le_of_ble_eq_true rfl, Nat.le_of_ble_eq_true rfl⟩ rfl (Nat.le_of_ble_eq_true rfl) rfl rfl 8 rfl ?_
    refine v_iload_n hX 1 9 rfl rfl rfl ?_
    refine v_callSN hX 2 (f_has) tw_381 (List.mem_of_getElem? (i := 15) rfl) tw_92 tw_380 (by decide +kernel) ⟨⟨rfl, rfl⟩, Nat.le_of_ble_eq_true rfl, Nat.le_of_ble_eq_true rfl⟩ rfl (Nat.le_of_ble_eq_true rfl) rfl rfl 10 rfl ?_
    refine v_if_eq hX (tgt := 26) 11 rfl (by decide) (fun c21 => ?_) (fun c21 => ?_)
    · skip
      have q2 := hasv_eq (by omega) c21
      rw [skA_mk hw hn, bt_mk _ (by omega) (by omega), decide_eq_true hi, Bool.true_and] at q2
      refine v_aload_n hX 0 14 rfl rfl rfl ?_
      refine v_aload_n hX 0 15 rfl rfl rfl ?_
      refine g_0_2 hX 16 hb tw_161 rfl ?_
      refine v_callV hX 1 (by have := isB_lt hb; omega) (cG_B hb) rfl (f_lapsedOn hb hz hn) tw_370 tw_367 tw_369 tw_17 tw_93 (by decide +kernel) ⟨⟨rfl, rfl⟩, Nat.le_of_ble_eq_true rfl, Nat.le_of_ble_eq_true rfl⟩ rfl (Nat.le_of_ble_eq_true rfl) rfl rfl 17 rfl ?_
      refine v_iload_n hX 1 18 rfl rfl rfl ?_
      refine v_callSN hX 2 (f_has) tw_381 (List.mem_of_getElem? (i := 15) rfl) tw_92 tw_380 (by decide +kernel) ⟨⟨rfl, rfl⟩, Nat.le_of_ble_eq_true rfl, Nat.le_of_ble_eq_true rfl⟩ rfl (Nat.le_of_ble_eq_true rfl) rfl rfl 19 rfl ?_
      refine v_if_eq hX (tgt := 43) 20 rfl (by decide) (fun c38 => ?_) (fun c38 => ?_)
      · skip
        have q3 := hasv_eq (by omega) c38
        rw [bt_mkF _ _ (by omega) (by omega), b_0, Bool.false_or, decide_eq_true hi, Bool.true_and] at q3
        refine v_aload_n hX 0 23 rfl rfl rfl ?_
        refine v_callV hX 0 (by have := isB_lt hb; omega) (cG_B hb) rfl (f_baseless hb hz hn) tw_374 tw_371 tw_373 tw_18 tw_93 (by decide +kernel) ⟨⟨rfl, rfl⟩, Nat.le_of_ble_eq_true rfl, Nat.le_of_ble_eq_true rfl⟩ rfl (Nat.le_of_ble_eq_true rfl) rfl rfl 24 rfl ?_
        refine v_iload_n hX 1 25 rfl rfl rfl ?_
        refine v_callSN hX 2 (f_has) tw_381 (List.mem_of_getElem? (i := 15) rfl) tw_92 tw_380 (by decide +kernel) ⟨⟨rfl, rfl⟩, Nat.le_of_ble_eq_true rfl, Nat.le_of_ble_eq_true rfl⟩ rfl (Nat.le_of_ble_eq_true rfl) rfl rfl 26 rfl ?_
        refine v_if_eq hX (tgt := 56) 27 rfl (by decide) (fun c51 => ?_) (fun c51 => ?_)
        · skip
          have q4 := hasv_eq (by omega) c51
          rw [bt_mkF _ _ (by omega) (by omega), b_0, Bool.false_or, decide_eq_true hi, Bool.true_and] at q4
          refine v_aload_n hX 0 30 rfl rfl rfl ?_
          refine v_callV hX 0 (by have := isB_lt hb; omega) (cG_B hb) rfl (f_standing hb hz hn hw) tw_354 tw_351 tw_353 tw_13 tw_93 (by decide +kernel) ⟨⟨rfl, rfl⟩, Nat.le_of_ble_eq_true rfl, Nat.le_of_ble_eq_true rfl⟩ rfl (Nat.le_of_ble_eq_true rfl) rfl rfl 31 rfl ?_
          refine v_iload_n hX 1 32 rfl rfl rfl ?_
          refine v_callSN hX 2 (f_has) tw_381 (List.mem_of_getElem? (i := 15) rfl) tw_92 tw_380 (by decide +kernel) ⟨⟨rfl, rfl⟩, Nat.le_of_ble_eq_true rfl, Nat.le_of_ble_eq_true rfl⟩ rfl (Nat.le_of_ble_eq_true rfl) rfl rfl 33 rfl ?_
          refine v_if_eq hX (tgt := 71) 34 rfl (by decide) (fun c64 => ?_) (fun c64 => ?_)
          · skip
            have q5 := hasv_eq (by omega) c64
            rw [bt_mk _ (by omega) (by omega), decide_eq_true hi, Bool.true_and] at q5
            refine v_iconst hX (v := 5) 37 rfl (by decide) ?_
            refine v_iret hX hQ rfl rfl ?_ ?_ 38 rfl
            · simp [rsR, q1, q2, q3, q4, q5]
            · rfl
          · skip
            have q5 := hasv_ne (by omega) c64
            rw [bt_mk _ (by omega) (by omega), decide_eq_true hi, Bool.true_and] at q5
            refine v_iconst hX (v := 0) 35 rfl (by decide) ?_
            refine v_goto hX (tgt := 72) 36 rfl (by decide) ?_
            refine v_iret hX hQ rfl rfl ?_ ?_ 38 rfl
            · simp [rsR, q1, q2, q3, q4, q5]
            · rfl
        · skip
          have q4 := hasv_ne (by omega) c51
          rw [bt_mkF _ _ (by omega) (by omega), b_0, Bool.false_or, decide_eq_true hi, Bool.true_and] at q4
          refine v_iconst hX (v := 4) 28 rfl (by decide) ?_
          refine v_iret hX hQ rfl rfl ?_ ?_ 29 rfl
          · simp [rsR, q1, q2, q3, q4]
          · rfl
      · skip
        have q3 := hasv_ne (by omega) c38
        rw [bt_mkF _ _ (by omega) (by omega), b_0, Bool.false_or, decide_eq_true hi, Bool.true_and] at q3
        refine v_iconst hX (v := 3) 21 rfl (by decide) ?_
        refine v_iret hX hQ rfl rfl ?_ ?_ 22 rfl
        · simp [rsR, q1, q2, q3]
        · rfl
    · skip
      have q2 := hasv_ne (by omega) c21
      rw [skA_mk hw hn, bt_mk _ (by omega) (by omega), decide_eq_true hi, Bool.true_and] at q2
      refine v_iconst hX (v := 2) 12 rfl (by decide) ?_
      refine v_iret hX hQ rfl rfl ?_ ?_ 13 rfl
      · simp [rsR, q1, q2]
      · rfl
  · skip
    have q1 := hasv_ne (by omega) c8
    rw [bt_mkF _ _ (by omega) (by omega), b_0, Bool.false_or, decide_eq_true hi, Bool.true_and] at q1
    refine v_iconst hX (v := 1) 5 rfl (by decide) ?_
    refine v_iret hX hQ rfl rfl ?_ ?_ 6 rfl
    · simp [rsR, q1]
    · rfl
set_option maxRecDepth 100000 in
set_option maxHeartbeats 4000000 in
theorem f_daysLeft {Y : Yt} {M : Mm} {b n i : Nat} (hb : isB b) (hz : M.1 b 1 = nI n) (hn : n ≤ 24) (hi : i < n) : Fn Y yX0_daysLeft wsX0_daysLeft { frames := 0, cells := 0, slots := 0, locals := 0 } [.ref (Y.2.2.2 b), .ref (Y.2.2.2 (b + 2 + i))] M (some (.int (dlR M b i))) M := by
  refine Fn.of (cc := cX0_daysLeft) (ins := iX0_daysLeft) (maxL := 3) (ret := (some .int)) (by decide) dX0_daysLeft [some (.ref (Y.2.2.2 b)), some (.ref (Y.2.2.2 (b + 2 + i))), none] (Nat.le_of_ble_eq_true rfl) rfl rfl ?_
  intro X hX hQ
  refine v_aload_n hX 1 0 rfl rfl rfl ?_
  refine gN_4_5 hX 1 hb (by omega) (List.mem_of_getElem? (i := 11) rfl) rfl ?_
  refine v_aload_n hX 0 2 rfl rfl rfl ?_
  refine g_0_4 hX 3 hb tw_165 rfl ?_
  refine v_iadd hX 4 rfl ?_
  refine v_aload_n hX 0 5 rfl rfl rfl ?_
  refine g_0_2 hX 6 hb tw_161 rfl ?_
  refine v_isub hX 7 rfl ?_
  refine v_istore_n hX 2 8 rfl rfl (Nat.le_of_ble_eq_true rfl) rfl ?_
  refine v_aload_n hX 1 9 rfl rfl rfl ?_
  refine gN_4_3 hX 10 hb (by omega) (List.mem_of_getElem? (i := 7) rfl) rfl ?_
  refine v_bipush hX (v := (-6)) 11 rfl (by decide) ?_
  refine v_icmp_eq hX (tgt := 28) 12 rfl (by decide) (fun c21 => ?_) (fun c21 => ?_)
  · skip
    refine v_bipush hX (v := (-6)) 15 rfl (by decide) ?_
    refine v_goto hX (tgt := 34) 16 rfl (by decide) ?_
    refine v_iret hX hQ rfl rfl ?_ ?_ 18 rfl
    · simp (decide := true) only [dlR, c21, not_true_eq_false, not_false_eq_true, and_true, true_and, and_false, false_and, or_true, true_or, or_false, false_or, and_self, or_self, if_true, if_false, ite_true, ite_false, reduceIte, eq_self, ne_eq]
    · rfl
  · skip
    refine v_iload_n hX 2 13 rfl rfl rfl ?_
    refine v_if_ge hX (tgt := 33) 14 rfl (by decide) (fun c25 => ?_) (fun c25 => ?_)
    · skip
      refine v_iload_n hX 2 17 rfl rfl rfl ?_
      refine v_iret hX hQ rfl rfl ?_ ?_ 18 rfl
      · simp (decide := true) only [dlR, c21, c25, not_true_eq_false, not_false_eq_true, and_true, true_and, and_false, false_and, or_true, true_or, or_false, false_or, and_self, or_self, if_true, if_false, ite_true, ite_false, reduceIte, eq_self, ne_eq]
      · rfl
    · skip
      refine v_bipush hX (v := (-6)) 15 rfl (by decide) ?_
      refine v_goto hX (tgt := 34) 16 rfl (by decide) ?_
      refine v_iret hX hQ rfl rfl ?_ ?_ 18 rfl
      · simp (decide := true) only [dlR, c21, c25, not_true_eq_false, not_false_eq_true, and_true, true_and, and_false, false_and, or_true, true_or, or_false, false_or, and_self, or_self, if_true, if_false, ite_true, ite_false, reduceIte, eq_self, ne_eq]
      · rfl
set_option maxRecDepth 100000 in
set_option maxHeartbeats 4000000 in
theorem f_pagesOf {Y : Yt} {M : Mm} {b n : Nat} {s2 x : Int32} (hb : isB b) (hz : M.1 b 1 = nI n) (hn : n ≤ 24) : Fn Y yX0_pagesOf wsX0_pagesOf { frames := 1, cells := 0, slots := 0, locals := 21 } [.ref (Y.2.2.2 b), .int s2, .int x] M (some (.int (sm (cp M b) s2 x n))) M := by
  refine Fn.of (cc := cX0_pagesOf) (ins := iX0_pagesOf) (maxL := 6) (ret := (some .int)) (by decide) dX0_pagesOf [some (.ref (Y.2.2.2 b)), some (.int s2), some (.int x), none, none, none] (Nat.le_of_ble_eq_true rfl) rfl rfl ?_
  intro X hX hQ
  refine v_iconst hX (v := 0) 0 rfl (by decide) ?_
  refine v_istore_n hX 3 1 rfl rfl (Nat.le_of_ble_eq_true rfl) rfl ?_
  refine v_iconst hX (v := 0) 2 rfl (by decide) ?_
  refine v_istore hX 3 rfl (Nat.le_of_ble_eq_true rfl) rfl ?_
  have lp : ∀ (k : Nat), k ≤ n → V Y X M 5 [some (.ref (Y.2.2.2 b)), some (.int s2), some (.int x), some (.int (sm (cp M b) s2 x k)), some (.int (nI k)), none] [] := by
    refine upTo n (fun k hk ih => ?_)
    refine v_iload hX 4 rfl rfl ?_
    refine v_aload_n hX 0 5 rfl rfl rfl ?_
    refine g_0_1 hX 6 hb tw_159 rfl ?_
    refine v_icmp_ge hX (tgt := 59) 7 rfl (by decide) (fun c11 => ?_) (fun c11 => ?_)
    · skip
      have hk2 : k = n := by rw [hz] at c11; have := of_le c11 (by omega) (by omega); omega
      refine v_iload_n hX 3 29 rfl rfl rfl ?_
      refine v_iret hX hQ rfl rfl ?_ ?_ 30 rfl
      · rw [hk2]
      · rfl
    · skip
      have hk2 : k < n := by rw [hz] at c11; exact of_nle c11 (by omega) (by omega)
      refine v_aload_n hX 0 8 rfl rfl rfl ?_
      refine v_iload hX 9 rfl rfl ?_
      refine v_callV hX 1 (by have := isB_lt hb; omega) (cG_B hb) rfl (f_find_in hb hz hn hk2) tw_299 tw_296 tw_298 tw_3 tw_93 (by decide +kernel) ⟨⟨rfl, rfl⟩, Nat.le_of_ble_eq_true rfl, Nat.le_of_ble_eq_true rfl⟩ rfl (Nat.le_of_ble_eq_true rfl) rfl rfl 10 rfl ?_
      refine v_astore hX 11 rfl (Nat.le_of_ble_eq_true rfl) rfl ?_
      refine v_aload hX 12 rfl rfl ?_
      refine v_ifnull hX 13 rfl ?_
      refine v_aload hX 14 rfl rfl ?_
      refine gN_4_0 hX 15 hb (by omega) (List.mem_of_getElem? (i := 0) rfl) rfl ?_
      refine v_iload_n hX 1 16 rfl rfl rfl ?_
      refine v_icmp_ne hX (tgt := 53) 17 rfl (by decide) (fun c33 => ?_) (fun c33 => ?_)
      · skip
        refine v_iinc hX 27 rfl rfl (nI_inc k) (Nat.le_of_ble_eq_true rfl) rfl ?_
        refine v_goto hX (tgt := 5) 28 rfl (by decide) ?_
        exact V.sub (ih hk2) rfl ⟨rfl, rfl, rfl, (by first | rfl | (refine congrArg (fun z : Int32 => some (Value.int z)) ?_; simp [sm, cp, c33])), rfl, trivial⟩
      · skip
        refine v_iload_n hX 2 18 rfl rfl rfl ?_
        refine v_iload hX 19 rfl rfl ?_
        refine v_callSN hX 2 (f_has) tw_381 (List.mem_of_getElem? (i := 15) rfl) tw_92 tw_380 (by decide +kernel) ⟨⟨rfl, rfl⟩, Nat.le_of_ble_eq_true rfl, Nat.le_of_ble_eq_true rfl⟩ rfl (Nat.le_of_ble_eq_true rfl) rfl rfl 20 rfl ?_
        refine v_if_ne hX (tgt := 53) 21 rfl (by decide) (fun c42 => ?_) (fun c42 => ?_)
        · skip
          have q1 := hasv_ne (by omega) c42
          refine v_iinc hX 27 rfl rfl (nI_inc k) (Nat.le_of_ble_eq_true rfl) rfl ?_
          refine v_goto hX (tgt := 5) 28 rfl (by decide) ?_
          exact V.sub (ih hk2) rfl ⟨rfl, rfl, rfl, (by first | rfl | (refine congrArg (fun z : Int32 => some (Value.int z)) ?_; simp [sm, cp, q1])), rfl, trivial⟩
        · skip
          have q1 := hasv_eq (by omega) c42
          refine v_iload_n hX 3 22 rfl rfl rfl ?_
          refine v_aload hX 23 rfl rfl ?_
          refine gN_4_1 hX 24 hb (by omega) (List.mem_of_getElem? (i := 2) rfl) rfl ?_
          refine v_iadd hX 25 rfl ?_
          refine v_istore_n hX 3 26 rfl rfl (Nat.le_of_ble_eq_true rfl) rfl ?_
          refine v_iinc hX 27 rfl rfl (nI_inc k) (Nat.le_of_ble_eq_true rfl) rfl ?_
          refine v_goto hX (tgt := 5) 28 rfl (by decide) ?_
          exact V.sub (ih hk2) rfl ⟨rfl, rfl, rfl, (by first | rfl | (refine congrArg (fun z : Int32 => some (Value.int z)) ?_; simp [sm, cp, q1, c11, c33, c42])), rfl, trivial⟩
  exact V.sub (lp 0 (Nat.zero_le _)) rfl ⟨rfl, rfl, rfl, (by first | rfl | (refine congrArg (fun z : Int32 => some (Value.int z)) ?_; rfl)), rfl, trivial⟩
set_option maxRecDepth 100000 in
set_option maxHeartbeats 4000000 in
theorem f_depthOf {Y : Yt} {M : Mm} {b n i : Nat} (hb : isB b) (hz : M.1 b 1 = nI n) (hn : n ≤ 24) (hi : i < n) (hw : WF (cp M b) n) : Fn Y yX0_depthOf wsX0_depthOf { frames := 1, cells := 0, slots := 0, locals := 21 } [.ref (Y.2.2.2 b), .int (nI i)] M (some (.int (nI (dpN (cp M b) (i + 1) i)))) M := by
  refine Fn.of (cc := cX0_depthOf) (ins := iX0_depthOf) (maxL := 4) (ret := (some .int)) (by decide) dX0_depthOf [some (.ref (Y.2.2.2 b)), some (.int (nI i)), none, none] (Nat.le_of_ble_eq_true rfl) rfl rfl ?_
  intro X hX hQ
  refine v_iconst hX (v := 0) 0 rfl (by decide) ?_
  refine v_istore_n hX 2 1 rfl rfl (Nat.le_of_ble_eq_true rfl) rfl ?_
  refine v_aload_n hX 0 2 rfl rfl rfl ?_
  refine v_iload_n hX 1 3 rfl rfl rfl ?_
  refine v_callV hX 1 (by have := isB_lt hb; omega) (cG_B hb) rfl (f_find_in hb hz hn hi) tw_299 tw_296 tw_298 tw_3 tw_93 (by decide +kernel) ⟨⟨rfl, rfl⟩, Nat.le_of_ble_eq_true rfl, Nat.le_of_ble_eq_true rfl⟩ rfl (Nat.le_of_ble_eq_true rfl) rfl rfl 4 rfl ?_
  refine v_astore_n hX 3 5 rfl rfl (Nat.le_of_ble_eq_true rfl) rfl ?_
  have lp : ∀ (r : Nat), r < n → ∀ d : Nat, d + r < 24 → d + dpN (cp M b) (r + 1) r = dpN (cp M b) (i + 1) i → V Y X M 8 [some (.ref (Y.2.2.2 b)), some (.int (nI i)), some (.int (nI d)), some (.ref (Y.2.2.2 (b + 2 + r)))] [] := by
    refine downTo (fun r ih => ?_)
    intro hr d hd he
    refine v_iload_n hX 2 6 rfl rfl rfl ?_
    refine v_bipush hX (v := 24) 7 rfl (by decide) ?_
    refine v_icmp_ge hX (tgt := 42) 8 rfl (by decide) (fun c11 => absurd c11 (nI_ge (show d < 24 by omega) (by decide))) (fun c11 => ?_)
    refine v_aload_n hX 3 9 rfl rfl rfl ?_
    refine v_ifnull hX 10 rfl ?_
    refine v_aload_n hX 3 11 rfl rfl rfl ?_
    refine gN_4_3 hX 12 hb (by omega) (List.mem_of_getElem? (i := 7) rfl) rfl ?_
    refine v_bipush hX (v := (-6)) 13 rfl (by decide) ?_
    refine v_icmp_eq hX (tgt := 42) 14 rfl (by decide) (fun c24 => ?_) (fun c24 => ?_)
    · skip
      have he2 : dpN (cp M b) (r + 1) r = 0 := by rw [dpN, if_pos (show cp M b r 3 = -6 from c24)]
      refine v_iload_n hX 2 22 rfl rfl rfl ?_
      refine v_iret hX hQ rfl rfl ?_ ?_ 23 rfl
      · rw [← he, he2, Nat.add_zero]
      · rfl
    · skip
      obtain ⟨t, ht, et⟩ := (hw r hr).2.1.resolve_left c24
      have et : M.1 (b + 2 + r) 3 = nI t := et
      have he2 : dpN (cp M b) (r + 1) r = dpN (cp M b) (t + 1) t + 1 := by rw [dpN, if_neg (show ¬ cp M b r 3 = -6 from c24), show (cp M b r 3) = nI t from et, nI_clamp (by omega), dpN_fuel hw hn r (t + 1) t (by omega) (by omega) (by omega)]
      refine v_iinc hX 15 rfl rfl (nI_inc d) (Nat.le_of_ble_eq_true rfl) rfl ?_
      refine v_aload_n hX 0 16 rfl rfl rfl ?_
      refine v_aload_n hX 3 17 rfl rfl rfl ?_
      refine gN_4_3 hX 18 hb (by omega) (List.mem_of_getElem? (i := 7) rfl) rfl ?_
      rw [et]
      refine v_callV hX 1 (by have := isB_lt hb; omega) (cG_B hb) rfl (f_find_in hb hz hn (show t < n by omega)) tw_299 tw_296 tw_298 tw_3 tw_93 (by decide +kernel) ⟨⟨rfl, rfl⟩, Nat.le_of_ble_eq_true rfl, Nat.le_of_ble_eq_true rfl⟩ rfl (Nat.le_of_ble_eq_true rfl) rfl rfl 19 rfl ?_
      refine v_astore_n hX 3 20 rfl rfl (Nat.le_of_ble_eq_true rfl) rfl ?_
      refine v_goto hX (tgt := 8) 21 rfl (by decide) ?_
      exact V.sub (ih t (by omega) (by omega) (d + 1) (by omega) (by omega)) rfl ⟨rfl, rfl, rfl, rfl, trivial⟩
  exact V.sub (lp i hi 0 (by omega) (Nat.zero_add _)) rfl ⟨rfl, rfl, rfl, rfl, trivial⟩
set_option maxRecDepth 100000 in
set_option maxHeartbeats 4000000 in
theorem f_ptBecome {Y : Yt} {M : Mm} {b c i : Nat} (hb : isB b) (hc : isB c) (hi : i < 24) (h : b ≠ c) (hv : M.1 (c + 2 + i) 6 = 0 ∨ M.1 (c + 2 + i) 6 = 1) : Fn Y yX4_become wsX4_become { frames := 0, cells := 0, slots := 0, locals := 0 } [.ref (Y.2.2.2 (b + 2 + i)), .ref (Y.2.2.2 (c + 2 + i))] M none ((ptM M (b + 2 + i) (c + 2 + i))) := by
  have hap := isB_apart hb hc h
  have hne : b + 2 + i ≠ c + 2 + i := by omega
  have hne : c + 2 + i ≠ b + 2 + i := fun e => hne e.symm
  refine Fn.of (cc := cX4_become) (ins := iX4_become) (maxL := 2) (ret := none) (by decide) dX4_become [some (.ref (Y.2.2.2 (b + 2 + i))), some (.ref (Y.2.2.2 (c + 2 + i)))] (Nat.le_of_ble_eq_true rfl) rfl rfl ?_
  intro X hX hQ
  refine v_aload_n hX 0 0 rfl rfl rfl ?_
  refine v_aload_n hX 1 1 rfl rfl rfl ?_
  refine g_4_0 hX 2 hc hi tw_123 rfl ?_
  refine p_4_0 hX 3 hb hi  tw_123 rfl ?_
  refine v_aload_n hX 0 4 rfl rfl rfl ?_
  refine v_aload_n hX 1 5 rfl rfl rfl ?_
  refine g_4_1 hX 6 hc hi tw_126 rfl ?_
  refine p_4_1 hX 7 hb hi  tw_126 rfl ?_
  refine v_aload_n hX 0 8 rfl rfl rfl ?_
  refine v_aload_n hX 1 9 rfl rfl rfl ?_
  refine g_4_2 hX 10 hc hi tw_129 rfl ?_
  refine p_4_2 hX 11 hb hi  tw_129 rfl ?_
  refine v_aload_n hX 0 12 rfl rfl rfl ?_
  refine v_aload_n hX 1 13 rfl rfl rfl ?_
  refine g_4_3 hX 14 hc hi tw_132 rfl ?_
  refine p_4_3 hX 15 hb hi  tw_132 rfl ?_
  refine v_aload_n hX 0 16 rfl rfl rfl ?_
  refine v_aload_n hX 1 17 rfl rfl rfl ?_
  refine g_4_4 hX 18 hc hi tw_136 rfl ?_
  refine p_4_4 hX 19 hb hi  tw_136 rfl ?_
  refine v_aload_n hX 0 20 rfl rfl rfl ?_
  refine v_aload_n hX 1 21 rfl rfl rfl ?_
  refine g_4_5 hX 22 hc hi tw_139 rfl ?_
  refine p_4_5 hX 23 hb hi  tw_139 rfl ?_
  refine v_aload_n hX 0 24 rfl rfl rfl ?_
  refine v_aload_n hX 1 25 rfl rfl rfl ?_
  refine g_4_6 hX 26 hc hi tw_141 rfl ?_
  simp only [mset_n hne]
  refine p_4_6 hX 27 hb hi (nar_b hv) (fit_b hv) tw_141 rfl ?_
  refine v_vret hX hQ rfl rfl ?_ 28 rfl
  exact (ptM_7 hne.symm).symm
set_option maxRecDepth 100000 in
set_option maxHeartbeats 4000000 in
theorem f_become {Y : Yt} {M : Mm} {b c n : Nat} (hb : isB b) (hc : isB c) (hz : M.1 c 1 = nI n) (hn : n ≤ 24) (h : b ≠ c) (hw : WF (cp M c) n) : Fn Y yX0_become wsX0_become { frames := 1, cells := 0, slots := 0, locals := 21 } [.ref (Y.2.2.2 b), .ref (Y.2.2.2 c)] M none ((cpB M b c n)) := by
  have hap := isB_apart hb hc h
  refine Fn.of (cc := cX0_become) (ins := iX0_become) (maxL := 5) (ret := none) (by decide) dX0_become [some (.ref (Y.2.2.2 b)), some (.ref (Y.2.2.2 c)), none, none, none] (Nat.le_of_ble_eq_true rfl) rfl rfl ?_
  intro X hX hQ
  refine v_aload_n hX 0 0 rfl rfl rfl ?_
  refine v_aload_n hX 1 1 rfl rfl rfl ?_
  refine g_0_1 hX 2 hc tw_159 rfl ?_
  refine p_0_1 hX 3 hb  tw_159 rfl ?_
  refine v_aload_n hX 0 4 rfl rfl rfl ?_
  refine v_aload_n hX 1 5 rfl rfl rfl ?_
  refine g_0_2 hX 6 hc tw_161 rfl ?_
  refine p_0_2 hX 7 hb  tw_161 rfl ?_
  refine v_aload_n hX 0 8 rfl rfl rfl ?_
  refine v_aload_n hX 1 9 rfl rfl rfl ?_
  refine g_0_3 hX 10 hc tw_163 rfl ?_
  refine p_0_3 hX 11 hb  tw_163 rfl ?_
  refine v_aload_n hX 0 12 rfl rfl rfl ?_
  refine v_aload_n hX 1 13 rfl rfl rfl ?_
  refine g_0_4 hX 14 hc tw_165 rfl ?_
  refine p_0_4 hX 15 hb  tw_165 rfl ?_
  refine v_aload_n hX 0 16 rfl rfl rfl ?_
  refine v_aload_n hX 1 17 rfl rfl rfl ?_
  refine g_0_5 hX 18 hc tw_167 rfl ?_
  refine p_0_5 hX 19 hb  tw_167 rfl ?_
  refine v_iconst hX (v := 0) 20 rfl (by decide) ?_
  refine v_istore_n hX 2 21 rfl rfl (Nat.le_of_ble_eq_true rfl) rfl ?_
  have lp : ∀ (k : Nat), k ≤ n → V Y X (cpB M b c k) 42 [some (.ref (Y.2.2.2 b)), some (.ref (Y.2.2.2 c)), some (.int (nI k)), none, none] [] := by
    refine upTo n (fun k hk ih => ?_)
    have hzb : (cpB M b c k).1 b 1 = nI n := by rw [cpB_b]; exact hz
    have hzc : (cpB M b c k).1 c 1 = nI n := by rw [cpB_out h.symm (by omega)]; exact hz
    refine v_iload_n hX 2 22 rfl rfl rfl ?_
    refine v_aload_n hX 0 23 rfl rfl rfl ?_
    refine g_0_0 hX 24 hb tw_158 rfl ?_
    refine v_alen hX (v := nI 24) (k := b + 1) (by have := isB_lt hb; omega) (cG_R hb) rfl rfl 25 rfl ?_
    refine v_icmp_ge hX (tgt := 94) 26 rfl (by decide) (fun c48 => ?_) (fun c48 => ?_)
    · skip
      have hk2 : k = n := by have := of_le c48 (by omega) (by omega); omega
      refine v_vret hX hQ rfl rfl ?_ 49 rfl
      rw [hk2]
    · skip
      have hk3 : k < 24 := of_nle c48 (by omega) (by omega)
      refine v_iload_n hX 2 27 rfl rfl rfl ?_
      refine v_aload_n hX 0 28 rfl rfl rfl ?_
      refine g_0_1 hX 29 hb tw_159 rfl ?_
      rw [hzb]
      refine v_icmp_ge hX (tgt := 94) 30 rfl (by decide) (fun c56 => ?_) (fun c56 => ?_)
      · skip
        have hk2 : k = n := by have := of_le c56 (by omega) (by omega); omega
        refine v_vret hX hQ rfl rfl ?_ 49 rfl
        rw [hk2]
      · skip
        have hk2 : k < n := of_nle c56 (by omega) (by omega)
        refine v_aload_n hX 0 31 rfl rfl rfl ?_
        refine g_0_0 hX 32 hb tw_158 rfl ?_
        refine v_iload_n hX 2 33 rfl rfl rfl ?_
        refine v_aald hX (k := b + 1) (v := Y.2.2.2 (b + 2 + k)) (by have := isB_lt hb; omega) (cG_R hb) rfl (vp_in_nI (by omega) (by decide)) (by rw [nI_clamp (by omega)]) 34 rfl ?_
        refine v_astore_n hX 3 35 rfl rfl (Nat.le_of_ble_eq_true rfl) rfl ?_
        refine v_aload_n hX 1 36 rfl rfl rfl ?_
        refine v_iload_n hX 2 37 rfl rfl rfl ?_
        refine v_callV hX 1 (by have := isB_lt hc; omega) (cG_B hc) rfl (f_find_in hc hzc hn hk2) tw_299 tw_296 tw_298 tw_3 tw_93 (by decide +kernel) ⟨⟨rfl, rfl⟩, Nat.le_of_ble_eq_true rfl, Nat.le_of_ble_eq_true rfl⟩ rfl (Nat.le_of_ble_eq_true rfl) rfl rfl 38 rfl ?_
        refine v_astore hX 39 rfl (Nat.le_of_ble_eq_true rfl) rfl ?_
        refine v_aload_n hX 3 40 rfl rfl rfl ?_
        refine v_ifnull hX 41 rfl ?_
        refine v_aload hX 42 rfl rfl ?_
        refine v_ifnull hX 43 rfl ?_
        refine v_aload_n hX 3 44 rfl rfl rfl ?_
        refine v_aload hX 45 rfl rfl ?_
        refine v_callVN hX 1 (by have := isB_lt hb; omega) (cG_P hb hk3) rfl (f_ptBecome hb hc hk3 h (by rw [cpB_out (by omega) (by omega)]; exact (hw k hk2).2.2)) tw_303 (List.mem_of_getElem? (i := 9) rfl) tw_94 tw_302 tw_4 (by decide +kernel) ⟨⟨rfl, rfl⟩, Nat.le_of_ble_eq_true rfl, Nat.le_of_ble_eq_true rfl⟩ rfl (Nat.le_of_ble_eq_true rfl) rfl rfl 46 rfl ?_
        refine v_iinc hX 47 rfl rfl (nI_inc k) (Nat.le_of_ble_eq_true rfl) rfl ?_
        refine v_goto hX (tgt := 42) 48 rfl (by decide) ?_
        refine V.subM (ih hk2) ?_ rfl ⟨rfl, rfl, rfl, trivial⟩
        exact cpB_step hb hc h hk3
  refine V.subM (lp 0 (Nat.zero_le _)) ?_ rfl ⟨rfl, rfl, rfl, trivial⟩
  simp only [mset_n h.symm]; exact cpB_0 h
end
section
set_option maxRecDepth 100000 in
set_option maxHeartbeats 4000000 in
theorem f_addT_no {Y : Yt} {M : Mm} {t x y : Int32} (ht : t < 0 ∨ nI 24 ≤ t) : Fn Y yX1_addToTarget wsX1_addToTarget { frames := 1, cells := 0, slots := 0, locals := 24 } [.ref (Y.2.2.2 27), .int t, .int x, .int y] M none M := by
  refine Fn.of (cc := cX1_addToTarget) (ins := iX1_addToTarget) (maxL := 4) (ret := none) (by decide) dX1_addToTarget [some (.ref (Y.2.2.2 27)), some (.int t), some (.int x), some (.int y)] (Nat.le_of_ble_eq_true rfl) rfl rfl ?_
  intro X hX hQ
  refine v_iload_n hX 1 0 rfl rfl rfl ?_
  refine v_if_lt hX (tgt := 46) 1 rfl (by decide) (fun c1 => ?_) (fun c1 => ?_)
  · skip
    refine v_vret hX hQ rfl rfl ?_ 27 rfl
    rfl
  · skip
    refine v_iload_n hX 1 2 rfl rfl rfl ?_
    refine v_bipush hX (v := 24) 3 rfl (by decide) ?_
    refine v_icmp_ge hX (tgt := 46) 4 rfl (by decide) (fun c7 => ?_) (fun c7 => absurd (ht.resolve_left c1) c7)
    refine v_vret hX hQ rfl rfl ?_ 27 rfl
    rfl
set_option maxRecDepth 100000 in
set_option maxHeartbeats 4000000 in
theorem f_addT {Y : Yt} {M : Mm} {t : Nat} {x y : Int32} (ht : t < 24) : Fn Y yX1_addToTarget wsX1_addToTarget { frames := 1, cells := 0, slots := 0, locals := 24 } [.ref (Y.2.2.2 27), .int (nI t), .int x, .int y] M none ((mset (mset M 28 t (imin (M.1 28 t) y)) 29 t (imin 1000 (M.1 29 t + x)))) := by
  refine Fn.of (cc := cX1_addToTarget) (ins := iX1_addToTarget) (maxL := 4) (ret := none) (by decide) dX1_addToTarget [some (.ref (Y.2.2.2 27)), some (.int (nI t)), some (.int x), some (.int y)] (Nat.le_of_ble_eq_true rfl) rfl rfl ?_
  intro X hX hQ
  refine v_iload_n hX 1 0 rfl rfl rfl ?_
  refine v_if_lt hX (tgt := 46) 1 rfl (by decide) (fun c1 => absurd c1 (nI_nlt (Nat.zero_le _) (by omega))) (fun c1 => ?_)
  refine v_iload_n hX 1 2 rfl rfl rfl ?_
  refine v_bipush hX (v := 24) 3 rfl (by decide) ?_
  refine v_icmp_ge hX (tgt := 46) 4 rfl (by decide) (fun c7 => absurd c7 (nI_ge (show t < 24 by omega) (by decide))) (fun c7 => ?_)
  refine v_aload_n hX 0 5 rfl rfl rfl ?_
  refine g_1_0 hX 6  tw_188 rfl ?_
  refine v_iload_n hX 1 7 rfl rfl rfl ?_
  refine v_aload_n hX 0 8 rfl rfl rfl ?_
  refine g_1_0 hX 9  tw_188 rfl ?_
  refine v_iload_n hX 1 10 rfl rfl rfl ?_
  refine v_iald hX (k := 28) (by decide) rfl (vp_in_nI (by omega) (by decide)) 11 rfl ?_
  refine v_iload_n hX 3 12 rfl rfl rfl ?_
  refine v_mmin hX tw_503 tw_504 tw_101 tw_505 (Nat.le_of_ble_eq_true rfl) (Nat.le_of_ble_eq_true rfl) rfl 13 rfl ?_
  refine v_iast hX (k := 28) (by decide) rfl rfl (vp_in_nI (by omega) (by decide)) rfl 14 rfl ?_
  refine v_aload_n hX 0 15 rfl rfl rfl ?_
  refine g_1_1 hX 16  tw_189 rfl ?_
  refine v_iload_n hX 1 17 rfl rfl rfl ?_
  refine v_sipush hX (v := 1000) 18 rfl (by decide) ?_
  refine v_aload_n hX 0 19 rfl rfl rfl ?_
  refine g_1_1 hX 20  tw_189 rfl ?_
  refine v_iload_n hX 1 21 rfl rfl rfl ?_
  refine v_iald hX (k := 29) (by decide) rfl (vp_in_nI (by omega) (by decide)) 22 rfl ?_
  refine v_iload_n hX 2 23 rfl rfl rfl ?_
  refine v_iadd hX 24 rfl ?_
  refine v_mmin hX tw_503 tw_504 tw_101 tw_505 (Nat.le_of_ble_eq_true rfl) (Nat.le_of_ble_eq_true rfl) rfl 25 rfl ?_
  refine v_iast hX (k := 29) (by decide) rfl rfl (vp_in_nI (by omega) (by decide)) rfl 26 rfl ?_
  refine v_vret hX hQ rfl rfl ?_ 27 rfl
  rw [nI_clamp (by omega), mset_n (by decide)]; rfl
set_option maxRecDepth 100000 in
set_option maxHeartbeats 4000000 in
theorem f_reachable {Y : Yt} {M : Mm} {x : Int32} : Fn Y yX1_reachable wsX1_reachable { frames := 0, cells := 0, slots := 0, locals := 0 } [.int x] M (some (.int (if x < 1000 then x else -6))) M := by
  refine Fn.of (cc := cX1_reachable) (ins := iX1_reachable) (maxL := 1) (ret := (some .int)) (by decide) dX1_reachable [some (.int x)] (Nat.le_of_ble_eq_true rfl) rfl rfl ?_
  intro X hX hQ
  refine v_iload_n hX 0 0 rfl rfl rfl ?_
  refine v_sipush hX (v := 1000) 1 rfl (by decide) ?_
  refine v_icmp_lt hX (tgt := 12) 2 rfl (by decide) (fun c4 => ?_) (fun c4 => ?_)
  · skip
    refine v_iload_n hX 0 5 rfl rfl rfl ?_
    refine v_iret hX hQ rfl rfl ?_ ?_ 6 rfl
    · simp only [c4, if_true, if_false]
    · rfl
  · skip
    refine v_bipush hX (v := (-6)) 3 rfl (by decide) ?_
    refine v_goto hX (tgt := 13) 4 rfl (by decide) ?_
    refine v_iret hX hQ rfl rfl ?_ ?_ 6 rfl
    · simp only [c4, if_true, if_false]
    · rfl
set_option maxRecDepth 100000 in
set_option maxHeartbeats 4000000 in
theorem f_ansFall {Y : Yt} {M : Mm} {i : Nat} (hi : i < 24) : Fn Y yX1_answersToFall wsX1_answersToFall { frames := 1, cells := 0, slots := 0, locals := 20 } [.ref (Y.2.2.2 27), .int (nI i)] M (some (.int (if M.1 28 i < 1000 then M.1 28 i else -6))) M := by
  refine Fn.of (cc := cX1_answersToFall) (ins := iX1_answersToFall) (maxL := 2) (ret := (some .int)) (by decide) dX1_answersToFall [some (.ref (Y.2.2.2 27)), some (.int (nI i))] (Nat.le_of_ble_eq_true rfl) rfl rfl ?_
  intro X hX hQ
  refine v_iload_n hX 1 0 rfl rfl rfl ?_
  refine v_if_lt hX (tgt := 19) 1 rfl (by decide) (fun c1 => absurd c1 (nI_nlt (Nat.zero_le _) (by omega))) (fun c1 => ?_)
  refine v_iload_n hX 1 2 rfl rfl rfl ?_
  refine v_bipush hX (v := 24) 3 rfl (by decide) ?_
  refine v_icmp_ge hX (tgt := 19) 4 rfl (by decide) (fun c7 => absurd c7 (nI_ge hi (by decide))) (fun c7 => ?_)
  refine v_aload_n hX 0 5 rfl rfl rfl ?_
  refine g_1_0 hX 6  tw_188 rfl ?_
  refine v_iload_n hX 1 7 rfl rfl rfl ?_
  refine v_iald hX (k := 28) (by decide) rfl (vp_in_nI (by omega) (by decide)) 8 rfl ?_
  refine v_goto hX (tgt := 22) 9 rfl (by decide) ?_
  rw [nI_clamp (by omega)]
  refine v_callS hX 1 (f_reachable) tw_512 tw_510 tw_511 tw_95 (by decide +kernel) ⟨⟨rfl, rfl⟩, Nat.le_of_ble_eq_true rfl, Nat.le_of_ble_eq_true rfl⟩ rfl (Nat.le_of_ble_eq_true rfl) rfl rfl 11 rfl ?_
  refine v_iret hX hQ rfl rfl ?_ ?_ 12 rfl
  · rfl
  · rfl
set_option maxRecDepth 100000 in
set_option maxHeartbeats 4000000 in
theorem f_ansStand {Y : Yt} {M : Mm} {i : Nat} (hi : i < 24) : Fn Y yX1_answersToStand wsX1_answersToStand { frames := 1, cells := 0, slots := 0, locals := 20 } [.ref (Y.2.2.2 27), .int (nI i)] M (some (.int (if M.1 29 i < 1000 then M.1 29 i else -6))) M := by
  refine Fn.of (cc := cX1_answersToStand) (ins := iX1_answersToStand) (maxL := 2) (ret := (some .int)) (by decide) dX1_answersToStand [some (.ref (Y.2.2.2 27)), some (.int (nI i))] (Nat.le_of_ble_eq_true rfl) rfl rfl ?_
  intro X hX hQ
  refine v_iload_n hX 1 0 rfl rfl rfl ?_
  refine v_if_lt hX (tgt := 19) 1 rfl (by decide) (fun c1 => absurd c1 (nI_nlt (Nat.zero_le _) (by omega))) (fun c1 => ?_)
  refine v_iload_n hX 1 2 rfl rfl rfl ?_
  refine v_bipush hX (v := 24) 3 rfl (by decide) ?_
  refine v_icmp_ge hX (tgt := 19) 4 rfl (by decide) (fun c7 => absurd c7 (nI_ge hi (by decide))) (fun c7 => ?_)
  refine v_aload_n hX 0 5 rfl rfl rfl ?_
  refine g_1_1 hX 6  tw_189 rfl ?_
  refine v_iload_n hX 1 7 rfl rfl rfl ?_
  refine v_iald hX (k := 29) (by decide) rfl (vp_in_nI (by omega) (by decide)) 8 rfl ?_
  refine v_goto hX (tgt := 22) 9 rfl (by decide) ?_
  rw [nI_clamp (by omega)]
  refine v_callS hX 1 (f_reachable) tw_512 tw_510 tw_511 tw_95 (by decide +kernel) ⟨⟨rfl, rfl⟩, Nat.le_of_ble_eq_true rfl, Nat.le_of_ble_eq_true rfl⟩ rfl (Nat.le_of_ble_eq_true rfl) rfl rfl 11 rfl ?_
  refine v_iret hX hQ rfl rfl ?_ ?_ 12 rfl
  · rfl
  · rfl
set_option maxRecDepth 100000 in
set_option maxHeartbeats 4000000 in
theorem f_weigh {Y : Yt} {M : Mm} {b n : Nat} (hb : isB b) (hz : M.1 b 1 = nI n) (hn : n ≤ 24) (hw : WF (cp M b) n) : Fn Y yX1_weigh wsX1_weigh { frames := 3, cells := 0, slots := 0, locals := 66 } [.ref (Y.2.2.2 27), .ref (Y.2.2.2 b)] M none ((wM M (wAll (cp M b) (bOut M b) (naP (cp M b) n) n (wI M 24) 24))) := by
  have hb1 := isB_no hb (show 0 < 26 by decide)
  refine Fn.of (cc := cX1_weigh) (ins := iX1_weigh) (maxL := 6) (ret := none) (by decide) dX1_weigh [some (.ref (Y.2.2.2 27)), some (.ref (Y.2.2.2 b)), none, none, none, none] (Nat.le_of_ble_eq_true rfl) rfl rfl ?_
  intro X hX hQ
  refine v_aload_n hX 1 0 rfl rfl rfl ?_
  refine v_callVN hX 0 (by have := isB_lt hb; omega) (cG_B hb) rfl (f_out hb hz hn hw) tw_358 (List.mem_of_getElem? (i := 33) rfl) tw_93 tw_357 tw_14 (by decide +kernel) ⟨⟨rfl, rfl⟩, Nat.le_of_ble_eq_true rfl, Nat.le_of_ble_eq_true rfl⟩ rfl (Nat.le_of_ble_eq_true rfl) rfl rfl 1 rfl ?_
  refine v_istore_n hX 2 2 rfl rfl (Nat.le_of_ble_eq_true rfl) rfl ?_
  refine v_aload_n hX 1 3 rfl rfl rfl ?_
  refine v_callVN hX 0 (by have := isB_lt hb; omega) (cG_B hb) rfl (f_withoutAnswers hb hz hn) tw_496 (List.mem_of_getElem? (i := 34) rfl) tw_93 tw_495 tw_34 (by decide +kernel) ⟨⟨rfl, rfl⟩, Nat.le_of_ble_eq_true rfl, Nat.le_of_ble_eq_true rfl⟩ rfl (Nat.le_of_ble_eq_true rfl) rfl rfl 4 rfl ?_
  rw [wa_mk hw hn]
  refine v_istore_n hX 3 5 rfl rfl (Nat.le_of_ble_eq_true rfl) rfl ?_
  refine v_iconst hX (v := 0) 6 rfl (by decide) ?_
  refine v_istore hX 7 rfl (Nat.le_of_ble_eq_true rfl) rfl ?_
  have lp : ∀ (k : Nat), k ≤ 24 → V Y X (wM M (wI M k)) 13 [some (.ref (Y.2.2.2 27)), some (.ref (Y.2.2.2 b)), some (.int (mk (bOut M b) n)), some (.int (mk (naP (cp M b) n) n)), some (.int (nI k)), none] [] := by
    refine upTo 24 (fun k hk ih => ?_)
    refine v_iload hX 8 rfl rfl ?_
    refine v_bipush hX (v := 24) 9 rfl (by decide) ?_
    refine v_icmp_ge hX (tgt := 44) 10 rfl (by decide) (fun c17 => ?_) (fun c17 => ?_)
    · skip
      have hk2 : k = 24 := by have := of_le (a := 24) c17 (by omega) (by omega); omega
      subst hk2
      refine v_bipush hX (v := 23) 23 rfl (by decide) ?_
      refine v_istore hX 24 rfl (Nat.le_of_ble_eq_true rfl) rfl ?_
      have lq : ∀ (m : Nat), m ≤ 24 → V Y X (wM M (wAll (cp M b) (bOut M b) (naP (cp M b) n) n (wI M 24) (24 - m))) 48 [some (.ref (Y.2.2.2 27)), some (.ref (Y.2.2.2 b)), some (.int (mk (bOut M b) n)), some (.int (mk (naP (cp M b) n) n)), some (.int (nI m - 1)), none] [] := by
        refine downTo (fun m ihq => ?_)
        intro hm24
        rcases Nat.eq_zero_or_pos m with h0 | h0
        · skip
          subst h0
          refine v_iload hX 25 rfl rfl ?_
          refine v_if_lt hX (tgt := 145) 26 rfl (by decide) (fun c50 => ?_) (fun c50 => absurd (by decide) c50)
          refine v_vret hX hQ rfl rfl ?_ 72 rfl
          rfl
        · skip
          obtain ⟨m, rfl⟩ : ∃ m2, m = m2 + 1 := ⟨m - 1, by omega⟩
          rw [nI_pred]
          have e24 : 24 - (m + 1) = 23 - m := by omega
          have e25 : 24 - m = 23 - m + 1 := by omega
          rw [e24]
          have hzw : (wM M (wAll (cp M b) (bOut M b) (naP (cp M b) n) n (wI M 24) (23 - m))).1 b 1 = nI n := by rw [wM_n (by omega)]; exact hz
          have em : 23 - (23 - m) = m := by omega
          refine v_iload hX 25 rfl rfl ?_
          refine v_if_lt hX (tgt := 145) 26 rfl (by decide) (fun c50 => absurd c50 (nI_nlt (Nat.zero_le _) (by omega))) (fun c50 => ?_)
          refine v_aload_n hX 1 27 rfl rfl rfl ?_
          refine v_iload hX 28 rfl rfl ?_
          rcases Nat.lt_or_ge m n with hm | hm
          · skip
            have hW : wAll (cp M b) (bOut M b) (naP (cp M b) n) n (wI M 24) (23 - m + 1) = wStep (cp M b) (bOut M b) (naP (cp M b) n) m (wAll (cp M b) (bOut M b) (naP (cp M b) n) n (wI M 24) (23 - m)) := by rw [wAll, em, if_pos hm]
            refine v_callVN hX 1 (by have := isB_lt hb; omega) (cG_B hb) rfl (f_find_in hb hzw hn hm) tw_299 (List.mem_of_getElem? (i := 35) rfl) tw_93 tw_298 tw_3 (by decide +kernel) ⟨⟨rfl, rfl⟩, Nat.le_of_ble_eq_true rfl, Nat.le_of_ble_eq_true rfl⟩ rfl (Nat.le_of_ble_eq_true rfl) rfl rfl 29 rfl ?_
            refine v_astore hX 30 rfl (Nat.le_of_ble_eq_true rfl) rfl ?_
            refine v_aload hX 31 rfl rfl ?_
            refine v_ifnonnull hX (tgt := 69) 32 rfl (by decide) ?_
            refine v_iload_n hX 2 34 rfl rfl rfl ?_
            refine v_iload hX 35 rfl rfl ?_
            refine v_callSN hX 2 (f_has) tw_381 (List.mem_of_getElem? (i := 36) rfl) tw_92 tw_380 (by decide +kernel) ⟨⟨rfl, rfl⟩, Nat.le_of_ble_eq_true rfl, Nat.le_of_ble_eq_true rfl⟩ rfl (Nat.le_of_ble_eq_true rfl) rfl rfl 36 rfl ?_
            refine v_if_eq hX (tgt := 99) 37 rfl (by decide) (fun c75 => ?_) (fun c75 => ?_)
            · skip
              have q1 := hasv_eq (by omega) c75
              rw [bt_mk _ (by omega) (by omega), decide_eq_true hm, Bool.true_and] at q1
              refine v_iload_n hX 3 49 rfl rfl rfl ?_
              refine v_iload hX 50 rfl rfl ?_
              refine v_callSN hX 2 (f_has) tw_381 (List.mem_of_getElem? (i := 36) rfl) tw_92 tw_380 (by decide +kernel) ⟨⟨rfl, rfl⟩, Nat.le_of_ble_eq_true rfl, Nat.le_of_ble_eq_true rfl⟩ rfl (Nat.le_of_ble_eq_true rfl) rfl rfl 51 rfl ?_
              refine v_if_eq hX (tgt := 116) 52 rfl (by decide) (fun c105 => ?_) (fun c105 => ?_)
              · skip
                have q2 := hasv_eq (by omega) c105
                rw [bt_mk _ (by omega) (by omega), decide_eq_true hm, Bool.true_and] at q2
                have hS : wAll (cp M b) (bOut M b) (naP (cp M b) n) n (wI M 24) (23 - m) = wS1 (bOut M b) (naP (cp M b) n) m (wAll (cp M b) (bOut M b) (naP (cp M b) n) n (wI M 24) (23 - m)) := by unfold wS1; rw [if_neg (by rw [q1]; decide), if_neg (by rw [q2]; decide), if_neg (by rw [q1]; decide)]
                rw [hS]
                rcases (hw m hm).2.1 with et | ⟨t, ht, et⟩
                · skip
                  have hW2 : wStep (cp M b) (bOut M b) (naP (cp M b) n) m (wAll (cp M b) (bOut M b) (naP (cp M b) n) n (wI M 24) (23 - m)) = wS1 (bOut M b) (naP (cp M b) n) m (wAll (cp M b) (bOut M b) (naP (cp M b) n) n (wI M 24) (23 - m)) := by unfold wStep att; rw [if_pos et]
                  refine v_aload_n hX 0 58 rfl rfl rfl ?_
                  refine v_aload hX 59 rfl rfl ?_
                  refine gN_4_3 hX 60 hb (by omega) (List.mem_of_getElem? (i := 6) rfl) rfl ?_
                  rw [show (wM M (wS1 (bOut M b) (naP (cp M b) n) m (wAll (cp M b) (bOut M b) (naP (cp M b) n) n (wI M 24) (23 - m)))).1 (b + 2 + m) 3 = -6 by rw [wM_n (by have := isB_no hb (show 2 + m < 26 by omega); omega)]; exact et]
                  refine v_aload_n hX 0 61 rfl rfl rfl ?_
                  refine g_1_0 hX 62  tw_188 rfl ?_
                  refine v_iload hX 63 rfl rfl ?_
                  refine v_iald hX (k := 28) (by decide) rfl (vp_in_nI (by omega) (by decide)) 64 rfl ?_
                  refine v_aload_n hX 0 65 rfl rfl rfl ?_
                  refine g_1_1 hX 66  tw_189 rfl ?_
                  refine v_iload hX 67 rfl rfl ?_
                  refine v_iald hX (k := 29) (by decide) rfl (vp_in_nI (by omega) (by decide)) 68 rfl ?_
                  refine v_callV hX 3 (by decide) rfl rfl (f_addT_no (Or.inl (by decide))) tw_502 tw_499 tw_501 tw_35 tw_95 (by decide +kernel) ⟨⟨rfl, rfl⟩, Nat.le_of_ble_eq_true rfl, Nat.le_of_ble_eq_true rfl⟩ rfl (Nat.le_of_ble_eq_true rfl) rfl rfl 69 rfl ?_
                  refine v_iinc hX 70 rfl rfl (nI_dm m) (Nat.le_of_ble_eq_true rfl) rfl ?_
                  refine v_goto hX (tgt := 48) 71 rfl (by decide) ?_
                  refine V.subM (ihq m (by omega) (by omega)) ?_ rfl ⟨rfl, rfl, rfl, rfl, (by first | rfl | (refine congrArg (fun z : Int32 => some (Value.int z)) ?_; decide)), trivial⟩
                  rw [e25, hW, hW2]
                · skip
                  have hne : ¬ cp M b m 3 = -6 := by rw [et]; exact (by decide +kernel : ∀ t, t < 24 → ¬ nI t = -6) t (by omega)
                  have hW2 : wStep (cp M b) (bOut M b) (naP (cp M b) n) m (wAll (cp M b) (bOut M b) (naP (cp M b) n) n (wI M 24) (23 - m)) = att (nI t) ((wS1 (bOut M b) (naP (cp M b) n) m (wAll (cp M b) (bOut M b) (naP (cp M b) n) n (wI M 24) (23 - m))).1 m) ((wS1 (bOut M b) (naP (cp M b) n) m (wAll (cp M b) (bOut M b) (naP (cp M b) n) n (wI M 24) (23 - m))).2 m) (wS1 (bOut M b) (naP (cp M b) n) m (wAll (cp M b) (bOut M b) (naP (cp M b) n) n (wI M 24) (23 - m))) := by unfold wStep; rw [et]
                  rw [et] at hne
                  refine v_aload_n hX 0 58 rfl rfl rfl ?_
                  refine v_aload hX 59 rfl rfl ?_
                  refine gN_4_3 hX 60 hb (by omega) (List.mem_of_getElem? (i := 6) rfl) rfl ?_
                  rw [show (wM M (wS1 (bOut M b) (naP (cp M b) n) m (wAll (cp M b) (bOut M b) (naP (cp M b) n) n (wI M 24) (23 - m)))).1 (b + 2 + m) 3 = nI t by rw [wM_n (by have := isB_no hb (show 2 + m < 26 by omega); omega)]; exact et]
                  refine v_aload_n hX 0 61 rfl rfl rfl ?_
                  refine g_1_0 hX 62  tw_188 rfl ?_
                  refine v_iload hX 63 rfl rfl ?_
                  refine v_iald hX (k := 28) (by decide) rfl (vp_in_nI (by omega) (by decide)) 64 rfl ?_
                  refine v_aload_n hX 0 65 rfl rfl rfl ?_
                  refine g_1_1 hX 66  tw_189 rfl ?_
                  refine v_iload hX 67 rfl rfl ?_
                  refine v_iald hX (k := 29) (by decide) rfl (vp_in_nI (by omega) (by decide)) 68 rfl ?_
                  rw [nI_clamp (by omega)]
                  refine v_callV hX 3 (by decide) rfl rfl (f_addT (show t < 24 by omega)) tw_502 tw_499 tw_501 tw_35 tw_95 (by decide +kernel) ⟨⟨rfl, rfl⟩, Nat.le_of_ble_eq_true rfl, Nat.le_of_ble_eq_true rfl⟩ rfl (Nat.le_of_ble_eq_true rfl) rfl rfl 69 rfl ?_
                  refine v_iinc hX 70 rfl rfl (nI_dm m) (Nat.le_of_ble_eq_true rfl) rfl ?_
                  refine v_goto hX (tgt := 48) 71 rfl (by decide) ?_
                  refine V.subM (ihq m (by omega) (by omega)) ?_ rfl ⟨rfl, rfl, rfl, rfl, (by first | rfl | (refine congrArg (fun z : Int32 => some (Value.int z)) ?_; decide)), trivial⟩
                  rw [e25, hW, hW2, wM_r28, wM_r29, wM_28, wM_29]; unfold att; rw [if_neg hne, nI_clamp (by omega)]
              · skip
                have q2 := hasv_ne (by omega) c105
                rw [bt_mk _ (by omega) (by omega), decide_eq_true hm, Bool.true_and] at q2
                refine v_aload_n hX 0 53 rfl rfl rfl ?_
                refine g_1_0 hX 54  tw_188 rfl ?_
                refine v_iload hX 55 rfl rfl ?_
                refine v_iconst hX (v := 1) 56 rfl (by decide) ?_
                refine v_iast hX (k := 28) (by decide) rfl rfl (vp_in_nI (by omega) (by decide)) rfl 57 rfl ?_
                refine V.mem (M2 := wM M (upd (wAll (cp M b) (bOut M b) (naP (cp M b) n) n (wI M 24) (23 - m)).1 m 1, (wAll (cp M b) (bOut M b) (naP (cp M b) n) n (wI M 24) (23 - m)).2)) (by rw [nI_clamp (by omega), wM_28]) ?_
                have hS : (upd (wAll (cp M b) (bOut M b) (naP (cp M b) n) n (wI M 24) (23 - m)).1 m 1, (wAll (cp M b) (bOut M b) (naP (cp M b) n) n (wI M 24) (23 - m)).2) = wS1 (bOut M b) (naP (cp M b) n) m (wAll (cp M b) (bOut M b) (naP (cp M b) n) n (wI M 24) (23 - m)) := by unfold wS1; rw [if_neg (by rw [q1]; decide), if_pos q2, if_neg (by rw [q1]; decide)]
                rw [hS]
                rcases (hw m hm).2.1 with et | ⟨t, ht, et⟩
                · skip
                  have hW2 : wStep (cp M b) (bOut M b) (naP (cp M b) n) m (wAll (cp M b) (bOut M b) (naP (cp M b) n) n (wI M 24) (23 - m)) = wS1 (bOut M b) (naP (cp M b) n) m (wAll (cp M b) (bOut M b) (naP (cp M b) n) n (wI M 24) (23 - m)) := by unfold wStep att; rw [if_pos et]
                  refine v_aload_n hX 0 58 rfl rfl rfl ?_
                  refine v_aload hX 59 rfl rfl ?_
                  refine gN_4_3 hX 60 hb (by omega) (List.mem_of_getElem? (i := 6) rfl) rfl ?_
                  rw [show (wM M (wS1 (bOut M b) (naP (cp M b) n) m (wAll (cp M b) (bOut M b) (naP (cp M b) n) n (wI M 24) (23 - m)))).1 (b + 2 + m) 3 = -6 by rw [wM_n (by have := isB_no hb (show 2 + m < 26 by omega); omega)]; exact et]
                  refine v_aload_n hX 0 61 rfl rfl rfl ?_
                  refine g_1_0 hX 62  tw_188 rfl ?_
                  refine v_iload hX 63 rfl rfl ?_
                  refine v_iald hX (k := 28) (by decide) rfl (vp_in_nI (by omega) (by decide)) 64 rfl ?_
                  refine v_aload_n hX 0 65 rfl rfl rfl ?_
                  refine g_1_1 hX 66  tw_189 rfl ?_
                  refine v_iload hX 67 rfl rfl ?_
                  refine v_iald hX (k := 29) (by decide) rfl (vp_in_nI (by omega) (by decide)) 68 rfl ?_
                  refine v_callV hX 3 (by decide) rfl rfl (f_addT_no (Or.inl (by decide))) tw_502 tw_499 tw_501 tw_35 tw_95 (by decide +kernel) ⟨⟨rfl, rfl⟩, Nat.le_of_ble_eq_true rfl, Nat.le_of_ble_eq_true rfl⟩ rfl (Nat.le_of_ble_eq_true rfl) rfl rfl 69 rfl ?_
                  refine v_iinc hX 70 rfl rfl (nI_dm m) (Nat.le_of_ble_eq_true rfl) rfl ?_
                  refine v_goto hX (tgt := 48) 71 rfl (by decide) ?_
                  refine V.subM (ihq m (by omega) (by omega)) ?_ rfl ⟨rfl, rfl, rfl, rfl, (by first | rfl | (refine congrArg (fun z : Int32 => some (Value.int z)) ?_; decide)), trivial⟩
                  rw [e25, hW, hW2]
                · skip
                  have hne : ¬ cp M b m 3 = -6 := by rw [et]; exact (by decide +kernel : ∀ t, t < 24 → ¬ nI t = -6) t (by omega)
                  have hW2 : wStep (cp M b) (bOut M b) (naP (cp M b) n) m (wAll (cp M b) (bOut M b) (naP (cp M b) n) n (wI M 24) (23 - m)) = att (nI t) ((wS1 (bOut M b) (naP (cp M b) n) m (wAll (cp M b) (bOut M b) (naP (cp M b) n) n (wI M 24) (23 - m))).1 m) ((wS1 (bOut M b) (naP (cp M b) n) m (wAll (cp M b) (bOut M b) (naP (cp M b) n) n (wI M 24) (23 - m))).2 m) (wS1 (bOut M b) (naP (cp M b) n) m (wAll (cp M b) (bOut M b) (naP (cp M b) n) n (wI M 24) (23 - m))) := by unfold wStep; rw [et]
                  rw [et] at hne
                  refine v_aload_n hX 0 58 rfl rfl rfl ?_
                  refine v_aload hX 59 rfl rfl ?_
                  refine gN_4_3 hX 60 hb (by omega) (List.mem_of_getElem? (i := 6) rfl) rfl ?_
                  rw [show (wM M (wS1 (bOut M b) (naP (cp M b) n) m (wAll (cp M b) (bOut M b) (naP (cp M b) n) n (wI M 24) (23 - m)))).1 (b + 2 + m) 3 = nI t by rw [wM_n (by have := isB_no hb (show 2 + m < 26 by omega); omega)]; exact et]
                  refine v_aload_n hX 0 61 rfl rfl rfl ?_
                  refine g_1_0 hX 62  tw_188 rfl ?_
                  refine v_iload hX 63 rfl rfl ?_
                  refine v_iald hX (k := 28) (by decide) rfl (vp_in_nI (by omega) (by decide)) 64 rfl ?_
                  refine v_aload_n hX 0 65 rfl rfl rfl ?_
                  refine g_1_1 hX 66  tw_189 rfl ?_
                  refine v_iload hX 67 rfl rfl ?_
                  refine v_iald hX (k := 29) (by decide) rfl (vp_in_nI (by omega) (by decide)) 68 rfl ?_
                  rw [nI_clamp (by omega)]
                  refine v_callV hX 3 (by decide) rfl rfl (f_addT (show t < 24 by omega)) tw_502 tw_499 tw_501 tw_35 tw_95 (by decide +kernel) ⟨⟨rfl, rfl⟩, Nat.le_of_ble_eq_true rfl, Nat.le_of_ble_eq_true rfl⟩ rfl (Nat.le_of_ble_eq_true rfl) rfl rfl 69 rfl ?_
                  refine v_iinc hX 70 rfl rfl (nI_dm m) (Nat.le_of_ble_eq_true rfl) rfl ?_
                  refine v_goto hX (tgt := 48) 71 rfl (by decide) ?_
                  refine V.subM (ihq m (by omega) (by omega)) ?_ rfl ⟨rfl, rfl, rfl, rfl, (by first | rfl | (refine congrArg (fun z : Int32 => some (Value.int z)) ?_; decide)), trivial⟩
                  rw [e25, hW, hW2, wM_r28, wM_r29, wM_28, wM_29]; unfold att; rw [if_neg hne, nI_clamp (by omega)]
            · skip
              have q1 := hasv_ne (by omega) c75
              rw [bt_mk _ (by omega) (by omega), decide_eq_true hm, Bool.true_and] at q1
              refine v_aload_n hX 0 38 rfl rfl rfl ?_
              refine g_1_0 hX 39  tw_188 rfl ?_
              refine v_iload hX 40 rfl rfl ?_
              refine v_iconst hX (v := 0) 41 rfl (by decide) ?_
              refine v_iast hX (k := 28) (by decide) rfl rfl (vp_in_nI (by omega) (by decide)) rfl 42 rfl ?_
              refine V.mem (M2 := wM M (upd (wAll (cp M b) (bOut M b) (naP (cp M b) n) n (wI M 24) (23 - m)).1 m 0, (wAll (cp M b) (bOut M b) (naP (cp M b) n) n (wI M 24) (23 - m)).2)) (by rw [nI_clamp (by omega), wM_28]) ?_
              refine v_aload_n hX 0 43 rfl rfl rfl ?_
              refine g_1_1 hX 44  tw_189 rfl ?_
              refine v_iload hX 45 rfl rfl ?_
              refine v_sipush hX (v := 1000) 46 rfl (by decide) ?_
              refine v_iast hX (k := 29) (by decide) rfl rfl (vp_in_nI (by omega) (by decide)) rfl 47 rfl ?_
              refine V.mem (M2 := wM M (upd (wAll (cp M b) (bOut M b) (naP (cp M b) n) n (wI M 24) (23 - m)).1 m 0, upd (wAll (cp M b) (bOut M b) (naP (cp M b) n) n (wI M 24) (23 - m)).2 m 1000)) (by rw [nI_clamp (by omega), wM_29]) ?_
              have hS : (upd (wAll (cp M b) (bOut M b) (naP (cp M b) n) n (wI M 24) (23 - m)).1 m 0, upd (wAll (cp M b) (bOut M b) (naP (cp M b) n) n (wI M 24) (23 - m)).2 m 1000) = wS1 (bOut M b) (naP (cp M b) n) m (wAll (cp M b) (bOut M b) (naP (cp M b) n) n (wI M 24) (23 - m)) := by unfold wS1; rw [if_pos q1, if_pos q1]
              rw [hS]
              refine v_goto hX (tgt := 116) 48 rfl (by decide) ?_
              rcases (hw m hm).2.1 with et | ⟨t, ht, et⟩
              · skip
                have hW2 : wStep (cp M b) (bOut M b) (naP (cp M b) n) m (wAll (cp M b) (bOut M b) (naP (cp M b) n) n (wI M 24) (23 - m)) = wS1 (bOut M b) (naP (cp M b) n) m (wAll (cp M b) (bOut M b) (naP (cp M b) n) n (wI M 24) (23 - m)) := by unfold wStep att; rw [if_pos et]
                refine v_aload_n hX 0 58 rfl rfl rfl ?_
                refine v_aload hX 59 rfl rfl ?_
                refine gN_4_3 hX 60 hb (by omega) (List.mem_of_getElem? (i := 6) rfl) rfl ?_
                rw [show (wM M (wS1 (bOut M b) (naP (cp M b) n) m (wAll (cp M b) (bOut M b) (naP (cp M b) n) n (wI M 24) (23 - m)))).1 (b + 2 + m) 3 = -6 by rw [wM_n (by have := isB_no hb (show 2 + m < 26 by omega); omega)]; exact et]
                refine v_aload_n hX 0 61 rfl rfl rfl ?_
                refine g_1_0 hX 62  tw_188 rfl ?_
                refine v_iload hX 63 rfl rfl ?_
                refine v_iald hX (k := 28) (by decide) rfl (vp_in_nI (by omega) (by decide)) 64 rfl ?_
                refine v_aload_n hX 0 65 rfl rfl rfl ?_
                refine g_1_1 hX 66  tw_189 rfl ?_
                refine v_iload hX 67 rfl rfl ?_
                refine v_iald hX (k := 29) (by decide) rfl (vp_in_nI (by omega) (by decide)) 68 rfl ?_
                refine v_callV hX 3 (by decide) rfl rfl (f_addT_no (Or.inl (by decide))) tw_502 tw_499 tw_501 tw_35 tw_95 (by decide +kernel) ⟨⟨rfl, rfl⟩, Nat.le_of_ble_eq_true rfl, Nat.le_of_ble_eq_true rfl⟩ rfl (Nat.le_of_ble_eq_true rfl) rfl rfl 69 rfl ?_
                refine v_iinc hX 70 rfl rfl (nI_dm m) (Nat.le_of_ble_eq_true rfl) rfl ?_
                refine v_goto hX (tgt := 48) 71 rfl (by decide) ?_
                refine V.subM (ihq m (by omega) (by omega)) ?_ rfl ⟨rfl, rfl, rfl, rfl, (by first | rfl | (refine congrArg (fun z : Int32 => some (Value.int z)) ?_; decide)), trivial⟩
                rw [e25, hW, hW2]
              · skip
                have hne : ¬ cp M b m 3 = -6 := by rw [et]; exact (by decide +kernel : ∀ t, t < 24 → ¬ nI t = -6) t (by omega)
                have hW2 : wStep (cp M b) (bOut M b) (naP (cp M b) n) m (wAll (cp M b) (bOut M b) (naP (cp M b) n) n (wI M 24) (23 - m)) = att (nI t) ((wS1 (bOut M b) (naP (cp M b) n) m (wAll (cp M b) (bOut M b) (naP (cp M b) n) n (wI M 24) (23 - m))).1 m) ((wS1 (bOut M b) (naP (cp M b) n) m (wAll (cp M b) (bOut M b) (naP (cp M b) n) n (wI M 24) (23 - m))).2 m) (wS1 (bOut M b) (naP (cp M b) n) m (wAll (cp M b) (bOut M b) (naP (cp M b) n) n (wI M 24) (23 - m))) := by unfold wStep; rw [et]
                rw [et] at hne
                refine v_aload_n hX 0 58 rfl rfl rfl ?_
                refine v_aload hX 59 rfl rfl ?_
                refine gN_4_3 hX 60 hb (by omega) (List.mem_of_getElem? (i := 6) rfl) rfl ?_
                rw [show (wM M (wS1 (bOut M b) (naP (cp M b) n) m (wAll (cp M b) (bOut M b) (naP (cp M b) n) n (wI M 24) (23 - m)))).1 (b + 2 + m) 3 = nI t by rw [wM_n (by have := isB_no hb (show 2 + m < 26 by omega); omega)]; exact et]
                refine v_aload_n hX 0 61 rfl rfl rfl ?_
                refine g_1_0 hX 62  tw_188 rfl ?_
                refine v_iload hX 63 rfl rfl ?_
                refine v_iald hX (k := 28) (by decide) rfl (vp_in_nI (by omega) (by decide)) 64 rfl ?_
                refine v_aload_n hX 0 65 rfl rfl rfl ?_
                refine g_1_1 hX 66  tw_189 rfl ?_
                refine v_iload hX 67 rfl rfl ?_
                refine v_iald hX (k := 29) (by decide) rfl (vp_in_nI (by omega) (by decide)) 68 rfl ?_
                rw [nI_clamp (by omega)]
                refine v_callV hX 3 (by decide) rfl rfl (f_addT (show t < 24 by omega)) tw_502 tw_499 tw_501 tw_35 tw_95 (by decide +kernel) ⟨⟨rfl, rfl⟩, Nat.le_of_ble_eq_true rfl, Nat.le_of_ble_eq_true rfl⟩ rfl (Nat.le_of_ble_eq_true rfl) rfl rfl 69 rfl ?_
                refine v_iinc hX 70 rfl rfl (nI_dm m) (Nat.le_of_ble_eq_true rfl) rfl ?_
                refine v_goto hX (tgt := 48) 71 rfl (by decide) ?_
                refine V.subM (ihq m (by omega) (by omega)) ?_ rfl ⟨rfl, rfl, rfl, rfl, (by first | rfl | (refine congrArg (fun z : Int32 => some (Value.int z)) ?_; decide)), trivial⟩
                rw [e25, hW, hW2, wM_r28, wM_r29, wM_28, wM_29]; unfold att; rw [if_neg hne, nI_clamp (by omega)]
          · skip
            have hW : wAll (cp M b) (bOut M b) (naP (cp M b) n) n (wI M 24) (23 - m + 1) = wAll (cp M b) (bOut M b) (naP (cp M b) n) n (wI M 24) (23 - m) := by rw [wAll, em, if_neg (by omega)]
            refine v_callVN hX 1 (by have := isB_lt hb; omega) (cG_B hb) rfl (f_find_out hb hzw (Or.inr (nI_le hm (by omega)))) tw_299 (List.mem_of_getElem? (i := 35) rfl) tw_93 tw_298 tw_3 (by decide +kernel) ⟨⟨rfl, rfl⟩, Nat.le_of_ble_eq_true rfl, Nat.le_of_ble_eq_true rfl⟩ rfl (Nat.le_of_ble_eq_true rfl) rfl rfl 29 rfl ?_
            refine v_astoreN hX 30 rfl (Nat.le_of_ble_eq_true rfl) rfl ?_
            refine v_aloadN hX 31 rfl rfl ?_
            refine v_ifnonnullN hX 32 rfl ?_
            refine v_goto hX (tgt := 139) 33 rfl (by decide) ?_
            refine v_iinc hX 70 rfl rfl (nI_dm m) (Nat.le_of_ble_eq_true rfl) rfl ?_
            refine v_goto hX (tgt := 48) 71 rfl (by decide) ?_
            refine V.subM (ihq m (by omega) (by omega)) ?_ rfl ⟨rfl, rfl, rfl, rfl, (by first | rfl | (refine congrArg (fun z : Int32 => some (Value.int z)) ?_; decide)), trivial⟩
            rw [e25, hW]
      refine V.subM (lq 24 (Nat.le_refl 24)) ?_ rfl ⟨rfl, rfl, rfl, rfl, (by first | rfl | (refine congrArg (fun z : Int32 => some (Value.int z)) ?_; decide)), trivial⟩
      rfl
    · skip
      have hk2 : k < 24 := of_nle (a := 24) c17 (by omega) (by omega)
      refine v_aload_n hX 0 11 rfl rfl rfl ?_
      refine g_1_0 hX 12  tw_188 rfl ?_
      refine v_iload hX 13 rfl rfl ?_
      refine v_sipush hX (v := 1000) 14 rfl (by decide) ?_
      refine v_iast hX (k := 28) (by decide) rfl rfl (vp_in_nI (by omega) (by decide)) rfl 15 rfl ?_
      refine v_aload_n hX 0 16 rfl rfl rfl ?_
      refine g_1_1 hX 17  tw_189 rfl ?_
      refine v_iload hX 18 rfl rfl ?_
      refine v_iconst hX (v := 0) 19 rfl (by decide) ?_
      refine v_iast hX (k := 29) (by decide) rfl rfl (vp_in_nI (by omega) (by decide)) rfl 20 rfl ?_
      refine V.mem (M2 := wM M (wI M (k + 1))) (by rw [nI_clamp (by omega)]; exact wI_s) ?_
      refine v_iinc hX 21 rfl rfl (nI_inc k) (Nat.le_of_ble_eq_true rfl) rfl ?_
      refine v_goto hX (tgt := 13) 22 rfl (by decide) ?_
      refine V.subM (ih hk2) ?_ rfl ⟨rfl, rfl, rfl, rfl, rfl, trivial⟩
      rfl
  refine V.subM (lp 0 (Nat.zero_le _)) ?_ rfl ⟨rfl, rfl, rfl, rfl, rfl, trivial⟩
  exact wI_0.symm
set_option maxRecDepth 100000 in
set_option maxHeartbeats 4000000 in
theorem f_rowAt {Y : Yt} {M : Mm} {i : Nat} (hi : i < 7) : Fn Y yX2_rowAt wsX2_rowAt { frames := 0, cells := 0, slots := 0, locals := 0 } [.ref (Y.2.2.2 33), .int (nI i)] M (some (.ref (Y.2.2.2 (M.2 i)))) M := by
  refine Fn.of (cc := cX2_rowAt) (ins := iX2_rowAt) (maxL := 2) (ret := (some (.object "PointAnswers$Bundle"))) (by decide) dX2_rowAt [some (.ref (Y.2.2.2 33)), some (.int (nI i))] (Nat.le_of_ble_eq_true rfl) rfl rfl ?_
  intro X hX hQ
  refine v_iload_n hX 1 0 rfl rfl rfl ?_
  refine v_if_lt hX (tgt := 22) 1 rfl (by decide) (fun c1 => absurd c1 (nI_nlt (Nat.zero_le _) (by omega))) (fun c1 => ?_)
  refine v_iload_n hX 1 2 rfl rfl rfl ?_
  refine v_aload_n hX 0 3 rfl rfl rfl ?_
  refine g_2_0 hX 4  tw_250 rfl ?_
  refine v_alen hX (v := nI 7) (k := 34) (t0 := 3) (by decide) rfl rfl rfl 5 rfl ?_
  refine v_icmp_ge hX (tgt := 22) 6 rfl (by decide) (fun c10 => absurd c10 (nI_ge hi (by omega))) (fun c10 => ?_)
  refine v_aload_n hX 0 7 rfl rfl rfl ?_
  refine g_2_0 hX 8  tw_250 rfl ?_
  refine v_iload_n hX 1 9 rfl rfl rfl ?_
  refine v_aald hX (k := 34) (t0 := 3) (v := Y.2.2.2 (M.2 i)) (by decide) rfl rfl (vp_in_nI hi (by decide)) (by rw [nI_clamp (by omega)]) 10 rfl ?_
  refine v_goto hX (tgt := 23) 11 rfl (by decide) ?_
  refine v_aret hX hQ rfl (Or.inl ⟨_, rfl⟩) (Or.inr ⟨_, rfl⟩) ?_ ?_ 13 rfl
  · rfl
  · rfl
set_option maxRecDepth 100000 in
set_option maxHeartbeats 4000000 in
theorem f_rowAt_no {Y : Yt} {M : Mm} {x : Int32} (hx : x < 0 ∨ nI 7 ≤ x) : Fn Y yX2_rowAt wsX2_rowAt { frames := 0, cells := 0, slots := 0, locals := 0 } [.ref (Y.2.2.2 33), .int x] M (some .null) M := by
  refine Fn.of (cc := cX2_rowAt) (ins := iX2_rowAt) (maxL := 2) (ret := (some (.object "PointAnswers$Bundle"))) (by decide) dX2_rowAt [some (.ref (Y.2.2.2 33)), some (.int x)] (Nat.le_of_ble_eq_true rfl) rfl rfl ?_
  intro X hX hQ
  refine v_iload_n hX 1 0 rfl rfl rfl ?_
  refine v_if_lt hX (tgt := 22) 1 rfl (by decide) (fun c1 => ?_) (fun c1 => ?_)
  · skip
    refine v_null hX 12 rfl ?_
    refine v_aret hX hQ rfl (Or.inl ⟨_, rfl⟩) (Or.inl rfl) ?_ ?_ 13 rfl
    · rfl
    · rfl
  · skip
    refine v_iload_n hX 1 2 rfl rfl rfl ?_
    refine v_aload_n hX 0 3 rfl rfl rfl ?_
    refine g_2_0 hX 4  tw_250 rfl ?_
    refine v_alen hX (v := nI 7) (k := 34) (t0 := 3) (by decide) rfl rfl rfl 5 rfl ?_
    refine v_icmp_ge hX (tgt := 22) 6 rfl (by decide) (fun c10 => ?_) (fun c10 => absurd (hx.resolve_left c1) c10)
    refine v_null hX 12 rfl ?_
    refine v_aret hX hQ rfl (Or.inl ⟨_, rfl⟩) (Or.inl rfl) ?_ ?_ 13 rfl
    · rfl
    · rfl
set_option maxRecDepth 100000 in
set_option maxHeartbeats 4000000 in
theorem f_prepare {Y : Yt} {M : Mm} {k n : Nat} (hk : k ≤ 6) (hkk : M.1 33 1 = nI k) (hh : ∀ i, i < 7 → isB (M.2 i) ∧ M.2 i ≠ 1) (hz : M.1 1 1 = nI n) (hn : n ≤ 24) (hw : WF (cp M 1) n) : Fn Y yX2_prepare wsX2_prepare { frames := 2, cells := 0, slots := 0, locals := 45 } [.ref (Y.2.2.2 33), .ref (Y.2.2.2 1)] M none ((cpB M (M.2 k) 1 n)) := by
  refine Fn.of (cc := cX2_prepare) (ins := iX2_prepare) (maxL := 3) (ret := none) (by decide) dX2_prepare [some (.ref (Y.2.2.2 33)), some (.ref (Y.2.2.2 1)), none] (Nat.le_of_ble_eq_true rfl) rfl rfl ?_
  intro X hX hQ
  refine v_aload_n hX 0 0 rfl rfl rfl ?_
  refine v_aload_n hX 0 1 rfl rfl rfl ?_
  refine g_2_1 hX 2  tw_251 rfl ?_
  rw [hkk]
  refine v_callV hX 1 (by decide) rfl rfl (f_rowAt (show k < 7 by omega)) tw_291 tw_288 tw_290 tw_1 tw_98 (by decide +kernel) ⟨⟨rfl, rfl⟩, Nat.le_of_ble_eq_true rfl, Nat.le_of_ble_eq_true rfl⟩ rfl (Nat.le_of_ble_eq_true rfl) rfl rfl 3 rfl ?_
  refine v_astore_n hX 2 4 rfl rfl (Nat.le_of_ble_eq_true rfl) rfl ?_
  refine v_aload_n hX 2 5 rfl rfl rfl ?_
  refine v_ifnull hX 6 rfl ?_
  refine v_aload_n hX 2 7 rfl rfl rfl ?_
  refine v_aload_n hX 1 8 rfl rfl rfl ?_
  refine v_callVN hX 1 (by have := isB_lt (hh k (by omega)).1; omega) (cG_B (hh k (by omega)).1) rfl (f_become (hh k (by omega)).1 isB_1 hz hn (hh k (by omega)).2 hw) tw_295 (List.mem_of_getElem? (i := 8) rfl) tw_93 tw_294 tw_2 (by decide +kernel) ⟨⟨rfl, rfl⟩, Nat.le_of_ble_eq_true rfl, Nat.le_of_ble_eq_true rfl⟩ rfl (Nat.le_of_ble_eq_true rfl) rfl rfl 9 rfl ?_
  refine v_vret hX hQ rfl rfl ?_ 10 rfl
  rfl
set_option maxRecDepth 100000 in
set_option maxHeartbeats 4000000 in
theorem f_dropOldest {Y : Yt} {M : Mm} (hh : ∀ i, i < 7 → isB (M.2 i) ∧ M.2 i ≠ 1) : Fn Y yX2_dropOldest wsX2_dropOldest { frames := 1, cells := 0, slots := 0, locals := 21 } [.ref (Y.2.2.2 33)] M none ((mhis M (rot M.2))) := by
  refine Fn.of (cc := cX2_dropOldest) (ins := iX2_dropOldest) (maxL := 3) (ret := none) (by decide) dX2_dropOldest [some (.ref (Y.2.2.2 33)), none, none] (Nat.le_of_ble_eq_true rfl) rfl rfl ?_
  intro X hX hQ
  refine v_aload_n hX 0 0 rfl rfl rfl ?_
  refine v_iconst hX (v := 0) 1 rfl (by decide) ?_
  refine v_callV hX 1 (by decide) rfl rfl (f_rowAt (show 0 < 7 by decide)) tw_291 tw_288 tw_290 tw_1 tw_98 (by decide +kernel) ⟨⟨rfl, rfl⟩, Nat.le_of_ble_eq_true rfl, Nat.le_of_ble_eq_true rfl⟩ rfl (Nat.le_of_ble_eq_true rfl) rfl rfl 2 rfl ?_
  refine v_astore_n hX 1 3 rfl rfl (Nat.le_of_ble_eq_true rfl) rfl ?_
  refine v_iconst hX (v := 0) 4 rfl (by decide) ?_
  refine v_istore_n hX 2 5 rfl rfl (Nat.le_of_ble_eq_true rfl) rfl ?_
  have lp : ∀ (k : Nat), k ≤ 6 → V Y X (mhis M (roS M.2 k)) 8 [some (.ref (Y.2.2.2 33)), some (.ref (Y.2.2.2 (M.2 0))), some (.int (nI k))] [] := by
    refine upTo 6 (fun k hk ih => ?_)
    refine v_iload_n hX 2 6 rfl rfl rfl ?_
    refine v_bipush hX (v := 6) 7 rfl (by decide) ?_
    refine v_icmp_ge hX (tgt := 34) 8 rfl (by decide) (fun c11 => ?_) (fun c11 => ?_)
    · skip
      have hk2 : k = 6 := by have := of_le (a := 6) c11 (by omega) (by omega); omega
      subst hk2
      refine v_aload_n hX 0 21 rfl rfl rfl ?_
      refine g_2_0 hX 22  tw_250 rfl ?_
      refine v_bipush hX (v := 6) 23 rfl (by decide) ?_
      refine v_aload_n hX 1 24 rfl rfl rfl ?_
      refine v_aast34 hX (b := M.2 0) (hh 0 (by omega)).1 (vp_in_nI (n := 6) (by omega) (by decide)) 25 rfl ?_
      refine v_vret hX hQ rfl rfl ?_ 26 rfl
      rw [mhis_2, mhis_mhis]; exact congrArg (mhis M) roS_e.symm
    · skip
      have hk2 : k < 6 := of_nle (a := 6) c11 (by omega) (by omega)
      refine v_aload_n hX 0 9 rfl rfl rfl ?_
      refine g_2_0 hX 10  tw_250 rfl ?_
      refine v_iload_n hX 2 11 rfl rfl rfl ?_
      refine v_aload_n hX 0 12 rfl rfl rfl ?_
      refine g_2_0 hX 13  tw_250 rfl ?_
      refine v_iload_n hX 2 14 rfl rfl rfl ?_
      refine v_iconst hX (v := 1) 15 rfl (by decide) ?_
      refine v_iadd hX 16 rfl ?_
      refine v_aald hX (k := 34) (t0 := 3) (v := Y.2.2.2 (M.2 (k + 1))) (by decide) rfl rfl (by rw [nI_1]; exact vp_in_nI (by omega) (by decide)) (by rw [nI_1, nI_clamp (by omega)]; show some (Y.2.2.2 (roS M.2 k (k + 1))) = _; unfold roS; rw [if_neg (by omega)]) 17 rfl ?_
      refine v_aast34 hX (b := M.2 (k + 1)) (hh (k + 1) (by omega)).1 (vp_in_nI (by omega) (by decide)) 18 rfl ?_
      refine v_iinc hX 19 rfl rfl (nI_inc k) (Nat.le_of_ble_eq_true rfl) rfl ?_
      refine v_goto hX (tgt := 8) 20 rfl (by decide) ?_
      refine V.subM (ih hk2) ?_ rfl ⟨rfl, rfl, rfl, trivial⟩
      rw [nI_clamp (by omega), mhis_2, mhis_mhis, ← roS_s hk2]; unfold roS; rw [if_neg (show ¬ k + 1 < k by omega)]
  refine V.subM (lp 0 (Nat.zero_le _)) ?_ rfl ⟨rfl, rfl, rfl, trivial⟩
  rw [roS_0]; rfl
set_option maxRecDepth 100000 in
set_option maxHeartbeats 4000000 in
theorem f_settle {Y : Yt} {M : Mm} {k : Nat} {x : Int32} (hk : k ≤ 6) (hkk : M.1 33 1 = nI k) (hh : ∀ i, i < 7 → isB (M.2 i) ∧ M.2 i ≠ 1) : Fn Y yX2_settle wsX2_settle { frames := 2, cells := 0, slots := 0, locals := 43 } [.ref (Y.2.2.2 33), .int x] M (some (.int x)) ((seM M k x)) := by
  refine Fn.of (cc := cX2_settle) (ins := iX2_settle) (maxL := 2) (ret := (some .int)) (by decide) dX2_settle [some (.ref (Y.2.2.2 33)), some (.int x)] (Nat.le_of_ble_eq_true rfl) rfl rfl ?_
  intro X hX hQ
  refine v_iload_n hX 1 0 rfl rfl rfl ?_
  refine v_if_lt hX (tgt := 30) 1 rfl (by decide) (fun c1 => ?_) (fun c1 => ?_)
  · skip
    refine v_iload_n hX 1 15 rfl rfl rfl ?_
    refine v_iret hX hQ rfl rfl ?_ ?_ 16 rfl
    · rfl
    · first | (rw [seM, if_pos c1]; done) | (rw [seM, if_neg c1, if_pos hk2, hkk, nI_1]; done) | (rw [seM, if_neg c1, if_neg (by omega)])
  · skip
    refine v_aload_n hX 0 2 rfl rfl rfl ?_
    refine g_2_1 hX 3  tw_251 rfl ?_
    refine v_bipush hX (v := 6) 4 rfl (by decide) ?_
    refine v_icmp_ge hX (tgt := 26) 5 rfl (by decide) (fun c10 => ?_) (fun c10 => ?_)
    · skip
      have hk2 : k = 6 := by rw [hkk] at c10; have := of_le (a := 6) c10 (by omega) (by omega); omega
      refine v_aload_n hX 0 13 rfl rfl rfl ?_
      refine v_callV hX 0 (by decide) rfl rfl (f_dropOldest hh) tw_315 tw_312 tw_314 tw_7 tw_98 (by decide +kernel) ⟨⟨rfl, rfl⟩, Nat.le_of_ble_eq_true rfl, Nat.le_of_ble_eq_true rfl⟩ rfl (Nat.le_of_ble_eq_true rfl) rfl rfl 14 rfl ?_
      refine v_iload_n hX 1 15 rfl rfl rfl ?_
      refine v_iret hX hQ rfl rfl ?_ ?_ 16 rfl
      · rfl
      · first | (rw [seM, if_pos c1]; done) | (rw [seM, if_neg c1, if_pos hk2, hkk, nI_1]; done) | (rw [seM, if_neg c1, if_neg (by omega)])
    · skip
      have hk2 : k < 6 := by rw [hkk] at c10; exact of_nle (a := 6) c10 (by omega) (by omega)
      refine v_aload_n hX 0 6 rfl rfl rfl ?_
      refine v_dup hX 7 rfl rfl ?_
      refine g_2_1 hX 8  tw_251 rfl ?_
      refine v_iconst hX (v := 1) 9 rfl (by decide) ?_
      refine v_iadd hX 10 rfl ?_
      refine p_2_1 hX 11   tw_251 rfl ?_
      refine v_goto hX (tgt := 30) 12 rfl (by decide) ?_
      refine v_iload_n hX 1 15 rfl rfl rfl ?_
      refine v_iret hX hQ rfl rfl ?_ ?_ 16 rfl
      · rfl
      · first | (rw [seM, if_pos c1]; done) | (rw [seM, if_neg c1, if_pos hk2, hkk, nI_1]; done) | (rw [seM, if_neg c1, if_neg (by omega)])
set_option maxRecDepth 100000 in
set_option maxHeartbeats 4000000 in
theorem f_bringBack_no {Y : Yt} {M : Mm} (hkk : M.1 33 1 = nI 0) : Fn Y yX2_bringBack wsX2_bringBack { frames := 2, cells := 0, slots := 0, locals := 45 } [.ref (Y.2.2.2 33), .ref (Y.2.2.2 1)] M (some (.int (-5))) M := by
  refine Fn.of (cc := cX2_bringBack) (ins := iX2_bringBack) (maxL := 3) (ret := (some .int)) (by decide) dX2_bringBack [some (.ref (Y.2.2.2 33)), some (.ref (Y.2.2.2 1)), none] (Nat.le_of_ble_eq_true rfl) rfl rfl ?_
  intro X hX hQ
  refine v_aload_n hX 0 0 rfl rfl rfl ?_
  refine v_aload_n hX 0 1 rfl rfl rfl ?_
  refine g_2_1 hX 2  tw_251 rfl ?_
  refine v_iconst hX (v := 1) 3 rfl (by decide) ?_
  refine v_isub hX 4 rfl ?_
  rw [hkk]
  refine v_callV hX 1 (by decide) rfl rfl (f_rowAt_no (Or.inl (by decide))) tw_291 tw_288 tw_290 tw_1 tw_98 (by decide +kernel) ⟨⟨rfl, rfl⟩, Nat.le_of_ble_eq_true rfl, Nat.le_of_ble_eq_true rfl⟩ rfl (Nat.le_of_ble_eq_true rfl) rfl rfl 5 rfl ?_
  refine v_astore_nN hX 2 6 rfl rfl (Nat.le_of_ble_eq_true rfl) rfl ?_
  refine v_aload_nN hX 2 7 rfl rfl rfl ?_
  refine v_ifnonnullN hX 8 rfl ?_
  refine v_bipush hX (v := (-5)) 9 rfl (by decide) ?_
  refine v_iret hX hQ rfl rfl ?_ ?_ 10 rfl
  · rfl
  · rfl
set_option maxRecDepth 100000 in
set_option maxHeartbeats 4000000 in
theorem f_bringBack {Y : Yt} {M : Mm} {k n : Nat} (hk : k < 6) (hkk : M.1 33 1 = nI (k + 1)) (hh : ∀ i, i < 7 → isB (M.2 i) ∧ M.2 i ≠ 1) (hz : M.1 (M.2 k) 1 = nI n) (hn : n ≤ 24) (hw : WF (cp M (M.2 k)) n) : Fn Y yX2_bringBack wsX2_bringBack { frames := 2, cells := 0, slots := 0, locals := 45 } [.ref (Y.2.2.2 33), .ref (Y.2.2.2 1)] M (some (.int (nI k))) ((mset (cpB M 1 (M.2 k) n) 33 1 (nI k))) := by
  refine Fn.of (cc := cX2_bringBack) (ins := iX2_bringBack) (maxL := 3) (ret := (some .int)) (by decide) dX2_bringBack [some (.ref (Y.2.2.2 33)), some (.ref (Y.2.2.2 1)), none] (Nat.le_of_ble_eq_true rfl) rfl rfl ?_
  intro X hX hQ
  refine v_aload_n hX 0 0 rfl rfl rfl ?_
  refine v_aload_n hX 0 1 rfl rfl rfl ?_
  refine g_2_1 hX 2  tw_251 rfl ?_
  refine v_iconst hX (v := 1) 3 rfl (by decide) ?_
  refine v_isub hX 4 rfl ?_
  rw [hkk, nI_pred]
  refine v_callV hX 1 (by decide) rfl rfl (f_rowAt (show k < 7 by omega)) tw_291 tw_288 tw_290 tw_1 tw_98 (by decide +kernel) ⟨⟨rfl, rfl⟩, Nat.le_of_ble_eq_true rfl, Nat.le_of_ble_eq_true rfl⟩ rfl (Nat.le_of_ble_eq_true rfl) rfl rfl 5 rfl ?_
  refine v_astore_n hX 2 6 rfl rfl (Nat.le_of_ble_eq_true rfl) rfl ?_
  refine v_aload_n hX 2 7 rfl rfl rfl ?_
  refine v_ifnonnull hX (tgt := 18) 8 rfl (by decide) ?_
  refine v_aload_n hX 1 11 rfl rfl rfl ?_
  refine v_aload_n hX 2 12 rfl rfl rfl ?_
  refine v_callVN hX 1 (by decide) (cG_B isB_1) rfl (f_become isB_1 (hh k (by omega)).1 hz hn (hh k (by omega)).2.symm hw) tw_295 (List.mem_of_getElem? (i := 8) rfl) tw_93 tw_294 tw_2 (by decide +kernel) ⟨⟨rfl, rfl⟩, Nat.le_of_ble_eq_true rfl, Nat.le_of_ble_eq_true rfl⟩ rfl (Nat.le_of_ble_eq_true rfl) rfl rfl 13 rfl ?_
  have hk33 : (cpB M 1 (M.2 k) n).1 33 1 = nI (k + 1) := by rw [cpB_out (by decide) (by omega)]; exact hkk
  refine v_aload_n hX 0 14 rfl rfl rfl ?_
  refine v_dup hX 15 rfl rfl ?_
  refine g_2_1 hX 16  tw_251 rfl ?_
  rw [hk33]
  refine v_iconst hX (v := 1) 17 rfl (by decide) ?_
  refine v_isub hX 18 rfl ?_
  rw [nI_pred]
  refine p_2_1 hX 19   tw_251 rfl ?_
  refine v_aload_n hX 0 20 rfl rfl rfl ?_
  refine g_2_1 hX 21  tw_251 rfl ?_
  refine v_iret hX hQ rfl rfl ?_ ?_ 22 rfl
  · rw [mset_s, upd_s]
  · rfl
set_option maxRecDepth 100000 in
set_option maxHeartbeats 4000000 in
theorem f_empty {Y : Yt} {M : Mm}  : Fn Y yX3_empty wsX3_empty { frames := 0, cells := 0, slots := 0, locals := 0 } [.ref (Y.2.2.2 30)] M (some (.int (M.1 30 1))) ((mset M 30 1 0)) := by
  refine Fn.of (cc := cX3_empty) (ins := iX3_empty) (maxL := 2) (ret := (some .int)) (by decide) dX3_empty [some (.ref (Y.2.2.2 30)), none] (Nat.le_of_ble_eq_true rfl) rfl rfl ?_
  intro X hX hQ
  refine v_aload_n hX 0 0 rfl rfl rfl ?_
  refine g_3_1 hX 1  tw_203 rfl ?_
  refine v_istore_n hX 1 2 rfl rfl (Nat.le_of_ble_eq_true rfl) rfl ?_
  refine v_aload_n hX 0 3 rfl rfl rfl ?_
  refine v_iconst hX (v := 0) 4 rfl (by decide) ?_
  refine p_3_1 hX 5   tw_203 rfl ?_
  refine v_iload_n hX 1 6 rfl rfl rfl ?_
  refine v_iret hX hQ rfl rfl ?_ ?_ 7 rfl
  · rfl
  · rfl
set_option maxRecDepth 100000 in
set_option maxHeartbeats 4000000 in
theorem f_signOf {Y : Yt} {M : Mm} {x : Int64} {p : Int32} : Fn Y yX3_signOf wsX3_signOf { frames := 0, cells := 0, slots := 0, locals := 0 } [.long x, .int p] M (some (.int (sgn x p))) M := by
  refine Fn.of (cc := cX3_signOf) (ins := iX3_signOf) (maxL := 3) (ret := (some .char)) (by decide) dX3_signOf [some (.long x), none, some (.int p)] (Nat.le_of_ble_eq_true rfl) rfl rfl ?_
  intro X hX hQ
  refine v_lload_n hX 0 0 rfl rfl rfl ?_
  refine v_bipush hX (v := 8) 1 rfl (by decide) ?_
  refine v_iload_n hX 2 2 rfl rfl rfl ?_
  refine v_imul hX 3 rfl ?_
  refine v_lushr hX 4 rfl rfl ?_
  refine v_ldc2 hX tw_550 5 rfl ?_
  refine v_land hX 6 rfl ?_
  refine v_l2i hX 7 rfl rfl ?_
  refine v_i2c hX 8 rfl rfl ?_
  refine v_iret hX hQ rfl (pk_nc _) ?_ ?_ 9 rfl
  · rfl
  · rfl
set_option maxRecDepth 100000 in
set_option maxHeartbeats 4000000 in
theorem f_signsIn {Y : Yt} {M : Mm} {x : Int64} : Fn Y yX3_signsIn wsX3_signsIn { frames := 1, cells := 0, slots := 0, locals := 22 } [.long x] M (some (.int (snL x 8 0))) M := by
  refine Fn.of (cc := cX3_signsIn) (ins := iX3_signsIn) (maxL := 4) (ret := (some .int)) (by decide) dX3_signsIn [some (.long x), none, none, none] (Nat.le_of_ble_eq_true rfl) rfl rfl ?_
  intro X hX hQ
  refine v_iconst hX (v := 0) 0 rfl (by decide) ?_
  refine v_istore_n hX 2 1 rfl rfl (Nat.le_of_ble_eq_true rfl) rfl ?_
  have lp : ∀ (k : Nat), k ≤ 8 → snL x (8 - k) k = snL x 8 0 → V Y X M 2 [some (.long x), none, some (.int (nI k)), none] [] := by
    refine upTo 8 (fun k hk ih => ?_)
    intro he
    refine v_iload_n hX 2 2 rfl rfl rfl ?_
    refine v_bipush hX (v := 8) 3 rfl (by decide) ?_
    refine v_icmp_ge hX (tgt := 42) 4 rfl (by decide) (fun c5 => ?_) (fun c5 => ?_)
    · skip
      have hk2 : k = 8 := by have := of_le (a := 8) c5 (by omega) (by omega); omega
      have he2 : snE x k = snL x 8 0 := by rw [← he, hk2]; rfl
      refine v_iload_n hX 2 23 rfl rfl rfl ?_
      refine v_bipush hX (v := 8) 24 rfl (by decide) ?_
      refine v_icmp_ge hX (tgt := 63) 25 rfl (by decide) (fun c45 => ?_) (fun c45 => ?_)
      · skip
        have hk3 : ¬ k < 8 := by have := of_le (a := 8) c45 (by omega) (by omega); omega
        refine v_iconst hX (v := 0) 36 rfl (by decide) ?_
        refine v_istore_n hX 3 37 rfl rfl (Nat.le_of_ble_eq_true rfl) rfl ?_
        refine v_iload_n hX 3 38 rfl rfl rfl ?_
        refine v_if_eq hX (tgt := 73) 39 rfl (by decide) (fun c66 => ?_) (fun c66 => ?_)
        · skip
          refine v_iload_n hX 2 42 rfl rfl rfl ?_
          refine v_iret hX hQ rfl rfl ?_ ?_ 43 rfl
          · first | (rw [he3]; simp [snE, hk3, c5, c45, c66]; done) | (rw [← he2]; simp [snE, hk3, c5, c45, c66]; done) | (first | rw [he3] | rw [← he2]); simp_all [snE]
          · rfl
        · skip
          refine v_iconst hX (v := 0) 40 rfl (by decide) ?_
          refine v_goto hX (tgt := 74) 41 rfl (by decide) ?_
          refine v_iret hX hQ rfl rfl ?_ ?_ 43 rfl
          · first | (rw [he3]; simp [snE, hk3, c5, c45, c66]; done) | (rw [← he2]; simp [snE, hk3, c5, c45, c66]; done) | (first | rw [he3] | rw [← he2]); simp_all [snE]
          · rfl
      · skip
        have hk3 : k < 8 := of_nle (a := 8) c45 (by omega) (by omega)
        refine v_lload_n hX 0 26 rfl rfl rfl ?_
        refine v_bipush hX (v := 8) 27 rfl (by decide) ?_
        refine v_iload_n hX 2 28 rfl rfl rfl ?_
        refine v_imul hX 29 rfl ?_
        refine v_lushr hX 30 rfl rfl ?_
        refine v_lconst hX (v := 0) 31 rfl rfl ?_
        refine v_lcmp hX 32 rfl ?_
        refine v_if_eq hX (tgt := 63) 33 rfl (by decide) (fun c56 => ?_) (fun c56 => ?_)
        · skip
          refine v_iconst hX (v := 0) 36 rfl (by decide) ?_
          refine v_istore_n hX 3 37 rfl rfl (Nat.le_of_ble_eq_true rfl) rfl ?_
          refine v_iload_n hX 3 38 rfl rfl rfl ?_
          refine v_if_eq hX (tgt := 73) 39 rfl (by decide) (fun c66 => ?_) (fun c66 => ?_)
          · skip
            refine v_iload_n hX 2 42 rfl rfl rfl ?_
            refine v_iret hX hQ rfl rfl ?_ ?_ 43 rfl
            · first | (rw [he3]; simp [snE, hk3, c5, c45, c56, c66]; done) | (rw [← he2]; simp [snE, hk3, c5, c45, c56, c66]; done) | (first | rw [he3] | rw [← he2]); simp_all [snE]
            · rfl
          · skip
            refine v_iconst hX (v := 0) 40 rfl (by decide) ?_
            refine v_goto hX (tgt := 74) 41 rfl (by decide) ?_
            refine v_iret hX hQ rfl rfl ?_ ?_ 43 rfl
            · first | (rw [he3]; simp [snE, hk3, c5, c45, c56, c66]; done) | (rw [← he2]; simp [snE, hk3, c5, c45, c56, c66]; done) | (first | rw [he3] | rw [← he2]); simp_all [snE]
            · rfl
        · skip
          refine v_iconst hX (v := 1) 34 rfl (by decide) ?_
          refine v_goto hX (tgt := 64) 35 rfl (by decide) ?_
          refine v_istore_n hX 3 37 rfl rfl (Nat.le_of_ble_eq_true rfl) rfl ?_
          refine v_iload_n hX 3 38 rfl rfl rfl ?_
          refine v_if_eq hX (tgt := 73) 39 rfl (by decide) (fun c66 => ?_) (fun c66 => ?_)
          · skip
            refine v_iload_n hX 2 42 rfl rfl rfl ?_
            refine v_iret hX hQ rfl rfl ?_ ?_ 43 rfl
            · first | (rw [he3]; simp [snE, hk3, c5, c45, c56, c66]; done) | (rw [← he2]; simp [snE, hk3, c5, c45, c56, c66]; done) | (first | rw [he3] | rw [← he2]); simp_all [snE]
            · rfl
          · skip
            refine v_iconst hX (v := 0) 40 rfl (by decide) ?_
            refine v_goto hX (tgt := 74) 41 rfl (by decide) ?_
            refine v_iret hX hQ rfl rfl ?_ ?_ 43 rfl
            · first | (rw [he3]; simp [snE, hk3, c5, c45, c56, c66]; done) | (rw [← he2]; simp [snE, hk3, c5, c45, c56, c66]; done) | (first | rw [he3] | rw [← he2]); simp_all [snE]
            · rfl
    · skip
      have hk2 : k < 8 := of_nle (a := 8) c5 (by omega) (by omega)
      obtain ⟨f, hf⟩ : ∃ f, 8 - k = f + 1 := ⟨7 - k, by omega⟩
      have he3 : snL x (8 - k) k = if sgn x (nI k) = 0 then snE x k else if sgn x (nI k) < 33 ∨ ¬ sgn x (nI k) ≤ 126 then 0 else snL x (7 - k) (k + 1) := by rw [hf, snL, show 7 - k = f by omega]
      rw [he] at he3
      refine v_lload_n hX 0 5 rfl rfl rfl ?_
      refine v_iload_n hX 2 6 rfl rfl rfl ?_
      refine v_callS hX 2 (f_signOf) tw_549 tw_547 tw_548 tw_96 (by decide +kernel) ⟨⟨rfl, rfl⟩, Nat.le_of_ble_eq_true rfl, Nat.le_of_ble_eq_true rfl⟩ rfl (Nat.le_of_ble_eq_true rfl) rfl rfl 7 rfl ?_
      refine v_if_eq hX (tgt := 42) 8 rfl (by decide) (fun c13 => ?_) (fun c13 => ?_)
      · skip
        rw [if_pos c13] at he3
        refine v_iload_n hX 2 23 rfl rfl rfl ?_
        refine v_bipush hX (v := 8) 24 rfl (by decide) ?_
        refine v_icmp_ge hX (tgt := 63) 25 rfl (by decide) (fun c45 => ?_) (fun c45 => ?_)
        · skip
          have hk3 : ¬ k < 8 := by have := of_le (a := 8) c45 (by omega) (by omega); omega
          refine v_iconst hX (v := 0) 36 rfl (by decide) ?_
          refine v_istore_n hX 3 37 rfl rfl (Nat.le_of_ble_eq_true rfl) rfl ?_
          refine v_iload_n hX 3 38 rfl rfl rfl ?_
          refine v_if_eq hX (tgt := 73) 39 rfl (by decide) (fun c66 => ?_) (fun c66 => ?_)
          · skip
            refine v_iload_n hX 2 42 rfl rfl rfl ?_
            refine v_iret hX hQ rfl rfl ?_ ?_ 43 rfl
            · first | (rw [he3]; simp [snE, hk3, c5, c13, c45, c66]; done) | (rw [← he2]; simp [snE, hk3, c5, c13, c45, c66]; done) | (first | rw [he3] | rw [← he2]); simp_all [snE]
            · rfl
          · skip
            refine v_iconst hX (v := 0) 40 rfl (by decide) ?_
            refine v_goto hX (tgt := 74) 41 rfl (by decide) ?_
            refine v_iret hX hQ rfl rfl ?_ ?_ 43 rfl
            · first | (rw [he3]; simp [snE, hk3, c5, c13, c45, c66]; done) | (rw [← he2]; simp [snE, hk3, c5, c13, c45, c66]; done) | (first | rw [he3] | rw [← he2]); simp_all [snE]
            · rfl
        · skip
          have hk3 : k < 8 := of_nle (a := 8) c45 (by omega) (by omega)
          refine v_lload_n hX 0 26 rfl rfl rfl ?_
          refine v_bipush hX (v := 8) 27 rfl (by decide) ?_
          refine v_iload_n hX 2 28 rfl rfl rfl ?_
          refine v_imul hX 29 rfl ?_
          refine v_lushr hX 30 rfl rfl ?_
          refine v_lconst hX (v := 0) 31 rfl rfl ?_
          refine v_lcmp hX 32 rfl ?_
          refine v_if_eq hX (tgt := 63) 33 rfl (by decide) (fun c56 => ?_) (fun c56 => ?_)
          · skip
            refine v_iconst hX (v := 0) 36 rfl (by decide) ?_
            refine v_istore_n hX 3 37 rfl rfl (Nat.le_of_ble_eq_true rfl) rfl ?_
            refine v_iload_n hX 3 38 rfl rfl rfl ?_
            refine v_if_eq hX (tgt := 73) 39 rfl (by decide) (fun c66 => ?_) (fun c66 => ?_)
            · skip
              refine v_iload_n hX 2 42 rfl rfl rfl ?_
              refine v_iret hX hQ rfl rfl ?_ ?_ 43 rfl
              · first | (rw [he3]; simp [snE, hk3, c5, c13, c45, c56, c66]; done) | (rw [← he2]; simp [snE, hk3, c5, c13, c45, c56, c66]; done) | (first | rw [he3] | rw [← he2]); simp_all [snE]
              · rfl
            · skip
              refine v_iconst hX (v := 0) 40 rfl (by decide) ?_
              refine v_goto hX (tgt := 74) 41 rfl (by decide) ?_
              refine v_iret hX hQ rfl rfl ?_ ?_ 43 rfl
              · first | (rw [he3]; simp [snE, hk3, c5, c13, c45, c56, c66]; done) | (rw [← he2]; simp [snE, hk3, c5, c13, c45, c56, c66]; done) | (first | rw [he3] | rw [← he2]); simp_all [snE]
              · rfl
          · skip
            refine v_iconst hX (v := 1) 34 rfl (by decide) ?_
            refine v_goto hX (tgt := 64) 35 rfl (by decide) ?_
            refine v_istore_n hX 3 37 rfl rfl (Nat.le_of_ble_eq_true rfl) rfl ?_
            refine v_iload_n hX 3 38 rfl rfl rfl ?_
            refine v_if_eq hX (tgt := 73) 39 rfl (by decide) (fun c66 => ?_) (fun c66 => ?_)
            · skip
              refine v_iload_n hX 2 42 rfl rfl rfl ?_
              refine v_iret hX hQ rfl rfl ?_ ?_ 43 rfl
              · first | (rw [he3]; simp [snE, hk3, c5, c13, c45, c56, c66]; done) | (rw [← he2]; simp [snE, hk3, c5, c13, c45, c56, c66]; done) | (first | rw [he3] | rw [← he2]); simp_all [snE]
              · rfl
            · skip
              refine v_iconst hX (v := 0) 40 rfl (by decide) ?_
              refine v_goto hX (tgt := 74) 41 rfl (by decide) ?_
              refine v_iret hX hQ rfl rfl ?_ ?_ 43 rfl
              · first | (rw [he3]; simp [snE, hk3, c5, c13, c45, c56, c66]; done) | (rw [← he2]; simp [snE, hk3, c5, c13, c45, c56, c66]; done) | (first | rw [he3] | rw [← he2]); simp_all [snE]
              · rfl
      · skip
        rw [if_neg c13] at he3
        refine v_lload_n hX 0 9 rfl rfl rfl ?_
        refine v_iload_n hX 2 10 rfl rfl rfl ?_
        refine v_callS hX 2 (f_signOf) tw_549 tw_547 tw_548 tw_96 (by decide +kernel) ⟨⟨rfl, rfl⟩, Nat.le_of_ble_eq_true rfl, Nat.le_of_ble_eq_true rfl⟩ rfl (Nat.le_of_ble_eq_true rfl) rfl rfl 11 rfl ?_
        refine v_istore_n hX 3 12 rfl rfl (Nat.le_of_ble_eq_true rfl) rfl ?_
        refine v_iload_n hX 3 13 rfl rfl rfl ?_
        refine v_bipush hX (v := 33) 14 rfl (by decide) ?_
        refine v_icmp_lt hX (tgt := 34) 15 rfl (by decide) (fun c25 => ?_) (fun c25 => ?_)
        · skip
          rw [if_pos (Or.inl c25)] at he3
          refine v_iconst hX (v := 0) 19 rfl (by decide) ?_
          refine v_iret hX hQ rfl rfl ?_ ?_ 20 rfl
          · rw [he3]
          · rfl
        · skip
          refine v_iload_n hX 3 16 rfl rfl rfl ?_
          refine v_bipush hX (v := 126) 17 rfl (by decide) ?_
          refine v_icmp_le hX (tgt := 36) 18 rfl (by decide) (fun c31 => ?_) (fun c31 => ?_)
          · skip
            rw [if_neg (fun h => h.elim c25 (fun h => h c31))] at he3
            refine v_iinc hX 21 rfl rfl (nI_inc k) (Nat.le_of_ble_eq_true rfl) rfl ?_
            refine v_goto hX (tgt := 2) 22 rfl (by decide) ?_
            exact V.sub (ih hk2 (by rw [he3, show 8 - (k + 1) = 7 - k by omega])) rfl ⟨rfl, rfl, trivial⟩
          · skip
            rw [if_pos (Or.inr c31)] at he3
            refine v_iconst hX (v := 0) 19 rfl (by decide) ?_
            refine v_iret hX hQ rfl rfl ?_ ?_ 20 rfl
            · rw [he3]
            · rfl
  exact V.sub (lp 0 (Nat.zero_le _) rfl) rfl ⟨rfl, rfl, trivial⟩
set_option maxRecDepth 100000 in
set_option maxHeartbeats 4000000 in
theorem f_append {Y : Yt} {M : Mm} {l : Nat} {c : Int32} (hl : l < 80) (hz : M.1 30 1 = nI l) : Fn Y yX3_append wsX3_append { frames := 0, cells := 0, slots := 0, locals := 0 } [.ref (Y.2.2.2 30), .int c] M none ((mset (mset M 31 l (vp_nar .char c)) 30 1 (nI (l + 1)))) := by
  refine Fn.of (cc := cX3_append) (ins := iX3_append) (maxL := 2) (ret := none) (by decide) dX3_append [some (.ref (Y.2.2.2 30)), some (.int c)] (Nat.le_of_ble_eq_true rfl) rfl rfl ?_
  intro X hX hQ
  refine v_aload_n hX 0 0 rfl rfl rfl ?_
  refine g_3_1 hX 1  tw_203 rfl ?_
  refine v_if_lt hX (tgt := 36) 2 rfl (by decide) (fun c4 => absurd c4 (by rw [hz]; exact nI_nlt (Nat.zero_le _) (by omega))) (fun c4 => ?_)
  refine v_aload_n hX 0 3 rfl rfl rfl ?_
  refine g_3_1 hX 4  tw_203 rfl ?_
  refine v_bipush hX (v := 80) 5 rfl (by decide) ?_
  refine v_icmp_ge hX (tgt := 36) 6 rfl (by decide) (fun c13 => absurd c13 (by rw [hz]; exact nI_ge hl (by decide))) (fun c13 => ?_)
  refine v_aload_n hX 0 7 rfl rfl rfl ?_
  refine g_3_0 hX 8  tw_202 rfl ?_
  refine v_aload_n hX 0 9 rfl rfl rfl ?_
  refine g_3_1 hX 10  tw_203 rfl ?_
  refine v_iload_n hX 1 11 rfl rfl rfl ?_
  rw [hz]
  refine v_cast hX (k := 31) (by decide) rfl rfl (vp_in_nI hl (by decide)) rfl 12 rfl ?_
  rw [nI_clamp (by omega)]
  refine v_aload_n hX 0 13 rfl rfl rfl ?_
  refine v_dup hX 14 rfl rfl ?_
  refine g_3_1 hX 15  tw_203 rfl ?_
  refine v_iconst hX (v := 1) 16 rfl (by decide) ?_
  refine v_iadd hX 17 rfl ?_
  refine p_3_1 hX 18   tw_203 rfl ?_
  refine v_vret hX hQ rfl rfl ?_ 19 rfl
  rw [mset_n (by decide), hz, nI_1]
set_option maxRecDepth 100000 in
set_option maxHeartbeats 4000000 in
theorem f_signAt_in {Y : Yt} {M : Mm} {l a : Nat} (ha : a < l) (hl : l ≤ 80) (hz : M.1 30 1 = nI l) (hc : isCh M l) : Fn Y yX3_signAt wsX3_signAt { frames := 0, cells := 0, slots := 0, locals := 0 } [.ref (Y.2.2.2 30), .int (nI a)] M (some (.int (M.1 31 a))) M := by
  refine Fn.of (cc := cX3_signAt) (ins := iX3_signAt) (maxL := 2) (ret := (some .char)) (by decide) dX3_signAt [some (.ref (Y.2.2.2 30)), some (.int (nI a))] (Nat.le_of_ble_eq_true rfl) rfl rfl ?_
  intro X hX hQ
  refine v_iload_n hX 1 0 rfl rfl rfl ?_
  refine v_if_lt hX (tgt := 27) 1 rfl (by decide) (fun c1 => absurd c1 (nI_nlt (Nat.zero_le _) (by omega))) (fun c1 => ?_)
  refine v_iload_n hX 1 2 rfl rfl rfl ?_
  refine v_aload_n hX 0 3 rfl rfl rfl ?_
  refine g_3_1 hX 4  tw_203 rfl ?_
  refine v_icmp_ge hX (tgt := 27) 5 rfl (by decide) (fun c9 => absurd c9 (by rw [hz]; exact nI_ge ha (by omega))) (fun c9 => ?_)
  refine v_iload_n hX 1 6 rfl rfl rfl ?_
  refine v_bipush hX (v := 80) 7 rfl (by decide) ?_
  refine v_icmp_ge hX (tgt := 27) 8 rfl (by decide) (fun c15 => absurd c15 (nI_ge (show a < 80 by omega) (by decide))) (fun c15 => ?_)
  refine v_aload_n hX 0 9 rfl rfl rfl ?_
  refine g_3_0 hX 10  tw_202 rfl ?_
  refine v_iload_n hX 1 11 rfl rfl rfl ?_
  refine v_cald hX (k := 31) (by decide) rfl (vp_in_nI (by omega) (by decide)) 12 rfl ?_
  rw [nI_clamp (by omega)]
  refine v_goto hX (tgt := 28) 13 rfl (by decide) ?_
  refine v_iret hX hQ rfl (hc a ha).1 ?_ ?_ 15 rfl
  · rfl
  · rfl
set_option maxRecDepth 100000 in
set_option maxHeartbeats 4000000 in
theorem f_signAt_out {Y : Yt} {M : Mm} {l a : Nat} (ha : l ≤ a) (ha2 : a < 2 ^ 31) (hz : M.1 30 1 = nI l) : Fn Y yX3_signAt wsX3_signAt { frames := 0, cells := 0, slots := 0, locals := 0 } [.ref (Y.2.2.2 30), .int (nI a)] M (some (.int 0)) M := by
  refine Fn.of (cc := cX3_signAt) (ins := iX3_signAt) (maxL := 2) (ret := (some .char)) (by decide) dX3_signAt [some (.ref (Y.2.2.2 30)), some (.int (nI a))] (Nat.le_of_ble_eq_true rfl) rfl rfl ?_
  intro X hX hQ
  refine v_iload_n hX 1 0 rfl rfl rfl ?_
  refine v_if_lt hX (tgt := 27) 1 rfl (by decide) (fun c1 => absurd c1 (nI_nlt (Nat.zero_le _) ha2)) (fun c1 => ?_)
  refine v_iload_n hX 1 2 rfl rfl rfl ?_
  refine v_aload_n hX 0 3 rfl rfl rfl ?_
  refine g_3_1 hX 4  tw_203 rfl ?_
  refine v_icmp_ge hX (tgt := 27) 5 rfl (by decide) (fun c9 => ?_) (fun c9 => absurd (by rw [hz]; exact nI_le ha ha2) c9)
  refine v_iconst hX (v := 0) 14 rfl (by decide) ?_
  refine v_iret hX hQ rfl rfl ?_ ?_ 15 rfl
  · rfl
  · rfl
theorem f_signAt {Y : Yt} {M : Mm} {l a : Nat} (ha : a < 2 ^ 31) (hl : l ≤ 80) (hz : M.1 30 1 = nI l) (hc : isCh M l) : Fn Y yX3_signAt wsX3_signAt { frames := 0, cells := 0, slots := 0, locals := 0 } [.ref (Y.2.2.2 30), .int (nI a)] M (some (.int (chA (M.1 31) l a))) M := by
  unfold chA
  by_cases h : a < l
  · rw [if_pos h]; exact f_signAt_in h hl hz hc
  · rw [if_neg h]; exact f_signAt_out (by omega) ha hz
end
section
abbrev Tq : Type := Int32 × Nat × (Nat → Int32)
def RdOK (M : Mm) (s : Nat → Int32) (l : Nat) : Prop := M.1 31 = s ∧ M.1 30 1 = nI l ∧ l ≤ 80 ∧ isCh M l
theorem RdOK.row {M : Mm} {s q : Nat → Int32} {l : Nat} (h : RdOK M s l) : RdOK (mrow M 32 q) s l := by
  obtain ⟨h1, h2, h3, h4⟩ := h
  exact ⟨by rw [mrow_n (by decide)]; exact h1, by rw [mrow_n (by decide)]; exact h2, h3, fun j hj => by rw [mrow_n (by decide)]; exact h4 j hj⟩
def td (s : Nat → Int32) (l : Nat) (lo hi : Int32) (a : Nat) (q : Nat → Int32) : Tq := if chA s l a < lo ∨ ¬ chA s l a ≤ hi then (0, a, q) else (1, a + 1, upd (upd q 1 (chA s l a - 48)) 0 (nI (a + 1)))
def tkc (s : Nat → Int32) (l : Nat) (c : Int32) (a : Nat) (q : Nat → Int32) : Tq := if chA s l a = c then (1, a + 1, upd q 0 (nI (a + 1))) else (0, a, q)
def rdg (s : Nat → Int32) (l : Nat) (lo hi : Int32) (a : Nat) (q : Nat → Int32) : Tq := if (td s l lo hi a q).1 = 0 then (0, (td s l lo hi a q).2) else (1, (td s l lo hi a q).2.1, upd (td s l lo hi a q).2.2 3 ((td s l lo hi a q).2.2 1))
def rnm2 (s : Nat → Int32) (l : Nat) (t : Tq) : Tq := if (td s l 48 57 t.2.1 t.2.2).1 = 0 then (1, (td s l 48 57 t.2.1 t.2.2).2) else (1, (td s l 48 57 t.2.1 t.2.2).2.1, upd (td s l 48 57 t.2.1 t.2.2).2.2 3 (10 * (td s l 48 57 t.2.1 t.2.2).2.2 3 + (td s l 48 57 t.2.1 t.2.2).2.2 1))
def rnm (s : Nat → Int32) (l : Nat) (a : Nat) (q : Nat → Int32) : Tq := if (rdg s l 48 57 a q).1 = 0 then (0, (rdg s l 48 57 a q).2) else if (rdg s l 48 57 a q).2.2 3 ≤ 0 then (1, (rdg s l 48 57 a q).2) else rnm2 s l (rdg s l 48 57 a q)
def rcl (s : Nat → Int32) (l : Nat) : Nat → Nat → (Nat → Int32) → Nat × (Nat → Int32)
  | 0, a, q => (a, q)
  | f + 1, a, q => if (td s l 48 57 a q).1 = 0 then (td s l 48 57 a q).2 else rcl s l f (td s l 48 57 a q).2.1 (upd (td s l 48 57 a q).2.2 5 ((td s l 48 57 a q).2.2 5 ||| ((1 : Int32) <<< ((td s l 48 57 a q).2.2 1 &&& 31))))
def rcs (s : Nat → Int32) (l : Nat) (a : Nat) (q : Nat → Int32) : Tq := if (tkc s l 43 a (upd q 5 0)).1 = 0 then (1, (tkc s l 43 a (upd q 5 0)).2) else (if (rcl s l 80 (tkc s l 43 a (upd q 5 0)).2.1 (tkc s l 43 a (upd q 5 0)).2.2).2 5 = 0 then 0 else 1, rcl s l 80 (tkc s l 43 a (upd q 5 0)).2.1 (tkc s l 43 a (upd q 5 0)).2.2)
def rpp (s : Nat → Int32) (l : Nat) (a : Nat) (q : Nat → Int32) : Tq := if (tkc s l 47 a q).1 = 0 then (0, (tkc s l 47 a q).2) else if (td s l 49 57 (tkc s l 47 a q).2.1 (tkc s l 47 a q).2.2).1 = 0 then (0, (td s l 49 57 (tkc s l 47 a q).2.1 (tkc s l 47 a q).2.2).2) else rcs s l (td s l 49 57 (tkc s l 47 a q).2.1 (tkc s l 47 a q).2.2).2.1 (upd (td s l 49 57 (tkc s l 47 a q).2.1 (tkc s l 47 a q).2.2).2.2 4 ((td s l 49 57 (tkc s l 47 a q).2.1 (tkc s l 47 a q).2.2).2.2 1))
def thn (t u : Tq) : Tq := if t.1 = 0 then (0, t.2) else (if u.1 = 0 then 0 else 1, u.2)
def ror (s : Nat → Int32) (l : Nat) (a : Nat) (q : Nat → Int32) : Tq :=
  if chA s l a = 99 then thn (rdg s l 48 49 (a + 1) (upd (upd q 2 (chA s l a)) 0 (nI (a + 1)))) (rpp s l (rdg s l 48 49 (a + 1) (upd (upd q 2 (chA s l a)) 0 (nI (a + 1)))).2.1 (rdg s l 48 49 (a + 1) (upd (upd q 2 (chA s l a)) 0 (nI (a + 1)))).2.2)
  else if chA s l a = 97 then thn (rnm s l (a + 1) (upd (upd q 2 (chA s l a)) 0 (nI (a + 1)))) (rpp s l (rnm s l (a + 1) (upd (upd q 2 (chA s l a)) 0 (nI (a + 1)))).2.1 (rnm s l (a + 1) (upd (upd q 2 (chA s l a)) 0 (nI (a + 1)))).2.2)
  else if chA s l a = 119 ∨ chA s l a = 114 ∨ chA s l a = 116 then rnm s l (a + 1) (upd (upd q 2 (chA s l a)) 0 (nI (a + 1)))
  else if chA s l a = 111 then rdg s l 48 57 (a + 1) (upd (upd q 2 (chA s l a)) 0 (nI (a + 1)))
  else (0, a, upd q 2 (chA s l a))
def ffl (s : Nat → Int32) (l : Nat) : Nat → Nat → (Nat → Int32) → Int32 × (Nat → Int32)
  | 0, a, q => (nI a, q)
  | f + 1, a, q => if (ror s l a q).1 = 0 then (nI (ror s l a q).2.1, (ror s l a q).2.2) else if ¬ nI (ror s l a q).2.1 < nI l then (-6, (ror s l a q).2.2) else if (tkc s l 59 (ror s l a q).2.1 (ror s l a q).2.2).1 = 0 then (nI (tkc s l 59 (ror s l a q).2.1 (ror s l a q).2.2).2.1, (tkc s l 59 (ror s l a q).2.1 (ror s l a q).2.2).2.2) else ffl s l f (tkc s l 59 (ror s l a q).2.1 (ror s l a q).2.2).2.1 (tkc s l 59 (ror s l a q).2.1 (ror s l a q).2.2).2.2
theorem ord7 (c : Int32) : c = 99 ∨ c = 97 ∨ c = 119 ∨ c = 114 ∨ c = 116 ∨ c = 111 ∨ (¬ c = 99 ∧ ¬ c = 97 ∧ ¬ c = 119 ∧ ¬ c = 114 ∧ ¬ c = 116 ∧ ¬ c = 111) := by
  by_cases h1 : c = 99
  · exact Or.inl h1
  by_cases h2 : c = 97
  · exact Or.inr (Or.inl h2)
  by_cases h3 : c = 119
  · exact Or.inr (Or.inr (Or.inl h3))
  by_cases h4 : c = 114
  · exact Or.inr (Or.inr (Or.inr (Or.inl h4)))
  by_cases h5 : c = 116
  · exact Or.inr (Or.inr (Or.inr (Or.inr (Or.inl h5))))
  by_cases h6 : c = 111
  · exact Or.inr (Or.inr (Or.inr (Or.inr (Or.inr (Or.inl h6)))))
  · exact Or.inr (Or.inr (Or.inr (Or.inr (Or.inr (Or.inr ⟨h1, h2, h3, h4, h5, h6⟩)))))
def okT (l : Nat) (t : Tq) : Prop := t.2.2 0 = nI t.2.1 ∧ t.2.1 ≤ l
theorem chA_lt {s : Nat → Int32} {l a : Nat} (h : ¬ chA s l a = 0) : a < l := by
  unfold chA at h
  by_cases g : a < l
  · exact g
  · rw [if_neg g] at h; exact absurd rfl h
theorem okT_u {l a : Nat} {r : Int32} {q : Nat → Int32} (h : a ≤ l) : okT l (r, a, upd q 0 (nI a)) := ⟨(upd_s : upd q 0 (nI a) 0 = nI a), h⟩
theorem okT_n {l a j : Nat} {r v : Int32} {q : Nat → Int32} (hj : (0 : Nat) ≠ j) (h0 : q 0 = nI a) (h : a ≤ l) : okT l (r, a, upd q j v) := ⟨((upd_n hj).trans h0 : upd q j v 0 = nI a), h⟩
theorem td_ok {s : Nat → Int32} {l a : Nat} {lo hi : Int32} {q : Nat → Int32} (hlo : (0 : Int32) < lo) (h0 : q 0 = nI a) (ha : a ≤ l) : okT l (td s l lo hi a q) := by
  unfold td
  by_cases g : chA s l a < lo ∨ ¬ chA s l a ≤ hi
  · rw [if_pos g]; exact ⟨h0, ha⟩
  · rw [if_neg g]
    have : a < l := chA_lt (s := s) (fun e => g (Or.inl (by rw [e]; exact hlo)))
    exact okT_u (by omega)
theorem tkc_ok {s : Nat → Int32} {l a : Nat} {c : Int32} {q : Nat → Int32} (hc : ¬ c = 0) (h0 : q 0 = nI a) (ha : a ≤ l) : okT l (tkc s l c a q) := by
  unfold tkc
  by_cases g : chA s l a = c
  · rw [if_pos g]
    have : a < l := chA_lt (s := s) (fun e => hc (by rw [← g, e]))
    exact okT_u (by omega)
  · rw [if_neg g]; exact ⟨h0, ha⟩
theorem rdg_ok {s : Nat → Int32} {l a : Nat} {lo hi : Int32} {q : Nat → Int32} (hlo : (0 : Int32) < lo) (h0 : q 0 = nI a) (ha : a ≤ l) : okT l (rdg s l lo hi a q) := by
  have h := td_ok (s := s) (hi := hi) hlo h0 ha
  unfold rdg
  by_cases g : (td s l lo hi a q).1 = 0
  · rw [if_pos g]; exact h
  · rw [if_neg g]; exact okT_n (by decide) h.1 h.2
theorem rnm_ok {s : Nat → Int32} {l a : Nat} {q : Nat → Int32} (h0 : q 0 = nI a) (ha : a ≤ l) : okT l (rnm s l a q) := by
  have h := rdg_ok (s := s) (lo := 48) (hi := 57) (by decide) h0 ha
  have h2 := td_ok (s := s) (lo := 48) (hi := 57) (by decide) h.1 h.2
  unfold rnm
  by_cases g : (rdg s l 48 57 a q).1 = 0
  · rw [if_pos g]; exact h
  · rw [if_neg g]
    by_cases g2 : (rdg s l 48 57 a q).2.2 3 ≤ 0
    · rw [if_pos g2]; exact h
    · rw [if_neg g2]
      unfold rnm2
      by_cases g3 : (td s l 48 57 (rdg s l 48 57 a q).2.1 (rdg s l 48 57 a q).2.2).1 = 0
      · rw [if_pos g3]; exact h2
      · rw [if_neg g3]; exact okT_n (by decide) h2.1 h2.2
theorem rcl_ok {s : Nat → Int32} {l : Nat} : ∀ (f a : Nat) (q : Nat → Int32), q 0 = nI a → a ≤ l → (rcl s l f a q).2 0 = nI (rcl s l f a q).1 ∧ (rcl s l f a q).1 ≤ l := by
  intro f
  induction f with
  | zero => intro a q h0 ha; exact ⟨h0, ha⟩
  | succ f ih =>
    intro a q h0 ha
    have h := td_ok (s := s) (lo := 48) (hi := 57) (by decide) h0 ha
    rw [rcl]
    by_cases g : (td s l 48 57 a q).1 = 0
    · rw [if_pos g]; exact h
    · rw [if_neg g]; exact ih _ _ (by rw [upd_n (by decide)]; exact h.1) h.2
theorem rcs_ok {s : Nat → Int32} {l a : Nat} {q : Nat → Int32} (h0 : q 0 = nI a) (ha : a ≤ l) : okT l (rcs s l a q) := by
  have h := tkc_ok (s := s) (c := 43) (q := upd q 5 0) (by decide) (by rw [upd_n (by decide)]; exact h0) ha
  unfold rcs
  by_cases g : (tkc s l 43 a (upd q 5 0)).1 = 0
  · rw [if_pos g]; exact h
  · rw [if_neg g]; exact rcl_ok 80 _ _ h.1 h.2
theorem rpp_ok {s : Nat → Int32} {l a : Nat} {q : Nat → Int32} (h0 : q 0 = nI a) (ha : a ≤ l) : okT l (rpp s l a q) := by
  have h := tkc_ok (s := s) (c := 47) (by decide) h0 ha
  have h2 := td_ok (s := s) (lo := 49) (hi := 57) (by decide) h.1 h.2
  unfold rpp
  by_cases g : (tkc s l 47 a q).1 = 0
  · rw [if_pos g]; exact h
  · rw [if_neg g]
    by_cases g2 : (td s l 49 57 (tkc s l 47 a q).2.1 (tkc s l 47 a q).2.2).1 = 0
    · rw [if_pos g2]; exact h2
    · rw [if_neg g2]; exact rcs_ok (by rw [upd_n (by decide)]; exact h2.1) h2.2
theorem thn_ok {l : Nat} {t u : Tq} (h : okT l t) (h2 : okT l u) : okT l (thn t u) := by
  unfold thn
  by_cases g : t.1 = 0
  · rw [if_pos g]; exact h
  · rw [if_neg g]; exact h2
theorem ror_ok {s : Nat → Int32} {l a : Nat} {q : Nat → Int32} (h0 : q 0 = nI a) (ha : a ≤ l) : okT l (ror s l a q) := by
  have hu : (upd (upd q 2 (chA s l a)) 0 (nI (a + 1))) 0 = nI (a + 1) := upd_s
  have hz : ∀ c : Int32, ¬ c = 0 → chA s l a = c → a + 1 ≤ l := fun c hc e => by
    have : a < l := chA_lt (s := s) (by rw [e]; exact hc)
    omega
  unfold ror
  by_cases g1 : chA s l a = 99
  · rw [if_pos g1]
    have h := rdg_ok (s := s) (lo := 48) (hi := 49) (by decide) hu (hz _ (by decide) g1)
    exact thn_ok h (rpp_ok h.1 h.2)
  rw [if_neg g1]
  by_cases g2 : chA s l a = 97
  · rw [if_pos g2]
    have h := rnm_ok (s := s) hu (hz _ (by decide) g2)
    exact thn_ok h (rpp_ok h.1 h.2)
  rw [if_neg g2]
  by_cases g3 : chA s l a = 119 ∨ chA s l a = 114 ∨ chA s l a = 116
  · rw [if_pos g3]
    refine rnm_ok hu ?_
    rcases g3 with g | g | g
    · exact hz _ (by decide) g
    · exact hz _ (by decide) g
    · exact hz _ (by decide) g
  rw [if_neg g3]
  by_cases g4 : chA s l a = 111
  · rw [if_pos g4]
    exact rdg_ok (by decide) hu (hz _ (by decide) g4)
  rw [if_neg g4]
  exact okT_n (by decide) h0 ha
theorem chA_c {M : Mm} {s : Nat → Int32} {l a : Nat} (h : RdOK M s l) : narrow .char (.int (chA s l a)) = .int (chA s l a) ∧ fits .char (.int (chA s l a)) = true := by
  unfold chA
  by_cases g : a < l
  · rw [if_pos g, ← h.1]; exact h.2.2.2 a g
  · rw [if_neg g]; exact ⟨rfl, rfl⟩
theorem dz_val {x : Int32} (h : x = 0 ∨ x = 1) : narrow .boolean (.int x) = .int x := nar_b h
theorem td_01 {s : Nat → Int32} {l a : Nat} {lo hi : Int32} {q : Nat → Int32} : (td s l lo hi a q).1 = 0 ∨ (td s l lo hi a q).1 = 1 := by unfold td; split; exact Or.inl rfl; exact Or.inr rfl
theorem rdg_01 {s : Nat → Int32} {l a : Nat} {lo hi : Int32} {q : Nat → Int32} : (rdg s l lo hi a q).1 = 0 ∨ (rdg s l lo hi a q).1 = 1 := by unfold rdg; split; exact Or.inl rfl; exact Or.inr rfl
theorem rnm_01 {s : Nat → Int32} {l a : Nat} {q : Nat → Int32} : (rnm s l a q).1 = 0 ∨ (rnm s l a q).1 = 1 := by
  unfold rnm
  split
  · exact Or.inl rfl
  split
  · exact Or.inr rfl
  unfold rnm2
  split
  · exact Or.inr rfl
  · exact Or.inr rfl
theorem rcs_01 {s : Nat → Int32} {l a : Nat} {q : Nat → Int32} : (rcs s l a q).1 = 0 ∨ (rcs s l a q).1 = 1 := by
  unfold rcs
  split
  · exact Or.inr rfl
  · show (if _ then (0 : Int32) else 1) = 0 ∨ (if _ then (0 : Int32) else 1) = 1
    split
    · exact Or.inl rfl
    · exact Or.inr rfl
theorem rpp_01 {s : Nat → Int32} {l a : Nat} {q : Nat → Int32} : (rpp s l a q).1 = 0 ∨ (rpp s l a q).1 = 1 := by
  unfold rpp
  split
  · exact Or.inl rfl
  split
  · exact Or.inl rfl
  · exact rcs_01
end
section
theorem f_sa {Y : Yt} {M : Mm} {s q : Nat → Int32} {l a : Nat} (h : RdOK M s l) (ha : a ≤ l) : Fn Y yX3_signAt wsX3_signAt { frames := 0, cells := 0, slots := 0, locals := 0 } [.ref (Y.2.2.2 30), .int (nI a)] (mrow M 32 q) (some (.int (chA s l a))) (mrow M 32 q) := by
  have h2 := h.row (q := q)
  have h3 := f_signAt (Y := Y) (M := mrow M 32 q) (a := a) (by have := h.2.2.1; omega) h2.2.2.1 h2.2.1 h2.2.2.2
  rw [h2.1] at h3
  exact h3
set_option maxRecDepth 100000 in
set_option maxHeartbeats 4000000 in
theorem f_td {Y : Yt} {M : Mm} {lo hi : Int32} {s q : Nat → Int32} {l a : Nat} (h : RdOK M s l) (h0 : q 0 = nI a) (ha : a ≤ l) : Fn Y yX5_takeDigit wsX5_takeDigit { frames := 1, cells := 0, slots := 0, locals := 21 } [.ref (Y.2.2.2 32), .ref (Y.2.2.2 30), .int lo, .int hi] (mrow M 32 q) (some (.int (td s l lo hi a q).1)) ((mrow M 32 (td s l lo hi a q).2.2)) := by
  refine Fn.of (cc := cX5_takeDigit) (ins := iX5_takeDigit) (maxL := 5) (ret := (some .boolean)) (by decide) dX5_takeDigit [some (.ref (Y.2.2.2 32)), some (.ref (Y.2.2.2 30)), some (.int lo), some (.int hi), none] (Nat.le_of_ble_eq_true rfl) rfl rfl ?_
  intro X hX hQ
  refine v_aload_n hX 1 0 rfl rfl rfl ?_
  refine v_aload_n hX 0 1 rfl rfl rfl ?_
  refine g_5_0 hX 2  tw_218 rfl ?_
  rw [mrow_s]
  rw [h0]
  refine v_callVN hX 1 (by decide) rfl rfl (f_sa h ha) tw_583 (List.mem_of_getElem? (i := 48) rfl) tw_96 tw_582 tw_43 (by decide +kernel) ⟨⟨rfl, rfl⟩, Nat.le_of_ble_eq_true rfl, Nat.le_of_ble_eq_true rfl⟩ rfl (Nat.le_of_ble_eq_true rfl) rfl rfl 3 rfl ?_
  refine v_istore hX 4 rfl (Nat.le_of_ble_eq_true rfl) rfl ?_
  refine v_iload hX 5 rfl rfl ?_
  refine v_iload_n hX 2 6 rfl rfl rfl ?_
  refine v_icmp_lt hX (tgt := 22) 7 rfl (by decide) (fun c13 => ?_) (fun c13 => ?_)
  · skip
    refine v_iconst hX (v := 0) 11 rfl (by decide) ?_
    refine v_iret hX hQ rfl rfl ?_ ?_ 12 rfl
    · unfold td; first | rw [if_pos (Or.inl c13)] | rw [if_pos (Or.inr c19)]
    · unfold td; first | rw [if_pos (Or.inl c13)] | rw [if_pos (Or.inr c19)]
  · skip
    refine v_iload hX 8 rfl rfl ?_
    refine v_iload_n hX 3 9 rfl rfl rfl ?_
    refine v_icmp_le hX (tgt := 24) 10 rfl (by decide) (fun c19 => ?_) (fun c19 => ?_)
    · skip
      refine v_aload_n hX 0 13 rfl rfl rfl ?_
      refine v_iload hX 14 rfl rfl ?_
      refine v_bipush hX (v := 48) 15 rfl (by decide) ?_
      refine v_isub hX 16 rfl ?_
      refine p_5_1 hX 17   tw_219 rfl ?_
      refine V.mem mset_mrow ?_
      refine v_aload_n hX 0 18 rfl rfl rfl ?_
      refine v_dup hX 19 rfl rfl ?_
      refine g_5_0 hX 20  tw_218 rfl ?_
      rw [mrow_s]
      refine v_iconst hX (v := 1) 21 rfl (by decide) ?_
      refine v_iadd hX 22 rfl ?_
      refine p_5_0 hX 23   tw_218 rfl ?_
      refine V.mem mset_mrow ?_
      refine v_iconst hX (v := 1) 24 rfl (by decide) ?_
      refine v_iret hX hQ rfl rfl ?_ ?_ 25 rfl
      · unfold td; rw [if_neg (fun g => g.elim c13 (fun g => g c19))]
      · unfold td; rw [if_neg (fun g => g.elim c13 (fun g => g c19))]; show mrow M 32 (upd (upd q 1 _) 0 _) = _; rw [upd_n (show (0 : Nat) ≠ 1 by decide), h0, nI_1]
    · skip
      refine v_iconst hX (v := 0) 11 rfl (by decide) ?_
      refine v_iret hX hQ rfl rfl ?_ ?_ 12 rfl
      · unfold td; first | rw [if_pos (Or.inl c13)] | rw [if_pos (Or.inr c19)]
      · unfold td; first | rw [if_pos (Or.inl c13)] | rw [if_pos (Or.inr c19)]
set_option maxRecDepth 100000 in
set_option maxHeartbeats 4000000 in
theorem f_tk {Y : Yt} {M : Mm} {c : Int32} {s q : Nat → Int32} {l a : Nat} (h : RdOK M s l) (h0 : q 0 = nI a) (ha : a ≤ l) : Fn Y yX5_take wsX5_take { frames := 1, cells := 0, slots := 0, locals := 21 } [.ref (Y.2.2.2 32), .ref (Y.2.2.2 30), .int c] (mrow M 32 q) (some (.int (tkc s l c a q).1)) ((mrow M 32 (tkc s l c a q).2.2)) := by
  refine Fn.of (cc := cX5_take) (ins := iX5_take) (maxL := 3) (ret := (some .boolean)) (by decide) dX5_take [some (.ref (Y.2.2.2 32)), some (.ref (Y.2.2.2 30)), some (.int c)] (Nat.le_of_ble_eq_true rfl) rfl rfl ?_
  intro X hX hQ
  refine v_aload_n hX 1 0 rfl rfl rfl ?_
  refine v_aload_n hX 0 1 rfl rfl rfl ?_
  refine g_5_0 hX 2  tw_218 rfl ?_
  rw [mrow_s]
  rw [h0]
  refine v_callVN hX 1 (by decide) rfl rfl (f_sa h ha) tw_583 (List.mem_of_getElem? (i := 48) rfl) tw_96 tw_582 tw_43 (by decide +kernel) ⟨⟨rfl, rfl⟩, Nat.le_of_ble_eq_true rfl, Nat.le_of_ble_eq_true rfl⟩ rfl (Nat.le_of_ble_eq_true rfl) rfl rfl 3 rfl ?_
  refine v_iload_n hX 2 4 rfl rfl rfl ?_
  refine v_icmp_eq hX (tgt := 14) 5 rfl (by decide) (fun c9 => ?_) (fun c9 => ?_)
  · skip
    refine v_aload_n hX 0 8 rfl rfl rfl ?_
    refine v_dup hX 9 rfl rfl ?_
    refine g_5_0 hX 10  tw_218 rfl ?_
    rw [mrow_s]
    refine v_iconst hX (v := 1) 11 rfl (by decide) ?_
    refine v_iadd hX 12 rfl ?_
    refine p_5_0 hX 13   tw_218 rfl ?_
    refine V.mem mset_mrow ?_
    refine v_iconst hX (v := 1) 14 rfl (by decide) ?_
    refine v_iret hX hQ rfl rfl ?_ ?_ 15 rfl
    · unfold tkc; rw [if_pos c9]
    · unfold tkc; rw [if_pos c9, h0, nI_1]
  · skip
    refine v_iconst hX (v := 0) 6 rfl (by decide) ?_
    refine v_iret hX hQ rfl rfl ?_ ?_ 7 rfl
    · unfold tkc; rw [if_neg c9]
    · unfold tkc; rw [if_neg c9]
set_option maxRecDepth 100000 in
set_option maxHeartbeats 4000000 in
theorem f_rdg {Y : Yt} {M : Mm} {lo hi : Int32} {s q : Nat → Int32} {l a : Nat} (h : RdOK M s l) (h0 : q 0 = nI a) (ha : a ≤ l) : Fn Y yX5_readDigit wsX5_readDigit { frames := 2, cells := 0, slots := 0, locals := 45 } [.ref (Y.2.2.2 32), .ref (Y.2.2.2 30), .int lo, .int hi] (mrow M 32 q) (some (.int (rdg s l lo hi a q).1)) ((mrow M 32 (rdg s l lo hi a q).2.2)) := by
  refine Fn.of (cc := cX5_readDigit) (ins := iX5_readDigit) (maxL := 4) (ret := (some .boolean)) (by decide) dX5_readDigit [some (.ref (Y.2.2.2 32)), some (.ref (Y.2.2.2 30)), some (.int lo), some (.int hi)] (Nat.le_of_ble_eq_true rfl) rfl rfl ?_
  intro X hX hQ
  refine v_aload_n hX 0 0 rfl rfl rfl ?_
  refine v_aload_n hX 1 1 rfl rfl rfl ?_
  refine v_iload_n hX 2 2 rfl rfl rfl ?_
  refine v_iload_n hX 3 3 rfl rfl rfl ?_
  refine v_callV hX 3 (by decide) rfl rfl (f_td h h0 ha) tw_591 tw_588 tw_590 tw_45 tw_97 (by decide +kernel) ⟨⟨rfl, rfl⟩, Nat.le_of_ble_eq_true rfl, Nat.le_of_ble_eq_true rfl⟩ rfl (Nat.le_of_ble_eq_true rfl) rfl rfl 4 rfl ?_
  refine v_if_ne hX (tgt := 12) 5 rfl (by decide) (fun c7 => ?_) (fun c7 => ?_)
  · skip
    refine v_aload_n hX 0 8 rfl rfl rfl ?_
    refine v_aload_n hX 0 9 rfl rfl rfl ?_
    refine g_5_1 hX 10  tw_219 rfl ?_
    rw [mrow_s]
    refine p_5_3 hX 11   tw_222 rfl ?_
    refine V.mem mset_mrow ?_
    refine v_iconst hX (v := 1) 12 rfl (by decide) ?_
    refine v_iret hX hQ rfl rfl ?_ ?_ 13 rfl
    · unfold rdg; rw [if_neg c7]
    · unfold rdg; rw [if_neg c7]
  · skip
    refine v_iconst hX (v := 0) 6 rfl (by decide) ?_
    refine v_iret hX hQ rfl rfl ?_ ?_ 7 rfl
    · unfold rdg; rw [if_pos c7]
    · unfold rdg; rw [if_pos c7]
set_option maxRecDepth 100000 in
set_option maxHeartbeats 4000000 in
theorem f_rnm {Y : Yt} {M : Mm} {s q : Nat → Int32} {l a : Nat} (h : RdOK M s l) (h0 : q 0 = nI a) (ha : a ≤ l) : Fn Y yX5_readNumber wsX5_readNumber { frames := 3, cells := 0, slots := 0, locals := 68 } [.ref (Y.2.2.2 32), .ref (Y.2.2.2 30)] (mrow M 32 q) (some (.int (rnm s l a q).1)) ((mrow M 32 (rnm s l a q).2.2)) := by
  refine Fn.of (cc := cX5_readNumber) (ins := iX5_readNumber) (maxL := 2) (ret := (some .boolean)) (by decide) dX5_readNumber [some (.ref (Y.2.2.2 32)), some (.ref (Y.2.2.2 30))] (Nat.le_of_ble_eq_true rfl) rfl rfl ?_
  intro X hX hQ
  refine v_aload_n hX 0 0 rfl rfl rfl ?_
  refine v_aload_n hX 1 1 rfl rfl rfl ?_
  refine v_bipush hX (v := 48) 2 rfl (by decide) ?_
  refine v_bipush hX (v := 57) 3 rfl (by decide) ?_
  refine v_callV hX 3 (by decide) rfl rfl (f_rdg h h0 ha) tw_587 tw_584 tw_586 tw_44 tw_97 (by decide +kernel) ⟨⟨rfl, rfl⟩, Nat.le_of_ble_eq_true rfl, Nat.le_of_ble_eq_true rfl⟩ rfl (Nat.le_of_ble_eq_true rfl) rfl rfl 4 rfl ?_
  have hk := rdg_ok (s := s) (lo := 48) (hi := 57) (by decide) h0 ha
  refine v_if_ne hX (tgt := 14) 5 rfl (by decide) (fun c9 => ?_) (fun c9 => ?_)
  · skip
    refine v_aload_n hX 0 8 rfl rfl rfl ?_
    refine g_5_3 hX 9  tw_222 rfl ?_
    rw [mrow_s]
    refine v_if_le hX (tgt := 49) 10 rfl (by decide) (fun c18 => ?_) (fun c18 => ?_)
    · skip
      refine v_iconst hX (v := 1) 26 rfl (by decide) ?_
      refine v_iret hX hQ rfl rfl ?_ ?_ 27 rfl
      · unfold rnm; first | (rw [if_neg c9, if_pos c18]; done) | (unfold rnm2; rw [if_neg c9, if_neg c18, if_pos c30]; done) | (unfold rnm2; rw [if_neg c9, if_neg c18, if_neg c30])
      · unfold rnm; first | (rw [if_neg c9, if_pos c18]; done) | (unfold rnm2; rw [if_neg c9, if_neg c18, if_pos c30]; done) | (unfold rnm2; rw [if_neg c9, if_neg c18, if_neg c30])
    · skip
      refine v_aload_n hX 0 11 rfl rfl rfl ?_
      refine v_aload_n hX 1 12 rfl rfl rfl ?_
      refine v_bipush hX (v := 48) 13 rfl (by decide) ?_
      refine v_bipush hX (v := 57) 14 rfl (by decide) ?_
      refine v_callV hX 3 (by decide) rfl rfl (f_td h hk.1 hk.2) tw_591 tw_588 tw_590 tw_45 tw_97 (by decide +kernel) ⟨⟨rfl, rfl⟩, Nat.le_of_ble_eq_true rfl, Nat.le_of_ble_eq_true rfl⟩ rfl (Nat.le_of_ble_eq_true rfl) rfl rfl 15 rfl ?_
      refine v_if_eq hX (tgt := 49) 16 rfl (by decide) (fun c30 => ?_) (fun c30 => ?_)
      · skip
        refine v_iconst hX (v := 1) 26 rfl (by decide) ?_
        refine v_iret hX hQ rfl rfl ?_ ?_ 27 rfl
        · unfold rnm; first | (rw [if_neg c9, if_pos c18]; done) | (unfold rnm2; rw [if_neg c9, if_neg c18, if_pos c30]; done) | (unfold rnm2; rw [if_neg c9, if_neg c18, if_neg c30])
        · unfold rnm; first | (rw [if_neg c9, if_pos c18]; done) | (unfold rnm2; rw [if_neg c9, if_neg c18, if_pos c30]; done) | (unfold rnm2; rw [if_neg c9, if_neg c18, if_neg c30])
      · skip
        refine v_aload_n hX 0 17 rfl rfl rfl ?_
        refine v_bipush hX (v := 10) 18 rfl (by decide) ?_
        refine v_aload_n hX 0 19 rfl rfl rfl ?_
        refine g_5_3 hX 20  tw_222 rfl ?_
        rw [mrow_s]
        refine v_imul hX 21 rfl ?_
        refine v_aload_n hX 0 22 rfl rfl rfl ?_
        refine g_5_1 hX 23  tw_219 rfl ?_
        rw [mrow_s]
        refine v_iadd hX 24 rfl ?_
        refine p_5_3 hX 25   tw_222 rfl ?_
        refine V.mem mset_mrow ?_
        refine v_iconst hX (v := 1) 26 rfl (by decide) ?_
        refine v_iret hX hQ rfl rfl ?_ ?_ 27 rfl
        · unfold rnm; first | (rw [if_neg c9, if_pos c18]; done) | (unfold rnm2; rw [if_neg c9, if_neg c18, if_pos c30]; done) | (unfold rnm2; rw [if_neg c9, if_neg c18, if_neg c30])
        · unfold rnm; first | (rw [if_neg c9, if_pos c18]; done) | (unfold rnm2; rw [if_neg c9, if_neg c18, if_pos c30]; done) | (unfold rnm2; rw [if_neg c9, if_neg c18, if_neg c30])
  · skip
    refine v_iconst hX (v := 0) 6 rfl (by decide) ?_
    refine v_iret hX hQ rfl rfl ?_ ?_ 7 rfl
    · unfold rnm; rw [if_pos c9]
    · unfold rnm; rw [if_pos c9]
set_option maxRecDepth 100000 in
set_option maxHeartbeats 4000000 in
theorem f_rcs {Y : Yt} {M : Mm} {s q : Nat → Int32} {l a : Nat} (h : RdOK M s l) (h0 : q 0 = nI a) (ha : a ≤ l) : Fn Y yX5_readCites wsX5_readCites { frames := 2, cells := 0, slots := 0, locals := 45 } [.ref (Y.2.2.2 32), .ref (Y.2.2.2 30)] (mrow M 32 q) (some (.int (rcs s l a q).1)) ((mrow M 32 (rcs s l a q).2.2)) := by
  refine Fn.of (cc := cX5_readCites) (ins := iX5_readCites) (maxL := 3) (ret := (some .boolean)) (by decide) dX5_readCites [some (.ref (Y.2.2.2 32)), some (.ref (Y.2.2.2 30)), none] (Nat.le_of_ble_eq_true rfl) rfl rfl ?_
  intro X hX hQ
  refine v_aload_n hX 0 0 rfl rfl rfl ?_
  refine v_iconst hX (v := 0) 1 rfl (by decide) ?_
  refine p_5_5 hX 2   tw_226 rfl ?_
  refine V.mem mset_mrow ?_
  refine v_aload_n hX 0 3 rfl rfl rfl ?_
  refine v_aload_n hX 1 4 rfl rfl rfl ?_
  refine v_bipush hX (v := 43) 5 rfl (by decide) ?_
  refine v_callV hX 2 (by decide) rfl rfl (f_tk h (show (upd q 5 0) 0 = nI a by rw [upd_n (by decide)]; exact h0) ha) tw_599 tw_596 tw_598 tw_47 tw_97 (by decide +kernel) ⟨⟨rfl, rfl⟩, Nat.le_of_ble_eq_true rfl, Nat.le_of_ble_eq_true rfl⟩ rfl (Nat.le_of_ble_eq_true rfl) rfl rfl 6 rfl ?_
  have hk := tkc_ok (s := s) (c := 43) (q := upd q 5 0) (by decide) (show (upd q 5 0) 0 = nI a by rw [upd_n (by decide)]; exact h0) ha
  refine v_if_ne hX (tgt := 17) 7 rfl (by decide) (fun c12 => ?_) (fun c12 => ?_)
  · skip
    refine v_iconst hX (v := 0) 10 rfl (by decide) ?_
    refine v_istore_n hX 2 11 rfl rfl (Nat.le_of_ble_eq_true rfl) rfl ?_
    have lp : ∀ (k : Nat), k ≤ 80 → ∀ (p : Nat) (w : Nat → Int32), w 0 = nI p → p ≤ l → rcl s l (80 - k) p w = rcl s l 80 (tkc s l 43 a (upd q 5 0)).2.1 (tkc s l 43 a (upd q 5 0)).2.2 → V Y X (mrow M 32 w) 19 [some (.ref (Y.2.2.2 32)), some (.ref (Y.2.2.2 30)), some (.int (nI k))] [] := by
      refine upTo 80 (fun k hk ih => ?_)
      intro p w hw0 hp he
      refine v_iload_n hX 2 12 rfl rfl rfl ?_
      refine v_bipush hX (v := 80) 13 rfl (by decide) ?_
      refine v_icmp_ge hX (tgt := 58) 14 rfl (by decide) (fun c22 => ?_) (fun c22 => ?_)
      · skip
        have hk2 : k = 80 := by have := of_le (a := 80) c22 (by omega) (by omega); omega
        subst hk2
        have he2 : (p, w) = rcl s l 80 (tkc s l 43 a (upd q 5 0)).2.1 (tkc s l 43 a (upd q 5 0)).2.2 := he
        refine v_aload_n hX 0 32 rfl rfl rfl ?_
        refine g_5_5 hX 33  tw_226 rfl ?_
        rw [mrow_s]
        refine v_if_eq hX (tgt := 69) 34 rfl (by decide) (fun c62 => ?_) (fun c62 => ?_)
        · skip
          refine v_iconst hX (v := 0) 37 rfl (by decide) ?_
          refine v_iret hX hQ rfl (by first | rfl) ?_ ?_ 38 rfl
          · unfold rcs; rw [if_neg c12]; first | (rw [← he2]; simp only [c12, c22, c62, if_true, if_false]; done) | (rw [← he]; simp only [c12, c22, c62, if_true, if_false]; done)
          · unfold rcs; rw [if_neg c12]; first | (rw [← he2]; done) | (rw [← he])
        · skip
          refine v_iconst hX (v := 1) 35 rfl (by decide) ?_
          refine v_goto hX (tgt := 70) 36 rfl (by decide) ?_
          refine v_iret hX hQ rfl (by first | rfl) ?_ ?_ 38 rfl
          · unfold rcs; rw [if_neg c12]; first | (rw [← he2]; simp only [c12, c22, c62, if_true, if_false]; done) | (rw [← he]; simp only [c12, c22, c62, if_true, if_false]; done)
          · unfold rcs; rw [if_neg c12]; first | (rw [← he2]; done) | (rw [← he])
      · skip
        have hk2 : k < 80 := of_nle (a := 80) c22 (by omega) (by omega)
        obtain ⟨f, hf⟩ : ∃ f, 80 - k = f + 1 := ⟨79 - k, by omega⟩
        rw [hf, rcl] at he
        refine v_aload_n hX 0 15 rfl rfl rfl ?_
        refine v_aload_n hX 1 16 rfl rfl rfl ?_
        refine v_bipush hX (v := 48) 17 rfl (by decide) ?_
        refine v_bipush hX (v := 57) 18 rfl (by decide) ?_
        refine v_callV hX 3 (by decide) rfl rfl (f_td h hw0 hp) tw_591 tw_588 tw_590 tw_45 tw_97 (by decide +kernel) ⟨⟨rfl, rfl⟩, Nat.le_of_ble_eq_true rfl, Nat.le_of_ble_eq_true rfl⟩ rfl (Nat.le_of_ble_eq_true rfl) rfl rfl 19 rfl ?_
        refine v_if_eq hX (tgt := 58) 20 rfl (by decide) (fun c34 => ?_) (fun c34 => ?_)
        · skip
          rw [if_pos c34] at he
          refine v_aload_n hX 0 32 rfl rfl rfl ?_
          refine g_5_5 hX 33  tw_226 rfl ?_
          rw [mrow_s]
          refine v_if_eq hX (tgt := 69) 34 rfl (by decide) (fun c62 => ?_) (fun c62 => ?_)
          · skip
            refine v_iconst hX (v := 0) 37 rfl (by decide) ?_
            refine v_iret hX hQ rfl (by first | rfl) ?_ ?_ 38 rfl
            · unfold rcs; rw [if_neg c12]; first | (rw [← he2]; simp only [c12, c22, c34, c62, if_true, if_false]; done) | (rw [← he]; simp only [c12, c22, c34, c62, if_true, if_false]; done)
            · unfold rcs; rw [if_neg c12]; first | (rw [← he2]; done) | (rw [← he])
          · skip
            refine v_iconst hX (v := 1) 35 rfl (by decide) ?_
            refine v_goto hX (tgt := 70) 36 rfl (by decide) ?_
            refine v_iret hX hQ rfl (by first | rfl) ?_ ?_ 38 rfl
            · unfold rcs; rw [if_neg c12]; first | (rw [← he2]; simp only [c12, c22, c34, c62, if_true, if_false]; done) | (rw [← he]; simp only [c12, c22, c34, c62, if_true, if_false]; done)
            · unfold rcs; rw [if_neg c12]; first | (rw [← he2]; done) | (rw [← he])
        · skip
          rw [if_neg c34] at he
          have hd := td_ok (s := s) (lo := 48) (hi := 57) (by decide) hw0 hp
          refine v_aload_n hX 0 21 rfl rfl rfl ?_
          refine v_dup hX 22 rfl rfl ?_
          refine g_5_5 hX 23  tw_226 rfl ?_
          rw [mrow_s]
          refine v_iconst hX (v := 1) 24 rfl (by decide) ?_
          refine v_aload_n hX 0 25 rfl rfl rfl ?_
          refine g_5_1 hX 26  tw_219 rfl ?_
          rw [mrow_s]
          refine v_ishl hX 27 rfl ?_
          refine v_ior hX 28 rfl ?_
          refine p_5_5 hX 29   tw_226 rfl ?_
          refine V.mem mset_mrow ?_
          refine v_iinc hX 30 rfl rfl (nI_inc k) (Nat.le_of_ble_eq_true rfl) rfl ?_
          refine v_goto hX (tgt := 19) 31 rfl (by decide) ?_
          exact V.sub (ih hk2 _ _ (by rw [upd_n (by decide)]; exact hd.1) hd.2 (by rw [show 80 - (k + 1) = f by omega]; exact he)) rfl ⟨rfl, rfl, rfl, trivial⟩
    exact V.sub (lp 0 (Nat.zero_le _) _ _ hk.1 hk.2 rfl) rfl ⟨rfl, rfl, rfl, trivial⟩
  · skip
    refine v_iconst hX (v := 1) 8 rfl (by decide) ?_
    refine v_iret hX hQ rfl rfl ?_ ?_ 9 rfl
    · unfold rcs; rw [if_pos c12]
    · unfold rcs; rw [if_pos c12]
set_option maxRecDepth 100000 in
set_option maxHeartbeats 4000000 in
theorem f_rpp {Y : Yt} {M : Mm} {s q : Nat → Int32} {l a : Nat} (h : RdOK M s l) (h0 : q 0 = nI a) (ha : a ≤ l) : Fn Y yX5_readPaper wsX5_readPaper { frames := 3, cells := 0, slots := 0, locals := 67 } [.ref (Y.2.2.2 32), .ref (Y.2.2.2 30)] (mrow M 32 q) (some (.int (rpp s l a q).1)) ((mrow M 32 (rpp s l a q).2.2)) := by
  refine Fn.of (cc := cX5_readPaper) (ins := iX5_readPaper) (maxL := 2) (ret := (some .boolean)) (by decide) dX5_readPaper [some (.ref (Y.2.2.2 32)), some (.ref (Y.2.2.2 30))] (Nat.le_of_ble_eq_true rfl) rfl rfl ?_
  intro X hX hQ
  refine v_aload_n hX 0 0 rfl rfl rfl ?_
  refine v_aload_n hX 1 1 rfl rfl rfl ?_
  refine v_bipush hX (v := 47) 2 rfl (by decide) ?_
  refine v_callV hX 2 (by decide) rfl rfl (f_tk h h0 ha) tw_599 tw_596 tw_598 tw_47 tw_97 (by decide +kernel) ⟨⟨rfl, rfl⟩, Nat.le_of_ble_eq_true rfl, Nat.le_of_ble_eq_true rfl⟩ rfl (Nat.le_of_ble_eq_true rfl) rfl rfl 3 rfl ?_
  have hk := tkc_ok (s := s) (c := 47) (by decide) h0 ha
  refine v_if_eq hX (tgt := 22) 4 rfl (by decide) (fun c7 => ?_) (fun c7 => ?_)
  · skip
    refine v_iconst hX (v := 0) 11 rfl (by decide) ?_
    refine v_iret hX hQ rfl rfl ?_ ?_ 12 rfl
    · unfold rpp; first | (rw [if_pos c7]; done) | rw [if_neg c7, if_pos c19]
    · unfold rpp; first | (rw [if_pos c7]; done) | rw [if_neg c7, if_pos c19]
  · skip
    refine v_aload_n hX 0 5 rfl rfl rfl ?_
    refine v_aload_n hX 1 6 rfl rfl rfl ?_
    refine v_bipush hX (v := 49) 7 rfl (by decide) ?_
    refine v_bipush hX (v := 57) 8 rfl (by decide) ?_
    refine v_callV hX 3 (by decide) rfl rfl (f_td h hk.1 hk.2) tw_591 tw_588 tw_590 tw_45 tw_97 (by decide +kernel) ⟨⟨rfl, rfl⟩, Nat.le_of_ble_eq_true rfl, Nat.le_of_ble_eq_true rfl⟩ rfl (Nat.le_of_ble_eq_true rfl) rfl rfl 9 rfl ?_
    have hk2 := td_ok (s := s) (lo := 49) (hi := 57) (by decide) hk.1 hk.2
    refine v_if_ne hX (tgt := 24) 10 rfl (by decide) (fun c19 => ?_) (fun c19 => ?_)
    · skip
      refine v_aload_n hX 0 13 rfl rfl rfl ?_
      refine v_aload_n hX 0 14 rfl rfl rfl ?_
      refine g_5_1 hX 15  tw_219 rfl ?_
      rw [mrow_s]
      refine p_5_4 hX 16   tw_224 rfl ?_
      refine V.mem mset_mrow ?_
      refine v_aload_n hX 0 17 rfl rfl rfl ?_
      refine v_aload_n hX 1 18 rfl rfl rfl ?_
      refine v_callV hX 1 (by decide) rfl rfl (f_rcs h (by rw [upd_n (by decide)]; exact hk2.1) hk2.2) tw_603 tw_600 tw_602 tw_48 tw_97 (by decide +kernel) ⟨⟨rfl, rfl⟩, Nat.le_of_ble_eq_true rfl, Nat.le_of_ble_eq_true rfl⟩ rfl (Nat.le_of_ble_eq_true rfl) rfl rfl 19 rfl ?_
      refine v_iret hX hQ rfl (nar_b rcs_01) ?_ ?_ 20 rfl
      · unfold rpp; rw [if_neg c7, if_neg c19]
      · unfold rpp; rw [if_neg c7, if_neg c19]
    · skip
      refine v_iconst hX (v := 0) 11 rfl (by decide) ?_
      refine v_iret hX hQ rfl rfl ?_ ?_ 12 rfl
      · unfold rpp; first | (rw [if_pos c7]; done) | rw [if_neg c7, if_pos c19]
      · unfold rpp; first | (rw [if_pos c7]; done) | rw [if_neg c7, if_pos c19]
set_option maxRecDepth 100000 in
set_option maxHeartbeats 4000000 in
theorem f_ror {Y : Yt} {M : Mm} {s q : Nat → Int32} {l a : Nat} (h : RdOK M s l) (h0 : q 0 = nI a) (ha : a ≤ l) : Fn Y yX5_readOrder wsX5_readOrder { frames := 4, cells := 0, slots := 0, locals := 89 } [.ref (Y.2.2.2 32), .ref (Y.2.2.2 30)] (mrow M 32 q) (some (.int (ror s l a q).1)) ((mrow M 32 (ror s l a q).2.2)) := by
  refine Fn.of (cc := cX5_readOrder) (ins := iX5_readOrder) (maxL := 2) (ret := (some .boolean)) (by decide) dX5_readOrder [some (.ref (Y.2.2.2 32)), some (.ref (Y.2.2.2 30))] (Nat.le_of_ble_eq_true rfl) rfl rfl ?_
  intro X hX hQ
  refine v_aload_n hX 0 0 rfl rfl rfl ?_
  refine v_aload_n hX 1 1 rfl rfl rfl ?_
  refine v_aload_n hX 0 2 rfl rfl rfl ?_
  refine g_5_0 hX 3  tw_218 rfl ?_
  rw [mrow_s]
  rw [h0]
  refine v_callVN hX 1 (by decide) rfl rfl (f_sa h ha) tw_583 (List.mem_of_getElem? (i := 48) rfl) tw_96 tw_582 tw_43 (by decide +kernel) ⟨⟨rfl, rfl⟩, Nat.le_of_ble_eq_true rfl, Nat.le_of_ble_eq_true rfl⟩ rfl (Nat.le_of_ble_eq_true rfl) rfl rfl 4 rfl ?_
  refine p_5_2 hX 5  (chA_c h).1 (chA_c h).2 tw_220 rfl ?_
  refine V.mem mset_mrow ?_
  refine v_aload_n hX 0 6 rfl rfl rfl ?_
  refine g_5_2 hX 7  tw_220 rfl ?_
  rw [mrow_s, upd_s]
  rcases ord7 (chA s l a) with hc | hc | hc | hc | hc | hc | hc
  · skip
    have hl1 : a + 1 ≤ l := chA_lt (s := s) (show ¬ chA s l a = 0 by rw [hc]; decide)
    have hu : (upd (upd q 2 (chA s l a)) 0 (nI (a + 1))) 0 = nI (a + 1) := upd_s
    have hro : ror s l a q = thn (rdg s l 48 49 (a + 1) (upd (upd q 2 (chA s l a)) 0 (nI (a + 1)))) (rpp s l (rdg s l 48 49 (a + 1) (upd (upd q 2 (chA s l a)) 0 (nI (a + 1)))).2.1 (rdg s l 48 49 (a + 1) (upd (upd q 2 (chA s l a)) 0 (nI (a + 1)))).2.2) := by unfold ror; rw [if_pos hc]
    refine v_lookup hX (off := 60) (tgt := 76) 8 rfl (by decide) (by rw [hc]; decide) (by decide) ?_
    refine v_aload_n hX 0 9 rfl rfl rfl ?_
    refine v_dup hX 10 rfl rfl ?_
    refine g_5_0 hX 11  tw_218 rfl ?_
    rw [mrow_s]
    refine v_iconst hX (v := 1) 12 rfl (by decide) ?_
    refine v_iadd hX 13 rfl ?_
    refine p_5_0 hX 14   tw_218 rfl ?_
    refine V.mem mset_mrow ?_
    rw [upd_n (show (0 : Nat) ≠ 2 by decide), h0, nI_1]
    refine v_aload_n hX 0 15 rfl rfl rfl ?_
    refine v_aload_n hX 1 16 rfl rfl rfl ?_
    refine v_bipush hX (v := 48) 17 rfl (by decide) ?_
    refine v_bipush hX (v := 49) 18 rfl (by decide) ?_
    refine v_callV hX 3 (by decide) rfl rfl (f_rdg h hu hl1) tw_587 tw_584 tw_586 tw_44 tw_97 (by decide +kernel) ⟨⟨rfl, rfl⟩, Nat.le_of_ble_eq_true rfl, Nat.le_of_ble_eq_true rfl⟩ rfl (Nat.le_of_ble_eq_true rfl) rfl rfl 19 rfl ?_
    have hk := rdg_ok (s := s) (lo := 48) (hi := 49) (by decide) hu hl1
    refine v_if_eq hX (tgt := 110) 20 rfl (by decide) (fun c95 => ?_) (fun c95 => ?_)
    · skip
      refine v_iconst hX (v := 0) 27 rfl (by decide) ?_
      refine v_iret hX hQ rfl rfl ?_ ?_ 28 rfl
      · rw [hro]; unfold thn; first | (rw [if_pos c95]; done) | (rw [if_neg c95, if_pos c103]; done) | (rw [if_neg c95, if_neg c103])
      · rw [hro]; unfold thn; first | (rw [if_pos c95]; done) | (rw [if_neg c95]; done)
    · skip
      refine v_aload_n hX 0 21 rfl rfl rfl ?_
      refine v_aload_n hX 1 22 rfl rfl rfl ?_
      refine v_callV hX 1 (by decide) rfl rfl (f_rpp h hk.1 hk.2) tw_595 tw_592 tw_594 tw_46 tw_97 (by decide +kernel) ⟨⟨rfl, rfl⟩, Nat.le_of_ble_eq_true rfl, Nat.le_of_ble_eq_true rfl⟩ rfl (Nat.le_of_ble_eq_true rfl) rfl rfl 23 rfl ?_
      refine v_if_eq hX (tgt := 110) 24 rfl (by decide) (fun c103 => ?_) (fun c103 => ?_)
      · skip
        refine v_iconst hX (v := 0) 27 rfl (by decide) ?_
        refine v_iret hX hQ rfl rfl ?_ ?_ 28 rfl
        · rw [hro]; unfold thn; first | (rw [if_pos c95]; done) | (rw [if_neg c95, if_pos c103]; done) | (rw [if_neg c95, if_neg c103])
        · rw [hro]; unfold thn; first | (rw [if_pos c95]; done) | (rw [if_neg c95]; done)
      · skip
        refine v_iconst hX (v := 1) 25 rfl (by decide) ?_
        refine v_goto hX (tgt := 111) 26 rfl (by decide) ?_
        refine v_iret hX hQ rfl rfl ?_ ?_ 28 rfl
        · rw [hro]; unfold thn; first | (rw [if_pos c95]; done) | (rw [if_neg c95, if_pos c103]; done) | (rw [if_neg c95, if_neg c103])
        · rw [hro]; unfold thn; first | (rw [if_pos c95]; done) | (rw [if_neg c95]; done)
  · skip
    have hl1 : a + 1 ≤ l := chA_lt (s := s) (show ¬ chA s l a = 0 by rw [hc]; decide)
    have hu : (upd (upd q 2 (chA s l a)) 0 (nI (a + 1))) 0 = nI (a + 1) := upd_s
    have hro : ror s l a q = thn (rnm s l (a + 1) (upd (upd q 2 (chA s l a)) 0 (nI (a + 1)))) (rpp s l (rnm s l (a + 1) (upd (upd q 2 (chA s l a)) 0 (nI (a + 1)))).2.1 (rnm s l (a + 1) (upd (upd q 2 (chA s l a)) 0 (nI (a + 1)))).2.2) := by unfold ror; rw [if_neg (by rw [hc]; decide), if_pos hc]
    refine v_lookup hX (off := 96) (tgt := 112) 8 rfl (by decide) (by rw [hc]; decide) (by decide) ?_
    refine v_aload_n hX 0 29 rfl rfl rfl ?_
    refine v_dup hX 30 rfl rfl ?_
    refine g_5_0 hX 31  tw_218 rfl ?_
    rw [mrow_s]
    refine v_iconst hX (v := 1) 32 rfl (by decide) ?_
    refine v_iadd hX 33 rfl ?_
    refine p_5_0 hX 34   tw_218 rfl ?_
    refine V.mem mset_mrow ?_
    rw [upd_n (show (0 : Nat) ≠ 2 by decide), h0, nI_1]
    refine v_aload_n hX 0 35 rfl rfl rfl ?_
    refine v_aload_n hX 1 36 rfl rfl rfl ?_
    refine v_callV hX 1 (by decide) rfl rfl (f_rnm h hu hl1) tw_607 tw_604 tw_606 tw_49 tw_97 (by decide +kernel) ⟨⟨rfl, rfl⟩, Nat.le_of_ble_eq_true rfl, Nat.le_of_ble_eq_true rfl⟩ rfl (Nat.le_of_ble_eq_true rfl) rfl rfl 37 rfl ?_
    have hk := rnm_ok (s := s) hu hl1
    refine v_if_eq hX (tgt := 142) 38 rfl (by decide) (fun c127 => ?_) (fun c127 => ?_)
    · skip
      refine v_iconst hX (v := 0) 45 rfl (by decide) ?_
      refine v_iret hX hQ rfl rfl ?_ ?_ 46 rfl
      · rw [hro]; unfold thn; first | (rw [if_pos c127]; done) | (rw [if_neg c127, if_pos c135]; done) | (rw [if_neg c127, if_neg c135])
      · rw [hro]; unfold thn; first | (rw [if_pos c127]; done) | (rw [if_neg c127]; done)
    · skip
      refine v_aload_n hX 0 39 rfl rfl rfl ?_
      refine v_aload_n hX 1 40 rfl rfl rfl ?_
      refine v_callV hX 1 (by decide) rfl rfl (f_rpp h hk.1 hk.2) tw_595 tw_592 tw_594 tw_46 tw_97 (by decide +kernel) ⟨⟨rfl, rfl⟩, Nat.le_of_ble_eq_true rfl, Nat.le_of_ble_eq_true rfl⟩ rfl (Nat.le_of_ble_eq_true rfl) rfl rfl 41 rfl ?_
      refine v_if_eq hX (tgt := 142) 42 rfl (by decide) (fun c135 => ?_) (fun c135 => ?_)
      · skip
        refine v_iconst hX (v := 0) 45 rfl (by decide) ?_
        refine v_iret hX hQ rfl rfl ?_ ?_ 46 rfl
        · rw [hro]; unfold thn; first | (rw [if_pos c127]; done) | (rw [if_neg c127, if_pos c135]; done) | (rw [if_neg c127, if_neg c135])
        · rw [hro]; unfold thn; first | (rw [if_pos c127]; done) | (rw [if_neg c127]; done)
      · skip
        refine v_iconst hX (v := 1) 43 rfl (by decide) ?_
        refine v_goto hX (tgt := 143) 44 rfl (by decide) ?_
        refine v_iret hX hQ rfl rfl ?_ ?_ 46 rfl
        · rw [hro]; unfold thn; first | (rw [if_pos c127]; done) | (rw [if_neg c127, if_pos c135]; done) | (rw [if_neg c127, if_neg c135])
        · rw [hro]; unfold thn; first | (rw [if_pos c127]; done) | (rw [if_neg c127]; done)
  · skip
    have hl1 : a + 1 ≤ l := chA_lt (s := s) (show ¬ chA s l a = 0 by rw [hc]; decide)
    have hu : (upd (upd q 2 (chA s l a)) 0 (nI (a + 1))) 0 = nI (a + 1) := upd_s
    have hro : ror s l a q = rnm s l (a + 1) (upd (upd q 2 (chA s l a)) 0 (nI (a + 1))) := by unfold ror; rw [if_neg (by rw [hc]; decide), if_neg (by rw [hc]; decide), if_pos (Or.inl hc)]
    refine v_lookup hX (off := 128) (tgt := 144) 8 rfl (by decide) (by rw [hc]; decide) (by decide) ?_
    refine v_aload_n hX 0 47 rfl rfl rfl ?_
    refine v_dup hX 48 rfl rfl ?_
    refine g_5_0 hX 49  tw_218 rfl ?_
    rw [mrow_s]
    refine v_iconst hX (v := 1) 50 rfl (by decide) ?_
    refine v_iadd hX 51 rfl ?_
    refine p_5_0 hX 52   tw_218 rfl ?_
    refine V.mem mset_mrow ?_
    rw [upd_n (show (0 : Nat) ≠ 2 by decide), h0, nI_1]
    refine v_aload_n hX 0 53 rfl rfl rfl ?_
    refine v_aload_n hX 1 54 rfl rfl rfl ?_
    refine v_callV hX 1 (by decide) rfl rfl (f_rnm h hu hl1) tw_607 tw_604 tw_606 tw_49 tw_97 (by decide +kernel) ⟨⟨rfl, rfl⟩, Nat.le_of_ble_eq_true rfl, Nat.le_of_ble_eq_true rfl⟩ rfl (Nat.le_of_ble_eq_true rfl) rfl rfl 55 rfl ?_
    refine v_iret hX hQ rfl (nar_b rnm_01) ?_ ?_ 56 rfl
    · rw [hro]
    · rw [hro]
  · skip
    have hl1 : a + 1 ≤ l := chA_lt (s := s) (show ¬ chA s l a = 0 by rw [hc]; decide)
    have hu : (upd (upd q 2 (chA s l a)) 0 (nI (a + 1))) 0 = nI (a + 1) := upd_s
    have hro : ror s l a q = rnm s l (a + 1) (upd (upd q 2 (chA s l a)) 0 (nI (a + 1))) := by unfold ror; rw [if_neg (by rw [hc]; decide), if_neg (by rw [hc]; decide), if_pos (Or.inr (Or.inl hc))]
    refine v_lookup hX (off := 128) (tgt := 144) 8 rfl (by decide) (by rw [hc]; decide) (by decide) ?_
    refine v_aload_n hX 0 47 rfl rfl rfl ?_
    refine v_dup hX 48 rfl rfl ?_
    refine g_5_0 hX 49  tw_218 rfl ?_
    rw [mrow_s]
    refine v_iconst hX (v := 1) 50 rfl (by decide) ?_
    refine v_iadd hX 51 rfl ?_
    refine p_5_0 hX 52   tw_218 rfl ?_
    refine V.mem mset_mrow ?_
    rw [upd_n (show (0 : Nat) ≠ 2 by decide), h0, nI_1]
    refine v_aload_n hX 0 53 rfl rfl rfl ?_
    refine v_aload_n hX 1 54 rfl rfl rfl ?_
    refine v_callV hX 1 (by decide) rfl rfl (f_rnm h hu hl1) tw_607 tw_604 tw_606 tw_49 tw_97 (by decide +kernel) ⟨⟨rfl, rfl⟩, Nat.le_of_ble_eq_true rfl, Nat.le_of_ble_eq_true rfl⟩ rfl (Nat.le_of_ble_eq_true rfl) rfl rfl 55 rfl ?_
    refine v_iret hX hQ rfl (nar_b rnm_01) ?_ ?_ 56 rfl
    · rw [hro]
    · rw [hro]
  · skip
    have hl1 : a + 1 ≤ l := chA_lt (s := s) (show ¬ chA s l a = 0 by rw [hc]; decide)
    have hu : (upd (upd q 2 (chA s l a)) 0 (nI (a + 1))) 0 = nI (a + 1) := upd_s
    have hro : ror s l a q = rnm s l (a + 1) (upd (upd q 2 (chA s l a)) 0 (nI (a + 1))) := by unfold ror; rw [if_neg (by rw [hc]; decide), if_neg (by rw [hc]; decide), if_pos (Or.inr (Or.inr hc))]
    refine v_lookup hX (off := 128) (tgt := 144) 8 rfl (by decide) (by rw [hc]; decide) (by decide) ?_
    refine v_aload_n hX 0 47 rfl rfl rfl ?_
    refine v_dup hX 48 rfl rfl ?_
    refine g_5_0 hX 49  tw_218 rfl ?_
    rw [mrow_s]
    refine v_iconst hX (v := 1) 50 rfl (by decide) ?_
    refine v_iadd hX 51 rfl ?_
    refine p_5_0 hX 52   tw_218 rfl ?_
    refine V.mem mset_mrow ?_
    rw [upd_n (show (0 : Nat) ≠ 2 by decide), h0, nI_1]
    refine v_aload_n hX 0 53 rfl rfl rfl ?_
    refine v_aload_n hX 1 54 rfl rfl rfl ?_
    refine v_callV hX 1 (by decide) rfl rfl (f_rnm h hu hl1) tw_607 tw_604 tw_606 tw_49 tw_97 (by decide +kernel) ⟨⟨rfl, rfl⟩, Nat.le_of_ble_eq_true rfl, Nat.le_of_ble_eq_true rfl⟩ rfl (Nat.le_of_ble_eq_true rfl) rfl rfl 55 rfl ?_
    refine v_iret hX hQ rfl (nar_b rnm_01) ?_ ?_ 56 rfl
    · rw [hro]
    · rw [hro]
  · skip
    have hl1 : a + 1 ≤ l := chA_lt (s := s) (show ¬ chA s l a = 0 by rw [hc]; decide)
    have hu : (upd (upd q 2 (chA s l a)) 0 (nI (a + 1))) 0 = nI (a + 1) := upd_s
    have hro : ror s l a q = rdg s l 48 57 (a + 1) (upd (upd q 2 (chA s l a)) 0 (nI (a + 1))) := by unfold ror; rw [if_neg (by rw [hc]; decide), if_neg (by rw [hc]; decide), if_neg (by rw [hc]; decide), if_pos hc]
    refine v_lookup hX (off := 144) (tgt := 160) 8 rfl (by decide) (by rw [hc]; decide) (by decide) ?_
    refine v_aload_n hX 0 57 rfl rfl rfl ?_
    refine v_dup hX 58 rfl rfl ?_
    refine g_5_0 hX 59  tw_218 rfl ?_
    rw [mrow_s]
    refine v_iconst hX (v := 1) 60 rfl (by decide) ?_
    refine v_iadd hX 61 rfl ?_
    refine p_5_0 hX 62   tw_218 rfl ?_
    refine V.mem mset_mrow ?_
    rw [upd_n (show (0 : Nat) ≠ 2 by decide), h0, nI_1]
    refine v_aload_n hX 0 63 rfl rfl rfl ?_
    refine v_aload_n hX 1 64 rfl rfl rfl ?_
    refine v_bipush hX (v := 48) 65 rfl (by decide) ?_
    refine v_bipush hX (v := 57) 66 rfl (by decide) ?_
    refine v_callV hX 3 (by decide) rfl rfl (f_rdg h hu hl1) tw_587 tw_584 tw_586 tw_44 tw_97 (by decide +kernel) ⟨⟨rfl, rfl⟩, Nat.le_of_ble_eq_true rfl, Nat.le_of_ble_eq_true rfl⟩ rfl (Nat.le_of_ble_eq_true rfl) rfl rfl 67 rfl ?_
    refine v_iret hX hQ rfl (nar_b rdg_01) ?_ ?_ 68 rfl
    · rw [hro]
    · rw [hro]
  · skip
    have hro : ror s l a q = (0, a, upd q 2 (chA s l a)) := by unfold ror; rw [if_neg hc.1, if_neg hc.2.1, if_neg (fun g => g.elim hc.2.2.1 (fun g => g.elim hc.2.2.2.1 hc.2.2.2.2.1)), if_neg hc.2.2.2.2.2]
    refine v_lookup hX (off := 164) (tgt := 180) 8 rfl (by decide) ((lv_osw hc.2.1 rfl).trans ((lv_osw hc.1 rfl).trans ((lv_osw hc.2.2.2.2.2 rfl).trans ((lv_osw hc.2.2.2.1 rfl).trans ((lv_osw hc.2.2.2.2.1 rfl).trans ((lv_osw hc.2.2.1 rfl).trans rfl)))))) (by decide) ?_
    refine v_iconst hX (v := 0) 69 rfl (by decide) ?_
    refine v_iret hX hQ rfl rfl ?_ ?_ 70 rfl
    · rw [hro]
    · rw [hro]
set_option maxRecDepth 100000 in
set_option maxHeartbeats 4000000 in
theorem f_rewind {Y : Yt} {M : Mm} {q : Nat → Int32} : Fn Y yX5_rewind wsX5_rewind { frames := 0, cells := 0, slots := 0, locals := 0 } [.ref (Y.2.2.2 32)] (mrow M 32 q) none ((mrow M 32 (upd q 0 0))) := by
  refine Fn.of (cc := cX5_rewind) (ins := iX5_rewind) (maxL := 1) (ret := none) (by decide) dX5_rewind [some (.ref (Y.2.2.2 32))] (Nat.le_of_ble_eq_true rfl) rfl rfl ?_
  intro X hX hQ
  refine v_aload_n hX 0 0 rfl rfl rfl ?_
  refine v_iconst hX (v := 0) 1 rfl (by decide) ?_
  refine p_5_0 hX 2   tw_218 rfl ?_
  refine V.mem mset_mrow ?_
  refine v_vret hX hQ rfl rfl ?_ 3 rfl
  rfl
set_option maxRecDepth 100000 in
set_option maxHeartbeats 4000000 in
theorem f_firstFault {Y : Yt} {M : Mm} {s q : Nat → Int32} {l : Nat} (h : RdOK M s l) : Fn Y yX5_firstFault wsX5_firstFault { frames := 5, cells := 0, slots := 0, locals := 110 } [.ref (Y.2.2.2 32), .ref (Y.2.2.2 30)] (mrow M 32 q) (some (.int (ffl s l 80 0 (upd q 0 0)).1)) ((mrow M 32 (ffl s l 80 0 (upd q 0 0)).2)) := by
  refine Fn.of (cc := cX5_firstFault) (ins := iX5_firstFault) (maxL := 3) (ret := (some .int)) (by decide) dX5_firstFault [some (.ref (Y.2.2.2 32)), some (.ref (Y.2.2.2 30)), none] (Nat.le_of_ble_eq_true rfl) rfl rfl ?_
  intro X hX hQ
  refine v_aload_n hX 0 0 rfl rfl rfl ?_
  refine v_callV hX 0 (by decide) rfl rfl (f_rewind) tw_575 tw_572 tw_574 tw_41 tw_97 (by decide +kernel) ⟨⟨rfl, rfl⟩, Nat.le_of_ble_eq_true rfl, Nat.le_of_ble_eq_true rfl⟩ rfl (Nat.le_of_ble_eq_true rfl) rfl rfl 1 rfl ?_
  refine v_iconst hX (v := 0) 2 rfl (by decide) ?_
  refine v_istore_n hX 2 3 rfl rfl (Nat.le_of_ble_eq_true rfl) rfl ?_
  have lp : ∀ (k : Nat), k ≤ 80 → ∀ (p : Nat) (w : Nat → Int32), w 0 = nI p → p ≤ l → ffl s l (80 - k) p w = ffl s l 80 0 (upd q 0 0) → V Y X (mrow M 32 w) 6 [some (.ref (Y.2.2.2 32)), some (.ref (Y.2.2.2 30)), some (.int (nI k))] [] := by
    refine upTo 80 (fun k hk ih => ?_)
    intro p w hw0 hp he
    refine v_iload_n hX 2 4 rfl rfl rfl ?_
    refine v_bipush hX (v := 80) 5 rfl (by decide) ?_
    refine v_icmp_ge hX (tgt := 60) 6 rfl (by decide) (fun c9 => ?_) (fun c9 => ?_)
    · skip
      have hk2 : k = 80 := by have := of_le (a := 80) c9 (by omega) (by omega); omega
      subst hk2
      have he2 : (nI p, w) = ffl s l 80 0 (upd q 0 0) := he
      refine v_aload_n hX 0 31 rfl rfl rfl ?_
      refine g_5_0 hX 32  tw_218 rfl ?_
      rw [mrow_s, hw0]
      refine v_iret hX hQ rfl rfl ?_ ?_ 33 rfl
      · rw [← he2]
      · rw [← he2]
    · skip
      have hk2 : k < 80 := of_nle (a := 80) c9 (by omega) (by omega)
      obtain ⟨f, hf⟩ : ∃ f, 80 - k = f + 1 := ⟨79 - k, by omega⟩
      rw [hf, ffl] at he
      have hr := ror_ok (s := s) hw0 hp
      refine v_aload_n hX 0 7 rfl rfl rfl ?_
      refine v_aload_n hX 1 8 rfl rfl rfl ?_
      refine v_callV hX 1 (by decide) rfl rfl (f_ror h hw0 hp) tw_579 tw_576 tw_578 tw_42 tw_97 (by decide +kernel) ⟨⟨rfl, rfl⟩, Nat.le_of_ble_eq_true rfl, Nat.le_of_ble_eq_true rfl⟩ rfl (Nat.le_of_ble_eq_true rfl) rfl rfl 9 rfl ?_
      refine v_if_ne hX (tgt := 25) 10 rfl (by decide) (fun c17 => ?_) (fun c17 => ?_)
      · skip
        rw [if_neg c17] at he
        refine v_aload_n hX 0 14 rfl rfl rfl ?_
        refine g_5_0 hX 15  tw_218 rfl ?_
        rw [mrow_s, hr.1]
        refine v_aload_n hX 1 16 rfl rfl rfl ?_
        refine gN_3_1 hX 17  (List.mem_of_getElem? (i := 18) rfl) rfl ?_
        rw [mrow_n (by decide), h.2.1]
        refine v_icmp_lt hX (tgt := 39) 18 rfl (by decide) (fun c33 => ?_) (fun c33 => ?_)
        · skip
          rw [if_neg (fun g => g c33)] at he
          refine v_aload_n hX 0 21 rfl rfl rfl ?_
          refine v_aload_n hX 1 22 rfl rfl rfl ?_
          refine v_bipush hX (v := 59) 23 rfl (by decide) ?_
          refine v_callV hX 2 (by decide) rfl rfl (f_tk h hr.1 hr.2) tw_599 tw_596 tw_598 tw_47 tw_97 (by decide +kernel) ⟨⟨rfl, rfl⟩, Nat.le_of_ble_eq_true rfl, Nat.le_of_ble_eq_true rfl⟩ rfl (Nat.le_of_ble_eq_true rfl) rfl rfl 24 rfl ?_
          have ht := tkc_ok (s := s) (c := 59) (by decide) hr.1 hr.2
          refine v_if_ne hX (tgt := 54) 25 rfl (by decide) (fun c46 => ?_) (fun c46 => ?_)
          · skip
            rw [if_neg c46] at he
            refine v_iinc hX 29 rfl rfl (nI_inc k) (Nat.le_of_ble_eq_true rfl) rfl ?_
            refine v_goto hX (tgt := 6) 30 rfl (by decide) ?_
            exact V.sub (ih hk2 _ _ ht.1 ht.2 (by rw [show 80 - (k + 1) = f by omega]; exact he)) rfl ⟨rfl, rfl, rfl, trivial⟩
          · skip
            rw [if_pos c46] at he
            refine v_aload_n hX 0 26 rfl rfl rfl ?_
            refine g_5_0 hX 27  tw_218 rfl ?_
            rw [mrow_s, ht.1]
            refine v_iret hX hQ rfl rfl ?_ ?_ 28 rfl
            · rw [← he]
            · rw [← he]
        · skip
          rw [if_pos c33] at he
          refine v_bipush hX (v := (-6)) 19 rfl (by decide) ?_
          refine v_iret hX hQ rfl rfl ?_ ?_ 20 rfl
          · rw [← he]
          · rw [← he]
      · skip
        rw [if_pos c17] at he
        refine v_aload_n hX 0 11 rfl rfl rfl ?_
        refine g_5_0 hX 12  tw_218 rfl ?_
        rw [mrow_s, hr.1]
        refine v_iret hX hQ rfl rfl ?_ ?_ 13 rfl
        · rw [← he]
        · rw [← he]
  exact V.sub (lp 0 (Nat.zero_le _) 0 _ upd_s (Nat.zero_le _) rfl) rfl ⟨rfl, rfl, rfl, trivial⟩
end
section
theorem prep_1 {M : Mm} {c n : Nat} (hc : isB c) (h : c ≠ 1) {j : Nat} (hj : j < 26) : (cpB M c 1 n).1 (1 + j) = M.1 (1 + j) ∨ n ≥ 25 := by
  by_cases hn : n ≤ 24
  · have ha := isB_apart hc isB_1 h
    exact Or.inl (cpB_out (by omega) (by omega))
  · exact Or.inr (by omega)
theorem pr1 {M : Mm} {c n j : Nat} (hc : isB c) (h : c ≠ 1) (hn : n ≤ 24) (hj : j < 26) : (cpB M c 1 n).1 (1 + j) = M.1 (1 + j) := (prep_1 hc h hj).resolve_right (by omega)
theorem prz {M : Mm} {c n : Nat} (hc : isB c) (h : c ≠ 1) (hn : n ≤ 24) : (cpB M c 1 n).1 1 = M.1 1 := pr1 (j := 0) hc h hn (by omega)
theorem prp {M : Mm} {c n i : Nat} (hc : isB c) (h : c ≠ 1) (hn : n ≤ 24) (hi : i < 24) : cp (cpB M c 1 n) 1 i = cp M 1 i := by
  funext j
  show (cpB M c 1 n).1 (1 + 2 + i) j = M.1 (1 + 2 + i) j
  rw [show 1 + 2 + i = 1 + (2 + i) by omega, pr1 hc h hn (by omega)]
theorem prw {M : Mm} {c n k : Nat} (hc : isB c) (h : c ≠ 1) (hn : n ≤ 24) (hk : k ≤ 24) (hw : WF (cp M 1) k) : WF (cp (cpB M c 1 n) 1) k := by
  intro i hi
  rw [prp hc h hn (by omega)]
  exact hw i hi
theorem pro {M : Mm} {c n k : Nat} (hc : isB c) (hn : n ≤ 24) (hk : k = 0 ∨ (27 ≤ k ∧ k < 35) ∨ k = 217 ∨ 270 ≤ k) : (cpB M c 1 n).1 k = M.1 k := by
  have h0 := isB_no hc (show 0 < 26 by decide)
  have h1 := isB_lt hc
  have h2 := isB_cases hc
  exact cpB_out (by omega) (by omega)

def Fr (M M' : Mm) : Prop := M'.2 = M.2 ∧ ∀ k, 27 ≤ k → M'.1 k = M.1 k
theorem Fr.rf {M : Mm} : Fr M M := ⟨rfl, fun _ _ => rfl⟩
theorem Fr.tr {M M1 M2 : Mm} (h : Fr M M1) (g : Fr M1 M2) : Fr M M2 := ⟨g.1.trans h.1, fun k hk => (g.2 k hk).trans (h.2 k hk)⟩
theorem Fr.set {M : Mm} {k j : Nat} {v : Int32} (h : k < 27) : Fr M (mset M k j v) := ⟨rfl, fun k' hk => mset_n (by omega)⟩
theorem Fr.ite {M A B : Mm} {c : Prop} [Decidable c] (hA : Fr M A) (hB : Fr M B) : Fr M (if c then A else B) := by split; exact hA; exact hB
theorem fileM_fr {M : Mm} {n : Nat} {s p c t : Int32} (hn : n < 24) : Fr M (fileM M 1 n s p c t) := by
  unfold fileM
  exact ((((((((Fr.set (by omega)).tr (Fr.set (by omega))).tr (Fr.set (by omega))).tr (Fr.set (by omega))).tr (Fr.set (by omega))).tr (Fr.set (by omega))).tr (Fr.set (by omega))).tr (Fr.set (by omega)))
theorem adM_fr {M : Mm} {s v : Int32} : Fr M (adM M 1 s v) := Fr.ite (Fr.set (by omega)) (Fr.ite (Fr.set (by omega)) Fr.rf)
theorem fcM_fr {M : Mm} {n : Nat} {s p c : Int32} : Fr M (fcM M 1 n s p c) := by
  unfold fcM
  split
  · exact Fr.rf
  split
  · exact fileM_fr (by omega)
  · exact Fr.rf
theorem faM_fr {M : Mm} {n i : Nat} {p c : Int32} : Fr M (faM M 1 n i p c) := by
  unfold faM
  split
  · exact Fr.rf
  split
  · exact Fr.ite (fileM_fr (by omega)) Fr.rf
  · exact Fr.rf
theorem tbM_fr {M : Mm} {i : Nat} (hi : i < 24) : Fr M (tbM M 1 i) := Fr.ite (Fr.set (by omega)) Fr.rf
theorem prM_fr {M : Mm} {i : Nat} (hi : i < 24) : Fr M (prM M 1 i) := Fr.ite Fr.rf (Fr.set (by omega))
theorem tcM_fr {M : Mm} {w : Int32} : Fr M (tcM M 1 w) := Fr.ite Fr.rf (Fr.set (by omega))
theorem moM_fr {M : Mm} {d : Int32} : Fr M (moM M 1 d) := Fr.ite Fr.rf (Fr.ite (Fr.set (by omega)) Fr.rf)
def lo (x : Int32) : Nat → Nat → Int32
  | 0, _ => -6
  | f + 1, k => if bt x k = true then nI k else lo x f (k + 1)
def fbL (w : Int64) : Nat → Int64 → Int32 → Int64 × Int32
  | 0, x, e => (x, e)
  | f + 1, x, e => if 0 ≤ lg_cmp x w ∨ e ≤ 0 then (x, e) else fbL w f (x * 2) (e + Int32.ofInt (-1))
def fbF (w : Int64) (t : Int64 × Int32) : Int32 := (t.2 <<< ((23 : Int32) &&& 31)) + ((if lg_cmp (2 * ((t.1 <<< ((23 : Int32).toInt64 &&& 63)) - (t.1 <<< ((23 : Int32).toInt64 &&& 63)) / w * w)) w ≤ 0 then (t.1 <<< ((23 : Int32).toInt64 &&& 63)) / w else (t.1 <<< ((23 : Int32).toInt64 &&& 63)) / w + 1) - 8388608).toInt32
def fbR (a w : Nat) : Int32 := if nI a ≤ 0 then 0 else fbF (nI w).toInt64 (fbL (nI w).toInt64 6 (nI a).toInt64 127)
def ba2 (M : Mm) (n k : Nat) (out nas : Nat → Bool) (P : Nat → Nat → Int32) : Int32 := bc ((mk (sd (bt (mk out n)) (bt ((1 : Int32) <<< (nI k &&& 31))) P n) n ^^^ mk (sd (bt (mk out n)) (bt 0) P n) n) &&& mk (pTo P (-6)) n)
def baS (M : Mm) (n : Nat) : Nat → Int32 × Int32
  | 0 => (-6, -6)
  | k + 1 => if bt (mk (naP (cp M 1) n) n &&& (mk (bOut M 1) n ^^^ (-1))) k = true then (if ba2 M n k (bOut M 1) (naP (cp M 1) n) (cp M 1) ≤ (baS M n k).2 then baS M n k else (nI k, ba2 M n k (bOut M 1) (naP (cp M 1) n) (cp M 1))) else baS M n k
def ciX (M : Mm) (n : Nat) : Int32 := (mk (pWd (cp M 1)) n ||| mk (pSk (cp M 1) (M.1 1 5)) n) ||| mk (pBl (cp M 1) (M.1 1 3)) n
def ciS (M : Mm) (n d : Nat) : Int32 := mk (sd (bt (ciX M n ||| mk (pLp (cp M 1) (M.1 1 2 + nI d) (M.1 1 4)) n)) (bt 0) (cp M 1) n) n
def ciF (M : Mm) (n : Nat) : Nat → Nat → Int32
  | 0, _ => -6
  | f + 1, d => if ciS M n d = mk (bSd M 1 n) n then ciF M n f (d + 1) else nI d
def imax (x y : Int32) : Int32 := if x < y then y else x
def lpN (M : Mm) (n : Nat) : Int32 := imax 1 (imax (sm (cp M 1) 0 (mk (pWd (cp M 1)) n) n) (sm (cp M 1) 1 (mk (pWd (cp M 1)) n) n))
def lpR (M : Mm) (n : Nat) : Int32 := if lpN M n ≤ 99 then lpN M n else -6
def shC (M : Mm) (n : Nat) (s : Int32) : Nat → Bool := fun i => pTo (cp M 1) (-6) i && pSd (cp M 1) s i
def ofR (M : Mm) (n i : Nat) (w : Int32) : Int32 := if w = 0 then M.1 (1 + 2 + i) 0 else if w = 1 then M.1 (1 + 2 + i) 1 else if w = 2 then M.1 (1 + 2 + i) 4 else if w = 3 then M.1 (1 + 2 + i) 3 else if w = 4 then M.1 (1 + 2 + i) 2 else if w = 5 then (if bSd M 1 n i = true then 1 else 0) else if w = 6 then rsR M 1 n i else if w = 7 then lo (mk (pTo (cp M 1) (nI i)) n &&& mk (bSd M 1 n) n) 24 0 else if w = 8 then mk (pTo (cp M 1) (nI i)) n else if w = 9 then nI (dpN (cp M 1) (i + 1) i) else if w = 10 then dlR M 1 i else -2
def coR (M : Mm) (n k : Nat) (w : Int32) : Int32 := if w = 0 then M.1 1 2 else if w = 1 then M.1 1 1 else if w = 2 then bc (mk (pTo (cp M 1) (-6)) n) else if w = 3 then bc (mk (bSd M 1 n) n) else if w = 4 then bc (mk (pTo (cp M 1) (-6)) n &&& mk (bSd M 1 n) n) else if w = 5 then bc (mk (bOut M 1) n) else if w = 6 then bc ((mk (fun _ => true) n &&& (mk (bOut M 1) n ^^^ (-1))) &&& (mk (bSd M 1 n) n ^^^ (-1))) else if w = 7 then sm (cp M 1) 0 (mk (pWd (cp M 1)) n ||| mk (pSk (cp M 1) (M.1 1 5)) n) n else if w = 8 then sm (cp M 1) 1 (mk (pWd (cp M 1)) n ||| mk (pSk (cp M 1) (M.1 1 5)) n) n else if w = 9 then M.1 1 3 else if w = 10 then M.1 1 4 else if w = 11 then M.1 1 5 else if w = 12 then M.1 30 1 else if w = 13 then M.1 33 1 else -2
def poR (M : Mm) (n : Nat) (w : Int32) : Int32 := if w = 0 then mk (bSd M 1 n) n else if w = 1 then mk (pTo (cp M 1) (-6)) n &&& mk (bSd M 1 n) n else if w = 2 then mk (bOut M 1) n else if w = 3 then (mk (fun _ => true) n &&& (mk (bOut M 1) n ^^^ (-1))) &&& (mk (bSd M 1 n) n ^^^ (-1)) else if w = 4 then mk (pSd (cp M 1) 0) n else if w = 5 then mk (pSd (cp M 1) 1) n else -2
theorem sw_cases (w : Int32) (m : Nat) (hm : m < 2 ^ 31) : (∃ j, j < m ∧ w = nI j) ∨ (w.toInt < 0 ∨ (m : Int) - 1 < w.toInt) := by
  rcases pk_ix w hm with h | h | ⟨j, h1, h2⟩
  · exact Or.inr (Or.inl (by have := Int32.lt_iff_toInt_lt.mp h; simpa using this))
  · have := Int32.le_iff_toInt_le.mp h
    rw [nI_toInt hm] at this
    exact Or.inr (Or.inr (by omega))
  · exact Or.inl ⟨j, h1, h2⟩
theorem sw11 (w : Int32) : w = 0 ∨ w = 1 ∨ w = 2 ∨ w = 3 ∨ w = 4 ∨ w = 5 ∨ w = 6 ∨ w = 7 ∨ w = 8 ∨ w = 9 ∨ w = 10 ∨ (w.toInt < 0 ∨ 10 < w.toInt) := by
  rcases sw_cases w 11 (by decide) with ⟨j, hj, e⟩ | h
  · subst e
    have : j = 0 ∨ j = 1 ∨ j = 2 ∨ j = 3 ∨ j = 4 ∨ j = 5 ∨ j = 6 ∨ j = 7 ∨ j = 8 ∨ j = 9 ∨ j = 10 := by omega
    rcases this with rfl | rfl | rfl | rfl | rfl | rfl | rfl | rfl | rfl | rfl | rfl <;> simp (decide := true)
  · have h : w.toInt < 0 ∨ (10 : Int) < w.toInt := by omega
    repeat (first | exact h | right)
theorem sw14 (w : Int32) : w = 0 ∨ w = 1 ∨ w = 2 ∨ w = 3 ∨ w = 4 ∨ w = 5 ∨ w = 6 ∨ w = 7 ∨ w = 8 ∨ w = 9 ∨ w = 10 ∨ w = 11 ∨ w = 12 ∨ w = 13 ∨ (w.toInt < 0 ∨ 13 < w.toInt) := by
  rcases sw_cases w 14 (by decide) with ⟨j, hj, e⟩ | h
  · subst e
    have : j = 0 ∨ j = 1 ∨ j = 2 ∨ j = 3 ∨ j = 4 ∨ j = 5 ∨ j = 6 ∨ j = 7 ∨ j = 8 ∨ j = 9 ∨ j = 10 ∨ j = 11 ∨ j = 12 ∨ j = 13 := by omega
    rcases this with rfl | rfl | rfl | rfl | rfl | rfl | rfl | rfl | rfl | rfl | rfl | rfl | rfl | rfl <;> simp (decide := true)
  · have h : w.toInt < 0 ∨ (13 : Int) < w.toInt := by omega
    repeat (first | exact h | right)
theorem sw6 (w : Int32) : w = 0 ∨ w = 1 ∨ w = 2 ∨ w = 3 ∨ w = 4 ∨ w = 5 ∨ (w.toInt < 0 ∨ 5 < w.toInt) := by
  rcases sw_cases w 6 (by decide) with ⟨j, hj, e⟩ | h
  · subst e
    have : j = 0 ∨ j = 1 ∨ j = 2 ∨ j = 3 ∨ j = 4 ∨ j = 5 := by omega
    rcases this with rfl | rfl | rfl | rfl | rfl | rfl <;> simp (decide := true)
  · have h : w.toInt < 0 ∨ (5 : Int) < w.toInt := by omega
    repeat (first | exact h | right)
theorem sw_ne {w : Int32} {m : Nat} (h : w.toInt < 0 ∨ (m : Int) < w.toInt) {c : Nat} (hc : c ≤ m) (hm : m < 2 ^ 31) : ¬ w = nI c := by
  intro e
  rw [e, nI_toInt (by omega)] at h
  omega
end
section
set_option maxRecDepth 100000 in
set_option maxHeartbeats 4000000 in
theorem f_set {Y : Yt} {M : Mm} {s v : Int32} {k n : Nat} (hk : k ≤ 6) (hkk : M.1 33 1 = nI k) (hh : ∀ i, i < 7 → isB (M.2 i) ∧ M.2 i ≠ 1) (hz : M.1 1 1 = nI n) (hn : n ≤ 24) (hw : WF (cp M 1) n) : Fn Y yX6_set wsX6_set { frames := 3, cells := 0, slots := 0, locals := 67 } [.ref (Y.2.2.2 0), .int s, .int v] M (some (.int (adR (cpB M (M.2 k) 1 n) 1 s v))) ((seM (adM (cpB M (M.2 k) 1 n) 1 s v) k (adR (cpB M (M.2 k) 1 n) 1 s v))) := by
  have hc := hh k (by omega)
  have hz1 : (cpB M (M.2 k) 1 n).1 1 1 = nI n := by rw [prz hc.1 hc.2 hn]; exact hz
  have hw1 : WF (cp (cpB M (M.2 k) 1 n) 1) n := prw hc.1 hc.2 hn (by omega) hw
  have hk1 : (cpB M (M.2 k) 1 n).1 33 1 = nI k := by rw [pro hc.1 hn (by omega)]; exact hkk
  have hfr : Fr (cpB M (M.2 k) 1 n) (adM (cpB M (M.2 k) 1 n) 1 s v) := adM_fr
  have hk2 : (adM (cpB M (M.2 k) 1 n) 1 s v).1 33 1 = nI k := by rw [hfr.2 33 (by decide)]; exact hk1
  have hh2 : ∀ z9, z9 < 7 → isB ((adM (cpB M (M.2 k) 1 n) 1 s v).2 z9) ∧ (adM (cpB M (M.2 k) 1 n) 1 s v).2 z9 ≠ 1 := by rw [hfr.1]; exact hh
  refine Fn.of (cc := cX6_set) (ins := iX6_set) (maxL := 3) (ret := (some .int)) (by decide) dX6_set [some (.ref (Y.2.2.2 0)), some (.int s), some (.int v)] (Nat.le_of_ble_eq_true rfl) rfl rfl ?_
  intro X hX hQ
  refine v_aload_n hX 0 0 rfl rfl rfl ?_
  refine g_6_4 hX 1  tw_262 rfl ?_
  refine v_aload_n hX 0 2 rfl rfl rfl ?_
  refine g_6_0 hX 3  tw_258 rfl ?_
  refine v_callVN hX 1 (by decide) rfl rfl (f_prepare hk hkk hh hz hn hw) tw_287 (List.mem_of_getElem? (i := 7) rfl) tw_98 tw_286 tw_0 (by decide +kernel) ⟨⟨rfl, rfl⟩, Nat.le_of_ble_eq_true rfl, Nat.le_of_ble_eq_true rfl⟩ rfl (Nat.le_of_ble_eq_true rfl) rfl rfl 4 rfl ?_
  refine v_aload_n hX 0 5 rfl rfl rfl ?_
  refine g_6_4 hX 6  tw_262 rfl ?_
  refine v_aload_n hX 0 7 rfl rfl rfl ?_
  refine g_6_0 hX 8  tw_258 rfl ?_
  refine v_iload_n hX 1 9 rfl rfl rfl ?_
  refine v_iload_n hX 2 10 rfl rfl rfl ?_
  refine v_callVN hX 2 (by have := isB_lt isB_1; omega) (cG_B isB_1) rfl (f_adjust isB_1) tw_307 (List.mem_of_getElem? (i := 10) rfl) tw_93 tw_306 tw_5 (by decide +kernel) ⟨⟨rfl, rfl⟩, Nat.le_of_ble_eq_true rfl, Nat.le_of_ble_eq_true rfl⟩ rfl (Nat.le_of_ble_eq_true rfl) rfl rfl 11 rfl ?_
  refine v_callVN hX 1 (by decide) rfl rfl (f_settle hk hk2 hh2) tw_311 (List.mem_of_getElem? (i := 11) rfl) tw_98 tw_310 tw_6 (by decide +kernel) ⟨⟨rfl, rfl⟩, Nat.le_of_ble_eq_true rfl, Nat.le_of_ble_eq_true rfl⟩ rfl (Nat.le_of_ble_eq_true rfl) rfl rfl 12 rfl ?_
  refine v_iret hX hQ rfl rfl ?_ ?_ 13 rfl
  · rfl
  · rfl
set_option maxRecDepth 100000 in
set_option maxHeartbeats 4000000 in
theorem f_claim {Y : Yt} {M : Mm} {s p c : Int32} {k n : Nat} (hk : k ≤ 6) (hkk : M.1 33 1 = nI k) (hh : ∀ i, i < 7 → isB (M.2 i) ∧ M.2 i ≠ 1) (hz : M.1 1 1 = nI n) (hn : n ≤ 24) (hw : WF (cp M 1) n) : Fn Y yX6_claim wsX6_claim { frames := 3, cells := 0, slots := 0, locals := 68 } [.ref (Y.2.2.2 0), .int s, .int p, .int c] M (some (.int (fcR n s p c))) ((seM (fcM (cpB M (M.2 k) 1 n) 1 n s p c) k (fcR n s p c))) := by
  have hc := hh k (by omega)
  have hz1 : (cpB M (M.2 k) 1 n).1 1 1 = nI n := by rw [prz hc.1 hc.2 hn]; exact hz
  have hw1 : WF (cp (cpB M (M.2 k) 1 n) 1) n := prw hc.1 hc.2 hn (by omega) hw
  have hk1 : (cpB M (M.2 k) 1 n).1 33 1 = nI k := by rw [pro hc.1 hn (by omega)]; exact hkk
  have hfr : Fr (cpB M (M.2 k) 1 n) (fcM (cpB M (M.2 k) 1 n) 1 n s p c) := fcM_fr
  have hk2 : (fcM (cpB M (M.2 k) 1 n) 1 n s p c).1 33 1 = nI k := by rw [hfr.2 33 (by decide)]; exact hk1
  have hh2 : ∀ z9, z9 < 7 → isB ((fcM (cpB M (M.2 k) 1 n) 1 n s p c).2 z9) ∧ (fcM (cpB M (M.2 k) 1 n) 1 n s p c).2 z9 ≠ 1 := by rw [hfr.1]; exact hh
  refine Fn.of (cc := cX6_claim) (ins := iX6_claim) (maxL := 4) (ret := (some .int)) (by decide) dX6_claim [some (.ref (Y.2.2.2 0)), some (.int s), some (.int p), some (.int c)] (Nat.le_of_ble_eq_true rfl) rfl rfl ?_
  intro X hX hQ
  refine v_aload_n hX 0 0 rfl rfl rfl ?_
  refine g_6_4 hX 1  tw_262 rfl ?_
  refine v_aload_n hX 0 2 rfl rfl rfl ?_
  refine g_6_0 hX 3  tw_258 rfl ?_
  refine v_callVN hX 1 (by decide) rfl rfl (f_prepare hk hkk hh hz hn hw) tw_287 (List.mem_of_getElem? (i := 7) rfl) tw_98 tw_286 tw_0 (by decide +kernel) ⟨⟨rfl, rfl⟩, Nat.le_of_ble_eq_true rfl, Nat.le_of_ble_eq_true rfl⟩ rfl (Nat.le_of_ble_eq_true rfl) rfl rfl 4 rfl ?_
  refine v_aload_n hX 0 5 rfl rfl rfl ?_
  refine g_6_4 hX 6  tw_262 rfl ?_
  refine v_aload_n hX 0 7 rfl rfl rfl ?_
  refine g_6_0 hX 8  tw_258 rfl ?_
  refine v_iload_n hX 1 9 rfl rfl rfl ?_
  refine v_iload_n hX 2 10 rfl rfl rfl ?_
  refine v_iload_n hX 3 11 rfl rfl rfl ?_
  refine v_callVN hX 3 (by have := isB_lt isB_1; omega) (cG_B isB_1) rfl (f_fileClaim isB_1 hz1 hn) tw_323 (List.mem_of_getElem? (i := 12) rfl) tw_93 tw_322 tw_8 (by decide +kernel) ⟨⟨rfl, rfl⟩, Nat.le_of_ble_eq_true rfl, Nat.le_of_ble_eq_true rfl⟩ rfl (Nat.le_of_ble_eq_true rfl) rfl rfl 12 rfl ?_
  refine v_callVN hX 1 (by decide) rfl rfl (f_settle hk hk2 hh2) tw_311 (List.mem_of_getElem? (i := 11) rfl) tw_98 tw_310 tw_6 (by decide +kernel) ⟨⟨rfl, rfl⟩, Nat.le_of_ble_eq_true rfl, Nat.le_of_ble_eq_true rfl⟩ rfl (Nat.le_of_ble_eq_true rfl) rfl rfl 13 rfl ?_
  refine v_iret hX hQ rfl rfl ?_ ?_ 14 rfl
  · rfl
  · rfl
set_option maxRecDepth 100000 in
set_option maxHeartbeats 4000000 in
theorem f_answer_no {Y : Yt} {M : Mm} {p c : Int32} {k n : Nat} (hk : k ≤ 6) (hkk : M.1 33 1 = nI k) (hh : ∀ i, i < 7 → isB (M.2 i) ∧ M.2 i ≠ 1) (hz : M.1 1 1 = nI n) (hn : n ≤ 24) (hw : WF (cp M 1) n) {x : Int32} (hx : x < 0 ∨ nI n ≤ x) : Fn Y yX6_answer wsX6_answer { frames := 3, cells := 0, slots := 0, locals := 69 } [.ref (Y.2.2.2 0), .int x, .int p, .int c] M (some (.int (-1))) ((seM ((cpB M (M.2 k) 1 n)) k (-1))) := by
  have hc := hh k (by omega)
  have hz1 : (cpB M (M.2 k) 1 n).1 1 1 = nI n := by rw [prz hc.1 hc.2 hn]; exact hz
  have hw1 : WF (cp (cpB M (M.2 k) 1 n) 1) n := prw hc.1 hc.2 hn (by omega) hw
  have hk1 : (cpB M (M.2 k) 1 n).1 33 1 = nI k := by rw [pro hc.1 hn (by omega)]; exact hkk
  have hfr : Fr (cpB M (M.2 k) 1 n) ((cpB M (M.2 k) 1 n)) := Fr.rf
  have hk2 : ((cpB M (M.2 k) 1 n)).1 33 1 = nI k := by rw [hfr.2 33 (by decide)]; exact hk1
  have hh2 : ∀ z9, z9 < 7 → isB (((cpB M (M.2 k) 1 n)).2 z9) ∧ ((cpB M (M.2 k) 1 n)).2 z9 ≠ 1 := by rw [hfr.1]; exact hh
  refine Fn.of (cc := cX6_answer) (ins := iX6_answer) (maxL := 4) (ret := (some .int)) (by decide) dX6_answer [some (.ref (Y.2.2.2 0)), some (.int x), some (.int p), some (.int c)] (Nat.le_of_ble_eq_true rfl) rfl rfl ?_
  intro X hX hQ
  refine v_aload_n hX 0 0 rfl rfl rfl ?_
  refine g_6_4 hX 1  tw_262 rfl ?_
  refine v_aload_n hX 0 2 rfl rfl rfl ?_
  refine g_6_0 hX 3  tw_258 rfl ?_
  refine v_callVN hX 1 (by decide) rfl rfl (f_prepare hk hkk hh hz hn hw) tw_287 (List.mem_of_getElem? (i := 7) rfl) tw_98 tw_286 tw_0 (by decide +kernel) ⟨⟨rfl, rfl⟩, Nat.le_of_ble_eq_true rfl, Nat.le_of_ble_eq_true rfl⟩ rfl (Nat.le_of_ble_eq_true rfl) rfl rfl 4 rfl ?_
  refine v_aload_n hX 0 5 rfl rfl rfl ?_
  refine g_6_4 hX 6  tw_262 rfl ?_
  refine v_aload_n hX 0 7 rfl rfl rfl ?_
  refine g_6_0 hX 8  tw_258 rfl ?_
  refine v_iload_n hX 1 9 rfl rfl rfl ?_
  refine v_iload_n hX 2 10 rfl rfl rfl ?_
  refine v_iload_n hX 3 11 rfl rfl rfl ?_
  refine v_callVN hX 3 (by have := isB_lt isB_1; omega) (cG_B isB_1) rfl (f_fileAnswer_no isB_1 hz1 hn hx) tw_342 (List.mem_of_getElem? (i := 13) rfl) tw_93 tw_341 tw_11 (by decide +kernel) ⟨⟨rfl, rfl⟩, Nat.le_of_ble_eq_true rfl, Nat.le_of_ble_eq_true rfl⟩ rfl (Nat.le_of_ble_eq_true rfl) rfl rfl 12 rfl ?_
  refine v_callVN hX 1 (by decide) rfl rfl (f_settle hk hk2 hh2) tw_311 (List.mem_of_getElem? (i := 11) rfl) tw_98 tw_310 tw_6 (by decide +kernel) ⟨⟨rfl, rfl⟩, Nat.le_of_ble_eq_true rfl, Nat.le_of_ble_eq_true rfl⟩ rfl (Nat.le_of_ble_eq_true rfl) rfl rfl 13 rfl ?_
  refine v_iret hX hQ rfl rfl ?_ ?_ 14 rfl
  · rfl
  · rfl
set_option maxRecDepth 100000 in
set_option maxHeartbeats 4000000 in
theorem f_answer {Y : Yt} {M : Mm} {p c : Int32} {k n : Nat} (hk : k ≤ 6) (hkk : M.1 33 1 = nI k) (hh : ∀ i, i < 7 → isB (M.2 i) ∧ M.2 i ≠ 1) (hz : M.1 1 1 = nI n) (hn : n ≤ 24) (hw : WF (cp M 1) n) {i : Nat} (hi : i < n) : Fn Y yX6_answer wsX6_answer { frames := 3, cells := 0, slots := 0, locals := 69 } [.ref (Y.2.2.2 0), .int (nI i), .int p, .int c] M (some (.int (faR (cpB M (M.2 k) 1 n) 1 n i p c))) ((seM (faM (cpB M (M.2 k) 1 n) 1 n i p c) k (faR (cpB M (M.2 k) 1 n) 1 n i p c))) := by
  have hc := hh k (by omega)
  have hz1 : (cpB M (M.2 k) 1 n).1 1 1 = nI n := by rw [prz hc.1 hc.2 hn]; exact hz
  have hw1 : WF (cp (cpB M (M.2 k) 1 n) 1) n := prw hc.1 hc.2 hn (by omega) hw
  have hk1 : (cpB M (M.2 k) 1 n).1 33 1 = nI k := by rw [pro hc.1 hn (by omega)]; exact hkk
  have hfr : Fr (cpB M (M.2 k) 1 n) (faM (cpB M (M.2 k) 1 n) 1 n i p c) := faM_fr
  have hk2 : (faM (cpB M (M.2 k) 1 n) 1 n i p c).1 33 1 = nI k := by rw [hfr.2 33 (by decide)]; exact hk1
  have hh2 : ∀ z9, z9 < 7 → isB ((faM (cpB M (M.2 k) 1 n) 1 n i p c).2 z9) ∧ (faM (cpB M (M.2 k) 1 n) 1 n i p c).2 z9 ≠ 1 := by rw [hfr.1]; exact hh
  refine Fn.of (cc := cX6_answer) (ins := iX6_answer) (maxL := 4) (ret := (some .int)) (by decide) dX6_answer [some (.ref (Y.2.2.2 0)), some (.int (nI i)), some (.int p), some (.int c)] (Nat.le_of_ble_eq_true rfl) rfl rfl ?_
  intro X hX hQ
  refine v_aload_n hX 0 0 rfl rfl rfl ?_
  refine g_6_4 hX 1  tw_262 rfl ?_
  refine v_aload_n hX 0 2 rfl rfl rfl ?_
  refine g_6_0 hX 3  tw_258 rfl ?_
  refine v_callVN hX 1 (by decide) rfl rfl (f_prepare hk hkk hh hz hn hw) tw_287 (List.mem_of_getElem? (i := 7) rfl) tw_98 tw_286 tw_0 (by decide +kernel) ⟨⟨rfl, rfl⟩, Nat.le_of_ble_eq_true rfl, Nat.le_of_ble_eq_true rfl⟩ rfl (Nat.le_of_ble_eq_true rfl) rfl rfl 4 rfl ?_
  refine v_aload_n hX 0 5 rfl rfl rfl ?_
  refine g_6_4 hX 6  tw_262 rfl ?_
  refine v_aload_n hX 0 7 rfl rfl rfl ?_
  refine g_6_0 hX 8  tw_258 rfl ?_
  refine v_iload_n hX 1 9 rfl rfl rfl ?_
  refine v_iload_n hX 2 10 rfl rfl rfl ?_
  refine v_iload_n hX 3 11 rfl rfl rfl ?_
  refine v_callVN hX 3 (by have := isB_lt isB_1; omega) (cG_B isB_1) rfl (f_fileAnswer isB_1 hz1 hn hi) tw_342 (List.mem_of_getElem? (i := 13) rfl) tw_93 tw_341 tw_11 (by decide +kernel) ⟨⟨rfl, rfl⟩, Nat.le_of_ble_eq_true rfl, Nat.le_of_ble_eq_true rfl⟩ rfl (Nat.le_of_ble_eq_true rfl) rfl rfl 12 rfl ?_
  refine v_callVN hX 1 (by decide) rfl rfl (f_settle hk hk2 hh2) tw_311 (List.mem_of_getElem? (i := 11) rfl) tw_98 tw_310 tw_6 (by decide +kernel) ⟨⟨rfl, rfl⟩, Nat.le_of_ble_eq_true rfl, Nat.le_of_ble_eq_true rfl⟩ rfl (Nat.le_of_ble_eq_true rfl) rfl rfl 13 rfl ?_
  refine v_iret hX hQ rfl rfl ?_ ?_ 14 rfl
  · rfl
  · rfl
set_option maxRecDepth 100000 in
set_option maxHeartbeats 4000000 in
theorem f_withdraw_no {Y : Yt} {M : Mm} {k n : Nat} (hk : k ≤ 6) (hkk : M.1 33 1 = nI k) (hh : ∀ i, i < 7 → isB (M.2 i) ∧ M.2 i ≠ 1) (hz : M.1 1 1 = nI n) (hn : n ≤ 24) (hw : WF (cp M 1) n) {x : Int32} (hx : x < 0 ∨ nI n ≤ x) : Fn Y yX6_withdraw wsX6_withdraw { frames := 5, cells := 0, slots := 0, locals := 110 } [.ref (Y.2.2.2 0), .int x] M (some (.int (-1))) ((seM ((cpB M (M.2 k) 1 n)) k (-1))) := by
  have hc := hh k (by omega)
  have hz1 : (cpB M (M.2 k) 1 n).1 1 1 = nI n := by rw [prz hc.1 hc.2 hn]; exact hz
  have hw1 : WF (cp (cpB M (M.2 k) 1 n) 1) n := prw hc.1 hc.2 hn (by omega) hw
  have hk1 : (cpB M (M.2 k) 1 n).1 33 1 = nI k := by rw [pro hc.1 hn (by omega)]; exact hkk
  have hfr : Fr (cpB M (M.2 k) 1 n) ((cpB M (M.2 k) 1 n)) := Fr.rf
  have hk2 : ((cpB M (M.2 k) 1 n)).1 33 1 = nI k := by rw [hfr.2 33 (by decide)]; exact hk1
  have hh2 : ∀ z9, z9 < 7 → isB (((cpB M (M.2 k) 1 n)).2 z9) ∧ ((cpB M (M.2 k) 1 n)).2 z9 ≠ 1 := by rw [hfr.1]; exact hh
  refine Fn.of (cc := cX6_withdraw) (ins := iX6_withdraw) (maxL := 2) (ret := (some .int)) (by decide) dX6_withdraw [some (.ref (Y.2.2.2 0)), some (.int x)] (Nat.le_of_ble_eq_true rfl) rfl rfl ?_
  intro X hX hQ
  refine v_aload_n hX 0 0 rfl rfl rfl ?_
  refine g_6_4 hX 1  tw_262 rfl ?_
  refine v_aload_n hX 0 2 rfl rfl rfl ?_
  refine g_6_0 hX 3  tw_258 rfl ?_
  refine v_callVN hX 1 (by decide) rfl rfl (f_prepare hk hkk hh hz hn hw) tw_287 (List.mem_of_getElem? (i := 7) rfl) tw_98 tw_286 tw_0 (by decide +kernel) ⟨⟨rfl, rfl⟩, Nat.le_of_ble_eq_true rfl, Nat.le_of_ble_eq_true rfl⟩ rfl (Nat.le_of_ble_eq_true rfl) rfl rfl 4 rfl ?_
  refine v_aload_n hX 0 5 rfl rfl rfl ?_
  refine g_6_4 hX 6  tw_262 rfl ?_
  refine v_aload_n hX 0 7 rfl rfl rfl ?_
  refine g_6_0 hX 8  tw_258 rfl ?_
  refine v_iload_n hX 1 9 rfl rfl rfl ?_
  refine v_callVN hX 1 (by have := isB_lt isB_1; omega) (cG_B isB_1) rfl (f_takeBack_no isB_1 hz1 hn hx) tw_350 (List.mem_of_getElem? (i := 14) rfl) tw_93 tw_349 tw_12 (by decide +kernel) ⟨⟨rfl, rfl⟩, Nat.le_of_ble_eq_true rfl, Nat.le_of_ble_eq_true rfl⟩ rfl (Nat.le_of_ble_eq_true rfl) rfl rfl 10 rfl ?_
  refine v_callVN hX 1 (by decide) rfl rfl (f_settle hk hk2 hh2) tw_311 (List.mem_of_getElem? (i := 11) rfl) tw_98 tw_310 tw_6 (by decide +kernel) ⟨⟨rfl, rfl⟩, Nat.le_of_ble_eq_true rfl, Nat.le_of_ble_eq_true rfl⟩ rfl (Nat.le_of_ble_eq_true rfl) rfl rfl 11 rfl ?_
  refine v_iret hX hQ rfl rfl ?_ ?_ 12 rfl
  · rfl
  · rfl
set_option maxRecDepth 100000 in
set_option maxHeartbeats 4000000 in
theorem f_withdraw {Y : Yt} {M : Mm} {k n : Nat} (hk : k ≤ 6) (hkk : M.1 33 1 = nI k) (hh : ∀ i, i < 7 → isB (M.2 i) ∧ M.2 i ≠ 1) (hz : M.1 1 1 = nI n) (hn : n ≤ 24) (hw : WF (cp M 1) n) {i : Nat} (hi : i < n) : Fn Y yX6_withdraw wsX6_withdraw { frames := 5, cells := 0, slots := 0, locals := 110 } [.ref (Y.2.2.2 0), .int (nI i)] M (some (.int (tbR (cpB M (M.2 k) 1 n) 1 n i))) ((seM (tbM (cpB M (M.2 k) 1 n) 1 i) k (tbR (cpB M (M.2 k) 1 n) 1 n i))) := by
  have hc := hh k (by omega)
  have hz1 : (cpB M (M.2 k) 1 n).1 1 1 = nI n := by rw [prz hc.1 hc.2 hn]; exact hz
  have hw1 : WF (cp (cpB M (M.2 k) 1 n) 1) n := prw hc.1 hc.2 hn (by omega) hw
  have hk1 : (cpB M (M.2 k) 1 n).1 33 1 = nI k := by rw [pro hc.1 hn (by omega)]; exact hkk
  have hfr : Fr (cpB M (M.2 k) 1 n) (tbM (cpB M (M.2 k) 1 n) 1 i) := tbM_fr (by omega)
  have hk2 : (tbM (cpB M (M.2 k) 1 n) 1 i).1 33 1 = nI k := by rw [hfr.2 33 (by decide)]; exact hk1
  have hh2 : ∀ z9, z9 < 7 → isB ((tbM (cpB M (M.2 k) 1 n) 1 i).2 z9) ∧ (tbM (cpB M (M.2 k) 1 n) 1 i).2 z9 ≠ 1 := by rw [hfr.1]; exact hh
  refine Fn.of (cc := cX6_withdraw) (ins := iX6_withdraw) (maxL := 2) (ret := (some .int)) (by decide) dX6_withdraw [some (.ref (Y.2.2.2 0)), some (.int (nI i))] (Nat.le_of_ble_eq_true rfl) rfl rfl ?_
  intro X hX hQ
  refine v_aload_n hX 0 0 rfl rfl rfl ?_
  refine g_6_4 hX 1  tw_262 rfl ?_
  refine v_aload_n hX 0 2 rfl rfl rfl ?_
  refine g_6_0 hX 3  tw_258 rfl ?_
  refine v_callVN hX 1 (by decide) rfl rfl (f_prepare hk hkk hh hz hn hw) tw_287 (List.mem_of_getElem? (i := 7) rfl) tw_98 tw_286 tw_0 (by decide +kernel) ⟨⟨rfl, rfl⟩, Nat.le_of_ble_eq_true rfl, Nat.le_of_ble_eq_true rfl⟩ rfl (Nat.le_of_ble_eq_true rfl) rfl rfl 4 rfl ?_
  refine v_aload_n hX 0 5 rfl rfl rfl ?_
  refine g_6_4 hX 6  tw_262 rfl ?_
  refine v_aload_n hX 0 7 rfl rfl rfl ?_
  refine g_6_0 hX 8  tw_258 rfl ?_
  refine v_iload_n hX 1 9 rfl rfl rfl ?_
  refine v_callVN hX 1 (by have := isB_lt isB_1; omega) (cG_B isB_1) rfl (f_takeBack isB_1 hz1 hn hi hw1) tw_350 (List.mem_of_getElem? (i := 14) rfl) tw_93 tw_349 tw_12 (by decide +kernel) ⟨⟨rfl, rfl⟩, Nat.le_of_ble_eq_true rfl, Nat.le_of_ble_eq_true rfl⟩ rfl (Nat.le_of_ble_eq_true rfl) rfl rfl 10 rfl ?_
  refine v_callVN hX 1 (by decide) rfl rfl (f_settle hk hk2 hh2) tw_311 (List.mem_of_getElem? (i := 11) rfl) tw_98 tw_310 tw_6 (by decide +kernel) ⟨⟨rfl, rfl⟩, Nat.le_of_ble_eq_true rfl, Nat.le_of_ble_eq_true rfl⟩ rfl (Nat.le_of_ble_eq_true rfl) rfl rfl 11 rfl ?_
  refine v_iret hX hQ rfl rfl ?_ ?_ 12 rfl
  · rfl
  · rfl
set_option maxRecDepth 100000 in
set_option maxHeartbeats 4000000 in
theorem f_renew_no {Y : Yt} {M : Mm} {k n : Nat} (hk : k ≤ 6) (hkk : M.1 33 1 = nI k) (hh : ∀ i, i < 7 → isB (M.2 i) ∧ M.2 i ≠ 1) (hz : M.1 1 1 = nI n) (hn : n ≤ 24) (hw : WF (cp M 1) n) {x : Int32} (hx : x < 0 ∨ nI n ≤ x) : Fn Y yX6_renew wsX6_renew { frames := 3, cells := 0, slots := 0, locals := 67 } [.ref (Y.2.2.2 0), .int x] M (some (.int (-1))) ((seM ((cpB M (M.2 k) 1 n)) k (-1))) := by
  have hc := hh k (by omega)
  have hz1 : (cpB M (M.2 k) 1 n).1 1 1 = nI n := by rw [prz hc.1 hc.2 hn]; exact hz
  have hw1 : WF (cp (cpB M (M.2 k) 1 n) 1) n := prw hc.1 hc.2 hn (by omega) hw
  have hk1 : (cpB M (M.2 k) 1 n).1 33 1 = nI k := by rw [pro hc.1 hn (by omega)]; exact hkk
  have hfr : Fr (cpB M (M.2 k) 1 n) ((cpB M (M.2 k) 1 n)) := Fr.rf
  have hk2 : ((cpB M (M.2 k) 1 n)).1 33 1 = nI k := by rw [hfr.2 33 (by decide)]; exact hk1
  have hh2 : ∀ z9, z9 < 7 → isB (((cpB M (M.2 k) 1 n)).2 z9) ∧ ((cpB M (M.2 k) 1 n)).2 z9 ≠ 1 := by rw [hfr.1]; exact hh
  refine Fn.of (cc := cX6_renew) (ins := iX6_renew) (maxL := 2) (ret := (some .int)) (by decide) dX6_renew [some (.ref (Y.2.2.2 0)), some (.int x)] (Nat.le_of_ble_eq_true rfl) rfl rfl ?_
  intro X hX hQ
  refine v_aload_n hX 0 0 rfl rfl rfl ?_
  refine g_6_4 hX 1  tw_262 rfl ?_
  refine v_aload_n hX 0 2 rfl rfl rfl ?_
  refine g_6_0 hX 3  tw_258 rfl ?_
  refine v_callVN hX 1 (by decide) rfl rfl (f_prepare hk hkk hh hz hn hw) tw_287 (List.mem_of_getElem? (i := 7) rfl) tw_98 tw_286 tw_0 (by decide +kernel) ⟨⟨rfl, rfl⟩, Nat.le_of_ble_eq_true rfl, Nat.le_of_ble_eq_true rfl⟩ rfl (Nat.le_of_ble_eq_true rfl) rfl rfl 4 rfl ?_
  refine v_aload_n hX 0 5 rfl rfl rfl ?_
  refine g_6_4 hX 6  tw_262 rfl ?_
  refine v_aload_n hX 0 7 rfl rfl rfl ?_
  refine g_6_0 hX 8  tw_258 rfl ?_
  refine v_iload_n hX 1 9 rfl rfl rfl ?_
  refine v_callVN hX 1 (by have := isB_lt isB_1; omega) (cG_B isB_1) rfl (f_prolong_no isB_1 hz1 hn hx) tw_399 (List.mem_of_getElem? (i := 16) rfl) tw_93 tw_398 tw_21 (by decide +kernel) ⟨⟨rfl, rfl⟩, Nat.le_of_ble_eq_true rfl, Nat.le_of_ble_eq_true rfl⟩ rfl (Nat.le_of_ble_eq_true rfl) rfl rfl 10 rfl ?_
  refine v_callVN hX 1 (by decide) rfl rfl (f_settle hk hk2 hh2) tw_311 (List.mem_of_getElem? (i := 11) rfl) tw_98 tw_310 tw_6 (by decide +kernel) ⟨⟨rfl, rfl⟩, Nat.le_of_ble_eq_true rfl, Nat.le_of_ble_eq_true rfl⟩ rfl (Nat.le_of_ble_eq_true rfl) rfl rfl 11 rfl ?_
  refine v_iret hX hQ rfl rfl ?_ ?_ 12 rfl
  · rfl
  · rfl
set_option maxRecDepth 100000 in
set_option maxHeartbeats 4000000 in
theorem f_renew {Y : Yt} {M : Mm} {k n : Nat} (hk : k ≤ 6) (hkk : M.1 33 1 = nI k) (hh : ∀ i, i < 7 → isB (M.2 i) ∧ M.2 i ≠ 1) (hz : M.1 1 1 = nI n) (hn : n ≤ 24) (hw : WF (cp M 1) n) {i : Nat} (hi : i < n) : Fn Y yX6_renew wsX6_renew { frames := 3, cells := 0, slots := 0, locals := 67 } [.ref (Y.2.2.2 0), .int (nI i)] M (some (.int (prR (cpB M (M.2 k) 1 n) 1 i))) ((seM (prM (cpB M (M.2 k) 1 n) 1 i) k (prR (cpB M (M.2 k) 1 n) 1 i))) := by
  have hc := hh k (by omega)
  have hz1 : (cpB M (M.2 k) 1 n).1 1 1 = nI n := by rw [prz hc.1 hc.2 hn]; exact hz
  have hw1 : WF (cp (cpB M (M.2 k) 1 n) 1) n := prw hc.1 hc.2 hn (by omega) hw
  have hk1 : (cpB M (M.2 k) 1 n).1 33 1 = nI k := by rw [pro hc.1 hn (by omega)]; exact hkk
  have hfr : Fr (cpB M (M.2 k) 1 n) (prM (cpB M (M.2 k) 1 n) 1 i) := prM_fr (by omega)
  have hk2 : (prM (cpB M (M.2 k) 1 n) 1 i).1 33 1 = nI k := by rw [hfr.2 33 (by decide)]; exact hk1
  have hh2 : ∀ z9, z9 < 7 → isB ((prM (cpB M (M.2 k) 1 n) 1 i).2 z9) ∧ (prM (cpB M (M.2 k) 1 n) 1 i).2 z9 ≠ 1 := by rw [hfr.1]; exact hh
  refine Fn.of (cc := cX6_renew) (ins := iX6_renew) (maxL := 2) (ret := (some .int)) (by decide) dX6_renew [some (.ref (Y.2.2.2 0)), some (.int (nI i))] (Nat.le_of_ble_eq_true rfl) rfl rfl ?_
  intro X hX hQ
  refine v_aload_n hX 0 0 rfl rfl rfl ?_
  refine g_6_4 hX 1  tw_262 rfl ?_
  refine v_aload_n hX 0 2 rfl rfl rfl ?_
  refine g_6_0 hX 3  tw_258 rfl ?_
  refine v_callVN hX 1 (by decide) rfl rfl (f_prepare hk hkk hh hz hn hw) tw_287 (List.mem_of_getElem? (i := 7) rfl) tw_98 tw_286 tw_0 (by decide +kernel) ⟨⟨rfl, rfl⟩, Nat.le_of_ble_eq_true rfl, Nat.le_of_ble_eq_true rfl⟩ rfl (Nat.le_of_ble_eq_true rfl) rfl rfl 4 rfl ?_
  refine v_aload_n hX 0 5 rfl rfl rfl ?_
  refine g_6_4 hX 6  tw_262 rfl ?_
  refine v_aload_n hX 0 7 rfl rfl rfl ?_
  refine g_6_0 hX 8  tw_258 rfl ?_
  refine v_iload_n hX 1 9 rfl rfl rfl ?_
  refine v_callVN hX 1 (by have := isB_lt isB_1; omega) (cG_B isB_1) rfl (f_prolong isB_1 hz1 hn hi) tw_399 (List.mem_of_getElem? (i := 16) rfl) tw_93 tw_398 tw_21 (by decide +kernel) ⟨⟨rfl, rfl⟩, Nat.le_of_ble_eq_true rfl, Nat.le_of_ble_eq_true rfl⟩ rfl (Nat.le_of_ble_eq_true rfl) rfl rfl 10 rfl ?_
  refine v_callVN hX 1 (by decide) rfl rfl (f_settle hk hk2 hh2) tw_311 (List.mem_of_getElem? (i := 11) rfl) tw_98 tw_310 tw_6 (by decide +kernel) ⟨⟨rfl, rfl⟩, Nat.le_of_ble_eq_true rfl, Nat.le_of_ble_eq_true rfl⟩ rfl (Nat.le_of_ble_eq_true rfl) rfl rfl 11 rfl ?_
  refine v_iret hX hQ rfl rfl ?_ ?_ 12 rfl
  · rfl
  · rfl
set_option maxRecDepth 100000 in
set_option maxHeartbeats 4000000 in
theorem f_overrule {Y : Yt} {M : Mm} {w : Int32} {k n : Nat} (hk : k ≤ 6) (hkk : M.1 33 1 = nI k) (hh : ∀ i, i < 7 → isB (M.2 i) ∧ M.2 i ≠ 1) (hz : M.1 1 1 = nI n) (hn : n ≤ 24) (hw : WF (cp M 1) n) : Fn Y yX6_overrule wsX6_overrule { frames := 3, cells := 0, slots := 0, locals := 67 } [.ref (Y.2.2.2 0), .int w] M (some (.int (tcR (cpB M (M.2 k) 1 n) 1 w))) ((seM (tcM (cpB M (M.2 k) 1 n) 1 w) k (tcR (cpB M (M.2 k) 1 n) 1 w))) := by
  have hc := hh k (by omega)
  have hz1 : (cpB M (M.2 k) 1 n).1 1 1 = nI n := by rw [prz hc.1 hc.2 hn]; exact hz
  have hw1 : WF (cp (cpB M (M.2 k) 1 n) 1) n := prw hc.1 hc.2 hn (by omega) hw
  have hk1 : (cpB M (M.2 k) 1 n).1 33 1 = nI k := by rw [pro hc.1 hn (by omega)]; exact hkk
  have hfr : Fr (cpB M (M.2 k) 1 n) (tcM (cpB M (M.2 k) 1 n) 1 w) := tcM_fr
  have hk2 : (tcM (cpB M (M.2 k) 1 n) 1 w).1 33 1 = nI k := by rw [hfr.2 33 (by decide)]; exact hk1
  have hh2 : ∀ z9, z9 < 7 → isB ((tcM (cpB M (M.2 k) 1 n) 1 w).2 z9) ∧ (tcM (cpB M (M.2 k) 1 n) 1 w).2 z9 ≠ 1 := by rw [hfr.1]; exact hh
  refine Fn.of (cc := cX6_overrule) (ins := iX6_overrule) (maxL := 2) (ret := (some .int)) (by decide) dX6_overrule [some (.ref (Y.2.2.2 0)), some (.int w)] (Nat.le_of_ble_eq_true rfl) rfl rfl ?_
  intro X hX hQ
  refine v_aload_n hX 0 0 rfl rfl rfl ?_
  refine g_6_4 hX 1  tw_262 rfl ?_
  refine v_aload_n hX 0 2 rfl rfl rfl ?_
  refine g_6_0 hX 3  tw_258 rfl ?_
  refine v_callVN hX 1 (by decide) rfl rfl (f_prepare hk hkk hh hz hn hw) tw_287 (List.mem_of_getElem? (i := 7) rfl) tw_98 tw_286 tw_0 (by decide +kernel) ⟨⟨rfl, rfl⟩, Nat.le_of_ble_eq_true rfl, Nat.le_of_ble_eq_true rfl⟩ rfl (Nat.le_of_ble_eq_true rfl) rfl rfl 4 rfl ?_
  refine v_aload_n hX 0 5 rfl rfl rfl ?_
  refine g_6_4 hX 6  tw_262 rfl ?_
  refine v_aload_n hX 0 7 rfl rfl rfl ?_
  refine g_6_0 hX 8  tw_258 rfl ?_
  refine v_iload_n hX 1 9 rfl rfl rfl ?_
  refine v_callVN hX 1 (by have := isB_lt isB_1; omega) (cG_B isB_1) rfl (f_turnCase isB_1) tw_407 (List.mem_of_getElem? (i := 17) rfl) tw_93 tw_406 tw_22 (by decide +kernel) ⟨⟨rfl, rfl⟩, Nat.le_of_ble_eq_true rfl, Nat.le_of_ble_eq_true rfl⟩ rfl (Nat.le_of_ble_eq_true rfl) rfl rfl 10 rfl ?_
  refine v_callVN hX 1 (by decide) rfl rfl (f_settle hk hk2 hh2) tw_311 (List.mem_of_getElem? (i := 11) rfl) tw_98 tw_310 tw_6 (by decide +kernel) ⟨⟨rfl, rfl⟩, Nat.le_of_ble_eq_true rfl, Nat.le_of_ble_eq_true rfl⟩ rfl (Nat.le_of_ble_eq_true rfl) rfl rfl 11 rfl ?_
  refine v_iret hX hQ rfl rfl ?_ ?_ 12 rfl
  · rfl
  · rfl
set_option maxRecDepth 100000 in
set_option maxHeartbeats 4000000 in
theorem f_pass {Y : Yt} {M : Mm} {d : Int32} {k n : Nat} (hk : k ≤ 6) (hkk : M.1 33 1 = nI k) (hh : ∀ i, i < 7 → isB (M.2 i) ∧ M.2 i ≠ 1) (hz : M.1 1 1 = nI n) (hn : n ≤ 24) (hw : WF (cp M 1) n) : Fn Y yX6_pass wsX6_pass { frames := 5, cells := 0, slots := 0, locals := 109 } [.ref (Y.2.2.2 0), .int d] M (some (.int (moR (cpB M (M.2 k) 1 n) 1 n d))) ((seM (moM (cpB M (M.2 k) 1 n) 1 d) k (moR (cpB M (M.2 k) 1 n) 1 n d))) := by
  have hc := hh k (by omega)
  have hz1 : (cpB M (M.2 k) 1 n).1 1 1 = nI n := by rw [prz hc.1 hc.2 hn]; exact hz
  have hw1 : WF (cp (cpB M (M.2 k) 1 n) 1) n := prw hc.1 hc.2 hn (by omega) hw
  have hk1 : (cpB M (M.2 k) 1 n).1 33 1 = nI k := by rw [pro hc.1 hn (by omega)]; exact hkk
  have hfr : Fr (cpB M (M.2 k) 1 n) (moM (cpB M (M.2 k) 1 n) 1 d) := moM_fr
  have hk2 : (moM (cpB M (M.2 k) 1 n) 1 d).1 33 1 = nI k := by rw [hfr.2 33 (by decide)]; exact hk1
  have hh2 : ∀ z9, z9 < 7 → isB ((moM (cpB M (M.2 k) 1 n) 1 d).2 z9) ∧ (moM (cpB M (M.2 k) 1 n) 1 d).2 z9 ≠ 1 := by rw [hfr.1]; exact hh
  refine Fn.of (cc := cX6_pass) (ins := iX6_pass) (maxL := 2) (ret := (some .int)) (by decide) dX6_pass [some (.ref (Y.2.2.2 0)), some (.int d)] (Nat.le_of_ble_eq_true rfl) rfl rfl ?_
  intro X hX hQ
  refine v_aload_n hX 0 0 rfl rfl rfl ?_
  refine g_6_4 hX 1  tw_262 rfl ?_
  refine v_aload_n hX 0 2 rfl rfl rfl ?_
  refine g_6_0 hX 3  tw_258 rfl ?_
  refine v_callVN hX 1 (by decide) rfl rfl (f_prepare hk hkk hh hz hn hw) tw_287 (List.mem_of_getElem? (i := 7) rfl) tw_98 tw_286 tw_0 (by decide +kernel) ⟨⟨rfl, rfl⟩, Nat.le_of_ble_eq_true rfl, Nat.le_of_ble_eq_true rfl⟩ rfl (Nat.le_of_ble_eq_true rfl) rfl rfl 4 rfl ?_
  refine v_aload_n hX 0 5 rfl rfl rfl ?_
  refine g_6_4 hX 6  tw_262 rfl ?_
  refine v_aload_n hX 0 7 rfl rfl rfl ?_
  refine g_6_0 hX 8  tw_258 rfl ?_
  refine v_iload_n hX 1 9 rfl rfl rfl ?_
  refine v_callVN hX 1 (by have := isB_lt isB_1; omega) (cG_B isB_1) rfl (f_moveOn isB_1 hz1 hn hw1) tw_415 (List.mem_of_getElem? (i := 18) rfl) tw_93 tw_414 tw_23 (by decide +kernel) ⟨⟨rfl, rfl⟩, Nat.le_of_ble_eq_true rfl, Nat.le_of_ble_eq_true rfl⟩ rfl (Nat.le_of_ble_eq_true rfl) rfl rfl 10 rfl ?_
  refine v_callVN hX 1 (by decide) rfl rfl (f_settle hk hk2 hh2) tw_311 (List.mem_of_getElem? (i := 11) rfl) tw_98 tw_310 tw_6 (by decide +kernel) ⟨⟨rfl, rfl⟩, Nat.le_of_ble_eq_true rfl, Nat.le_of_ble_eq_true rfl⟩ rfl (Nat.le_of_ble_eq_true rfl) rfl rfl 11 rfl ?_
  refine v_iret hX hQ rfl rfl ?_ ?_ 12 rfl
  · rfl
  · rfl
set_option maxRecDepth 100000 in
set_option maxHeartbeats 4000000 in
theorem f_lowestOf {Y : Yt} {M : Mm} {x : Int32} : Fn Y yX6_lowestOf wsX6_lowestOf { frames := 1, cells := 0, slots := 0, locals := 21 } [.int x] M (some (.int (lo x 24 0))) M := by
  refine Fn.of (cc := cX6_lowestOf) (ins := iX6_lowestOf) (maxL := 2) (ret := (some .int)) (by decide) dX6_lowestOf [some (.int x), none] (Nat.le_of_ble_eq_true rfl) rfl rfl ?_
  intro X hX hQ
  refine v_iconst hX (v := 0) 0 rfl (by decide) ?_
  refine v_istore_n hX 1 1 rfl rfl (Nat.le_of_ble_eq_true rfl) rfl ?_
  have lp : ∀ (k : Nat), k ≤ 24 → lo x (24 - k) k = lo x 24 0 → V Y X M 2 [some (.int x), some (.int (nI k))] [] := by
    refine upTo 24 (fun k hk ih => ?_)
    intro he
    refine v_iload_n hX 1 2 rfl rfl rfl ?_
    refine v_bipush hX (v := 24) 3 rfl (by decide) ?_
    refine v_icmp_ge hX (tgt := 24) 4 rfl (by decide) (fun c5 => ?_) (fun c5 => ?_)
    · skip
      have hk2 : k = 24 := by have := of_le (a := 24) c5 (by omega) (by omega); omega
      subst hk2
      have he2 : (-6 : Int32) = lo x 24 0 := he
      refine v_bipush hX (v := (-6)) 13 rfl (by decide) ?_
      refine v_iret hX hQ rfl rfl ?_ ?_ 14 rfl
      · rw [he2]
      · rfl
    · skip
      have hk2 : k < 24 := of_nle (a := 24) c5 (by omega) (by omega)
      obtain ⟨f, hf⟩ : ∃ f, 24 - k = f + 1 := ⟨23 - k, by omega⟩
      rw [hf, lo] at he
      refine v_iload_n hX 0 5 rfl rfl rfl ?_
      refine v_iload_n hX 1 6 rfl rfl rfl ?_
      refine v_callS hX 2 (f_has) tw_381 tw_422 tw_380 tw_92 (by decide +kernel) ⟨⟨rfl, rfl⟩, Nat.le_of_ble_eq_true rfl, Nat.le_of_ble_eq_true rfl⟩ rfl (Nat.le_of_ble_eq_true rfl) rfl rfl 7 rfl ?_
      refine v_if_eq hX (tgt := 18) 8 rfl (by decide) (fun c13 => ?_) (fun c13 => ?_)
      · skip
        rw [if_neg (by rw [hasv_eq (by omega) c13]; decide)] at he
        refine v_iinc hX 11 rfl rfl (nI_inc k) (Nat.le_of_ble_eq_true rfl) rfl ?_
        refine v_goto hX (tgt := 2) 12 rfl (by decide) ?_
        exact V.sub (ih hk2 (by rw [show 24 - (k + 1) = f by omega]; exact he)) rfl ⟨rfl, rfl, trivial⟩
      · skip
        rw [if_pos (hasv_ne (by omega) c13)] at he
        refine v_iload_n hX 1 9 rfl rfl rfl ?_
        refine v_iret hX hQ rfl rfl ?_ ?_ 10 rfl
        · rw [he]
        · rfl
  exact V.sub (lp 0 (Nat.zero_le _) rfl) rfl ⟨rfl, rfl, trivial⟩
set_option maxRecDepth 100000 in
set_option maxHeartbeats 4000000 in
theorem f_of_no {Y : Yt} {M : Mm} {n : Nat} {x w : Int32} (hz : M.1 1 1 = nI n) (hn : n ≤ 24) (hx : x < 0 ∨ nI n ≤ x) : Fn Y yX6_of wsX6_of { frames := 5, cells := 0, slots := 0, locals := 109 } [.ref (Y.2.2.2 0), .int x, .int w] M (some (.int (-1))) M := by
  refine Fn.of (cc := cX6_of) (ins := iX6_of) (maxL := 4) (ret := (some .int)) (by decide) dX6_of [some (.ref (Y.2.2.2 0)), some (.int x), some (.int w), none] (Nat.le_of_ble_eq_true rfl) rfl rfl ?_
  intro X hX hQ
  refine v_aload_n hX 0 0 rfl rfl rfl ?_
  refine g_6_0 hX 1  tw_258 rfl ?_
  refine v_iload_n hX 1 2 rfl rfl rfl ?_
  refine v_callVN hX 1 (by decide) (cG_B isB_1) rfl (f_find_out isB_1 hz hx) tw_299 (List.mem_of_getElem? (i := 19) rfl) tw_93 tw_298 tw_3 (by decide +kernel) ⟨⟨rfl, rfl⟩, Nat.le_of_ble_eq_true rfl, Nat.le_of_ble_eq_true rfl⟩ rfl (Nat.le_of_ble_eq_true rfl) rfl rfl 3 rfl ?_
  refine v_astore_nN hX 3 4 rfl rfl (Nat.le_of_ble_eq_true rfl) rfl ?_
  refine v_aload_nN hX 3 5 rfl rfl rfl ?_
  refine v_ifnonnullN hX 6 rfl ?_
  refine v_iconst hX (v := (-1)) 7 rfl (by decide) ?_
  refine v_iret hX hQ rfl rfl ?_ ?_ 8 rfl
  · rfl
  · rfl
set_option maxRecDepth 100000 in
set_option maxHeartbeats 4000000 in
theorem f_of {Y : Yt} {M : Mm} {n i : Nat} {w : Int32} (hz : M.1 1 1 = nI n) (hn : n ≤ 24) (hw : WF (cp M 1) n) (hi : i < n) : Fn Y yX6_of wsX6_of { frames := 5, cells := 0, slots := 0, locals := 109 } [.ref (Y.2.2.2 0), .int (nI i), .int w] M (some (.int (ofR M n i w))) M := by
  refine Fn.of (cc := cX6_of) (ins := iX6_of) (maxL := 4) (ret := (some .int)) (by decide) dX6_of [some (.ref (Y.2.2.2 0)), some (.int (nI i)), some (.int w), none] (Nat.le_of_ble_eq_true rfl) rfl rfl ?_
  intro X hX hQ
  refine v_aload_n hX 0 0 rfl rfl rfl ?_
  refine g_6_0 hX 1  tw_258 rfl ?_
  refine v_iload_n hX 1 2 rfl rfl rfl ?_
  refine v_callVN hX 1 (by decide) (cG_B isB_1) rfl (f_find_in isB_1 hz hn hi) tw_299 (List.mem_of_getElem? (i := 19) rfl) tw_93 tw_298 tw_3 (by decide +kernel) ⟨⟨rfl, rfl⟩, Nat.le_of_ble_eq_true rfl, Nat.le_of_ble_eq_true rfl⟩ rfl (Nat.le_of_ble_eq_true rfl) rfl rfl 3 rfl ?_
  refine v_astore_n hX 3 4 rfl rfl (Nat.le_of_ble_eq_true rfl) rfl ?_
  refine v_aload_n hX 3 5 rfl rfl rfl ?_
  refine v_ifnonnull hX (tgt := 15) 6 rfl (by decide) ?_
  refine v_iload_n hX 2 9 rfl rfl rfl ?_
  rcases sw11 w with hc | hc | hc | hc | hc | hc | hc | hc | hc | hc | hc | hc
  · skip
    subst hc
    refine v_tableIn hX (off := 60) (tgt := 76) 10 rfl (by decide) (by decide) (by decide) (by decide) ?_
    refine v_aload_n hX 3 11 rfl rfl rfl ?_
    refine gN_4_0 hX 12 isB_1 (by omega) (List.mem_of_getElem? (i := 1) rfl) rfl ?_
    refine v_iret hX hQ rfl rfl ?_ ?_ 13 rfl
    · simp (decide := true) only [ofR, if_true, if_false]
    · rfl
  · skip
    subst hc
    refine v_tableIn hX (off := 65) (tgt := 81) 10 rfl (by decide) (by decide) (by decide) (by decide) ?_
    refine v_aload_n hX 3 14 rfl rfl rfl ?_
    refine gN_4_1 hX 15 isB_1 (by omega) (List.mem_of_getElem? (i := 3) rfl) rfl ?_
    refine v_iret hX hQ rfl rfl ?_ ?_ 16 rfl
    · simp (decide := true) only [ofR, if_true, if_false]
    · rfl
  · skip
    subst hc
    refine v_tableIn hX (off := 70) (tgt := 86) 10 rfl (by decide) (by decide) (by decide) (by decide) ?_
    refine v_aload_n hX 3 17 rfl rfl rfl ?_
    refine gN_4_4 hX 18 isB_1 (by omega) (List.mem_of_getElem? (i := 10) rfl) rfl ?_
    refine v_iret hX hQ rfl rfl ?_ ?_ 19 rfl
    · simp (decide := true) only [ofR, if_true, if_false]
    · rfl
  · skip
    subst hc
    refine v_tableIn hX (off := 75) (tgt := 91) 10 rfl (by decide) (by decide) (by decide) (by decide) ?_
    refine v_aload_n hX 3 20 rfl rfl rfl ?_
    refine gN_4_3 hX 21 isB_1 (by omega) (List.mem_of_getElem? (i := 8) rfl) rfl ?_
    refine v_iret hX hQ rfl rfl ?_ ?_ 22 rfl
    · simp (decide := true) only [ofR, if_true, if_false]
    · rfl
  · skip
    subst hc
    refine v_tableIn hX (off := 80) (tgt := 96) 10 rfl (by decide) (by decide) (by decide) (by decide) ?_
    refine v_aload_n hX 3 23 rfl rfl rfl ?_
    refine gN_4_2 hX 24 isB_1 (by omega) (List.mem_of_getElem? (i := 5) rfl) rfl ?_
    refine v_iret hX hQ rfl rfl ?_ ?_ 25 rfl
    · simp (decide := true) only [ofR, if_true, if_false]
    · rfl
  · skip
    subst hc
    refine v_tableIn hX (off := 85) (tgt := 101) 10 rfl (by decide) (by decide) (by decide) (by decide) ?_
    refine v_aload_n hX 0 26 rfl rfl rfl ?_
    refine g_6_0 hX 27  tw_258 rfl ?_
    refine v_callVN hX 0 (by decide) (cG_B isB_1) rfl (f_standing isB_1 hz hn hw) tw_354 (List.mem_of_getElem? (i := 20) rfl) tw_93 tw_353 tw_13 (by decide +kernel) ⟨⟨rfl, rfl⟩, Nat.le_of_ble_eq_true rfl, Nat.le_of_ble_eq_true rfl⟩ rfl (Nat.le_of_ble_eq_true rfl) rfl rfl 28 rfl ?_
    refine v_iload_n hX 1 29 rfl rfl rfl ?_
    refine v_callS hX 2 (f_has) tw_381 tw_422 tw_380 tw_92 (by decide +kernel) ⟨⟨rfl, rfl⟩, Nat.le_of_ble_eq_true rfl, Nat.le_of_ble_eq_true rfl⟩ rfl (Nat.le_of_ble_eq_true rfl) rfl rfl 30 rfl ?_
    refine v_if_eq hX (tgt := 119) 31 rfl (by decide) (fun c112 => ?_) (fun c112 => ?_)
    · skip
      have q1 := hasv_eq (by omega) c112
      rw [bt_mk _ (by omega) (by omega), decide_eq_true hi, Bool.true_and] at q1
      refine v_iconst hX (v := 0) 34 rfl (by decide) ?_
      refine v_iret hX hQ rfl rfl ?_ ?_ 35 rfl
      · simp (decide := true) only [ofR, q1, if_true, if_false]
      · rfl
    · skip
      have q1 := hasv_ne (by omega) c112
      rw [bt_mk _ (by omega) (by omega), decide_eq_true hi, Bool.true_and] at q1
      refine v_iconst hX (v := 1) 32 rfl (by decide) ?_
      refine v_goto hX (tgt := 120) 33 rfl (by decide) ?_
      refine v_iret hX hQ rfl rfl ?_ ?_ 35 rfl
      · simp (decide := true) only [ofR, q1, if_true, if_false]
      · rfl
  · skip
    subst hc
    refine v_tableIn hX (off := 105) (tgt := 121) 10 rfl (by decide) (by decide) (by decide) (by decide) ?_
    refine v_aload_n hX 0 36 rfl rfl rfl ?_
    refine g_6_0 hX 37  tw_258 rfl ?_
    refine v_iload_n hX 1 38 rfl rfl rfl ?_
    refine v_callVN hX 1 (by decide) (cG_B isB_1) rfl (f_reasonAgainst isB_1 hz hn hi hw) tw_426 (List.mem_of_getElem? (i := 21) rfl) tw_93 tw_425 tw_24 (by decide +kernel) ⟨⟨rfl, rfl⟩, Nat.le_of_ble_eq_true rfl, Nat.le_of_ble_eq_true rfl⟩ rfl (Nat.le_of_ble_eq_true rfl) rfl rfl 39 rfl ?_
    refine v_iret hX hQ rfl rfl ?_ ?_ 40 rfl
    · simp (decide := true) only [ofR, if_true, if_false]
    · rfl
  · skip
    subst hc
    refine v_tableIn hX (off := 114) (tgt := 130) 10 rfl (by decide) (by decide) (by decide) (by decide) ?_
    refine v_aload_n hX 0 41 rfl rfl rfl ?_
    refine g_6_0 hX 42  tw_258 rfl ?_
    refine v_iload_n hX 1 43 rfl rfl rfl ?_
    refine v_callVN hX 1 (by decide) (cG_B isB_1) rfl (f_answersTo isB_1 hz hn) tw_430 (List.mem_of_getElem? (i := 22) rfl) tw_93 tw_429 tw_25 (by decide +kernel) ⟨⟨rfl, rfl⟩, Nat.le_of_ble_eq_true rfl, Nat.le_of_ble_eq_true rfl⟩ rfl (Nat.le_of_ble_eq_true rfl) rfl rfl 44 rfl ?_
    rw [mk_F]
    refine v_aload_n hX 0 45 rfl rfl rfl ?_
    refine g_6_0 hX 46  tw_258 rfl ?_
    refine v_callVN hX 0 (by decide) (cG_B isB_1) rfl (f_standing isB_1 hz hn hw) tw_354 (List.mem_of_getElem? (i := 20) rfl) tw_93 tw_353 tw_13 (by decide +kernel) ⟨⟨rfl, rfl⟩, Nat.le_of_ble_eq_true rfl, Nat.le_of_ble_eq_true rfl⟩ rfl (Nat.le_of_ble_eq_true rfl) rfl rfl 47 rfl ?_
    refine v_iand hX 48 rfl ?_
    refine v_callS hX 1 (f_lowestOf) tw_433 tw_431 tw_432 tw_92 (by decide +kernel) ⟨⟨rfl, rfl⟩, Nat.le_of_ble_eq_true rfl, Nat.le_of_ble_eq_true rfl⟩ rfl (Nat.le_of_ble_eq_true rfl) rfl rfl 49 rfl ?_
    refine v_iret hX hQ rfl rfl ?_ ?_ 50 rfl
    · simp (decide := true) only [ofR, if_true, if_false]
    · rfl
  · skip
    subst hc
    refine v_tableIn hX (off := 134) (tgt := 150) 10 rfl (by decide) (by decide) (by decide) (by decide) ?_
    refine v_aload_n hX 0 51 rfl rfl rfl ?_
    refine g_6_0 hX 52  tw_258 rfl ?_
    refine v_iload_n hX 1 53 rfl rfl rfl ?_
    refine v_callVN hX 1 (by decide) (cG_B isB_1) rfl (f_answersTo isB_1 hz hn) tw_430 (List.mem_of_getElem? (i := 22) rfl) tw_93 tw_429 tw_25 (by decide +kernel) ⟨⟨rfl, rfl⟩, Nat.le_of_ble_eq_true rfl, Nat.le_of_ble_eq_true rfl⟩ rfl (Nat.le_of_ble_eq_true rfl) rfl rfl 54 rfl ?_
    rw [mk_F]
    refine v_iret hX hQ rfl rfl ?_ ?_ 55 rfl
    · simp (decide := true) only [ofR, if_true, if_false]
    · rfl
  · skip
    subst hc
    refine v_tableIn hX (off := 143) (tgt := 159) 10 rfl (by decide) (by decide) (by decide) (by decide) ?_
    refine v_aload_n hX 0 56 rfl rfl rfl ?_
    refine g_6_0 hX 57  tw_258 rfl ?_
    refine v_iload_n hX 1 58 rfl rfl rfl ?_
    refine v_callVN hX 1 (by decide) (cG_B isB_1) rfl (f_depthOf isB_1 hz hn hi hw) tw_437 (List.mem_of_getElem? (i := 23) rfl) tw_93 tw_436 tw_26 (by decide +kernel) ⟨⟨rfl, rfl⟩, Nat.le_of_ble_eq_true rfl, Nat.le_of_ble_eq_true rfl⟩ rfl (Nat.le_of_ble_eq_true rfl) rfl rfl 59 rfl ?_
    refine v_iret hX hQ rfl rfl ?_ ?_ 60 rfl
    · simp (decide := true) only [ofR, if_true, if_false]
    · rfl
  · skip
    subst hc
    refine v_tableIn hX (off := 152) (tgt := 168) 10 rfl (by decide) (by decide) (by decide) (by decide) ?_
    refine v_aload_n hX 0 61 rfl rfl rfl ?_
    refine g_6_0 hX 62  tw_258 rfl ?_
    refine v_aload_n hX 3 63 rfl rfl rfl ?_
    refine v_callVN hX 1 (by decide) (cG_B isB_1) rfl (f_daysLeft isB_1 hz hn hi) tw_441 (List.mem_of_getElem? (i := 24) rfl) tw_93 tw_440 tw_27 (by decide +kernel) ⟨⟨rfl, rfl⟩, Nat.le_of_ble_eq_true rfl, Nat.le_of_ble_eq_true rfl⟩ rfl (Nat.le_of_ble_eq_true rfl) rfl rfl 64 rfl ?_
    refine v_iret hX hQ rfl rfl ?_ ?_ 65 rfl
    · simp (decide := true) only [ofR, if_true, if_false]
    · rfl
  · skip
    have hne : ∀ c : Nat, c ≤ 10 → ¬ w = nI c := fun c h9 => sw_ne (m := 10) hc h9 (by decide)
    refine v_tableOut hX (tgt := 177) 10 rfl hc (by decide) ?_
    refine v_bipush hX (v := (-2)) 66 rfl (by decide) ?_
    refine v_iret hX hQ rfl rfl ?_ ?_ 67 rfl
    · unfold ofR; rw [if_neg (show ¬ w = 0 from hne 0 (by decide)), if_neg (show ¬ w = 1 from hne 1 (by decide)), if_neg (show ¬ w = 2 from hne 2 (by decide)), if_neg (show ¬ w = 3 from hne 3 (by decide)), if_neg (show ¬ w = 4 from hne 4 (by decide)), if_neg (show ¬ w = 5 from hne 5 (by decide)), if_neg (show ¬ w = 6 from hne 6 (by decide)), if_neg (show ¬ w = 7 from hne 7 (by decide)), if_neg (show ¬ w = 8 from hne 8 (by decide)), if_neg (show ¬ w = 9 from hne 9 (by decide)), if_neg (show ¬ w = 10 from hne 10 (by decide))]
    · rfl
set_option maxRecDepth 100000 in
set_option maxHeartbeats 4000000 in
theorem f_count {Y : Yt} {M : Mm} {w : Int32} {n : Nat} (hz : M.1 1 1 = nI n) (hn : n ≤ 24) (hw : WF (cp M 1) n) : Fn Y yX6_count wsX6_count { frames := 5, cells := 0, slots := 0, locals := 108 } [.ref (Y.2.2.2 0), .int w] M (some (.int (coR M n 0 w))) M := by
  refine Fn.of (cc := cX6_count) (ins := iX6_count) (maxL := 2) (ret := (some .int)) (by decide) dX6_count [some (.ref (Y.2.2.2 0)), some (.int w)] (Nat.le_of_ble_eq_true rfl) rfl rfl ?_
  intro X hX hQ
  refine v_iload_n hX 1 0 rfl rfl rfl ?_
  rcases sw14 w with hc | hc | hc | hc | hc | hc | hc | hc | hc | hc | hc | hc | hc | hc | hc
  · skip
    subst hc
    refine v_tableIn hX (off := 71) (tgt := 72) 1 rfl (by decide) (by decide) (by decide) (by decide) ?_
    refine v_aload_n hX 0 2 rfl rfl rfl ?_
    refine g_6_0 hX 3  tw_258 rfl ?_
    refine gN_0_2 hX 4 isB_1 (List.mem_of_getElem? (i := 14) rfl) rfl ?_
    refine v_iret hX hQ rfl rfl ?_ ?_ 5 rfl
    · simp (decide := true) only [coR, if_true, if_false]
    · rfl
  · skip
    subst hc
    refine v_tableIn hX (off := 79) (tgt := 80) 1 rfl (by decide) (by decide) (by decide) (by decide) ?_
    refine v_aload_n hX 0 6 rfl rfl rfl ?_
    refine g_6_0 hX 7  tw_258 rfl ?_
    refine gN_0_1 hX 8 isB_1 (List.mem_of_getElem? (i := 13) rfl) rfl ?_
    refine v_iret hX hQ rfl rfl ?_ ?_ 9 rfl
    · simp (decide := true) only [coR, if_true, if_false]
    · rfl
  · skip
    subst hc
    refine v_tableIn hX (off := 87) (tgt := 88) 1 rfl (by decide) (by decide) (by decide) (by decide) ?_
    refine v_aload_n hX 0 10 rfl rfl rfl ?_
    refine g_6_0 hX 11  tw_258 rfl ?_
    refine v_callVN hX 0 (by decide) (cG_B isB_1) rfl (f_claims isB_1 hz hn) tw_449 (List.mem_of_getElem? (i := 25) rfl) tw_93 tw_448 tw_28 (by decide +kernel) ⟨⟨rfl, rfl⟩, Nat.le_of_ble_eq_true rfl, Nat.le_of_ble_eq_true rfl⟩ rfl (Nat.le_of_ble_eq_true rfl) rfl rfl 12 rfl ?_
    rw [mk_F]
    refine v_callS hX 1 (f_bitCount) tw_388 tw_451 tw_387 tw_100 (by decide +kernel) ⟨⟨rfl, rfl⟩, Nat.le_of_ble_eq_true rfl, Nat.le_of_ble_eq_true rfl⟩ rfl (Nat.le_of_ble_eq_true rfl) rfl rfl 13 rfl ?_
    refine v_iret hX hQ rfl rfl ?_ ?_ 14 rfl
    · simp (decide := true) only [coR, if_true, if_false]
    · rfl
  · skip
    subst hc
    refine v_tableIn hX (off := 98) (tgt := 99) 1 rfl (by decide) (by decide) (by decide) (by decide) ?_
    refine v_aload_n hX 0 15 rfl rfl rfl ?_
    refine g_6_0 hX 16  tw_258 rfl ?_
    refine v_callVN hX 0 (by decide) (cG_B isB_1) rfl (f_standing isB_1 hz hn hw) tw_354 (List.mem_of_getElem? (i := 20) rfl) tw_93 tw_353 tw_13 (by decide +kernel) ⟨⟨rfl, rfl⟩, Nat.le_of_ble_eq_true rfl, Nat.le_of_ble_eq_true rfl⟩ rfl (Nat.le_of_ble_eq_true rfl) rfl rfl 17 rfl ?_
    refine v_callS hX 1 (f_bitCount) tw_388 tw_451 tw_387 tw_100 (by decide +kernel) ⟨⟨rfl, rfl⟩, Nat.le_of_ble_eq_true rfl, Nat.le_of_ble_eq_true rfl⟩ rfl (Nat.le_of_ble_eq_true rfl) rfl rfl 18 rfl ?_
    refine v_iret hX hQ rfl rfl ?_ ?_ 19 rfl
    · simp (decide := true) only [coR, if_true, if_false]
    · rfl
  · skip
    subst hc
    refine v_tableIn hX (off := 109) (tgt := 110) 1 rfl (by decide) (by decide) (by decide) (by decide) ?_
    refine v_aload_n hX 0 20 rfl rfl rfl ?_
    refine g_6_0 hX 21  tw_258 rfl ?_
    refine v_callVN hX 0 (by decide) (cG_B isB_1) rfl (f_claims isB_1 hz hn) tw_449 (List.mem_of_getElem? (i := 25) rfl) tw_93 tw_448 tw_28 (by decide +kernel) ⟨⟨rfl, rfl⟩, Nat.le_of_ble_eq_true rfl, Nat.le_of_ble_eq_true rfl⟩ rfl (Nat.le_of_ble_eq_true rfl) rfl rfl 22 rfl ?_
    rw [mk_F]
    refine v_aload_n hX 0 23 rfl rfl rfl ?_
    refine g_6_0 hX 24  tw_258 rfl ?_
    refine v_callVN hX 0 (by decide) (cG_B isB_1) rfl (f_standing isB_1 hz hn hw) tw_354 (List.mem_of_getElem? (i := 20) rfl) tw_93 tw_353 tw_13 (by decide +kernel) ⟨⟨rfl, rfl⟩, Nat.le_of_ble_eq_true rfl, Nat.le_of_ble_eq_true rfl⟩ rfl (Nat.le_of_ble_eq_true rfl) rfl rfl 25 rfl ?_
    refine v_iand hX 26 rfl ?_
    refine v_callS hX 1 (f_bitCount) tw_388 tw_451 tw_387 tw_100 (by decide +kernel) ⟨⟨rfl, rfl⟩, Nat.le_of_ble_eq_true rfl, Nat.le_of_ble_eq_true rfl⟩ rfl (Nat.le_of_ble_eq_true rfl) rfl rfl 27 rfl ?_
    refine v_iret hX hQ rfl rfl ?_ ?_ 28 rfl
    · simp (decide := true) only [coR, if_true, if_false]
    · rfl
  · skip
    subst hc
    refine v_tableIn hX (off := 128) (tgt := 129) 1 rfl (by decide) (by decide) (by decide) (by decide) ?_
    refine v_aload_n hX 0 29 rfl rfl rfl ?_
    refine g_6_0 hX 30  tw_258 rfl ?_
    refine v_callVN hX 0 (by decide) (cG_B isB_1) rfl (f_out isB_1 hz hn hw) tw_358 (List.mem_of_getElem? (i := 26) rfl) tw_93 tw_357 tw_14 (by decide +kernel) ⟨⟨rfl, rfl⟩, Nat.le_of_ble_eq_true rfl, Nat.le_of_ble_eq_true rfl⟩ rfl (Nat.le_of_ble_eq_true rfl) rfl rfl 31 rfl ?_
    refine v_callS hX 1 (f_bitCount) tw_388 tw_451 tw_387 tw_100 (by decide +kernel) ⟨⟨rfl, rfl⟩, Nat.le_of_ble_eq_true rfl, Nat.le_of_ble_eq_true rfl⟩ rfl (Nat.le_of_ble_eq_true rfl) rfl rfl 32 rfl ?_
    refine v_iret hX hQ rfl rfl ?_ ?_ 33 rfl
    · simp (decide := true) only [coR, if_true, if_false]
    · rfl
  · skip
    subst hc
    refine v_tableIn hX (off := 139) (tgt := 140) 1 rfl (by decide) (by decide) (by decide) (by decide) ?_
    refine v_aload_n hX 0 34 rfl rfl rfl ?_
    refine g_6_0 hX 35  tw_258 rfl ?_
    refine v_callVN hX 0 (by decide) (cG_B isB_1) rfl (f_answered isB_1 hz hn hw) tw_456 (List.mem_of_getElem? (i := 27) rfl) tw_93 tw_455 tw_29 (by decide +kernel) ⟨⟨rfl, rfl⟩, Nat.le_of_ble_eq_true rfl, Nat.le_of_ble_eq_true rfl⟩ rfl (Nat.le_of_ble_eq_true rfl) rfl rfl 36 rfl ?_
    rw [all_mk hn]
    refine v_callS hX 1 (f_bitCount) tw_388 tw_451 tw_387 tw_100 (by decide +kernel) ⟨⟨rfl, rfl⟩, Nat.le_of_ble_eq_true rfl, Nat.le_of_ble_eq_true rfl⟩ rfl (Nat.le_of_ble_eq_true rfl) rfl rfl 37 rfl ?_
    refine v_iret hX hQ rfl rfl ?_ ?_ 38 rfl
    · simp (decide := true) only [coR, if_true, if_false]
    · rfl
  · skip
    subst hc
    refine v_tableIn hX (off := 150) (tgt := 151) 1 rfl (by decide) (by decide) (by decide) (by decide) ?_
    refine v_aload_n hX 0 39 rfl rfl rfl ?_
    refine g_6_0 hX 40  tw_258 rfl ?_
    refine v_iconst hX (v := 0) 41 rfl (by decide) ?_
    refine v_aload_n hX 0 42 rfl rfl rfl ?_
    refine g_6_0 hX 43  tw_258 rfl ?_
    refine v_callVN hX 0 (by decide) (cG_B isB_1) rfl (f_withdrawn isB_1 hz hn) tw_362 (List.mem_of_getElem? (i := 28) rfl) tw_93 tw_361 tw_15 (by decide +kernel) ⟨⟨rfl, rfl⟩, Nat.le_of_ble_eq_true rfl, Nat.le_of_ble_eq_true rfl⟩ rfl (Nat.le_of_ble_eq_true rfl) rfl rfl 44 rfl ?_
    rw [mk_F]
    refine v_aload_n hX 0 45 rfl rfl rfl ?_
    refine g_6_0 hX 46  tw_258 rfl ?_
    refine v_callVN hX 0 (by decide) (cG_B isB_1) rfl (f_struck isB_1 hz hn) tw_366 (List.mem_of_getElem? (i := 29) rfl) tw_93 tw_365 tw_16 (by decide +kernel) ⟨⟨rfl, rfl⟩, Nat.le_of_ble_eq_true rfl, Nat.le_of_ble_eq_true rfl⟩ rfl (Nat.le_of_ble_eq_true rfl) rfl rfl 47 rfl ?_
    rw [skA_mk hw hn]
    refine v_ior hX 48 rfl ?_
    refine v_callVN hX 2 (by decide) (cG_B isB_1) rfl (f_pagesOf isB_1 hz hn) tw_466 (List.mem_of_getElem? (i := 30) rfl) tw_93 tw_465 tw_31 (by decide +kernel) ⟨⟨rfl, rfl⟩, Nat.le_of_ble_eq_true rfl, Nat.le_of_ble_eq_true rfl⟩ rfl (Nat.le_of_ble_eq_true rfl) rfl rfl 49 rfl ?_
    refine v_iret hX hQ rfl rfl ?_ ?_ 50 rfl
    · simp (decide := true) only [coR, if_true, if_false]
    · rfl
  · skip
    subst hc
    refine v_tableIn hX (off := 174) (tgt := 175) 1 rfl (by decide) (by decide) (by decide) (by decide) ?_
    refine v_aload_n hX 0 51 rfl rfl rfl ?_
    refine g_6_0 hX 52  tw_258 rfl ?_
    refine v_iconst hX (v := 1) 53 rfl (by decide) ?_
    refine v_aload_n hX 0 54 rfl rfl rfl ?_
    refine g_6_0 hX 55  tw_258 rfl ?_
    refine v_callVN hX 0 (by decide) (cG_B isB_1) rfl (f_withdrawn isB_1 hz hn) tw_362 (List.mem_of_getElem? (i := 28) rfl) tw_93 tw_361 tw_15 (by decide +kernel) ⟨⟨rfl, rfl⟩, Nat.le_of_ble_eq_true rfl, Nat.le_of_ble_eq_true rfl⟩ rfl (Nat.le_of_ble_eq_true rfl) rfl rfl 56 rfl ?_
    rw [mk_F]
    refine v_aload_n hX 0 57 rfl rfl rfl ?_
    refine g_6_0 hX 58  tw_258 rfl ?_
    refine v_callVN hX 0 (by decide) (cG_B isB_1) rfl (f_struck isB_1 hz hn) tw_366 (List.mem_of_getElem? (i := 29) rfl) tw_93 tw_365 tw_16 (by decide +kernel) ⟨⟨rfl, rfl⟩, Nat.le_of_ble_eq_true rfl, Nat.le_of_ble_eq_true rfl⟩ rfl (Nat.le_of_ble_eq_true rfl) rfl rfl 59 rfl ?_
    rw [skA_mk hw hn]
    refine v_ior hX 60 rfl ?_
    refine v_callVN hX 2 (by decide) (cG_B isB_1) rfl (f_pagesOf isB_1 hz hn) tw_466 (List.mem_of_getElem? (i := 30) rfl) tw_93 tw_465 tw_31 (by decide +kernel) ⟨⟨rfl, rfl⟩, Nat.le_of_ble_eq_true rfl, Nat.le_of_ble_eq_true rfl⟩ rfl (Nat.le_of_ble_eq_true rfl) rfl rfl 61 rfl ?_
    refine v_iret hX hQ rfl rfl ?_ ?_ 62 rfl
    · simp (decide := true) only [coR, if_true, if_false]
    · rfl
  · skip
    subst hc
    refine v_tableIn hX (off := 198) (tgt := 199) 1 rfl (by decide) (by decide) (by decide) (by decide) ?_
    refine v_aload_n hX 0 63 rfl rfl rfl ?_
    refine g_6_0 hX 64  tw_258 rfl ?_
    refine gN_0_3 hX 65 isB_1 (List.mem_of_getElem? (i := 15) rfl) rfl ?_
    refine v_iret hX hQ rfl rfl ?_ ?_ 66 rfl
    · simp (decide := true) only [coR, if_true, if_false]
    · rfl
  · skip
    subst hc
    refine v_tableIn hX (off := 206) (tgt := 207) 1 rfl (by decide) (by decide) (by decide) (by decide) ?_
    refine v_aload_n hX 0 67 rfl rfl rfl ?_
    refine g_6_0 hX 68  tw_258 rfl ?_
    refine gN_0_4 hX 69 isB_1 (List.mem_of_getElem? (i := 16) rfl) rfl ?_
    refine v_iret hX hQ rfl rfl ?_ ?_ 70 rfl
    · simp (decide := true) only [coR, if_true, if_false]
    · rfl
  · skip
    subst hc
    refine v_tableIn hX (off := 214) (tgt := 215) 1 rfl (by decide) (by decide) (by decide) (by decide) ?_
    refine v_aload_n hX 0 71 rfl rfl rfl ?_
    refine g_6_0 hX 72  tw_258 rfl ?_
    refine gN_0_5 hX 73 isB_1 (List.mem_of_getElem? (i := 17) rfl) rfl ?_
    refine v_iret hX hQ rfl rfl ?_ ?_ 74 rfl
    · simp (decide := true) only [coR, if_true, if_false]
    · rfl
  · skip
    subst hc
    refine v_tableIn hX (off := 222) (tgt := 223) 1 rfl (by decide) (by decide) (by decide) (by decide) ?_
    refine v_aload_n hX 0 75 rfl rfl rfl ?_
    refine g_6_2 hX 76  tw_260 rfl ?_
    refine gN_3_1 hX 77  (List.mem_of_getElem? (i := 19) rfl) rfl ?_
    refine v_iret hX hQ rfl rfl ?_ ?_ 78 rfl
    · simp (decide := true) only [coR, if_true, if_false]
    · rfl
  · skip
    subst hc
    refine v_tableIn hX (off := 230) (tgt := 231) 1 rfl (by decide) (by decide) (by decide) (by decide) ?_
    refine v_aload_n hX 0 79 rfl rfl rfl ?_
    refine g_6_4 hX 80  tw_262 rfl ?_
    refine gN_2_1 hX 81  (List.mem_of_getElem? (i := 24) rfl) rfl ?_
    refine v_iret hX hQ rfl rfl ?_ ?_ 82 rfl
    · simp (decide := true) only [coR, if_true, if_false]
    · rfl
  · skip
    have hne : ∀ c : Nat, c ≤ 13 → ¬ w = nI c := fun c h9 => sw_ne (m := 13) hc h9 (by decide)
    refine v_tableOut hX (tgt := 239) 1 rfl hc (by decide) ?_
    refine v_bipush hX (v := (-2)) 83 rfl (by decide) ?_
    refine v_iret hX hQ rfl rfl ?_ ?_ 84 rfl
    · unfold coR; rw [if_neg (show ¬ w = 0 from hne 0 (by decide)), if_neg (show ¬ w = 1 from hne 1 (by decide)), if_neg (show ¬ w = 2 from hne 2 (by decide)), if_neg (show ¬ w = 3 from hne 3 (by decide)), if_neg (show ¬ w = 4 from hne 4 (by decide)), if_neg (show ¬ w = 5 from hne 5 (by decide)), if_neg (show ¬ w = 6 from hne 6 (by decide)), if_neg (show ¬ w = 7 from hne 7 (by decide)), if_neg (show ¬ w = 8 from hne 8 (by decide)), if_neg (show ¬ w = 9 from hne 9 (by decide)), if_neg (show ¬ w = 10 from hne 10 (by decide)), if_neg (show ¬ w = 11 from hne 11 (by decide)), if_neg (show ¬ w = 12 from hne 12 (by decide)), if_neg (show ¬ w = 13 from hne 13 (by decide))]
    · rfl
set_option maxRecDepth 100000 in
set_option maxHeartbeats 4000000 in
theorem f_points {Y : Yt} {M : Mm} {w : Int32} {n : Nat} (hz : M.1 1 1 = nI n) (hn : n ≤ 24) (hw : WF (cp M 1) n) : Fn Y yX6_points wsX6_points { frames := 5, cells := 0, slots := 0, locals := 108 } [.ref (Y.2.2.2 0), .int w] M (some (.int (poR M n w))) M := by
  refine Fn.of (cc := cX6_points) (ins := iX6_points) (maxL := 2) (ret := (some .int)) (by decide) dX6_points [some (.ref (Y.2.2.2 0)), some (.int w)] (Nat.le_of_ble_eq_true rfl) rfl rfl ?_
  intro X hX hQ
  refine v_iload_n hX 1 0 rfl rfl rfl ?_
  rcases sw6 w with hc | hc | hc | hc | hc | hc | hc
  · skip
    subst hc
    refine v_tableIn hX (off := 39) (tgt := 40) 1 rfl (by decide) (by decide) (by decide) (by decide) ?_
    refine v_aload_n hX 0 2 rfl rfl rfl ?_
    refine g_6_0 hX 3  tw_258 rfl ?_
    refine v_callVN hX 0 (by decide) (cG_B isB_1) rfl (f_standing isB_1 hz hn hw) tw_354 (List.mem_of_getElem? (i := 20) rfl) tw_93 tw_353 tw_13 (by decide +kernel) ⟨⟨rfl, rfl⟩, Nat.le_of_ble_eq_true rfl, Nat.le_of_ble_eq_true rfl⟩ rfl (Nat.le_of_ble_eq_true rfl) rfl rfl 4 rfl ?_
    refine v_iret hX hQ rfl rfl ?_ ?_ 5 rfl
    · simp (decide := true) only [poR, if_true, if_false]
    · rfl
  · skip
    subst hc
    refine v_tableIn hX (off := 47) (tgt := 48) 1 rfl (by decide) (by decide) (by decide) (by decide) ?_
    refine v_aload_n hX 0 6 rfl rfl rfl ?_
    refine g_6_0 hX 7  tw_258 rfl ?_
    refine v_callVN hX 0 (by decide) (cG_B isB_1) rfl (f_claims isB_1 hz hn) tw_449 (List.mem_of_getElem? (i := 25) rfl) tw_93 tw_448 tw_28 (by decide +kernel) ⟨⟨rfl, rfl⟩, Nat.le_of_ble_eq_true rfl, Nat.le_of_ble_eq_true rfl⟩ rfl (Nat.le_of_ble_eq_true rfl) rfl rfl 8 rfl ?_
    rw [mk_F]
    refine v_aload_n hX 0 9 rfl rfl rfl ?_
    refine g_6_0 hX 10  tw_258 rfl ?_
    refine v_callVN hX 0 (by decide) (cG_B isB_1) rfl (f_standing isB_1 hz hn hw) tw_354 (List.mem_of_getElem? (i := 20) rfl) tw_93 tw_353 tw_13 (by decide +kernel) ⟨⟨rfl, rfl⟩, Nat.le_of_ble_eq_true rfl, Nat.le_of_ble_eq_true rfl⟩ rfl (Nat.le_of_ble_eq_true rfl) rfl rfl 11 rfl ?_
    refine v_iand hX 12 rfl ?_
    refine v_iret hX hQ rfl rfl ?_ ?_ 13 rfl
    · simp (decide := true) only [poR, if_true, if_false]
    · rfl
  · skip
    subst hc
    refine v_tableIn hX (off := 63) (tgt := 64) 1 rfl (by decide) (by decide) (by decide) (by decide) ?_
    refine v_aload_n hX 0 14 rfl rfl rfl ?_
    refine g_6_0 hX 15  tw_258 rfl ?_
    refine v_callVN hX 0 (by decide) (cG_B isB_1) rfl (f_out isB_1 hz hn hw) tw_358 (List.mem_of_getElem? (i := 26) rfl) tw_93 tw_357 tw_14 (by decide +kernel) ⟨⟨rfl, rfl⟩, Nat.le_of_ble_eq_true rfl, Nat.le_of_ble_eq_true rfl⟩ rfl (Nat.le_of_ble_eq_true rfl) rfl rfl 16 rfl ?_
    refine v_iret hX hQ rfl rfl ?_ ?_ 17 rfl
    · simp (decide := true) only [poR, if_true, if_false]
    · rfl
  · skip
    subst hc
    refine v_tableIn hX (off := 71) (tgt := 72) 1 rfl (by decide) (by decide) (by decide) (by decide) ?_
    refine v_aload_n hX 0 18 rfl rfl rfl ?_
    refine g_6_0 hX 19  tw_258 rfl ?_
    refine v_callVN hX 0 (by decide) (cG_B isB_1) rfl (f_answered isB_1 hz hn hw) tw_456 (List.mem_of_getElem? (i := 27) rfl) tw_93 tw_455 tw_29 (by decide +kernel) ⟨⟨rfl, rfl⟩, Nat.le_of_ble_eq_true rfl, Nat.le_of_ble_eq_true rfl⟩ rfl (Nat.le_of_ble_eq_true rfl) rfl rfl 20 rfl ?_
    rw [all_mk hn]
    refine v_iret hX hQ rfl rfl ?_ ?_ 21 rfl
    · simp (decide := true) only [poR, if_true, if_false]
    · rfl
  · skip
    subst hc
    refine v_tableIn hX (off := 79) (tgt := 80) 1 rfl (by decide) (by decide) (by decide) (by decide) ?_
    refine v_aload_n hX 0 22 rfl rfl rfl ?_
    refine g_6_0 hX 23  tw_258 rfl ?_
    refine v_iconst hX (v := 0) 24 rfl (by decide) ?_
    refine v_callVN hX 1 (by decide) (cG_B isB_1) rfl (f_ofSide isB_1 hz hn) tw_474 (List.mem_of_getElem? (i := 31) rfl) tw_93 tw_473 tw_32 (by decide +kernel) ⟨⟨rfl, rfl⟩, Nat.le_of_ble_eq_true rfl, Nat.le_of_ble_eq_true rfl⟩ rfl (Nat.le_of_ble_eq_true rfl) rfl rfl 25 rfl ?_
    rw [mk_F]
    refine v_iret hX hQ rfl rfl ?_ ?_ 26 rfl
    · simp (decide := true) only [poR, if_true, if_false]
    · rfl
  · skip
    subst hc
    refine v_tableIn hX (off := 88) (tgt := 89) 1 rfl (by decide) (by decide) (by decide) (by decide) ?_
    refine v_aload_n hX 0 27 rfl rfl rfl ?_
    refine g_6_0 hX 28  tw_258 rfl ?_
    refine v_iconst hX (v := 1) 29 rfl (by decide) ?_
    refine v_callVN hX 1 (by decide) (cG_B isB_1) rfl (f_ofSide isB_1 hz hn) tw_474 (List.mem_of_getElem? (i := 31) rfl) tw_93 tw_473 tw_32 (by decide +kernel) ⟨⟨rfl, rfl⟩, Nat.le_of_ble_eq_true rfl, Nat.le_of_ble_eq_true rfl⟩ rfl (Nat.le_of_ble_eq_true rfl) rfl rfl 30 rfl ?_
    rw [mk_F]
    refine v_iret hX hQ rfl rfl ?_ ?_ 31 rfl
    · simp (decide := true) only [poR, if_true, if_false]
    · rfl
  · skip
    have hne : ∀ c : Nat, c ≤ 5 → ¬ w = nI c := fun c h9 => sw_ne (m := 5) hc h9 (by decide)
    refine v_tableOut hX (tgt := 98) 1 rfl hc (by decide) ?_
    refine v_bipush hX (v := (-2)) 32 rfl (by decide) ?_
    refine v_iret hX hQ rfl rfl ?_ ?_ 33 rfl
    · unfold poR; rw [if_neg (show ¬ w = 0 from hne 0 (by decide)), if_neg (show ¬ w = 1 from hne 1 (by decide)), if_neg (show ¬ w = 2 from hne 2 (by decide)), if_neg (show ¬ w = 3 from hne 3 (by decide)), if_neg (show ¬ w = 4 from hne 4 (by decide)), if_neg (show ¬ w = 5 from hne 5 (by decide))]
    · rfl
set_option maxRecDepth 100000 in
set_option maxHeartbeats 4000000 in
theorem f_toFall_no {Y : Yt} {M : Mm} {n : Nat} {x : Int32} (hz : M.1 1 1 = nI n) (hx : x < 0 ∨ nI n ≤ x) : Fn Y yX6_toFall wsX6_toFall { frames := 4, cells := 0, slots := 0, locals := 91 } [.ref (Y.2.2.2 0), .int x] M (some (.int (-1))) M := by
  refine Fn.of (cc := cX6_toFall) (ins := iX6_toFall) (maxL := 2) (ret := (some .int)) (by decide) dX6_toFall [some (.ref (Y.2.2.2 0)), some (.int x)] (Nat.le_of_ble_eq_true rfl) rfl rfl ?_
  intro X hX hQ
  refine v_aload_n hX 0 0 rfl rfl rfl ?_
  refine g_6_0 hX 1  tw_258 rfl ?_
  refine v_iload_n hX 1 2 rfl rfl rfl ?_
  refine v_callVN hX 1 (by decide) (cG_B isB_1) rfl (f_find_out isB_1 hz hx) tw_299 (List.mem_of_getElem? (i := 19) rfl) tw_93 tw_298 tw_3 (by decide +kernel) ⟨⟨rfl, rfl⟩, Nat.le_of_ble_eq_true rfl, Nat.le_of_ble_eq_true rfl⟩ rfl (Nat.le_of_ble_eq_true rfl) rfl rfl 3 rfl ?_
  refine v_ifnonnullN hX 4 rfl ?_
  refine v_iconst hX (v := (-1)) 5 rfl (by decide) ?_
  refine v_iret hX hQ rfl rfl ?_ ?_ 6 rfl
  · rfl
  · rfl
set_option maxRecDepth 100000 in
set_option maxHeartbeats 4000000 in
theorem f_toFall {Y : Yt} {M : Mm} {n i : Nat} (hz : M.1 1 1 = nI n) (hn : n ≤ 24) (hw : WF (cp M 1) n) (hi : i < n) : Fn Y yX6_toFall wsX6_toFall { frames := 4, cells := 0, slots := 0, locals := 91 } [.ref (Y.2.2.2 0), .int (nI i)] M (some (.int (if (wM M (wAll (cp M 1) (bOut M 1) (naP (cp M 1) n) n (wI M 24) 24)).1 28 i < 1000 then (wM M (wAll (cp M 1) (bOut M 1) (naP (cp M 1) n) n (wI M 24) 24)).1 28 i else -6))) ((wM M (wAll (cp M 1) (bOut M 1) (naP (cp M 1) n) n (wI M 24) 24))) := by
  refine Fn.of (cc := cX6_toFall) (ins := iX6_toFall) (maxL := 2) (ret := (some .int)) (by decide) dX6_toFall [some (.ref (Y.2.2.2 0)), some (.int (nI i))] (Nat.le_of_ble_eq_true rfl) rfl rfl ?_
  intro X hX hQ
  refine v_aload_n hX 0 0 rfl rfl rfl ?_
  refine g_6_0 hX 1  tw_258 rfl ?_
  refine v_iload_n hX 1 2 rfl rfl rfl ?_
  refine v_callVN hX 1 (by decide) (cG_B isB_1) rfl (f_find_in isB_1 hz hn hi) tw_299 (List.mem_of_getElem? (i := 19) rfl) tw_93 tw_298 tw_3 (by decide +kernel) ⟨⟨rfl, rfl⟩, Nat.le_of_ble_eq_true rfl, Nat.le_of_ble_eq_true rfl⟩ rfl (Nat.le_of_ble_eq_true rfl) rfl rfl 3 rfl ?_
  refine v_ifnonnull hX (tgt := 13) 4 rfl (by decide) ?_
  refine v_aload_n hX 0 7 rfl rfl rfl ?_
  refine g_6_1 hX 8  tw_259 rfl ?_
  refine v_aload_n hX 0 9 rfl rfl rfl ?_
  refine g_6_0 hX 10  tw_258 rfl ?_
  refine v_callVN hX 1 (by decide) rfl rfl (f_weigh isB_1 hz hn hw) tw_491 (List.mem_of_getElem? (i := 32) rfl) tw_95 tw_490 tw_33 (by decide +kernel) ⟨⟨rfl, rfl⟩, Nat.le_of_ble_eq_true rfl, Nat.le_of_ble_eq_true rfl⟩ rfl (Nat.le_of_ble_eq_true rfl) rfl rfl 11 rfl ?_
  refine v_aload_n hX 0 12 rfl rfl rfl ?_
  refine g_6_1 hX 13  tw_259 rfl ?_
  refine v_iload_n hX 1 14 rfl rfl rfl ?_
  refine v_callVN hX 1 (by decide) rfl rfl (f_ansFall (show i < 24 by omega)) tw_509 (List.mem_of_getElem? (i := 37) rfl) tw_95 tw_508 tw_36 (by decide +kernel) ⟨⟨rfl, rfl⟩, Nat.le_of_ble_eq_true rfl, Nat.le_of_ble_eq_true rfl⟩ rfl (Nat.le_of_ble_eq_true rfl) rfl rfl 15 rfl ?_
  refine v_iret hX hQ rfl rfl ?_ ?_ 16 rfl
  · rfl
  · rfl
set_option maxRecDepth 100000 in
set_option maxHeartbeats 4000000 in
theorem f_toStand_no {Y : Yt} {M : Mm} {n : Nat} {x : Int32} (hz : M.1 1 1 = nI n) (hx : x < 0 ∨ nI n ≤ x) : Fn Y yX6_toStand wsX6_toStand { frames := 4, cells := 0, slots := 0, locals := 91 } [.ref (Y.2.2.2 0), .int x] M (some (.int (-1))) M := by
  refine Fn.of (cc := cX6_toStand) (ins := iX6_toStand) (maxL := 2) (ret := (some .int)) (by decide) dX6_toStand [some (.ref (Y.2.2.2 0)), some (.int x)] (Nat.le_of_ble_eq_true rfl) rfl rfl ?_
  intro X hX hQ
  refine v_aload_n hX 0 0 rfl rfl rfl ?_
  refine g_6_0 hX 1  tw_258 rfl ?_
  refine v_iload_n hX 1 2 rfl rfl rfl ?_
  refine v_callVN hX 1 (by decide) (cG_B isB_1) rfl (f_find_out isB_1 hz hx) tw_299 (List.mem_of_getElem? (i := 19) rfl) tw_93 tw_298 tw_3 (by decide +kernel) ⟨⟨rfl, rfl⟩, Nat.le_of_ble_eq_true rfl, Nat.le_of_ble_eq_true rfl⟩ rfl (Nat.le_of_ble_eq_true rfl) rfl rfl 3 rfl ?_
  refine v_ifnonnullN hX 4 rfl ?_
  refine v_iconst hX (v := (-1)) 5 rfl (by decide) ?_
  refine v_iret hX hQ rfl rfl ?_ ?_ 6 rfl
  · rfl
  · rfl
set_option maxRecDepth 100000 in
set_option maxHeartbeats 4000000 in
theorem f_toStand {Y : Yt} {M : Mm} {n i : Nat} (hz : M.1 1 1 = nI n) (hn : n ≤ 24) (hw : WF (cp M 1) n) (hi : i < n) : Fn Y yX6_toStand wsX6_toStand { frames := 4, cells := 0, slots := 0, locals := 91 } [.ref (Y.2.2.2 0), .int (nI i)] M (some (.int (if bOut M 1 i = true then -5 else if (wM M (wAll (cp M 1) (bOut M 1) (naP (cp M 1) n) n (wI M 24) 24)).1 29 i < 1000 then (wM M (wAll (cp M 1) (bOut M 1) (naP (cp M 1) n) n (wI M 24) 24)).1 29 i else -6))) ((if bOut M 1 i = true then M else (wM M (wAll (cp M 1) (bOut M 1) (naP (cp M 1) n) n (wI M 24) 24)))) := by
  refine Fn.of (cc := cX6_toStand) (ins := iX6_toStand) (maxL := 2) (ret := (some .int)) (by decide) dX6_toStand [some (.ref (Y.2.2.2 0)), some (.int (nI i))] (Nat.le_of_ble_eq_true rfl) rfl rfl ?_
  intro X hX hQ
  refine v_aload_n hX 0 0 rfl rfl rfl ?_
  refine g_6_0 hX 1  tw_258 rfl ?_
  refine v_iload_n hX 1 2 rfl rfl rfl ?_
  refine v_callVN hX 1 (by decide) (cG_B isB_1) rfl (f_find_in isB_1 hz hn hi) tw_299 (List.mem_of_getElem? (i := 19) rfl) tw_93 tw_298 tw_3 (by decide +kernel) ⟨⟨rfl, rfl⟩, Nat.le_of_ble_eq_true rfl, Nat.le_of_ble_eq_true rfl⟩ rfl (Nat.le_of_ble_eq_true rfl) rfl rfl 3 rfl ?_
  refine v_ifnonnull hX (tgt := 13) 4 rfl (by decide) ?_
  refine v_aload_n hX 0 7 rfl rfl rfl ?_
  refine g_6_0 hX 8  tw_258 rfl ?_
  refine v_callVN hX 0 (by decide) (cG_B isB_1) rfl (f_out isB_1 hz hn hw) tw_358 (List.mem_of_getElem? (i := 26) rfl) tw_93 tw_357 tw_14 (by decide +kernel) ⟨⟨rfl, rfl⟩, Nat.le_of_ble_eq_true rfl, Nat.le_of_ble_eq_true rfl⟩ rfl (Nat.le_of_ble_eq_true rfl) rfl rfl 9 rfl ?_
  refine v_iload_n hX 1 10 rfl rfl rfl ?_
  refine v_callS hX 2 (f_has) tw_381 tw_422 tw_380 tw_92 (by decide +kernel) ⟨⟨rfl, rfl⟩, Nat.le_of_ble_eq_true rfl, Nat.le_of_ble_eq_true rfl⟩ rfl (Nat.le_of_ble_eq_true rfl) rfl rfl 11 rfl ?_
  refine v_if_eq hX (tgt := 30) 12 rfl (by decide) (fun c24 => ?_) (fun c24 => ?_)
  · skip
    have q1 := hasv_eq (by omega) c24
    rw [bt_mk _ (by omega) (by omega), decide_eq_true hi, Bool.true_and] at q1
    refine v_aload_n hX 0 15 rfl rfl rfl ?_
    refine g_6_1 hX 16  tw_259 rfl ?_
    refine v_aload_n hX 0 17 rfl rfl rfl ?_
    refine g_6_0 hX 18  tw_258 rfl ?_
    refine v_callVN hX 1 (by decide) rfl rfl (f_weigh isB_1 hz hn hw) tw_491 (List.mem_of_getElem? (i := 32) rfl) tw_95 tw_490 tw_33 (by decide +kernel) ⟨⟨rfl, rfl⟩, Nat.le_of_ble_eq_true rfl, Nat.le_of_ble_eq_true rfl⟩ rfl (Nat.le_of_ble_eq_true rfl) rfl rfl 19 rfl ?_
    refine v_aload_n hX 0 20 rfl rfl rfl ?_
    refine g_6_1 hX 21  tw_259 rfl ?_
    refine v_iload_n hX 1 22 rfl rfl rfl ?_
    refine v_callVN hX 1 (by decide) rfl rfl (f_ansStand (show i < 24 by omega)) tw_520 (List.mem_of_getElem? (i := 38) rfl) tw_95 tw_519 tw_37 (by decide +kernel) ⟨⟨rfl, rfl⟩, Nat.le_of_ble_eq_true rfl, Nat.le_of_ble_eq_true rfl⟩ rfl (Nat.le_of_ble_eq_true rfl) rfl rfl 23 rfl ?_
    refine v_iret hX hQ rfl rfl ?_ ?_ 24 rfl
    · rw [if_neg (by rw [q1]; decide)]
    · rw [if_neg (by rw [q1]; decide)]
  · skip
    have q1 := hasv_ne (by omega) c24
    rw [bt_mk _ (by omega) (by omega), decide_eq_true hi, Bool.true_and] at q1
    refine v_bipush hX (v := (-5)) 13 rfl (by decide) ?_
    refine v_iret hX hQ rfl rfl ?_ ?_ 14 rfl
    · rw [if_pos q1]
    · rw [if_pos q1]
set_option maxRecDepth 100000 in
set_option maxHeartbeats 4000000 in
theorem f_wipe {Y : Yt} {M : Mm}  : Fn Y yX6_wipe wsX6_wipe { frames := 1, cells := 0, slots := 0, locals := 21 } [.ref (Y.2.2.2 0)] M (some (.int (M.1 30 1))) ((mset M 30 1 0)) := by
  refine Fn.of (cc := cX6_wipe) (ins := iX6_wipe) (maxL := 1) (ret := (some .int)) (by decide) dX6_wipe [some (.ref (Y.2.2.2 0))] (Nat.le_of_ble_eq_true rfl) rfl rfl ?_
  intro X hX hQ
  refine v_aload_n hX 0 0 rfl rfl rfl ?_
  refine g_6_2 hX 1  tw_260 rfl ?_
  refine v_callVN hX 0 (by decide) rfl rfl (f_empty) tw_563 (List.mem_of_getElem? (i := 46) rfl) tw_96 tw_562 tw_39 (by decide +kernel) ⟨⟨rfl, rfl⟩, Nat.le_of_ble_eq_true rfl, Nat.le_of_ble_eq_true rfl⟩ rfl (Nat.le_of_ble_eq_true rfl) rfl rfl 2 rfl ?_
  refine v_iret hX hQ rfl rfl ?_ ?_ 3 rfl
  · rfl
  · rfl
set_option maxRecDepth 100000 in
set_option maxHeartbeats 4000000 in
theorem f_fault {Y : Yt} {M : Mm} {s q : Nat → Int32} {l : Nat} (h : RdOK M s l) : Fn Y yX6_fault wsX6_fault { frames := 6, cells := 0, slots := 0, locals := 132 } [.ref (Y.2.2.2 0)] (mrow M 32 q) (some (.int (ffl s l 80 0 (upd q 0 0)).1)) ((mrow M 32 (ffl s l 80 0 (upd q 0 0)).2)) := by
  refine Fn.of (cc := cX6_fault) (ins := iX6_fault) (maxL := 1) (ret := (some .int)) (by decide) dX6_fault [some (.ref (Y.2.2.2 0))] (Nat.le_of_ble_eq_true rfl) rfl rfl ?_
  intro X hX hQ
  refine v_aload_n hX 0 0 rfl rfl rfl ?_
  refine g_6_3 hX 1  tw_261 rfl ?_
  refine v_aload_n hX 0 2 rfl rfl rfl ?_
  refine g_6_2 hX 3  tw_260 rfl ?_
  refine v_callVN hX 1 (by decide) rfl rfl (f_firstFault h) tw_571 (List.mem_of_getElem? (i := 47) rfl) tw_97 tw_570 tw_40 (by decide +kernel) ⟨⟨rfl, rfl⟩, Nat.le_of_ble_eq_true rfl, Nat.le_of_ble_eq_true rfl⟩ rfl (Nat.le_of_ble_eq_true rfl) rfl rfl 4 rfl ?_
  refine v_iret hX hQ rfl rfl ?_ ?_ 5 rfl
  · rfl
  · rfl
set_option maxRecDepth 100000 in
set_option maxHeartbeats 4000000 in
theorem f_undo_no {Y : Yt} {M : Mm} (hkk : M.1 33 1 = nI 0) : Fn Y yX6_undo wsX6_undo { frames := 3, cells := 0, slots := 0, locals := 67 } [.ref (Y.2.2.2 0)] M (some (.int (-5))) M := by
  refine Fn.of (cc := cX6_undo) (ins := iX6_undo) (maxL := 1) (ret := (some .int)) (by decide) dX6_undo [some (.ref (Y.2.2.2 0))] (Nat.le_of_ble_eq_true rfl) rfl rfl ?_
  intro X hX hQ
  refine v_aload_n hX 0 0 rfl rfl rfl ?_
  refine g_6_4 hX 1  tw_262 rfl ?_
  refine v_aload_n hX 0 2 rfl rfl rfl ?_
  refine g_6_0 hX 3  tw_258 rfl ?_
  refine v_callVN hX 1 (by decide) rfl rfl (f_bringBack_no hkk) tw_626 (List.mem_of_getElem? (i := 52) rfl) tw_98 tw_625 tw_51 (by decide +kernel) ⟨⟨rfl, rfl⟩, Nat.le_of_ble_eq_true rfl, Nat.le_of_ble_eq_true rfl⟩ rfl (Nat.le_of_ble_eq_true rfl) rfl rfl 4 rfl ?_
  refine v_iret hX hQ rfl rfl ?_ ?_ 5 rfl
  · rfl
  · rfl
set_option maxRecDepth 100000 in
set_option maxHeartbeats 4000000 in
theorem f_undo {Y : Yt} {M : Mm} {k n : Nat} (hk : k < 6) (hkk : M.1 33 1 = nI (k + 1)) (hh : ∀ i, i < 7 → isB (M.2 i) ∧ M.2 i ≠ 1) (hz : M.1 (M.2 k) 1 = nI n) (hn : n ≤ 24) (hw : WF (cp M (M.2 k)) n) : Fn Y yX6_undo wsX6_undo { frames := 3, cells := 0, slots := 0, locals := 67 } [.ref (Y.2.2.2 0)] M (some (.int (nI k))) ((mset (cpB M 1 (M.2 k) n) 33 1 (nI k))) := by
  refine Fn.of (cc := cX6_undo) (ins := iX6_undo) (maxL := 1) (ret := (some .int)) (by decide) dX6_undo [some (.ref (Y.2.2.2 0))] (Nat.le_of_ble_eq_true rfl) rfl rfl ?_
  intro X hX hQ
  refine v_aload_n hX 0 0 rfl rfl rfl ?_
  refine g_6_4 hX 1  tw_262 rfl ?_
  refine v_aload_n hX 0 2 rfl rfl rfl ?_
  refine g_6_0 hX 3  tw_258 rfl ?_
  refine v_callVN hX 1 (by decide) rfl rfl (f_bringBack hk hkk hh hz hn hw) tw_626 (List.mem_of_getElem? (i := 52) rfl) tw_98 tw_625 tw_51 (by decide +kernel) ⟨⟨rfl, rfl⟩, Nat.le_of_ble_eq_true rfl, Nat.le_of_ble_eq_true rfl⟩ rfl (Nat.le_of_ble_eq_true rfl) rfl rfl 4 rfl ?_
  refine v_iret hX hQ rfl rfl ?_ ?_ 5 rfl
  · rfl
  · rfl
set_option maxRecDepth 100000 in
set_option maxHeartbeats 4000000 in
theorem f_slotRow {Y : Yt} {M : Mm} {j : Nat} (hj : j < 2) : Fn Y yX6_slotRow wsX6_slotRow { frames := 0, cells := 0, slots := 0, locals := 0 } [.ref (Y.2.2.2 0), .int (nI j)] M (some (.ref (Y.2.2.2 (218 + 26 * j)))) M := by
  refine Fn.of (cc := cX6_slotRow) (ins := iX6_slotRow) (maxL := 2) (ret := (some (.object "PointAnswers$Bundle"))) (by decide) dX6_slotRow [some (.ref (Y.2.2.2 0)), some (.int (nI j))] (Nat.le_of_ble_eq_true rfl) rfl rfl ?_
  intro X hX hQ
  refine v_iload_n hX 1 0 rfl rfl rfl ?_
  refine v_if_lt hX (tgt := 22) 1 rfl (by decide) (fun c1 => absurd c1 (nI_nlt (Nat.zero_le _) (by omega))) (fun c1 => ?_)
  refine v_iload_n hX 1 2 rfl rfl rfl ?_
  refine v_aload_n hX 0 3 rfl rfl rfl ?_
  refine g_6_5 hX 4  tw_263 rfl ?_
  refine v_alen hX (v := nI 2) (k := 217) (t0 := 3) (by decide) rfl rfl rfl 5 rfl ?_
  refine v_icmp_ge hX (tgt := 22) 6 rfl (by decide) (fun c10 => absurd c10 (nI_ge hj (by omega))) (fun c10 => ?_)
  refine v_aload_n hX 0 7 rfl rfl rfl ?_
  refine g_6_5 hX 8  tw_263 rfl ?_
  refine v_iload_n hX 1 9 rfl rfl rfl ?_
  refine v_aald hX (k := 217) (t0 := 3) (v := Y.2.2.2 (218 + 26 * j)) (by decide) rfl rfl (vp_in_nI hj (by decide)) (by rw [nI_clamp (by omega)]) 10 rfl ?_
  refine v_goto hX (tgt := 23) 11 rfl (by decide) ?_
  refine v_aret hX hQ rfl (Or.inl ⟨_, rfl⟩) (Or.inr ⟨_, rfl⟩) ?_ ?_ 13 rfl
  · rfl
  · rfl
set_option maxRecDepth 100000 in
set_option maxHeartbeats 4000000 in
theorem f_slotRow_no {Y : Yt} {M : Mm} {x : Int32} (hx : x < 0 ∨ nI 2 ≤ x) : Fn Y yX6_slotRow wsX6_slotRow { frames := 0, cells := 0, slots := 0, locals := 0 } [.ref (Y.2.2.2 0), .int x] M (some .null) M := by
  refine Fn.of (cc := cX6_slotRow) (ins := iX6_slotRow) (maxL := 2) (ret := (some (.object "PointAnswers$Bundle"))) (by decide) dX6_slotRow [some (.ref (Y.2.2.2 0)), some (.int x)] (Nat.le_of_ble_eq_true rfl) rfl rfl ?_
  intro X hX hQ
  refine v_iload_n hX 1 0 rfl rfl rfl ?_
  refine v_if_lt hX (tgt := 22) 1 rfl (by decide) (fun c1 => ?_) (fun c1 => ?_)
  · skip
    refine v_null hX 12 rfl ?_
    refine v_aret hX hQ rfl (Or.inl ⟨_, rfl⟩) (Or.inl rfl) ?_ ?_ 13 rfl
    · rfl
    · rfl
  · skip
    refine v_iload_n hX 1 2 rfl rfl rfl ?_
    refine v_aload_n hX 0 3 rfl rfl rfl ?_
    refine g_6_5 hX 4  tw_263 rfl ?_
    refine v_alen hX (v := nI 2) (k := 217) (t0 := 3) (by decide) rfl rfl rfl 5 rfl ?_
    refine v_icmp_ge hX (tgt := 22) 6 rfl (by decide) (fun c10 => ?_) (fun c10 => absurd (hx.resolve_left c1) c10)
    refine v_null hX 12 rfl ?_
    refine v_aret hX hQ rfl (Or.inl ⟨_, rfl⟩) (Or.inl rfl) ?_ ?_ 13 rfl
    · rfl
    · rfl
set_option maxRecDepth 100000 in
set_option maxHeartbeats 4000000 in
theorem f_save_no {Y : Yt} {M : Mm} {x : Int32} (hx : x < 0 ∨ nI 2 ≤ x) : Fn Y yX6_save wsX6_save { frames := 2, cells := 0, slots := 0, locals := 45 } [.ref (Y.2.2.2 0), .int x] M (some (.int (-2))) M := by
  refine Fn.of (cc := cX6_save) (ins := iX6_save) (maxL := 3) (ret := (some .int)) (by decide) dX6_save [some (.ref (Y.2.2.2 0)), some (.int x), none] (Nat.le_of_ble_eq_true rfl) rfl rfl ?_
  intro X hX hQ
  refine v_aload_n hX 0 0 rfl rfl rfl ?_
  refine v_iload_n hX 1 1 rfl rfl rfl ?_
  refine v_callV hX 1 (by decide) rfl rfl (f_slotRow_no hx) tw_634 tw_631 tw_633 tw_52 tw_92 (by decide +kernel) ⟨⟨rfl, rfl⟩, Nat.le_of_ble_eq_true rfl, Nat.le_of_ble_eq_true rfl⟩ rfl (Nat.le_of_ble_eq_true rfl) rfl rfl 2 rfl ?_
  refine v_astore_nN hX 2 3 rfl rfl (Nat.le_of_ble_eq_true rfl) rfl ?_
  refine v_aload_nN hX 2 4 rfl rfl rfl ?_
  refine v_ifnonnullN hX 5 rfl ?_
  refine v_bipush hX (v := (-2)) 6 rfl (by decide) ?_
  refine v_iret hX hQ rfl rfl ?_ ?_ 7 rfl
  · rfl
  · rfl
set_option maxRecDepth 100000 in
set_option maxHeartbeats 4000000 in
theorem f_save {Y : Yt} {M : Mm} {j : Nat} (hj : j < 2) {n : Nat} (hz : M.1 1 1 = nI n) (hn : n ≤ 24) (hw : WF (cp M 1) n) : Fn Y yX6_save wsX6_save { frames := 2, cells := 0, slots := 0, locals := 45 } [.ref (Y.2.2.2 0), .int (nI j)] M (some (.int (nI n))) ((mset (cpB M (218 + 26 * j) 1 n) 0 6 (M.1 0 6 ||| ((1 : Int32) <<< (nI j &&& 31))))) := by
  have hsb : isB (218 + 26 * j) := by rcases (show j = 0 ∨ j = 1 by omega) with rfl | rfl; exact isB_218; exact isB_244
  have hs1 : 218 + 26 * j ≠ 1 := by omega
  refine Fn.of (cc := cX6_save) (ins := iX6_save) (maxL := 3) (ret := (some .int)) (by decide) dX6_save [some (.ref (Y.2.2.2 0)), some (.int (nI j)), none] (Nat.le_of_ble_eq_true rfl) rfl rfl ?_
  intro X hX hQ
  refine v_aload_n hX 0 0 rfl rfl rfl ?_
  refine v_iload_n hX 1 1 rfl rfl rfl ?_
  refine v_callV hX 1 (by decide) rfl rfl (f_slotRow hj) tw_634 tw_631 tw_633 tw_52 tw_92 (by decide +kernel) ⟨⟨rfl, rfl⟩, Nat.le_of_ble_eq_true rfl, Nat.le_of_ble_eq_true rfl⟩ rfl (Nat.le_of_ble_eq_true rfl) rfl rfl 2 rfl ?_
  refine v_astore_n hX 2 3 rfl rfl (Nat.le_of_ble_eq_true rfl) rfl ?_
  refine v_aload_n hX 2 4 rfl rfl rfl ?_
  refine v_ifnonnull hX (tgt := 13) 5 rfl (by decide) ?_
  refine v_aload_n hX 2 8 rfl rfl rfl ?_
  refine v_aload_n hX 0 9 rfl rfl rfl ?_
  refine g_6_0 hX 10  tw_258 rfl ?_
  refine v_callVN hX 1 (by have := isB_lt hsb; omega) (cG_B hsb) rfl (f_become hsb isB_1 hz hn hs1 hw) tw_295 (List.mem_of_getElem? (i := 53) rfl) tw_93 tw_294 tw_2 (by decide +kernel) ⟨⟨rfl, rfl⟩, Nat.le_of_ble_eq_true rfl, Nat.le_of_ble_eq_true rfl⟩ rfl (Nat.le_of_ble_eq_true rfl) rfl rfl 11 rfl ?_
  refine v_aload_n hX 0 12 rfl rfl rfl ?_
  refine v_dup hX 13 rfl rfl ?_
  refine g_6_6 hX 14  tw_264 rfl ?_
  rw [pro hsb hn (by omega)]
  refine v_iconst hX (v := 1) 15 rfl (by decide) ?_
  refine v_iload_n hX 1 16 rfl rfl rfl ?_
  refine v_ishl hX 17 rfl ?_
  refine v_ior hX 18 rfl ?_
  refine p_6_6 hX 19   tw_264 rfl ?_
  refine v_aload_n hX 0 20 rfl rfl rfl ?_
  refine g_6_0 hX 21  tw_258 rfl ?_
  refine gN_0_1 hX 22 isB_1 (List.mem_of_getElem? (i := 13) rfl) rfl ?_
  rw [mset_n (by decide), prz hsb hs1 hn, hz]
  refine v_iret hX hQ rfl rfl ?_ ?_ 23 rfl
  · rfl
  · rfl
set_option maxRecDepth 100000 in
set_option maxHeartbeats 4000000 in
theorem f_restore_no {Y : Yt} {M : Mm} {x : Int32} (hx : x < 0 ∨ nI 2 ≤ x) : Fn Y yX6_restore wsX6_restore { frames := 3, cells := 0, slots := 0, locals := 67 } [.ref (Y.2.2.2 0), .int x] M (some (.int (-2))) M := by
  refine Fn.of (cc := cX6_restore) (ins := iX6_restore) (maxL := 3) (ret := (some .int)) (by decide) dX6_restore [some (.ref (Y.2.2.2 0)), some (.int x), none] (Nat.le_of_ble_eq_true rfl) rfl rfl ?_
  intro X hX hQ
  refine v_aload_n hX 0 0 rfl rfl rfl ?_
  refine v_iload_n hX 1 1 rfl rfl rfl ?_
  refine v_callV hX 1 (by decide) rfl rfl (f_slotRow_no hx) tw_634 tw_631 tw_633 tw_52 tw_92 (by decide +kernel) ⟨⟨rfl, rfl⟩, Nat.le_of_ble_eq_true rfl, Nat.le_of_ble_eq_true rfl⟩ rfl (Nat.le_of_ble_eq_true rfl) rfl rfl 2 rfl ?_
  refine v_astore_nN hX 2 3 rfl rfl (Nat.le_of_ble_eq_true rfl) rfl ?_
  refine v_aload_nN hX 2 4 rfl rfl rfl ?_
  refine v_ifnonnullN hX 5 rfl ?_
  refine v_bipush hX (v := (-2)) 6 rfl (by decide) ?_
  refine v_iret hX hQ rfl rfl ?_ ?_ 7 rfl
  · rfl
  · rfl
set_option maxRecDepth 100000 in
set_option maxHeartbeats 4000000 in
theorem f_restore_not {Y : Yt} {M : Mm} {j : Nat} (hj : j < 2) (hs : bt (M.1 0 6) j = false) : Fn Y yX6_restore wsX6_restore { frames := 3, cells := 0, slots := 0, locals := 67 } [.ref (Y.2.2.2 0), .int (nI j)] M (some (.int (-5))) M := by
  refine Fn.of (cc := cX6_restore) (ins := iX6_restore) (maxL := 3) (ret := (some .int)) (by decide) dX6_restore [some (.ref (Y.2.2.2 0)), some (.int (nI j)), none] (Nat.le_of_ble_eq_true rfl) rfl rfl ?_
  intro X hX hQ
  refine v_aload_n hX 0 0 rfl rfl rfl ?_
  refine v_iload_n hX 1 1 rfl rfl rfl ?_
  refine v_callV hX 1 (by decide) rfl rfl (f_slotRow hj) tw_634 tw_631 tw_633 tw_52 tw_92 (by decide +kernel) ⟨⟨rfl, rfl⟩, Nat.le_of_ble_eq_true rfl, Nat.le_of_ble_eq_true rfl⟩ rfl (Nat.le_of_ble_eq_true rfl) rfl rfl 2 rfl ?_
  refine v_astore_n hX 2 3 rfl rfl (Nat.le_of_ble_eq_true rfl) rfl ?_
  refine v_aload_n hX 2 4 rfl rfl rfl ?_
  refine v_ifnonnull hX (tgt := 13) 5 rfl (by decide) ?_
  refine v_aload_n hX 0 8 rfl rfl rfl ?_
  refine g_6_6 hX 9  tw_264 rfl ?_
  refine v_iload_n hX 1 10 rfl rfl rfl ?_
  refine v_callS hX 2 (f_has) tw_381 tw_422 tw_380 tw_92 (by decide +kernel) ⟨⟨rfl, rfl⟩, Nat.le_of_ble_eq_true rfl, Nat.le_of_ble_eq_true rfl⟩ rfl (Nat.le_of_ble_eq_true rfl) rfl rfl 11 rfl ?_
  refine v_if_ne hX (tgt := 27) 12 rfl (by decide) (fun c21 => absurd c21 (fun h => h ((hasv_0 (by omega)).mpr hs))) (fun c21 => ?_)
  refine v_bipush hX (v := (-5)) 13 rfl (by decide) ?_
  refine v_iret hX hQ rfl rfl ?_ ?_ 14 rfl
  · rfl
  · rfl
set_option maxRecDepth 100000 in
set_option maxHeartbeats 4000000 in
theorem f_restore {Y : Yt} {M : Mm} {j n2 : Nat} (hj : j < 2) (hs : bt (M.1 0 6) j = true) {k n : Nat} (hk : k ≤ 6) (hkk : M.1 33 1 = nI k) (hh : ∀ i, i < 7 → isB (M.2 i) ∧ M.2 i ≠ 1) (hz : M.1 1 1 = nI n) (hn : n ≤ 24) (hw : WF (cp M 1) n) (hz2 : M.1 (218 + 26 * j) 1 = nI n2) (hn2 : n2 ≤ 24) (hw2 : WF (cp M (218 + 26 * j)) n2) (hhs : M.2 k ≠ 218 + 26 * j) : Fn Y yX6_restore wsX6_restore { frames := 3, cells := 0, slots := 0, locals := 67 } [.ref (Y.2.2.2 0), .int (nI j)] M (some (.int (nI n2))) ((seM (cpB (cpB M (M.2 k) 1 n) 1 (218 + 26 * j) n2) k (nI n2))) := by
  have hsb : isB (218 + 26 * j) := by rcases (show j = 0 ∨ j = 1 by omega) with rfl | rfl; exact isB_218; exact isB_244
  have hs1 : 218 + 26 * j ≠ 1 := by omega
  have hc := hh k (by omega)
  have hz1 : (cpB M (M.2 k) 1 n).1 1 1 = nI n := by rw [prz hc.1 hc.2 hn]; exact hz
  have hw1 : WF (cp (cpB M (M.2 k) 1 n) 1) n := prw hc.1 hc.2 hn (by omega) hw
  have hk1 : (cpB M (M.2 k) 1 n).1 33 1 = nI k := by rw [pro hc.1 hn (by omega)]; exact hkk
  have hap := isB_apart hc.1 hsb hhs
  have hsz : (cpB M (M.2 k) 1 n).1 (218 + 26 * j) 1 = nI n2 := by rw [cpB_out (by omega) (by omega)]; exact hz2
  have hsw : WF (cp (cpB M (M.2 k) 1 n) (218 + 26 * j)) n2 := by
    intro i hi
    have e : cp (cpB M (M.2 k) 1 n) (218 + 26 * j) i = cp M (218 + 26 * j) i := by funext w; exact congrFun (cpB_out (by omega) (by omega)) w
    rw [e]; exact hw2 i hi
  have hk2 : (cpB (cpB M (M.2 k) 1 n) 1 (218 + 26 * j) n2).1 33 1 = nI k := by rw [cpB_out (by omega) (by omega)]; exact hk1
  have hzz : (cpB (cpB M (M.2 k) 1 n) 1 (218 + 26 * j) n2).1 1 1 = nI n2 := by rw [cpB_b]; exact hsz
  refine Fn.of (cc := cX6_restore) (ins := iX6_restore) (maxL := 3) (ret := (some .int)) (by decide) dX6_restore [some (.ref (Y.2.2.2 0)), some (.int (nI j)), none] (Nat.le_of_ble_eq_true rfl) rfl rfl ?_
  intro X hX hQ
  refine v_aload_n hX 0 0 rfl rfl rfl ?_
  refine v_iload_n hX 1 1 rfl rfl rfl ?_
  refine v_callV hX 1 (by decide) rfl rfl (f_slotRow hj) tw_634 tw_631 tw_633 tw_52 tw_92 (by decide +kernel) ⟨⟨rfl, rfl⟩, Nat.le_of_ble_eq_true rfl, Nat.le_of_ble_eq_true rfl⟩ rfl (Nat.le_of_ble_eq_true rfl) rfl rfl 2 rfl ?_
  refine v_astore_n hX 2 3 rfl rfl (Nat.le_of_ble_eq_true rfl) rfl ?_
  refine v_aload_n hX 2 4 rfl rfl rfl ?_
  refine v_ifnonnull hX (tgt := 13) 5 rfl (by decide) ?_
  refine v_aload_n hX 0 8 rfl rfl rfl ?_
  refine g_6_6 hX 9  tw_264 rfl ?_
  refine v_iload_n hX 1 10 rfl rfl rfl ?_
  refine v_callS hX 2 (f_has) tw_381 tw_422 tw_380 tw_92 (by decide +kernel) ⟨⟨rfl, rfl⟩, Nat.le_of_ble_eq_true rfl, Nat.le_of_ble_eq_true rfl⟩ rfl (Nat.le_of_ble_eq_true rfl) rfl rfl 11 rfl ?_
  refine v_if_ne hX (tgt := 27) 12 rfl (by decide) (fun c21 => ?_) (fun c21 => absurd c21 (fun h => by rw [(hasv_0 (by omega)).mp h] at hs; cases hs))
  refine v_aload_n hX 0 15 rfl rfl rfl ?_
  refine g_6_4 hX 16  tw_262 rfl ?_
  refine v_aload_n hX 0 17 rfl rfl rfl ?_
  refine g_6_0 hX 18  tw_258 rfl ?_
  refine v_callVN hX 1 (by decide) rfl rfl (f_prepare hk hkk hh hz hn hw) tw_287 (List.mem_of_getElem? (i := 7) rfl) tw_98 tw_286 tw_0 (by decide +kernel) ⟨⟨rfl, rfl⟩, Nat.le_of_ble_eq_true rfl, Nat.le_of_ble_eq_true rfl⟩ rfl (Nat.le_of_ble_eq_true rfl) rfl rfl 19 rfl ?_
  refine v_aload_n hX 0 20 rfl rfl rfl ?_
  refine g_6_0 hX 21  tw_258 rfl ?_
  refine v_aload_n hX 2 22 rfl rfl rfl ?_
  refine v_callVN hX 1 (by decide) (cG_B isB_1) rfl (f_become isB_1 hsb hsz hn2 hs1.symm hsw) tw_295 (List.mem_of_getElem? (i := 53) rfl) tw_93 tw_294 tw_2 (by decide +kernel) ⟨⟨rfl, rfl⟩, Nat.le_of_ble_eq_true rfl, Nat.le_of_ble_eq_true rfl⟩ rfl (Nat.le_of_ble_eq_true rfl) rfl rfl 23 rfl ?_
  refine v_aload_n hX 0 24 rfl rfl rfl ?_
  refine g_6_4 hX 25  tw_262 rfl ?_
  refine v_aload_n hX 0 26 rfl rfl rfl ?_
  refine g_6_0 hX 27  tw_258 rfl ?_
  refine gN_0_1 hX 28 isB_1 (List.mem_of_getElem? (i := 13) rfl) rfl ?_
  rw [hzz]
  refine v_callVN hX 1 (by decide) rfl rfl (f_settle hk hk2 hh) tw_311 (List.mem_of_getElem? (i := 11) rfl) tw_98 tw_310 tw_6 (by decide +kernel) ⟨⟨rfl, rfl⟩, Nat.le_of_ble_eq_true rfl, Nat.le_of_ble_eq_true rfl⟩ rfl (Nat.le_of_ble_eq_true rfl) rfl rfl 29 rfl ?_
  refine v_iret hX hQ rfl rfl ?_ ?_ 30 rfl
  · rfl
  · rfl
set_option maxRecDepth 100000 in
set_option maxHeartbeats 4000000 in
theorem f_best_bad {Y : Yt} {M : Mm} {w : Int32} (h0 : ¬ w = 0) (h1 : ¬ w = 1) : Fn Y yX6_bestAnswer wsX6_bestAnswer { frames := 3, cells := 0, slots := 0, locals := 68 } [.ref (Y.2.2.2 0), .int w] M (some (.int (-2))) M := by
  refine Fn.of (cc := cX6_bestAnswer) (ins := iX6_bestAnswer) (maxL := 9) (ret := (some .int)) (by decide) dX6_bestAnswer [some (.ref (Y.2.2.2 0)), some (.int w), none, none, none, none, none, none, none] (Nat.le_of_ble_eq_true rfl) rfl rfl ?_
  intro X hX hQ
  refine v_iload_n hX 1 0 rfl rfl rfl ?_
  refine v_if_eq hX (tgt := 12) 1 rfl (by decide) (fun c1 => absurd c1 h0) (fun c1 => ?_)
  refine v_iload_n hX 1 2 rfl rfl rfl ?_
  refine v_iconst hX (v := 1) 3 rfl (by decide) ?_
  refine v_icmp_eq hX (tgt := 12) 4 rfl (by decide) (fun c6 => absurd c6 h1) (fun c6 => ?_)
  refine v_bipush hX (v := (-2)) 5 rfl (by decide) ?_
  refine v_iret hX hQ rfl rfl ?_ ?_ 6 rfl
  · rfl
  · rfl
set_option maxRecDepth 100000 in
set_option maxHeartbeats 4000000 in
theorem f_best {Y : Yt} {M : Mm} {w : Int32} (h01 : w = 0 ∨ w = 1) {n : Nat} (hz : M.1 1 1 = nI n) (hn : n ≤ 24) (hw : WF (cp M 1) n) : Fn Y yX6_bestAnswer wsX6_bestAnswer { frames := 3, cells := 0, slots := 0, locals := 68 } [.ref (Y.2.2.2 0), .int w] M (some (.int (if w = 0 then (baS M n 24).1 else (baS M n 24).2))) M := by
  refine Fn.of (cc := cX6_bestAnswer) (ins := iX6_bestAnswer) (maxL := 9) (ret := (some .int)) (by decide) dX6_bestAnswer [some (.ref (Y.2.2.2 0)), some (.int w), none, none, none, none, none, none, none] (Nat.le_of_ble_eq_true rfl) rfl rfl ?_
  intro X hX hQ
  have j0 : V Y X M 12 [some (.ref (Y.2.2.2 0)), some (.int w), none, none, none, none, none, none, none] [] := by
    skip
    refine v_bipush hX (v := (-6)) 7 rfl (by decide) ?_
    refine v_istore_n hX 2 8 rfl rfl (Nat.le_of_ble_eq_true rfl) rfl ?_
    refine v_bipush hX (v := (-6)) 9 rfl (by decide) ?_
    refine v_istore_n hX 3 10 rfl rfl (Nat.le_of_ble_eq_true rfl) rfl ?_
    refine v_aload_n hX 0 11 rfl rfl rfl ?_
    refine g_6_0 hX 12  tw_258 rfl ?_
    refine v_callVN hX 0 (by decide) (cG_B isB_1) rfl (f_out isB_1 hz hn hw) tw_358 (List.mem_of_getElem? (i := 26) rfl) tw_93 tw_357 tw_14 (by decide +kernel) ⟨⟨rfl, rfl⟩, Nat.le_of_ble_eq_true rfl, Nat.le_of_ble_eq_true rfl⟩ rfl (Nat.le_of_ble_eq_true rfl) rfl rfl 13 rfl ?_
    refine v_istore hX 14 rfl (Nat.le_of_ble_eq_true rfl) rfl ?_
    refine v_aload_n hX 0 15 rfl rfl rfl ?_
    refine g_6_0 hX 16  tw_258 rfl ?_
    refine v_iload hX 17 rfl rfl ?_
    refine v_iconst hX (v := 0) 18 rfl (by decide) ?_
    refine v_callVN hX 2 (by decide) (cG_B isB_1) rfl (f_standingIf isB_1 hz hn hw) tw_378 (List.mem_of_getElem? (i := 39) rfl) tw_93 tw_377 tw_19 (by decide +kernel) ⟨⟨rfl, rfl⟩, Nat.le_of_ble_eq_true rfl, Nat.le_of_ble_eq_true rfl⟩ rfl (Nat.le_of_ble_eq_true rfl) rfl rfl 19 rfl ?_
    refine v_istore hX 20 rfl (Nat.le_of_ble_eq_true rfl) rfl ?_
    refine v_aload_n hX 0 21 rfl rfl rfl ?_
    refine g_6_0 hX 22  tw_258 rfl ?_
    refine v_callVN hX 0 (by decide) (cG_B isB_1) rfl (f_withoutAnswers isB_1 hz hn) tw_496 (List.mem_of_getElem? (i := 40) rfl) tw_93 tw_495 tw_34 (by decide +kernel) ⟨⟨rfl, rfl⟩, Nat.le_of_ble_eq_true rfl, Nat.le_of_ble_eq_true rfl⟩ rfl (Nat.le_of_ble_eq_true rfl) rfl rfl 23 rfl ?_
    rw [wa_mk hw hn]
    refine v_iload hX 24 rfl rfl ?_
    refine v_iconst hX (v := (-1)) 25 rfl (by decide) ?_
    refine v_ixor hX 26 rfl ?_
    refine v_iand hX 27 rfl ?_
    refine v_istore hX 28 rfl (Nat.le_of_ble_eq_true rfl) rfl ?_
    refine v_iconst hX (v := 0) 29 rfl (by decide) ?_
    refine v_istore hX 30 rfl (Nat.le_of_ble_eq_true rfl) rfl ?_
    have lp : ∀ (k : Nat), k ≤ 24 → V Y X M 56 [some (.ref (Y.2.2.2 0)), some (.int w), some (.int (baS M n k).1), some (.int (baS M n k).2), some (.int (mk (bOut M 1) n)), some (.int (mk (sd (bt (mk (bOut M 1) n)) (bt 0) (cp M 1) n) n)), some (.int (mk (naP (cp M 1) n) n &&& (mk (bOut M 1) n ^^^ (-1)))), some (.int (nI k)), none] [] := by
      refine upTo 24 (fun k hk ih => ?_)
      refine v_iload hX 31 rfl rfl ?_
      refine v_bipush hX (v := 24) 32 rfl (by decide) ?_
      refine v_icmp_ge hX (tgt := 120) 33 rfl (by decide) (fun c60 => ?_) (fun c60 => ?_)
      · skip
        have hk2 : k = 24 := by have := of_le (a := 24) c60 (by omega) (by omega); omega
        subst hk2
        refine v_iload_n hX 1 62 rfl rfl rfl ?_
        refine v_if_ne hX (tgt := 128) 63 rfl (by decide) (fun c121 => ?_) (fun c121 => ?_)
        · skip
          refine v_iload_n hX 3 66 rfl rfl rfl ?_
          refine v_iret hX hQ rfl rfl ?_ ?_ 67 rfl
          · simp only [c121, if_true, if_false]
          · rfl
        · skip
          refine v_iload_n hX 2 64 rfl rfl rfl ?_
          refine v_goto hX (tgt := 129) 65 rfl (by decide) ?_
          refine v_iret hX hQ rfl rfl ?_ ?_ 67 rfl
          · simp only [c121, if_true, if_false]
          · rfl
      · skip
        have hk2 : k < 24 := of_nle (a := 24) c60 (by omega) (by omega)
        refine v_iload hX 34 rfl rfl ?_
        refine v_iload hX 35 rfl rfl ?_
        refine v_callS hX 2 (f_has) tw_381 tw_422 tw_380 tw_92 (by decide +kernel) ⟨⟨rfl, rfl⟩, Nat.le_of_ble_eq_true rfl, Nat.le_of_ble_eq_true rfl⟩ rfl (Nat.le_of_ble_eq_true rfl) rfl rfl 36 rfl ?_
        refine v_if_eq hX (tgt := 114) 37 rfl (by decide) (fun c70 => ?_) (fun c70 => ?_)
        · skip
          have q1 := hasv_eq (by omega) c70
          have hs : baS M n (k + 1) = baS M n k := by rw [baS, if_neg (by rw [q1]; decide)]
          refine v_iinc hX 60 rfl rfl (nI_inc k) (Nat.le_of_ble_eq_true rfl) rfl ?_
          refine v_goto hX (tgt := 56) 61 rfl (by decide) ?_
          exact V.sub (ih hk2) rfl ⟨rfl, rfl, (by first | rfl | (refine congrArg (fun z : Int32 => some (Value.int z)) ?_; rw [hs])), (by first | rfl | (refine congrArg (fun z : Int32 => some (Value.int z)) ?_; rw [hs])), rfl, rfl, rfl, rfl, trivial⟩
        · skip
          have q1 := hasv_ne (by omega) c70
          refine v_aload_n hX 0 38 rfl rfl rfl ?_
          refine g_6_0 hX 39  tw_258 rfl ?_
          refine v_iload hX 40 rfl rfl ?_
          refine v_iconst hX (v := 1) 41 rfl (by decide) ?_
          refine v_iload hX 42 rfl rfl ?_
          refine v_ishl hX 43 rfl ?_
          refine v_callVN hX 2 (by decide) (cG_B isB_1) rfl (f_standingIf isB_1 hz hn hw) tw_378 (List.mem_of_getElem? (i := 39) rfl) tw_93 tw_377 tw_19 (by decide +kernel) ⟨⟨rfl, rfl⟩, Nat.le_of_ble_eq_true rfl, Nat.le_of_ble_eq_true rfl⟩ rfl (Nat.le_of_ble_eq_true rfl) rfl rfl 44 rfl ?_
          refine v_iload hX 45 rfl rfl ?_
          refine v_ixor hX 46 rfl ?_
          refine v_aload_n hX 0 47 rfl rfl rfl ?_
          refine g_6_0 hX 48  tw_258 rfl ?_
          refine v_callVN hX 0 (by decide) (cG_B isB_1) rfl (f_claims isB_1 hz hn) tw_449 (List.mem_of_getElem? (i := 25) rfl) tw_93 tw_448 tw_28 (by decide +kernel) ⟨⟨rfl, rfl⟩, Nat.le_of_ble_eq_true rfl, Nat.le_of_ble_eq_true rfl⟩ rfl (Nat.le_of_ble_eq_true rfl) rfl rfl 49 rfl ?_
          rw [mk_F]
          refine v_iand hX 50 rfl ?_
          refine v_callS hX 1 (f_bitCount) tw_388 tw_451 tw_387 tw_100 (by decide +kernel) ⟨⟨rfl, rfl⟩, Nat.le_of_ble_eq_true rfl, Nat.le_of_ble_eq_true rfl⟩ rfl (Nat.le_of_ble_eq_true rfl) rfl rfl 51 rfl ?_
          show V Y X M _ _ (.int (ba2 M n k (bOut M 1) (naP (cp M 1) n) (cp M 1)) :: _)
          refine v_istore hX 52 rfl (Nat.le_of_ble_eq_true rfl) rfl ?_
          refine v_iload hX 53 rfl rfl ?_
          refine v_iload_n hX 3 54 rfl rfl rfl ?_
          refine v_icmp_le hX (tgt := 114) 55 rfl (by decide) (fun c105 => ?_) (fun c105 => ?_)
          · skip
            have hs : baS M n (k + 1) = baS M n k := by rw [baS, if_pos q1, if_pos c105]
            refine v_iinc hX 60 rfl rfl (nI_inc k) (Nat.le_of_ble_eq_true rfl) rfl ?_
            refine v_goto hX (tgt := 56) 61 rfl (by decide) ?_
            exact V.sub (ih hk2) rfl ⟨rfl, rfl, (by first | rfl | (refine congrArg (fun z : Int32 => some (Value.int z)) ?_; rw [hs])), (by first | rfl | (refine congrArg (fun z : Int32 => some (Value.int z)) ?_; rw [hs])), rfl, rfl, rfl, rfl, trivial⟩
          · skip
            have hs : baS M n (k + 1) = (nI k, ba2 M n k (bOut M 1) (naP (cp M 1) n) (cp M 1)) := by rw [baS, if_pos q1, if_neg c105]
            refine v_iload hX 56 rfl rfl ?_
            refine v_istore_n hX 2 57 rfl rfl (Nat.le_of_ble_eq_true rfl) rfl ?_
            refine v_iload hX 58 rfl rfl ?_
            refine v_istore_n hX 3 59 rfl rfl (Nat.le_of_ble_eq_true rfl) rfl ?_
            refine v_iinc hX 60 rfl rfl (nI_inc k) (Nat.le_of_ble_eq_true rfl) rfl ?_
            refine v_goto hX (tgt := 56) 61 rfl (by decide) ?_
            exact V.sub (ih hk2) rfl ⟨rfl, rfl, (by first | rfl | (refine congrArg (fun z : Int32 => some (Value.int z)) ?_; rw [hs])), (by first | rfl | (refine congrArg (fun z : Int32 => some (Value.int z)) ?_; rw [hs])), rfl, rfl, rfl, rfl, trivial⟩
    exact V.sub (lp 0 (Nat.zero_le _)) rfl ⟨rfl, rfl, (by first | rfl | (refine congrArg (fun z : Int32 => some (Value.int z)) ?_; rfl)), (by first | rfl | (refine congrArg (fun z : Int32 => some (Value.int z)) ?_; rfl)), rfl, rfl, rfl, rfl, trivial⟩
  refine v_iload_n hX 1 0 rfl rfl rfl ?_
  refine v_if_eq hX (tgt := 12) 1 rfl (by decide) (fun c1 => ?_) (fun c1 => ?_)
  · skip
    exact V.sub (j0) rfl ⟨rfl, rfl, trivial⟩
  · skip
    refine v_iload_n hX 1 2 rfl rfl rfl ?_
    refine v_iconst hX (v := 1) 3 rfl (by decide) ?_
    refine v_icmp_eq hX (tgt := 12) 4 rfl (by decide) (fun c6 => ?_) (fun c6 => absurd (h01.resolve_left c1) c6)
    exact V.sub (j0) rfl ⟨rfl, rfl, trivial⟩
set_option maxRecDepth 100000 in
set_option maxHeartbeats 4000000 in
theorem f_changesIn {Y : Yt} {M : Mm} {n : Nat} (hz : M.1 1 1 = nI n) (hn : n ≤ 24) (hw : WF (cp M 1) n) : Fn Y yX6_changesIn wsX6_changesIn { frames := 4, cells := 0, slots := 0, locals := 88 } [.ref (Y.2.2.2 0)] M (some (.int (ciF M n 61 1))) M := by
  refine Fn.of (cc := cX6_changesIn) (ins := iX6_changesIn) (maxL := 4) (ret := (some .int)) (by decide) dX6_changesIn [some (.ref (Y.2.2.2 0)), none, none, none] (Nat.le_of_ble_eq_true rfl) rfl rfl ?_
  intro X hX hQ
  refine v_aload_n hX 0 0 rfl rfl rfl ?_
  refine g_6_0 hX 1  tw_258 rfl ?_
  refine v_callVN hX 0 (by decide) (cG_B isB_1) rfl (f_withdrawn isB_1 hz hn) tw_362 (List.mem_of_getElem? (i := 28) rfl) tw_93 tw_361 tw_15 (by decide +kernel) ⟨⟨rfl, rfl⟩, Nat.le_of_ble_eq_true rfl, Nat.le_of_ble_eq_true rfl⟩ rfl (Nat.le_of_ble_eq_true rfl) rfl rfl 2 rfl ?_
  rw [mk_F]
  refine v_aload_n hX 0 3 rfl rfl rfl ?_
  refine g_6_0 hX 4  tw_258 rfl ?_
  refine v_callVN hX 0 (by decide) (cG_B isB_1) rfl (f_struck isB_1 hz hn) tw_366 (List.mem_of_getElem? (i := 29) rfl) tw_93 tw_365 tw_16 (by decide +kernel) ⟨⟨rfl, rfl⟩, Nat.le_of_ble_eq_true rfl, Nat.le_of_ble_eq_true rfl⟩ rfl (Nat.le_of_ble_eq_true rfl) rfl rfl 5 rfl ?_
  rw [skA_mk hw hn]
  refine v_ior hX 6 rfl ?_
  refine v_aload_n hX 0 7 rfl rfl rfl ?_
  refine g_6_0 hX 8  tw_258 rfl ?_
  refine v_callVN hX 0 (by decide) (cG_B isB_1) rfl (f_baseless isB_1 hz hn) tw_374 (List.mem_of_getElem? (i := 41) rfl) tw_93 tw_373 tw_18 (by decide +kernel) ⟨⟨rfl, rfl⟩, Nat.le_of_ble_eq_true rfl, Nat.le_of_ble_eq_true rfl⟩ rfl (Nat.le_of_ble_eq_true rfl) rfl rfl 9 rfl ?_
  rw [mk_F]
  refine v_ior hX 10 rfl ?_
  refine v_istore_n hX 1 11 rfl rfl (Nat.le_of_ble_eq_true rfl) rfl ?_
  refine v_aload_n hX 0 12 rfl rfl rfl ?_
  refine g_6_0 hX 13  tw_258 rfl ?_
  refine v_callVN hX 0 (by decide) (cG_B isB_1) rfl (f_standing isB_1 hz hn hw) tw_354 (List.mem_of_getElem? (i := 20) rfl) tw_93 tw_353 tw_13 (by decide +kernel) ⟨⟨rfl, rfl⟩, Nat.le_of_ble_eq_true rfl, Nat.le_of_ble_eq_true rfl⟩ rfl (Nat.le_of_ble_eq_true rfl) rfl rfl 14 rfl ?_
  refine v_istore_n hX 2 15 rfl rfl (Nat.le_of_ble_eq_true rfl) rfl ?_
  refine v_iconst hX (v := 1) 16 rfl (by decide) ?_
  refine v_istore_n hX 3 17 rfl rfl (Nat.le_of_ble_eq_true rfl) rfl ?_
  have lp : ∀ (k : Nat), k ≤ 61 → ciF M n (61 - k) (k + 1) = ciF M n 61 1 → V Y X M 34 [some (.ref (Y.2.2.2 0)), some (.int (ciX M n)), some (.int (mk (bSd M 1 n) n)), some (.int (nI (k + 1)))] [] := by
    refine upTo 61 (fun k hk ih => ?_)
    intro he
    refine v_iload_n hX 3 18 rfl rfl rfl ?_
    refine v_bipush hX (v := 61) 19 rfl (by decide) ?_
    refine v_icmp_gt hX (tgt := 78) 20 rfl (by decide) (fun c37 => ?_) (fun c37 => ?_)
    · skip
      have hk2 : k = 61 := by have := of_lt (a := 61) c37 (by omega) (by omega); omega
      subst hk2
      have he2 : (-6 : Int32) = ciF M n 61 1 := he
      refine v_bipush hX (v := (-6)) 41 rfl (by decide) ?_
      refine v_iret hX hQ rfl rfl ?_ ?_ 42 rfl
      · rw [he2]
      · rfl
    · skip
      have hk2 : k < 61 := by have := of_nlt (a := 61) c37 (by omega) (by omega); omega
      obtain ⟨f, hf⟩ : ∃ f, 61 - k = f + 1 := ⟨60 - k, by omega⟩
      rw [hf, ciF] at he
      refine v_aload_n hX 0 21 rfl rfl rfl ?_
      refine g_6_0 hX 22  tw_258 rfl ?_
      refine v_iload_n hX 1 23 rfl rfl rfl ?_
      refine v_aload_n hX 0 24 rfl rfl rfl ?_
      refine g_6_0 hX 25  tw_258 rfl ?_
      refine v_aload_n hX 0 26 rfl rfl rfl ?_
      refine g_6_0 hX 27  tw_258 rfl ?_
      refine gN_0_2 hX 28 isB_1 (List.mem_of_getElem? (i := 14) rfl) rfl ?_
      refine v_iload_n hX 3 29 rfl rfl rfl ?_
      refine v_iadd hX 30 rfl ?_
      refine v_callVN hX 1 (by decide) (cG_B isB_1) rfl (f_lapsedOn isB_1 hz hn) tw_370 (List.mem_of_getElem? (i := 42) rfl) tw_93 tw_369 tw_17 (by decide +kernel) ⟨⟨rfl, rfl⟩, Nat.le_of_ble_eq_true rfl, Nat.le_of_ble_eq_true rfl⟩ rfl (Nat.le_of_ble_eq_true rfl) rfl rfl 31 rfl ?_
      rw [mk_F]
      refine v_ior hX 32 rfl ?_
      refine v_iconst hX (v := 0) 33 rfl (by decide) ?_
      refine v_callVN hX 2 (by decide) (cG_B isB_1) rfl (f_standingIf isB_1 hz hn hw) tw_378 (List.mem_of_getElem? (i := 39) rfl) tw_93 tw_377 tw_19 (by decide +kernel) ⟨⟨rfl, rfl⟩, Nat.le_of_ble_eq_true rfl, Nat.le_of_ble_eq_true rfl⟩ rfl (Nat.le_of_ble_eq_true rfl) rfl rfl 34 rfl ?_
      show V Y X M _ _ (.int (ciS M n (k + 1)) :: _)
      refine v_iload_n hX 2 35 rfl rfl rfl ?_
      refine v_icmp_eq hX (tgt := 72) 36 rfl (by decide) (fun c67 => ?_) (fun c67 => ?_)
      · skip
        rw [if_pos c67] at he
        refine v_iinc hX 39 rfl rfl (nI_inc (k + 1)) (Nat.le_of_ble_eq_true rfl) rfl ?_
        refine v_goto hX (tgt := 34) 40 rfl (by decide) ?_
        exact V.sub (ih hk2 (by rw [show 61 - (k + 1) = f by omega]; exact he)) rfl ⟨rfl, rfl, rfl, rfl, trivial⟩
      · skip
        rw [if_neg c67] at he
        refine v_iload_n hX 3 37 rfl rfl rfl ?_
        refine v_iret hX hQ rfl rfl ?_ ?_ 38 rfl
        · rw [he]
        · rfl
  exact V.sub (lp 0 (Nat.zero_le _) rfl) rfl ⟨rfl, rfl, rfl, rfl, trivial⟩
set_option maxRecDepth 100000 in
set_option maxHeartbeats 4000000 in
theorem f_leastPages {Y : Yt} {M : Mm} {n : Nat} (hz : M.1 1 1 = nI n) (hn : n ≤ 24) (hw : WF (cp M 1) n) : Fn Y yX6_leastPages wsX6_leastPages { frames := 2, cells := 0, slots := 0, locals := 46 } [.ref (Y.2.2.2 0)] M (some (.int (lpR M n))) M := by
  refine Fn.of (cc := cX6_leastPages) (ins := iX6_leastPages) (maxL := 3) (ret := (some .int)) (by decide) dX6_leastPages [some (.ref (Y.2.2.2 0)), none, none] (Nat.le_of_ble_eq_true rfl) rfl rfl ?_
  intro X hX hQ
  refine v_aload_n hX 0 0 rfl rfl rfl ?_
  refine g_6_0 hX 1  tw_258 rfl ?_
  refine v_callVN hX 0 (by decide) (cG_B isB_1) rfl (f_withdrawn isB_1 hz hn) tw_362 (List.mem_of_getElem? (i := 28) rfl) tw_93 tw_361 tw_15 (by decide +kernel) ⟨⟨rfl, rfl⟩, Nat.le_of_ble_eq_true rfl, Nat.le_of_ble_eq_true rfl⟩ rfl (Nat.le_of_ble_eq_true rfl) rfl rfl 2 rfl ?_
  rw [mk_F]
  refine v_istore_n hX 1 3 rfl rfl (Nat.le_of_ble_eq_true rfl) rfl ?_
  refine v_iconst hX (v := 1) 4 rfl (by decide) ?_
  refine v_aload_n hX 0 5 rfl rfl rfl ?_
  refine g_6_0 hX 6  tw_258 rfl ?_
  refine v_iconst hX (v := 0) 7 rfl (by decide) ?_
  refine v_iload_n hX 1 8 rfl rfl rfl ?_
  refine v_callVN hX 2 (by decide) (cG_B isB_1) rfl (f_pagesOf isB_1 hz hn) tw_466 (List.mem_of_getElem? (i := 30) rfl) tw_93 tw_465 tw_31 (by decide +kernel) ⟨⟨rfl, rfl⟩, Nat.le_of_ble_eq_true rfl, Nat.le_of_ble_eq_true rfl⟩ rfl (Nat.le_of_ble_eq_true rfl) rfl rfl 9 rfl ?_
  refine v_aload_n hX 0 10 rfl rfl rfl ?_
  refine g_6_0 hX 11  tw_258 rfl ?_
  refine v_iconst hX (v := 1) 12 rfl (by decide) ?_
  refine v_iload_n hX 1 13 rfl rfl rfl ?_
  refine v_callVN hX 2 (by decide) (cG_B isB_1) rfl (f_pagesOf isB_1 hz hn) tw_466 (List.mem_of_getElem? (i := 30) rfl) tw_93 tw_465 tw_31 (by decide +kernel) ⟨⟨rfl, rfl⟩, Nat.le_of_ble_eq_true rfl, Nat.le_of_ble_eq_true rfl⟩ rfl (Nat.le_of_ble_eq_true rfl) rfl rfl 14 rfl ?_
  refine v_mmax hX tw_537 tw_538 tw_101 tw_539 (Nat.le_of_ble_eq_true rfl) (Nat.le_of_ble_eq_true rfl) rfl 15 rfl ?_
  refine v_mmax hX tw_537 tw_538 tw_101 tw_539 (Nat.le_of_ble_eq_true rfl) (Nat.le_of_ble_eq_true rfl) rfl 16 rfl ?_
  show V Y X M _ _ (.int (lpN M n) :: _)
  refine v_istore_n hX 2 17 rfl rfl (Nat.le_of_ble_eq_true rfl) rfl ?_
  refine v_iload_n hX 2 18 rfl rfl rfl ?_
  refine v_bipush hX (v := 99) 19 rfl (by decide) ?_
  refine v_icmp_le hX (tgt := 45) 20 rfl (by decide) (fun c37 => ?_) (fun c37 => ?_)
  · skip
    refine v_iload_n hX 2 23 rfl rfl rfl ?_
    refine v_iret hX hQ rfl rfl ?_ ?_ 24 rfl
    · simp only [lpR, c37, if_true, if_false]
    · rfl
  · skip
    refine v_bipush hX (v := (-6)) 21 rfl (by decide) ?_
    refine v_goto hX (tgt := 46) 22 rfl (by decide) ?_
    refine v_iret hX hQ rfl rfl ?_ ?_ 24 rfl
    · simp only [lpR, c37, if_true, if_false]
    · rfl
end
section
theorem snE_le {x : Int64} {k : Nat} (hk : k ≤ 8) : ∃ g, g ≤ 8 ∧ snE x k = nI g := by
  unfold snE
  split
  · exact ⟨0, by omega, rfl⟩
  · exact ⟨k, hk, rfl⟩
theorem snL_le {x : Int64} : ∀ f k, k + f ≤ 8 → ∃ g, g ≤ 8 ∧ snL x f k = nI g := by
  intro f
  induction f with
  | zero => intro k hk; exact snE_le (by omega)
  | succ f ih =>
    intro k hk
    rw [snL]
    split
    · exact snE_le (by omega)
    split
    · exact ⟨0, by omega, rfl⟩
    · exact ih (k + 1) (by omega)
theorem sgn_nar (x : Int64) (p : Int32) : vp_nar .char (sgn x p) = sgn x p := pk_vc _
def apR (M : Mm) (x : Int64) (l g t : Nat) : Nat → Int32 := fun j => if l ≤ j ∧ j < l + t then sgn x (nI (g - 1 - (j - l))) else M.1 31 j
def apM (M : Mm) (x : Int64) (l g t : Nat) : Mm := mset (mrow M 31 (apR M x l g t)) 30 1 (nI (l + t))
theorem apM_0 {M : Mm} {x : Int64} {l g : Nat} (h : M.1 30 1 = nI l) : apM M x l g 0 = M := by
  refine Prod.ext (funext fun k => ?_) rfl
  unfold apM
  by_cases e : k = 30
  · subst e
    rw [mset_s, mrow_n (by decide)]
    funext j
    unfold upd
    by_cases q : j = 1
    · subst q; rw [if_pos rfl, h]
      rfl
    · rw [if_neg q]
  · rw [mset_n e]
    by_cases e2 : k = 31
    · subst e2
      rw [mrow_s]
      funext j
      unfold apR
      rw [if_neg (by omega)]
    · rw [mrow_n e2]
theorem apM_s {M : Mm} {x : Int64} {l g t : Nat} (ht : t < g) : mset (mset (apM M x l g t) 31 (l + t) (sgn x (nI (g - 1 - t)))) 30 1 (nI (l + t + 1)) = apM M x l g (t + 1) := by
  refine Prod.ext (funext fun k => ?_) rfl
  unfold apM
  by_cases e : k = 30
  · subst e
    rw [mset_s, mset_n (by decide), mset_s, mset_s, mrow_n (by decide), mrow_n (by decide)]
    funext j
    unfold upd
    by_cases q : j = 1
    · subst q; rfl
    · simp [q]
  · rw [mset_n e, mset_n e]
    by_cases e2 : k = 31
    · subst e2
      rw [mset_s, mset_n (by decide), mrow_s, mrow_s]
      funext j
      unfold upd apR
      by_cases q : j = l + t
      · subst q
        rw [if_pos rfl, if_pos (by omega)]
        congr 2
        omega
      · rw [if_neg q]
        by_cases q2 : l ≤ j ∧ j < l + t
        · rw [if_pos q2, if_pos (by omega)]
        · rw [if_neg q2, if_neg (by omega)]
    · rw [mset_n e2, mset_n e, mrow_n e2, mrow_n e2]
theorem apM_30 {M : Mm} {x : Int64} {l g t : Nat} : (apM M x l g t).1 30 1 = nI (l + t) := by unfold apM; rw [mset_s, upd_s]
def foR (M : Mm) (n : Nat) : Int32 :=
  if M.1 32 2 = 99 then fcR n (M.1 32 3) (M.1 32 4) (M.1 32 5)
  else if M.1 32 2 = 97 then (if ¬ M.1 32 3 < 0 ∧ ¬ nI n ≤ M.1 32 3 then faR M 1 n (M.1 32 3).toNatClampNeg (M.1 32 4) (M.1 32 5) else -1)
  else if M.1 32 2 = 119 then (if ¬ M.1 32 3 < 0 ∧ ¬ nI n ≤ M.1 32 3 then tbR M 1 n (M.1 32 3).toNatClampNeg else -1)
  else if M.1 32 2 = 114 then (if ¬ M.1 32 3 < 0 ∧ ¬ nI n ≤ M.1 32 3 then prR M 1 (M.1 32 3).toNatClampNeg else -1)
  else if M.1 32 2 = 116 then moR M 1 n (M.1 32 3)
  else if M.1 32 2 = 111 then tcR M 1 (M.1 32 3)
  else -3
def foM (M : Mm) (n : Nat) : Mm :=
  if M.1 32 2 = 99 then fcM M 1 n (M.1 32 3) (M.1 32 4) (M.1 32 5)
  else if M.1 32 2 = 97 then (if ¬ M.1 32 3 < 0 ∧ ¬ nI n ≤ M.1 32 3 then faM M 1 n (M.1 32 3).toNatClampNeg (M.1 32 4) (M.1 32 5) else M)
  else if M.1 32 2 = 119 then (if ¬ M.1 32 3 < 0 ∧ ¬ nI n ≤ M.1 32 3 then tbM M 1 (M.1 32 3).toNatClampNeg else M)
  else if M.1 32 2 = 114 then (if ¬ M.1 32 3 < 0 ∧ ¬ nI n ≤ M.1 32 3 then prM M 1 (M.1 32 3).toNatClampNeg else M)
  else if M.1 32 2 = 116 then moM M 1 (M.1 32 3)
  else if M.1 32 2 = 111 then tcM M 1 (M.1 32 3)
  else M
theorem ix_in {n j : Nat} (hj : j < n) (hn : n ≤ 24) : ¬ nI j < 0 ∧ ¬ nI n ≤ nI j := ⟨nI_nlt (Nat.zero_le _) (by omega), nI_ge hj (by omega)⟩

def PB (M : Mm) (n : Nat) : Prop := M.1 1 1 = nI n ∧ n ≤ 24 ∧ WF (cp M 1) n
theorem WF_ext {P P' : Nat → Nat → Int32} {n : Nat} (h : ∀ i, i < n → P i 0 = P' i 0 ∧ P i 3 = P' i 3 ∧ P i 6 = P' i 6) (hw : WF P n) : WF P' n := by
  intro i hi
  obtain ⟨h0, h3, h6⟩ := h i hi
  rw [← h0, ← h3, ← h6]
  exact hw i hi
theorem PB.row {M : Mm} {n k j : Nat} {v : Int32} (hk : k = 1) (hj : j ≠ 1) (h : PB M n) : PB (mset M k j v) n := by
  subst hk
  exact ⟨by rw [mset_s, upd_n hj.symm]; exact h.1, h.2.1, by rw [cp_mset_b]; exact h.2.2⟩
theorem PB.pt {M : Mm} {n i j : Nat} {v : Int32} (hj : j ≠ 0 ∧ j ≠ 3) (hv : j = 6 → v = 0 ∨ v = 1) (h : PB M n) : PB (mset M (1 + 2 + i) j v) n := by
  refine ⟨by rw [mset_n (by omega)]; exact h.1, h.2.1, ?_⟩
  rw [cp_mset_p]
  intro k hk
  obtain ⟨h1, h2, h3⟩ := h.2.2 k hk
  dsimp only
  refine ⟨by rw [if_neg (by omega)]; exact h1, by rw [if_neg (by omega)]; exact h2, ?_⟩
  by_cases g : k = i ∧ 6 = j
  · rw [if_pos g]; exact hv g.2.symm
  · rw [if_neg g]; exact h3
theorem PB.out {M : Mm} {n k : Nat} {f : Nat → Int32} (hk : 27 ≤ k) (h : PB M n) : PB (mrow M k f) n := by
  refine ⟨by rw [mrow_n (by omega)]; exact h.1, h.2.1, WF_ext (fun i hi => ?_) h.2.2⟩
  have e : cp (mrow M k f) 1 i = cp M 1 i := by funext j; unfold cp; rw [mrow_n (by have := h.2.1; omega)]
  rw [e]
  exact ⟨rfl, rfl, rfl⟩
theorem fileM_cp {M : Mm} {n i : Nat} {s p c t : Int32} (hi : i < n) : cp (fileM M 1 n s p c t) 1 i = cp M 1 i := by
  funext j
  unfold cp fileM
  rw [mset_n (by omega), mset_n (by omega), mset_n (by omega), mset_n (by omega), mset_n (by omega), mset_n (by omega), mset_n (by omega), mset_n (by omega)]
theorem fileM_new {M : Mm} {n : Nat} {s p c t : Int32} : cp (fileM M 1 n s p c t) 1 n 0 = s ∧ cp (fileM M 1 n s p c t) 1 n 1 = p ∧ cp (fileM M 1 n s p c t) 1 n 2 = c ∧ cp (fileM M 1 n s p c t) 1 n 3 = t ∧ cp (fileM M 1 n s p c t) 1 n 4 = M.1 1 2 ∧ cp (fileM M 1 n s p c t) 1 n 5 = M.1 1 2 ∧ cp (fileM M 1 n s p c t) 1 n 6 = 0 := by
  unfold cp fileM
  simp only [mset_n (show 1 + 2 + n ≠ 1 by omega), mset_s]
  refine ⟨?_, ?_, ?_, ?_, ?_, ?_, ?_⟩ <;> simp [upd]
theorem fileM_1 {M : Mm} {n : Nat} {s p c t : Int32} : (fileM M 1 n s p c t).1 1 = upd (M.1 1) 1 (nI (n + 1)) := by
  unfold fileM
  simp only [mset_s, mset_n (show 1 ≠ 1 + 2 + n by omega)]
theorem fileM_PB {M : Mm} {n : Nat} {s p c t : Int32} (h : PB M n) (hn : n < 24) (hs : s = 0 ∨ s = 1) (ht : t = -6 ∨ ∃ i, i < n ∧ t = nI i) : PB (fileM M 1 n s p c t) (n + 1) := by
  refine ⟨by rw [fileM_1, upd_s], by omega, ?_⟩
  intro i hi
  by_cases e : i = n
  · subst e
    have q := fileM_new (M := M) (n := i) (s := s) (p := p) (c := c) (t := t)
    rw [q.1, q.2.2.2.1, q.2.2.2.2.2.2]
    exact ⟨hs, ht, Or.inl rfl⟩
  · rw [fileM_cp (by omega)]
    exact h.2.2 i (by omega)
theorem side_01 {s : Int32} (h0 : ¬ s < 0) (h1 : ¬ 1 < s) : s = 0 ∨ s = 1 := by
  rcases sw_cases s 2 (by decide) with ⟨j, hj, e⟩ | h
  · have : j = 0 ∨ j = 1 := by omega
    rcases this with rfl | rfl
    · exact Or.inl e
    · exact Or.inr e
  · exfalso
    rw [Int32.lt_iff_toInt_lt] at h0 h1
    have e0 : (0 : Int32).toInt = 0 := rfl
    have e1 : (1 : Int32).toInt = 1 := rfl
    rw [e0] at h0
    rw [e1] at h1
    omega
theorem sub_01 {s : Int32} (h : s = 0 ∨ s = 1) : 1 - s = 0 ∨ 1 - s = 1 := by rcases h with rfl | rfl; exact Or.inr rfl; exact Or.inl rfl
theorem fcM_PB {M : Mm} {n : Nat} {s p c : Int32} (h : PB M n) : ∃ n', PB (fcM M 1 n s p c) n' := by
  unfold fcM
  split
  · exact ⟨n, h⟩
  split
  · rename_i g g2
    exact ⟨n + 1, fileM_PB h g2 (side_01 (fun q => g (Or.inl q)) (fun q => g (Or.inr (Or.inl q)))) (Or.inl rfl)⟩
  · exact ⟨n, h⟩
theorem faM_PB {M : Mm} {n i : Nat} {p c : Int32} (h : PB M n) (hi : i < n) : ∃ n', PB (faM M 1 n i p c) n' := by
  unfold faM
  split
  · exact ⟨n, h⟩
  split
  · rename_i g g2
    split
    · exact ⟨n + 1, fileM_PB h g2 (sub_01 (h.2.2 i hi).1) (Or.inr ⟨i, hi, rfl⟩)⟩
    · exact ⟨n, h⟩
  · exact ⟨n, h⟩
theorem tbM_PB {M : Mm} {n i : Nat} (h : PB M n) : PB (tbM M 1 i) n := by
  unfold tbM
  split
  · exact h.pt (by decide) (fun _ => Or.inr rfl)
  · exact h
theorem prM_PB {M : Mm} {n i : Nat} (h : PB M n) : PB (prM M 1 i) n := by
  unfold prM
  split
  · exact h
  · exact h.pt (by decide) (fun q => absurd q (by decide))
theorem tcM_PB {M : Mm} {n : Nat} {w : Int32} (h : PB M n) : PB (tcM M 1 w) n := by
  unfold tcM
  split
  · exact h
  · exact h.row rfl (by decide)
theorem moM_PB {M : Mm} {n : Nat} {d : Int32} (h : PB M n) : PB (moM M 1 d) n := by
  unfold moM
  split
  · exact h
  split
  · exact h.row rfl (by decide)
  · exact h
theorem ix_of {x : Int32} {n : Nat} (hn : n ≤ 24) (h : ¬ x < 0 ∧ ¬ nI n ≤ x) : ∃ j, j < n ∧ x = nI j ∧ x.toNatClampNeg = j := by
  rcases pk_ix x (show n < 2 ^ 31 by omega) with g | g | ⟨j, h1, h2⟩
  · exact absurd g h.1
  · exact absurd g h.2
  · exact ⟨j, h1, h2, by rw [h2, nI_clamp (by omega)]⟩
theorem foM_PB {M : Mm} {n : Nat} (h : PB M n) : ∃ n', PB (foM M n) n' := by
  unfold foM
  split
  · exact fcM_PB h
  split
  · split
    · rename_i g
      obtain ⟨j, h1, h2, h3⟩ := ix_of h.2.1 g
      rw [h3]
      exact faM_PB h h1
    · exact ⟨n, h⟩
  split
  · split
    · exact ⟨n, tbM_PB h⟩
    · exact ⟨n, h⟩
  split
  · split
    · exact ⟨n, prM_PB h⟩
    · exact ⟨n, h⟩
  split
  · exact ⟨n, moM_PB h⟩
  split
  · exact ⟨n, tcM_PB h⟩
  · exact ⟨n, h⟩
theorem foM_fr {M : Mm} {n : Nat} (hn : n ≤ 24) : Fr M (foM M n) := by
  unfold foM
  split
  · exact fcM_fr
  split
  · split
    · exact faM_fr
    · exact Fr.rf
  split
  · split
    · rename_i g
      obtain ⟨j, h1, h2, h3⟩ := ix_of hn g
      rw [h3]
      exact tbM_fr (by omega)
    · exact Fr.rf
  split
  · split
    · rename_i g
      obtain ⟨j, h1, h2, h3⟩ := ix_of hn g
      rw [h3]
      exact prM_fr (by omega)
    · exact Fr.rf
  split
  · exact moM_fr
  split
  · exact tcM_fr
  · exact Fr.rf
def nOf (M : Mm) : Nat := (M.1 1 1).toNatClampNeg
theorem nOf_eq {M : Mm} {n : Nat} (h : PB M n) : nOf M = n := by unfold nOf; rw [h.1, nI_clamp (by have := h.2.1; omega)]
def coL (s : Nat → Int32) (l : Nat) : Nat → Nat → Nat → Mm → Nat × Mm
  | 0, d, _, M => (d, M)
  | f + 1, d, a, M => if (ror s l a (M.1 32)).1 = 0 then (d, mrow M 32 (ror s l a (M.1 32)).2.2) else if foR (mrow M 32 (ror s l a (M.1 32)).2.2) (nOf M) < 0 then (d, foM (mrow M 32 (ror s l a (M.1 32)).2.2) (nOf M)) else coL s l f (d + 1) (tkc s l 59 (ror s l a (M.1 32)).2.1 (ror s l a (M.1 32)).2.2).2.1 (mrow (foM (mrow M 32 (ror s l a (M.1 32)).2.2) (nOf M)) 32 (tkc s l 59 (ror s l a (M.1 32)).2.1 (ror s l a (M.1 32)).2.2).2.2)
theorem RdOK.fr {M M' : Mm} {s : Nat → Int32} {l : Nat} (h : RdOK M s l) (g : Fr M M') : RdOK M' s l := by
  obtain ⟨h1, h2, h3, h4⟩ := h
  exact ⟨by rw [g.2 31 (by decide)]; exact h1, by rw [g.2 30 (by decide)]; exact h2, h3, fun j hj => by rw [g.2 31 (by decide)]; exact h4 j hj⟩
theorem cpB_row {M : Mm} {c n : Nat} {f : Nat → Int32} (hc : isB c) (h : c ≠ 1) (hn : n ≤ 24) : cpB (mrow M 32 f) c 1 n = mrow (cpB M c 1 n) 32 f := by
  have h0 := isB_no hc (show 0 < 26 by decide)
  have h1 := isB_lt hc
  have h2 := isB_cases hc
  refine Prod.ext (funext fun k => ?_) rfl
  by_cases e : k = 32
  · subst e
    rw [mrow_s, cpB_out (by omega) (by omega), mrow_s]
  · rw [mrow_n e]
    unfold cpB
    show (if k = c then _ else if c + 2 ≤ k ∧ k < c + 2 + n then _ else _) = (if k = c then _ else if c + 2 ≤ k ∧ k < c + 2 + n then _ else _)
    split
    · rename_i g
      rw [mrow_n (show 1 ≠ 32 by decide), mrow_n (show c ≠ 32 by omega)]
    split
    · rename_i g g2
      rw [mrow_n (show 1 + (k - c) ≠ 32 by omega), mrow_n e]
    · rw [mrow_n e]
end
section
set_option maxRecDepth 100000 in
set_option maxHeartbeats 4000000 in
theorem f_put_bad {Y : Yt} {M : Mm} {x : Int64} (hg : snL x 8 0 = 0) : Fn Y yX6_put wsX6_put { frames := 2, cells := 0, slots := 0, locals := 45 } [.ref (Y.2.2.2 0), .long x] M (some (.int (-2))) M := by
  refine Fn.of (cc := cX6_put) (ins := iX6_put) (maxL := 5) (ret := (some .int)) (by decide) dX6_put [some (.ref (Y.2.2.2 0)), some (.long x), none, none, none] (Nat.le_of_ble_eq_true rfl) rfl rfl ?_
  intro X hX hQ
  refine v_lload_n hX 1 0 rfl rfl rfl ?_
  refine v_callSN hX 1 (f_signsIn) tw_546 (List.mem_of_getElem? (i := 43) rfl) tw_96 tw_545 (by decide +kernel) ⟨⟨rfl, rfl⟩, Nat.le_of_ble_eq_true rfl, Nat.le_of_ble_eq_true rfl⟩ rfl (Nat.le_of_ble_eq_true rfl) rfl rfl 1 rfl ?_
  refine v_istore_n hX 3 2 rfl rfl (Nat.le_of_ble_eq_true rfl) rfl ?_
  refine v_iload_n hX 3 3 rfl rfl rfl ?_
  refine v_if_ne hX (tgt := 12) 4 rfl (by decide) (fun c6 => absurd c6 (fun h => h hg)) (fun c6 => ?_)
  refine v_bipush hX (v := (-2)) 5 rfl (by decide) ?_
  refine v_iret hX hQ rfl rfl ?_ ?_ 6 rfl
  · rfl
  · rfl
set_option maxRecDepth 100000 in
set_option maxHeartbeats 4000000 in
theorem f_put_many {Y : Yt} {M : Mm} {x : Int64} {l g : Nat} (hl : M.1 30 1 = nI l) (hg : snL x 8 0 = nI g) (hg0 : 0 < g) (hg8 : g ≤ 8) (hl8 : l ≤ 80) (hlg : 80 < l + g) : Fn Y yX6_put wsX6_put { frames := 2, cells := 0, slots := 0, locals := 45 } [.ref (Y.2.2.2 0), .long x] M (some (.int (-4))) M := by
  refine Fn.of (cc := cX6_put) (ins := iX6_put) (maxL := 5) (ret := (some .int)) (by decide) dX6_put [some (.ref (Y.2.2.2 0)), some (.long x), none, none, none] (Nat.le_of_ble_eq_true rfl) rfl rfl ?_
  intro X hX hQ
  refine v_lload_n hX 1 0 rfl rfl rfl ?_
  refine v_callSN hX 1 (f_signsIn) tw_546 (List.mem_of_getElem? (i := 43) rfl) tw_96 tw_545 (by decide +kernel) ⟨⟨rfl, rfl⟩, Nat.le_of_ble_eq_true rfl, Nat.le_of_ble_eq_true rfl⟩ rfl (Nat.le_of_ble_eq_true rfl) rfl rfl 1 rfl ?_
  rw [hg]
  refine v_istore_n hX 3 2 rfl rfl (Nat.le_of_ble_eq_true rfl) rfl ?_
  refine v_iload_n hX 3 3 rfl rfl rfl ?_
  refine v_if_ne hX (tgt := 12) 4 rfl (by decide) (fun c6 => ?_) (fun c6 => absurd c6 (nI_ne0 hg0 (by omega)))
  refine v_aload_n hX 0 7 rfl rfl rfl ?_
  refine g_6_2 hX 8  tw_260 rfl ?_
  refine gN_3_1 hX 9  (List.mem_of_getElem? (i := 19) rfl) rfl ?_
  refine v_iload_n hX 3 10 rfl rfl rfl ?_
  refine v_iadd hX 11 rfl ?_
  refine v_bipush hX (v := 80) 12 rfl (by decide) ?_
  refine v_icmp_le hX (tgt := 29) 13 rfl (by decide) (fun c23 => absurd c23 (by rw [hl, nI_add]; exact nI_ge hlg (by omega))) (fun c23 => ?_)
  refine v_bipush hX (v := (-4)) 14 rfl (by decide) ?_
  refine v_iret hX hQ rfl rfl ?_ ?_ 15 rfl
  · rfl
  · rfl
set_option maxRecDepth 100000 in
set_option maxHeartbeats 4000000 in
theorem f_put {Y : Yt} {M : Mm} {x : Int64} {l g : Nat} (hl : M.1 30 1 = nI l) (hg : snL x 8 0 = nI g) (hg0 : 0 < g) (hg8 : g ≤ 8) (hlg : l + g ≤ 80) : Fn Y yX6_put wsX6_put { frames := 2, cells := 0, slots := 0, locals := 45 } [.ref (Y.2.2.2 0), .long x] M (some (.int (nI (l + g)))) ((apM M x l g g)) := by
  refine Fn.of (cc := cX6_put) (ins := iX6_put) (maxL := 5) (ret := (some .int)) (by decide) dX6_put [some (.ref (Y.2.2.2 0)), some (.long x), none, none, none] (Nat.le_of_ble_eq_true rfl) rfl rfl ?_
  intro X hX hQ
  refine v_lload_n hX 1 0 rfl rfl rfl ?_
  refine v_callSN hX 1 (f_signsIn) tw_546 (List.mem_of_getElem? (i := 43) rfl) tw_96 tw_545 (by decide +kernel) ⟨⟨rfl, rfl⟩, Nat.le_of_ble_eq_true rfl, Nat.le_of_ble_eq_true rfl⟩ rfl (Nat.le_of_ble_eq_true rfl) rfl rfl 1 rfl ?_
  rw [hg]
  refine v_istore_n hX 3 2 rfl rfl (Nat.le_of_ble_eq_true rfl) rfl ?_
  refine v_iload_n hX 3 3 rfl rfl rfl ?_
  refine v_if_ne hX (tgt := 12) 4 rfl (by decide) (fun c6 => ?_) (fun c6 => absurd c6 (nI_ne0 hg0 (by omega)))
  refine v_aload_n hX 0 7 rfl rfl rfl ?_
  refine g_6_2 hX 8  tw_260 rfl ?_
  refine gN_3_1 hX 9  (List.mem_of_getElem? (i := 19) rfl) rfl ?_
  refine v_iload_n hX 3 10 rfl rfl rfl ?_
  refine v_iadd hX 11 rfl ?_
  refine v_bipush hX (v := 80) 12 rfl (by decide) ?_
  refine v_icmp_le hX (tgt := 29) 13 rfl (by decide) (fun c23 => ?_) (fun c23 => absurd (by rw [hl, nI_add]; exact nI_le (b := 80) hlg (by omega)) c23)
  refine v_iload_n hX 3 16 rfl rfl rfl ?_
  refine v_iconst hX (v := 1) 17 rfl (by decide) ?_
  refine v_isub hX 18 rfl ?_
  refine v_istore hX 19 rfl (Nat.le_of_ble_eq_true rfl) rfl ?_
  have lp : ∀ (m : Nat), m ≤ g → V Y X (apM M x l g (g - m)) 34 [some (.ref (Y.2.2.2 0)), some (.long x), none, some (.int (nI g)), some (.int (nI m - 1))] [] := by
    refine downTo (fun m ih => ?_)
    intro hm
    rcases Nat.eq_zero_or_pos m with h0 | h0
    · skip
      subst h0
      refine v_iload hX 20 rfl rfl ?_
      refine v_if_lt hX (tgt := 58) 21 rfl (by decide) (fun c36 => ?_) (fun c36 => absurd (by decide) c36)
      refine v_aload_n hX 0 30 rfl rfl rfl ?_
      refine g_6_2 hX 31  tw_260 rfl ?_
      refine gN_3_1 hX 32  (List.mem_of_getElem? (i := 19) rfl) rfl ?_
      rw [apM_30]
      refine v_iret hX hQ rfl rfl ?_ ?_ 33 rfl
      · rfl
      · rfl
    · skip
      obtain ⟨m, rfl⟩ : ∃ m2, m = m2 + 1 := ⟨m - 1, by omega⟩
      rw [nI_pred]
      refine v_iload hX 20 rfl rfl ?_
      refine v_if_lt hX (tgt := 58) 21 rfl (by decide) (fun c36 => absurd c36 (nI_nlt (Nat.zero_le _) (by omega))) (fun c36 => ?_)
      refine v_aload_n hX 0 22 rfl rfl rfl ?_
      refine g_6_2 hX 23  tw_260 rfl ?_
      refine v_lload_n hX 1 24 rfl rfl rfl ?_
      refine v_iload hX 25 rfl rfl ?_
      refine v_callSN hX 2 (f_signOf) tw_549 (List.mem_of_getElem? (i := 44) rfl) tw_96 tw_548 (by decide +kernel) ⟨⟨rfl, rfl⟩, Nat.le_of_ble_eq_true rfl, Nat.le_of_ble_eq_true rfl⟩ rfl (Nat.le_of_ble_eq_true rfl) rfl rfl 26 rfl ?_
      refine v_callVN hX 1 (by decide) rfl rfl (f_append (l := l + (g - (m + 1))) (by omega) apM_30) tw_555 (List.mem_of_getElem? (i := 45) rfl) tw_96 tw_554 tw_38 (by decide +kernel) ⟨⟨rfl, rfl⟩, Nat.le_of_ble_eq_true rfl, Nat.le_of_ble_eq_true rfl⟩ rfl (Nat.le_of_ble_eq_true rfl) rfl rfl 27 rfl ?_
      rw [sgn_nar]
      refine v_iinc hX 28 rfl rfl (nI_dm m) (Nat.le_of_ble_eq_true rfl) rfl ?_
      refine v_goto hX (tgt := 34) 29 rfl (by decide) ?_
      refine V.subM (ih m (by omega) (by omega)) ?_ rfl ⟨rfl, rfl, rfl, rfl, trivial⟩
      rw [show g - m = g - (m + 1) + 1 by omega, ← apM_s (show g - (m + 1) < g by omega), show g - 1 - (g - (m + 1)) = m by omega]
  refine V.subM (lp g (Nat.le_refl g)) ?_ rfl ⟨rfl, rfl, rfl, rfl, trivial⟩
  rw [Nat.sub_self, apM_0 hl]
set_option maxRecDepth 100000 in
set_option maxHeartbeats 4000000 in
theorem f_follow {Y : Yt} {M : Mm} {n : Nat} (hp : PB M n) : Fn Y yX6_follow wsX6_follow { frames := 5, cells := 0, slots := 0, locals := 110 } [.ref (Y.2.2.2 0)] M (some (.int (foR M n))) ((foM M n)) := by
  refine Fn.of (cc := cX6_follow) (ins := iX6_follow) (maxL := 1) (ret := (some .int)) (by decide) dX6_follow [some (.ref (Y.2.2.2 0))] (Nat.le_of_ble_eq_true rfl) rfl rfl ?_
  intro X hX hQ
  refine v_aload_n hX 0 0 rfl rfl rfl ?_
  refine g_6_3 hX 1  tw_261 rfl ?_
  refine gN_5_2 hX 2  (List.mem_of_getElem? (i := 20) rfl) rfl ?_
  rcases ord7 (M.1 32 2) with hc | hc | hc | hc | hc | hc | hc
  · skip
    have hR : foR M n = fcR n (M.1 32 3) (M.1 32 4) (M.1 32 5) := by unfold foR; rw [if_pos hc]
    have hM : foM M n = fcM M 1 n (M.1 32 3) (M.1 32 4) (M.1 32 5) := by unfold foM; rw [if_pos hc]
    refine v_lookup hX (off := 57) (tgt := 64) 3 rfl (by decide) (by rw [hc]; decide) (by decide) ?_
    refine v_aload_n hX 0 4 rfl rfl rfl ?_
    refine g_6_0 hX 5  tw_258 rfl ?_
    refine v_aload_n hX 0 6 rfl rfl rfl ?_
    refine g_6_3 hX 7  tw_261 rfl ?_
    refine gN_5_3 hX 8  (List.mem_of_getElem? (i := 21) rfl) rfl ?_
    refine v_aload_n hX 0 9 rfl rfl rfl ?_
    refine g_6_3 hX 10  tw_261 rfl ?_
    refine gN_5_4 hX 11  (List.mem_of_getElem? (i := 22) rfl) rfl ?_
    refine v_aload_n hX 0 12 rfl rfl rfl ?_
    refine g_6_3 hX 13  tw_261 rfl ?_
    refine gN_5_5 hX 14  (List.mem_of_getElem? (i := 23) rfl) rfl ?_
    refine v_callVN hX 3 (by have := isB_lt isB_1; omega) (cG_B isB_1) rfl (f_fileClaim isB_1 hp.1 hp.2.1) tw_323 (List.mem_of_getElem? (i := 12) rfl) tw_93 tw_322 tw_8 (by decide +kernel) ⟨⟨rfl, rfl⟩, Nat.le_of_ble_eq_true rfl, Nat.le_of_ble_eq_true rfl⟩ rfl (Nat.le_of_ble_eq_true rfl) rfl rfl 15 rfl ?_
    refine v_iret hX hQ rfl rfl ?_ ?_ 16 rfl
    · rw [hR]
    · rw [hM]
  · skip
    have hR : foR M n = (if ¬ M.1 32 3 < 0 ∧ ¬ nI n ≤ M.1 32 3 then faR M 1 n (M.1 32 3).toNatClampNeg (M.1 32 4) (M.1 32 5) else -1) := by unfold foR; rw [if_neg (by rw [hc]; decide), if_pos hc]
    have hM : foM M n = (if ¬ M.1 32 3 < 0 ∧ ¬ nI n ≤ M.1 32 3 then faM M 1 n (M.1 32 3).toNatClampNeg (M.1 32 4) (M.1 32 5) else M) := by unfold foM; rw [if_neg (by rw [hc]; decide), if_pos hc]
    refine v_lookup hX (off := 86) (tgt := 93) 3 rfl (by decide) (by rw [hc]; decide) (by decide) ?_
    refine v_aload_n hX 0 17 rfl rfl rfl ?_
    refine g_6_0 hX 18  tw_258 rfl ?_
    refine v_aload_n hX 0 19 rfl rfl rfl ?_
    refine g_6_3 hX 20  tw_261 rfl ?_
    refine gN_5_3 hX 21  (List.mem_of_getElem? (i := 21) rfl) rfl ?_
    refine v_aload_n hX 0 22 rfl rfl rfl ?_
    refine g_6_3 hX 23  tw_261 rfl ?_
    refine gN_5_4 hX 24  (List.mem_of_getElem? (i := 22) rfl) rfl ?_
    refine v_aload_n hX 0 25 rfl rfl rfl ?_
    refine g_6_3 hX 26  tw_261 rfl ?_
    refine gN_5_5 hX 27  (List.mem_of_getElem? (i := 23) rfl) rfl ?_
    rcases pk_ix (M.1 32 3) (show n < 2 ^ 31 by have := hp.2.1; omega) with g | g | ⟨j, hj, ej⟩
    · skip
      refine v_callVN hX 3 (by have := isB_lt isB_1; omega) (cG_B isB_1) rfl (f_fileAnswer_no isB_1 hp.1 hp.2.1 (Or.inl g)) tw_342 (List.mem_of_getElem? (i := 13) rfl) tw_93 tw_341 tw_11 (by decide +kernel) ⟨⟨rfl, rfl⟩, Nat.le_of_ble_eq_true rfl, Nat.le_of_ble_eq_true rfl⟩ rfl (Nat.le_of_ble_eq_true rfl) rfl rfl 28 rfl ?_
      refine v_iret hX hQ rfl rfl ?_ ?_ 29 rfl
      · rw [hR]; exact congrArg (fun z : Int32 => some (Value.int z)) (if_neg (fun h => h.1 g))
      · rw [hM]; exact if_neg (fun h => h.1 g)
    · skip
      refine v_callVN hX 3 (by have := isB_lt isB_1; omega) (cG_B isB_1) rfl (f_fileAnswer_no isB_1 hp.1 hp.2.1 (Or.inr g)) tw_342 (List.mem_of_getElem? (i := 13) rfl) tw_93 tw_341 tw_11 (by decide +kernel) ⟨⟨rfl, rfl⟩, Nat.le_of_ble_eq_true rfl, Nat.le_of_ble_eq_true rfl⟩ rfl (Nat.le_of_ble_eq_true rfl) rfl rfl 28 rfl ?_
      refine v_iret hX hQ rfl rfl ?_ ?_ 29 rfl
      · rw [hR]; exact congrArg (fun z : Int32 => some (Value.int z)) (if_neg (fun h => h.2 g))
      · rw [hM]; exact if_neg (fun h => h.2 g)
    · skip
      rw [ej]
      refine v_callVN hX 3 (by have := isB_lt isB_1; omega) (cG_B isB_1) rfl (f_fileAnswer isB_1 hp.1 hp.2.1 hj) tw_342 (List.mem_of_getElem? (i := 13) rfl) tw_93 tw_341 tw_11 (by decide +kernel) ⟨⟨rfl, rfl⟩, Nat.le_of_ble_eq_true rfl, Nat.le_of_ble_eq_true rfl⟩ rfl (Nat.le_of_ble_eq_true rfl) rfl rfl 28 rfl ?_
      refine v_iret hX hQ rfl rfl ?_ ?_ 29 rfl
      · rw [hR, ej, if_pos (ix_in hj hp.2.1), nI_clamp (by have := hp.2.1; omega)]
      · rw [hM, ej, if_pos (ix_in hj hp.2.1), nI_clamp (by have := hp.2.1; omega)]
  · skip
    have hR : foR M n = (if ¬ M.1 32 3 < 0 ∧ ¬ nI n ≤ M.1 32 3 then tbR M 1 n (M.1 32 3).toNatClampNeg else -1) := by unfold foR; rw [if_neg (by rw [hc]; decide), if_neg (by rw [hc]; decide), if_pos hc]
    have hM : foM M n = (if ¬ M.1 32 3 < 0 ∧ ¬ nI n ≤ M.1 32 3 then tbM M 1 (M.1 32 3).toNatClampNeg else M) := by unfold foM; rw [if_neg (by rw [hc]; decide), if_neg (by rw [hc]; decide), if_pos hc]
    refine v_lookup hX (off := 115) (tgt := 122) 3 rfl (by decide) (by rw [hc]; decide) (by decide) ?_
    refine v_aload_n hX 0 30 rfl rfl rfl ?_
    refine g_6_0 hX 31  tw_258 rfl ?_
    refine v_aload_n hX 0 32 rfl rfl rfl ?_
    refine g_6_3 hX 33  tw_261 rfl ?_
    refine gN_5_3 hX 34  (List.mem_of_getElem? (i := 21) rfl) rfl ?_
    rcases pk_ix (M.1 32 3) (show n < 2 ^ 31 by have := hp.2.1; omega) with g | g | ⟨j, hj, ej⟩
    · skip
      refine v_callVN hX 1 (by have := isB_lt isB_1; omega) (cG_B isB_1) rfl (f_takeBack_no isB_1 hp.1 hp.2.1 (Or.inl g)) tw_350 (List.mem_of_getElem? (i := 14) rfl) tw_93 tw_349 tw_12 (by decide +kernel) ⟨⟨rfl, rfl⟩, Nat.le_of_ble_eq_true rfl, Nat.le_of_ble_eq_true rfl⟩ rfl (Nat.le_of_ble_eq_true rfl) rfl rfl 35 rfl ?_
      refine v_iret hX hQ rfl rfl ?_ ?_ 36 rfl
      · rw [hR]; exact congrArg (fun z : Int32 => some (Value.int z)) (if_neg (fun h => h.1 g))
      · rw [hM]; exact if_neg (fun h => h.1 g)
    · skip
      refine v_callVN hX 1 (by have := isB_lt isB_1; omega) (cG_B isB_1) rfl (f_takeBack_no isB_1 hp.1 hp.2.1 (Or.inr g)) tw_350 (List.mem_of_getElem? (i := 14) rfl) tw_93 tw_349 tw_12 (by decide +kernel) ⟨⟨rfl, rfl⟩, Nat.le_of_ble_eq_true rfl, Nat.le_of_ble_eq_true rfl⟩ rfl (Nat.le_of_ble_eq_true rfl) rfl rfl 35 rfl ?_
      refine v_iret hX hQ rfl rfl ?_ ?_ 36 rfl
      · rw [hR]; exact congrArg (fun z : Int32 => some (Value.int z)) (if_neg (fun h => h.2 g))
      · rw [hM]; exact if_neg (fun h => h.2 g)
    · skip
      rw [ej]
      refine v_callVN hX 1 (by have := isB_lt isB_1; omega) (cG_B isB_1) rfl (f_takeBack isB_1 hp.1 hp.2.1 hj hp.2.2) tw_350 (List.mem_of_getElem? (i := 14) rfl) tw_93 tw_349 tw_12 (by decide +kernel) ⟨⟨rfl, rfl⟩, Nat.le_of_ble_eq_true rfl, Nat.le_of_ble_eq_true rfl⟩ rfl (Nat.le_of_ble_eq_true rfl) rfl rfl 35 rfl ?_
      refine v_iret hX hQ rfl rfl ?_ ?_ 36 rfl
      · rw [hR, ej, if_pos (ix_in hj hp.2.1), nI_clamp (by have := hp.2.1; omega)]
      · rw [hM, ej, if_pos (ix_in hj hp.2.1), nI_clamp (by have := hp.2.1; omega)]
  · skip
    have hR : foR M n = (if ¬ M.1 32 3 < 0 ∧ ¬ nI n ≤ M.1 32 3 then prR M 1 (M.1 32 3).toNatClampNeg else -1) := by unfold foR; rw [if_neg (by rw [hc]; decide), if_neg (by rw [hc]; decide), if_neg (by rw [hc]; decide), if_pos hc]
    have hM : foM M n = (if ¬ M.1 32 3 < 0 ∧ ¬ nI n ≤ M.1 32 3 then prM M 1 (M.1 32 3).toNatClampNeg else M) := by unfold foM; rw [if_neg (by rw [hc]; decide), if_neg (by rw [hc]; decide), if_neg (by rw [hc]; decide), if_pos hc]
    refine v_lookup hX (off := 130) (tgt := 137) 3 rfl (by decide) (by rw [hc]; decide) (by decide) ?_
    refine v_aload_n hX 0 37 rfl rfl rfl ?_
    refine g_6_0 hX 38  tw_258 rfl ?_
    refine v_aload_n hX 0 39 rfl rfl rfl ?_
    refine g_6_3 hX 40  tw_261 rfl ?_
    refine gN_5_3 hX 41  (List.mem_of_getElem? (i := 21) rfl) rfl ?_
    rcases pk_ix (M.1 32 3) (show n < 2 ^ 31 by have := hp.2.1; omega) with g | g | ⟨j, hj, ej⟩
    · skip
      refine v_callVN hX 1 (by have := isB_lt isB_1; omega) (cG_B isB_1) rfl (f_prolong_no isB_1 hp.1 hp.2.1 (Or.inl g)) tw_399 (List.mem_of_getElem? (i := 16) rfl) tw_93 tw_398 tw_21 (by decide +kernel) ⟨⟨rfl, rfl⟩, Nat.le_of_ble_eq_true rfl, Nat.le_of_ble_eq_true rfl⟩ rfl (Nat.le_of_ble_eq_true rfl) rfl rfl 42 rfl ?_
      refine v_iret hX hQ rfl rfl ?_ ?_ 43 rfl
      · rw [hR]; exact congrArg (fun z : Int32 => some (Value.int z)) (if_neg (fun h => h.1 g))
      · rw [hM]; exact if_neg (fun h => h.1 g)
    · skip
      refine v_callVN hX 1 (by have := isB_lt isB_1; omega) (cG_B isB_1) rfl (f_prolong_no isB_1 hp.1 hp.2.1 (Or.inr g)) tw_399 (List.mem_of_getElem? (i := 16) rfl) tw_93 tw_398 tw_21 (by decide +kernel) ⟨⟨rfl, rfl⟩, Nat.le_of_ble_eq_true rfl, Nat.le_of_ble_eq_true rfl⟩ rfl (Nat.le_of_ble_eq_true rfl) rfl rfl 42 rfl ?_
      refine v_iret hX hQ rfl rfl ?_ ?_ 43 rfl
      · rw [hR]; exact congrArg (fun z : Int32 => some (Value.int z)) (if_neg (fun h => h.2 g))
      · rw [hM]; exact if_neg (fun h => h.2 g)
    · skip
      rw [ej]
      refine v_callVN hX 1 (by have := isB_lt isB_1; omega) (cG_B isB_1) rfl (f_prolong isB_1 hp.1 hp.2.1 hj) tw_399 (List.mem_of_getElem? (i := 16) rfl) tw_93 tw_398 tw_21 (by decide +kernel) ⟨⟨rfl, rfl⟩, Nat.le_of_ble_eq_true rfl, Nat.le_of_ble_eq_true rfl⟩ rfl (Nat.le_of_ble_eq_true rfl) rfl rfl 42 rfl ?_
      refine v_iret hX hQ rfl rfl ?_ ?_ 43 rfl
      · rw [hR, ej, if_pos (ix_in hj hp.2.1), nI_clamp (by have := hp.2.1; omega)]
      · rw [hM, ej, if_pos (ix_in hj hp.2.1), nI_clamp (by have := hp.2.1; omega)]
  · skip
    have hR : foR M n = moR M 1 n (M.1 32 3) := by unfold foR; rw [if_neg (by rw [hc]; decide), if_neg (by rw [hc]; decide), if_neg (by rw [hc]; decide), if_neg (by rw [hc]; decide), if_pos hc]
    have hM : foM M n = moM M 1 (M.1 32 3) := by unfold foM; rw [if_neg (by rw [hc]; decide), if_neg (by rw [hc]; decide), if_neg (by rw [hc]; decide), if_neg (by rw [hc]; decide), if_pos hc]
    refine v_lookup hX (off := 160) (tgt := 167) 3 rfl (by decide) (by rw [hc]; decide) (by decide) ?_
    refine v_aload_n hX 0 51 rfl rfl rfl ?_
    refine g_6_0 hX 52  tw_258 rfl ?_
    refine v_aload_n hX 0 53 rfl rfl rfl ?_
    refine g_6_3 hX 54  tw_261 rfl ?_
    refine gN_5_3 hX 55  (List.mem_of_getElem? (i := 21) rfl) rfl ?_
    refine v_callVN hX 1 (by have := isB_lt isB_1; omega) (cG_B isB_1) rfl (f_moveOn isB_1 hp.1 hp.2.1 hp.2.2) tw_415 (List.mem_of_getElem? (i := 18) rfl) tw_93 tw_414 tw_23 (by decide +kernel) ⟨⟨rfl, rfl⟩, Nat.le_of_ble_eq_true rfl, Nat.le_of_ble_eq_true rfl⟩ rfl (Nat.le_of_ble_eq_true rfl) rfl rfl 56 rfl ?_
    refine v_iret hX hQ rfl rfl ?_ ?_ 57 rfl
    · rw [hR]
    · rw [hM]
  · skip
    have hR : foR M n = tcR M 1 (M.1 32 3) := by unfold foR; rw [if_neg (by rw [hc]; decide), if_neg (by rw [hc]; decide), if_neg (by rw [hc]; decide), if_neg (by rw [hc]; decide), if_neg (by rw [hc]; decide), if_pos hc]
    have hM : foM M n = tcM M 1 (M.1 32 3) := by unfold foM; rw [if_neg (by rw [hc]; decide), if_neg (by rw [hc]; decide), if_neg (by rw [hc]; decide), if_neg (by rw [hc]; decide), if_neg (by rw [hc]; decide), if_pos hc]
    refine v_lookup hX (off := 145) (tgt := 152) 3 rfl (by decide) (by rw [hc]; decide) (by decide) ?_
    refine v_aload_n hX 0 44 rfl rfl rfl ?_
    refine g_6_0 hX 45  tw_258 rfl ?_
    refine v_aload_n hX 0 46 rfl rfl rfl ?_
    refine g_6_3 hX 47  tw_261 rfl ?_
    refine gN_5_3 hX 48  (List.mem_of_getElem? (i := 21) rfl) rfl ?_
    refine v_callVN hX 1 (by have := isB_lt isB_1; omega) (cG_B isB_1) rfl (f_turnCase isB_1) tw_407 (List.mem_of_getElem? (i := 17) rfl) tw_93 tw_406 tw_22 (by decide +kernel) ⟨⟨rfl, rfl⟩, Nat.le_of_ble_eq_true rfl, Nat.le_of_ble_eq_true rfl⟩ rfl (Nat.le_of_ble_eq_true rfl) rfl rfl 49 rfl ?_
    refine v_iret hX hQ rfl rfl ?_ ?_ 50 rfl
    · rw [hR]
    · rw [hM]
  · skip
    have hR : foR M n = -3 := by unfold foR; rw [if_neg hc.1, if_neg hc.2.1, if_neg hc.2.2.1, if_neg hc.2.2.2.1, if_neg hc.2.2.2.2.1, if_neg hc.2.2.2.2.2]
    have hM : foM M n = M := by unfold foM; rw [if_neg hc.1, if_neg hc.2.1, if_neg hc.2.2.1, if_neg hc.2.2.2.1, if_neg hc.2.2.2.2.1, if_neg hc.2.2.2.2.2]
    refine v_lookup hX (off := 175) (tgt := 182) 3 rfl (by decide) ((lv_osw hc.2.1 rfl).trans ((lv_osw hc.1 rfl).trans ((lv_osw hc.2.2.2.2.2 rfl).trans ((lv_osw hc.2.2.2.1 rfl).trans ((lv_osw hc.2.2.2.2.1 rfl).trans ((lv_osw hc.2.2.1 rfl).trans rfl)))))) (by decide) ?_
    refine v_bipush hX (v := (-3)) 58 rfl (by decide) ?_
    refine v_iret hX hQ rfl rfl ?_ ?_ 59 rfl
    · rw [hR]
    · rw [hM]
set_option maxRecDepth 100000 in
set_option maxHeartbeats 4000000 in
theorem f_carryOut_bad {Y : Yt} {M : Mm} {s q : Nat → Int32} {l : Nat} (h : RdOK M s l) (hf : ¬ (ffl s l 80 0 (upd q 0 0)).1 = -6) : Fn Y yX6_carryOut wsX6_carryOut { frames := 6, cells := 0, slots := 0, locals := 132 } [.ref (Y.2.2.2 0)] (mrow M 32 q) (some (.int (-3))) ((mrow M 32 (ffl s l 80 0 (upd q 0 0)).2)) := by
  refine Fn.of (cc := cX6_carryOut) (ins := iX6_carryOut) (maxL := 2) (ret := (some .int)) (by decide) dX6_carryOut [some (.ref (Y.2.2.2 0)), none] (Nat.le_of_ble_eq_true rfl) rfl rfl ?_
  intro X hX hQ
  refine v_aload_n hX 0 0 rfl rfl rfl ?_
  refine g_6_3 hX 1  tw_261 rfl ?_
  refine v_aload_n hX 0 2 rfl rfl rfl ?_
  refine g_6_2 hX 3  tw_260 rfl ?_
  refine v_callVN hX 1 (by decide) rfl rfl (f_firstFault h) tw_571 (List.mem_of_getElem? (i := 47) rfl) tw_97 tw_570 tw_40 (by decide +kernel) ⟨⟨rfl, rfl⟩, Nat.le_of_ble_eq_true rfl, Nat.le_of_ble_eq_true rfl⟩ rfl (Nat.le_of_ble_eq_true rfl) rfl rfl 4 rfl ?_
  refine v_bipush hX (v := (-6)) 5 rfl (by decide) ?_
  refine v_icmp_eq hX (tgt := 19) 6 rfl (by decide) (fun c13 => absurd c13 hf) (fun c13 => ?_)
  refine v_bipush hX (v := (-3)) 7 rfl (by decide) ?_
  refine v_iret hX hQ rfl rfl ?_ ?_ 8 rfl
  · rfl
  · rfl
set_option maxRecDepth 100000 in
set_option maxHeartbeats 4000000 in
theorem f_carryOut {Y : Yt} {M : Mm} {s q : Nat → Int32} {l k n : Nat} (h : RdOK M s l) (hf : (ffl s l 80 0 (upd q 0 0)).1 = -6) (hk : k ≤ 6) (hkk : M.1 33 1 = nI k) (hh : ∀ i, i < 7 → isB (M.2 i) ∧ M.2 i ≠ 1) (hp : PB M n) : Fn Y yX6_carryOut wsX6_carryOut { frames := 6, cells := 0, slots := 0, locals := 132 } [.ref (Y.2.2.2 0)] (mrow M 32 q) (some (.int (nI (coL s l 80 0 0 (mrow (cpB M (M.2 k) 1 n) 32 (upd (ffl s l 80 0 (upd q 0 0)).2 0 0))).1))) ((seM (mset (coL s l 80 0 0 (mrow (cpB M (M.2 k) 1 n) 32 (upd (ffl s l 80 0 (upd q 0 0)).2 0 0))).2 30 1 0) k (nI (coL s l 80 0 0 (mrow (cpB M (M.2 k) 1 n) 32 (upd (ffl s l 80 0 (upd q 0 0)).2 0 0))).1))) := by
  have hc := hh k (by omega)
  have hp1 : PB (mrow M 32 (ffl s l 80 0 (upd q 0 0)).2) n := PB.out (by decide) hp
  have he1 : cpB (mrow M 32 (ffl s l 80 0 (upd q 0 0)).2) (M.2 k) 1 n = mrow (cpB M (M.2 k) 1 n) 32 (ffl s l 80 0 (upd q 0 0)).2 := cpB_row hc.1 hc.2 hp.2.1
  have hp2 : PB (cpB M (M.2 k) 1 n) n := ⟨by rw [prz hc.1 hc.2 hp.2.1]; exact hp.1, hp.2.1, prw hc.1 hc.2 hp.2.1 (by have := hp.2.1; omega) hp.2.2⟩
  have hr1 : RdOK (cpB M (M.2 k) 1 n) s l := ⟨by rw [pro hc.1 hp.2.1 (by omega)]; exact h.1, by rw [pro hc.1 hp.2.1 (by omega)]; exact h.2.1, h.2.2.1, fun j hj => by rw [pro hc.1 hp.2.1 (by omega)]; exact h.2.2.2 j hj⟩
  refine Fn.of (cc := cX6_carryOut) (ins := iX6_carryOut) (maxL := 2) (ret := (some .int)) (by decide) dX6_carryOut [some (.ref (Y.2.2.2 0)), none] (Nat.le_of_ble_eq_true rfl) rfl rfl ?_
  intro X hX hQ
  refine v_aload_n hX 0 0 rfl rfl rfl ?_
  refine g_6_3 hX 1  tw_261 rfl ?_
  refine v_aload_n hX 0 2 rfl rfl rfl ?_
  refine g_6_2 hX 3  tw_260 rfl ?_
  refine v_callVN hX 1 (by decide) rfl rfl (f_firstFault h) tw_571 (List.mem_of_getElem? (i := 47) rfl) tw_97 tw_570 tw_40 (by decide +kernel) ⟨⟨rfl, rfl⟩, Nat.le_of_ble_eq_true rfl, Nat.le_of_ble_eq_true rfl⟩ rfl (Nat.le_of_ble_eq_true rfl) rfl rfl 4 rfl ?_
  refine v_bipush hX (v := (-6)) 5 rfl (by decide) ?_
  refine v_icmp_eq hX (tgt := 19) 6 rfl (by decide) (fun c13 => ?_) (fun c13 => absurd hf c13)
  refine v_aload_n hX 0 9 rfl rfl rfl ?_
  refine g_6_4 hX 10  tw_262 rfl ?_
  refine v_aload_n hX 0 11 rfl rfl rfl ?_
  refine g_6_0 hX 12  tw_258 rfl ?_
  refine v_callVN hX 1 (by decide) rfl rfl (f_prepare hk (by rw [mrow_n (by decide)]; exact hkk) hh hp1.1 hp1.2.1 hp1.2.2) tw_287 (List.mem_of_getElem? (i := 7) rfl) tw_98 tw_286 tw_0 (by decide +kernel) ⟨⟨rfl, rfl⟩, Nat.le_of_ble_eq_true rfl, Nat.le_of_ble_eq_true rfl⟩ rfl (Nat.le_of_ble_eq_true rfl) rfl rfl 13 rfl ?_
  show V Y X (cpB (mrow M 32 (ffl s l 80 0 (upd q 0 0)).2) (M.2 k) 1 n) _ _ _
  rw [he1]
  refine v_aload_n hX 0 14 rfl rfl rfl ?_
  refine g_6_3 hX 15  tw_261 rfl ?_
  refine v_callVN hX 0 (by decide) rfl rfl (f_rewind) tw_575 (List.mem_of_getElem? (i := 49) rfl) tw_97 tw_574 tw_41 (by decide +kernel) ⟨⟨rfl, rfl⟩, Nat.le_of_ble_eq_true rfl, Nat.le_of_ble_eq_true rfl⟩ rfl (Nat.le_of_ble_eq_true rfl) rfl rfl 16 rfl ?_
  refine v_iconst hX (v := 0) 17 rfl (by decide) ?_
  refine v_istore_n hX 1 18 rfl rfl (Nat.le_of_ble_eq_true rfl) rfl ?_
  have lp : ∀ (d : Nat), d ≤ 80 → ∀ (p : Nat) (B : Mm) (m : Nat), PB B m → RdOK B s l → B.1 32 0 = nI p → p ≤ l → B.1 33 1 = nI k → B.2 = M.2 → coL s l (80 - d) d p B = coL s l 80 0 0 (mrow (cpB M (M.2 k) 1 n) 32 (upd (ffl s l 80 0 (upd q 0 0)).2 0 0)) → V Y X B 39 [some (.ref (Y.2.2.2 0)), some (.int (nI d))] [] := by
    refine upTo 80 (fun d hd ih => ?_)
    intro p B m hpB hB hw0 hpl h33 hB22 he
    refine v_iload_n hX 1 19 rfl rfl rfl ?_
    refine v_bipush hX (v := 80) 20 rfl (by decide) ?_
    refine v_icmp_ge hX (tgt := 86) 21 rfl (by decide) (fun c42 => ?_) (fun c42 => ?_)
    · skip
      have hd2 : d = 80 := by have := of_le (a := 80) c42 (by omega) (by omega); omega
      subst hd2
      have he : (80, B) = coL s l 80 0 0 (mrow (cpB M (M.2 k) 1 n) 32 (upd (ffl s l 80 0 (upd q 0 0)).2 0 0)) := he
      have h33e : (mset (B) 30 1 0).1 33 1 = nI k := by rw [mset_n (by decide)]; exact h33
      have hhe : ∀ z9, z9 < 7 → isB ((mset (B) 30 1 0).2 z9) ∧ (mset (B) 30 1 0).2 z9 ≠ 1 := by rw [mset_2]; rw [hB22]; exact hh
      refine v_aload_n hX 0 40 rfl rfl rfl ?_
      refine g_6_2 hX 41  tw_260 rfl ?_
      refine v_callVN hX 0 (by decide) rfl rfl (f_empty) tw_563 (List.mem_of_getElem? (i := 46) rfl) tw_96 tw_562 tw_39 (by decide +kernel) ⟨⟨rfl, rfl⟩, Nat.le_of_ble_eq_true rfl, Nat.le_of_ble_eq_true rfl⟩ rfl (Nat.le_of_ble_eq_true rfl) rfl rfl 42 rfl ?_
      refine v_pop hX 43 rfl rfl ?_
      refine v_aload_n hX 0 44 rfl rfl rfl ?_
      refine g_6_4 hX 45  tw_262 rfl ?_
      refine v_iload_n hX 1 46 rfl rfl rfl ?_
      refine v_callVN hX 1 (by decide) rfl rfl (f_settle hk h33e hhe) tw_311 (List.mem_of_getElem? (i := 11) rfl) tw_98 tw_310 tw_6 (by decide +kernel) ⟨⟨rfl, rfl⟩, Nat.le_of_ble_eq_true rfl, Nat.le_of_ble_eq_true rfl⟩ rfl (Nat.le_of_ble_eq_true rfl) rfl rfl 47 rfl ?_
      refine v_iret hX hQ rfl rfl ?_ ?_ 48 rfl
      · rw [← he]
      · rw [← he]
    · skip
      have hd2 : d < 80 := of_nle (a := 80) c42 (by omega) (by omega)
      obtain ⟨f, hf2⟩ : ∃ f, 80 - d = f + 1 := ⟨79 - d, by omega⟩
      rw [hf2, coL] at he
      have hr := ror_ok (s := s) hw0 hpl
      refine v_aload_n hX 0 22 rfl rfl rfl ?_
      refine g_6_3 hX 23  tw_261 rfl ?_
      refine v_aload_n hX 0 24 rfl rfl rfl ?_
      refine g_6_2 hX 25  tw_260 rfl ?_
      refine V.mem (mrow_self (k := 32)).symm ?_
      refine v_callVN hX 1 (by decide) rfl rfl (f_ror hB hw0 hpl) tw_579 (List.mem_of_getElem? (i := 50) rfl) tw_97 tw_578 tw_42 (by decide +kernel) ⟨⟨rfl, rfl⟩, Nat.le_of_ble_eq_true rfl, Nat.le_of_ble_eq_true rfl⟩ rfl (Nat.le_of_ble_eq_true rfl) rfl rfl 26 rfl ?_
      refine v_if_eq hX (tgt := 86) 27 rfl (by decide) (fun c56 => ?_) (fun c56 => ?_)
      · skip
        rw [if_pos c56] at he
        have h33e : (mset (mrow B 32 (ror s l p (B.1 32)).2.2) 30 1 0).1 33 1 = nI k := by rw [mset_n (by decide)]; rw [mrow_n (by decide)]; exact h33
        have hhe : ∀ z9, z9 < 7 → isB ((mset (mrow B 32 (ror s l p (B.1 32)).2.2) 30 1 0).2 z9) ∧ (mset (mrow B 32 (ror s l p (B.1 32)).2.2) 30 1 0).2 z9 ≠ 1 := by rw [mset_2]; rw [mrow_2, hB22]; exact hh
        refine v_aload_n hX 0 40 rfl rfl rfl ?_
        refine g_6_2 hX 41  tw_260 rfl ?_
        refine v_callVN hX 0 (by decide) rfl rfl (f_empty) tw_563 (List.mem_of_getElem? (i := 46) rfl) tw_96 tw_562 tw_39 (by decide +kernel) ⟨⟨rfl, rfl⟩, Nat.le_of_ble_eq_true rfl, Nat.le_of_ble_eq_true rfl⟩ rfl (Nat.le_of_ble_eq_true rfl) rfl rfl 42 rfl ?_
        refine v_pop hX 43 rfl rfl ?_
        refine v_aload_n hX 0 44 rfl rfl rfl ?_
        refine g_6_4 hX 45  tw_262 rfl ?_
        refine v_iload_n hX 1 46 rfl rfl rfl ?_
        refine v_callVN hX 1 (by decide) rfl rfl (f_settle hk h33e hhe) tw_311 (List.mem_of_getElem? (i := 11) rfl) tw_98 tw_310 tw_6 (by decide +kernel) ⟨⟨rfl, rfl⟩, Nat.le_of_ble_eq_true rfl, Nat.le_of_ble_eq_true rfl⟩ rfl (Nat.le_of_ble_eq_true rfl) rfl rfl 47 rfl ?_
        refine v_iret hX hQ rfl rfl ?_ ?_ 48 rfl
        · rw [← he]
        · rw [← he]
      · skip
        rw [if_neg c56] at he
        have hpr : PB (mrow B 32 (ror s l p (B.1 32)).2.2) m := PB.out (by decide) hpB
        rw [nOf_eq hpB] at he
        have hfr : Fr (mrow B 32 (ror s l p (B.1 32)).2.2) (foM (mrow B 32 (ror s l p (B.1 32)).2.2) m) := foM_fr hpB.2.1
        refine v_aload_n hX 0 28 rfl rfl rfl ?_
        refine v_callV hX 0 (by decide) rfl rfl (f_follow hpr) tw_617 tw_614 tw_616 tw_50 tw_92 (by decide +kernel) ⟨⟨rfl, rfl⟩, Nat.le_of_ble_eq_true rfl, Nat.le_of_ble_eq_true rfl⟩ rfl (Nat.le_of_ble_eq_true rfl) rfl rfl 29 rfl ?_
        refine v_if_lt hX (tgt := 86) 30 rfl (by decide) (fun c63 => ?_) (fun c63 => ?_)
        · skip
          rw [if_pos c63] at he
          have h33e : (mset (foM (mrow B 32 (ror s l p (B.1 32)).2.2) m) 30 1 0).1 33 1 = nI k := by rw [mset_n (by decide)]; rw [hfr.2 33 (by decide), mrow_n (by decide)]; exact h33
          have hhe : ∀ z9, z9 < 7 → isB ((mset (foM (mrow B 32 (ror s l p (B.1 32)).2.2) m) 30 1 0).2 z9) ∧ (mset (foM (mrow B 32 (ror s l p (B.1 32)).2.2) m) 30 1 0).2 z9 ≠ 1 := by rw [mset_2]; rw [hfr.1, mrow_2, hB22]; exact hh
          refine v_aload_n hX 0 40 rfl rfl rfl ?_
          refine g_6_2 hX 41  tw_260 rfl ?_
          refine v_callVN hX 0 (by decide) rfl rfl (f_empty) tw_563 (List.mem_of_getElem? (i := 46) rfl) tw_96 tw_562 tw_39 (by decide +kernel) ⟨⟨rfl, rfl⟩, Nat.le_of_ble_eq_true rfl, Nat.le_of_ble_eq_true rfl⟩ rfl (Nat.le_of_ble_eq_true rfl) rfl rfl 42 rfl ?_
          refine v_pop hX 43 rfl rfl ?_
          refine v_aload_n hX 0 44 rfl rfl rfl ?_
          refine g_6_4 hX 45  tw_262 rfl ?_
          refine v_iload_n hX 1 46 rfl rfl rfl ?_
          refine v_callVN hX 1 (by decide) rfl rfl (f_settle hk h33e hhe) tw_311 (List.mem_of_getElem? (i := 11) rfl) tw_98 tw_310 tw_6 (by decide +kernel) ⟨⟨rfl, rfl⟩, Nat.le_of_ble_eq_true rfl, Nat.le_of_ble_eq_true rfl⟩ rfl (Nat.le_of_ble_eq_true rfl) rfl rfl 47 rfl ?_
          refine v_iret hX hQ rfl rfl ?_ ?_ 48 rfl
          · rw [← he]
          · rw [← he]
        · skip
          rw [if_neg c63] at he
          obtain ⟨m2, hm2⟩ := foM_PB hpr
          have hrw : (foM (mrow B 32 (ror s l p (B.1 32)).2.2) m).1 32 = (ror s l p (B.1 32)).2.2 := by rw [hfr.2 32 (by decide), mrow_s]
          have hB2 := (hB.row (q := (ror s l p (B.1 32)).2.2)).fr hfr
          have ht := tkc_ok (s := s) (c := 59) (q := (ror s l p (B.1 32)).2.2) (by decide) hr.1 hr.2
          refine v_iinc hX 31 rfl rfl (nI_inc d) (Nat.le_of_ble_eq_true rfl) rfl ?_
          refine v_aload_n hX 0 32 rfl rfl rfl ?_
          refine g_6_3 hX 33  tw_261 rfl ?_
          refine v_aload_n hX 0 34 rfl rfl rfl ?_
          refine g_6_2 hX 35  tw_260 rfl ?_
          refine v_bipush hX (v := 59) 36 rfl (by decide) ?_
          refine V.mem (mrow_self (k := 32)).symm ?_
          rw [hrw]
          refine v_callVN hX 2 (by decide) rfl rfl (f_tk hB2 hr.1 hr.2) tw_599 (List.mem_of_getElem? (i := 51) rfl) tw_97 tw_598 tw_47 (by decide +kernel) ⟨⟨rfl, rfl⟩, Nat.le_of_ble_eq_true rfl, Nat.le_of_ble_eq_true rfl⟩ rfl (Nat.le_of_ble_eq_true rfl) rfl rfl 37 rfl ?_
          refine v_pop hX 38 rfl rfl ?_
          refine v_goto hX (tgt := 39) 39 rfl (by decide) ?_
          refine V.sub (ih hd2 (tkc s l 59 (ror s l p (B.1 32)).2.1 (ror s l p (B.1 32)).2.2).2.1 (mrow (foM (mrow B 32 (ror s l p (B.1 32)).2.2) m) 32 (tkc s l 59 (ror s l p (B.1 32)).2.1 (ror s l p (B.1 32)).2.2).2.2) m2 (PB.out (by decide) hm2) hB2.row (by rw [mrow_s]; exact ht.1) ht.2 ?_ ?_ (by rw [show 80 - (d + 1) = f by omega]; exact he)) rfl ⟨rfl, rfl, trivial⟩
          · rw [mrow_n (by decide), hfr.2 33 (by decide), mrow_n (by decide)]; exact h33
          · show (foM _ _).2 = M.2; rw [hfr.1]; exact hB22
  exact V.sub (lp 0 (Nat.zero_le _) 0 (mrow (cpB M (M.2 k) 1 n) 32 (upd (ffl s l 80 0 (upd q 0 0)).2 0 0)) n (PB.out (by decide) hp2) hr1.row (by rw [mrow_s, upd_s]; rfl) (Nat.zero_le _) (by rw [mrow_n (by decide), pro hc.1 hp.2.1 (by omega)]; exact hkk) rfl rfl) rfl ⟨rfl, rfl, trivial⟩
end
section
def rf : Nat → Nat
  | 0 => 0
  | 1 => 1
  | 2 => 5
  | 3 => 4
  | 4 => 2
  | 5 => 3
  | n => n
def rp (Z : Nat → Int32) : Nat → Nat → Int32 := fun i j => Z (5 + 7 * i + rf j)
def b01 (b : Bool) : Int32 := if b = true then 1 else 0
theorem b01_0 {b : Bool} : b01 b = 0 ↔ b = false := by cases b <;> decide
theorem b01_f {b : Bool} (h : b01 b = 0) : b = false := b01_0.mp h
theorem b01_t {b : Bool} (h : ¬ b01 b = 0) : b = true := by
  cases b
  · exact absurd rfl h
  · rfl
theorem b01_v (b : Bool) : b01 b = 0 ∨ b01 b = 1 := by cases b; exact Or.inl rfl; exact Or.inr rfl
theorem b01_p {c : Prop} [Decidable c] (h : c) : (1 : Int32) = b01 (decide c) := by rw [decide_eq_true h]; rfl
theorem b01_q {c : Prop} [Decidable c] (h : ¬ c) : (0 : Int32) = b01 (decide c) := by rw [decide_eq_false h]; rfl
def inv (v a c : Int32) : Bool := !decide (v < a) && !decide (c < v)
def wd1 (Z : Nat → Int32) (i : Nat) : Bool := rp Z i 6 == 1
theorem ix7 (i w : Nat) : (5 : Int32) + 7 * nI i + nI w = nI (5 + 7 * i + w) := by
  show nI 5 + nI 7 * nI i + nI w = _
  rw [pk_mul, nI_add, nI_add]
theorem zero_or (x : Int32) : x ||| 0 = x := Int32.or_zero
def ry (Z : Nat → Int32) (i : Nat) : Int32 := if wd1 Z i = true then 1 else if pSk (rp Z) (Z 1) i = true then 2 else if pLp (rp Z) (Z 2) (Z 0) i = true then 3 else if pBl (rp Z) (Z 4) i = true then 4 else 0
def wyR (M : Mm) (k : Nat) : Nat → Int32 := fun j => if j < k then ry (M.1 271) j else M.1 276 j
def tkR (M : Mm) (k : Nat) : Nat → Int32 := fun j => if j = 0 then tk (rp (M.1 271)) (M.1 271 1) 0 k else if j = 1 then tk (rp (M.1 271)) (M.1 271 1) 1 k else M.1 277 j
def wt (M : Mm) (w t : Nat → Int32) : Mm := mrow (mrow M 276 w) 277 t
theorem wt_276 {M : Mm} {w t : Nat → Int32} {j : Nat} {v : Int32} : mset (wt M w t) 276 j v = wt M (upd w j v) t := by
  unfold wt
  rw [mset_row, mrow_n (by decide), mrow_s, mrow_comm (k := 277) (k2 := 276) (by decide), mrow_mrow]
theorem wt_277 {M : Mm} {w t : Nat → Int32} {j : Nat} {v : Int32} : mset (wt M w t) 277 j v = wt M w (upd t j v) := by
  unfold wt
  rw [mset_mrow]
theorem wt_r6 {M : Mm} {w t : Nat → Int32} : (wt M w t).1 276 = w := by unfold wt; rw [mrow_n (by decide), mrow_s]
theorem wt_r7 {M : Mm} {w t : Nat → Int32} : (wt M w t).1 277 = t := by unfold wt; rw [mrow_s]
theorem wt_n {M : Mm} {w t : Nat → Int32} {k : Nat} (h : k ≠ 276 ∧ k ≠ 277) : (wt M w t).1 k = M.1 k := by unfold wt; rw [mrow_n h.2, mrow_n h.1]
theorem wt_self {M : Mm} : wt M (M.1 276) (M.1 277) = M := by unfold wt; rw [mrow_comm (by decide), mrow_self, mrow_self]
theorem wt_wt {M : Mm} {w t w2 t2 : Nat → Int32} : wt (wt M w t) w2 t2 = wt M w2 t2 := by
  unfold wt
  rw [mrow_comm (k := 277) (k2 := 276) (by decide), mrow_mrow, mrow_mrow]
theorem wd1_P {Z : Nat → Int32} {n i : Nat} (hw : WF (rp Z) n) (hi : i < n) : wd1 Z i = pWd (rp Z) i := by
  unfold wd1 pWd
  rcases (hw i hi).2.2 with h | h <;> rw [h] <;> rfl
theorem tkR_0 {M : Mm} : upd (upd (M.1 277) 0 0) 1 0 = tkR M 0 := by
  funext j
  unfold upd tkR
  by_cases h1 : j = 1
  · subst h1; rfl
  · by_cases h0 : j = 0
    · subst h0; rfl
    · simp [h0, h1]
theorem wyR_0 {M : Mm} : wyR M 0 = M.1 276 := by funext j; unfold wyR; rw [if_neg (by omega)]
theorem wyR_s {M : Mm} {k : Nat} : upd (wyR M k) k (ry (M.1 271) k) = wyR M (k + 1) := by
  funext j
  unfold upd wyR
  by_cases h : j = k
  · subst h; simp
  · have : (j < k + 1) ↔ (j < k) := by constructor <;> (intro g; omega)
    simp [h, this]
theorem tkR_s {M : Mm} {k n sd : Nat} (hw : WF (rp (M.1 271)) n) (hk : k < n) (hs : rp (M.1 271) k 0 = nI sd) (hsd : sd < 2) : upd (tkR M k) sd (tkR M k sd + (if (wd1 (M.1 271) k || pSk (rp (M.1 271)) (M.1 271 1) k) = true then 0 else rp (M.1 271) k 1)) = tkR M (k + 1) := by
  have hwd := wd1_P hw hk
  have hz : (nI sd = 0 ↔ sd = 0) ∧ (nI sd = 1 ↔ sd = 1) := by
    have : sd = 0 ∨ sd = 1 := by omega
    rcases this with rfl | rfl <;> decide
  have hS : pSk (rp (M.1 271)) (M.1 271 1) k = (rp (M.1 271) k 6 == 0 && !decide (tk (rp (M.1 271)) (M.1 271 1) (nI sd) k + rp (M.1 271) k 1 ≤ M.1 271 1)) := by
    unfold pSk stK
    rw [hs]
    simp
  have key : tkR M k sd + (if (wd1 (M.1 271) k || pSk (rp (M.1 271)) (M.1 271 1) k) = true then 0 else rp (M.1 271) k 1) = tk (rp (M.1 271)) (M.1 271 1) (nI sd) (k + 1) := by
    have e : tkR M k sd = tk (rp (M.1 271)) (M.1 271 1) (nI sd) k := by
      have : sd = 0 ∨ sd = 1 := by omega
      rcases this with rfl | rfl <;> rfl
    rw [e, hwd, hS, tk, hs]
    unfold pWd
    by_cases g : rp (M.1 271) k 6 = 0
    · by_cases g2 : tk (rp (M.1 271)) (M.1 271 1) (nI sd) k + rp (M.1 271) k 1 ≤ M.1 271 1
      · simp [g, g2]
      · simp [g, g2]
    · simp [g]
  rw [key]
  funext j
  unfold upd tkR
  have h01 : sd = 0 ∨ sd = 1 := by omega
  rcases h01 with rfl | rfl
  · by_cases h0 : j = 0
    · subst h0; rfl
    · rw [if_neg h0, if_neg h0, if_neg h0]
      by_cases h1 : j = 1
      · subst h1
        rw [if_pos rfl, if_pos rfl, tk, hs]
        rw [if_neg (fun h => absurd h.1 (by decide))]
      · rw [if_neg h1, if_neg h1]
  · by_cases h1 : j = 1
    · subst h1; rfl
    · rw [if_neg h1]
      by_cases h0 : j = 0
      · subst h0
        rw [if_pos rfl, if_pos rfl, tk, hs]
        rw [if_neg (fun h => absurd h.1 (by decide))]
      · rw [if_neg h0, if_neg h0, if_neg h1, if_neg h1]
theorem anS_top {S : Nat → Bool} {P : Nat → Nat → Int32} {a m i : Nat} (hm : m ≤ a) : anS S P (a + 1) m i = (anS S P a m i || (P a 3 == nI i && S a)) := by
  unfold anS
  rw [List.range_succ, List.any_append]
  simp [hm]
def laS (w : Nat → Int32) (more : Int32) (P : Nat → Nat → Int32) (n : Nat) : Nat → Bool := sd (fun i => w i != 0) (fun i => nI i == more) P n
def laR (w : Nat → Int32) (more : Int32) (P : Nat → Nat → Int32) (n m : Nat) : Nat → Int32 := fun j => if m ≤ j ∧ j < n ∧ w j = 0 ∧ laS w more P n j = false then 5 else w j
theorem laR_n {w : Nat → Int32} {more : Int32} {P : Nat → Nat → Int32} {n : Nat} : laR w more P n n = w := by
  funext j
  unfold laR
  rw [if_neg (by omega)]
theorem laR_0 {w : Nat → Int32} {more : Int32} {P : Nat → Nat → Int32} {n m a : Nat} (h1 : m ≤ a) (h2 : a < n) : (laR w more P n m a = 0) ↔ laS w more P n a = true := by
  unfold laR
  have hs := sd_eq (o := fun i => w i != 0) (q := fun i => nI i == more) (P := P) h2
  by_cases g : w a = 0
  · cases q : laS w more P n a
    · rw [if_pos ⟨h1, h2, g, rfl⟩]; exact ⟨fun h => absurd h (by decide), fun h => by cases h⟩
    · rw [if_neg (fun h => by cases h.2.2.2)]
      exact ⟨fun _ => rfl, fun _ => g⟩
  · rw [if_neg (fun h => g h.2.2.1)]
    refine ⟨fun h => absurd h g, fun h => ?_⟩
    unfold laS at h
    rw [hs] at h
    simp [g] at h
theorem laR_s {w : Nat → Int32} {more : Int32} {P : Nat → Nat → Int32} {n m : Nat} (hm : m < n) : upd (laR w more P n (m + 1)) m (if w m = 0 ∧ laS w more P n m = false then 5 else w m) = laR w more P n m := by
  funext j
  unfold upd laR
  by_cases h : j = m
  · subst h
    rw [if_pos rfl]
    by_cases g : w j = 0 ∧ laS w more P n j = false
    · rw [if_pos g, if_pos ⟨Nat.le_refl _, hm, g⟩]
    · rw [if_neg g, if_neg (fun q => g q.2.2)]
  · rw [if_neg h]
    have : (m + 1 ≤ j) ↔ (m ≤ j) := by constructor <;> (intro g; omega)
    simp [this]
def lkW (M : Mm) (n : Nat) : Nat → Int32 := laR (wyR M n) (-6) (rp (M.1 271)) n 0
def lkM (M : Mm) (n : Nat) : Mm := wt M (lkW M n) (tkR M n)
def cpy (f g : Nat → Int32) (a o k : Nat) : Nat → Int32 := fun j => if a ≤ j ∧ j < a + k then g (o + (j - a)) else f j
theorem cpy_0 {f g : Nat → Int32} {a o : Nat} : cpy f g a o 0 = f := by funext j; unfold cpy; rw [if_neg (by omega)]
theorem cpy_s {f g : Nat → Int32} {a o k : Nat} : upd (cpy f g a o k) (a + k) (g (o + k)) = cpy f g a o (k + 1) := by
  funext j
  unfold upd cpy
  by_cases h : j = a + k
  · subst h
    rw [if_pos rfl, if_pos (by omega)]
    congr 1
    omega
  · rw [if_neg h]
    by_cases g2 : a ≤ j ∧ j < a + k
    · rw [if_pos g2, if_pos (by omega)]
    · rw [if_neg g2, if_neg (by omega)]
def shf (f : Nat → Int32) (k : Nat) : Nat → Int32 := fun j => if j < k then f (j + 173) else f j
theorem shf_0 {f : Nat → Int32} : shf f 0 = f := by funext j; unfold shf; rw [if_neg (by omega)]
theorem shf_s {f : Nat → Int32} {k : Nat} : upd (shf f k) k (shf f k (k + 173)) = shf f (k + 1) := by
  funext j
  unfold upd shf
  by_cases h : j = k
  · subst h
    rw [if_pos rfl, if_neg (by omega), if_pos (by omega)]
  · rw [if_neg h]
    have : (j < k + 1) ↔ (j < k) := by constructor <;> (intro g; omega)
    simp [this]
def rcM (M : Mm) (k : Nat) : Mm := if k = 6 then mset (mrow M 272 (cpy (shf (M.1 272) 865) (M.1 271) 865 0 173)) 270 4 (nI 6) else mset (mrow M 272 (cpy (M.1 272) (M.1 271) (173 * k) 0 173)) 270 4 (nI (k + 1))
theorem rc_norm {M : Mm} {f g : Nat → Int32} {v w : Int32} : mset (mrow (mset (mrow M 272 f) 270 4 v) 272 g) 270 4 w = mset (mrow M 272 g) 270 4 w := by
  refine Prod.ext (funext fun k => ?_) rfl
  by_cases e : k = 270
  · subst e
    rw [mset_s, mset_s, mrow_n (by decide), mset_s, mrow_n (by decide), mrow_n (by decide)]
    funext j
    unfold upd
    by_cases h : j = 4
    · rw [if_pos h, if_pos h]
    · rw [if_neg h, if_neg h, if_neg h]
  · rw [mset_n e, mset_n e]
    by_cases e2 : k = 272
    · subst e2; rw [mrow_s, mrow_s]
    · rw [mrow_n e2, mset_n e, mrow_n e2, mrow_n e2]
theorem rcM_n {M : Mm} {k j : Nat} (h : j ≠ 270 ∧ j ≠ 272) : (rcM M k).1 j = M.1 j := by
  unfold rcM
  split
  · rw [mset_n h.1, mrow_n h.2]
  · rw [mset_n h.1, mrow_n h.2]
theorem lo_init {M : Mm} : mset (mset M 277 0 0) 277 1 0 = wt M (M.1 276) (upd (upd (M.1 277) 0 0) 1 0) := by
  have e : M = wt M (M.1 276) (M.1 277) := wt_self.symm
  rw [← wt_277, ← wt_277, wt_self]
theorem lo_sk {M : Mm} {n k s : Nat} (hw : WF (rp (M.1 271)) n) (hk : k < n) (hs : rp (M.1 271) k 0 = nI s) (hsd : s < 2) : pSk (rp (M.1 271)) (M.1 271 1) k = (!wd1 (M.1 271) k && (!decide (tkR M k s + rp (M.1 271) k 1 ≤ M.1 271 1))) := by
  have e : tkR M k s = tk (rp (M.1 271)) (M.1 271 1) (nI s) k := by
    have : s = 0 ∨ s = 1 := by omega
    rcases this with rfl | rfl <;> rfl
  rw [e, wd1_P hw hk]
  unfold pSk stK pWd
  rw [hs]
  simp [bne]
theorem lk_norm {M : Mm} {w t w2 : Nat → Int32} : wt M w2 t = mrow (wt M w t) 276 w2 := by
  unfold wt
  rw [mrow_comm (k := 277) (k2 := 276) (by decide), mrow_mrow]
end
section
set_option maxRecDepth 100000 in
set_option maxHeartbeats 4000000 in
theorem r_in {Y : Yt} {M : Mm} {v a c : Int32} : Fn Y yX7_in wsX7_in { frames := 0, cells := 0, slots := 0, locals := 0 } [.int v, .int a, .int c] M (some (.int (b01 (inv v a c)))) M := by
  refine Fn.of (cc := cX7_in) (ins := iX7_in) (maxL := 3) (ret := (some .boolean)) (by decide) dX7_in [some (.int v), some (.int a), some (.int c)] (Nat.le_of_ble_eq_true rfl) rfl rfl ?_
  intro X hX hQ
  refine v_iload_n hX 0 0 rfl rfl rfl ?_
  refine v_iload_n hX 1 1 rfl rfl rfl ?_
  refine v_icmp_lt hX (tgt := 14) 2 rfl (by decide) (fun c2 => ?_) (fun c2 => ?_)
  · skip
    refine v_iconst hX (v := 0) 8 rfl (by decide) ?_
    refine v_iret hX hQ rfl rfl ?_ ?_ 9 rfl
    · simp [inv, b01, c2]
    · rfl
  · skip
    refine v_iload_n hX 0 3 rfl rfl rfl ?_
    refine v_iload_n hX 2 4 rfl rfl rfl ?_
    refine v_icmp_gt hX (tgt := 14) 5 rfl (by decide) (fun c7 => ?_) (fun c7 => ?_)
    · skip
      refine v_iconst hX (v := 0) 8 rfl (by decide) ?_
      refine v_iret hX hQ rfl rfl ?_ ?_ 9 rfl
      · simp [inv, b01, c2, c7]
      · rfl
    · skip
      refine v_iconst hX (v := 1) 6 rfl (by decide) ?_
      refine v_goto hX (tgt := 15) 7 rfl (by decide) ?_
      refine v_iret hX hQ rfl rfl ?_ ?_ 9 rfl
      · simp [inv, b01, c2, c7]
      · rfl
set_option maxRecDepth 100000 in
set_option maxHeartbeats 4000000 in
theorem r_isPoint {Y : Yt} {M : Mm} {i : Nat} {n : Nat} (hz : M.1 271 3 = nI n) (hn : n ≤ 24) (hi : i < n) : Fn Y yX7_isPoint wsX7_isPoint { frames := 0, cells := 0, slots := 0, locals := 0 } [.ref (Y.2.2.2 270), .int (nI i)] M (some (.int 1)) M := by
  refine Fn.of (cc := cX7_isPoint) (ins := iX7_isPoint) (maxL := 2) (ret := (some .boolean)) (by decide) dX7_isPoint [some (.ref (Y.2.2.2 270)), some (.int (nI i))] (Nat.le_of_ble_eq_true rfl) rfl rfl ?_
  intro X hX hQ
  refine v_iload_n hX 1 0 rfl rfl rfl ?_
  refine v_if_lt hX (tgt := 18) 1 rfl (by decide) (fun c1 => absurd c1 (nI_nlt (Nat.zero_le _) (by omega))) (fun c1 => ?_)
  refine v_iload_n hX 1 2 rfl rfl rfl ?_
  refine v_aload_n hX 0 3 rfl rfl rfl ?_
  refine g_7_0 hX 4  tw_646 rfl ?_
  refine v_iconst hX (v := 3) 5 rfl (by decide) ?_
  refine v_iald hX (k := 271) (by decide) rfl (vp_in_nI (n := 3) (by decide) (by decide)) 6 rfl ?_
  refine v_icmp_ge hX (tgt := 18) 7 rfl (by decide) (fun c11 => absurd c11 (by show ¬ M.1 271 3 ≤ nI i; rw [hz]; exact nI_ge hi (by omega))) (fun c11 => ?_)
  refine v_iconst hX (v := 1) 8 rfl (by decide) ?_
  refine v_goto hX (tgt := 19) 9 rfl (by decide) ?_
  refine v_iret hX hQ rfl rfl ?_ ?_ 11 rfl
  · rfl
  · rfl
set_option maxRecDepth 100000 in
set_option maxHeartbeats 4000000 in
theorem r_isPoint_no {Y : Yt} {M : Mm} {x : Int32} {n : Nat} (hz : M.1 271 3 = nI n) (hx : x < 0 ∨ nI n ≤ x) : Fn Y yX7_isPoint wsX7_isPoint { frames := 0, cells := 0, slots := 0, locals := 0 } [.ref (Y.2.2.2 270), .int x] M (some (.int 0)) M := by
  refine Fn.of (cc := cX7_isPoint) (ins := iX7_isPoint) (maxL := 2) (ret := (some .boolean)) (by decide) dX7_isPoint [some (.ref (Y.2.2.2 270)), some (.int x)] (Nat.le_of_ble_eq_true rfl) rfl rfl ?_
  intro X hX hQ
  refine v_iload_n hX 1 0 rfl rfl rfl ?_
  refine v_if_lt hX (tgt := 18) 1 rfl (by decide) (fun c1 => ?_) (fun c1 => ?_)
  · skip
    refine v_iconst hX (v := 0) 10 rfl (by decide) ?_
    refine v_iret hX hQ rfl rfl ?_ ?_ 11 rfl
    · rfl
    · rfl
  · skip
    refine v_iload_n hX 1 2 rfl rfl rfl ?_
    refine v_aload_n hX 0 3 rfl rfl rfl ?_
    refine g_7_0 hX 4  tw_646 rfl ?_
    refine v_iconst hX (v := 3) 5 rfl (by decide) ?_
    refine v_iald hX (k := 271) (by decide) rfl (vp_in_nI (n := 3) (by decide) (by decide)) 6 rfl ?_
    refine v_icmp_ge hX (tgt := 18) 7 rfl (by decide) (fun c11 => ?_) (fun c11 => absurd (by show M.1 271 3 ≤ x; rw [hz]; exact hx.resolve_left c1) c11)
    refine v_iconst hX (v := 0) 10 rfl (by decide) ?_
    refine v_iret hX hQ rfl rfl ?_ ?_ 11 rfl
    · rfl
    · rfl
set_option maxRecDepth 100000 in
set_option maxHeartbeats 4000000 in
theorem r_its {Y : Yt} {M : Mm} {i w : Nat} (hi : i < 24) (hw : w < 7) : Fn Y yX7_its wsX7_its { frames := 0, cells := 0, slots := 0, locals := 0 } [.ref (Y.2.2.2 270), .int (nI i), .int (nI w)] M (some (.int (M.1 271 (5 + 7 * i + w)))) M := by
  refine Fn.of (cc := cX7_its) (ins := iX7_its) (maxL := 3) (ret := (some .int)) (by decide) dX7_its [some (.ref (Y.2.2.2 270)), some (.int (nI i)), some (.int (nI w))] (Nat.le_of_ble_eq_true rfl) rfl rfl ?_
  intro X hX hQ
  refine v_aload_n hX 0 0 rfl rfl rfl ?_
  refine g_7_0 hX 1  tw_646 rfl ?_
  refine v_iconst hX (v := 5) 2 rfl (by decide) ?_
  refine v_bipush hX (v := 7) 3 rfl (by decide) ?_
  refine v_iload_n hX 1 4 rfl rfl rfl ?_
  refine v_imul hX 5 rfl ?_
  refine v_iadd hX 6 rfl ?_
  refine v_iload_n hX 2 7 rfl rfl rfl ?_
  refine v_iadd hX 8 rfl ?_
  rw [ix7]
  refine v_iald hX (k := 271) (by decide) rfl (vp_in_nI (by omega) (by decide)) 9 rfl ?_
  rw [nI_clamp (by omega)]
  refine v_iret hX hQ rfl rfl ?_ ?_ 10 rfl
  · rfl
  · rfl
set_option maxRecDepth 100000 in
set_option maxHeartbeats 4000000 in
theorem r_lay {Y : Yt} {M : Mm} {i w : Nat} {v : Int32} (hi : i < 24) (hw : w < 7) : Fn Y yX7_lay wsX7_lay { frames := 0, cells := 0, slots := 0, locals := 0 } [.ref (Y.2.2.2 270), .int (nI i), .int (nI w), .int v] M none ((mset M 271 (5 + 7 * i + w) v)) := by
  refine Fn.of (cc := cX7_lay) (ins := iX7_lay) (maxL := 4) (ret := none) (by decide) dX7_lay [some (.ref (Y.2.2.2 270)), some (.int (nI i)), some (.int (nI w)), some (.int v)] (Nat.le_of_ble_eq_true rfl) rfl rfl ?_
  intro X hX hQ
  refine v_aload_n hX 0 0 rfl rfl rfl ?_
  refine g_7_0 hX 1  tw_646 rfl ?_
  refine v_iconst hX (v := 5) 2 rfl (by decide) ?_
  refine v_bipush hX (v := 7) 3 rfl (by decide) ?_
  refine v_iload_n hX 1 4 rfl rfl rfl ?_
  refine v_imul hX 5 rfl ?_
  refine v_iadd hX 6 rfl ?_
  refine v_iload_n hX 2 7 rfl rfl rfl ?_
  refine v_iadd hX 8 rfl ?_
  rw [ix7]
  refine v_iload_n hX 3 9 rfl rfl rfl ?_
  refine v_iast hX (k := 271) (by decide) rfl rfl (vp_in_nI (by omega) (by decide)) rfl 10 rfl ?_
  rw [nI_clamp (by omega)]
  refine v_vret hX hQ rfl rfl ?_ 11 rfl
  rfl
set_option maxRecDepth 100000 in
set_option maxHeartbeats 4000000 in
theorem r_isClaim {Y : Yt} {M : Mm} {i : Nat} (hi : i < 24) : Fn Y yX7_isClaim wsX7_isClaim { frames := 1, cells := 0, slots := 0, locals := 22 } [.ref (Y.2.2.2 270), .int (nI i)] M (some (.int (b01 (pCl (rp (M.1 271)) i)))) M := by
  refine Fn.of (cc := cX7_isClaim) (ins := iX7_isClaim) (maxL := 2) (ret := (some .boolean)) (by decide) dX7_isClaim [some (.ref (Y.2.2.2 270)), some (.int (nI i))] (Nat.le_of_ble_eq_true rfl) rfl rfl ?_
  intro X hX hQ
  refine v_aload_n hX 0 0 rfl rfl rfl ?_
  refine v_iload_n hX 1 1 rfl rfl rfl ?_
  refine v_iconst hX (v := 4) 2 rfl (by decide) ?_
  refine v_callV hX 2 (by decide) rfl rfl (r_its (w := 4) hi (by decide)) tw_757 tw_754 tw_756 tw_60 tw_99 (by decide +kernel) ⟨⟨rfl, rfl⟩, Nat.le_of_ble_eq_true rfl, Nat.le_of_ble_eq_true rfl⟩ rfl (Nat.le_of_ble_eq_true rfl) rfl rfl 3 rfl ?_
  show V Y X M _ _ (.int (rp (M.1 271) i 3) :: _)
  refine v_bipush hX (v := (-6)) 4 rfl (by decide) ?_
  refine v_icmp_ne hX (tgt := 15) 5 rfl (by decide) (fun c8 => ?_) (fun c8 => ?_)
  · skip
    refine v_iconst hX (v := 0) 8 rfl (by decide) ?_
    refine v_iret hX hQ rfl rfl ?_ ?_ 9 rfl
    · simp [pCl, b01, c8]
    · rfl
  · skip
    refine v_iconst hX (v := 1) 6 rfl (by decide) ?_
    refine v_goto hX (tgt := 16) 7 rfl (by decide) ?_
    refine v_iret hX hQ rfl rfl ?_ ?_ 9 rfl
    · simp [pCl, b01, c8]
    · rfl
set_option maxRecDepth 100000 in
set_option maxHeartbeats 4000000 in
theorem r_isWd {Y : Yt} {M : Mm} {i : Nat} (hi : i < 24) : Fn Y yX7_isWithdrawn wsX7_isWithdrawn { frames := 1, cells := 0, slots := 0, locals := 22 } [.ref (Y.2.2.2 270), .int (nI i)] M (some (.int (b01 (wd1 (M.1 271) i)))) M := by
  refine Fn.of (cc := cX7_isWithdrawn) (ins := iX7_isWithdrawn) (maxL := 2) (ret := (some .boolean)) (by decide) dX7_isWithdrawn [some (.ref (Y.2.2.2 270)), some (.int (nI i))] (Nat.le_of_ble_eq_true rfl) rfl rfl ?_
  intro X hX hQ
  refine v_aload_n hX 0 0 rfl rfl rfl ?_
  refine v_iload_n hX 1 1 rfl rfl rfl ?_
  refine v_bipush hX (v := 6) 2 rfl (by decide) ?_
  refine v_callV hX 2 (by decide) rfl rfl (r_its (w := 6) hi (by decide)) tw_757 tw_754 tw_756 tw_60 tw_99 (by decide +kernel) ⟨⟨rfl, rfl⟩, Nat.le_of_ble_eq_true rfl, Nat.le_of_ble_eq_true rfl⟩ rfl (Nat.le_of_ble_eq_true rfl) rfl rfl 3 rfl ?_
  show V Y X M _ _ (.int (rp (M.1 271) i 6) :: _)
  refine v_iconst hX (v := 1) 4 rfl (by decide) ?_
  refine v_icmp_ne hX (tgt := 15) 5 rfl (by decide) (fun c8 => ?_) (fun c8 => ?_)
  · skip
    refine v_iconst hX (v := 0) 8 rfl (by decide) ?_
    refine v_iret hX hQ rfl rfl ?_ ?_ 9 rfl
    · simp [wd1, b01, c8]
    · rfl
  · skip
    refine v_iconst hX (v := 1) 6 rfl (by decide) ?_
    refine v_goto hX (tgt := 16) 7 rfl (by decide) ?_
    refine v_iret hX hQ rfl rfl ?_ ?_ 9 rfl
    · simp [wd1, b01, c8]
    · rfl
set_option maxRecDepth 100000 in
set_option maxHeartbeats 4000000 in
theorem r_lapsed {Y : Yt} {M : Mm} {i : Nat} (hi : i < 24) : Fn Y yX7_lapsed wsX7_lapsed { frames := 2, cells := 0, slots := 0, locals := 43 } [.ref (Y.2.2.2 270), .int (nI i)] M (some (.int (b01 (pLp (rp (M.1 271)) (M.1 271 2) (M.1 271 0) i)))) M := by
  refine Fn.of (cc := cX7_lapsed) (ins := iX7_lapsed) (maxL := 2) (ret := (some .boolean)) (by decide) dX7_lapsed [some (.ref (Y.2.2.2 270)), some (.int (nI i))] (Nat.le_of_ble_eq_true rfl) rfl rfl ?_
  intro X hX hQ
  refine v_aload_n hX 0 0 rfl rfl rfl ?_
  refine v_iload_n hX 1 1 rfl rfl rfl ?_
  refine v_callV hX 1 (by decide) rfl rfl (r_isClaim hi) tw_781 tw_778 tw_780 tw_65 tw_99 (by decide +kernel) ⟨⟨rfl, rfl⟩, Nat.le_of_ble_eq_true rfl, Nat.le_of_ble_eq_true rfl⟩ rfl (Nat.le_of_ble_eq_true rfl) rfl rfl 2 rfl ?_
  refine v_if_ne hX (tgt := 34) 3 rfl (by decide) (fun c5 => ?_) (fun c5 => ?_)
  · skip
    have q1 : rp (M.1 271) i 3 = -6 := by have := b01_t c5; simpa [pCl] using this
    refine v_iconst hX (v := 0) 20 rfl (by decide) ?_
    refine v_iret hX hQ rfl rfl ?_ ?_ 21 rfl
    · first | (simp [pLp, b01, q1]; done) | simp [pLp, b01, q1, q2]
    · rfl
  · skip
    have q1 : ¬ rp (M.1 271) i 3 = -6 := by have := b01_f c5; simpa [pCl] using this
    refine v_aload_n hX 0 4 rfl rfl rfl ?_
    refine g_7_0 hX 5  tw_646 rfl ?_
    refine v_iconst hX (v := 2) 6 rfl (by decide) ?_
    refine v_iald hX (k := 271) (by decide) rfl (vp_in_nI (n := 2) (by decide) (by decide)) 7 rfl ?_
    refine v_aload_n hX 0 8 rfl rfl rfl ?_
    refine v_iload_n hX 1 9 rfl rfl rfl ?_
    refine v_iconst hX (v := 3) 10 rfl (by decide) ?_
    refine v_callV hX 2 (by decide) rfl rfl (r_its (w := 3) hi (by decide)) tw_757 tw_754 tw_756 tw_60 tw_99 (by decide +kernel) ⟨⟨rfl, rfl⟩, Nat.le_of_ble_eq_true rfl, Nat.le_of_ble_eq_true rfl⟩ rfl (Nat.le_of_ble_eq_true rfl) rfl rfl 11 rfl ?_
    refine v_isub hX 12 rfl ?_
    refine v_aload_n hX 0 13 rfl rfl rfl ?_
    refine g_7_0 hX 14  tw_646 rfl ?_
    refine v_iconst hX (v := 0) 15 rfl (by decide) ?_
    refine v_iald hX (k := 271) (by decide) rfl (vp_in_nI (n := 0) (by decide) (by decide)) 16 rfl ?_
    refine v_icmp_le hX (tgt := 34) 17 rfl (by decide) (fun c27 => ?_) (fun c27 => ?_)
    · skip
      have q2 : M.1 271 2 - rp (M.1 271) i 5 ≤ M.1 271 0 := c27
      refine v_iconst hX (v := 0) 20 rfl (by decide) ?_
      refine v_iret hX hQ rfl rfl ?_ ?_ 21 rfl
      · first | (simp [pLp, b01, q1]; done) | simp [pLp, b01, q1, q2]
      · rfl
    · skip
      have q2 : ¬ M.1 271 2 - rp (M.1 271) i 5 ≤ M.1 271 0 := c27
      refine v_iconst hX (v := 1) 18 rfl (by decide) ?_
      refine v_goto hX (tgt := 35) 19 rfl (by decide) ?_
      refine v_iret hX hQ rfl rfl ?_ ?_ 21 rfl
      · first | (simp [pLp, b01, q1]; done) | simp [pLp, b01, q1, q2]
      · rfl
set_option maxRecDepth 100000 in
set_option maxHeartbeats 4000000 in
theorem r_noCase {Y : Yt} {M : Mm} {i : Nat} (hi : i < 24) : Fn Y yX7_hasNoCase wsX7_hasNoCase { frames := 1, cells := 0, slots := 0, locals := 22 } [.ref (Y.2.2.2 270), .int (nI i)] M (some (.int (b01 (pBl (rp (M.1 271)) (M.1 271 4) i)))) M := by
  refine Fn.of (cc := cX7_hasNoCase) (ins := iX7_hasNoCase) (maxL := 2) (ret := (some .boolean)) (by decide) dX7_hasNoCase [some (.ref (Y.2.2.2 270)), some (.int (nI i))] (Nat.le_of_ble_eq_true rfl) rfl rfl ?_
  intro X hX hQ
  refine v_aload_n hX 0 0 rfl rfl rfl ?_
  refine v_iload_n hX 1 1 rfl rfl rfl ?_
  refine v_iconst hX (v := 5) 2 rfl (by decide) ?_
  refine v_callV hX 2 (by decide) rfl rfl (r_its (w := 5) hi (by decide)) tw_757 tw_754 tw_756 tw_60 tw_99 (by decide +kernel) ⟨⟨rfl, rfl⟩, Nat.le_of_ble_eq_true rfl, Nat.le_of_ble_eq_true rfl⟩ rfl (Nat.le_of_ble_eq_true rfl) rfl rfl 3 rfl ?_
  refine v_if_eq hX (tgt := 31) 4 rfl (by decide) (fun c6 => ?_) (fun c6 => ?_)
  · skip
    have q1 : rp (M.1 271) i 2 = 0 := c6
    refine v_iconst hX (v := 0) 19 rfl (by decide) ?_
    refine v_iret hX hQ rfl rfl ?_ ?_ 20 rfl
    · unfold pBl; first | (rw [q1]; rfl) | (rw [q2]; simp [b01, q1]; done) | (have q3 : (rp (M.1 271) i 2 &&& (M.1 271 4 ^^^ (-1)) == 0) = false := (by rw [beq_eq_false_iff_ne]; exact q2); rw [q3]; simp [b01])
    · rfl
  · skip
    have q1 : ¬ rp (M.1 271) i 2 = 0 := c6
    refine v_aload_n hX 0 5 rfl rfl rfl ?_
    refine v_iload_n hX 1 6 rfl rfl rfl ?_
    refine v_iconst hX (v := 5) 7 rfl (by decide) ?_
    refine v_callV hX 2 (by decide) rfl rfl (r_its (w := 5) hi (by decide)) tw_757 tw_754 tw_756 tw_60 tw_99 (by decide +kernel) ⟨⟨rfl, rfl⟩, Nat.le_of_ble_eq_true rfl, Nat.le_of_ble_eq_true rfl⟩ rfl (Nat.le_of_ble_eq_true rfl) rfl rfl 8 rfl ?_
    refine v_aload_n hX 0 9 rfl rfl rfl ?_
    refine g_7_0 hX 10  tw_646 rfl ?_
    refine v_iconst hX (v := 4) 11 rfl (by decide) ?_
    refine v_iald hX (k := 271) (by decide) rfl (vp_in_nI (n := 4) (by decide) (by decide)) 12 rfl ?_
    refine v_iconst hX (v := (-1)) 13 rfl (by decide) ?_
    refine v_ixor hX 14 rfl ?_
    refine v_iand hX 15 rfl ?_
    refine v_if_ne hX (tgt := 31) 16 rfl (by decide) (fun c24 => ?_) (fun c24 => ?_)
    · skip
      have q2 : ¬ rp (M.1 271) i 2 &&& (M.1 271 4 ^^^ (-1)) = 0 := c24
      refine v_iconst hX (v := 0) 19 rfl (by decide) ?_
      refine v_iret hX hQ rfl rfl ?_ ?_ 20 rfl
      · unfold pBl; first | (rw [q1]; rfl) | (rw [q2]; simp [b01, q1]; done) | (have q3 : (rp (M.1 271) i 2 &&& (M.1 271 4 ^^^ (-1)) == 0) = false := (by rw [beq_eq_false_iff_ne]; exact q2); rw [q3]; simp [b01])
      · rfl
    · skip
      have q2 : rp (M.1 271) i 2 &&& (M.1 271 4 ^^^ (-1)) = 0 := c24
      refine v_iconst hX (v := 1) 17 rfl (by decide) ?_
      refine v_goto hX (tgt := 32) 18 rfl (by decide) ?_
      refine v_iret hX hQ rfl rfl ?_ ?_ 20 rfl
      · unfold pBl; first | (rw [q1]; rfl) | (rw [q2]; simp [b01, q1]; done) | (have q3 : (rp (M.1 271) i 2 &&& (M.1 271 4 ^^^ (-1)) == 0) = false := (by rw [beq_eq_false_iff_ne]; exact q2); rw [q3]; simp [b01])
      · rfl
set_option maxRecDepth 100000 in
set_option maxHeartbeats 4000000 in
theorem r_record {Y : Yt} {M : Mm} {k : Nat} (hk : k ≤ 6) (hkk : M.1 270 4 = nI k) : Fn Y yX7_record wsX7_record { frames := 0, cells := 0, slots := 0, locals := 0 } [.ref (Y.2.2.2 270)] M none ((rcM M k)) := by
  refine Fn.of (cc := cX7_record) (ins := iX7_record) (maxL := 2) (ret := none) (by decide) dX7_record [some (.ref (Y.2.2.2 270)), none] (Nat.le_of_ble_eq_true rfl) rfl rfl ?_
  intro X hX hQ
  have j50 : ∀ (B : Mm) (pm : Nat), pm < 6 → B.1 270 4 = nI pm → B.1 271 = M.1 271 → mset (mrow B 272 (cpy (B.1 272) (M.1 271) (173 * pm) 0 173)) 270 4 (nI (pm + 1)) = rcM M k → V Y X B 50 [some (.ref (Y.2.2.2 270)), none] [] := by
    intro B pm hpm hB4 hBz hfin
    refine v_iconst hX (v := 0) 27 rfl (by decide) ?_
    refine v_istore_n hX 1 28 rfl rfl (Nat.le_of_ble_eq_true rfl) rfl ?_
    have lq : ∀ (i : Nat), i ≤ 173 → V Y X (mrow B 272 (cpy (B.1 272) (M.1 271) (173 * pm) 0 i)) 52 [some (.ref (Y.2.2.2 270)), some (.int (nI i))] [] := by
      refine upTo 173 (fun i hi ihq => ?_)
      refine v_iload_n hX 1 29 rfl rfl rfl ?_
      refine v_sipush hX (v := 173) 30 rfl (by decide) ?_
      refine v_icmp_ge hX (tgt := 86) 31 rfl (by decide) (fun c56 => ?_) (fun c56 => ?_)
      · skip
        have hi2 : i = 173 := by have := of_le (a := 173) c56 (by omega) (by omega); omega
        subst hi2
        refine v_aload_n hX 0 47 rfl rfl rfl ?_
        refine v_dup hX 48 rfl rfl ?_
        refine g_7_4 hX 49  tw_650 rfl ?_
        rw [mrow_n (by decide), hB4]
        refine v_iconst hX (v := 1) 50 rfl (by decide) ?_
        refine v_iadd hX 51 rfl ?_
        refine p_7_4 hX 52   tw_650 rfl ?_
        refine v_vret hX hQ rfl rfl ?_ 53 rfl
        rw [← hfin, nI_1]
      · skip
        have hi2 : i < 173 := of_nle (a := 173) c56 (by omega) (by omega)
        refine v_aload_n hX 0 32 rfl rfl rfl ?_
        refine g_7_1 hX 33  tw_647 rfl ?_
        refine v_aload_n hX 0 34 rfl rfl rfl ?_
        refine g_7_4 hX 35  tw_650 rfl ?_
        rw [mrow_n (by decide), hB4]
        refine v_sipush hX (v := 173) 36 rfl (by decide) ?_
        refine v_imul hX 37 rfl ?_
        refine v_iload_n hX 1 38 rfl rfl rfl ?_
        refine v_iadd hX 39 rfl ?_
        rw [show (173 : Int32) = nI 173 from rfl, pk_mul, nI_add]
        rw [Nat.mul_comm pm 173]
        refine v_aload_n hX 0 40 rfl rfl rfl ?_
        refine g_7_0 hX 41  tw_646 rfl ?_
        refine v_iload_n hX 1 42 rfl rfl rfl ?_
        refine v_iald hX (k := 271) (by decide) rfl (vp_in_nI (by omega) (by decide)) 43 rfl ?_
        rw [nI_clamp (by omega), mrow_n (by decide), hBz]
        refine v_iast hX (k := 272) (by decide) rfl rfl (vp_in_nI (by omega) (by decide)) rfl 44 rfl ?_
        refine V.mem mset_mrow ?_
        rw [nI_clamp (by omega)]
        refine v_iinc hX 45 rfl rfl (nI_inc i) (Nat.le_of_ble_eq_true rfl) rfl ?_
        refine v_goto hX (tgt := 52) 46 rfl (by decide) ?_
        refine V.subM (ihq hi2) ?_ rfl ⟨rfl, rfl, trivial⟩
        have e := cpy_s (f := B.1 272) (g := M.1 271) (a := 173 * pm) (o := 0) (k := i)
        rw [Nat.zero_add] at e
        rw [e]
    refine V.subM (lq 0 (Nat.zero_le _)) ?_ rfl ⟨rfl, rfl, trivial⟩
    rw [cpy_0, mrow_self]
  refine v_aload_n hX 0 0 rfl rfl rfl ?_
  refine g_7_4 hX 1  tw_650 rfl ?_
  refine v_bipush hX (v := 6) 2 rfl (by decide) ?_
  refine v_icmp_ne hX (tgt := 50) 3 rfl (by decide) (fun c6 => ?_) (fun c6 => ?_)
  · skip
    have hk2 : k < 6 := by rw [hkk] at c6; have : k ≠ 6 := fun e => c6 (by rw [e]; rfl); omega
    exact V.sub (j50 M k hk2 hkk rfl (by unfold rcM; rw [if_neg (by omega)])) rfl ⟨rfl, trivial⟩
  · skip
    have hk2 : k = 6 := by rw [hkk] at c6; exact (nI_eq (b := 6) (by omega) (by omega)).mp c6
    refine v_iconst hX (v := 0) 4 rfl (by decide) ?_
    refine v_istore_n hX 1 5 rfl rfl (Nat.le_of_ble_eq_true rfl) rfl ?_
    have lp : ∀ (i : Nat), i ≤ 865 → V Y X (mrow M 272 (shf (M.1 272) i)) 11 [some (.ref (Y.2.2.2 270)), some (.int (nI i))] [] := by
      refine upTo 865 (fun i hi ih => ?_)
      refine v_iload_n hX 1 6 rfl rfl rfl ?_
      refine v_sipush hX (v := 865) 7 rfl (by decide) ?_
      refine v_icmp_ge hX (tgt := 40) 8 rfl (by decide) (fun c15 => ?_) (fun c15 => ?_)
      · skip
        have hi2 : i = 865 := by have := of_le (a := 865) c15 (by omega) (by omega); omega
        subst hi2
        refine v_aload_n hX 0 21 rfl rfl rfl ?_
        refine v_dup hX 22 rfl rfl ?_
        refine g_7_4 hX 23  tw_650 rfl ?_
        refine v_iconst hX (v := 1) 24 rfl (by decide) ?_
        refine v_isub hX 25 rfl ?_
        refine p_7_4 hX 26   tw_650 rfl ?_
        rw [mrow_n (by decide), hkk, hk2]
        exact V.sub (j50 _ 5 (by decide) (by rw [mset_s, upd_s]; rfl) (by rw [mset_n (by decide), mrow_n (by decide)]) (by unfold rcM; rw [if_pos hk2, rc_norm, mset_n (by decide), mrow_s])) rfl ⟨rfl, trivial⟩
      · skip
        have hi2 : i < 865 := of_nle (a := 865) c15 (by omega) (by omega)
        refine v_aload_n hX 0 9 rfl rfl rfl ?_
        refine g_7_1 hX 10  tw_647 rfl ?_
        refine v_iload_n hX 1 11 rfl rfl rfl ?_
        refine v_aload_n hX 0 12 rfl rfl rfl ?_
        refine g_7_1 hX 13  tw_647 rfl ?_
        refine v_iload_n hX 1 14 rfl rfl rfl ?_
        refine v_sipush hX (v := 173) 15 rfl (by decide) ?_
        refine v_iadd hX 16 rfl ?_
        rw [show (173 : Int32) = nI 173 from rfl, nI_add]
        refine v_iald hX (k := 272) (by decide) rfl (vp_in_nI (by omega) (by decide)) 17 rfl ?_
        rw [nI_clamp (by omega), mrow_s]
        refine v_iast hX (k := 272) (by decide) rfl rfl (vp_in_nI (by omega) (by decide)) rfl 18 rfl ?_
        refine V.mem mset_mrow ?_
        rw [nI_clamp (by omega), shf_s]
        refine v_iinc hX 19 rfl rfl (nI_inc i) (Nat.le_of_ble_eq_true rfl) rfl ?_
        refine v_goto hX (tgt := 11) 20 rfl (by decide) ?_
        refine V.subM (ih hi2) ?_ rfl ⟨rfl, rfl, trivial⟩
        rfl
    refine V.subM (lp 0 (Nat.zero_le _)) ?_ rfl ⟨rfl, rfl, trivial⟩
    rw [shf_0, mrow_self]
set_option maxRecDepth 100000 in
set_option maxHeartbeats 4000000 in
theorem r_undo_no {Y : Yt} {M : Mm} (hkk : M.1 270 4 = nI 0) : Fn Y yX7_undo wsX7_undo { frames := 0, cells := 0, slots := 0, locals := 0 } [.ref (Y.2.2.2 270)] M (some (.int (-5))) M := by
  refine Fn.of (cc := cX7_undo) (ins := iX7_undo) (maxL := 2) (ret := (some .int)) (by decide) dX7_undo [some (.ref (Y.2.2.2 270)), none] (Nat.le_of_ble_eq_true rfl) rfl rfl ?_
  intro X hX hQ
  refine v_aload_n hX 0 0 rfl rfl rfl ?_
  refine g_7_4 hX 1  tw_650 rfl ?_
  refine v_if_ne hX (tgt := 10) 2 rfl (by decide) (fun c4 => absurd c4 (fun h => h hkk)) (fun c4 => ?_)
  refine v_bipush hX (v := (-5)) 3 rfl (by decide) ?_
  refine v_iret hX hQ rfl rfl ?_ ?_ 4 rfl
  · rfl
  · rfl
set_option maxRecDepth 100000 in
set_option maxHeartbeats 4000000 in
theorem r_undo {Y : Yt} {M : Mm} {k : Nat} (hk : k < 6) (hkk : M.1 270 4 = nI (k + 1)) : Fn Y yX7_undo wsX7_undo { frames := 0, cells := 0, slots := 0, locals := 0 } [.ref (Y.2.2.2 270)] M (some (.int (nI k))) ((mrow (mset M 270 4 (nI k)) 271 (cpy (M.1 271) (M.1 272) 0 (173 * k) 173))) := by
  refine Fn.of (cc := cX7_undo) (ins := iX7_undo) (maxL := 2) (ret := (some .int)) (by decide) dX7_undo [some (.ref (Y.2.2.2 270)), none] (Nat.le_of_ble_eq_true rfl) rfl rfl ?_
  intro X hX hQ
  refine v_aload_n hX 0 0 rfl rfl rfl ?_
  refine g_7_4 hX 1  tw_650 rfl ?_
  refine v_if_ne hX (tgt := 10) 2 rfl (by decide) (fun c4 => ?_) (fun c4 => absurd c4 (by rw [hkk]; exact nI_ne0 (by omega) (by omega)))
  refine v_aload_n hX 0 5 rfl rfl rfl ?_
  refine v_dup hX 6 rfl rfl ?_
  refine g_7_4 hX 7  tw_650 rfl ?_
  rw [hkk]
  refine v_iconst hX (v := 1) 8 rfl (by decide) ?_
  refine v_isub hX 9 rfl ?_
  rw [nI_pred]
  refine p_7_4 hX 10   tw_650 rfl ?_
  refine v_iconst hX (v := 0) 11 rfl (by decide) ?_
  refine v_istore_n hX 1 12 rfl rfl (Nat.le_of_ble_eq_true rfl) rfl ?_
  have lp : ∀ (i : Nat), i ≤ 173 → V Y X (mrow (mset M 270 4 (nI k)) 271 (cpy (M.1 271) (M.1 272) 0 (173 * k) i)) 22 [some (.ref (Y.2.2.2 270)), some (.int (nI i))] [] := by
    refine upTo 173 (fun i hi ih => ?_)
    refine v_iload_n hX 1 13 rfl rfl rfl ?_
    refine v_sipush hX (v := 173) 14 rfl (by decide) ?_
    refine v_icmp_ge hX (tgt := 56) 15 rfl (by decide) (fun c26 => ?_) (fun c26 => ?_)
    · skip
      have hi2 : i = 173 := by have := of_le (a := 173) c26 (by omega) (by omega); omega
      subst hi2
      refine v_aload_n hX 0 31 rfl rfl rfl ?_
      refine g_7_4 hX 32  tw_650 rfl ?_
      rw [mrow_n (by decide), mset_s, upd_s]
      refine v_iret hX hQ rfl rfl ?_ ?_ 33 rfl
      · rfl
      · rfl
    · skip
      have hi2 : i < 173 := of_nle (a := 173) c26 (by omega) (by omega)
      refine v_aload_n hX 0 16 rfl rfl rfl ?_
      refine g_7_0 hX 17  tw_646 rfl ?_
      refine v_iload_n hX 1 18 rfl rfl rfl ?_
      refine v_aload_n hX 0 19 rfl rfl rfl ?_
      refine g_7_1 hX 20  tw_647 rfl ?_
      refine v_aload_n hX 0 21 rfl rfl rfl ?_
      refine g_7_4 hX 22  tw_650 rfl ?_
      rw [mrow_n (by decide), mset_s, upd_s]
      refine v_sipush hX (v := 173) 23 rfl (by decide) ?_
      refine v_imul hX 24 rfl ?_
      refine v_iload_n hX 1 25 rfl rfl rfl ?_
      refine v_iadd hX 26 rfl ?_
      rw [show (173 : Int32) = nI 173 from rfl, pk_mul, nI_add]
      rw [Nat.mul_comm k 173]
      refine v_iald hX (k := 272) (by decide) rfl (vp_in_nI (by omega) (by decide)) 27 rfl ?_
      rw [nI_clamp (by omega), mrow_n (by decide), mset_n (by decide)]
      refine v_iast hX (k := 271) (by decide) rfl rfl (vp_in_nI (by omega) (by decide)) rfl 28 rfl ?_
      refine V.mem mset_mrow ?_
      rw [nI_clamp (by omega)]
      refine v_iinc hX 29 rfl rfl (nI_inc i) (Nat.le_of_ble_eq_true rfl) rfl ?_
      refine v_goto hX (tgt := 22) 30 rfl (by decide) ?_
      refine V.subM (ih hi2) ?_ rfl ⟨rfl, rfl, trivial⟩
      have e := cpy_s (f := M.1 271) (g := M.1 272) (a := 0) (o := 173 * k) (k := i)
      rw [Nat.zero_add] at e
      rw [e]
  refine V.subM (lp 0 (Nat.zero_le _)) ?_ rfl ⟨rfl, rfl, trivial⟩
  rw [cpy_0, ← mset_n (M := M) (k := 270) (j := 4) (v := nI k) (show 271 ≠ 270 by decide), mrow_self]
set_option maxRecDepth 100000 in
set_option maxHeartbeats 4000000 in
theorem r_save_no {Y : Yt} {M : Mm} {x : Int32} (hx : inv x 0 1 = false) : Fn Y yX7_save wsX7_save { frames := 1, cells := 0, slots := 0, locals := 22 } [.ref (Y.2.2.2 270), .int x] M (some (.int (-2))) M := by
  refine Fn.of (cc := cX7_save) (ins := iX7_save) (maxL := 3) (ret := (some .int)) (by decide) dX7_save [some (.ref (Y.2.2.2 270)), some (.int x), none] (Nat.le_of_ble_eq_true rfl) rfl rfl ?_
  intro X hX hQ
  refine v_iload_n hX 1 0 rfl rfl rfl ?_
  refine v_iconst hX (v := 0) 1 rfl (by decide) ?_
  refine v_iconst hX (v := 1) 2 rfl (by decide) ?_
  refine v_callS hX 3 (r_in) tw_703 tw_701 tw_702 tw_99 (by decide +kernel) ⟨⟨rfl, rfl⟩, Nat.le_of_ble_eq_true rfl, Nat.le_of_ble_eq_true rfl⟩ rfl (Nat.le_of_ble_eq_true rfl) rfl rfl 3 rfl ?_
  rw [hx]
  refine v_if_ne hX (tgt := 12) 4 rfl (by decide) (fun c6 => absurd c6 (fun h => h rfl)) (fun c6 => ?_)
  refine v_bipush hX (v := (-2)) 5 rfl (by decide) ?_
  refine v_iret hX hQ rfl rfl ?_ ?_ 6 rfl
  · rfl
  · rfl
set_option maxRecDepth 100000 in
set_option maxHeartbeats 4000000 in
theorem r_save {Y : Yt} {M : Mm} {j n : Nat} (hj : j < 2) (hz : M.1 271 3 = nI n) : Fn Y yX7_save wsX7_save { frames := 1, cells := 0, slots := 0, locals := 22 } [.ref (Y.2.2.2 270), .int (nI j)] M (some (.int (nI n))) ((mrow (mset M 274 j 1) 273 (cpy (M.1 273) (M.1 271) (173 * j) 0 173))) := by
  refine Fn.of (cc := cX7_save) (ins := iX7_save) (maxL := 3) (ret := (some .int)) (by decide) dX7_save [some (.ref (Y.2.2.2 270)), some (.int (nI j)), none] (Nat.le_of_ble_eq_true rfl) rfl rfl ?_
  intro X hX hQ
  refine v_iload_n hX 1 0 rfl rfl rfl ?_
  refine v_iconst hX (v := 0) 1 rfl (by decide) ?_
  refine v_iconst hX (v := 1) 2 rfl (by decide) ?_
  refine v_callS hX 3 (r_in) tw_703 tw_701 tw_702 tw_99 (by decide +kernel) ⟨⟨rfl, rfl⟩, Nat.le_of_ble_eq_true rfl, Nat.le_of_ble_eq_true rfl⟩ rfl (Nat.le_of_ble_eq_true rfl) rfl rfl 3 rfl ?_
  rw [show inv (nI j) 0 1 = true by rcases (show j = 0 ∨ j = 1 by omega) with rfl | rfl <;> decide]
  refine v_if_ne hX (tgt := 12) 4 rfl (by decide) (fun c6 => ?_) (fun c6 => absurd c6 (by decide))
  refine v_aload_n hX 0 7 rfl rfl rfl ?_
  refine g_7_3 hX 8  tw_649 rfl ?_
  refine v_iload_n hX 1 9 rfl rfl rfl ?_
  refine v_iconst hX (v := 1) 10 rfl (by decide) ?_
  refine v_zast hX (k := 274) (by decide) rfl rfl (vp_in_nI (by omega) (by decide)) rfl 11 rfl ?_
  refine V.mem (M2 := mset M 274 j 1) (by rw [nI_clamp (by omega)]; rfl) ?_
  refine v_iconst hX (v := 0) 12 rfl (by decide) ?_
  refine v_istore_n hX 2 13 rfl rfl (Nat.le_of_ble_eq_true rfl) rfl ?_
  have lp : ∀ (i : Nat), i ≤ 173 → V Y X (mrow (mset M 274 j 1) 273 (cpy (M.1 273) (M.1 271) (173 * j) 0 i)) 21 [some (.ref (Y.2.2.2 270)), some (.int (nI j)), some (.int (nI i))] [] := by
    refine upTo 173 (fun i hi ih => ?_)
    refine v_iload_n hX 2 14 rfl rfl rfl ?_
    refine v_sipush hX (v := 173) 15 rfl (by decide) ?_
    refine v_icmp_ge hX (tgt := 52) 16 rfl (by decide) (fun c25 => ?_) (fun c25 => ?_)
    · skip
      have hi2 : i = 173 := by have := of_le (a := 173) c25 (by omega) (by omega); omega
      subst hi2
      refine v_aload_n hX 0 31 rfl rfl rfl ?_
      refine g_7_0 hX 32  tw_646 rfl ?_
      refine v_iconst hX (v := 3) 33 rfl (by decide) ?_
      refine v_iald hX (k := 271) (by decide) rfl (vp_in_nI (n := 3) (by decide) (by decide)) 34 rfl ?_
      show V Y X _ _ _ [.int ((mrow (mset M 274 j 1) 273 _).1 271 3)]
      rw [mrow_n (by decide), mset_n (by decide), hz]
      refine v_iret hX hQ rfl rfl ?_ ?_ 35 rfl
      · rfl
      · rfl
    · skip
      have hi2 : i < 173 := of_nle (a := 173) c25 (by omega) (by omega)
      refine v_aload_n hX 0 17 rfl rfl rfl ?_
      refine g_7_2 hX 18  tw_648 rfl ?_
      refine v_iload_n hX 1 19 rfl rfl rfl ?_
      refine v_sipush hX (v := 173) 20 rfl (by decide) ?_
      refine v_imul hX 21 rfl ?_
      refine v_iload_n hX 2 22 rfl rfl rfl ?_
      refine v_iadd hX 23 rfl ?_
      rw [show (173 : Int32) = nI 173 from rfl, pk_mul, nI_add]
      rw [Nat.mul_comm j 173]
      refine v_aload_n hX 0 24 rfl rfl rfl ?_
      refine g_7_0 hX 25  tw_646 rfl ?_
      refine v_iload_n hX 2 26 rfl rfl rfl ?_
      refine v_iald hX (k := 271) (by decide) rfl (vp_in_nI (by omega) (by decide)) 27 rfl ?_
      rw [nI_clamp (by omega), mrow_n (by decide), mset_n (by decide)]
      refine v_iast hX (k := 273) (by decide) rfl rfl (vp_in_nI (by omega) (by decide)) rfl 28 rfl ?_
      refine V.mem mset_mrow ?_
      rw [nI_clamp (by omega)]
      refine v_iinc hX 29 rfl rfl (nI_inc i) (Nat.le_of_ble_eq_true rfl) rfl ?_
      refine v_goto hX (tgt := 21) 30 rfl (by decide) ?_
      refine V.subM (ih hi2) ?_ rfl ⟨rfl, rfl, rfl, trivial⟩
      have e := cpy_s (f := M.1 273) (g := M.1 271) (a := 173 * j) (o := 0) (k := i)
      rw [Nat.zero_add] at e
      rw [e]
  refine V.subM (lp 0 (Nat.zero_le _)) ?_ rfl ⟨rfl, rfl, rfl, trivial⟩
  rw [cpy_0, ← mset_n (M := M) (k := 274) (j := j) (v := 1) (show 273 ≠ 274 by decide), mrow_self]
set_option maxRecDepth 100000 in
set_option maxHeartbeats 4000000 in
theorem r_restore_no {Y : Yt} {M : Mm} {x : Int32} (hx : inv x 0 1 = false) : Fn Y yX7_restore wsX7_restore { frames := 1, cells := 0, slots := 0, locals := 22 } [.ref (Y.2.2.2 270), .int x] M (some (.int (-2))) M := by
  refine Fn.of (cc := cX7_restore) (ins := iX7_restore) (maxL := 3) (ret := (some .int)) (by decide) dX7_restore [some (.ref (Y.2.2.2 270)), some (.int x), none] (Nat.le_of_ble_eq_true rfl) rfl rfl ?_
  intro X hX hQ
  refine v_iload_n hX 1 0 rfl rfl rfl ?_
  refine v_iconst hX (v := 0) 1 rfl (by decide) ?_
  refine v_iconst hX (v := 1) 2 rfl (by decide) ?_
  refine v_callS hX 3 (r_in) tw_703 tw_701 tw_702 tw_99 (by decide +kernel) ⟨⟨rfl, rfl⟩, Nat.le_of_ble_eq_true rfl, Nat.le_of_ble_eq_true rfl⟩ rfl (Nat.le_of_ble_eq_true rfl) rfl rfl 3 rfl ?_
  rw [hx]
  refine v_if_ne hX (tgt := 12) 4 rfl (by decide) (fun c6 => absurd c6 (fun h => h rfl)) (fun c6 => ?_)
  refine v_bipush hX (v := (-2)) 5 rfl (by decide) ?_
  refine v_iret hX hQ rfl rfl ?_ ?_ 6 rfl
  · rfl
  · rfl
set_option maxRecDepth 100000 in
set_option maxHeartbeats 4000000 in
theorem r_restore_not {Y : Yt} {M : Mm} {j : Nat} (hj : j < 2) (hs : M.1 274 j = 0) : Fn Y yX7_restore wsX7_restore { frames := 1, cells := 0, slots := 0, locals := 22 } [.ref (Y.2.2.2 270), .int (nI j)] M (some (.int (-5))) M := by
  refine Fn.of (cc := cX7_restore) (ins := iX7_restore) (maxL := 3) (ret := (some .int)) (by decide) dX7_restore [some (.ref (Y.2.2.2 270)), some (.int (nI j)), none] (Nat.le_of_ble_eq_true rfl) rfl rfl ?_
  intro X hX hQ
  refine v_iload_n hX 1 0 rfl rfl rfl ?_
  refine v_iconst hX (v := 0) 1 rfl (by decide) ?_
  refine v_iconst hX (v := 1) 2 rfl (by decide) ?_
  refine v_callS hX 3 (r_in) tw_703 tw_701 tw_702 tw_99 (by decide +kernel) ⟨⟨rfl, rfl⟩, Nat.le_of_ble_eq_true rfl, Nat.le_of_ble_eq_true rfl⟩ rfl (Nat.le_of_ble_eq_true rfl) rfl rfl 3 rfl ?_
  rw [show inv (nI j) 0 1 = true by rcases (show j = 0 ∨ j = 1 by omega) with rfl | rfl <;> decide]
  refine v_if_ne hX (tgt := 12) 4 rfl (by decide) (fun c6 => ?_) (fun c6 => absurd c6 (by decide))
  refine v_aload_n hX 0 7 rfl rfl rfl ?_
  refine g_7_3 hX 8  tw_649 rfl ?_
  refine v_iload_n hX 1 9 rfl rfl rfl ?_
  refine v_zald hX (k := 274) (by decide) rfl (vp_in_nI (by omega) (by decide)) 10 rfl ?_
  rw [nI_clamp (by omega)]
  refine v_if_ne hX (tgt := 24) 11 rfl (by decide) (fun c18 => absurd c18 (fun h => h hs)) (fun c18 => ?_)
  refine v_bipush hX (v := (-5)) 12 rfl (by decide) ?_
  refine v_iret hX hQ rfl rfl ?_ ?_ 13 rfl
  · rfl
  · rfl
set_option maxRecDepth 100000 in
set_option maxHeartbeats 4000000 in
theorem r_restore {Y : Yt} {M : Mm} {j k n : Nat} (hj : j < 2) (hs : ¬ M.1 274 j = 0) (hk : k ≤ 6) (hkk : M.1 270 4 = nI k) (hz : M.1 273 (173 * j + 3) = nI n) : Fn Y yX7_restore wsX7_restore { frames := 1, cells := 0, slots := 0, locals := 22 } [.ref (Y.2.2.2 270), .int (nI j)] M (some (.int (nI n))) ((mrow (rcM M k) 271 (cpy (M.1 271) (M.1 273) 0 (173 * j) 173))) := by
  refine Fn.of (cc := cX7_restore) (ins := iX7_restore) (maxL := 3) (ret := (some .int)) (by decide) dX7_restore [some (.ref (Y.2.2.2 270)), some (.int (nI j)), none] (Nat.le_of_ble_eq_true rfl) rfl rfl ?_
  intro X hX hQ
  refine v_iload_n hX 1 0 rfl rfl rfl ?_
  refine v_iconst hX (v := 0) 1 rfl (by decide) ?_
  refine v_iconst hX (v := 1) 2 rfl (by decide) ?_
  refine v_callS hX 3 (r_in) tw_703 tw_701 tw_702 tw_99 (by decide +kernel) ⟨⟨rfl, rfl⟩, Nat.le_of_ble_eq_true rfl, Nat.le_of_ble_eq_true rfl⟩ rfl (Nat.le_of_ble_eq_true rfl) rfl rfl 3 rfl ?_
  rw [show inv (nI j) 0 1 = true by rcases (show j = 0 ∨ j = 1 by omega) with rfl | rfl <;> decide]
  refine v_if_ne hX (tgt := 12) 4 rfl (by decide) (fun c6 => ?_) (fun c6 => absurd c6 (by decide))
  refine v_aload_n hX 0 7 rfl rfl rfl ?_
  refine g_7_3 hX 8  tw_649 rfl ?_
  refine v_iload_n hX 1 9 rfl rfl rfl ?_
  refine v_zald hX (k := 274) (by decide) rfl (vp_in_nI (by omega) (by decide)) 10 rfl ?_
  rw [nI_clamp (by omega)]
  refine v_if_ne hX (tgt := 24) 11 rfl (by decide) (fun c18 => ?_) (fun c18 => absurd c18 hs)
  refine v_aload_n hX 0 14 rfl rfl rfl ?_
  refine v_callV hX 0 (by decide) rfl rfl (r_record hk hkk) tw_711 tw_708 tw_710 tw_53 tw_99 (by decide +kernel) ⟨⟨rfl, rfl⟩, Nat.le_of_ble_eq_true rfl, Nat.le_of_ble_eq_true rfl⟩ rfl (Nat.le_of_ble_eq_true rfl) rfl rfl 15 rfl ?_
  refine v_iconst hX (v := 0) 16 rfl (by decide) ?_
  refine v_istore_n hX 2 17 rfl rfl (Nat.le_of_ble_eq_true rfl) rfl ?_
  have lp : ∀ (i : Nat), i ≤ 173 → V Y X (mrow (rcM M k) 271 (cpy (M.1 271) (M.1 273) 0 (173 * j) i)) 30 [some (.ref (Y.2.2.2 270)), some (.int (nI j)), some (.int (nI i))] [] := by
    refine upTo 173 (fun i hi ih => ?_)
    refine v_iload_n hX 2 18 rfl rfl rfl ?_
    refine v_sipush hX (v := 173) 19 rfl (by decide) ?_
    refine v_icmp_ge hX (tgt := 61) 20 rfl (by decide) (fun c34 => ?_) (fun c34 => ?_)
    · skip
      have hi2 : i = 173 := by have := of_le (a := 173) c34 (by omega) (by omega); omega
      subst hi2
      refine v_aload_n hX 0 35 rfl rfl rfl ?_
      refine g_7_0 hX 36  tw_646 rfl ?_
      refine v_iconst hX (v := 3) 37 rfl (by decide) ?_
      refine v_iald hX (k := 271) (by decide) rfl (vp_in_nI (n := 3) (by decide) (by decide)) 38 rfl ?_
      show V Y X _ _ _ [.int ((mrow (rcM M k) 271 (cpy (M.1 271) (M.1 273) 0 (173 * j) 173)).1 271 3)]
      rw [mrow_s]
      show V Y X _ _ _ [.int (if 0 ≤ 3 ∧ 3 < 0 + 173 then M.1 273 (173 * j + (3 - 0)) else M.1 271 3)]
      rw [if_pos (by decide), Nat.sub_zero, hz]
      refine v_iret hX hQ rfl rfl ?_ ?_ 39 rfl
      · rfl
      · rfl
    · skip
      have hi2 : i < 173 := of_nle (a := 173) c34 (by omega) (by omega)
      refine v_aload_n hX 0 21 rfl rfl rfl ?_
      refine g_7_0 hX 22  tw_646 rfl ?_
      refine v_iload_n hX 2 23 rfl rfl rfl ?_
      refine v_aload_n hX 0 24 rfl rfl rfl ?_
      refine g_7_2 hX 25  tw_648 rfl ?_
      refine v_iload_n hX 1 26 rfl rfl rfl ?_
      refine v_sipush hX (v := 173) 27 rfl (by decide) ?_
      refine v_imul hX 28 rfl ?_
      refine v_iload_n hX 2 29 rfl rfl rfl ?_
      refine v_iadd hX 30 rfl ?_
      rw [show (173 : Int32) = nI 173 from rfl, pk_mul, nI_add]
      rw [Nat.mul_comm j 173]
      refine v_iald hX (k := 273) (by decide) rfl (vp_in_nI (by omega) (by decide)) 31 rfl ?_
      rw [nI_clamp (by omega), mrow_n (by decide), rcM_n (by decide)]
      refine v_iast hX (k := 271) (by decide) rfl rfl (vp_in_nI (by omega) (by decide)) rfl 32 rfl ?_
      refine V.mem mset_mrow ?_
      rw [nI_clamp (by omega)]
      refine v_iinc hX 33 rfl rfl (nI_inc i) (Nat.le_of_ble_eq_true rfl) rfl ?_
      refine v_goto hX (tgt := 30) 34 rfl (by decide) ?_
      refine V.subM (ih hi2) ?_ rfl ⟨rfl, rfl, rfl, trivial⟩
      have e := cpy_s (f := M.1 271) (g := M.1 273) (a := 0) (o := 173 * j) (k := i)
      rw [Nat.zero_add] at e
      rw [e]
  refine V.subM (lp 0 (Nat.zero_le _)) ?_ rfl ⟨rfl, rfl, rfl, trivial⟩
  rw [cpy_0, ← rcM_n (M := M) (k := k) (show 271 ≠ 270 ∧ 271 ≠ 272 by decide), mrow_self]
end
section
theorem wt_z {M : Mm} {w t : Nat → Int32} : (wt M w t).1 271 = M.1 271 := wt_n (by decide)
set_option maxRecDepth 100000 in
set_option maxHeartbeats 4000000 in
theorem r_layOut {Y : Yt} {M : Mm} {n : Nat} (hz : M.1 271 3 = nI n) (hn : n ≤ 24) (hw : WF (rp (M.1 271)) n) : Fn Y yX7_layOut wsX7_layOut { frames := 3, cells := 0, slots := 0, locals := 64 } [.ref (Y.2.2.2 270)] M none ((wt M (wyR M n) (tkR M n))) := by
  refine Fn.of (cc := cX7_layOut) (ins := iX7_layOut) (maxL := 4) (ret := none) (by decide) dX7_layOut [some (.ref (Y.2.2.2 270)), none, none, none] (Nat.le_of_ble_eq_true rfl) rfl rfl ?_
  intro X hX hQ
  refine v_aload_n hX 0 0 rfl rfl rfl ?_
  refine g_7_8 hX 1  tw_654 rfl ?_
  refine v_iconst hX (v := 0) 2 rfl (by decide) ?_
  refine v_iconst hX (v := 0) 3 rfl (by decide) ?_
  refine v_iast hX (k := 277) (by decide) rfl rfl (vp_in_nI (n := 0) (by decide) (by decide)) rfl 4 rfl ?_
  refine v_aload_n hX 0 5 rfl rfl rfl ?_
  refine g_7_8 hX 6  tw_654 rfl ?_
  refine v_iconst hX (v := 1) 7 rfl (by decide) ?_
  refine v_iconst hX (v := 0) 8 rfl (by decide) ?_
  refine v_iast hX (k := 277) (by decide) rfl rfl (vp_in_nI (n := 1) (by decide) (by decide)) rfl 9 rfl ?_
  refine v_iconst hX (v := 0) 10 rfl (by decide) ?_
  refine v_istore_n hX 1 11 rfl rfl (Nat.le_of_ble_eq_true rfl) rfl ?_
  have lp : ∀ (k : Nat), k ≤ n → V Y X (wt M (wyR M k) (tkR M k)) 16 [some (.ref (Y.2.2.2 270)), some (.int (nI k)), none, none] [] := by
    refine upTo n (fun k hk ih => ?_)
    refine v_iload_n hX 1 12 rfl rfl rfl ?_
    refine v_aload_n hX 0 13 rfl rfl rfl ?_
    refine g_7_0 hX 14  tw_646 rfl ?_
    refine v_iconst hX (v := 3) 15 rfl (by decide) ?_
    refine v_iald hX (k := 271) (by decide) rfl (vp_in_nI (n := 3) (by decide) (by decide)) 16 rfl ?_
    rw [wt_n (by decide)]
    refine v_icmp_ge hX (tgt := 149) 17 rfl (by decide) (fun c23 => ?_) (fun c23 => ?_)
    · skip
      have hk2 : k = n := by have h5 : M.1 271 3 ≤ nI k := c23; rw [hz] at h5; have := of_le h5 (by omega) (by omega); omega
      subst hk2
      refine v_vret hX hQ rfl rfl ?_ 89 rfl
      rfl
    · skip
      have hk2 : k < n := by have h5 : ¬ M.1 271 3 ≤ nI k := c23; rw [hz] at h5; exact of_nle h5 (by omega) (by omega)
      have hwd := wd1_P hw hk2
      obtain ⟨sd, hsd, hs⟩ : ∃ sd, sd < 2 ∧ rp (M.1 271) k 0 = nI sd := by rcases (hw k hk2).1 with g | g; exact ⟨0, by decide, g⟩; exact ⟨1, by decide, g⟩
      have hS : pSk (rp (M.1 271)) (M.1 271 1) k = (!wd1 (M.1 271) k && (!decide (tkR M k sd + rp (M.1 271) k 1 ≤ M.1 271 1))) := lo_sk hw hk2 hs hsd
      refine v_aload_n hX 0 18 rfl rfl rfl ?_
      refine v_iload_n hX 1 19 rfl rfl rfl ?_
      refine v_iconst hX (v := 0) 20 rfl (by decide) ?_
      refine v_callV hX 2 (by decide) rfl rfl (r_its (w := 0) (show k < 24 by omega) (by decide)) tw_757 tw_754 tw_756 tw_60 tw_99 (by decide +kernel) ⟨⟨rfl, rfl⟩, Nat.le_of_ble_eq_true rfl, Nat.le_of_ble_eq_true rfl⟩ rfl (Nat.le_of_ble_eq_true rfl) rfl rfl 21 rfl ?_
      rw [wt_z]
      rw [show M.1 271 (5 + 7 * k + 0) = nI sd from hs]
      refine v_istore_n hX 2 22 rfl rfl (Nat.le_of_ble_eq_true rfl) rfl ?_
      have j60 : ∀ (v : Int32), v = b01 (!decide (tkR M k sd + rp (M.1 271) k 1 ≤ M.1 271 1)) → V Y X (wt M (wyR M k) (tkR M k)) 60 [some (.ref (Y.2.2.2 270)), some (.int (nI k)), some (.int (nI sd)), none] [.int v] := by
        intro v hv
        refine v_istore_n hX 3 40 rfl rfl (Nat.le_of_ble_eq_true rfl) rfl ?_
        have j111 : ∀ (r : Int32), r = ry (M.1 271) k → V Y X (wt M (wyR M k) (tkR M k)) 111 [some (.ref (Y.2.2.2 270)), some (.int (nI k)), some (.int (nI sd)), some (.int v)] [.int r, .int (nI k), .ref (Y.2.2.2 276)] := by
          intro r hr
          refine v_iast hX (k := 276) (by decide) rfl rfl (vp_in_nI (by omega) (by decide)) rfl 67 rfl ?_
          refine V.mem (M2 := wt M (wyR M (k + 1)) (tkR M k)) (by rw [nI_clamp (by omega), wt_276, hr, wyR_s]) ?_
          have j141 : ∀ (r2 : Int32), r2 = (if (wd1 (M.1 271) k || pSk (rp (M.1 271)) (M.1 271 1) k) = true then 0 else rp (M.1 271) k 1) → V Y X (wt M (wyR M (k + 1)) (tkR M k)) 141 [some (.ref (Y.2.2.2 270)), some (.int (nI k)), some (.int (nI sd)), some (.int v)] [.int r2, .int (tkR M k sd), .int (nI sd), .ref (Y.2.2.2 277)] := by
            intro r2 hr2
            refine v_iadd hX 85 rfl ?_
            refine v_iast hX (k := 277) (by decide) rfl rfl (vp_in_nI (by omega) (by decide)) rfl 86 rfl ?_
            refine V.mem (M2 := wt M (wyR M (k + 1)) (tkR M (k + 1))) (by rw [nI_clamp (by omega), wt_277, hr2, tkR_s hw hk2 hs hsd]) ?_
            refine v_iinc hX 87 rfl rfl (nI_inc k) (Nat.le_of_ble_eq_true rfl) rfl ?_
            refine v_goto hX (tgt := 16) 88 rfl (by decide) ?_
            refine V.subM (ih hk2) ?_ rfl ⟨rfl, rfl, trivial⟩
            rfl
          refine v_aload_n hX 0 68 rfl rfl rfl ?_
          refine g_7_8 hX 69  tw_654 rfl ?_
          refine v_iload_n hX 2 70 rfl rfl rfl ?_
          refine v_dup2 hX 71 rfl rfl rfl ?_
          refine v_iald hX (k := 277) (by decide) rfl (vp_in_nI (by omega) (by decide)) 72 rfl ?_
          rw [nI_clamp (by omega), wt_r7]
          refine v_aload_n hX 0 73 rfl rfl rfl ?_
          refine v_iload_n hX 1 74 rfl rfl rfl ?_
          refine v_callV hX 1 (by decide) rfl rfl (r_isWd (show k < 24 by omega)) tw_753 tw_750 tw_752 tw_59 tw_99 (by decide +kernel) ⟨⟨rfl, rfl⟩, Nat.le_of_ble_eq_true rfl, Nat.le_of_ble_eq_true rfl⟩ rfl (Nat.le_of_ble_eq_true rfl) rfl rfl 75 rfl ?_
          rw [wt_z]
          refine v_if_ne hX (tgt := 131) 76 rfl (by decide) (fun c124 => ?_) (fun c124 => ?_)
          · skip
            have w1 := b01_t c124
            refine v_iconst hX (v := 0) 79 rfl (by decide) ?_
            refine v_goto hX (tgt := 141) 80 rfl (by decide) ?_
            exact V.sub (j141 _ (by first | (rw [w1]; rfl) | (rw [hS2, w1]; rfl))) rfl ⟨rfl, rfl, rfl, rfl, trivial⟩
          · skip
            have w1 := b01_f c124
            refine v_iload_n hX 3 77 rfl rfl rfl ?_
            refine v_if_eq hX (tgt := 135) 78 rfl (by decide) (fun c128 => ?_) (fun c128 => ?_)
            · skip
              have w2 : (!decide (tkR M k sd + rp (M.1 271) k 1 ≤ M.1 271 1)) = false := by rw [hv] at c128; exact b01_f c128
              have hS2 : pSk (rp (M.1 271)) (M.1 271 1) k = false := by rw [hS, w2, Bool.and_false]
              refine v_aload_n hX 0 81 rfl rfl rfl ?_
              refine v_iload_n hX 1 82 rfl rfl rfl ?_
              refine v_iconst hX (v := 1) 83 rfl (by decide) ?_
              refine v_callV hX 2 (by decide) rfl rfl (r_its (w := 1) (show k < 24 by omega) (by decide)) tw_757 tw_754 tw_756 tw_60 tw_99 (by decide +kernel) ⟨⟨rfl, rfl⟩, Nat.le_of_ble_eq_true rfl, Nat.le_of_ble_eq_true rfl⟩ rfl (Nat.le_of_ble_eq_true rfl) rfl rfl 84 rfl ?_
              rw [wt_z]
              exact V.sub (j141 _ (by rw [hS2, w1]; rfl)) rfl ⟨rfl, rfl, rfl, rfl, trivial⟩
            · skip
              have w2 : (!decide (tkR M k sd + rp (M.1 271) k 1 ≤ M.1 271 1)) = true := by rw [hv] at c128; exact b01_t c128
              have hS2 : pSk (rp (M.1 271)) (M.1 271 1) k = true := by rw [hS, w2, w1]; rfl
              refine v_iconst hX (v := 0) 79 rfl (by decide) ?_
              refine v_goto hX (tgt := 141) 80 rfl (by decide) ?_
              exact V.sub (j141 _ (by first | (rw [w1]; rfl) | (rw [hS2, w1]; rfl))) rfl ⟨rfl, rfl, rfl, rfl, trivial⟩
        refine v_aload_n hX 0 41 rfl rfl rfl ?_
        refine g_7_7 hX 42  tw_653 rfl ?_
        refine v_iload_n hX 1 43 rfl rfl rfl ?_
        refine v_aload_n hX 0 44 rfl rfl rfl ?_
        refine v_iload_n hX 1 45 rfl rfl rfl ?_
        refine v_callV hX 1 (by decide) rfl rfl (r_isWd (show k < 24 by omega)) tw_753 tw_750 tw_752 tw_59 tw_99 (by decide +kernel) ⟨⟨rfl, rfl⟩, Nat.le_of_ble_eq_true rfl, Nat.le_of_ble_eq_true rfl⟩ rfl (Nat.le_of_ble_eq_true rfl) rfl rfl 46 rfl ?_
        rw [wt_z]
        refine v_if_eq hX (tgt := 78) 47 rfl (by decide) (fun c71 => ?_) (fun c71 => ?_)
        · skip
          have w1 := b01_f c71
          refine v_iload_n hX 3 50 rfl rfl rfl ?_
          refine v_if_eq hX (tgt := 86) 51 rfl (by decide) (fun c79 => ?_) (fun c79 => ?_)
          · skip
            have w2 : (!decide (tkR M k sd + rp (M.1 271) k 1 ≤ M.1 271 1)) = false := by rw [hv] at c79; exact b01_f c79
            have hS2 : pSk (rp (M.1 271)) (M.1 271 1) k = false := by rw [hS, w2, Bool.and_false]
            refine v_aload_n hX 0 54 rfl rfl rfl ?_
            refine v_iload_n hX 1 55 rfl rfl rfl ?_
            refine v_callV hX 1 (by decide) rfl rfl (r_lapsed (show k < 24 by omega)) tw_777 tw_774 tw_776 tw_64 tw_99 (by decide +kernel) ⟨⟨rfl, rfl⟩, Nat.le_of_ble_eq_true rfl, Nat.le_of_ble_eq_true rfl⟩ rfl (Nat.le_of_ble_eq_true rfl) rfl rfl 56 rfl ?_
            rw [wt_z]
            refine v_if_eq hX (tgt := 98) 57 rfl (by decide) (fun c91 => ?_) (fun c91 => ?_)
            · skip
              have w3 := b01_f c91
              refine v_aload_n hX 0 60 rfl rfl rfl ?_
              refine v_iload_n hX 1 61 rfl rfl rfl ?_
              refine v_callV hX 1 (by decide) rfl rfl (r_noCase (show k < 24 by omega)) tw_785 tw_782 tw_784 tw_66 tw_99 (by decide +kernel) ⟨⟨rfl, rfl⟩, Nat.le_of_ble_eq_true rfl, Nat.le_of_ble_eq_true rfl⟩ rfl (Nat.le_of_ble_eq_true rfl) rfl rfl 62 rfl ?_
              rw [wt_z]
              refine v_if_eq hX (tgt := 110) 63 rfl (by decide) (fun c103 => ?_) (fun c103 => ?_)
              · skip
                have w4 := b01_f c103
                refine v_iconst hX (v := 0) 66 rfl (by decide) ?_
                exact V.sub (j111 _ (by unfold ry; rw [if_neg (by rw [w1]; decide), if_neg (by rw [hS2]; decide), if_neg (by rw [w3]; decide), if_neg (by rw [w4]; decide)])) rfl ⟨rfl, rfl, rfl, rfl, trivial⟩
              · skip
                have w4 := b01_t c103
                refine v_iconst hX (v := 4) 64 rfl (by decide) ?_
                refine v_goto hX (tgt := 111) 65 rfl (by decide) ?_
                exact V.sub (j111 _ (by unfold ry; rw [if_neg (by rw [w1]; decide), if_neg (by rw [hS2]; decide), if_neg (by rw [w3]; decide), if_pos w4])) rfl ⟨rfl, rfl, rfl, rfl, trivial⟩
            · skip
              have w3 := b01_t c91
              refine v_iconst hX (v := 3) 58 rfl (by decide) ?_
              refine v_goto hX (tgt := 111) 59 rfl (by decide) ?_
              exact V.sub (j111 _ (by unfold ry; rw [if_neg (by rw [w1]; decide), if_neg (by rw [hS2]; decide), if_pos w3])) rfl ⟨rfl, rfl, rfl, rfl, trivial⟩
          · skip
            have w2 : (!decide (tkR M k sd + rp (M.1 271) k 1 ≤ M.1 271 1)) = true := by rw [hv] at c79; exact b01_t c79
            have hS2 : pSk (rp (M.1 271)) (M.1 271 1) k = true := by rw [hS, w2, w1]; rfl
            refine v_iconst hX (v := 2) 52 rfl (by decide) ?_
            refine v_goto hX (tgt := 111) 53 rfl (by decide) ?_
            exact V.sub (j111 _ (by unfold ry; rw [if_neg (by rw [w1]; decide), if_pos hS2])) rfl ⟨rfl, rfl, rfl, rfl, trivial⟩
        · skip
          have w1 := b01_t c71
          refine v_iconst hX (v := 1) 48 rfl (by decide) ?_
          refine v_goto hX (tgt := 111) 49 rfl (by decide) ?_
          exact V.sub (j111 _ (by unfold ry; rw [if_pos w1])) rfl ⟨rfl, rfl, rfl, rfl, trivial⟩
      refine v_aload_n hX 0 23 rfl rfl rfl ?_
      refine g_7_8 hX 24  tw_654 rfl ?_
      refine v_iload_n hX 2 25 rfl rfl rfl ?_
      refine v_iald hX (k := 277) (by decide) rfl (vp_in_nI (by omega) (by decide)) 26 rfl ?_
      rw [nI_clamp (by omega), wt_r7]
      refine v_aload_n hX 0 27 rfl rfl rfl ?_
      refine v_iload_n hX 1 28 rfl rfl rfl ?_
      refine v_iconst hX (v := 1) 29 rfl (by decide) ?_
      refine v_callV hX 2 (by decide) rfl rfl (r_its (w := 1) (show k < 24 by omega) (by decide)) tw_757 tw_754 tw_756 tw_60 tw_99 (by decide +kernel) ⟨⟨rfl, rfl⟩, Nat.le_of_ble_eq_true rfl, Nat.le_of_ble_eq_true rfl⟩ rfl (Nat.le_of_ble_eq_true rfl) rfl rfl 30 rfl ?_
      rw [wt_z]
      refine v_iadd hX 31 rfl ?_
      refine v_aload_n hX 0 32 rfl rfl rfl ?_
      refine g_7_0 hX 33  tw_646 rfl ?_
      refine v_iconst hX (v := 1) 34 rfl (by decide) ?_
      refine v_iald hX (k := 271) (by decide) rfl (vp_in_nI (n := 1) (by decide) (by decide)) 35 rfl ?_
      rw [wt_n (by decide)]
      refine v_icmp_le hX (tgt := 59) 36 rfl (by decide) (fun c52 => ?_) (fun c52 => ?_)
      · skip
        have q2 : tkR M k sd + rp (M.1 271) k 1 ≤ M.1 271 1 := c52
        refine v_iconst hX (v := 0) 39 rfl (by decide) ?_
        exact V.sub (j60 _ (by rw [decide_eq_true q2]; rfl)) rfl ⟨rfl, rfl, rfl, trivial⟩
      · skip
        have q2 : ¬ tkR M k sd + rp (M.1 271) k 1 ≤ M.1 271 1 := c52
        refine v_iconst hX (v := 1) 37 rfl (by decide) ?_
        refine v_goto hX (tgt := 60) 38 rfl (by decide) ?_
        exact V.sub (j60 _ (by rw [decide_eq_false q2]; rfl)) rfl ⟨rfl, rfl, rfl, trivial⟩
  refine V.subM (lp 0 (Nat.zero_le _)) ?_ rfl ⟨rfl, rfl, trivial⟩
  rw [wyR_0, ← tkR_0]; exact lo_init
set_option maxRecDepth 100000 in
set_option maxHeartbeats 4000000 in
theorem r_layAnswered {Y : Yt} {M : Mm} {more : Int32} {n : Nat} (hz : M.1 271 3 = nI n) (hn : n ≤ 24) : Fn Y yX7_layAnswered wsX7_layAnswered { frames := 1, cells := 0, slots := 0, locals := 22 } [.ref (Y.2.2.2 270), .int more] M none ((mrow M 276 (laR (M.1 276) more (rp (M.1 271)) n 0))) := by
  refine Fn.of (cc := cX7_layAnswered) (ins := iX7_layAnswered) (maxL := 5) (ret := none) (by decide) dX7_layAnswered [some (.ref (Y.2.2.2 270)), some (.int more), none, none, none] (Nat.le_of_ble_eq_true rfl) rfl rfl ?_
  intro X hX hQ
  refine v_aload_n hX 0 0 rfl rfl rfl ?_
  refine g_7_0 hX 1  tw_646 rfl ?_
  refine v_iconst hX (v := 3) 2 rfl (by decide) ?_
  refine v_iald hX (k := 271) (by decide) rfl (vp_in_nI (n := 3) (by decide) (by decide)) 3 rfl ?_
  rw [show M.1 271 (Int32.toNatClampNeg 3) = nI n from hz]
  refine v_iconst hX (v := 1) 4 rfl (by decide) ?_
  refine v_isub hX 5 rfl ?_
  refine v_istore_n hX 2 6 rfl rfl (Nat.le_of_ble_eq_true rfl) rfl ?_
  have lp : ∀ (m : Nat), m ≤ n → V Y X (mrow M 276 (laR (M.1 276) more (rp (M.1 271)) n m)) 9 [some (.ref (Y.2.2.2 270)), some (.int more), some (.int (nI m - 1)), none, none] [] := by
    refine downTo (fun m ih => ?_)
    intro hm
    rcases Nat.eq_zero_or_pos m with h0 | h0
    · skip
      subst h0
      refine v_iload_n hX 2 7 rfl rfl rfl ?_
      refine v_if_lt hX (tgt := 112) 8 rfl (by decide) (fun c10 => ?_) (fun c10 => absurd (by decide) c10)
      refine v_vret hX hQ rfl rfl ?_ 64 rfl
      rfl
    · skip
      obtain ⟨m, rfl⟩ : ∃ m2, m = m2 + 1 := ⟨m - 1, by omega⟩
      rw [nI_pred]
      have hLm : laR (M.1 276) more (rp (M.1 271)) n (m + 1) m = M.1 276 m := by unfold laR; rw [if_neg (by omega)]
      refine v_iload_n hX 2 7 rfl rfl rfl ?_
      refine v_if_lt hX (tgt := 112) 8 rfl (by decide) (fun c10 => absurd c10 (nI_nlt (Nat.zero_le _) (by omega))) (fun c10 => ?_)
      have j23 : ∀ (v : Int32), v = b01 (nI m == more) → V Y X (mrow M 276 (laR (M.1 276) more (rp (M.1 271)) n (m + 1))) 23 [some (.ref (Y.2.2.2 270)), some (.int more), some (.int (nI m)), none, none] [.int v] := by
        intro v hv
        refine v_istore_n hX 3 15 rfl rfl (Nat.le_of_ble_eq_true rfl) rfl ?_
        refine v_iload_n hX 2 16 rfl rfl rfl ?_
        refine v_iconst hX (v := 1) 17 rfl (by decide) ?_
        refine v_iadd hX 18 rfl ?_
        rw [nI_1]
        refine v_istore hX 19 rfl (Nat.le_of_ble_eq_true rfl) rfl ?_
        have lq : ∀ (a : Nat), a ≤ n → m + 1 ≤ a → ∀ (u : Int32), u = b01 ((nI m == more) || anS (laS (M.1 276) more (rp (M.1 271)) n) (rp (M.1 271)) a (m + 1) m) → V Y X (mrow M 276 (laR (M.1 276) more (rp (M.1 271)) n (m + 1))) 29 [some (.ref (Y.2.2.2 270)), some (.int more), some (.int (nI m)), some (.int u), some (.int (nI a))] [] := by
          refine upTo n (fun a ha ihq => ?_)
          intro hma u hu
          refine v_iload hX 20 rfl rfl ?_
          refine v_aload_n hX 0 21 rfl rfl rfl ?_
          refine g_7_0 hX 22  tw_646 rfl ?_
          refine v_iconst hX (v := 3) 23 rfl (by decide) ?_
          refine v_iald hX (k := 271) (by decide) rfl (vp_in_nI (n := 3) (by decide) (by decide)) 24 rfl ?_
          rw [mrow_n (by decide), show M.1 271 (Int32.toNatClampNeg 3) = nI n from hz]
          refine v_icmp_ge hX (tgt := 77) 25 rfl (by decide) (fun c37 => ?_) (fun c37 => ?_)
          · skip
            have ha2 : a = n := by have := of_le c37 (by omega) (by omega); omega
            rw [ha2] at hu
            have j105 : ∀ (x : Int32), x = (if M.1 276 m = 0 ∧ laS (M.1 276) more (rp (M.1 271)) n m = false then 5 else M.1 276 m) → V Y X (mrow M 276 (laR (M.1 276) more (rp (M.1 271)) n (m + 1))) 105 [some (.ref (Y.2.2.2 270)), some (.int more), some (.int (nI m)), some (.int u), some (.int (nI a))] [.int x, .int (nI m), .ref (Y.2.2.2 276)] := by
              intro x hx
              refine v_iast hX (k := 276) (by decide) rfl rfl (vp_in_nI (by omega) (by decide)) rfl 61 rfl ?_
              refine V.mem (M2 := mrow M 276 (laR (M.1 276) more (rp (M.1 271)) n m)) (by rw [nI_clamp (by omega), mset_mrow, hx, laR_s (by omega)]) ?_
              refine v_iinc hX 62 rfl rfl (nI_dm m) (Nat.le_of_ble_eq_true rfl) rfl ?_
              refine v_goto hX (tgt := 9) 63 rfl (by decide) ?_
              refine V.subM (ih m (by omega) (by omega)) ?_ rfl ⟨rfl, rfl, rfl, trivial⟩
              rfl
            refine v_aload_n hX 0 45 rfl rfl rfl ?_
            refine g_7_7 hX 46  tw_653 rfl ?_
            refine v_iload_n hX 2 47 rfl rfl rfl ?_
            refine v_aload_n hX 0 48 rfl rfl rfl ?_
            refine g_7_7 hX 49  tw_653 rfl ?_
            refine v_iload_n hX 2 50 rfl rfl rfl ?_
            refine v_iald hX (k := 276) (by decide) rfl (vp_in_nI (by omega) (by decide)) 51 rfl ?_
            rw [nI_clamp (by omega), mrow_s, hLm]
            refine v_if_ne hX (tgt := 99) 52 rfl (by decide) (fun c88 => ?_) (fun c88 => ?_)
            · skip
              have q4 : ¬ M.1 276 m = 0 := c88
              refine v_aload_n hX 0 57 rfl rfl rfl ?_
              refine g_7_7 hX 58  tw_653 rfl ?_
              refine v_iload_n hX 2 59 rfl rfl rfl ?_
              refine v_iald hX (k := 276) (by decide) rfl (vp_in_nI (by omega) (by decide)) 60 rfl ?_
              rw [nI_clamp (by omega), mrow_s, hLm]
              exact V.sub (j105 _ (by first | (rw [if_neg (fun h => q4 h.1)]; done) | (rw [if_neg (fun h => by rw [hsm] at h; cases h.2)]))) rfl ⟨rfl, rfl, rfl, rfl, rfl, trivial⟩
            · skip
              have q4 : M.1 276 m = 0 := c88
              have hsm : laS (M.1 276) more (rp (M.1 271)) n m = !((nI m == more) || anS (laS (M.1 276) more (rp (M.1 271)) n) (rp (M.1 271)) n (m + 1) m) := by unfold laS; rw [sd_eq (show m < n by omega)]; simp [q4]
              refine v_iload_n hX 3 53 rfl rfl rfl ?_
              refine v_if_eq hX (tgt := 99) 54 rfl (by decide) (fun c92 => ?_) (fun c92 => ?_)
              · skip
                have q5 := b01_f (hu ▸ c92)
                rw [q5] at hsm
                refine v_aload_n hX 0 57 rfl rfl rfl ?_
                refine g_7_7 hX 58  tw_653 rfl ?_
                refine v_iload_n hX 2 59 rfl rfl rfl ?_
                refine v_iald hX (k := 276) (by decide) rfl (vp_in_nI (by omega) (by decide)) 60 rfl ?_
                rw [nI_clamp (by omega), mrow_s, hLm]
                exact V.sub (j105 _ (by first | (rw [if_neg (fun h => q4 h.1)]; done) | (rw [if_neg (fun h => by rw [hsm] at h; cases h.2)]))) rfl ⟨rfl, rfl, rfl, rfl, rfl, trivial⟩
              · skip
                have q5 := b01_t (hu ▸ c92)
                rw [q5] at hsm
                refine v_iconst hX (v := 5) 55 rfl (by decide) ?_
                refine v_goto hX (tgt := 105) 56 rfl (by decide) ?_
                exact V.sub (j105 _ (by rw [if_pos ⟨q4, hsm⟩])) rfl ⟨rfl, rfl, rfl, rfl, rfl, trivial⟩
          · skip
            have ha2 : a < n := of_nle c37 (by omega) (by omega)
            have hst := anS_top (S := laS (M.1 276) more (rp (M.1 271)) n) (P := rp (M.1 271)) (i := m) hma
            have j70 : ∀ (x : Int32), x = b01 ((nI m == more) || anS (laS (M.1 276) more (rp (M.1 271)) n) (rp (M.1 271)) (a + 1) (m + 1) m) → V Y X (mrow M 276 (laR (M.1 276) more (rp (M.1 271)) n (m + 1))) 70 [some (.ref (Y.2.2.2 270)), some (.int more), some (.int (nI m)), some (.int u), some (.int (nI a))] [.int x] := by
              intro x hx
              refine v_istore_n hX 3 42 rfl rfl (Nat.le_of_ble_eq_true rfl) rfl ?_
              refine v_iinc hX 43 rfl rfl (nI_inc a) (Nat.le_of_ble_eq_true rfl) rfl ?_
              refine v_goto hX (tgt := 29) 44 rfl (by decide) ?_
              exact V.sub (ihq ha2 (by omega) x hx) rfl ⟨rfl, rfl, rfl, rfl, rfl, trivial⟩
            refine v_iload_n hX 3 26 rfl rfl rfl ?_
            refine v_if_ne hX (tgt := 65) 27 rfl (by decide) (fun c41 => ?_) (fun c41 => ?_)
            · skip
              have q1 := b01_t (hu ▸ c41)
              refine v_iconst hX (v := 1) 39 rfl (by decide) ?_
              refine v_goto hX (tgt := 70) 40 rfl (by decide) ?_
              exact V.sub (j70 _ (by rw [hst]; first | (rw [← Bool.or_assoc, q1]; rfl) | (rw [q2, q3]; simp [b01]))) rfl ⟨rfl, rfl, rfl, rfl, rfl, trivial⟩
            · skip
              have q1 := b01_f (hu ▸ c41)
              refine v_aload_n hX 0 28 rfl rfl rfl ?_
              refine v_iload hX 29 rfl rfl ?_
              refine v_iconst hX (v := 4) 30 rfl (by decide) ?_
              refine v_callV hX 2 (by decide) rfl rfl (r_its (w := 4) (show a < 24 by omega) (by decide)) tw_757 tw_754 tw_756 tw_60 tw_99 (by decide +kernel) ⟨⟨rfl, rfl⟩, Nat.le_of_ble_eq_true rfl, Nat.le_of_ble_eq_true rfl⟩ rfl (Nat.le_of_ble_eq_true rfl) rfl rfl 31 rfl ?_
              rw [mrow_n (by decide)]
              refine v_iload_n hX 2 32 rfl rfl rfl ?_
              refine v_icmp_ne hX (tgt := 69) 33 rfl (by decide) (fun c52 => ?_) (fun c52 => ?_)
              · skip
                have q2 : (rp (M.1 271) a 3 == nI m) = false := by rw [beq_eq_false_iff_ne]; exact c52
                refine v_iconst hX (v := 0) 41 rfl (by decide) ?_
                exact V.sub (j70 _ (by rw [hst]; first | (rw [q2, Bool.false_and, ← Bool.or_assoc, q1]; rfl) | (rw [q3, Bool.and_false, ← Bool.or_assoc, q1]; rfl))) rfl ⟨rfl, rfl, rfl, rfl, rfl, trivial⟩
              · skip
                have q2 : (rp (M.1 271) a 3 == nI m) = true := by rw [beq_iff_eq]; exact c52
                refine v_aload_n hX 0 34 rfl rfl rfl ?_
                refine g_7_7 hX 35  tw_653 rfl ?_
                refine v_iload hX 36 rfl rfl ?_
                refine v_iald hX (k := 276) (by decide) rfl (vp_in_nI (by omega) (by decide)) 37 rfl ?_
                rw [nI_clamp (by omega), mrow_s]
                refine v_if_ne hX (tgt := 69) 38 rfl (by decide) (fun c62 => ?_) (fun c62 => ?_)
                · skip
                  have q3 : laS (M.1 276) more (rp (M.1 271)) n a = false := by cases g : laS (M.1 276) more (rp (M.1 271)) n a; rfl; exact absurd ((laR_0 (show m + 1 ≤ a from hma) ha2).mpr g) c62
                  refine v_iconst hX (v := 0) 41 rfl (by decide) ?_
                  exact V.sub (j70 _ (by rw [hst]; first | (rw [q2, Bool.false_and, ← Bool.or_assoc, q1]; rfl) | (rw [q3, Bool.and_false, ← Bool.or_assoc, q1]; rfl))) rfl ⟨rfl, rfl, rfl, rfl, rfl, trivial⟩
                · skip
                  have q3 : laS (M.1 276) more (rp (M.1 271)) n a = true := (laR_0 (show m + 1 ≤ a from hma) ha2).mp c62
                  refine v_iconst hX (v := 1) 39 rfl (by decide) ?_
                  refine v_goto hX (tgt := 70) 40 rfl (by decide) ?_
                  exact V.sub (j70 _ (by rw [hst]; first | (rw [← Bool.or_assoc, q1]; rfl) | (rw [q2, q3]; simp [b01]))) rfl ⟨rfl, rfl, rfl, rfl, rfl, trivial⟩
        exact V.sub (lq (m + 1) (by omega) (Nat.le_refl _) _ (by rw [hv, anS_end, Bool.or_false])) rfl ⟨rfl, rfl, rfl, rfl, rfl, trivial⟩
      refine v_iload_n hX 2 9 rfl rfl rfl ?_
      refine v_iload_n hX 1 10 rfl rfl rfl ?_
      refine v_icmp_ne hX (tgt := 22) 11 rfl (by decide) (fun c15 => ?_) (fun c15 => ?_)
      · skip
        have q0 : (nI m == more) = false := by rw [beq_eq_false_iff_ne]; exact c15
        refine v_iconst hX (v := 0) 14 rfl (by decide) ?_
        exact V.sub (j23 _ (by rw [q0]; rfl)) rfl ⟨rfl, rfl, rfl, trivial⟩
      · skip
        have q0 : (nI m == more) = true := by rw [beq_iff_eq]; exact c15
        refine v_iconst hX (v := 1) 12 rfl (by decide) ?_
        refine v_goto hX (tgt := 23) 13 rfl (by decide) ?_
        exact V.sub (j23 _ (by rw [q0]; rfl)) rfl ⟨rfl, rfl, rfl, trivial⟩
  refine V.subM (lp n (Nat.le_refl n)) ?_ rfl ⟨rfl, rfl, rfl, trivial⟩
  rw [laR_n, mrow_self]
set_option maxRecDepth 100000 in
set_option maxHeartbeats 4000000 in
theorem r_look {Y : Yt} {M : Mm} {n : Nat} (hz : M.1 271 3 = nI n) (hn : n ≤ 24) (hw : WF (rp (M.1 271)) n) : Fn Y yX7_look wsX7_look { frames := 4, cells := 0, slots := 0, locals := 87 } [.ref (Y.2.2.2 270)] M none ((lkM M n)) := by
  refine Fn.of (cc := cX7_look) (ins := iX7_look) (maxL := 1) (ret := none) (by decide) dX7_look [some (.ref (Y.2.2.2 270))] (Nat.le_of_ble_eq_true rfl) rfl rfl ?_
  intro X hX hQ
  refine v_aload_n hX 0 0 rfl rfl rfl ?_
  refine v_callV hX 0 (by decide) rfl rfl (r_layOut hz hn hw) tw_773 tw_770 tw_772 tw_63 tw_99 (by decide +kernel) ⟨⟨rfl, rfl⟩, Nat.le_of_ble_eq_true rfl, Nat.le_of_ble_eq_true rfl⟩ rfl (Nat.le_of_ble_eq_true rfl) rfl rfl 1 rfl ?_
  refine v_aload_n hX 0 2 rfl rfl rfl ?_
  refine v_bipush hX (v := (-6)) 3 rfl (by decide) ?_
  refine v_callV hX 1 (by decide) rfl rfl (r_layAnswered (show (wt M (wyR M n) (tkR M n)).1 271 3 = nI n by rw [wt_z]; exact hz) hn) tw_789 tw_786 tw_788 tw_67 tw_99 (by decide +kernel) ⟨⟨rfl, rfl⟩, Nat.le_of_ble_eq_true rfl, Nat.le_of_ble_eq_true rfl⟩ rfl (Nat.le_of_ble_eq_true rfl) rfl rfl 4 rfl ?_
  refine v_vret hX hQ rfl rfl ?_ 5 rfl
  unfold lkM lkW; rw [wt_r6, wt_z]; exact lk_norm
end
